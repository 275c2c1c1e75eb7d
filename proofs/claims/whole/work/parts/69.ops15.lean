/-! PURE: calls: back, taken -/
theorem op_back {S : SK} {m : Nat → Nat → Int32} (hR : RR S m) : RES (f_X8_back (mk S m) (some 0)) (fun S1 m1 => f_X9_back (mk S1 m1) (some 50)) := by
  have hR0 := hR
  have hS := hR.ok
  have hk8 : (sh S 0).1 = 8 := by rw [sk0 hS]
  have hk1 : (sh S 3).1 = 1 := by rw [sk3 hS]
  have hk : (sh S 50).1 = 9 := by rw [sk50 hS]
  obtain ⟨d, P, N, l, T, wh, kd, td, mo, prs, q, h⟩ := hR
  obtain ⟨hl, ⟨g1, g2, g3⟩, hO⟩ := h
  have r03 : gR (mk S m) 8 (some 0) 3 = some (some 6) := by rw [gR_k hk8, rk0_3 hS]
  obtain ⟨hTx, hI, hSh, hTp, hWd, hAd⟩ := hO
  rcases hI with ⟨i1, i2⟩ | ⟨i1, i2, d2, P2, N2, wh2, l2, q2, hC6, hl2, hN2, v0, v1, v2, v3, v4, v5, v6, v7, v8⟩
  · refine op_same (a := -3) hR0 ?_ ?_
    · unfold f_X8_back
      rw [gI_k hk8, i1, Option.bind_some, if_pos (show nI 0 = (0 : Int32) from rfl)]
    · show f_X9_back (mk S m) (some 50) = _
      unfold f_X9_back
      rw [gI_k hk, i2, Option.bind_some, if_pos (show nI 0 = (0 : Int32) from rfl)]
  · obtain ⟨m1, e1, hC1, ag1⟩ := C_become hC6 (g := 3) (Or.inl rfl) (by decide)
    have c := hC1.2.2.1
    have z1 : ZOK S (fun b => b = 3 ∨ b = 3 + 1) := ZOK.of (fun b hb => Or.inr (Or.inl (by omega)))
    have hM1 := g2.ofC ag1 (fun b hb => by omega)
    have g := hM1.2.2.2.1
    have e58 : m1 58 = m 58 := ag1 58 (by omega)
    have e59 : m1 59 = m 59 := ag1 59 (by omega)
    obtain ⟨m2, hm2⟩ : ∃ m2, m2 = w2 (w2 (w2 (w2 (w2 (w2 (w2 (w2 m1 50 0 (nI d2)) 50 1 (nI q2.1)) 50 2 (nI q2.2.1)) 50 3 (nI P2)) 50 4 (nI q2.2.2.1)) 50 5 (nI N2)) 50 10 (nI q2.2.2.2)) 50 16 (nI l2) := ⟨_, rfl⟩
    have J2 : ∀ j, j = 12 ∨ j = 15 ∨ j = 17 ∨ j = 37 → m2 50 j = m1 50 j := by
      intro j hj
      rw [hm2]
      rcases hj with e | e | e | e <;> subst e <;> simp [w2_ap]
    have ag2 : Ag (fun b => b = 50) m1 m2 := by
      rw [hm2]
      exact (((((((Ag.w2 (Z := fun b => b = 50) Ag.rf rfl).w2 rfl).w2 rfl).w2 rfl).w2 rfl).w2 rfl).w2 rfl).w2 rfl
    have h5 : m2 50 5 = nI N2 := by rw [hm2]; simp [w2_ap]
    obtain ⟨m3, e3, j1, _, ag3⟩ := M_backL hS (N := N2) 7 FU 0 m2 (by omega) (by unfold FU; omega) h5
    have hT := hTx
    obtain ⟨t1, t2, t3, t4, t5⟩ := hTx
    have agm : Ag (fun b => b = 50 ∨ b = 51) m1 m3 := fun b hb => by rw [ag3 b (by omega), ag2 b (by omega)]
    have zm : ZOK S (fun b => b = 50 ∨ b = 51) := ZOK.of (fun b hb => Or.inr (Or.inr (by omega)))
    have agAll : Ag (fun b => b = 3 ∨ b = 4 ∨ b = 50 ∨ b = 51) m m3 := fun b hb => by
      rw [agm b (by omega), ag1 b (by omega)]
    have zAll : ZOK S (fun b => b = 3 ∨ b = 4 ∨ b = 50 ∨ b = 51) := ZOK.of (fun b hb => by
      by_cases z : b < 46
      · exact Or.inr (Or.inl z)
      · exact Or.inr (Or.inr (by omega)))
    have f50 : m3 50 = m2 50 := ag3 50 (by omega)
    have n58 : ∀ (f : Nat → Nat → Int32) (j k : Nat) (v : Int32), w2 f 50 j v 58 k = f 58 k := fun f j k v => by rw [w2_ap, if_neg (by simp)]
    obtain ⟨fr, hfr⟩ := (t5 l2 hl2).2
    have hN7 : N2 ≤ 7 := hC6.1.2.1.2.2.1
    have hM3 : MV S m3 (mkE d2 P2 N2 wh2 kd td mo (prs l2)) l2 q2 := by
      refine ⟨hS, hC6.1.2.1, by omega, ⟨?_, ?_, ?_, ?_, ?_, ?_, ?_, ?_, ?_, fr, hfr.ag (agAll 56 (by omega)) (agAll 57 (by omega))⟩, hC6.2.2.2, Or.inl ?_⟩
      · rw [f50, hm2]; simp [w2_ap]; rfl
      · rw [f50, hm2]; simp [w2_ap]
      · rw [f50, hm2]; simp [w2_ap]
      · rw [f50, hm2]; simp [w2_ap]; rfl
      · rw [f50, hm2]; simp [w2_ap]
      · rw [f50]; exact h5
      · rw [f50, hm2]; simp [w2_ap]
      · rw [f50, hm2]; simp [w2_ap]
      · intro k hk
        have hk' : k < N2 := hk
        obtain ⟨_, a2, a3, a4⟩ := g2.2.2.2.1.2.2.2.2.2.2.2.2.1 k (show k < N by omega)
        refine ⟨?_, by rw [agAll 52 (by omega)]; exact a2, by rw [agAll 53 (by omega)]; exact a3, by rw [agAll 54 (by omega)]; exact a4⟩
        rw [j1 k (Nat.zero_le _) (by omega), ag2 59 (by omega), e59]
        exact v8 k hk'
      · rw [f50, J2 37 (by decide), ag1 50 (by omega)]
        exact g3
    refine op_mk (a := nI N2) (S1 := S) (m1 := m1) (S2 := S) (m2 := m3) ?_ ?_ ⟨d2, P2, N2, l2, T, wh2, kd, td, mo, prs, q2, hl2, ⟨hC1.ag agm zm (by omega) (by omega), hM3, ?_⟩, ?_, ?_, hSh.e (fun b hb => agAll b (by omega)), hTp.e (by rw [agAll 33 (by omega)]) (by rw [f50, J2 12 (by decide), ag1 50 (by omega)]) (agAll 34 (by omega)) (agAll 55 (by omega)), hWd.e (agAll 64 (by omega)) (agAll 36 (by omega)), ⟨fun c A hc => hAd.1 c A (by omega), hAd.2⟩⟩
    · unfold f_X8_back
      rw [gI_k hk8, i1, Option.bind_some, if_neg (show ¬ nI 1 = (0 : Int32) by decide), r0_2 hS, Option.bind_some, r03, Option.bind_some, vc_k hk1, e1, Option.bind_some, r0_2 hS, Option.bind_some, gI_k hk1, show m1 3 9 = nI N2 from c.2.2.2.2.2.1, Option.bind_some]
    · show f_X9_back (mk S m1) (some 50) = _
      have g58 : ∀ (f : Nat → Nat → Int32), gR (mk S f) 9 (some 50) 18 = some (some 58) := fun f => by rw [gR_k hk, rk50_18 hS]
      have s58 : ∀ (f : Nat → Nat → Int32) (j : Nat), j < 8 → rI (mk S f) (some 58) (nI j) = some (f 58 j) := fun f j hj => rI_n (sk58 hS) hj (by decide)
      unfold f_X9_back
      rw [gI_k hk, show m1 50 17 = nI 1 from by rw [ag1 50 (by omega)]; exact i2, Option.bind_some, if_neg (show ¬ nI 1 = (0 : Int32) by decide), g58, Option.bind_some, show rI (mk S m1) (some 58) (0 : Int32) = some (m1 58 0) from s58 m1 0 (by decide), Option.bind_some, e58, v0, pI_k hk, Option.bind_some]
      rw [g58, Option.bind_some, show ∀ f, rI (mk S f) (some 58) (1 : Int32) = some (f 58 1) from fun f => s58 f 1 (by decide), Option.bind_some, n58, e58, v1, pI_k hk, Option.bind_some]
      rw [g58, Option.bind_some, show ∀ f, rI (mk S f) (some 58) (2 : Int32) = some (f 58 2) from fun f => s58 f 2 (by decide), Option.bind_some, n58, n58, e58, v2, pI_k hk, Option.bind_some]
      rw [g58, Option.bind_some, show ∀ f, rI (mk S f) (some 58) (3 : Int32) = some (f 58 3) from fun f => s58 f 3 (by decide), Option.bind_some, n58, n58, n58, e58, v3, pI_k hk, Option.bind_some]
      rw [g58, Option.bind_some, show ∀ f, rI (mk S f) (some 58) (4 : Int32) = some (f 58 4) from fun f => s58 f 4 (by decide), Option.bind_some, n58, n58, n58, n58, e58, v4, pI_k hk, Option.bind_some]
      rw [g58, Option.bind_some, show ∀ f, rI (mk S f) (some 58) (5 : Int32) = some (f 58 5) from fun f => s58 f 5 (by decide), Option.bind_some, n58, n58, n58, n58, n58, e58, v5, pI_k hk, Option.bind_some]
      rw [g58, Option.bind_some, show ∀ f, rI (mk S f) (some 58) (6 : Int32) = some (f 58 6) from fun f => s58 f 6 (by decide), Option.bind_some, n58, n58, n58, n58, n58, n58, e58, v6, pI_k hk, Option.bind_some]
      rw [g58, Option.bind_some, show ∀ f, rI (mk S f) (some 58) (7 : Int32) = some (f 58 7) from fun f => s58 f 7 (by decide), Option.bind_some, n58, n58, n58, n58, n58, n58, n58, e58, v7, pI_k hk, Option.bind_some, ← hm2]
      exact e3
    · rw [f50, J2 37 (by decide), ag1 50 (by omega)]
      exact g3
    · exact hT.ag (L := lg S) agAll zAll (by rw [agAll 0 (by omega)]) (by rw [f50, J2 15 (by decide), ag1 50 (by omega)]) (agAll 56 (by omega)) (agAll 57 (by omega))
    · refine Or.inr ⟨by rw [agAll 0 (by omega)]; exact i1, by rw [f50, J2 17 (by decide), ag1 50 (by omega)]; exact i2, d2, P2, N2, wh2, l2, q2, hC6.ag agAll zAll (by omega) (by omega), hl2, Nat.le_refl _, ?_⟩
      rw [agAll 58 (by omega), agAll 59 (by omega)]
      exact ⟨v0, v1, v2, v3, v4, v5, v6, v7, v8⟩
def isB (k a : Nat) : Bool := decide (a = 0) || decide (k = a) || (decide (a = 1) && decide (k = 4)) || (decide (a = 2) && decide (k = 3))
theorem X0_isA {S : SK} {m : Nat → Nat → Int32} {A k a : Nat} (hA : (sh S A).1 = 0) (h0 : m A 0 = nI k) (hk : k ≤ 5) (ha : a ≤ 6) : f_X0_isA (mk S m) (some A) (nI a) = some (nI (if isB k a = true then 1 else 0), mk S m) := by
  unfold f_X0_isA
  simp only [gI_k hA, h0, Option.bind_some]
  have : ∀ k, k ≤ 5 → ∀ a, a ≤ 6 → ∀ h : XM, (if nI a = (0 : Int32) then (rz h ((1 : Int32))) else (if nI a = (1 : Int32) then (if nI k = ((1 : Int32)) then (f_X0_isA_46 h) else (if nI k = ((4 : Int32)) then (f_X0_isA_46 h) else (f_X0_isA_51 h ((0 : Int32))))) else (if nI a = (2 : Int32) then (if nI k = ((2 : Int32)) then (f_X0_isA_68 h) else (if nI k = ((3 : Int32)) then (f_X0_isA_68 h) else (f_X0_isA_73 h ((0 : Int32))))) else (if nI k = nI a then (f_X0_isA_87 h ((1 : Int32))) else (f_X0_isA_87 h ((0 : Int32))))))) = some (nI (if isB k a = true then 1 else 0), h) := by
    intro k hk a ha h
    rcases (show k = 0 ∨ k = 1 ∨ k = 2 ∨ k = 3 ∨ k = 4 ∨ k = 5 by omega) with e | e | e | e | e | e <;> subst e <;> rcases (show a = 0 ∨ a = 1 ∨ a = 2 ∨ a = 3 ∨ a = 4 ∨ a = 5 ∨ a = 6 by omega) with e | e | e | e | e | e | e <;> subst e <;> rfl
  exact this k hk a ha (mk S m)
theorem X9_isUnder {h : XM} {k a : Nat} (hk : k ≤ 5) (ha : a ≤ 6) : f_X9_isUnder h (nI k) (nI a) = some (nI (if isB k a = true then 1 else 0), h) := by
  rcases (show k = 0 ∨ k = 1 ∨ k = 2 ∨ k = 3 ∨ k = 4 ∨ k = 5 by omega) with e | e | e | e | e | e <;> subst e <;> rcases (show a = 0 ∨ a = 1 ∨ a = 2 ∨ a = 3 ∨ a = 4 ∨ a = 5 ∨ a = 6 by omega) with e | e | e | e | e | e | e <;> subst e <;> rfl
theorem isB6 {k : Nat} (hk : k ≤ 5) : isB k 6 = false := by
  unfold isB
  simp
  omega
theorem op_taken {S : SK} {m : Nat → Nat → Int32} (hR : RR S m) (x w : Int32) : RES (f_X8_taken (mk S m) (some 0) x w) (fun S1 m1 => f_X9_taken (mk S1 m1) (some 50) x w) := by
  have hR0 := hR
  have hS := hR.ok
  have hk8 : (sh S 0).1 = 8 := by rw [sk0 hS]
  have hk1 : (sh S 3).1 = 1 := by rw [sk3 hS]
  have hk : (sh S 50).1 = 9 := by rw [sk50 hS]
  obtain ⟨d, P, N, l, T, wh, kd, td, mo, prs, q, h⟩ := hR
  obtain ⟨hl, ⟨g1, g2, g3⟩, hO⟩ := h
  have c := g1.2.2.1
  have g := g2.2.2.2.1
  have hE := g1.1.2.1
  have hq := g1.2.2.2
  have hN : N ≤ 7 := hE.2.2.1
  have hP : P ≤ 4 := hE.2.1
  have z2 := p128 hE.2.2.1 hq.2.2.2
  have zi := p16 hE.2.1 hq.2.2.1
  have r02 : gR (mk S m) 8 (some 0) 2 = some (some 3) := r0_2 hS
  have l11 : ∀ k, k ≤ 10 → nI k < (11 : Int32) := fun k hk => (nI_ltI (b := 11) (by omega) (by omega)).2 (by omega)
  rcases i_rng w (B := 6) (by decide) with ⟨a, ha, rfl⟩ | hbad
  · rcases i_rng x (B := 10) (by decide) with ⟨i, hi, rfl⟩ | hbad
    · have hx0 : f_X8_taken (mk S m) (some 0) (nI i) (nI a) = if nI i < ((4 : Int32)) then ((vc (mk S m) 1 (some 3) (f_X1_isOne (mk S m) (some 3) (nI i))).bind fun q2 => if q2.1 = 0 then (f_X8_taken_53 q2.2) else ((gR q2.2 8 (some 0) 2).bind fun v3 => (vc q2.2 1 v3 (f_X1_isInside q2.2 v3 (nI i))).bind fun q4 => if q4.1 = 0 then (f_X8_taken_53 q4.2) else (if nI a = ((6 : Int32)) then ((gR q4.2 8 (some 0) 2).bind fun v5 => (vc q4.2 1 v5 (f_X1_leftOf q4.2 v5 (nI i))).bind fun q6 => (f_J6_bitCount q6.2 q6.1).bind fun q7 => f_X8_taken_78 q7.2 q7.1) else (f_X8_taken_78 q4.2 ((-13 : Int32)))))) else ((vc (mk S m) 1 (some 3) (f_X1_coinAt (mk S m) (some 3) (nI i - ((4 : Int32))))).bind fun q10 => if q10.1 = none then (f_X8_taken_109 q10.2) else ((gR q10.2 8 (some 0) 2).bind fun v11 => (vc q10.2 1 v11 (f_X1_isSpent q10.2 v11 (nI i - ((4 : Int32))))).bind fun q12 => if q12.1 = 0 then ((vc q12.2 0 q10.1 (f_X0_isA q12.2 q10.1 (nI a))).bind fun q13 => if q13.1 = 0 then (f_X8_taken_127 q13.2 ((-13 : Int32))) else (f_X8_taken_127 q13.2 (nI i - ((4 : Int32))))) else (f_X8_taken_109 q12.2))) := by
        unfold f_X8_taken
        rw [ifr_y (b := 6) (B := 6) rfl ha (by decide), if_neg (nI_pos (by omega)), if_pos (l11 i hi), r02, Option.bind_some, bnd_eq, Option.bind_some]
      have hy0 : f_X9_taken (mk S m) (some 50) (nI i) (nI a) = if nI i < ((4 : Int32)) then ((gI (mk S m) 9 (some 50) 3).bind fun v7 => if nI i < v7 then ((vc (mk S m) 9 (some 50) (f_X9_isInside (mk S m) (some 50) (nI i))).bind fun q8 => if q8.1 = 0 then (f_X9_taken_51 q8.2 (some 50) (nI i) (nI a)) else (f_X9_taken_52 q8.2 (some 50) (nI i) (nI a) ((1 : Int32)))) else (f_X9_taken_51 (mk S m) (some 50) (nI i) (nI a))) else ((gI (mk S m) 9 (some 50) 5).bind fun v9 => if (nI i - ((4 : Int32))) < v9 then ((vc (mk S m) 9 (some 50) (f_X9_isLeft (mk S m) (some 50) (nI i - ((4 : Int32))))).bind fun q10 => if q10.1 = 0 then (f_X9_taken_103 q10.2 (some 50) (nI i) (nI a)) else (f_X9_taken_104 q10.2 (some 50) (nI i) (nI a) ((1 : Int32)))) else (f_X9_taken_103 (mk S m) (some 50) (nI i) (nI a))) := by
        unfold f_X9_taken
        rw [X9_in, ifr_y (b := 6) (B := 6) rfl ha (by decide), Option.bind_some, if_neg (show ¬ (1 : Int32) = 0 by decide), X9_in, ifr_y (b := 10) (B := 10) rfl hi (by decide), Option.bind_some, if_neg (show ¬ (1 : Int32) = 0 by decide)]
      by_cases hi4 : i < 4
      · have hC1 := C_isOne g1 (nI i)
        by_cases hiP : i < P
        · have x1 := one_y (show i < eP (mkE d P N wh kd td mo (prs l)) from hiP) (show P < 2 ^ 31 by omega)
          have ei := X1_isInside (S := S) (m := m) (p := i) (sk3 hS) c.2.2.2.2.1 (by omega) (by omega)
          have em := X9_isInside (S := S) (m := m) (p := i) hS g.2.2.2.2.1 (by omega) (by omega)
          cases hb : q.2.2.1.testBit i
          · refine op_same (a := -11) hR0 ?_ ?_
            · rw [hx0, if_pos (lt4 hi4), vc_k hk1, hC1, x1, Option.bind_some, if_neg (show ¬ (1 : Int32) = 0 by decide)]
              rw [r02, Option.bind_some, vc_k hk1, ei, Option.bind_some, hb, if_pos (show nI (if false = true then 1 else 0) = (0 : Int32) from rfl)]
              rfl
            · show f_X9_taken (mk S m) (some 50) (nI i) (nI a) = _
              rw [hy0, if_pos (lt4 hi4), gI_k hk, show m 50 3 = nI P from g.2.2.2.1, Option.bind_some, if_pos (by rw [nI_ltI (by omega) (by omega)]; exact hiP), vc_k hk, em, Option.bind_some, hb, if_pos (show nI (if false = true then 1 else 0) = (0 : Int32) from rfl)]
              rfl
          · have many := fun (F : Int32 × XM → Option (Int32 × XM)) => C_many (S := S) (m := m) (g := 3) (E := mkE d P N wh kd td mo (prs l)) (x := q.2.2.2) (p := i) (GS_of hS g1.2.1) hN (g1.own i hi4).1 c.2.2.2.2.2.2.1 hi4 F
            have ml := M_leftOf g2 (p := i) hi4
            by_cases ha6 : a = 6
            · subst ha6
              refine op_same (a := nI (lfS wh q.2.2.2 i N)) hR0 ?_ ?_
              · rw [hx0, if_pos (lt4 hi4), vc_k hk1, hC1, x1, Option.bind_some, if_neg (show ¬ (1 : Int32) = 0 by decide)]
                rw [r02, Option.bind_some, vc_k hk1, ei, Option.bind_some, hb, if_neg (show ¬ nI (if true = true then 1 else 0) = (0 : Int32) by decide), if_pos (show nI 6 = (6 : Int32) from rfl)]
                rw [r02, Option.bind_some, vc_k hk1]
                show (f_X1_leftOf (mk S m) (some 3) (nI i)).bind _ = _
                rw [many]
                rfl
              · show f_X9_taken (mk S m) (some 50) (nI i) (nI 6) = _
                rw [hy0, if_pos (lt4 hi4), gI_k hk, show m 50 3 = nI P from g.2.2.2.1, Option.bind_some, if_pos (by rw [nI_ltI (by omega) (by omega)]; exact hiP), vc_k hk, em, Option.bind_some, hb, if_neg (show ¬ nI (if true = true then 1 else 0) = (0 : Int32) by decide)]
                unfold f_X9_taken_52
                rw [if_neg (show ¬ (1 : Int32) = 0 by decide), if_pos (show nI 6 = (6 : Int32) from rfl), vc_k hk, ml, Option.bind_some]
                rfl
            · have ha6' : ¬ nI a = (6 : Int32) := fun z => ha6 ((nI_eq (b := 6) (by omega) (by omega)).1 z)
              refine op_same (a := -13) hR0 ?_ ?_
              · rw [hx0, if_pos (lt4 hi4), vc_k hk1, hC1, x1, Option.bind_some, if_neg (show ¬ (1 : Int32) = 0 by decide)]
                rw [r02, Option.bind_some, vc_k hk1, ei, Option.bind_some, hb, if_neg (show ¬ nI (if true = true then 1 else 0) = (0 : Int32) by decide), if_neg ha6']
                rfl
              · show f_X9_taken (mk S m) (some 50) (nI i) (nI a) = _
                rw [hy0, if_pos (lt4 hi4), gI_k hk, show m 50 3 = nI P from g.2.2.2.1, Option.bind_some, if_pos (by rw [nI_ltI (by omega) (by omega)]; exact hiP), vc_k hk, em, Option.bind_some, hb, if_neg (show ¬ nI (if true = true then 1 else 0) = (0 : Int32) by decide)]
                unfold f_X9_taken_52
                rw [if_neg (show ¬ (1 : Int32) = 0 by decide), if_neg ha6']
                rfl
        · have x1 := one_n (x := nI i) (n := eP (mkE d P N wh kd td mo (prs l))) (Or.inr (fun z => hiP ((nI_ltI (by omega) (show P < 2 ^ 31 by omega)).1 z)))
          refine op_same (a := -11) hR0 ?_ ?_
          · rw [hx0, if_pos (lt4 hi4), vc_k hk1, hC1, x1, Option.bind_some, if_pos rfl]
            rfl
          · show f_X9_taken (mk S m) (some 50) (nI i) (nI a) = _
            rw [hy0, if_pos (lt4 hi4), gI_k hk, show m 50 3 = nI P from g.2.2.2.1, Option.bind_some, if_neg (by rw [nI_ltI (by omega) (by omega)]; exact hiP)]
            rfl
      · have n4 : ¬ nI i < (4 : Int32) := fun z => hi4 ((nI_ltI (b := 4) (by omega) (by omega)).1 z)
        have esub : nI i - (4 : Int32) = nI (i - 4) := pk_sub (b := 4) (by omega)
        rw [esub] at hx0 hy0
        by_cases hiN : i - 4 < N
        · obtain ⟨A, c1, c2, c3, c4, c5, c6⟩ := C_coinAt g1 (show i - 4 < eN (mkE d P N wh kd td mo (prs l)) from hiN)
          have hA : (sh S A).1 = 0 := by rw [c2]
          have hEk := hE.2.2.2 (i - 4) hiN
          have esp := X1_isSpent (S := S) (m := m) (g := 3) (p := i - 4) (sk3 hS) c.2.2.2.2.2.2.1 (by omega) (by omega)
          have ml := X9_isLeft (S := S) (m := m) (p := i - 4) hS g.2.2.2.2.2.2.1 (by omega) (by omega)
          have eA := X0_isA (S := S) (m := m) (a := a) hA c4 hEk.2.1 ha
          have b2 := (g.2.2.2.2.2.2.2.2.1 (i - 4) hiN).2.1
          cases hsp : q.2.2.2.testBit (i - 4)
          · refine op_same (a := if isB (kd (i - 4)) a = true then nI (i - 4) else -13) hR0 ?_ ?_
            · rw [hx0, if_neg n4, vc_k hk1, c1, Option.bind_some, if_neg (by simp)]
              rw [r02, Option.bind_some, vc_k hk1, esp, Option.bind_some, hsp, if_pos (show nI (if false = true then 1 else 0) = (0 : Int32) from rfl), vc_k hA]
              show (f_X0_isA (mk S m) (some A) (nI a)).bind _ = _
              rw [eA, Option.bind_some]
              show (if nI (if isB (kd (i - 4)) a = true then 1 else 0) = (0 : Int32) then f_X8_taken_127 (mk S m) (-13) else f_X8_taken_127 (mk S m) (nI (i - 4))) = _
              cases isB (kd (i - 4)) a <;> rfl
            · show f_X9_taken (mk S m) (some 50) (nI i) (nI a) = _
              rw [hy0, if_neg n4, gI_k hk, show m 50 5 = nI N from g.2.2.2.2.2.1, Option.bind_some, if_pos (by rw [nI_ltI (by omega) (by omega)]; exact hiN), vc_k hk, ml, Option.bind_some, hsp, if_neg (show ¬ nI (if false = true then 0 else 1) = (0 : Int32) by decide)]
              unfold f_X9_taken_104
              rw [if_neg (show ¬ (1 : Int32) = 0 by decide)]
              by_cases ha6 : a < 6
              · rw [if_pos (show nI a < (6 : Int32) from (nI_ltI (b := 6) (by omega) (by omega)).2 ha6), gR_k hk, rk50_7 hS, Option.bind_some, esub, rI_n (sk52 hS) (by omega) (by decide), Option.bind_some, b2]
                show (f_X9_isUnder (mk S m) (nI (kd (i - 4))) (nI a)).bind _ = _
                rw [X9_isUnder (k := kd (i - 4)) hEk.2.1 ha, Option.bind_some]
                show (if nI (if isB (kd (i - 4)) a = true then 1 else 0) = (0 : Int32) then f_X9_taken_141 (mk S m) else f_X9_taken_143 (mk S m) (nI (i - 4))) = _
                cases isB (kd (i - 4)) a <;> rfl
              · have : a = 6 := by omega
                subst this
                rw [if_neg (show ¬ nI 6 < (6 : Int32) by decide), isB6 (k := kd (i - 4)) hEk.2.1]
                rfl
          · refine op_same (a := -11) hR0 ?_ ?_
            · rw [hx0, if_neg n4, vc_k hk1, c1, Option.bind_some, if_neg (by simp)]
              rw [r02, Option.bind_some, vc_k hk1, esp, Option.bind_some, hsp, if_neg (show ¬ nI (if true = true then 1 else 0) = (0 : Int32) by decide)]
              rfl
            · show f_X9_taken (mk S m) (some 50) (nI i) (nI a) = _
              rw [hy0, if_neg n4, gI_k hk, show m 50 5 = nI N from g.2.2.2.2.2.1, Option.bind_some, if_pos (by rw [nI_ltI (by omega) (by omega)]; exact hiN), vc_k hk, ml, Option.bind_some, hsp, if_pos (show nI (if true = true then 0 else 1) = (0 : Int32) from rfl)]
              rfl
        · have hno : nI (i - 4) < 0 ∨ ¬ nI (i - 4) < nI (eN (mkE d P N wh kd td mo (prs l))) := Or.inr (fun z => hiN ((nI_ltI (by omega) (show N < 2 ^ 31 by omega)).1 z))
          refine op_same (a := -11) hR0 ?_ ?_
          · rw [hx0, if_neg n4, vc_k hk1, C_coinAt_no g1 hno, Option.bind_some, if_pos rfl]
            rfl
          · show f_X9_taken (mk S m) (some 50) (nI i) (nI a) = _
            rw [hy0, if_neg n4, gI_k hk, show m 50 5 = nI N from g.2.2.2.2.2.1, Option.bind_some, if_neg (by rw [nI_ltI (by omega) (by omega)]; exact hiN)]
            rfl
    · refine op_same (a := -12) hR0 ?_ ?_
      · unfold f_X8_taken
        rw [ifr_y (b := 6) (B := 6) rfl ha (by decide)]
        rcases hbad with z | ⟨z, z2⟩
        · rw [if_pos z]
          rfl
        · obtain ⟨k, hk2, rfl⟩ := i_of z
          rw [nI_ltI (by omega) hk2] at z2
          rw [if_neg z, if_neg (show ¬ nI k < (11 : Int32) from fun y => by have := (nI_ltI (b := 11) hk2 (by omega)).1 y; omega)]
          rfl
      · show f_X9_taken (mk S m) (some 50) x (nI a) = _
        unfold f_X9_taken
        rw [X9_in, ifr_y (b := 6) (B := 6) rfl ha (by decide), Option.bind_some, if_neg (show ¬ (1 : Int32) = 0 by decide), X9_in, ifr_n (b := 10) (B := 10) rfl hbad, Option.bind_some, if_pos rfl]
  · refine op_same (a := -2) hR0 ?_ ?_
    · unfold f_X8_taken
      rw [ifr_n (b := 6) (B := 6) rfl hbad]
      rfl
    · show f_X9_taken (mk S m) (some 50) x w = _
      unfold f_X9_taken
      rw [X9_in, ifr_n (b := 6) (B := 6) rfl hbad, Option.bind_some, if_pos rfl]
