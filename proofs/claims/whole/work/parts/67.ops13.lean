/-! PURE: calls: told, taken, sell -/
theorem op_told {S : SK} {m : Nat → Nat → Int32} (hR : RR S m) (x w : Int32) : RES (f_X8_told (mk S m) (some 0) x w) (fun S1 m1 => f_X9_told (mk S1 m1) (some 50) x w) := by
  have hR0 := hR
  have hS := hR.ok
  have hk8 : (sh S 0).1 = 8 := by rw [sk0 hS]
  have hk1 : (sh S 3).1 = 1 := by rw [sk3 hS]
  have hk : (sh S 50).1 = 9 := by rw [sk50 hS]
  obtain ⟨d, P, N, l, T, wh, kd, td, mo, prs, q, h⟩ := hR
  obtain ⟨hl, ⟨g1, g2, g3⟩, hO⟩ := h
  have c := g1.2.2.1
  have g := g2.2.2.2.1
  have hE := g1.1.2.1
  have hq := g1.2.2.2
  have hN : N ≤ 7 := hE.2.2.1
  have z2 := p128 hE.2.2.1 hq.2.2.2
  rcases i_in x (show N < 2 ^ 31 by omega) with ⟨k, hkN, rfl⟩ | hno
  · have x1 := one_y (show k < eN (mkE d P N wh kd td mo (prs l)) from hkN) (show N < 2 ^ 31 by omega)
    obtain ⟨A, c1, c2, c3, c4, c5, c6⟩ := C_coinAt g1 (show k < eN (mkE d P N wh kd td mo (prs l)) from hkN)
    have hA : (sh S A).1 = 0 := by rw [c2]
    have hEk := hE.2.2.2 k hkN
    obtain ⟨b1, b2, b3, b4⟩ := g.2.2.2.2.2.2.2.2.1 k hkN
    have eo := X1_ownerOf (S := S) (m := m) (c := k) (GS_of hS g1.2.1) g1.own (by omega)
    rw [g1.owS (show k < eN (mkE d P N wh kd td mo (prs l)) from hkN)] at eo
    have esp := X1_isSpent (S := S) (m := m) (g := 3) (p := k) (sk3 hS) c.2.2.2.2.2.2.1 (by omega) (by omega)
    have ecnt := X0_countsBy (S := S) (m := m) (s := q.1) hA c4 c5 c6 hEk.2.1 hEk.2.2.1 hEk.2.2.2 hq.1
    have ecst := X0_costs (S := S) (m := m) hA c4 c5 hEk.2.1 hEk.2.2.1
    have mcnt := M_counts g2 (show k < eN (mkE d P N wh kd td mo (prs l)) from hkN)
    have mcst := M_costs g2 (show k < eN (mkE d P N wh kd td mo (prs l)) from hkN)
    have hb : (nI q.2.2.2 >>> (nI k &&& 31)) &&& 1 = nI (if q.2.2.2.testBit k = true then 1 else 0) := bitI (by omega) (by omega)
    have hx : f_X8_told (mk S m) (some 0) (nI k) w = if w = (0 : Int32) then some (nI (wh k), mk S m) else (if w = (1 : Int32) then some (nI (kd k), mk S m) else (if w = (2 : Int32) then some (nI (td k), mk S m) else (if w = (3 : Int32) then some (nI (mo k), mk S m) else (if w = (4 : Int32) then some (nI (if q.2.2.2.testBit k = true then 1 else 0), mk S m) else (if w = (5 : Int32) then some (nI (cnS (kd k) (td k) (mo k) q.1), mk S m) else (if w = (6 : Int32) then some (nI (csS (kd k) (td k)), mk S m) else some (-7, mk S m))))))) := by
      have r02 : gR (mk S m) 8 (some 0) 2 = some (some 3) := r0_2 hS
      unfold f_X8_told
      rw [r02, Option.bind_some, vc_k hk1, c1, Option.bind_some, if_neg (by simp)]
      simp only [gI_k hA, c4, c5, c6, vc_k hA, ecst, r02, Option.bind_some, vc_k hk1, eo, esp, gI_k hk1, c.2.1, ecnt, f_X8_told_100]
      cases q.2.2.2.testBit k <;> rfl
    have hy : f_X9_told (mk S m) (some 50) (nI k) w = if w = (0 : Int32) then some (nI (wh k), mk S m) else (if w = (1 : Int32) then some (nI (kd k), mk S m) else (if w = (2 : Int32) then some (nI (td k), mk S m) else (if w = (3 : Int32) then some (nI (mo k), mk S m) else (if w = (4 : Int32) then some (nI (if q.2.2.2.testBit k = true then 1 else 0), mk S m) else (if w = (5 : Int32) then some (nI (cnS (kd k) (td k) (mo k) q.1), mk S m) else (if w = (6 : Int32) then some (nI (csS (kd k) (td k)), mk S m) else some (-7, mk S m))))))) := by
      unfold f_X9_told
      rw [vc_k hk, M_isCoin g2, x1, Option.bind_some, if_neg (show ¬ (1 : Int32) = 0 by decide), gR_k hk, rk50_6 hS, Option.bind_some, rI_n (sk51 hS) (by omega) (by decide), b1, Option.bind_some, gR_k hk, rk50_7 hS, Option.bind_some, rI_n (sk52 hS) (by omega) (by decide), b2, Option.bind_some, gR_k hk, rk50_8 hS, Option.bind_some, rI_n (sk53 hS) (by omega) (by decide), b3, Option.bind_some, gR_k hk, rk50_9 hS, Option.bind_some, rI_n (sk54 hS) (by omega) (by decide), b4, Option.bind_some, gI_k hk, g.2.2.2.2.2.2.1, Option.bind_some, hb, vc_k hk, mcnt, Option.bind_some, vc_k hk, mcst, Option.bind_some]
      rfl
    by_cases h0 : w = 0
    · exact op_same hR0 (by rw [hx, if_pos h0]) (by show f_X9_told (mk S m) (some 50) (nI k) w = _; rw [hy, if_pos h0])
    by_cases h1 : w = 1
    · exact op_same hR0 (by rw [hx, if_neg h0, if_pos h1]) (by show f_X9_told (mk S m) (some 50) (nI k) w = _; rw [hy, if_neg h0, if_pos h1])
    by_cases h2 : w = 2
    · exact op_same hR0 (by rw [hx, if_neg h0, if_neg h1, if_pos h2]) (by show f_X9_told (mk S m) (some 50) (nI k) w = _; rw [hy, if_neg h0, if_neg h1, if_pos h2])
    by_cases h3 : w = 3
    · exact op_same hR0 (by rw [hx, if_neg h0, if_neg h1, if_neg h2, if_pos h3]) (by show f_X9_told (mk S m) (some 50) (nI k) w = _; rw [hy, if_neg h0, if_neg h1, if_neg h2, if_pos h3])
    by_cases h4 : w = 4
    · exact op_same hR0 (by rw [hx, if_neg h0, if_neg h1, if_neg h2, if_neg h3, if_pos h4]) (by show f_X9_told (mk S m) (some 50) (nI k) w = _; rw [hy, if_neg h0, if_neg h1, if_neg h2, if_neg h3, if_pos h4])
    by_cases h5 : w = 5
    · exact op_same hR0 (by rw [hx, if_neg h0, if_neg h1, if_neg h2, if_neg h3, if_neg h4, if_pos h5]) (by show f_X9_told (mk S m) (some 50) (nI k) w = _; rw [hy, if_neg h0, if_neg h1, if_neg h2, if_neg h3, if_neg h4, if_pos h5])
    by_cases h6 : w = 6
    · exact op_same hR0 (by rw [hx, if_neg h0, if_neg h1, if_neg h2, if_neg h3, if_neg h4, if_neg h5, if_pos h6]) (by show f_X9_told (mk S m) (some 50) (nI k) w = _; rw [hy, if_neg h0, if_neg h1, if_neg h2, if_neg h3, if_neg h4, if_neg h5, if_pos h6])
    exact op_same hR0 (by rw [hx, if_neg h0, if_neg h1, if_neg h2, if_neg h3, if_neg h4, if_neg h5, if_neg h6]) (by show f_X9_told (mk S m) (some 50) (nI k) w = _; rw [hy, if_neg h0, if_neg h1, if_neg h2, if_neg h3, if_neg h4, if_neg h5, if_neg h6])
  · have x1 := one_n (show x < 0 ∨ ¬ x < nI (eN (mkE d P N wh kd td mo (prs l))) from hno)
    refine op_same (a := -5) hR0 ?_ ?_
    · unfold f_X8_told
      rw [r0_2 hS, Option.bind_some, vc_k hk1, C_coinAt_no g1 hno, Option.bind_some, if_pos rfl]
    · show f_X9_told (mk S m) (some 50) x w = _
      unfold f_X9_told
      rw [vc_k hk, M_isCoin g2, x1, Option.bind_some, if_pos rfl]
/-! a coin given -/
theorem om_give {wh : Nat → Nat} {N N2 c t : Nat} (h : (c < N ∧ N2 = N) ∨ (c = N ∧ N2 = N + 1)) (p : Nat) : (omS wh p N ^^^ (omS wh p N &&& 2 ^ c)) ||| (if p = t then 2 ^ c else 0) = omS (upN wh c t) p N2 := by
  apply Nat.eq_of_testBit_eq
  intro k
  have h1 := om_bit wh p N k
  have h2 := om_bit (upN wh c t) p N2 k
  rw [Bool.eq_iff_iff, h2, Nat.testBit_or, tb_diff, Nat.testBit_two_pow]
  by_cases e : k = c
  · subst e
    have e3 : upN wh k t k = t := by
      unfold upN
      rw [if_pos rfl]
    rw [e3]
    by_cases z : p = t
    · rw [if_pos z, Nat.testBit_two_pow]
      simp
      exact ⟨by omega, z.symm⟩
    · rw [if_neg z, Nat.zero_testBit]
      simp
      exact fun _ y => z y.symm
  · have e3 : upN wh c t k = wh k := by
      unfold upN
      rw [if_neg e]
    have hk : decide (c = k) = false := by
      simp
      exact fun y => e y.symm
    have hz : (if p = t then 2 ^ c else 0).testBit k = false := by
      split
      · rw [Nat.testBit_two_pow]
        exact hk
      · exact Nat.zero_testBit k
    rw [e3, hk, hz, Bool.not_false, Bool.and_true, Bool.or_false, h1]
    constructor
    · exact fun y => ⟨by omega, y.2⟩
    · exact fun y => ⟨by omega, y.2⟩
theorem C_giveL {S : SK} {g c t : Nat} {o : Nat → Nat} (hG : GS S g) (hc : c < 7) (ht : t < 4) (ho : ∀ p, p < 4 → o p < 128) : ∀ (r f i : Nat) (m : Nat → Nat → Int32), i + r = 4 → r < f → (∀ p, p < 4 → m (g + 1) p = nI (if p < i then o p ^^^ (o p &&& 2 ^ c) else o p)) →
    ∃ m2, f_X1_give_2 f (mk S m) (some g) (nI c) (nI t) (nI i) = some (mk S m2) ∧ (∀ p, p < 4 → m2 (g + 1) p = nI ((o p ^^^ (o p &&& 2 ^ c)) ||| (if p = t then 2 ^ c else 0))) ∧ Ag (fun b => b = g + 1) m m2 := by
  have hk : (sh S g).1 = 1 := by rw [hG.1]
  have esh : (1 : Int32) <<< (nI c &&& 31) = nI (2 ^ c) := shl1 (by omega)
  intro r
  induction r with
  | zero =>
    intro f i m hi hf hm
    obtain ⟨f, rfl⟩ : ∃ k, f = k + 1 := ⟨f - 1, by omega⟩
    have hi : i = 4 := by omega
    subst hi
    have et := hm t ht
    rw [if_pos ht] at et
    refine ⟨w2 m (g + 1) t (nI ((o t ^^^ (o t &&& 2 ^ c)) ||| 2 ^ c)), ?_, ?_, Ag.w2 (Z := fun b => b = g + 1) Ag.rf rfl⟩
    · show fb_X1_give_2 (f_X1_give_2 f) (mk S m) (some g) (nI c) (nI t) (nI 4) = _
      unfold fb_X1_give_2
      rw [if_neg nlt4, if_neg (nI_pos (by omega)), if_pos (lt4 ht), gR_k hk, hG.2.2.2.2.2.1, Option.bind_some, rI_n hG.2.1 ht (by decide), Option.bind_some, et, esh, fa_or, sI_n hG.2.1 ht (by decide), Option.bind_some]
      rfl
    · intro p hp
      rw [w2_ap]
      by_cases z : p = t
      · rw [if_pos ⟨rfl, z⟩, if_pos z, z]
      · rw [if_neg (fun y => z y.2), if_neg z, Nat.or_zero, hm p hp, if_pos hp]
  | succ r ih =>
    intro f i m hi hf hm
    obtain ⟨f, rfl⟩ : ∃ k, f = k + 1 := ⟨f - 1, by omega⟩
    have hi4 : i < 4 := by omega
    have ei := hm i hi4
    rw [if_neg (Nat.lt_irrefl i)] at ei
    have h128 := ho i hi4
    obtain ⟨m2, e, h1, ag⟩ := ih f (i + 1) (w2 m (g + 1) i (nI (o i ^^^ (o i &&& 2 ^ c)))) (by omega) (by omega) (fun p hp => by
      rw [w2_ap]
      by_cases z : p = i
      · rw [if_pos ⟨rfl, z⟩, if_pos (by omega), z]
      · rw [if_neg (fun y => z y.2), hm p hp]
        by_cases y : p < i
        · rw [if_pos y, if_pos (by omega)]
        · rw [if_neg y, if_neg (by omega)])
    refine ⟨m2, ?_, h1, (Ag.w2 (Z := fun b => b = g + 1) Ag.rf rfl).tr ag⟩
    show fb_X1_give_2 (f_X1_give_2 f) (mk S m) (some g) (nI c) (nI t) (nI i) = _
    unfold fb_X1_give_2
    rw [if_pos (lt4 hi4), gR_k hk, hG.2.2.2.2.2.1, Option.bind_some, rI_n hG.2.1 hi4 (by decide), Option.bind_some, ei, esh, compl_n (by omega), sI_n hG.2.1 hi4 (by decide), Option.bind_some, bnd_eq, show nI i + (1 : Int32) = nI (i + 1) from nI_add i 1]
    exact e
theorem C_give {S : SK} {m : Nat → Nat → Int32} {g c t : Nat} {o : Nat → Nat} (hG : GS S g) (hc : c < 7) (ht : t < 4) (ho : ∀ p, p < 4 → m (g + 1) p = nI (o p) ∧ o p < 128) :
    ∃ m2, f_X1_give (mk S m) (some g) (nI c) (nI t) = some (mk S m2) ∧ (∀ p, p < 4 → m2 (g + 1) p = nI ((o p ^^^ (o p &&& 2 ^ c)) ||| (if p = t then 2 ^ c else 0))) ∧ Ag (fun b => b = g + 1) m m2 :=
  C_giveL hG hc ht (fun p hp => (ho p hp).2) 4 FU 0 m (by omega) (by unfold FU; omega) (fun p hp => by
    rw [if_neg (Nat.not_lt_zero p)]
    exact (ho p hp).1)
theorem op_sell {S : SK} {m : Nat → Nat → Int32} (hR : RR S m) (x y : Int32) : RES (f_X8_sell (mk S m) (some 0) x y) (fun S1 m1 => f_X9_sell (mk S1 m1) (some 50) x y) := by
  have hR0 := hR
  have hS := hR.ok
  have hk8 : (sh S 0).1 = 8 := by rw [sk0 hS]
  have hk1 : (sh S 3).1 = 1 := by rw [sk3 hS]
  have hk : (sh S 50).1 = 9 := by rw [sk50 hS]
  obtain ⟨d, P, N, l, T, wh, kd, td, mo, prs, q, h⟩ := hR
  obtain ⟨hl, ⟨g1, g2, g3⟩, hO⟩ := h
  have c := g1.2.2.1
  have g := g2.2.2.2.1
  have hE := g1.1.2.1
  have hq := g1.2.2.2
  have hN : N ≤ 7 := hE.2.2.1
  have hP : P ≤ 4 := hE.2.1
  have z2 := p128 hE.2.2.1 hq.2.2.2
  rcases i_in x (show N < 2 ^ 31 by omega) with ⟨k, hkN, rfl⟩ | hno
  · have x1 := one_y (show k < eN (mkE d P N wh kd td mo (prs l)) from hkN) (show N < 2 ^ 31 by omega)
    obtain ⟨A, c1, _⟩ := C_coinAt g1 (show k < eN (mkE d P N wh kd td mo (prs l)) from hkN)
    rcases i_in y (show P < 2 ^ 31 by omega) with ⟨t, htP, rfl⟩ | hno2
    · have x2 := one_y (show t < eP (mkE d P N wh kd td mo (prs l)) from htP) (show P < 2 ^ 31 by omega)
      have eo := X1_ownerOf (S := S) (m := m) (c := k) (GS_of hS g1.2.1) g1.own (by omega)
      rw [g1.owS (show k < eN (mkE d P N wh kd td mo (prs l)) from hkN)] at eo
      have esp := X1_isSpent (S := S) (m := m) (g := 3) (p := k) (sk3 hS) c.2.2.2.2.2.2.1 (by omega) (by omega)
      by_cases hsp : q.2.2.2.testBit k = true
      · refine op_same (a := -3) hR0 ?_ ?_
        · unfold f_X8_sell
          rw [r0_2 hS, Option.bind_some, vc_k hk1, c1, Option.bind_some, if_neg (by simp)]
          rw [r0_2 hS, Option.bind_some, vc_k hk1, C_isOne g1, x2, Option.bind_some, if_neg (show ¬ (1 : Int32) = 0 by decide)]
          rw [r0_2 hS, Option.bind_some, vc_k hk1, esp, Option.bind_some, hsp, if_neg (show ¬ nI (if true = true then 1 else 0) = (0 : Int32) by decide)]
        · show f_X9_sell (mk S m) (some 50) (nI k) (nI t) = _
          unfold f_X9_sell
          rw [vc_k hk, M_isCoin g2, x1, Option.bind_some, if_neg (show ¬ (1 : Int32) = 0 by decide), vc_k hk, M_isOne g2, x2, Option.bind_some, if_neg (show ¬ (1 : Int32) = 0 by decide), vc_k hk, X9_isLeft hS g.2.2.2.2.2.2.1 (by omega) (by omega), Option.bind_some, hsp, if_pos (show nI (if true = true then 0 else 1) = (0 : Int32) from rfl)]
      · have hsp' : q.2.2.2.testBit k = false := by simpa using hsp
        obtain ⟨m1, e1, o1, ag1⟩ := C_give (S := S) (m := m) (g := 3) (c := k) (t := t) (o := fun p => omS wh p N) (GS_of hS g1.2.1) (by omega) (by omega) (fun p hp => ⟨(g1.own p hp).1, om_128 hN⟩)
        have f3 : m1 3 = m 3 := ag1 3 (by omega)
        have hE' : EOK (mkE d P N (upN wh k t) kd td mo (prs l)) := ⟨hE.1, hE.2.1, hE.2.2.1, fun j hj => by
          have hj' := hE.2.2.2 j hj
          refine ⟨?_, hj'.2⟩
          show (if j = k then t else wh j) < P
          split
          · exact htP
          · exact hj'.1⟩
        have hz1 : ZOK S (fun b => b = 3 + 1) := ZOK.of (fun b hb => Or.inr (Or.inl (by omega)))
        have hC1 : CI S m1 3 (mkE d P N (upN wh k t) kd td mo (prs l)) l q := by
          refine ⟨⟨hS, hE', g1.1.2.2.1, ?_, g1.1.2.2.2.2.ag ag1 hz1.2⟩, g1.2.1, ?_, hq⟩
          · exact g1.1.2.2.2.1.ag ag1 hz1.1
          · refine ⟨by rw [f3]; exact c.1, by rw [f3]; exact c.2.1, by rw [f3]; exact c.2.2.1, by rw [f3]; exact c.2.2.2.1, by rw [f3]; exact c.2.2.2.2.1, by rw [f3]; exact c.2.2.2.2.2.1, by rw [f3]; exact c.2.2.2.2.2.2.1, by rw [f3]; exact c.2.2.2.2.2.2.2.1, ?_⟩
            intro p hp
            have := o1 p hp
            rw [om_give (wh := wh) (N := N) (N2 := N) (c := k) (t := t) (Or.inl ⟨hkN, rfl⟩) p] at this
            exact this
        have hM1 := g2.ofC ag1 (fun b hb => by omega)
        have g' := hM1.2.2.2.1
        have hM2 : MV S (w2 m1 51 k (nI t)) (mkE d P N (upN wh k t) kd td mo (prs l)) l q := by
          obtain ⟨hS', _, hl6, ⟨d0, d1, d2, d3, d4, d5, d10, d16, arr, fr, hx⟩, hq', hK⟩ := hM1
          refine ⟨hS', hE', hl6, ⟨d0, d1, d2, d3, d4, d5, d10, d16, ?_, fr, hx.ag (w2_ne (by decide)) (w2_ne (by decide))⟩, hq', Or.inl ?_⟩
          · intro j hj
            obtain ⟨a1, a2, a3, a4⟩ := arr j hj
            refine ⟨?_, a2, a3, a4⟩
            show w2 m1 51 k (nI t) 51 j = nI (if j = k then t else wh j)
            rw [w2_ap]
            by_cases z : j = k
            · rw [if_pos ⟨rfl, z⟩, if_pos z]
            · rw [if_neg (fun u => z u.2), if_neg z]
              exact a1
          · show m1 50 37 = nI 0
            rw [ag1 50 (by omega)]
            exact g3
        have ag2 : AgM ZM2 JG m1 (w2 m1 51 k (nI t)) := AgM.rf.w (by decide) (Or.inl rfl)
        refine op_mk (a := nI (wh k)) (S1 := S) (m1 := m1) (S2 := S) (m2 := w2 m1 51 k (nI t)) ?_ ?_ ⟨d, P, N, l, T, upN wh k t, kd, td, mo, prs, q, hl, ⟨hC1.m (L := lg S) ag2, hM2, ?_⟩, hO.g (L := lg S) (ag1.mono (fun b hb => Or.inr (Or.inl hb))) ag2⟩
        · unfold f_X8_sell
          rw [r0_2 hS, Option.bind_some, vc_k hk1, c1, Option.bind_some, if_neg (by simp)]
          rw [r0_2 hS, Option.bind_some, vc_k hk1, C_isOne g1, x2, Option.bind_some, if_neg (show ¬ (1 : Int32) = 0 by decide)]
          rw [r0_2 hS, Option.bind_some, vc_k hk1, esp, Option.bind_some, hsp', if_pos (show nI (if false = true then 1 else 0) = (0 : Int32) from rfl)]
          rw [r0_2 hS, Option.bind_some, vc_k hk1, eo, Option.bind_some]
          rw [r0_2 hS, Option.bind_some, vc_k hk1, e1, Option.bind_some]
          rfl
        · show f_X9_sell (mk S m1) (some 50) (nI k) (nI t) = _
          unfold f_X9_sell
          rw [vc_k hk, M_isCoin hM1, x1, Option.bind_some, if_neg (show ¬ (1 : Int32) = 0 by decide), vc_k hk, M_isOne hM1, x2, Option.bind_some, if_neg (show ¬ (1 : Int32) = 0 by decide), vc_k hk, X9_isLeft hS g'.2.2.2.2.2.2.1 (by omega) (by omega), Option.bind_some, hsp', if_neg (show ¬ nI (if false = true then 0 else 1) = (0 : Int32) by decide), gR_k hk, rk50_6 hS, Option.bind_some, rI_n (sk51 hS) (by omega) (by decide), (g'.2.2.2.2.2.2.2.2.1 k hkN).1, Option.bind_some, Option.bind_some, sI_n (sk51 hS) (by omega) (by decide), Option.bind_some]
          rfl
        · show m1 50 37 = nI 0
          rw [ag1 50 (by omega)]
          exact g3
    · have x2 := one_n (show y < 0 ∨ ¬ y < nI (eP (mkE d P N wh kd td mo (prs l))) from hno2)
      refine op_same (a := -7) hR0 ?_ ?_
      · unfold f_X8_sell
        rw [r0_2 hS, Option.bind_some, vc_k hk1, c1, Option.bind_some, if_neg (by simp)]
        rw [r0_2 hS, Option.bind_some, vc_k hk1, C_isOne g1, x2, Option.bind_some, if_pos rfl]
      · show f_X9_sell (mk S m) (some 50) (nI k) y = _
        unfold f_X9_sell
        rw [vc_k hk, M_isCoin g2, x1, Option.bind_some, if_neg (show ¬ (1 : Int32) = 0 by decide), vc_k hk, M_isOne g2, x2, Option.bind_some, if_pos rfl]
  · have x1 := one_n (show x < 0 ∨ ¬ x < nI (eN (mkE d P N wh kd td mo (prs l))) from hno)
    refine op_same (a := -5) hR0 ?_ ?_
    · unfold f_X8_sell
      rw [r0_2 hS, Option.bind_some, vc_k hk1, C_coinAt_no g1 hno, Option.bind_some, if_pos rfl]
    · show f_X9_sell (mk S m) (some 50) x y = _
      unfold f_X9_sell
      rw [vc_k hk, M_isCoin g2, x1, Option.bind_some, if_pos rfl]
