/-! PURE: calls: stand, set, asks -/
theorem b_clr {i p P : Nat} (hi : i < 2 ^ P) : i ^^^ (i &&& 2 ^ p) < 2 ^ P := clr_lt hi
theorem b_set {i p : Nat} : (i ^^^ (i &&& 2 ^ p)) ||| 2 ^ p = i ||| 2 ^ p := by
  apply Nat.eq_of_testBit_eq
  intro k
  rw [tb_set, tb_set, tb_diff, Nat.testBit_two_pow]
  cases i.testBit k <;> cases decide (p = k) <;> rfl
theorem op_stand {S : SK} {m : Nat → Nat → Int32} (hR : RR S m) (p w : Int32) : RES (f_X8_stand (mk S m) (some 0) p w) (fun S1 m1 => f_X9_stand (mk S1 m1) (some 50) p w) := by
  have hR0 := hR
  have hS := hR.ok
  have hk8 : (sh S 0).1 = 8 := by rw [sk0 hS]
  have hk1 : (sh S 3).1 = 1 := by rw [sk3 hS]
  have hk : (sh S 50).1 = 9 := by rw [sk50 hS]
  obtain ⟨d, P, N, l, T, wh, kd, td, mo, prs, q, h⟩ := hR
  obtain ⟨hl, ⟨g1, g2, g3⟩, hO⟩ := h
  have c := g1.2.2.1
  have g := g2.2.2.2.1
  have hE := g1.1.2.1
  have hq := g1.2.2.2
  have hP : P ≤ 4 := hE.2.1
  have hi : q.2.2.1 < 2 ^ P := hq.2.2.1
  have hi16 := p16 hP hi
  rcases i_in p (show P < 2 ^ 31 by omega) with ⟨k, hkP, rfl⟩ | hno
  · have x1 := one_y (show k < eP (mkE d P N wh kd td mo (prs l)) from hkP) (show P < 2 ^ 31 by omega)
    rcases i_rng w (B := 1) (by decide) with ⟨w, hw, rfl⟩ | hbad
    · have ei := X1_isInside (S := S) (m := m) (p := k) (sk3 hS) c.2.2.2.2.1 (by omega) (by omega)
      let j := if w = 1 then q.2.2.1 ||| 2 ^ k else q.2.2.1 ^^^ (q.2.2.1 &&& 2 ^ k)
      have hj : j < 2 ^ P := by
        show (if w = 1 then q.2.2.1 ||| 2 ^ k else q.2.2.1 ^^^ (q.2.2.1 &&& 2 ^ k)) < 2 ^ P
        split
        · exact Nat.or_lt_two_pow hi (Nat.pow_lt_pow_right (by decide) hkP)
        · exact b_clr hi
      have ev : (nI q.2.2.1 &&& ((((1 : Int32)) <<< (nI k &&& 31)) ^^^ ((-1 : Int32)))) ||| (nI w <<< (nI k &&& 31)) = nI j := by
        rw [show (1 : Int32) <<< (nI k &&& 31) = nI (2 ^ k) from shl1 (by omega), compl_n (by omega)]
        rcases (show w = 0 ∨ w = 1 by omega) with rfl | rfl
        · rw [pk_shlN (n := 0) (nI k &&& 31) k (s_l k (by omega)) (by omega), fa_or, Nat.zero_mul, Nat.or_zero]
          rfl
        · rw [show nI 1 <<< (nI k &&& 31) = nI (2 ^ k) from shl1 (by omega), fa_or, b_set]
          rfl
      have hq' : QOK (mkE d P N wh kd td mo (prs l)) (q.1, q.2.1, j, q.2.2.2) := ⟨hq.1, hq.2.1, hj, hq.2.2.2⟩
      have ag1 : Ag (fun b => b = 3) m (w2 m 3 8 (nI j)) := Ag.w2 (Z := fun b => b = 3) Ag.rf rfl
      have ag2 : AgM ZM2 JG (w2 m 3 8 (nI j)) (w2 (w2 m 3 8 (nI j)) 50 4 (nI j)) := AgM.w50 AgM.rf (by unfold JG; omega)
      have hC : CI S (w2 m 3 8 (nI j)) 3 (mkE d P N wh kd td mo (prs l)) l (q.1, q.2.1, j, q.2.2.2) := g1.mk' hE rfl rfl rfl rfl rfl g1.1.2.2.1 hq' ag1 g1.1.2.2.2.2 c.1 c.2.1 c.2.2.1 c.2.2.2.1 rfl c.2.2.2.2.2.1 c.2.2.2.2.2.2.1 c.2.2.2.2.2.2.2.1
      have hM1 := g2.ofC ag1 (fun b hb => by omega)
      refine op_mk (a := nI (if q.2.2.1.testBit k = true then 1 else 0)) (S1 := S) (m1 := w2 m 3 8 (nI j)) (S2 := S) (m2 := w2 (w2 m 3 8 (nI j)) 50 4 (nI j)) ?_ ?_ ⟨d, P, N, l, T, wh, kd, td, mo, prs, (q.1, q.2.1, j, q.2.2.2), hl, ⟨hC.m (L := lg S) ag2, ?_, g3⟩, hO.g (L := lg S) (ag1.mono (fun b hb => Or.inl hb)) ag2⟩
      · have tl : ∀ s0, f_X8_stand_42 (mk S m) (some 0) (nI k) (nI w) s0 = some (s0, mk S (w2 m 3 8 (nI j))) := by
          intro s0
          unfold f_X8_stand_42
          rw [r0_2 hS, Option.bind_some, Option.bind_some, gI_k hk1, c.2.2.2.2.1, Option.bind_some, ev, pI_k hk1, Option.bind_some]
        unfold f_X8_stand
        rw [r0_2 hS, Option.bind_some, vc_k hk1, C_isOne g1, x1, Option.bind_some, if_neg (show ¬ (1 : Int32) = 0 by decide), ifr_y (b := 1) (B := 1) rfl hw (by decide)]
        rw [r0_2 hS, Option.bind_some, vc_k hk1, ei, Option.bind_some]
        cases q.2.2.1.testBit k
        · rw [if_pos (show nI (if false = true then 1 else 0) = (0 : Int32) from rfl)]
          exact tl 0
        · rw [if_neg (show ¬ nI (if true = true then 1 else 0) = (0 : Int32) by decide)]
          exact tl 1
      · show f_X9_stand (mk S (w2 m 3 8 (nI j))) (some 50) (nI k) (nI w) = _
        have hb : (nI q.2.2.1 >>> (nI k &&& 31)) &&& 1 = nI (if q.2.2.1.testBit k = true then 1 else 0) := bitI (by omega) (by omega)
        unfold f_X9_stand
        rw [vc_k hk, M_isOne hM1, x1, Option.bind_some, if_neg (show ¬ (1 : Int32) = 0 by decide), X9_in, ifr_y (b := 1) (B := 1) rfl hw (by decide), Option.bind_some, if_neg (show ¬ (1 : Int32) = 0 by decide), gI_k hk, show w2 m 3 8 (nI j) 50 4 = nI q.2.2.1 from g.2.2.2.2.1, Option.bind_some, bnd_eq, hb]
        rcases (show w = 0 ∨ w = 1 by omega) with rfl | rfl
        · rw [if_neg (show ¬ nI 0 = (1 : Int32) by decide), Option.bind_some, show (1 : Int32) <<< (nI k &&& 31) = nI (2 ^ k) from shl1 (by omega), compl_n (by omega)]
          unfold f_X9_stand_59
          rw [pI_k hk, Option.bind_some]
          rfl
        · rw [if_pos (show nI 1 = (1 : Int32) from rfl), Option.bind_some, show (1 : Int32) <<< (nI k &&& 31) = nI (2 ^ k) from shl1 (by omega), fa_or]
          unfold f_X9_stand_59
          rw [pI_k hk, Option.bind_some]
          rfl
      · exact hM1.mk' hE rfl rfl rfl rfl rfl g1.1.2.2.1 hq' (fun b hb => by rw [w2_ne (by omega)]) hM1.2.2.2.1.2.2.2.2.2.2.2.2.2 g.1 g.2.1 g.2.2.1 g.2.2.2.1 rfl g.2.2.2.2.2.1 g.2.2.2.2.2.2.1 g.2.2.2.2.2.2.2.1 g3
    · refine op_same (a := -7) hR0 ?_ ?_
      · unfold f_X8_stand
        rw [r0_2 hS, Option.bind_some, vc_k hk1, C_isOne g1, x1, Option.bind_some, if_neg (show ¬ (1 : Int32) = 0 by decide), ifr_n (b := 1) (B := 1) rfl hbad]
        rfl
      · show f_X9_stand (mk S m) (some 50) (nI k) w = _
        unfold f_X9_stand
        rw [vc_k hk, M_isOne g2, x1, Option.bind_some, if_neg (show ¬ (1 : Int32) = 0 by decide), X9_in, ifr_n (b := 1) (B := 1) rfl hbad, Option.bind_some, if_pos rfl]
  · have x1 := one_n (show p < 0 ∨ ¬ p < nI (eP (mkE d P N wh kd td mo (prs l))) from hno)
    refine op_same (a := -5) hR0 ?_ ?_
    · unfold f_X8_stand
      rw [r0_2 hS, Option.bind_some, vc_k hk1, C_isOne g1, x1, Option.bind_some, if_pos rfl]
    · show f_X9_stand (mk S m) (some 50) p w = _
      unfold f_X9_stand
      rw [vc_k hk, M_isOne g2, x1, Option.bind_some, if_pos rfl]
theorem op_asks {S : SK} {m : Nat → Nat → Int32} (hR : RR S m) (a b c e f : Int32) : RES (f_X8_asks (mk S m) (some 0) a b c e f) (fun S1 m1 => f_X9_asks (mk S1 m1) (some 50) a b c e f) := by
  have hR0 := hR
  have hS := hR.ok
  have hk8 : (sh S 0).1 = 8 := by rw [sk0 hS]
  have hk1 : (sh S 3).1 = 1 := by rw [sk3 hS]
  have hk : (sh S 50).1 = 9 := by rw [sk50 hS]
  obtain ⟨d, P, N, l, T, wh, kd, td, mo, prs, q, h⟩ := hR
  obtain ⟨hl, ⟨g1, g2, g3⟩, hO⟩ := h
  have bad : (¬ ((∃ k, k ≤ 2 ∧ a = nI k) ∧ (∃ k, k ≤ 9999 ∧ b = nI k) ∧ (∃ k, k ≤ 999 ∧ c = nI k) ∧ (∃ k, k ≤ 99 ∧ e = nI k) ∧ ∃ k, k ≤ 99 ∧ f = nI k)) → RES (f_X8_asks (mk S m) (some 0) a b c e f) (fun S1 m1 => f_X9_asks (mk S1 m1) (some 50) a b c e f) := by
    intro hbad
    have l3 : ∀ k, k ≤ 2 → nI k < (3 : Int32) := fun k hk => (nI_ltI (b := 3) (by omega) (by omega)).2 (by omega)
    have m57 : ∀ (h : XM) a b c e f, f_X9_asks_57 h (some 50) a b c e f = some (-2, h) := fun _ _ _ _ _ _ => rfl
    have sa : ∀ {α : Type} (A C : α), (∃ k, k ≤ 2 ∧ a = nI k) → (if a < 0 then A else if a < (3 : Int32) then C else A) = C := by
      rintro α A C ⟨k, hk, rfl⟩
      rw [if_neg (nI_pos (by omega)), if_pos (l3 k hk)]
    refine op_same (a := -2) hR0 ?_ ?_
    · unfold f_X8_asks
      rcases i_rng a (B := 2) (by decide) with ha | ha
      · rw [sa _ _ ha]
        rcases i_rng b (B := 9999) (by decide) with ⟨kb, hb, rfl⟩ | hb
        · rw [ifr_y (b := 9999) (B := 9999) rfl hb (by decide)]
          rcases i_rng c (B := 999) (by decide) with ⟨kc, hc, rfl⟩ | hc
          · rw [ifr_y (b := 999) (B := 999) rfl hc (by decide)]
            rcases i_rng e (B := 99) (by decide) with ⟨ke, he, rfl⟩ | he
            · rw [ifr_y (b := 99) (B := 99) rfl he (by decide)]
              rcases i_rng f (B := 99) (by decide) with ⟨kf, hf, rfl⟩ | hf
              · exact absurd ⟨ha, ⟨kb, hb, rfl⟩, ⟨kc, hc, rfl⟩, ⟨ke, he, rfl⟩, ⟨kf, hf, rfl⟩⟩ hbad
              · rw [ifr_n (b := 99) (B := 99) rfl hf]
                rfl
            · rw [ifr_n (b := 99) (B := 99) rfl he]
              rfl
          · rw [ifr_n (b := 999) (B := 999) rfl hc]
            rfl
        · rw [ifr_n (b := 9999) (B := 9999) rfl hb]
          rfl
      · rcases ha with z | ⟨z, z2⟩
        · rw [if_pos z]
          rfl
        · obtain ⟨k, hk2, rfl⟩ := i_of z
          rw [nI_ltI (by omega) hk2] at z2
          rw [if_neg z, if_neg (show ¬ nI k < (3 : Int32) from fun y => by have := (nI_ltI (b := 3) hk2 (by omega)).1 y; omega)]
          rfl
    · show f_X9_asks (mk S m) (some 50) a b c e f = _
      unfold f_X9_asks
      rw [X9_in, Option.bind_some]
      rcases i_rng a (B := 2) (by decide) with ⟨ka, ha, rfl⟩ | ha
      · rw [ifr_y (b := 2) (B := 2) rfl ha (by decide), if_neg (show ¬ (1 : Int32) = 0 by decide), X9_in, Option.bind_some]
        rcases i_rng b (B := 9999) (by decide) with ⟨kb, hb, rfl⟩ | hb
        · rw [ifr_y (b := 9999) (B := 9999) rfl hb (by decide), if_neg (show ¬ (1 : Int32) = 0 by decide), X9_in, Option.bind_some]
          rcases i_rng c (B := 999) (by decide) with ⟨kc, hc, rfl⟩ | hc
          · rw [ifr_y (b := 999) (B := 999) rfl hc (by decide), if_neg (show ¬ (1 : Int32) = 0 by decide), X9_in, Option.bind_some]
            rcases i_rng e (B := 99) (by decide) with ⟨ke, he, rfl⟩ | he
            · rw [ifr_y (b := 99) (B := 99) rfl he (by decide), if_neg (show ¬ (1 : Int32) = 0 by decide), X9_in, Option.bind_some]
              rcases i_rng f (B := 99) (by decide) with ⟨kf, hf, rfl⟩ | hf
              · exact absurd ⟨⟨ka, ha, rfl⟩, ⟨kb, hb, rfl⟩, ⟨kc, hc, rfl⟩, ⟨ke, he, rfl⟩, ⟨kf, hf, rfl⟩⟩ hbad
              · rw [ifr_n (b := 99) (B := 99) rfl hf, if_pos rfl, m57]
            · rw [ifr_n (b := 99) (B := 99) rfl he, if_pos rfl, m57]
          · rw [ifr_n (b := 999) (B := 999) rfl hc, if_pos rfl, m57]
        · rw [ifr_n (b := 9999) (B := 9999) rfl hb, if_pos rfl, m57]
      · rw [ifr_n (b := 2) (B := 2) rfl ha, if_pos rfl, m57]
  by_cases hall : (∃ k, k ≤ 2 ∧ a = nI k) ∧ (∃ k, k ≤ 9999 ∧ b = nI k) ∧ (∃ k, k ≤ 999 ∧ c = nI k) ∧ (∃ k, k ≤ 99 ∧ e = nI k) ∧ ∃ k, k ≤ 99 ∧ f = nI k
  · clear bad
    obtain ⟨⟨ka, ha, rfl⟩, ⟨kb, hb, rfl⟩, ⟨kc, hc, rfl⟩, ⟨ke, he, rfl⟩, kf, hf, rfl⟩ := hall
    obtain ⟨m1, e1, hC1, ag1⟩ := C_law g1 (p := ka) (a := kb) (v := kc) (w := ke) (n := kf / 10) (u := kf % 10) (by omega) hb
    have agJ : Ag (ZJ S) m m1 := ag1.mono (fun b hb => by
      rcases hb with y | y
      · exact Or.inl (by omega)
      · exact Or.inr (Or.inr y))
    have hM1 := g2.ofC agJ (fun b hb y => by have := y.no; omega)
    obtain ⟨L, m2, e2, hM2, ag2⟩ := M_asks hM1 (p := ka) (a := kb) (v := kc) (w := ke) (n := kf / 10) (u := kf % 10) ⟨by omega, hb, by omega, by omega, by omega, by omega⟩
    have h37 : m2 50 37 = nI 0 := by
      rw [ag2.2 37 id, agJ 50 (fun y => by have := y.no; omega)]
      exact g3
    have ed : idiv (nI kf) (10 : Int32) = some (nI (kf / 10)) := idiv_n (d := 10) (by omega) (by decide) (by decide)
    have er : irem (nI kf) (10 : Int32) = some (nI (kf % 10)) := irem_n (d := 10) (by omega) (by decide) (by decide)
    refine op_mk (a := lawS (mkE d P N wh kd td mo (prs l)) ka kb kc ke (kf / 10) (kf % 10)) (S1 := S) (m1 := m1) (S2 := sLg S L) (m2 := m2) ?_ ?_ ⟨d, P, N, l, T, wh, kd, td, mo, prs, q, RP.q ⟨hl, ⟨g1, g2, g3⟩, hO⟩ agJ (ag2.mono (fun b hb => by unfold ZA at hb; unfold ZM; omega) (fun _ z => z.elim)) hM2 h37⟩
    · unfold f_X8_asks
      rw [if_neg (nI_pos (by omega)), if_pos (show nI ka < (3 : Int32) from (nI_ltI (b := 3) (by omega) (by omega)).2 (by omega)), ifr_y (b := 9999) (B := 9999) rfl hb (by decide), ifr_y (b := 999) (B := 999) rfl hc (by decide), ifr_y (b := 99) (B := 99) rfl he (by decide), ifr_y (b := 99) (B := 99) rfl hf (by decide), r0_2 hS, Option.bind_some, ed, Option.bind_some, er, Option.bind_some, vc_k hk1, e1, Option.bind_some]
    · show f_X9_asks (mk S m1) (some 50) (nI ka) (nI kb) (nI kc) (nI ke) (nI kf) = _
      unfold f_X9_asks
      rw [X9_in, Option.bind_some, ifr_y (b := 2) (B := 2) rfl ha (by decide), if_neg (show ¬ (1 : Int32) = 0 by decide), X9_in, Option.bind_some, ifr_y (b := 9999) (B := 9999) rfl hb (by decide), if_neg (show ¬ (1 : Int32) = 0 by decide), X9_in, Option.bind_some, ifr_y (b := 999) (B := 999) rfl hc (by decide), if_neg (show ¬ (1 : Int32) = 0 by decide), X9_in, Option.bind_some, ifr_y (b := 99) (B := 99) rfl he (by decide), if_neg (show ¬ (1 : Int32) = 0 by decide), X9_in, Option.bind_some, ifr_y (b := 99) (B := 99) rfl hf (by decide), if_neg (show ¬ (1 : Int32) = 0 by decide)]
      unfold f_X9_asks_58
      rw [if_neg (show ¬ (1 : Int32) = 0 by decide), ed, Option.bind_some, er, Option.bind_some, vc_k hk, e2, Option.bind_some]
      rfl
  · exact bad hall
theorem op_set {S : SK} {m : Nat → Nat → Int32} (hR : RR S m) (w v : Int32) : RES (f_X8_set (mk S m) (some 0) w v) (fun S1 m1 => f_X9_set (mk S1 m1) (some 50) w v) := by
  have hR0 := hR
  have hS := hR.ok
  have hk8 : (sh S 0).1 = 8 := by rw [sk0 hS]
  have hk1 : (sh S 3).1 = 1 := by rw [sk3 hS]
  have hk : (sh S 50).1 = 9 := by rw [sk50 hS]
  obtain ⟨d, P, N, l, T, wh, kd, td, mo, prs, q, h⟩ := hR
  obtain ⟨hl, ⟨g1, g2, g3⟩, hO⟩ := h
  have c := g1.2.2.1
  have g := g2.2.2.2.1
  have hE := g1.1.2.1
  have hq := g1.2.2.2
  have hd : 2 ≤ d ∧ d ≤ 20 := hE.1
  rcases i_rng w (B := 2) (by decide) with ⟨w, hw, rfl⟩ | hbad
  · have cw : (if nI w < 0 then f_X8_set_9 (mk S m) else if (2 : Int32) < nI w then f_X8_set_9 (mk S m) else (none : Option (Int32 × XM))) = none := ifr_y (b := 2) (B := 2) rfl hw (by decide)
    have done : ∀ (j k d' : Nat) (r : QS) (was : Int32), (2 ≤ d' ∧ d' ≤ 20) → QOK (mkE d' P N wh kd td mo (prs l)) r → (j = 4 ∨ j = 5 ∨ j = 6) → (w2 m 3 j (nI k)) 3 4 = nI d' → (w2 m 3 j (nI k)) 3 5 = nI r.1 → (w2 m 3 j (nI k)) 3 6 = nI r.2.1 → r.2.2 = q.2.2 → f_X8_set (mk S m) (some 0) (nI w) v = some (was, mk S (w2 m 3 j (nI k))) → f_X9_set (mk S (w2 m 3 j (nI k))) (some 50) (nI w) v = some (was, mk S (w2 (w2 (w2 (w2 m 3 j (nI k)) 50 0 (nI d')) 50 1 (nI r.1)) 50 2 (nI r.2.1))) → RES (f_X8_set (mk S m) (some 0) (nI w) v) (fun S1 m1 => f_X9_set (mk S1 m1) (some 50) (nI w) v) := by
      intro j k d' r was hd' hr hj f4 f5 f6 h22 h1 h2
      have hE' : EOK (mkE d' P N wh kd td mo (prs l)) := ⟨hd', hE.2⟩
      have e22 : r.2.2.1 = q.2.2.1 ∧ r.2.2.2 = q.2.2.2 := by rw [h22]; exact ⟨rfl, rfl⟩
      have ag1 : Ag (fun b => b = 3) m (w2 m 3 j (nI k)) := Ag.w2 (Z := fun b => b = 3) Ag.rf rfl
      have ag2 : AgM ZM2 JG (w2 m 3 j (nI k)) (w2 (w2 (w2 (w2 m 3 j (nI k)) 50 0 (nI d')) 50 1 (nI r.1)) 50 2 (nI r.2.1)) := ((AgM.rf.w50 (by unfold JG; omega)).w50 (by unfold JG; omega)).w50 (by unfold JG; omega)
      have f := fun i (hi : 7 ≤ i) => show w2 m 3 j (nI k) 3 i = m 3 i by rw [w2_ap, if_neg (by omega)]
      have hC : CI S (w2 m 3 j (nI k)) 3 (mkE d' P N wh kd td mo (prs l)) l r := g1.mk' hE' rfl rfl rfl rfl rfl g1.1.2.2.1 hr ag1 g1.1.2.2.2.2 f4 f5 f6 (by rw [f 7 (by decide)]; exact c.2.2.2.1) (by rw [f 8 (by decide), e22.1]; exact c.2.2.2.2.1) (by rw [f 9 (by decide)]; exact c.2.2.2.2.2.1) (by rw [f 10 (by decide), e22.2]; exact c.2.2.2.2.2.2.1) (by rw [f 11 (by decide)]; exact c.2.2.2.2.2.2.2.1)
      have hM1 := g2.ofC ag1 (fun b hb => by omega)
      have g' := hM1.2.2.2.1
      refine op_mk h1 h2 ⟨d', P, N, l, T, wh, kd, td, mo, prs, r, hl, ⟨hC.m (L := lg S) ag2, ?_, g3⟩, hO.g (L := lg S) (ag1.mono (fun b hb => Or.inl hb)) ag2⟩
      exact hM1.mk' hE' rfl rfl rfl rfl rfl g1.1.2.2.1 hr (fun b hb => by rw [w2_ne (by omega), w2_ne (by omega), w2_ne (by omega)]) g'.2.2.2.2.2.2.2.2.2 rfl rfl rfl g'.2.2.2.1 (by rw [e22.1]; exact g'.2.2.2.2.1) g'.2.2.2.2.2.1 (by rw [e22.2]; exact g'.2.2.2.2.2.2.1) g'.2.2.2.2.2.2.2.1 g3
    have xcount : f_X8_count (mk S m) (some 0) (nI w) = some (if w = 0 then nI d else if w = 1 then nI q.1 else nI q.2.1, mk S m) := by
      unfold f_X8_count
      rcases (show w = 0 ∨ w = 1 ∨ w = 2 by omega) with rfl | rfl | rfl
      · rw [if_pos (show nI 0 = (0 : Int32) from rfl), r0_2 hS, Option.bind_some, gI_k hk1, c.1, Option.bind_some]
        rfl
      · rw [if_neg (show ¬ nI 1 = (0 : Int32) by decide), if_pos (show nI 1 = (1 : Int32) from rfl), r0_2 hS, Option.bind_some, gI_k hk1, c.2.1, Option.bind_some]
        rfl
      · rw [if_neg (show ¬ nI 2 = (0 : Int32) by decide), if_neg (show ¬ nI 2 = (1 : Int32) by decide), if_pos (show nI 2 = (2 : Int32) from rfl), r0_2 hS, Option.bind_some, gI_k hk1, c.2.2.1, Option.bind_some]
        rfl
    rcases (show w = 0 ∨ w = 1 ∨ w = 2 by omega) with rfl | rfl | rfl
    · by_cases hv : ∃ k, (2 ≤ k ∧ k ≤ 20) ∧ v = nI k
      · obtain ⟨k, hk2, rfl⟩ := hv
        refine done 4 k k q (nI d) hk2 hq (Or.inl rfl) rfl c.2.1 c.2.2.1 rfl ?_ ?_
        · unfold f_X8_set
          rw [ifr_y (b := 2) (B := 2) rfl hw (by decide), vc_k hk8, xcount, Option.bind_some, if_pos (show nI 0 = (0 : Int32) from rfl), if_neg (show ¬ nI k < (2 : Int32) from fun y => by have := (nI_ltI (b := 2) (by omega) (by omega)).1 y; omega), if_neg (show ¬ (20 : Int32) < nI k from fun y => by have := (nI_ltI (a := 20) (by omega) (by omega)).1 y; omega), r0_2 hS, Option.bind_some, pI_k hk1, Option.bind_some]
          rfl
        · have hin : f_X9_in (mk S (w2 m 3 4 (nI k))) (nI k) (2 : Int32) (20 : Int32) = some (1, mk S (w2 m 3 4 (nI k))) := by
            rw [X9_in, if_neg (show ¬ nI k < (2 : Int32) from fun y => by have := (nI_ltI (b := 2) (by omega) (by omega)).1 y; omega), if_neg (show ¬ (20 : Int32) < nI k from fun y => by have := (nI_ltI (a := 20) (by omega) (by omega)).1 y; omega)]
          unfold f_X9_set
          rw [X9_in, ifr_y (b := 2) (B := 2) rfl hw (by decide), Option.bind_some, if_neg (show ¬ (1 : Int32) = 0 by decide), if_pos (show nI 0 = (0 : Int32) from rfl)]
          unfold f_X9_set_21
          rw [if_pos (show nI 0 = (0 : Int32) from rfl)]
          unfold f_X9_set_43
          rw [hin, Option.bind_some, if_neg (show ¬ (1 : Int32) = 0 by decide), if_pos (show nI 0 = (0 : Int32) from rfl), gI_k hk, show w2 m 3 4 (nI k) 50 0 = nI d from g.1, Option.bind_some]
          unfold f_X9_set_79
          rw [if_pos (show nI 0 = (0 : Int32) from rfl)]
          unfold f_X9_set_93
          rw [pI_k hk, Option.bind_some, if_neg (show ¬ nI 0 = (1 : Int32) by decide), gI_k hk, show w2 (w2 m 3 4 (nI k)) 50 0 (nI k) 50 1 = nI q.1 from g.2.1, Option.bind_some]
          unfold f_X9_set_110
          rw [pI_k hk, Option.bind_some, if_neg (show ¬ nI 0 = (2 : Int32) by decide), gI_k hk, show w2 (w2 (w2 m 3 4 (nI k)) 50 0 (nI k)) 50 1 (nI q.1) 50 2 = nI q.2.1 from g.2.2.1, Option.bind_some]
          unfold f_X9_set_127
          rw [pI_k hk, Option.bind_some]
      · have hb : v < (2 : Int32) ∨ (¬ v < (2 : Int32) ∧ (20 : Int32) < v) := by
          by_cases z : v < (2 : Int32)
          · exact Or.inl z
          · have z0 : ¬ v < 0 := fun y => z (by
              rw [Int32.lt_iff_toInt_lt] at y ⊢
              have e1 : (0 : Int32).toInt = 0 := by decide
              have e2 : (2 : Int32).toInt = 2 := by decide
              omega)
            obtain ⟨k, hk2, rfl⟩ := i_of z0
            have z2 : ¬ k < 2 := fun y => z ((nI_ltI (b := 2) hk2 (by omega)).2 y)
            refine Or.inr ⟨z, (nI_ltI (a := 20) (by omega) hk2).2 ?_⟩
            exact Nat.lt_of_not_le (fun y => hv ⟨k, ⟨by omega, y⟩, rfl⟩)
        refine op_same (a := -2) hR0 ?_ ?_
        · unfold f_X8_set
          rw [ifr_y (b := 2) (B := 2) rfl hw (by decide), vc_k hk8, xcount, Option.bind_some, if_pos (show nI 0 = (0 : Int32) from rfl)]
          rcases hb with z | ⟨z, z2⟩
          · rw [if_pos z]
            rfl
          · rw [if_neg z, if_pos z2]
            rfl
        · show f_X9_set (mk S m) (some 50) (nI 0) v = _
          have hin : f_X9_in (mk S m) v (2 : Int32) (20 : Int32) = some (0, mk S m) := by
            rw [X9_in]
            rcases hb with z | ⟨z, z2⟩
            · rw [if_pos z]
            · rw [if_neg z, if_pos z2]
          unfold f_X9_set
          rw [X9_in, ifr_y (b := 2) (B := 2) rfl hw (by decide), Option.bind_some, if_neg (show ¬ (1 : Int32) = 0 by decide), if_pos (show nI 0 = (0 : Int32) from rfl)]
          unfold f_X9_set_21
          rw [if_pos (show nI 0 = (0 : Int32) from rfl)]
          unfold f_X9_set_43
          rw [hin, Option.bind_some, if_pos rfl]
    · rcases i_rng v (B := 9999) (by decide) with ⟨k, hk2, rfl⟩ | hb
      · refine done 5 k d (k, q.2.1, q.2.2.1, q.2.2.2) (nI q.1) hd ⟨hk2, hq.2⟩ (Or.inr (Or.inl rfl)) c.1 rfl c.2.2.1 rfl ?_ ?_
        · unfold f_X8_set
          rw [ifr_y (b := 2) (B := 2) rfl hw (by decide), vc_k hk8, xcount, Option.bind_some, if_neg (show ¬ nI 1 = (0 : Int32) by decide), if_pos (show nI 1 = (1 : Int32) from rfl), ifr_y (b := 9999) (B := 9999) rfl hk2 (by decide), r0_2 hS, Option.bind_some, pI_k hk1, Option.bind_some]
          rfl
        · unfold f_X9_set
          rw [X9_in, ifr_y (b := 2) (B := 2) rfl hw (by decide), Option.bind_some, if_neg (show ¬ (1 : Int32) = 0 by decide), if_neg (show ¬ nI 1 = (0 : Int32) by decide)]
          unfold f_X9_set_21
          rw [if_neg (show ¬ nI 1 = (0 : Int32) by decide), if_pos (show nI 1 = (1 : Int32) from rfl)]
          unfold f_X9_set_43
          rw [X9_in, ifr_y (b := 9999) (B := 9999) rfl hk2 (by decide), Option.bind_some, if_neg (show ¬ (1 : Int32) = 0 by decide), if_neg (show ¬ nI 1 = (0 : Int32) by decide), if_pos (show nI 1 = (1 : Int32) from rfl), gI_k hk, show w2 m 3 5 (nI k) 50 1 = nI q.1 from g.2.1, Option.bind_some]
          unfold f_X9_set_79
          rw [if_neg (show ¬ nI 1 = (0 : Int32) by decide), gI_k hk, show w2 m 3 5 (nI k) 50 0 = nI d from g.1, Option.bind_some]
          unfold f_X9_set_93
          rw [pI_k hk, Option.bind_some, if_pos (show nI 1 = (1 : Int32) from rfl)]
          unfold f_X9_set_110
          rw [pI_k hk, Option.bind_some, if_neg (show ¬ nI 1 = (2 : Int32) by decide), gI_k hk, show w2 (w2 (w2 m 3 5 (nI k)) 50 0 (nI d)) 50 1 (nI k) 50 2 = nI q.2.1 from g.2.2.1, Option.bind_some]
          unfold f_X9_set_127
          rw [pI_k hk, Option.bind_some]
      · refine op_same (a := -2) hR0 ?_ ?_
        · unfold f_X8_set
          rw [ifr_y (b := 2) (B := 2) rfl hw (by decide), vc_k hk8, xcount, Option.bind_some, if_neg (show ¬ nI 1 = (0 : Int32) by decide), if_pos (show nI 1 = (1 : Int32) from rfl), ifr_n (b := 9999) (B := 9999) rfl hb]
          rfl
        · show f_X9_set (mk S m) (some 50) (nI 1) v = _
          unfold f_X9_set
          rw [X9_in, ifr_y (b := 2) (B := 2) rfl hw (by decide), Option.bind_some, if_neg (show ¬ (1 : Int32) = 0 by decide), if_neg (show ¬ nI 1 = (0 : Int32) by decide)]
          unfold f_X9_set_21
          rw [if_neg (show ¬ nI 1 = (0 : Int32) by decide), if_pos (show nI 1 = (1 : Int32) from rfl)]
          unfold f_X9_set_43
          rw [X9_in, ifr_n (b := 9999) (B := 9999) rfl hb, Option.bind_some, if_pos rfl]
    · rcases i_rng v (B := 99) (by decide) with ⟨k, hk2, rfl⟩ | hb
      · refine done 6 k d (q.1, k, q.2.2.1, q.2.2.2) (nI q.2.1) hd ⟨hq.1, hk2, hq.2.2⟩ (Or.inr (Or.inr rfl)) c.1 c.2.1 rfl rfl ?_ ?_
        · unfold f_X8_set
          rw [ifr_y (b := 2) (B := 2) rfl hw (by decide), vc_k hk8, xcount, Option.bind_some, if_neg (show ¬ nI 2 = (0 : Int32) by decide), if_neg (show ¬ nI 2 = (1 : Int32) by decide), ifr_y (b := 99) (B := 99) rfl hk2 (by decide), r0_2 hS, Option.bind_some, pI_k hk1, Option.bind_some]
          rfl
        · unfold f_X9_set
          rw [X9_in, ifr_y (b := 2) (B := 2) rfl hw (by decide), Option.bind_some, if_neg (show ¬ (1 : Int32) = 0 by decide), if_neg (show ¬ nI 2 = (0 : Int32) by decide)]
          unfold f_X9_set_21
          rw [if_neg (show ¬ nI 2 = (0 : Int32) by decide), if_neg (show ¬ nI 2 = (1 : Int32) by decide)]
          unfold f_X9_set_43
          rw [X9_in, ifr_y (b := 99) (B := 99) rfl hk2 (by decide), Option.bind_some, if_neg (show ¬ (1 : Int32) = 0 by decide), if_neg (show ¬ nI 2 = (0 : Int32) by decide), if_neg (show ¬ nI 2 = (1 : Int32) by decide), gI_k hk, show w2 m 3 6 (nI k) 50 2 = nI q.2.1 from g.2.2.1, Option.bind_some]
          unfold f_X9_set_79
          rw [if_neg (show ¬ nI 2 = (0 : Int32) by decide), gI_k hk, show w2 m 3 6 (nI k) 50 0 = nI d from g.1, Option.bind_some]
          unfold f_X9_set_93
          rw [pI_k hk, Option.bind_some, if_neg (show ¬ nI 2 = (1 : Int32) by decide), gI_k hk, show w2 (w2 m 3 6 (nI k)) 50 0 (nI d) 50 1 = nI q.1 from g.2.1, Option.bind_some]
          unfold f_X9_set_110
          rw [pI_k hk, Option.bind_some, if_pos (show nI 2 = (2 : Int32) from rfl)]
          unfold f_X9_set_127
          rw [pI_k hk, Option.bind_some]
      · refine op_same (a := -2) hR0 ?_ ?_
        · unfold f_X8_set
          rw [ifr_y (b := 2) (B := 2) rfl hw (by decide), vc_k hk8, xcount, Option.bind_some, if_neg (show ¬ nI 2 = (0 : Int32) by decide), if_neg (show ¬ nI 2 = (1 : Int32) by decide), ifr_n (b := 99) (B := 99) rfl hb]
          rfl
        · show f_X9_set (mk S m) (some 50) (nI 2) v = _
          unfold f_X9_set
          rw [X9_in, ifr_y (b := 2) (B := 2) rfl hw (by decide), Option.bind_some, if_neg (show ¬ (1 : Int32) = 0 by decide), if_neg (show ¬ nI 2 = (0 : Int32) by decide)]
          unfold f_X9_set_21
          rw [if_neg (show ¬ nI 2 = (0 : Int32) by decide), if_neg (show ¬ nI 2 = (1 : Int32) by decide)]
          unfold f_X9_set_43
          rw [X9_in, ifr_n (b := 99) (B := 99) rfl hb, Option.bind_some, if_pos rfl]
  · refine op_same (a := -1) hR0 ?_ ?_
    · unfold f_X8_set
      rw [ifr_n (b := 2) (B := 2) rfl hbad]
      rfl
    · show f_X9_set (mk S m) (some 50) w v = _
      unfold f_X9_set
      rw [X9_in, ifr_n (b := 2) (B := 2) rfl hbad, Option.bind_some, if_pos rfl]
