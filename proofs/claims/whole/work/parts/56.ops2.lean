/-! PURE: calls: count, force, come, stand, set, asks -/
theorem CI.mk' {S : SK} {m m2 : Nat → Nat → Int32} {g : Nat} {E E' : EN} {l l' : Nat} {q r : QS} (h : CI S m g E l q) (hE : EOK E') (hN : eN E' = eN E) (hW : eW E' = eW E) (hK : eK E' = eK E) (hT : eT E' = eT E) (hM : eM E' = eM E) (hl : l' < 6) (hr : QOK E' r) (ha : Ag (fun b => b = g) m m2) (hx : CText S m l' (eL E')) (f4 : m2 g 4 = nI (eD E')) (f5 : m2 g 5 = nI r.1) (f6 : m2 g 6 = nI r.2.1) (f7 : m2 g 7 = nI (eP E')) (f8 : m2 g 8 = nI r.2.2.1) (f9 : m2 g 9 = nI (eN E')) (f10 : m2 g 10 = nI r.2.2.2) (f11 : m2 g 11 = nI l') : CI S m2 g E' l' r := by
  obtain ⟨⟨hS, _, _, hco, _⟩, hg, ⟨_, _, _, _, _, _, _, _, ho⟩, _⟩ := h
  have hle := hg.le
  have hz : ZOK S (fun b => b = g) := ZOK.of (fun b hb => Or.inr (Or.inl (by omega)))
  refine ⟨⟨hS, hE, hl, ?_, hx.ag ha hz.2⟩, hg, ⟨f4, f5, f6, f7, f8, f9, f10, f11, ?_⟩, hr⟩
  · have := hco.ag ha hz.1
    unfold CCoin at this ⊢
    rw [hN, hK, hT, hM]
    exact this
  · intro p hp
    rw [ha (g + 1) (by omega), hW, hN]
    exact ho p hp
theorem MV.mk' {S : SK} {m m2 : Nat → Nat → Int32} {E E' : EN} {l l' : Nat} {q r : QS} (h : MV S m E l q) (hE : EOK E') (hN : eN E' = eN E) (hW : eW E' = eW E) (hK : eK E' = eK E) (hT : eT E' = eT E) (hM : eM E' = eM E) (hl : l' < 6) (hr : QOK E' r) (ha : ∀ b, 51 ≤ b ∧ b ≤ 57 → m2 b = m b) (hx : ∃ fr, TxM m l' (eL E') fr) (f0 : m2 50 0 = nI (eD E')) (f1 : m2 50 1 = nI r.1) (f2 : m2 50 2 = nI r.2.1) (f3 : m2 50 3 = nI (eP E')) (f4 : m2 50 4 = nI r.2.2.1) (f5 : m2 50 5 = nI (eN E')) (f10 : m2 50 10 = nI r.2.2.2) (f16 : m2 50 16 = nI l') (h37 : m2 50 37 = nI 0) : MV S m2 E' l' r := by
  obtain ⟨hS, _, _, ⟨_, _, _, _, _, _, _, _, arr, _⟩, _, _⟩ := h
  obtain ⟨fr, hx⟩ := hx
  refine ⟨hS, hE, hl, ⟨f0, f1, f2, f3, f4, f5, f10, f16, ?_, fr, hx.ag (ha 56 (by decide)) (ha 57 (by decide))⟩, hr, Or.inl h37⟩
  intro c hc
  rw [ha 51 (by decide), ha 52 (by decide), ha 53 (by decide), ha 54 (by decide), hW, hK, hT, hM]
  exact arr c (by rw [← hN]; exact hc)
theorem i_rng (x : Int32) {B : Nat} (hB : B < 2 ^ 30) : (∃ k, k ≤ B ∧ x = nI k) ∨ (x < 0 ∨ (¬ x < 0 ∧ nI B < x)) := by
  rcases i_in x (show B + 1 < 2 ^ 31 by omega) with ⟨k, hk, rfl⟩ | h
  · exact Or.inl ⟨k, by omega, rfl⟩
  · by_cases z : x < 0
    · exact Or.inr (Or.inl z)
    · obtain ⟨k, hk, rfl⟩ := i_of z
      have h2 := h.resolve_left z
      rw [nI_ltI hk (by omega)] at h2
      exact Or.inr (Or.inr ⟨z, (nI_ltI (by omega) hk).2 (by omega)⟩)
theorem ifr_y {α : Type} {A A' C : α} {b : Int32} {k B : Nat} (hb : b = nI B) (h : k ≤ B) (hB : B < 2 ^ 30) : (if nI k < 0 then A else if b < nI k then A' else C) = C := by
  rw [if_neg (nI_pos (by omega)), hb, if_neg (by rw [nI_ltI (by omega) (by omega)]; omega)]
theorem ifr_n {α : Type} {A C : α} {b x : Int32} {B : Nat} (hb : b = nI B) (h : x < 0 ∨ (¬ x < 0 ∧ nI B < x)) : (if x < 0 then A else if b < x then A else C) = A := by
  rcases h with h | ⟨h1, h2⟩
  · rw [if_pos h]
  · rw [if_neg h1, hb, if_pos h2]
theorem one_f {x : Int32} {B : Nat} (hB : B < 2 ^ 30) (h : x < 0 ∨ (¬ x < 0 ∧ nI B < x)) : x < 0 ∨ ¬ x < nI (B + 1) := by
  rcases h with h | ⟨h1, h2⟩
  · exact Or.inl h
  · obtain ⟨k, hk, rfl⟩ := i_of h1
    rw [nI_ltI (by omega) hk] at h2
    exact Or.inr (by rw [nI_ltI hk (by omega)]; omega)
theorem op_count {S : SK} {m : Nat → Nat → Int32} (hR : RR S m) (w : Int32) : RES (f_X8_count (mk S m) (some 0) w) (fun S1 m1 => f_X9_count (mk S1 m1) (some 50) w) := by
  have hR0 := hR
  have hS := hR.ok
  have hk8 : (sh S 0).1 = 8 := by rw [sk0 hS]
  have hk1 : (sh S 3).1 = 1 := by rw [sk3 hS]
  have hk : (sh S 50).1 = 9 := by rw [sk50 hS]
  obtain ⟨d, P, N, l, T, wh, kd, td, mo, prs, q, h⟩ := hR
  obtain ⟨hl, ⟨g1, g2, g3⟩, hO⟩ := h
  have c := g1.2.2.1
  have g := g2.2.2.2.1
  have hk3 : (sh S 33).1 = 3 := by rw [sk33 hS]
  obtain ⟨z, z1, z2, z3, z4⟩ := hO.2.2.2.1
  by_cases h0 : w = 0
  · refine op_same (a := nI d) hR0 ?_ ?_
    · unfold f_X8_count
      rw [if_pos h0, r0_2 hS, Option.bind_some, gI_k hk1, show m 3 4 = nI d from c.1, Option.bind_some]
    · show f_X9_count (mk S m) (some 50) w = _
      unfold f_X9_count
      rw [if_pos h0, gI_k hk, show m 50 0 = nI d from g.1, Option.bind_some]
  by_cases h1 : w = 1
  · refine op_same (a := nI q.1) hR0 ?_ ?_
    · unfold f_X8_count
      rw [if_neg h0, if_pos h1, r0_2 hS, Option.bind_some, gI_k hk1, show m 3 5 = nI q.1 from c.2.1, Option.bind_some]
    · show f_X9_count (mk S m) (some 50) w = _
      unfold f_X9_count
      rw [if_neg h0, if_pos h1, gI_k hk, show m 50 1 = nI q.1 from g.2.1, Option.bind_some]
  by_cases h2 : w = 2
  · refine op_same (a := nI q.2.1) hR0 ?_ ?_
    · unfold f_X8_count
      rw [if_neg h0, if_neg h1, if_pos h2, r0_2 hS, Option.bind_some, gI_k hk1, show m 3 6 = nI q.2.1 from c.2.2.1, Option.bind_some]
    · show f_X9_count (mk S m) (some 50) w = _
      unfold f_X9_count
      rw [if_neg h0, if_neg h1, if_pos h2, gI_k hk, show m 50 2 = nI q.2.1 from g.2.2.1, Option.bind_some]
  by_cases h3 : w = 3
  · refine op_same (a := nI P) hR0 ?_ ?_
    · unfold f_X8_count
      rw [if_neg h0, if_neg h1, if_neg h2, if_pos h3, r0_2 hS, Option.bind_some, gI_k hk1, show m 3 7 = nI P from c.2.2.2.1, Option.bind_some]
    · show f_X9_count (mk S m) (some 50) w = _
      unfold f_X9_count
      rw [if_neg h0, if_neg h1, if_neg h2, if_pos h3, gI_k hk, show m 50 3 = nI P from g.2.2.2.1, Option.bind_some]
  by_cases h4 : w = 4
  · refine op_same (a := nI q.2.2.1) hR0 ?_ ?_
    · unfold f_X8_count
      rw [if_neg h0, if_neg h1, if_neg h2, if_neg h3, if_pos h4, r0_2 hS, Option.bind_some, gI_k hk1, show m 3 8 = nI q.2.2.1 from c.2.2.2.2.1, Option.bind_some]
    · show f_X9_count (mk S m) (some 50) w = _
      unfold f_X9_count
      rw [if_neg h0, if_neg h1, if_neg h2, if_neg h3, if_pos h4, gI_k hk, show m 50 4 = nI q.2.2.1 from g.2.2.2.2.1, Option.bind_some]
  by_cases h5 : w = 5
  · refine op_same (a := nI N) hR0 ?_ ?_
    · unfold f_X8_count
      rw [if_neg h0, if_neg h1, if_neg h2, if_neg h3, if_neg h4, if_pos h5, r0_2 hS, Option.bind_some, gI_k hk1, show m 3 9 = nI N from c.2.2.2.2.2.1, Option.bind_some]
    · show f_X9_count (mk S m) (some 50) w = _
      unfold f_X9_count
      rw [if_neg h0, if_neg h1, if_neg h2, if_neg h3, if_neg h4, if_pos h5, gI_k hk, show m 50 5 = nI N from g.2.2.2.2.2.1, Option.bind_some]
  by_cases h6 : w = 6
  · refine op_same (a := nI T) hR0 ?_ ?_
    · unfold f_X8_count
      rw [if_neg h0, if_neg h1, if_neg h2, if_neg h3, if_neg h4, if_neg h5, if_pos h6, gI_k hk8, hO.1.2.2.1, Option.bind_some]
    · show f_X9_count (mk S m) (some 50) w = _
      unfold f_X9_count
      rw [if_neg h0, if_neg h1, if_neg h2, if_neg h3, if_neg h4, if_neg h5, if_pos h6, gI_k hk, show m 50 15 = nI T from hO.1.2.2.2.1, Option.bind_some]
  by_cases h7 : w = 7
  · refine op_same (a := nI l) hR0 ?_ ?_
    · unfold f_X8_count
      rw [if_neg h0, if_neg h1, if_neg h2, if_neg h3, if_neg h4, if_neg h5, if_neg h6, if_pos h7, r0_2 hS, Option.bind_some, gI_k hk1, show m 3 11 = nI l from c.2.2.2.2.2.2.2.1, Option.bind_some]
    · show f_X9_count (mk S m) (some 50) w = _
      unfold f_X9_count
      rw [if_neg h0, if_neg h1, if_neg h2, if_neg h3, if_neg h4, if_neg h5, if_neg h6, if_pos h7, gI_k hk, show m 50 16 = nI l from g.2.2.2.2.2.2.2.1, Option.bind_some]
  by_cases h8 : w = 8
  · refine op_same (a := nI z) hR0 ?_ ?_
    · unfold f_X8_count
      rw [if_neg h0, if_neg h1, if_neg h2, if_neg h3, if_neg h4, if_neg h5, if_neg h6, if_neg h7, if_pos h8, gR_k hk8, rk0_7 hS, Option.bind_some, gI_k hk3, z2, Option.bind_some]
    · show f_X9_count (mk S m) (some 50) w = _
      unfold f_X9_count
      rw [if_neg h0, if_neg h1, if_neg h2, if_neg h3, if_neg h4, if_neg h5, if_neg h6, if_neg h7, if_pos h8, gI_k hk, show m 50 12 = nI z from z3, Option.bind_some]
  refine op_same (a := -2) hR0 ?_ ?_
  · unfold f_X8_count
    rw [if_neg h0, if_neg h1, if_neg h2, if_neg h3, if_neg h4, if_neg h5, if_neg h6, if_neg h7, if_neg h8]
  · show f_X9_count (mk S m) (some 50) w = _
    unfold f_X9_count
    rw [if_neg h0, if_neg h1, if_neg h2, if_neg h3, if_neg h4, if_neg h5, if_neg h6, if_neg h7, if_neg h8]
theorem CI.tx {S : SK} {m : Nat → Nat → Int32} {N T : Nat} {kd td mo : Nat → Nat} {prs : Nat → Nat → List Nat} (h : RO S m N T kd td mo prs) {t : Nat} (ht : t < T) : CText S m t (prs t) ∧ ∃ fr, TxM m t (prs t) fr := h.1.2.2.2.2 t ht
theorem op_force {S : SK} {m : Nat → Nat → Int32} (hR : RR S m) (t : Int32) : RES (f_X8_force (mk S m) (some 0) t) (fun S1 m1 => f_X9_force (mk S1 m1) (some 50) t) := by
  have hR0 := hR
  have hS := hR.ok
  have hk8 : (sh S 0).1 = 8 := by rw [sk0 hS]
  have hk1 : (sh S 3).1 = 1 := by rw [sk3 hS]
  have hk : (sh S 50).1 = 9 := by rw [sk50 hS]
  obtain ⟨d, P, N, l, T, wh, kd, td, mo, prs, q, h⟩ := hR
  obtain ⟨hl, ⟨g1, g2, g3⟩, hO⟩ := h
  have hT6 := hO.1.2.1
  have e9 := hO.1.2.2.1
  have e15 := hO.1.2.2.2.1
  rcases i_in t (show T < 2 ^ 31 by omega) with ⟨k, hkT, rfl⟩ | hno
  · have c := g1.2.2.1
    have g := g2.2.2.2.1
    have ag1 : Ag (fun b => b = 3) m (w2 m 3 11 (nI k)) := Ag.w2 (Z := fun b => b = 3) Ag.rf rfl
    have ag2 : AgM ZM2 JG (w2 m 3 11 (nI k)) (w2 (w2 m 3 11 (nI k)) 50 16 (nI k)) := AgM.w50 AgM.rf (by unfold JG; omega)
    have hC : CI S (w2 m 3 11 (nI k)) 3 (mkE d P N wh kd td mo (prs k)) k q := g1.mk' g1.1.2.1 rfl rfl rfl rfl rfl (by omega) g1.2.2.2 ag1 (CI.tx hO hkT).1 c.1 c.2.1 c.2.2.1 c.2.2.2.1 c.2.2.2.2.1 c.2.2.2.2.2.1 c.2.2.2.2.2.2.1 rfl
    refine op_mk (a := nI l) (S1 := S) (m1 := w2 m 3 11 (nI k)) (S2 := S) (m2 := w2 (w2 m 3 11 (nI k)) 50 16 (nI k)) ?_ ?_ ⟨d, P, N, k, T, wh, kd, td, mo, prs, q, hkT, ⟨hC.m (L := lg S) ag2, ?_, ?_⟩, hO.g (L := lg S) (ag1.mono (fun b hb => Or.inl hb)) ag2⟩
    · unfold f_X8_force
      rw [if_neg (nI_pos (by omega)), gI_k hk8, e9, Option.bind_some, if_pos (nI_lt hkT (by omega)), r0_2 hS, Option.bind_some, gI_k hk1, c.2.2.2.2.2.2.2.1, Option.bind_some, Option.bind_some, pI_k hk1, Option.bind_some]
    · show f_X9_force (mk S (w2 m 3 11 (nI k))) (some 50) (nI k) = _
      unfold f_X9_force
      rw [gI_k hk, show w2 m 3 11 (nI k) 50 15 = nI T from e15, Option.bind_some, X9_in, one_b (by omega), one_y hkT (by omega), Option.bind_some, if_neg (show ¬ (1 : Int32) = 0 by decide), gI_k hk, show w2 m 3 11 (nI k) 50 16 = nI l from g.2.2.2.2.2.2.2.1, Option.bind_some, pI_k hk, Option.bind_some]
    · exact g2.mk' g2.2.1 rfl rfl rfl rfl rfl (by omega) g2.2.2.2.2.1 (fun b hb => by rw [w2_ne (by omega), w2_ne (by omega)]) (CI.tx hO hkT).2 g.1 g.2.1 g.2.2.1 g.2.2.2.1 g.2.2.2.2.1 g.2.2.2.2.2.1 g.2.2.2.2.2.2.1 rfl g3
    · exact g3
  · refine op_same (a := -2) hR0 ?_ ?_
    · unfold f_X8_force
      by_cases z : t < 0
      · rw [if_pos z]
        rfl
      · rw [if_neg z, gI_k hk8, e9, Option.bind_some, if_neg (hno.resolve_left z)]
        rfl
    · show f_X9_force (mk S m) (some 50) t = _
      unfold f_X9_force
      rw [gI_k hk, e15, Option.bind_some, X9_in, one_b (by omega), one_n hno, Option.bind_some, if_pos rfl]
theorem op_come {S : SK} {m : Nat → Nat → Int32} (hR : RR S m) : RES (f_X8_come (mk S m) (some 0)) (fun S1 m1 => f_X9_come (mk S1 m1) (some 50)) := by
  have hR0 := hR
  have hS := hR.ok
  have hk8 : (sh S 0).1 = 8 := by rw [sk0 hS]
  have hk1 : (sh S 3).1 = 1 := by rw [sk3 hS]
  have hk : (sh S 50).1 = 9 := by rw [sk50 hS]
  obtain ⟨d, P, N, l, T, wh, kd, td, mo, prs, q, h⟩ := hR
  obtain ⟨hl, ⟨g1, g2, g3⟩, hO⟩ := h
  have c := g1.2.2.1
  have g := g2.2.2.2.1
  have hE := g1.1.2.1
  have hq := g1.2.2.2
  have hP : P ≤ 4 := hE.2.1
  have c7 : m 3 7 = nI P := c.2.2.2.1
  have g7 : m 50 3 = nI P := g.2.2.2.1
  by_cases h4 : P = 4
  · subst h4
    refine op_same (a := -4) hR0 ?_ ?_
    · unfold f_X8_come
      rw [r0_2 hS, Option.bind_some, gI_k hk1, c7, Option.bind_some, if_neg nlt4]
    · show f_X9_come (mk S m) (some 50) = _
      unfold f_X9_come
      rw [gI_k hk, g7, Option.bind_some, if_pos (show nI 4 = (4 : Int32) from rfl)]
  · have hi : q.2.2.1 < 2 ^ P := hq.2.2.1
    have hi16 := p16 hP hi
    have eclr : q.2.2.1 ^^^ (q.2.2.1 &&& 2 ^ P) = q.2.2.1 := by
      apply Nat.eq_of_testBit_eq
      intro i
      rw [tb_diff, Nat.testBit_two_pow]
      by_cases z : P = i
      · subst z
        rw [bits_ge hi (Nat.le_refl _)]
        rfl
      · simp [z]
    have hE' : EOK (mkE d (P + 1) N wh kd td mo (prs l)) := ⟨hE.1, show P + 1 ≤ 4 by omega, hE.2.2.1, fun c hc => by
      have := hE.2.2.2 c hc
      exact ⟨Nat.lt_succ_of_lt this.1, this.2⟩⟩
    have hq' : QOK (mkE d (P + 1) N wh kd td mo (prs l)) q := ⟨hq.1, hq.2.1, Nat.lt_of_lt_of_le hi (Nat.pow_le_pow_right (by decide) (Nat.le_succ P)), hq.2.2.2⟩
    have e1 : nI P + (1 : Int32) = nI (P + 1) := nI_add P 1
    have e2 : nI (P + 1) - (1 : Int32) = nI P := pk_sub (b := 1) (by omega)
    have ag1 : Ag (fun b => b = 3) m (w2 m 3 7 (nI (P + 1))) := Ag.w2 (Z := fun b => b = 3) Ag.rf rfl
    have ag2 : AgM ZM2 JG (w2 m 3 7 (nI (P + 1))) (w2 (w2 (w2 m 3 7 (nI (P + 1))) 50 4 (nI q.2.2.1)) 50 3 (nI (P + 1))) := (AgM.rf.w50 (by unfold JG; omega)).w50 (by unfold JG; omega)
    have hC : CI S (w2 m 3 7 (nI (P + 1))) 3 (mkE d (P + 1) N wh kd td mo (prs l)) l q := g1.mk' hE' rfl rfl rfl rfl rfl g1.1.2.2.1 hq' ag1 g1.1.2.2.2.2 c.1 c.2.1 c.2.2.1 rfl c.2.2.2.2.1 c.2.2.2.2.2.1 c.2.2.2.2.2.2.1 c.2.2.2.2.2.2.2.1
    refine op_mk (a := nI P) (S1 := S) (m1 := w2 m 3 7 (nI (P + 1))) (S2 := S) (m2 := w2 (w2 (w2 m 3 7 (nI (P + 1))) 50 4 (nI q.2.2.1)) 50 3 (nI (P + 1))) ?_ ?_ ⟨d, P + 1, N, l, T, wh, kd, td, mo, prs, q, hl, ⟨hC.m (L := lg S) ag2, ?_, g3⟩, hO.g (L := lg S) (ag1.mono (fun b hb => Or.inl hb)) ag2⟩
    · unfold f_X8_come
      rw [r0_2 hS, Option.bind_some, gI_k hk1, c7, Option.bind_some, if_pos (lt4 (by omega)), Option.bind_some, gI_k hk1, c7, Option.bind_some, pI_k hk1, Option.bind_some, e1, r0_2 hS, Option.bind_some, gI_k hk1, w2_ap, if_pos ⟨rfl, rfl⟩, Option.bind_some, e2]
    · show f_X9_come (mk S (w2 m 3 7 (nI (P + 1)))) (some 50) = _
      unfold f_X9_come
      rw [gI_k hk, show w2 m 3 7 (nI (P + 1)) 50 3 = nI P from g7, Option.bind_some, if_neg (show ¬ nI P = (4 : Int32) from fun z => h4 ((nI_eq (b := 4) (by omega) (by omega)).1 z)), gI_k hk, show w2 m 3 7 (nI (P + 1)) 50 4 = nI q.2.2.1 from g.2.2.2.2.1, Option.bind_some, Option.bind_some, show (1 : Int32) <<< (nI P &&& 31) = nI (2 ^ P) from shl1 (by omega), compl_n (by omega), eclr, pI_k hk, Option.bind_some, gI_k hk, show w2 (w2 m 3 7 (nI (P + 1))) 50 4 (nI q.2.2.1) 50 3 = nI P from g7, Option.bind_some, e1, pI_k hk, Option.bind_some, gI_k hk, w2_ap, if_pos ⟨rfl, rfl⟩, Option.bind_some, e2]
    · exact g2.mk' hE' rfl rfl rfl rfl rfl g1.1.2.2.1 hq' (fun b hb => by rw [w2_ne (by omega), w2_ne (by omega), w2_ne (by omega)]) g.2.2.2.2.2.2.2.2.2 g.1 g.2.1 g.2.2.1 rfl rfl g.2.2.2.2.2.1 g.2.2.2.2.2.2.1 g.2.2.2.2.2.2.2.1 g3
