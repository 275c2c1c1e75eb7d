/-! PURE: the law's loop, and its end -/
theorem L_step {S : SK} {m : Nat → Nat → Int32} {x : Option (Int32 × XM)} {Y : XM → Option (Int32 × XM)} {N : XM → Option (Int32 × XM)} (hk8 : (sh S 0).1 = 8) (h : RES x (fun S1 m1 => Y (mk S1 m1))) : ∃ S2 m2, RR S2 m2 ∧ ((vc (mk S m) 8 (some 0) x).bind fun q => (vc q.2 9 (some 50) (Y q.2)).bind fun q2 => if q.1 = q2.1 then N q2.2 else rz q2.2 ((0 : Int32))) = N (mk S2 m2) := by
  obtain ⟨a, S1, m1, S2, m2, e1, e2, h2, h50⟩ := h
  have hk9 : (sh S1 50).1 = 9 := by rw [h50]
  have e2 : Y (mk S1 m1) = some (a, mk S2 m2) := e2
  refine ⟨S2, m2, h2, ?_⟩
  rw [vc_k hk8, e1, Option.bind_some]
  show ((vc (mk S1 m1) 9 (some 50) (Y (mk S1 m1))).bind fun q2 => if a = q2.1 then N q2.2 else rz q2.2 ((0 : Int32))) = _
  rw [vc_k hk9, e2, Option.bind_some, if_pos rfl]
theorem cmp_same (a : Int64) : lg_cmp a a = 0 := by
  unfold lg_cmp
  simp
theorem L_stepL {S : SK} {m : Nat → Nat → Int32} {x : Option (Int64 × XM)} {Y : XM → Option (Int64 × XM)} {N : XM → Option (Int32 × XM)} (hk8 : (sh S 0).1 = 8) (h : RESL x (fun S1 m1 => Y (mk S1 m1))) : ∃ S2 m2, RR S2 m2 ∧ ((vc (mk S m) 8 (some 0) x).bind fun q => (vc q.2 9 (some 50) (Y q.2)).bind fun q2 => if (lg_cmp q.1 q2.1) = 0 then N q2.2 else rz q2.2 ((0 : Int32))) = N (mk S2 m2) := by
  obtain ⟨a, S1, m1, S2, m2, e1, e2, h2, h50⟩ := h
  have hk9 : (sh S1 50).1 = 9 := by rw [h50]
  have e2 : Y (mk S1 m1) = some (a, mk S2 m2) := e2
  refine ⟨S2, m2, h2, ?_⟩
  rw [vc_k hk8, e1, Option.bind_some]
  show ((vc (mk S1 m1) 9 (some 50) (Y (mk S1 m1))).bind fun q2 => if (lg_cmp a q2.1) = 0 then N q2.2 else rz q2.2 ((0 : Int32))) = _
  rw [vc_k hk9, e2, Option.bind_some, cmp_same, if_pos rfl]
theorem rS_n {xn j : Nat} {xs : Nat → Int32} (h : j < xn) (hx : xn ≤ 3584) : rS xn xs (nI j) = some (xs j) := by
  unfold rS
  rw [if_pos (ixN h (by omega)), nI_clamp (by omega)]
theorem law_body {S : SK} {m : Nat → Nat → Int32} {xn i : Nat} {xs9 : Nat → Int32} {k : XM → Option Nat → Option Nat → Int32 → Option (Int32 × XM)} (hR : RR S m) (hi : i + 7 ≤ xn) (hx : xn ≤ 3584) : ∃ S2 m2, RR S2 m2 ∧ fb_L_law_18 xn xs9 k (mk S m) (some 0) (some 50) (nI i) = f_L_law_1323 xn xs9 k (mk S2 m2) (some 0) (some 50) (nI i) := by
  have hS := hR.ok
  have hk8 : (sh S 0).1 = 8 := by rw [sk0 hS]
  have d0 : rS xn xs9 (nI i) = some (xs9 i) := rS_n (by omega) hx
  have d1 : rS xn xs9 (nI i + (1 : Int32)) = some (xs9 (i + 1)) := by
    rw [show nI i + (1 : Int32) = nI (i + 1) from nI_add i 1]
    exact rS_n (by omega) hx
  have d2 : rS xn xs9 (nI i + (2 : Int32)) = some (xs9 (i + 2)) := by
    rw [show nI i + (2 : Int32) = nI (i + 2) from nI_add i 2]
    exact rS_n (by omega) hx
  have d3 : rS xn xs9 (nI i + (3 : Int32)) = some (xs9 (i + 3)) := by
    rw [show nI i + (3 : Int32) = nI (i + 3) from nI_add i 3]
    exact rS_n (by omega) hx
  have d4 : rS xn xs9 (nI i + (4 : Int32)) = some (xs9 (i + 4)) := by
    rw [show nI i + (4 : Int32) = nI (i + 4) from nI_add i 4]
    exact rS_n (by omega) hx
  have d5 : rS xn xs9 (nI i + (5 : Int32)) = some (xs9 (i + 5)) := by
    rw [show nI i + (5 : Int32) = nI (i + 5) from nI_add i 5]
    exact rS_n (by omega) hx
  have d6 : rS xn xs9 (nI i + (6 : Int32)) = some (xs9 (i + 6)) := by
    rw [show nI i + (6 : Int32) = nI (i + 6) from nI_add i 6]
    exact rS_n (by omega) hx
  unfold fb_L_law_18
  rw [if_neg (show ¬ (nI xn - (7 : Int32) < nI i) by
    rw [show nI xn - (7 : Int32) = nI (xn - 7) from pk_sub (b := 7) (by omega)]
    exact nI_nlt (by omega) (by omega)), d0, Option.bind_some, bnd_eq]
  generalize xs9 i &&& (63 : Int32) = v
  by_cases c0 : v = (0 : Int32)
  · rw [if_pos c0, d1, d2]
    exact L_step hk8 (Y := fun h => f_X9_set h (some 50) (xs9 (i + 1)) (xs9 (i + 2))) (N := fun h => f_L_law_1323 xn xs9 k h (some 0) (some 50) (nI i)) (op_set hR (xs9 (i + 1)) (xs9 (i + 2)))
  rw [if_neg c0]
  by_cases c1 : v = (1 : Int32)
  · rw [if_pos c1]
    exact L_step hk8 (Y := fun h => f_X9_come h (some 50) ) (N := fun h => f_L_law_1323 xn xs9 k h (some 0) (some 50) (nI i)) (op_come hR )
  rw [if_neg c1]
  by_cases c2 : v = (2 : Int32)
  · rw [if_pos c2, d1, d2]
    exact L_step hk8 (Y := fun h => f_X9_stand h (some 50) (xs9 (i + 1)) (xs9 (i + 2))) (N := fun h => f_L_law_1323 xn xs9 k h (some 0) (some 50) (nI i)) (op_stand hR (xs9 (i + 1)) (xs9 (i + 2)))
  rw [if_neg c2]
  by_cases c3 : v = (3 : Int32)
  · rw [if_pos c3, d1]
    exact L_step hk8 (Y := fun h => f_X9_count h (some 50) (xs9 (i + 1))) (N := fun h => f_L_law_1323 xn xs9 k h (some 0) (some 50) (nI i)) (op_count hR (xs9 (i + 1)))
  rw [if_neg c3]
  by_cases c4 : v = (4 : Int32)
  · rw [if_pos c4, d1, d2, d3, d4, d5, d6]
    exact L_step hk8 (Y := fun h => f_X9_feed h (some 50) (xs9 (i + 1)) (xs9 (i + 2)) (xs9 (i + 3)) (xs9 (i + 4)) (xs9 (i + 5)) (xs9 (i + 6))) (N := fun h => f_L_law_1323 xn xs9 k h (some 0) (some 50) (nI i)) (op_feed hR (xs9 (i + 1)) (xs9 (i + 2)) (xs9 (i + 3)) (xs9 (i + 4)) (xs9 (i + 5)) (xs9 (i + 6)))
  rw [if_neg c4]
  by_cases c5 : v = (5 : Int32)
  · rw [if_pos c5]
    exact L_step hk8 (Y := fun h => f_X9_text h (some 50) ) (N := fun h => f_L_law_1323 xn xs9 k h (some 0) (some 50) (nI i)) (op_text hR )
  rw [if_neg c5]
  by_cases c6 : v = (6 : Int32)
  · rw [if_pos c6, d1]
    exact L_step hk8 (Y := fun h => f_X9_force h (some 50) (xs9 (i + 1))) (N := fun h => f_L_law_1323 xn xs9 k h (some 0) (some 50) (nI i)) (op_force hR (xs9 (i + 1)))
  rw [if_neg c6]
  by_cases c7 : v = (7 : Int32)
  · rw [if_pos c7, d1, d2, d3, d4, d5]
    exact L_step hk8 (Y := fun h => f_X9_asks h (some 50) (xs9 (i + 1)) (xs9 (i + 2)) (xs9 (i + 3)) (xs9 (i + 4)) (xs9 (i + 5))) (N := fun h => f_L_law_1323 xn xs9 k h (some 0) (some 50) (nI i)) (op_asks hR (xs9 (i + 1)) (xs9 (i + 2)) (xs9 (i + 3)) (xs9 (i + 4)) (xs9 (i + 5)))
  rw [if_neg c7]
  by_cases c8 : v = (8 : Int32)
  · rw [if_pos c8, d1, d2, d3, d4]
    exact L_step hk8 (Y := fun h => f_X9_coin h (some 50) (xs9 (i + 1)) (xs9 (i + 2)) (xs9 (i + 3)) (xs9 (i + 4))) (N := fun h => f_L_law_1323 xn xs9 k h (some 0) (some 50) (nI i)) (op_coin hR (xs9 (i + 1)) (xs9 (i + 2)) (xs9 (i + 3)) (xs9 (i + 4)))
  rw [if_neg c8]
  by_cases c9 : v = (9 : Int32)
  · rw [if_pos c9, d1, d2]
    exact L_step hk8 (Y := fun h => f_X9_sell h (some 50) (xs9 (i + 1)) (xs9 (i + 2))) (N := fun h => f_L_law_1323 xn xs9 k h (some 0) (some 50) (nI i)) (op_sell hR (xs9 (i + 1)) (xs9 (i + 2)))
  rw [if_neg c9]
  by_cases c10 : v = (10 : Int32)
  · rw [if_pos c10, d1, d2]
    exact L_step hk8 (Y := fun h => f_X9_told h (some 50) (xs9 (i + 1)) (xs9 (i + 2))) (N := fun h => f_L_law_1323 xn xs9 k h (some 0) (some 50) (nI i)) (op_told hR (xs9 (i + 1)) (xs9 (i + 2)))
  rw [if_neg c10]
  by_cases c11 : v = (11 : Int32)
  · rw [if_pos c11, d1]
    exact L_step hk8 (Y := fun h => f_X9_put h (some 50) (xs9 (i + 1))) (N := fun h => f_L_law_1323 xn xs9 k h (some 0) (some 50) (nI i)) (op_put hR (xs9 (i + 1)))
  rw [if_neg c11]
  by_cases c12 : v = (12 : Int32)
  · rw [if_pos c12, d1]
    exact L_step hk8 (Y := fun h => f_X9_worth h (some 50) (xs9 (i + 1))) (N := fun h => f_L_law_1323 xn xs9 k h (some 0) (some 50) (nI i)) (op_worth hR (xs9 (i + 1)))
  rw [if_neg c12]
  by_cases c13 : v = (13 : Int32)
  · rw [if_pos c13, d1, d2]
    exact L_step hk8 (Y := fun h => f_X9_gang h (some 50) (xs9 (i + 1)) (xs9 (i + 2))) (N := fun h => f_L_law_1323 xn xs9 k h (some 0) (some 50) (nI i)) (op_gang hR (xs9 (i + 1)) (xs9 (i + 2)))
  rw [if_neg c13]
  by_cases c14 : v = (14 : Int32)
  · rw [if_pos c14, d1, d2]
    exact L_step hk8 (Y := fun h => f_X9_spare h (some 50) (xs9 (i + 1)) (xs9 (i + 2))) (N := fun h => f_L_law_1323 xn xs9 k h (some 0) (some 50) (nI i)) (op_spare hR (xs9 (i + 1)) (xs9 (i + 2)))
  rw [if_neg c14]
  by_cases c15 : v = (15 : Int32)
  · rw [if_pos c15, d1]
    exact L_step hk8 (Y := fun h => f_X9_reach h (some 50) (xs9 (i + 1))) (N := fun h => f_L_law_1323 xn xs9 k h (some 0) (some 50) (nI i)) (op_reach hR (xs9 (i + 1)))
  rw [if_neg c15]
  by_cases c16 : v = (16 : Int32)
  · rw [if_pos c16]
    exact L_step hk8 (Y := fun h => f_X9_keys h (some 50) ) (N := fun h => f_L_law_1323 xn xs9 k h (some 0) (some 50) (nI i)) (op_keys hR )
  rw [if_neg c16]
  by_cases c17 : v = (17 : Int32)
  · rw [if_pos c17]
    exact L_step hk8 (Y := fun h => f_X9_gifts h (some 50) ) (N := fun h => f_L_law_1323 xn xs9 k h (some 0) (some 50) (nI i)) (op_gifts hR )
  rw [if_neg c17]
  by_cases c18 : v = (18 : Int32)
  · rw [if_pos c18, d1, d2]
    exact L_step hk8 (Y := fun h => f_X9_rest h (some 50) (xs9 (i + 1)) (xs9 (i + 2))) (N := fun h => f_L_law_1323 xn xs9 k h (some 0) (some 50) (nI i)) (op_rest hR (xs9 (i + 1)) (xs9 (i + 2)))
  rw [if_neg c18]
  by_cases c19 : v = (19 : Int32)
  · rw [if_pos c19, d1]
    exact L_step hk8 (Y := fun h => f_X9_moves h (some 50) (xs9 (i + 1))) (N := fun h => f_L_law_1323 xn xs9 k h (some 0) (some 50) (nI i)) (op_moves hR (xs9 (i + 1)))
  rw [if_neg c19]
  by_cases c20 : v = (20 : Int32)
  · rw [if_pos c20, d1]
    exact L_step hk8 (Y := fun h => f_X9_play h (some 50) (xs9 (i + 1))) (N := fun h => f_L_law_1323 xn xs9 k h (some 0) (some 50) (nI i)) (op_play hR (xs9 (i + 1)))
  rw [if_neg c20]
  by_cases c21 : v = (21 : Int32)
  · rw [if_pos c21, d1, d2]
    exact L_step hk8 (Y := fun h => f_X9_which h (some 50) (xs9 (i + 1)) (xs9 (i + 2))) (N := fun h => f_L_law_1323 xn xs9 k h (some 0) (some 50) (nI i)) (op_which hR (xs9 (i + 1)) (xs9 (i + 2)))
  rw [if_neg c21]
  by_cases c22 : v = (22 : Int32)
  · rw [if_pos c22, d1, d2, d3]
    exact L_step hk8 (Y := fun h => f_X9_next_ h (some 50) (xs9 (i + 1)) (xs9 (i + 2)) (xs9 (i + 3))) (N := fun h => f_L_law_1323 xn xs9 k h (some 0) (some 50) (nI i)) (op_next hR (xs9 (i + 1)) (xs9 (i + 2)) (xs9 (i + 3)))
  rw [if_neg c22]
  by_cases c23 : v = (23 : Int32)
  · rw [if_pos c23, d1]
    exact L_step hk8 (Y := fun h => f_X9_judge h (some 50) (xs9 (i + 1))) (N := fun h => f_L_law_1323 xn xs9 k h (some 0) (some 50) (nI i)) (op_judge hR (xs9 (i + 1)))
  rw [if_neg c23]
  by_cases c24 : v = (24 : Int32)
  · rw [if_pos c24, d1]
    exact L_step hk8 (Y := fun h => f_X9_laws h (some 50) (xs9 (i + 1))) (N := fun h => f_L_law_1323 xn xs9 k h (some 0) (some 50) (nI i)) (op_laws hR (xs9 (i + 1)))
  rw [if_neg c24]
  by_cases c25 : v = (25 : Int32)
  · rw [if_pos c25, d1]
    exact L_step hk8 (Y := fun h => f_X9_numbers h (some 50) (xs9 (i + 1))) (N := fun h => f_L_law_1323 xn xs9 k h (some 0) (some 50) (nI i)) (op_numbers hR (xs9 (i + 1)))
  rw [if_neg c25]
  by_cases c26 : v = (26 : Int32)
  · rw [if_pos c26, d1]
    exact L_step hk8 (Y := fun h => f_X9_film h (some 50) (xs9 (i + 1))) (N := fun h => f_L_law_1323 xn xs9 k h (some 0) (some 50) (nI i)) (op_film hR (xs9 (i + 1)))
  rw [if_neg c26]
  by_cases c27 : v = (27 : Int32)
  · rw [if_pos c27, d1]
    exact L_step hk8 (Y := fun h => f_X9_drawn h (some 50) (xs9 (i + 1))) (N := fun h => f_L_law_1323 xn xs9 k h (some 0) (some 50) (nI i)) (op_drawn hR (xs9 (i + 1)))
  rw [if_neg c27]
  by_cases c28 : v = (28 : Int32)
  · rw [if_pos c28, d1, d2, d3]
    exact L_stepL hk8 (Y := fun h => f_X9_mean h (some 50) (xs9 (i + 1)) (xs9 (i + 2)) (xs9 (i + 3))) (N := fun h => f_L_law_1323 xn xs9 k h (some 0) (some 50) (nI i)) (op_mean hR (xs9 (i + 1)) (xs9 (i + 2)) (xs9 (i + 3)))
  rw [if_neg c28]
  by_cases c29 : v = (29 : Int32)
  · rw [if_pos c29]
    exact L_step hk8 (Y := fun h => f_X9_image h (some 50) ) (N := fun h => f_L_law_1323 xn xs9 k h (some 0) (some 50) (nI i)) (op_image hR )
  rw [if_neg c29]
  by_cases c30 : v = (30 : Int32)
  · rw [if_pos c30]
    exact L_step hk8 (Y := fun h => f_X9_back h (some 50) ) (N := fun h => f_L_law_1323 xn xs9 k h (some 0) (some 50) (nI i)) (op_back hR )
  rw [if_neg c30]
  by_cases c31 : v = (31 : Int32)
  · rw [if_pos c31, d1, d2, d3]
    exact L_step hk8 (Y := fun h => f_X9_sheet h (some 50) (xs9 (i + 1)) (xs9 (i + 2)) (xs9 (i + 3))) (N := fun h => f_L_law_1323 xn xs9 k h (some 0) (some 50) (nI i)) (op_sheet hR (xs9 (i + 1)) (xs9 (i + 2)) (xs9 (i + 3)))
  rw [if_neg c31]
  by_cases c32 : v = (32 : Int32)
  · rw [if_pos c32, d1, d2, d3]
    exact L_step hk8 (Y := fun h => f_X9_cell h (some 50) (xs9 (i + 1)) (xs9 (i + 2)) (xs9 (i + 3))) (N := fun h => f_L_law_1323 xn xs9 k h (some 0) (some 50) (nI i)) (op_cell hR (xs9 (i + 1)) (xs9 (i + 2)) (xs9 (i + 3)))
  rw [if_neg c32]
  by_cases c33 : v = (33 : Int32)
  · rw [if_pos c33, d1, d2, d3, d4, d5]
    exact L_step hk8 (Y := fun h => f_X9_copy h (some 50) (xs9 (i + 1)) (xs9 (i + 2)) (xs9 (i + 3)) (xs9 (i + 4)) (xs9 (i + 5))) (N := fun h => f_L_law_1323 xn xs9 k h (some 0) (some 50) (nI i)) (op_copy hR (xs9 (i + 1)) (xs9 (i + 2)) (xs9 (i + 3)) (xs9 (i + 4)) (xs9 (i + 5)))
  rw [if_neg c33]
  by_cases c34 : v = (34 : Int32)
  · rw [if_pos c34, d1, d2, d3, d4]
    exact L_step hk8 (Y := fun h => f_X9_coinsBy h (some 50) (xs9 (i + 1)) (xs9 (i + 2)) (xs9 (i + 3)) (xs9 (i + 4))) (N := fun h => f_L_law_1323 xn xs9 k h (some 0) (some 50) (nI i)) (op_coinsBy hR (xs9 (i + 1)) (xs9 (i + 2)) (xs9 (i + 3)) (xs9 (i + 4)))
  rw [if_neg c34]
  by_cases c35 : v = (35 : Int32)
  · rw [if_pos c35, d1, d2]
    exact L_step hk8 (Y := fun h => f_X9_taken h (some 50) (xs9 (i + 1)) (xs9 (i + 2))) (N := fun h => f_L_law_1323 xn xs9 k h (some 0) (some 50) (nI i)) (op_taken hR (xs9 (i + 1)) (xs9 (i + 2)))
  rw [if_neg c35]
  exact ⟨S, m, hR, rfl⟩
theorem law_loop {xn : Nat} {xs9 : Nat → Int32} (hx : xn ≤ 3584) : ∀ (r f i : Nat) (S : SK) (m : Nat → Nat → Int32), RR S m → i + 7 * r ≤ xn → xn < i + 7 * r + 7 → r < f → ∃ h, f_L_law_18 xn xs9 f (mk S m) (some 0) (some 50) (nI i) = some (1, h) := by
  intro r
  induction r with
  | zero =>
    intro f i S m hR h1 h2 hf
    obtain ⟨f, rfl⟩ : ∃ k, f = k + 1 := ⟨f - 1, by omega⟩
    refine ⟨mk S m, ?_⟩
    show fb_L_law_18 xn xs9 (f_L_law_18 xn xs9 f) (mk S m) (some 0) (some 50) (nI i) = _
    unfold fb_L_law_18
    rw [if_pos (show nI xn - (7 : Int32) < nI i by
      rw [fa_lt, show (7 : Int32) = nI 7 from rfl, pk_sub_toInt (by omega) (by omega), nI_toInt (by omega)]
      omega), rz1]
  | succ r ih =>
    intro f i S m hR h1 h2 hf
    obtain ⟨f, rfl⟩ : ∃ k, f = k + 1 := ⟨f - 1, by omega⟩
    obtain ⟨S2, m2, a1, a2⟩ := law_body (k := f_L_law_18 xn xs9 f) (xs9 := xs9) hR (show i + 7 ≤ xn by omega) hx
    obtain ⟨h, e⟩ := ih f (i + 7) S2 m2 a1 (by omega) (by omega) (by omega)
    refine ⟨h, ?_⟩
    show fb_L_law_18 xn xs9 (f_L_law_18 xn xs9 f) (mk S m) (some 0) (some 50) (nI i) = _
    rw [a2]
    unfold f_L_law_1323
    rw [bnd_eq, show nI i + (7 : Int32) = nI (i + 7) from nI_add i 7]
    exact e
theorem pure_law : ∀ (xn : Nat) (xs9 : Nat → Int32), xn ≤ 3584 → ∃ h, f_L_law xn xs9 x0 = some (1, h) := by
  intro xn xs9 hx
  obtain ⟨h1, S, m, e1, e2, e3, hR⟩ := init_both
  obtain ⟨h, e⟩ := law_loop (xs9 := xs9) hx (xn / 7) 514 0 S m hR (by omega) (by omega) (by omega)
  refine ⟨h, ?_⟩
  unfold f_L_law
  show ((some (nw x0 8 11)).bind fun h209 => (((some 0)).bind fun _ => f_X8_init h209 (some 0)).bind fun q210 => (nO q210 9 49).bind fun h211 => (((some (xc q210))).bind fun _ => f_X9_init h211 (some (xc q210))).bind fun q212 => f_L_law_18 xn xs9 514 q212 (some 0) (some (xc q210)) ((0 : Int32))) = _
  rw [Option.bind_some, Option.bind_some, e1, Option.bind_some]
  show ((some (nw h1 9 49)).bind fun h211 => (((some h1.1)).bind fun _ => f_X9_init h211 (some h1.1)).bind fun q212 => f_L_law_18 xn xs9 514 q212 (some 0) (some h1.1) ((0 : Int32))) = _
  rw [Option.bind_some, Option.bind_some, e2, e3, Option.bind_some]
  exact e
