/-! PURE: calls: gang, spare, reach -/
def DGP (N d dg : Nat) : Prop := dg < 10 ^ d ∧ ∀ k, k < d → 1 ≤ dg / 10 ^ k % 10 ∧ dg / 10 ^ k % 10 ≤ N
theorem DGP.step {N d dg i : Nat} (h : DGP N d dg) (hN : N ≤ 7) (hi : i < N) : DGP N (d + 1) (10 * dg + i + 1) := by
  obtain ⟨h1, h2⟩ := h
  refine ⟨by rw [Nat.pow_succ]; omega, fun k hk => ?_⟩
  cases k with
  | zero =>
    rw [Nat.pow_zero, Nat.div_one]
    omega
  | succ k =>
    have e : (10 * dg + i + 1) / 10 ^ (k + 1) = dg / 10 ^ k := by
      rw [show 10 ^ (k + 1) = 10 * 10 ^ k from by rw [Nat.pow_succ, Nat.mul_comm], ← Nat.div_div_eq_div_mul, show (10 * dg + i + 1) / 10 = dg by omega]
    rw [e]
    exact h2 k (by omega)
def WB (N : Nat) (y : Nat × Nat × Nat) : Prop := y.2.1 ≤ 7 ∧ DGP N y.2.1 y.2.2
theorem wl_dg {E : EN} (hE : EOK E) {set : Nat} {rec : QS → Nat → Nat → Nat → BW → BW} (hr : ∀ q d co dg b y, d + frS E q ≤ 7 → DGP (eN E) d dg → rec q d co dg b = some y → b = some y ∨ WB (eN E) y) (q : QS) (d co dg : Nat) (hd : d + frS E q ≤ 7) (hg : DGP (eN E) d dg) : ∀ r i b y, i + r = eN E → wlS E set rec q d co dg r i b = some y → b = some y ∨ WB (eN E) y
  | 0, _, _, _, _, h => Or.inl h
  | r + 1, i, b, y, hi, h => by
    rcases wl_dg hE hr q d co dg hd hg r (i + 1) _ y (by omega) h with z | z
    · by_cases c : canS E q i = true ∧ set.testBit (eW E i) = true
      · rw [if_pos c] at z
        have := fr_put (E := E) (q := q) (c := i) (by omega) c.1
        exact hr _ _ _ _ _ _ (by omega) (hg.step hE.2.2.1 (by omega)) z
      · rw [if_neg c] at z
        exact Or.inl z
    · exact Or.inr z
theorem ways_dg {E : EN} (hE : EOK E) (set : Nat) : ∀ n q d co dg b y, d + frS E q ≤ 7 → DGP (eN E) d dg → waysS E set n q d co dg b = some y → b = some y ∨ WB (eN E) y
  | 0, _, _, _, _, _, _, _, _, h => Or.inl h
  | n + 1, q, d, co, dg, b, y, hd, hg, h => by
    have h' : (if allIn set q = true then updS b (co, d, dg) else wlS E set (waysS E set n) q d co dg (eN E) 0 b) = some y := h
    by_cases c : allIn set q = true
    · rw [if_pos c] at h'
      have hw : WB (eN E) (co, d, dg) := ⟨by show d ≤ 7; omega, hg⟩
      cases b with
      | none =>
        rw [upd_none] at h'
        cases h'
        exact Or.inr hw
      | some x =>
        by_cases z : co < x.1
        · rw [upd_lt z] at h'
          cases h'
          exact Or.inr hw
        · rw [upd_ge z] at h'
          exact Or.inl h'
    · rw [if_neg c] at h'
      exact wl_dg hE (ways_dg hE set n) q d co dg hd hg (eN E) 0 b y (by omega) h'
theorem ch_dg {E : EN} (hE : EOK E) {set : Nat} {q : QS} {y : Nat × Nat × Nat} (h : chS E set q = some y) : WB (eN E) y := by
  have hN := hE.2.2.1
  have hf := fr_le E q
  rcases ways_dg hE set 12 q 0 0 0 none y (by omega) ⟨by decide, fun k hk => by omega⟩ h with z | z
  · cases z
  · exact z
theorem dg_low {N d dg k : Nat} (h : DGP N d dg) (hk : k < d) : 10 ^ k ≤ dg := by
  have := (h.2 k hk).1
  apply Nat.le_of_not_lt
  intro z
  rw [Nat.div_eq_of_lt z] at this
  omega
theorem p10_le {d : Nat} (h : d ≤ 7) : 10 ^ d ≤ 10000000 := Nat.le_trans (Nat.pow_le_pow_right (by decide) h) (by decide)
theorem X8_digits {h : XM} {N d dg : Nat} (hd : d ≤ 7) (hg : DGP N d dg) : f_X8_digitsOf h (nI dg) = some (nI d, h) := by
  have hl := p10_le hd
  have hlt := hg.1
  have loop : ∀ (r f i : Nat), i + r = d → r < f → f_X8_digitsOf_2 f h (nI dg) (nI i) = some (nI d, h) := by
    intro r
    induction r with
    | zero =>
      intro f i hi hf
      obtain ⟨f, rfl⟩ : ∃ k, f = k + 1 := ⟨f - 1, by omega⟩
      have hi : i = d := by omega
      subst hi
      show fb_X8_digitsOf_2 (f_X8_digitsOf_2 f) h (nI dg) (nI i) = _
      unfold fb_X8_digitsOf_2
      rw [show lnK 2 = some 7 from rfl, Option.bind_some]
      by_cases z : i < 7
      · rw [if_pos (show nI i < (7 : Int32) from (nI_ltI (b := 7) (by omega) (by omega)).2 z), rT_n i z, Option.bind_some, if_pos ((nI_ltI (by omega) (by omega)).2 hlt)]
        rfl
      · rw [if_neg (show ¬ nI i < (7 : Int32) from fun y => z ((nI_ltI (b := 7) (by omega) (by omega)).1 y))]
        rfl
    | succ r ih =>
      intro f i hi hf
      obtain ⟨f, rfl⟩ : ∃ k, f = k + 1 := ⟨f - 1, by omega⟩
      have hlow := dg_low hg (show i < d by omega)
      show fb_X8_digitsOf_2 (f_X8_digitsOf_2 f) h (nI dg) (nI i) = _
      unfold fb_X8_digitsOf_2
      rw [show lnK 2 = some 7 from rfl, Option.bind_some, if_pos (show nI i < (7 : Int32) from (nI_ltI (b := 7) (by omega) (by omega)).2 (by omega)), rT_n i (by omega), Option.bind_some, if_neg (by rw [nI_ltI (by omega) (by omega)]; omega), bnd_eq, show nI i + (1 : Int32) = nI (i + 1) from nI_add i 1]
      exact ih f (i + 1) (by omega) (by omega)
  exact loop d FU 0 (by omega) (by unfold FU; omega)
theorem zw_zj {S : SK} {b : Nat} (h : ZW S b ∨ b = 16) : ZJ S b := by
  rcases h with (y | y | y | y | y) | y
  · exact Or.inr (Or.inl (by omega))
  · exact Or.inr (Or.inl (by omega))
  · exact Or.inr (Or.inl (by omega))
  · exact Or.inr (Or.inl (by omega))
  · exact Or.inr (Or.inr y)
  · exact Or.inr (Or.inl (by omega))
theorem CI.zj {S : SK} {m m2 : Nat → Nat → Int32} {E : EN} {l : Nat} {q : QS} (h : CI S m 3 E l q) (ha : Ag (ZJ S) m m2) : CI S m2 3 E l q := h.ag ha ZJ.ok (fun y => by have := y.no; omega) (fun y => by have := y.no; omega)
theorem zj_50 {S : SK} : ∀ b, 50 ≤ b ∧ b ≤ 75 → ¬ ZJ S b := fun b hb y => by
  have := y.no
  omega
theorem jw_jm {j : Nat} (h : JW j) : JM j := by
  unfold JW at h
  unfold JM
  omega
theorem zb_zm {b : Nat} (h : ZB b) : ZM b := by
  unfold ZB at h
  unfold ZM
  omega
theorem op_gang {S : SK} {m : Nat → Nat → Int32} (hR : RR S m) (s w : Int32) : RES (f_X8_gang (mk S m) (some 0) s w) (fun S1 m1 => f_X9_gang (mk S1 m1) (some 50) s w) := by
  have hR0 := hR
  have hS := hR.ok
  have hk8 : (sh S 0).1 = 8 := by rw [sk0 hS]
  have hk1 : (sh S 3).1 = 1 := by rw [sk3 hS]
  have hk : (sh S 50).1 = 9 := by rw [sk50 hS]
  obtain ⟨d, P, N, l, T, wh, kd, td, mo, prs, q, h⟩ := hR
  obtain ⟨hl, ⟨g1, g2, g3⟩, hO⟩ := h
  have hE := g1.1.2.1
  have hP : P ≤ 4 := hE.2.1
  have c7 : m 3 7 = nI P := g1.2.2.1.2.2.2.1
  have g7 : m 50 3 = nI P := g2.2.2.2.1.2.2.2.1
  have hk7 : (sh S 14).1 = 7 := by rw [sk14 hS]
  have hpw : 2 ^ P ≤ 16 := Nat.pow_le_pow_right (n := 2) (by decide) hP
  have hpw1 : 1 ≤ 2 ^ P := Nat.one_le_two_pow
  have esh : (1 : Int32) <<< (nI P &&& 31) = nI (2 ^ P) := shl1 (by omega)
  have em1 : nI (2 ^ P) - (1 : Int32) = nI (2 ^ P - 1) := pk_sub (b := 1) hpw1
  by_cases hs : ∃ k, (1 ≤ k ∧ k < 2 ^ P) ∧ s = nI k
  · obtain ⟨k, ⟨hk0, hkP⟩, rfl⟩ := hs
    have xin : ∀ h, f_X9_in h (nI k) (1 : Int32) (nI (2 ^ P - 1)) = some (1, h) := fun h => by
      rw [X9_in, if_neg (show ¬ nI k < (1 : Int32) from fun y => by have := (nI_ltI (b := 1) (by omega) (by omega)).1 y; omega), if_neg (show ¬ nI (2 ^ P - 1) < nI k from fun y => by have := (nI_ltI (by omega) (by omega)).1 y; omega)]
    rcases i_rng w (B := 2) (by decide) with ⟨w, hw, rfl⟩ | hbad
    · obtain ⟨m1, e1, hway, hbk, ag1⟩ := C_cheapest (set := k) (by omega) g1 (by decide)
      have agJ : Ag (ZJ S) m m1 := ag1.mono (fun b hb => zw_zj hb)
      have hM1 := g2.ofC agJ zj_50
      obtain ⟨L, m2, e2, hM2, hB2, _, ag2, _⟩ := M_finds (set := k) (by omega) hM1
      have h37 : m2 50 37 = nI 0 := by
        rw [ag2.2 37 (by unfold JW; omega), agJ 50 (zj_50 50 (by omega))]
        exact g3
      have hk2 : (sh (sLg S L) 50).1 = 9 := by rw [sk50 hM2.1]
      have hRR : RR (sLg S L) m2 := ⟨d, P, N, l, T, wh, kd, td, mo, prs, q, RP.q ⟨hl, ⟨g1, g2, g3⟩, hO⟩ agJ (ag2.mono (fun b hb => zb_zm hb) (fun j hj => jw_jm hj)) hM2 h37⟩
      have hx : f_X8_gang (mk S m) (some 0) (nI k) (nI w) = if bO (fun x => x.1) (chS (mkE d P N wh kd td mo (prs l)) k q) = (-1 : Int32) then f_X8_gang_54 (mk S m1) (bO (fun x => x.1) (chS (mkE d P N wh kd td mo (prs l)) k q)) else if nI w = 0 then f_X8_gang_54 (mk S m1) (bO (fun x => x.1) (chS (mkE d P N wh kd td mo (prs l)) k q)) else if nI w = (1 : Int32) then (f_X8_digitsOf (mk S m1) (m1 14 5)).bind fun q8 => f_X8_gang_81 q8.2 q8.1 else f_X8_gang_81 (mk S m1) (m1 14 5) := by
        unfold f_X8_gang
        rw [if_pos (show (0 : Int32) < nI k from (nI_ltI (a := 0) (by omega) (by omega)).2 (by omega)), r0_2 hS, Option.bind_some, gI_k hk1, c7, Option.bind_some, esh, if_pos ((nI_ltI (by omega) (by omega)).2 hkP), ifr_y (b := 2) (B := 2) rfl hw (by decide), gR_k hk8, rk0_5 hS, Option.bind_some, Option.bind_some, vc_k hk7, e1, Option.bind_some]
        have e5 : gR (mk S m1) 8 (some 0) 5 = some (some 14) := by rw [gR_k hk8, rk0_5 hS]
        have e5' : gI (mk S m1) 7 (some 14) 5 = some (m1 14 5) := gI_k hk7
        simp only [e5, e5', Option.bind_some]
      have hy : f_X9_gang (mk S m1) (some 50) (nI k) (nI w) = some (if w = 0 then m2 50 39 else if w = 1 then m2 50 40 else m2 50 41, mk (sLg S L) m2) := by
        unfold f_X9_gang
        rw [gI_k hk, show m1 50 3 = nI P from by rw [agJ 50 (zj_50 50 (by omega))]; exact g7, Option.bind_some, esh, em1, xin, Option.bind_some, if_neg (show ¬ (1 : Int32) = 0 by decide), X9_in, ifr_y (b := 2) (B := 2) rfl hw (by decide), Option.bind_some, if_neg (show ¬ (1 : Int32) = 0 by decide), vc_k hk, e2, Option.bind_some]
        rcases (show w = 0 ∨ w = 1 ∨ w = 2 by omega) with rfl | rfl | rfl
        · rw [if_pos (show nI 0 = (0 : Int32) from rfl), gI_k hk2, Option.bind_some]
          rfl
        · rw [if_neg (show ¬ nI 1 = (0 : Int32) by decide), if_pos (show nI 1 = (1 : Int32) from rfl), gI_k hk2, Option.bind_some]
          rfl
        · rw [if_neg (show ¬ nI 2 = (0 : Int32) by decide), if_neg (show ¬ nI 2 = (1 : Int32) by decide), gI_k hk2, Option.bind_some]
          rfl
      rw [hB2.1, hB2.2.1, hB2.2.2] at hy
      refine op_mk (a := if w = 0 then bO (fun x => x.1) (chS (mkE d P N wh kd td mo (prs l)) k q) else if w = 1 then bO (fun x => x.2.1) (chS (mkE d P N wh kd td mo (prs l)) k q) else bO (fun x => x.2.2) (chS (mkE d P N wh kd td mo (prs l)) k q)) ?_ hy hRR
      rw [hx]
      cases hb : chS (mkE d P N wh kd td mo (prs l)) k q with
      | none =>
        rw [if_pos (show bO (fun x => x.1) none = (-1 : Int32) from rfl)]
        rcases (show w = 0 ∨ w = 1 ∨ w = 2 by omega) with rfl | rfl | rfl <;> rfl
      | some y =>
        have hy7 := ch_dg hE hb
        have hbk' := hbk y hb
        rw [if_neg (show ¬ bO (fun x => x.1) (some y) = (-1 : Int32) from n_m1 y.1 (by omega)), hway y hb]
        rcases (show w = 0 ∨ w = 1 ∨ w = 2 by omega) with rfl | rfl | rfl
        · rw [if_pos (show nI 0 = (0 : Int32) from rfl)]
          rfl
        · rw [if_neg (show ¬ nI 1 = (0 : Int32) by decide), if_pos (show nI 1 = (1 : Int32) from rfl), X8_digits hy7.1 hy7.2, Option.bind_some]
          rfl
        · rw [if_neg (show ¬ nI 2 = (0 : Int32) by decide), if_neg (show ¬ nI 2 = (1 : Int32) by decide)]
          rfl
    · refine op_same (a := -7) hR0 ?_ ?_
      · unfold f_X8_gang
        rw [if_pos (show (0 : Int32) < nI k from (nI_ltI (a := 0) (by omega) (by omega)).2 (by omega)), r0_2 hS, Option.bind_some, gI_k hk1, c7, Option.bind_some, esh, if_pos ((nI_ltI (by omega) (by omega)).2 hkP), ifr_n (b := 2) (B := 2) rfl hbad]
        rfl
      · show f_X9_gang (mk S m) (some 50) (nI k) w = _
        unfold f_X9_gang
        rw [gI_k hk, g7, Option.bind_some, esh, em1, xin, Option.bind_some, if_neg (show ¬ (1 : Int32) = 0 by decide), X9_in, ifr_n (b := 2) (B := 2) rfl hbad, Option.bind_some, if_pos rfl]
  · have hcase : ¬ (0 : Int32) < s ∨ ¬ s < nI (2 ^ P) := by
      by_cases z : (0 : Int32) < s
      · refine Or.inr (fun y => ?_)
        have z0 : ¬ s < 0 := fun u => by
          rw [Int32.lt_iff_toInt_lt] at z u
          omega
        obtain ⟨k, hk2, rfl⟩ := i_of z0
        have a1 := (nI_ltI (a := 0) (by omega) hk2).1 z
        have a2 := (nI_ltI hk2 (by omega)).1 y
        exact hs ⟨k, ⟨by omega, a2⟩, rfl⟩
      · exact Or.inl z
    have xin : f_X9_in (mk S m) s (1 : Int32) (nI (2 ^ P - 1)) = some (0, mk S m) := by
      rw [X9_in]
      by_cases z : s < (1 : Int32)
      · rw [if_pos z]
      · rw [if_neg z]
        have z0 : ¬ s < 0 := fun u => z (by
          rw [Int32.lt_iff_toInt_lt] at u ⊢
          have e1 : (0 : Int32).toInt = 0 := by decide
          have e2 : (1 : Int32).toInt = 1 := by decide
          omega)
        obtain ⟨k, hk2, rfl⟩ := i_of z0
        have a1 : ¬ k < 1 := fun u => z ((nI_ltI (b := 1) hk2 (by omega)).2 u)
        rw [if_pos]
        rw [nI_ltI (by omega) hk2]
        exact Nat.lt_of_not_le (fun u => hs ⟨k, ⟨by omega, by omega⟩, rfl⟩)
    refine op_same (a := -5) hR0 ?_ ?_
    · unfold f_X8_gang
      rcases hcase with z | z
      · rw [if_neg z]
        rfl
      · by_cases y : (0 : Int32) < s
        · rw [if_pos y, r0_2 hS, Option.bind_some, gI_k hk1, c7, Option.bind_some, esh, if_neg z]
          rfl
        · rw [if_neg y]
          rfl
    · show f_X9_gang (mk S m) (some 50) s w = _
      unfold f_X9_gang
      rw [gI_k hk, g7, Option.bind_some, esh, em1, xin, Option.bind_some, if_pos rfl]
theorem op_reach {S : SK} {m : Nat → Nat → Int32} (hR : RR S m) (p : Int32) : RES (f_X8_reach (mk S m) (some 0) p) (fun S1 m1 => f_X9_reach (mk S1 m1) (some 50) p) := by
  have hR0 := hR
  have hS := hR.ok
  have hk8 : (sh S 0).1 = 8 := by rw [sk0 hS]
  have hk1 : (sh S 3).1 = 1 := by rw [sk3 hS]
  have hk : (sh S 50).1 = 9 := by rw [sk50 hS]
  obtain ⟨d, P, N, l, T, wh, kd, td, mo, prs, q, h⟩ := hR
  obtain ⟨hl, ⟨g1, g2, g3⟩, hO⟩ := h
  have hE := g1.1.2.1
  have hP : P ≤ 4 := hE.2.1
  have hN : N ≤ 7 := hE.2.2.1
  have hk7 : (sh S 14).1 = 7 := by rw [sk14 hS]
  rcases i_in p (show P < 2 ^ 31 by omega) with ⟨k, hkP, rfl⟩ | hno
  · have x1 := one_y (show k < eP (mkE d P N wh kd td mo (prs l)) from hkP) (show P < 2 ^ 31 by omega)
    obtain ⟨m1, e1, ag1⟩ := C_restsBy (p := k) (by omega) g1 (by decide)
    have agJ : Ag (ZJ S) m m1 := ag1.mono (fun b hb => zw_zj hb)
    have hM1 := g2.ofC agJ zj_50
    have agz : AgM (fun _ => False) (fun j => j = 42) m1 (w2 m1 50 42 0) := AgM.w50 AgM.rf rfl
    have hM1' := hM1.ag agz (fun _ _ => id) (fun j hj => by omega)
    have hfr := fr_le (mkE d P N wh kd td mo (prs l)) q
    have hfr7 : frS (mkE d P N wh kd td mo (prs l)) q ≤ 7 := Nat.le_trans hfr hN
    obtain ⟨L, m2, e2, hM2, ha2, ag2, _⟩ := M_rests (p := k) (by omega) 12 S (w2 m1 50 42 0) q 0 0 hM1' rfl (by decide) (by omega) (by omega)
    have hk2 : (sh (sLg S L) 50).1 = 9 := by rw [sk50 hM2.1]
    have h37 : m2 50 37 = nI 0 := by
      rw [ag2.2 37 (by unfold JR; omega), agz.2 37 (by omega), agJ 50 (zj_50 50 (by omega))]
      exact g3
    refine op_mk (a := nI (rrS (mkE d P N wh kd td mo (prs l)) 12 q.1 (lmS (mkE d P N wh kd td mo (prs l)) k q.2.2.2) 0)) (S1 := S) (m1 := m1) (S2 := sLg S L) (m2 := m2) ?_ ?_ ⟨d, P, N, l, T, wh, kd, td, mo, prs, q, RP.q ⟨hl, ⟨g1, g2, g3⟩, hO⟩ agJ ((agz.mono (fun _ z => z.elim) (fun j hj => by unfold JM; omega)).tr (ag2.mono (fun b hb => zb_zm hb) (fun j hj => by unfold JR at hj; unfold JM; omega))) hM2 h37⟩
    · unfold f_X8_reach
      rw [r0_2 hS, Option.bind_some, vc_k hk1, C_isOne g1, x1, Option.bind_some, if_neg (show ¬ (1 : Int32) = 0 by decide)]
      rw [gR_k hk8, rk0_5 hS, Option.bind_some, r0_2 hS, Option.bind_some, vc_k hk7, e1, Option.bind_some]
      rfl
    · show f_X9_reach (mk S m1) (some 50) (nI k) = _
      unfold f_X9_reach
      rw [vc_k hk, M_isOne hM1, x1, Option.bind_some, if_neg (show ¬ (1 : Int32) = 0 by decide), pI_k hk, Option.bind_some, vc_k hk]
      show (f_X9_restsFrom 12 (mk S (w2 m1 50 42 0)) (some 50) (nI k) (nI 0)).bind _ = _
      rw [e2, Option.bind_some, gI_k hk2, ha2, Option.bind_some]
  · have x1 := one_n (show p < 0 ∨ ¬ p < nI (eP (mkE d P N wh kd td mo (prs l))) from hno)
    refine op_same (a := -5) hR0 ?_ ?_
    · unfold f_X8_reach
      rw [r0_2 hS, Option.bind_some, vc_k hk1, C_isOne g1, x1, Option.bind_some, if_pos rfl]
      rfl
    · show f_X9_reach (mk S m) (some 50) p = _
      unfold f_X9_reach
      rw [vc_k hk, M_isOne g2, x1, Option.bind_some, if_pos rfl]
