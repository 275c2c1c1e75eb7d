/-! PURE: states that were met, an array filled; what the walk of the ways gives, as a whole -/
theorem ush22 (x : Int32) : (x.toUInt32 >>> (((22 : Int32)).toUInt32 &&& Int32.toUInt32 31)).toInt32 = nI (x.toBitVec.toNat / 2 ^ 22) := by
  apply b_ext
  intro i hi
  have h := b_ushr 22 (by decide) x i
  have h' : bt (x.toUInt32 >>> (((22 : Int32)).toUInt32 &&& Int32.toUInt32 31)).toInt32 i = bt x (22 + i) := h
  rw [h', bt_n hi, Nat.testBit_div_two_pow]
  show x.toBitVec.getLsbD (22 + i) = _
  rw [BitVec.getLsbD, Nat.add_comm]
def slN (s : Int32) : Nat := (s * (-1640531535 : Int32)).toBitVec.toNat / 2 ^ 22
theorem sl_lt (s : Int32) : slN s < 1024 := by
  have h : (s * (-1640531535 : Int32)).toBitVec.toNat < 2 ^ 32 := BitVec.isLt _
  unfold slN
  exact Nat.div_lt_of_lt_mul (by omega)
theorem X2_slot {h : XM} {s : Int32} {a : Option Nat} : f_X2_slotOf h a s = some (nI (slN s), h) := by
  unfold f_X2_slotOf slN
  rw [ush22]
theorem X2_knows {S : SK} {m : Nat → Nat → Int32} (hS : SkOK S) {s : Int32} : f_X2_knows (mk S m) (some 12) s = some (if m 13 (slN s) = s then 1 else 0, mk S m) := by
  have hk : (sh S 12).1 = 2 := by rw [sk12 hS]
  unfold f_X2_knows
  rw [gR_k hk, rk12_0 hS, Option.bind_some, vc_k hk, X2_slot, Option.bind_some, rI_n (sk13 hS) (sl_lt s) (by decide), Option.bind_some]
  by_cases z : m 13 (slN s) = s
  · rw [if_pos z, if_pos z]
    rfl
  · rw [if_neg z, if_neg z]
    rfl
theorem X2_note {S : SK} {m : Nat → Nat → Int32} (hS : SkOK S) {s : Int32} : f_X2_note (mk S m) (some 12) s = some (mk S (w2 m 13 (slN s) s)) := by
  have hk : (sh S 12).1 = 2 := by rw [sk12 hS]
  unfold f_X2_note
  rw [gR_k hk, rk12_0 hS, Option.bind_some, vc_k hk, X2_slot, Option.bind_some, sI_n (sk13 hS) (sl_lt s) (by decide), Option.bind_some]
theorem J7_fill {S : SK} {a N : Nat} {v : Int32} (hs : sh S a = (10, N)) (hN : N < 5000) (m : Nat → Nat → Int32) : ∃ m2, f_J7_fill (mk S m) (some a) v = some (mk S m2) ∧ (∀ i, i < N → m2 a i = v) ∧ (∀ i, N ≤ i → m2 a i = m a i) ∧ Ag (fun b => b = a) m m2 := by
  have loop : ∀ (r f i : Nat) (m1 : Nat → Nat → Int32), i + r = N → r < f → ∃ m2, f_J7_fill_5 f (mk S m1) (some a) v (nI i) (nI N) = some (mk S m2) ∧ (∀ k, i ≤ k → k < N → m2 a k = v) ∧ (∀ k, k < i ∨ N ≤ k → m2 a k = m1 a k) ∧ Ag (fun b => b = a) m1 m2 := by
    intro r
    induction r with
    | zero =>
      intro f i m1 hi hf
      obtain ⟨f, rfl⟩ : ∃ k, f = k + 1 := ⟨f - 1, by omega⟩
      refine ⟨m1, ?_, fun k _ _ => by omega, fun _ _ => rfl, Ag.rf⟩
      show fb_J7_fill_5 (f_J7_fill_5 f) _ _ _ _ _ = _
      unfold fb_J7_fill_5
      rw [if_neg (by rw [nI_ltI (by omega) (by omega)]; omega)]
    | succ r ih =>
      intro f i m1 hi hf
      obtain ⟨f, rfl⟩ : ∃ k, f = k + 1 := ⟨f - 1, by omega⟩
      obtain ⟨m2, e, h1, h2, h3⟩ := ih f (i + 1) (w2 m1 a i v) (by omega) (by omega)
      refine ⟨m2, ?_, ?_, ?_, (Ag.w2 (Z := fun b => b = a) Ag.rf rfl).tr h3⟩
      · show fb_J7_fill_5 (f_J7_fill_5 f) _ _ _ _ _ = _
        unfold fb_J7_fill_5
        rw [if_pos (by rw [nI_ltI (by omega) (by omega)]; omega), sI_n hs (by omega) (by omega), Option.bind_some, bnd_eq, show nI i + (1 : Int32) = nI (i + 1) from nI_add i 1]
        exact e
      · intro k k1 k2
        by_cases z : k = i
        · subst z
          rw [h2 k (by omega), w2_ap, if_pos ⟨rfl, rfl⟩]
        · exact h1 k (by omega) k2
      · intro k hk
        rw [h2 k (by omega), w2_ap, if_neg (by omega)]
  obtain ⟨m2, e, h1, h2, h3⟩ := loop N FU 0 m (by omega) (by unfold FU; omega)
  refine ⟨m2, ?_, fun i hi => h1 i (Nat.zero_le _) hi, fun i hi => h2 i (Or.inr hi), h3⟩
  unfold f_J7_fill
  rw [ln_mk, hs, if_pos ⟨by show (10 : Nat) ≤ 10; decide, by show (10 : Nat) ≤ 15; decide⟩, Option.bind_some, nI_ofNat]
  exact e
theorem X2_forget {S : SK} (hS : SkOK S) (m : Nat → Nat → Int32) : ∃ m2, f_X2_forgetAll (mk S m) (some 12) = some (mk S m2) ∧ (∀ i, i < 1024 → m2 13 i = -1) ∧ Ag (fun b => b = 13) m m2 := by
  have hk : (sh S 12).1 = 2 := by rw [sk12 hS]
  obtain ⟨m2, e, h1, _, h3⟩ := J7_fill (sk13 hS) (by decide) (v := (-1 : Int32)) m
  refine ⟨m2, ?_, h1, h3⟩
  unfold f_X2_forgetAll
  rw [gR_k hk, rk12_0 hS, Option.bind_some, e, Option.bind_some]
/-! what the walk gives -/
def cmb (b r : BW) : BW := match r with
  | none => b
  | some y => updS b y
theorem upd_none (y : Nat × Nat × Nat) : updS none y = some y := rfl
theorem upd_lt {x y : Nat × Nat × Nat} (h : y.1 < x.1) : updS (some x) y = some y := if_pos h
theorem upd_ge {x y : Nat × Nat × Nat} (h : ¬ y.1 < x.1) : updS (some x) y = some x := if_neg h
theorem cmb_none (r : BW) : cmb none r = r := by
  cases r <;> rfl
theorem cmb_assoc (b u v : BW) : cmb (cmb b u) v = cmb b (cmb u v) := by
  cases v with
  | none => rfl
  | some z =>
    cases u with
    | none => rfl
    | some y =>
      cases b with
      | none =>
        rw [cmb_none, cmb_none]
      | some x =>
        show updS (updS (some x) y) z = cmb (some x) (updS (some y) z)
        by_cases h1 : y.1 < x.1
        · rw [upd_lt h1]
          by_cases h2 : z.1 < y.1
          · rw [upd_lt h2]
            show _ = updS (some x) z
            rw [upd_lt (by omega)]
          · rw [upd_ge h2]
            show _ = updS (some x) y
            rw [upd_lt h1]
        · rw [upd_ge h1]
          by_cases h2 : z.1 < y.1
          · rw [upd_lt h2]
            rfl
          · rw [upd_ge h2]
            show _ = updS (some x) y
            rw [upd_ge h1, upd_ge (by omega)]
theorem wl_cmb {E : EN} {set : Nat} {rec : QS → Nat → Nat → Nat → BW → BW} (hr : ∀ q d co dg b, rec q d co dg b = cmb b (rec q d co dg none)) (q : QS) (d co dg : Nat) : ∀ r i b, wlS E set rec q d co dg r i b = cmb b (wlS E set rec q d co dg r i none)
  | 0, _, b => rfl
  | r + 1, i, b => by
    have ih := wl_cmb (E := E) (set := set) hr q d co dg r (i + 1)
    show wlS E set rec q d co dg r (i + 1) _ = cmb b (wlS E set rec q d co dg r (i + 1) _)
    by_cases c : canS E q i = true ∧ set.testBit (eW E i) = true
    · rw [if_pos c, if_pos c, ih, hr, cmb_assoc, ← ih]
    · rw [if_neg c, if_neg c]
      exact ih b
theorem ways_cmb (E : EN) (set : Nat) : ∀ n q d co dg b, waysS E set n q d co dg b = cmb b (waysS E set n q d co dg none)
  | 0, _, _, _, _, _ => rfl
  | n + 1, q, d, co, dg, b => by
    show (if allIn set q = true then _ else _) = cmb b (if allIn set q = true then _ else _)
    by_cases c : allIn set q = true
    · rw [if_pos c, if_pos c]
      rfl
    · rw [if_neg c, if_neg c]
      exact wl_cmb (ways_cmb E set n) q d co dg (eN E) 0 b
/-- costs alone -/
def coB (b : BW) : Option Nat := b.map (fun x => x.1)
theorem co_upd {b b2 : BW} {x y : Nat × Nat × Nat} (h : coB b = coB b2) (h2 : x.1 = y.1) : coB (updS b x) = coB (updS b2 y) := by
  cases b with
  | none =>
    cases b2 with
    | none => exact congrArg some h2
    | some w => cases h
  | some z =>
    cases b2 with
    | none => cases h
    | some w =>
      have hz : z.1 = w.1 := Option.some.inj h
      by_cases c : x.1 < z.1
      · rw [upd_lt c, upd_lt (by omega)]
        exact congrArg some h2
      · rw [upd_ge c, upd_ge (by omega)]
        exact h
theorem wl_co {E : EN} {set : Nat} {rec : QS → Nat → Nat → Nat → BW → BW} (hr : ∀ q d co dg dg2 b b2, coB b = coB b2 → coB (rec q d co dg b) = coB (rec q d co dg2 b2)) (q : QS) (d co dg dg2 : Nat) : ∀ r i b b2, coB b = coB b2 → coB (wlS E set rec q d co dg r i b) = coB (wlS E set rec q d co dg2 r i b2)
  | 0, _, _, _, h => h
  | r + 1, i, b, b2, h => by
    apply wl_co hr q d co dg dg2 r (i + 1)
    by_cases c : canS E q i = true ∧ set.testBit (eW E i) = true
    · rw [if_pos c, if_pos c]
      exact hr _ _ _ _ _ _ _ h
    · rw [if_neg c, if_neg c]
      exact h
theorem ways_co (E : EN) (set : Nat) : ∀ n q d co dg dg2 b b2, coB b = coB b2 → coB (waysS E set n q d co dg b) = coB (waysS E set n q d co dg2 b2)
  | 0, _, _, _, _, _, _, _, h => h
  | n + 1, q, d, co, dg, dg2, b, b2, h => by
    show coB (if allIn set q = true then _ else _) = coB (if allIn set q = true then _ else _)
    by_cases c : allIn set q = true
    · rw [if_pos c, if_pos c]
      exact co_upd h rfl
    · rw [if_neg c, if_neg c]
      exact wl_co (ways_co E set n) q d co dg dg2 (eN E) 0 b b2 h
theorem wl_lo {E : EN} {set : Nat} {rec : QS → Nat → Nat → Nat → BW → BW} (hr : ∀ q d co dg b y, rec q d co dg b = some y → b = some y ∨ co ≤ y.1) (q : QS) (d co dg : Nat) : ∀ r i b y, wlS E set rec q d co dg r i b = some y → b = some y ∨ co ≤ y.1
  | 0, _, _, _, h => Or.inl h
  | r + 1, i, b, y, h => by
    rcases wl_lo hr q d co dg r (i + 1) _ y h with z | z
    · by_cases c : canS E q i = true ∧ set.testBit (eW E i) = true
      · rw [if_pos c] at z
        rcases hr _ _ _ _ _ _ z with w | w
        · exact Or.inl w
        · exact Or.inr (by omega)
      · rw [if_neg c] at z
        exact Or.inl z
    · exact Or.inr z
theorem ways_lo (E : EN) (set : Nat) : ∀ n q d co dg b y, waysS E set n q d co dg b = some y → b = some y ∨ co ≤ y.1
  | 0, _, _, _, _, _, _, h => Or.inl h
  | n + 1, q, d, co, dg, b, y, h => by
    have h' : (if allIn set q = true then updS b (co, d, dg) else wlS E set (waysS E set n) q d co dg (eN E) 0 b) = some y := h
    by_cases c : allIn set q = true
    · rw [if_pos c] at h'
      cases b with
      | none =>
        rw [upd_none] at h'
        cases h'
        exact Or.inr (Nat.le_refl _)
      | some x =>
        by_cases z : co < x.1
        · rw [upd_lt z] at h'
          cases h'
          exact Or.inr (Nat.le_refl _)
        · rw [upd_ge z] at h'
          exact Or.inl h'
    · rw [if_neg c] at h'
      exact wl_lo (ways_lo E set n) q d co dg (eN E) 0 b y h'
/-- at least as good -/
def blS (b c : BW) : Prop := b = none ∨ ∃ x y, b = some x ∧ c = some y ∧ y.1 ≤ x.1
theorem bl_rf (b : BW) : blS b b := by
  cases b with
  | none => exact Or.inl rfl
  | some x => exact Or.inr ⟨x, x, rfl, rfl, Nat.le_refl _⟩
theorem bl_upd (b : BW) (x : Nat × Nat × Nat) : blS b (updS b x) := by
  cases b with
  | none => exact Or.inl rfl
  | some y =>
    by_cases h : x.1 < y.1
    · rw [upd_lt h]
      exact Or.inr ⟨y, x, rfl, rfl, by omega⟩
    · rw [upd_ge h]
      exact bl_rf _
theorem bl_cmb (b r : BW) : blS b (cmb b r) := by
  cases r with
  | none => exact bl_rf b
  | some y => exact bl_upd b y
theorem adds_no {b r : BW} (h : cmb b r = b) : r = none ∨ ∃ x y, b = some x ∧ r = some y ∧ x.1 ≤ y.1 := by
  cases r with
  | none => exact Or.inl rfl
  | some y =>
    cases b with
    | none => cases h
    | some x =>
      refine Or.inr ⟨x, y, rfl, rfl, ?_⟩
      by_cases z : y.1 < x.1
      · have h' : updS (some x) y = some x := h
        rw [upd_lt z] at h'
        cases h'
        omega
      · omega
theorem adds_mono {b c r : BW} (h : cmb b r = b) (hc : blS b c) : cmb c r = c := by
  rcases adds_no h with rfl | ⟨x, y, rfl, rfl, h1⟩
  · rfl
  · rcases hc with h2 | ⟨x2, y2, h2, rfl, h3⟩
    · cases h2
    · cases h2
      exact upd_ge (by omega)
theorem ways_mono {E : EN} {set n : Nat} {q : QS} {d co dg : Nat} {b c : BW} (h : waysS E set n q d co dg b = b) (hc : blS b c) : waysS E set n q d co dg c = c := by
  rw [ways_cmb] at h ⊢
  exact adds_mono h hc
/-- what was walked adds nothing, by whatever digits one comes again -/
theorem ways_again (E : EN) (set n : Nat) (q : QS) (d co dg dg2 : Nat) (b : BW) : waysS E set n q d co dg2 (waysS E set n q d co dg b) = waysS E set n q d co dg b := by
  have h := ways_co E set n q d co dg dg2 none none rfl
  rw [ways_cmb E set n q d co dg2, ways_cmb E set n q d co dg b]
  generalize waysS E set n q d co dg none = r at h
  generalize waysS E set n q d co dg2 none = r2 at h
  cases r2 with
  | none => rfl
  | some y2 =>
    cases r with
    | none => cases h
    | some y =>
      have hy : y.1 = y2.1 := Option.some.inj h
      show updS (updS b y) y2 = updS b y
      cases b with
      | none =>
        rw [upd_none, upd_ge (by omega)]
      | some x =>
        by_cases z : y.1 < x.1
        · rw [upd_lt z, upd_ge (by omega)]
        · rw [upd_ge z, upd_ge (by omega)]
/-- a costlier one adds nothing -/
theorem ways_dear {E : EN} {set n : Nat} {q : QS} {d co dg : Nat} {x : Nat × Nat × Nat} (h : x.1 ≤ co) : waysS E set n q d co dg (some x) = some x := by
  rw [ways_cmb]
  cases hr : waysS E set n q d co dg none with
  | none => rfl
  | some y =>
    rcases ways_lo E set n q d co dg none y hr with z | z
    · cases z
    · exact upd_ge (by omega)
