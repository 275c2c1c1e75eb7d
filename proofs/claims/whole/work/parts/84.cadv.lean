/-! PURE: the class's advance -/
/-- the skeleton has a reader (all that the reading needs of it) -/
def RdOK (S : SK) : Prop := sh S 33 = (3, 11) ∧ sh S 34 = (10, 160) ∧ sh S 35 = (10, 160) ∧ sh S 36 = (10, 4) ∧ rf S 33 0 = some 34 ∧ rf S 33 1 = some 35 ∧ rf S 33 2 = some 36 ∧ 37 ≤ S.1
theorem SkOK.rd {S : SK} (h : SkOK S) : RdOK S := ⟨sk33 h, sk34 h, sk35 h, sk36 h, rk33_0 h, rk33_1 h, rk33_2 h, Nat.le_trans (by decide) h.2.2⟩
theorem rd33 {S : SK} (h : RdOK S) : sh S 33 = (3, 11) := h.1
theorem rd34 {S : SK} (h : RdOK S) : sh S 34 = (10, 160) := h.2.1
theorem rd35 {S : SK} (h : RdOK S) : sh S 35 = (10, 160) := h.2.2.1
theorem rd36 {S : SK} (h : RdOK S) : sh S 36 = (10, 4) := h.2.2.2.1
theorem rr33_0 {S : SK} (h : RdOK S) : rf S 33 0 = some 34 := h.2.2.2.2.1
theorem rr33_1 {S : SK} (h : RdOK S) : rf S 33 1 = some 35 := h.2.2.2.2.2.1
theorem rr33_2 {S : SK} (h : RdOK S) : rf S 33 2 = some 36 := h.2.2.2.2.2.2.1
def Fr5 (m m2 : Nat → Nat → Int32) : Prop := ∀ b j, ¬ (b = 33 ∧ j = 5) → m2 b j = m b j
def FrC (m m2 : Nat → Nat → Int32) : Prop := ∀ b j, ¬ (b = 33 ∧ 5 ≤ j ∧ j ≤ 8) → m2 b j = m b j
def TPc (m : Nat → Nat → Int32) (n : Nat) (tp : Nat → Nat) : Prop := m 33 3 = nI n ∧ n ≤ 160 ∧ ∀ k, k < n → m 34 k = nI (tp k) ∧ tp k ≤ 255
theorem Fr5.w {m m2 : Nat → Nat → Int32} {v : Int32} (h : Fr5 (w2 m 33 5 v) m2) : Fr5 m m2 := fun b j hb => by
  rw [h b j hb, w2_ap, if_neg (by omega)]
theorem Fr5.c {m m2 : Nat → Nat → Int32} (h : Fr5 m m2) : FrC m m2 := fun b j hb => h b j (by omega)
theorem FrC.tr {m m2 m3 : Nat → Nat → Int32} (h : FrC m m2) (h2 : FrC m2 m3) : FrC m m3 := fun b j hb => by rw [h2 b j hb, h b j hb]
theorem FrC.w {m : Nat → Nat → Int32} {j : Nat} {v : Int32} (hj : 5 ≤ j ∧ j ≤ 8) : FrC m (w2 m 33 j v) := fun b i hb => by
  rw [w2_ap, if_neg (by omega)]
theorem TPc.fr {m m2 : Nat → Nat → Int32} {n : Nat} {tp : Nat → Nat} (h : TPc m n tp) (hf : FrC m m2) : TPc m2 n tp := by
  obtain ⟨a1, a2, a3⟩ := h
  refine ⟨by rw [hf 33 3 (by omega)]; exact a1, a2, fun k hk => ?_⟩
  rw [hf 34 k (by omega)]
  exact a3 k hk
theorem C_skip {S : SK} {n : Nat} {tp : Nat → Nat} (hS : RdOK S) : ∀ (r f p : Nat) (m : Nat → Nat → Int32), p + r = n → r < f → TPc m n tp → m 33 5 = nI p → ∃ m2, Fr5 m m2 ∧ m2 33 5 = nI (ruS isBl tp r p) ∧ f_X3_advance_0 f (mk S m) (some 33) = f_X3_advance_52 (mk S m2) (some 33) := by
  have hk : (sh S 33).1 = 3 := by rw [rd33 hS]
  intro r
  induction r with
  | zero =>
    intro f p m hp hf hT h5
    obtain ⟨f, rfl⟩ : ∃ k, f = k + 1 := ⟨f - 1, by omega⟩
    have hn := hT.2.1
    refine ⟨m, fun _ _ _ => rfl, h5, ?_⟩
    show fb_X3_advance_0 (f_X3_advance_0 f) (mk S m) (some 33) = _
    unfold fb_X3_advance_0
    rw [gI_k hk, gI_k hk, h5, hT.1, Option.bind_some, Option.bind_some, if_neg (nI_nlt (by omega) (by omega))]
  | succ r ih =>
    intro f p m hp hf hT h5
    obtain ⟨f, rfl⟩ : ∃ k, f = k + 1 := ⟨f - 1, by omega⟩
    have hn := hT.2.1
    obtain ⟨t1, t2⟩ := hT.2.2 p (by omega)
    have e39 : isBl (tp p) = true → ∃ m2, Fr5 m m2 ∧ m2 33 5 = nI (ruS isBl tp (r + 1) p) ∧ f_X3_advance_39 (f_X3_advance_0 f) (mk S m) (some 33) = f_X3_advance_52 (mk S m2) (some 33) := by
      intro hb
      have hF : FrC m (w2 m 33 5 (nI (p + 1))) := FrC.w (by omega)
      obtain ⟨m2, a1, a2, a3⟩ := ih f (p + 1) (w2 m 33 5 (nI (p + 1))) (by omega) (by omega) (hT.fr hF) (by rw [w2_ap, if_pos ⟨rfl, rfl⟩])
      refine ⟨m2, a1.w, ?_, ?_⟩
      · rw [a2]
        show _ = nI (if isBl (tp p) = true then _ else _)
        rw [if_pos hb]
      · unfold f_X3_advance_39
        rw [gI_k hk, Option.bind_some, h5, pI_k hk, Option.bind_some, show nI p + (1 : Int32) = nI (p + 1) from nI_add p 1, a3]
    show ∃ m2, Fr5 m m2 ∧ m2 33 5 = _ ∧ fb_X3_advance_0 (f_X3_advance_0 f) (mk S m) (some 33) = _
    unfold fb_X3_advance_0
    simp only [gI_k hk, gR_k hk]
    rw [Option.bind_some, Option.bind_some, h5, hT.1, if_pos (nI_lt (by omega) (by omega)), Option.bind_some, Option.bind_some, rr33_0 hS, rI_n (rd34 hS) (show p < 160 by omega) (by decide), Option.bind_some, t1]
    by_cases c1 : tp p = 32
    · rw [if_pos (by rw [c1]; rfl)]
      exact e39 (by unfold isBl; simp [c1])
    · rw [if_neg (show ¬ nI (tp p) = (32 : Int32) from fun y => c1 ((nI_eq (b := 32) (by omega) (by decide)).1 y)), Option.bind_some, Option.bind_some, rI_n (rd34 hS) (show p < 160 by omega) (by decide), Option.bind_some, t1]
      by_cases c2 : tp p = 10
      · rw [if_pos (by rw [c2]; rfl)]
        exact e39 (by unfold isBl; simp [c2])
      · rw [if_neg (show ¬ nI (tp p) = (10 : Int32) from fun y => c2 ((nI_eq (b := 10) (by omega) (by decide)).1 y))]
        refine ⟨m, fun _ _ _ => rfl, ?_, rfl⟩
        rw [h5]
        show _ = nI (if isBl (tp p) = true then _ else _)
        rw [if_neg (by unfold isBl; simp [c1, c2])]
theorem C_run {S : SK} {n : Nat} {tp : Nat → Nat} (hS : RdOK S) : ∀ (r f p : Nat) (m : Nat → Nat → Int32), p + r = n → r < f → TPc m n tp → m 33 5 = nI p → ∃ m2, Fr5 m m2 ∧ m2 33 5 = nI (ruS isL tp r p) ∧ f_X3_takeWord_0 f (mk S m) (some 33) = f_X3_takeWord_39 (mk S m2) (some 33) := by
  have hk : (sh S 33).1 = 3 := by rw [rd33 hS]
  intro r
  induction r with
  | zero =>
    intro f p m hp hf hT h5
    obtain ⟨f, rfl⟩ : ∃ k, f = k + 1 := ⟨f - 1, by omega⟩
    have hn := hT.2.1
    refine ⟨m, fun _ _ _ => rfl, h5, ?_⟩
    show fb_X3_takeWord_0 (f_X3_takeWord_0 f) (mk S m) (some 33) = _
    unfold fb_X3_takeWord_0
    rw [gI_k hk, gI_k hk, h5, hT.1, Option.bind_some, Option.bind_some, if_neg (nI_nlt (by omega) (by omega))]
  | succ r ih =>
    intro f p m hp hf hT h5
    obtain ⟨f, rfl⟩ : ∃ k, f = k + 1 := ⟨f - 1, by omega⟩
    have hn := hT.2.1
    obtain ⟨t1, t2⟩ := hT.2.2 p (by omega)
    show ∃ m2, Fr5 m m2 ∧ m2 33 5 = _ ∧ fb_X3_takeWord_0 (f_X3_takeWord_0 f) (mk S m) (some 33) = _
    unfold fb_X3_takeWord_0
    rw [gI_k hk, gI_k hk, Option.bind_some, Option.bind_some, h5, hT.1, if_pos (nI_lt (by omega) (by omega)), gR_k hk, Option.bind_some, Option.bind_some, rr33_0 hS, rI_n (rd34 hS) (show p < 160 by omega) (by decide), Option.bind_some, t1, X3_isL t2, Option.bind_some]
    by_cases c1 : isL (tp p) = true
    · have hF : FrC m (w2 m 33 5 (nI (p + 1))) := FrC.w (by omega)
      obtain ⟨m2, a1, a2, a3⟩ := ih f (p + 1) (w2 m 33 5 (nI (p + 1))) (by omega) (by omega) (hT.fr hF) (by rw [w2_ap, if_pos ⟨rfl, rfl⟩])
      refine ⟨m2, a1.w, ?_, ?_⟩
      · rw [a2]
        show _ = nI (if isL (tp p) = true then _ else _)
        rw [if_pos c1]
      · rw [if_pos c1, if_neg (show ¬ (1 : Int32) = 0 by decide)]
        show ((gI (mk S m) 3 (some 33) 5).bind fun v12 => (pI (mk S m) 3 (some 33) 5 (v12 + 1)).bind fun h13 => f_X3_takeWord_0 f h13 (some 33)) = _
        rw [gI_k hk, Option.bind_some, h5, pI_k hk, Option.bind_some, show nI p + (1 : Int32) = nI (p + 1) from nI_add p 1, a3]
    · refine ⟨m, fun _ _ _ => rfl, ?_, ?_⟩
      · rw [h5]
        show _ = nI (if isL (tp p) = true then _ else _)
        rw [if_neg c1]
      · rw [if_neg c1, if_pos rfl]
theorem X3_wordAt {h : XM} {k : Nat} (hk : k < 12) : f_X3_wordAt h (nI k) = some (3 * (k + 1), h) := by
  rcases (show k = 0 ∨ k = 1 ∨ k = 2 ∨ k = 3 ∨ k = 4 ∨ k = 5 ∨ k = 6 ∨ k = 7 ∨ k = 8 ∨ k = 9 ∨ k = 10 ∨ k = 11 by omega) with rfl | rfl | rfl | rfl | rfl | rfl | rfl | rfl | rfl | rfl | rfl | rfl <;> rfl
theorem C_spellsL {S : SK} {m : Nat → Nat → Int32} {n : Nat} {tp : Nat → Nat} (hS : RdOK S) (hT : TPc m n tp) {k s e : Nat} (hk : k < 12) (h6 : m 33 6 = nI s) (he : e ≤ n) (hl : (wT.getD (k + 1) []).length = e - s) (hse : s ≤ e) : ∀ (r f i : Nat), i + r = e - s → r < f → (∀ j, j < i → (wT.getD (k + 1) []).getD j 0 = tp (s + j)) → f_X3_spells_20 f (mk S m) (some 33) (3 * (k + 1)) (nI i) = some (if wT.getD (k + 1) [] = tlS tp s (e - s) then 1 else 0, mk S m) := by
  have hk3 : (sh S 33).1 = 3 := by rw [rd33 hS]
  have hn := hT.2.1
  intro r
  induction r with
  | zero =>
    intro f i hi hf ha
    obtain ⟨f, rfl⟩ : ∃ k, f = k + 1 := ⟨f - 1, by omega⟩
    show fb_X3_spells_20 (f_X3_spells_20 f) (mk S m) (some 33) (3 * (k + 1)) (nI i) = _
    unfold fb_X3_spells_20
    rw [J0_len (by omega), Option.bind_some, if_neg (nI_nlt (show (wT.getD (k + 1) []).length ≤ i by omega) (by omega))]
    rw [if_pos (tlS_eq.2 ⟨hl, fun j hj => ha j (by omega)⟩)]
    unfold rz
    rw [if_pos (Or.inr rfl)]
  | succ r ih =>
    intro f i hi hf ha
    obtain ⟨f, rfl⟩ : ∃ k, f = k + 1 := ⟨f - 1, by omega⟩
    obtain ⟨t1, t2⟩ := hT.2.2 (s + i) (by omega)
    have hb := ((wT_b (k + 1) (by omega)).2.2 i (by omega)).2
    show fb_X3_spells_20 (f_X3_spells_20 f) (mk S m) (some 33) (3 * (k + 1)) (nI i) = _
    unfold fb_X3_spells_20
    rw [J0_len (by omega), Option.bind_some, if_pos (show nI i < nI (wT.getD (k + 1) []).length from nI_lt (by omega) (by omega)), J0_char (by omega) (by omega), Option.bind_some]
    show ((gR (mk S m) 3 (some 33) 0).bind fun v3 => (gI (mk S m) 3 (some 33) 6).bind fun v4 => (rI (mk S m) v3 (v4 + nI i)).bind fun v5 => if nI ((wT.getD (k + 1) []).getD i 0) = v5 then (bnd (nI i + (1 : Int32)) fun v6 => f_X3_spells_20 f (mk S m) (some 33) (3 * (k + 1)) v6) else (rz (mk S m) ((0 : Int32)))) = _
    rw [gR_k hk3, Option.bind_some, rr33_0 hS, gI_k hk3, Option.bind_some, h6, nI_add, rI_n (rd34 hS) (show s + i < 160 by omega) (by decide), Option.bind_some, t1]
    by_cases c : (wT.getD (k + 1) []).getD i 0 = tp (s + i)
    · rw [if_pos (by rw [c]), bnd_eq, show nI i + (1 : Int32) = nI (i + 1) from nI_add i 1]
      exact ih f (i + 1) (by omega) (by omega) (fun j hj => by
        by_cases c2 : j = i
        · rw [c2]; exact c
        · exact ha j (by omega))
    · rw [if_neg (fun y => c ((nI_eq (by omega) (by omega)).1 y)), if_neg (fun y => c ((tlS_eq.1 y).2 i (by omega)))]
      unfold rz
      rw [if_pos (Or.inl rfl)]
theorem C_spells {S : SK} {m : Nat → Nat → Int32} {n : Nat} {tp : Nat → Nat} (hS : RdOK S) (hT : TPc m n tp) {k s e : Nat} (hk : k < 12) (h5 : m 33 5 = nI e) (h6 : m 33 6 = nI s) (he : e ≤ n) (hse : s ≤ e) : f_X3_spells (mk S m) (some 33) (3 * (k + 1)) = some (if wT.getD (k + 1) [] = tlS tp s (e - s) then 1 else 0, mk S m) := by
  have hk3 : (sh S 33).1 = 3 := by rw [rd33 hS]
  have hn := hT.2.1
  have hb := (wT_b (k + 1) (by omega)).2.1
  unfold f_X3_spells
  rw [J0_len (by omega), Option.bind_some]
  show ((gI (mk S m) 3 (some 33) 5).bind fun v8 => (gI (mk S m) 3 (some 33) 6).bind fun v9 => if nI (wT.getD (k + 1) []).length = (v8 - v9) then (f_X3_spells_20 FU (mk S m) (some 33) (3 * (k + 1)) ((0 : Int32))) else (rz (mk S m) ((0 : Int32)))) = _
  rw [gI_k hk3, Option.bind_some, gI_k hk3, Option.bind_some, h5, h6, pk_sub hse]
  by_cases c : (wT.getD (k + 1) []).length = e - s
  · rw [if_pos (by rw [c])]
    exact C_spellsL hS hT hk h6 he c hse (e - s) FU 0 (by omega) (by unfold FU; omega) (fun j hj => by omega)
  · rw [if_neg (fun y => c ((nI_eq (by omega) (by omega)).1 y)), if_neg (fun y => c (tlS_eq.1 y).1)]
    unfold rz
    rw [if_pos (Or.inl rfl)]
theorem C_words {S : SK} {n : Nat} {tp : Nat → Nat} (hS : RdOK S) {s e : Nat} (he : e ≤ n) (hse : s ≤ e) : ∀ (r f k : Nat) (m : Nat → Nat → Int32), k + r = 12 → r < f → TPc m n tp → m 33 5 = nI e → m 33 6 = nI s → m 33 7 = nI (if wdK (tlS tp s (e - s)) < k then wdK (tlS tp s (e - s)) else 258) → ∃ m2, FrC m m2 ∧ m2 33 5 = nI e ∧ m2 33 6 = nI s ∧ m2 33 7 = nI (if wdK (tlS tp s (e - s)) = 12 then 258 else wdK (tlS tp s (e - s))) ∧ f_X3_takeWord_48 f (mk S m) (some 33) (nI k) = some (mk S m2) := by
  have hk3 : (sh S 33).1 = 3 := by rw [rd33 hS]
  have hw := wdK_le (tlS tp s (e - s))
  intro r
  induction r with
  | zero =>
    intro f k m hkr hf hT h5 h6 h7
    obtain ⟨f, rfl⟩ : ∃ k, f = k + 1 := ⟨f - 1, by omega⟩
    refine ⟨m, fun _ _ _ => rfl, h5, h6, ?_, ?_⟩
    · rw [h7]
      by_cases c : wdK (tlS tp s (e - s)) = 12
      · rw [if_neg (by omega), if_pos c]
      · rw [if_pos (by omega), if_neg c]
    · show fb_X3_takeWord_48 (f_X3_takeWord_48 f) (mk S m) (some 33) (nI k) = _
      unfold fb_X3_takeWord_48
      rw [if_neg (show ¬ nI k < (12 : Int32) from nI_nlt (b := 12) (by omega) (by omega))]
  | succ r ih =>
    intro f k m hkr hf hT h5 h6 h7
    obtain ⟨f, rfl⟩ : ∃ k, f = k + 1 := ⟨f - 1, by omega⟩
    have hkk : k < 12 := by omega
    show ∃ m2, FrC m m2 ∧ _ ∧ _ ∧ _ ∧ fb_X3_takeWord_48 (f_X3_takeWord_48 f) (mk S m) (some 33) (nI k) = _
    unfold fb_X3_takeWord_48
    rw [if_pos (show nI k < (12 : Int32) from nI_lt (b := 12) hkk (by decide)), X3_wordAt hkk, Option.bind_some]
    show ∃ m2, FrC m m2 ∧ _ ∧ _ ∧ _ ∧ ((vc (mk S m) 3 (some 33) (f_X3_spells (mk S m) (some 33) (3 * (k + 1)))).bind fun q3 => if q3.1 = 0 then (f_X3_takeWord_70 (f_X3_takeWord_48 f) q3.2 (some 33) (nI k)) else ((pI q3.2 3 (some 33) 7 (nI k)).bind fun h4 => f_X3_takeWord_70 (f_X3_takeWord_48 f) h4 (some 33) (nI k))) = _
    rw [vc_k hk3, C_spells hS hT hkk h5 h6 he hse, Option.bind_some]
    by_cases c : wT.getD (k + 1) [] = tlS tp s (e - s)
    · have hwk := wdK_of hkk c
      have hF : FrC m (w2 m 33 7 (nI k)) := FrC.w (by omega)
      obtain ⟨m2, a1, a2, a3, a4, a5⟩ := ih f (k + 1) (w2 m 33 7 (nI k)) (by omega) (by omega) (hT.fr hF) (by rw [w2_ap, if_neg (by omega)]; exact h5) (by rw [w2_ap, if_neg (by omega)]; exact h6) (by rw [w2_ap, if_pos ⟨rfl, rfl⟩, hwk, if_pos (by omega)])
      refine ⟨m2, hF.tr a1, a2, a3, a4, ?_⟩
      rw [if_pos c, if_neg (show ¬ (1 : Int32) = 0 by decide)]
      show ((pI (mk S m) 3 (some 33) 7 (nI k)).bind fun h4 => f_X3_takeWord_70 (f_X3_takeWord_48 f) h4 (some 33) (nI k)) = _
      rw [pI_k hk3, Option.bind_some]
      unfold f_X3_takeWord_70
      rw [bnd_eq, show nI k + (1 : Int32) = nI (k + 1) from nI_add k 1]
      exact a5
    · have hwk : wdK (tlS tp s (e - s)) ≠ k := fun y => c (by rw [← y]; exact hw.2 (by omega))
      obtain ⟨m2, a1, a2, a3, a4, a5⟩ := ih f (k + 1) m (by omega) (by omega) hT h5 h6 (by
        rw [h7]
        by_cases c2 : wdK (tlS tp s (e - s)) < k
        · rw [if_pos c2, if_pos (by omega)]
        · rw [if_neg c2, if_neg (by omega)])
      refine ⟨m2, a1, a2, a3, a4, ?_⟩
      rw [if_neg c, if_pos rfl]
      unfold f_X3_takeWord_70
      rw [bnd_eq, show nI k + (1 : Int32) = nI (k + 1) from nI_add k 1]
      exact a5
