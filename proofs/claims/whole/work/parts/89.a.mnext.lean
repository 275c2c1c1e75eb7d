/-! PURE: the reference's next -/
def Fr24 (m m2 : Nat → Nat → Int32) : Prop := ∀ b j, ¬ (b = 50 ∧ j = 24) → m2 b j = m b j
def FrM (m m2 : Nat → Nat → Int32) : Prop := ∀ b j, ¬ (b = 50 ∧ 24 ≤ j ∧ j ≤ 27) → m2 b j = m b j
def TPm (m : Nat → Nat → Int32) (n : Nat) (tp : Nat → Nat) : Prop := m 50 12 = nI n ∧ n ≤ 160 ∧ (∀ k, k < n → m 55 k = nI (tp k) ∧ tp k ≤ 255) ∧ ∀ k, k < 96 → m 64 k = nI (wdT.getD k 0)
theorem Fr24.w {m m2 : Nat → Nat → Int32} {v : Int32} (h : Fr24 (w2 m 50 24 v) m2) : Fr24 m m2 := fun b j hb => by
  rw [h b j hb, w2_ap, if_neg (by omega)]
theorem Fr24.c {m m2 : Nat → Nat → Int32} (h : Fr24 m m2) : FrM m m2 := fun b j hb => h b j (by omega)
theorem FrM.tr {m m2 m3 : Nat → Nat → Int32} (h : FrM m m2) (h2 : FrM m2 m3) : FrM m m3 := fun b j hb => by rw [h2 b j hb, h b j hb]
theorem FrM.w {m : Nat → Nat → Int32} {j : Nat} {v : Int32} (hj : 24 ≤ j ∧ j ≤ 27) : FrM m (w2 m 50 j v) := fun b i hb => by
  rw [w2_ap, if_neg (by omega)]
theorem TPm.fr {m m2 : Nat → Nat → Int32} {n : Nat} {tp : Nat → Nat} (h : TPm m n tp) (hf : FrM m m2) : TPm m2 n tp := by
  obtain ⟨a1, a2, a3, a4⟩ := h
  refine ⟨by rw [hf 50 12 (by omega)]; exact a1, a2, fun k hk => ?_, fun k hk => ?_⟩
  · rw [hf 55 k (by omega)]
    exact a3 k hk
  · rw [hf 64 k (by omega)]
    exact a4 k hk
theorem ruS_all {c : Nat → Bool} {tp : Nat → Nat} : ∀ (r p j : Nat), p ≤ j → j < ruS c tp r p → c (tp j) = true := by
  intro r
  induction r with
  | zero =>
    intro p j h1 h2
    have e : ruS c tp 0 p = p := rfl
    omega
  | succ r ih =>
    intro p j h1 h2
    unfold ruS at h2
    by_cases w : c (tp p) = true
    · rw [if_pos w] at h2
      by_cases e : j = p
      · rw [e]; exact w
      · exact ih (p + 1) j (by omega) h2
    · rw [if_neg w] at h2
      omega
theorem M_skip {S : SK} {n : Nat} {tp : Nat → Nat} (hS : SkOK S) : ∀ (r f p : Nat) (m : Nat → Nat → Int32), p + r = n → r < f → TPm m n tp → m 50 24 = nI p → ∃ m2, Fr24 m m2 ∧ m2 50 24 = nI (ruS isBl tp r p) ∧ f_X9_next_0 f (mk S m) (some 50) = f_X9_next_52 (mk S m2) (some 50) := by
  have hk : (sh S 50).1 = 9 := by rw [sk50 hS]
  intro r
  induction r with
  | zero =>
    intro f p m hp hf hT h5
    obtain ⟨f, rfl⟩ : ∃ k, f = k + 1 := ⟨f - 1, by omega⟩
    have hn := hT.2.1
    refine ⟨m, fun _ _ _ => rfl, h5, ?_⟩
    show fb_X9_next_0 (f_X9_next_0 f) (mk S m) (some 50) = _
    unfold fb_X9_next_0
    rw [gI_k hk, gI_k hk, h5, hT.1, Option.bind_some, Option.bind_some, if_neg (nI_nlt (by omega) (by omega))]
  | succ r ih =>
    intro f p m hp hf hT h5
    obtain ⟨f, rfl⟩ : ∃ k, f = k + 1 := ⟨f - 1, by omega⟩
    have hn := hT.2.1
    obtain ⟨t1, t2⟩ := hT.2.2.1 p (by omega)
    have e39 : isBl (tp p) = true → ∃ m2, Fr24 m m2 ∧ m2 50 24 = nI (ruS isBl tp (r + 1) p) ∧ f_X9_next_39 (f_X9_next_0 f) (mk S m) (some 50) = f_X9_next_52 (mk S m2) (some 50) := by
      intro hb
      have hF : FrM m (w2 m 50 24 (nI (p + 1))) := FrM.w (by omega)
      obtain ⟨m2, a1, a2, a3⟩ := ih f (p + 1) (w2 m 50 24 (nI (p + 1))) (by omega) (by omega) (hT.fr hF) (by rw [w2_ap, if_pos ⟨rfl, rfl⟩])
      refine ⟨m2, a1.w, ?_, ?_⟩
      · rw [a2]
        show _ = nI (if isBl (tp p) = true then _ else _)
        rw [if_pos hb]
      · unfold f_X9_next_39
        rw [gI_k hk, Option.bind_some, h5, pI_k hk, Option.bind_some, show nI p + (1 : Int32) = nI (p + 1) from nI_add p 1, a3]
    show ∃ m2, Fr24 m m2 ∧ m2 50 24 = _ ∧ fb_X9_next_0 (f_X9_next_0 f) (mk S m) (some 50) = _
    unfold fb_X9_next_0
    simp only [gI_k hk, gR_k hk]
    rw [Option.bind_some, Option.bind_some, h5, hT.1, if_pos (nI_lt (by omega) (by omega)), Option.bind_some, Option.bind_some, rk50_11 hS, rI_n (sk55 hS) (show p < 160 by omega) (by decide), Option.bind_some, t1]
    by_cases c1 : tp p = 32
    · rw [if_pos (by rw [c1]; rfl)]
      exact e39 (by unfold isBl; simp [c1])
    · rw [if_neg (show ¬ nI (tp p) = (32 : Int32) from fun y => c1 ((nI_eq (b := 32) (by omega) (by decide)).1 y)), Option.bind_some, Option.bind_some, rI_n (sk55 hS) (show p < 160 by omega) (by decide), Option.bind_some, t1]
      by_cases c2 : tp p = 10
      · rw [if_pos (by rw [c2]; rfl)]
        exact e39 (by unfold isBl; simp [c2])
      · rw [if_neg (show ¬ nI (tp p) = (10 : Int32) from fun y => c2 ((nI_eq (b := 10) (by omega) (by decide)).1 y))]
        refine ⟨m, fun _ _ _ => rfl, ?_, rfl⟩
        rw [h5]
        show _ = nI (if isBl (tp p) = true then _ else _)
        rw [if_neg (by unfold isBl; simp [c1, c2])]
theorem M_run {S : SK} {n : Nat} {tp : Nat → Nat} (hS : SkOK S) : ∀ (r f p : Nat) (m : Nat → Nat → Int32), p + r = n → r < f → TPm m n tp → m 50 24 = nI p → ∃ m2, Fr24 m m2 ∧ m2 50 24 = nI (ruS isL tp r p) ∧ f_X9_next_103 f (mk S m) (some 50) = f_X9_next_146 (mk S m2) (some 50) := by
  have hk : (sh S 50).1 = 9 := by rw [sk50 hS]
  intro r
  induction r with
  | zero =>
    intro f p m hp hf hT h5
    obtain ⟨f, rfl⟩ : ∃ k, f = k + 1 := ⟨f - 1, by omega⟩
    have hn := hT.2.1
    refine ⟨m, fun _ _ _ => rfl, h5, ?_⟩
    show fb_X9_next_103 (f_X9_next_103 f) (mk S m) (some 50) = _
    unfold fb_X9_next_103
    rw [gI_k hk, gI_k hk, h5, hT.1, Option.bind_some, Option.bind_some, if_neg (nI_nlt (by omega) (by omega))]
  | succ r ih =>
    intro f p m hp hf hT h5
    obtain ⟨f, rfl⟩ : ∃ k, f = k + 1 := ⟨f - 1, by omega⟩
    have hn := hT.2.1
    obtain ⟨t1, t2⟩ := hT.2.2.1 p (by omega)
    show ∃ m2, Fr24 m m2 ∧ m2 50 24 = _ ∧ fb_X9_next_103 (f_X9_next_103 f) (mk S m) (some 50) = _
    unfold fb_X9_next_103
    rw [gI_k hk, gI_k hk, Option.bind_some, Option.bind_some, h5, hT.1, if_pos (nI_lt (by omega) (by omega)), gR_k hk, Option.bind_some, Option.bind_some, rk50_11 hS, rI_n (sk55 hS) (show p < 160 by omega) (by decide), Option.bind_some, t1, X9_isL t2, Option.bind_some]
    by_cases c1 : isL (tp p) = true
    · have hF : FrM m (w2 m 50 24 (nI (p + 1))) := FrM.w (by omega)
      obtain ⟨m2, a1, a2, a3⟩ := ih f (p + 1) (w2 m 50 24 (nI (p + 1))) (by omega) (by omega) (hT.fr hF) (by rw [w2_ap, if_pos ⟨rfl, rfl⟩])
      refine ⟨m2, a1.w, ?_, ?_⟩
      · rw [a2]
        show _ = nI (if isL (tp p) = true then _ else _)
        rw [if_pos c1]
      · rw [if_pos c1, if_neg (show ¬ (1 : Int32) = 0 by decide)]
        show ((gI (mk S m) 9 (some 50) 24).bind fun v12 => (pI (mk S m) 9 (some 50) 24 (v12 + 1)).bind fun h13 => f_X9_next_103 f h13 (some 50)) = _
        rw [gI_k hk, Option.bind_some, h5, pI_k hk, Option.bind_some, show nI p + (1 : Int32) = nI (p + 1) from nI_add p 1, a3]
    · refine ⟨m, fun _ _ _ => rfl, ?_, ?_⟩
      · rw [h5]
        show _ = nI (if isL (tp p) = true then _ else _)
        rw [if_neg c1]
      · rw [if_neg c1, if_pos rfl]
/-- the reference's order of the words -/
def rwS (q : Nat) : Nat := if q < 3 then q + 6 else if q < 9 then q - 3 else q
theorem rw_ok : ∀ q, q < 12 → rwS q < 12 ∧ (∀ c, c < 8 → wdT.getD (8 * q + c) 0 = (wT.getD (rwS q + 1) []).getD c 32) ∧ (wT.getD (rwS q + 1) []).length ≤ 6 ∧ ∀ c, c < (wT.getD (rwS q + 1) []).length → (wT.getD (rwS q + 1) []).getD c 32 ≠ 32 := by decide +kernel
theorem rw_in : ∀ k, k < 12 → ∃ q, q < 12 ∧ rwS q = k := by decide +kernel
def lkP (tp : Nat → Nat) (q s len : Nat) : Prop := ∀ c, c < 8 → wdT.getD (8 * q + c) 0 = if c < len then tp (s + c) else 32
theorem gd_eq (l : List Nat) {c a b : Nat} (hc : c < l.length) : l.getD c a = l.getD c b := by
  rw [List.getD_eq_getElem?_getD, List.getD_eq_getElem?_getD, List.getElem?_eq_getElem hc]
  rfl
theorem lkP_iff {tp : Nat → Nat} {q s len : Nat} (hq : q < 12) (hl : len ≤ 8) (ha : ∀ j, s ≤ j → j < s + len → isL (tp j) = true) : lkP tp q s len ↔ wT.getD (rwS q + 1) [] = tlS tp s len := by
  obtain ⟨a1, a2, a3, a4⟩ := rw_ok q hq
  have nl : ∀ c, c < len → tp (s + c) ≠ 32 := fun c hc y => by
    have := ha (s + c) (by omega) (by omega)
    rw [y] at this
    exact absurd this (by decide)
  have g32 : ∀ c, (wT.getD (rwS q + 1) []).length ≤ c → (wT.getD (rwS q + 1) []).getD c 32 = 32 := fun c hc => by
    rw [List.getD_eq_getElem?_getD, List.getElem?_eq_none hc]
    rfl
  have g0 : ∀ c, c < (wT.getD (rwS q + 1) []).length → (wT.getD (rwS q + 1) []).getD c 0 = (wT.getD (rwS q + 1) []).getD c 32 := fun c hc => by
    exact gd_eq _ hc
  rw [tlS_eq]
  constructor
  · intro h
    have e1 : (wT.getD (rwS q + 1) []).length = len := by
      rcases Nat.lt_trichotomy (wT.getD (rwS q + 1) []).length len with c | c | c
      · have := h (wT.getD (rwS q + 1) []).length (by omega)
        rw [a2 _ (by omega), g32 _ (Nat.le_refl _), if_pos c] at this
        exact absurd this.symm (nl _ c)
      · exact c
      · have := h len (by omega)
        rw [a2 _ (by omega), if_neg (by omega)] at this
        exact absurd this (a4 _ c)
    refine ⟨e1, fun i hi => ?_⟩
    have := h i (by omega)
    rw [a2 _ (by omega), if_pos (by omega)] at this
    rw [g0 i hi]
    exact this
  · rintro ⟨h1, h2⟩ c hc
    rw [a2 c hc]
    by_cases w : c < len
    · rw [if_pos w, ← g0 c (by omega)]
      exact h2 c (by omega)
    · rw [if_neg w]
      exact g32 c (by omega)
theorem M_likeL {S : SK} {n : Nat} {tp : Nat → Nat} {m : Nat → Nat → Int32} (hS : SkOK S) (hT : TPm m n tp) {q s e : Nat} (hq : q < 12) (hse : s ≤ e) (he : e ≤ n) (k2 : XM → Option Nat → Int32 → Int32 → Int32 → Option (Int32 × XM)) : ∀ (r f c : Nat), c + r = 8 → r < f → (∀ j, j < c → wdT.getD (8 * q + j) 0 = if j < e - s then tp (s + j) else 32) → ∃ l4 : Int32, (l4 = 0 ∧ ¬ lkP tp q s (e - s) ∨ l4 = 1 ∧ lkP tp q s (e - s)) ∧ f_X9_wordFrom_26 k2 f (mk S m) (some 50) (nI s) (nI e) (nI q) 1 (nI c) = f_X9_wordFrom_88 k2 (mk S m) (some 50) (nI s) (nI e) (nI q) l4 := by
  have hk : (sh S 50).1 = 9 := by rw [sk50 hS]
  have hn := hT.2.1
  intro r
  induction r with
  | zero =>
    intro f c hc hf ha
    obtain ⟨f, rfl⟩ : ∃ k, f = k + 1 := ⟨f - 1, by omega⟩
    refine ⟨1, Or.inr ⟨rfl, fun j hj => ha j (by omega)⟩, ?_⟩
    show fb_X9_wordFrom_26 k2 (f_X9_wordFrom_26 k2 f) (mk S m) (some 50) (nI s) (nI e) (nI q) 1 (nI c) = _
    unfold fb_X9_wordFrom_26
    rw [if_neg (show ¬ nI c < (8 : Int32) from nI_nlt (b := 8) (by omega) (by omega))]
  | succ r ih =>
    intro f c hc hf ha
    obtain ⟨f, rfl⟩ : ∃ k, f = k + 1 := ⟨f - 1, by omega⟩
    have hw := hT.2.2.2 (8 * q + c) (by omega)
    have hwb : wdT.getD (8 * q + c) 0 < 256 := (by decide +kernel : ∀ k, k < 96 → wdT.getD k 0 < 256) _ (by omega)
    show ∃ l4 : Int32, _ ∧ fb_X9_wordFrom_26 k2 (f_X9_wordFrom_26 k2 f) (mk S m) (some 50) (nI s) (nI e) (nI q) 1 (nI c) = _
    unfold fb_X9_wordFrom_26
    have e80 : ∀ l : Int32, f_X9_wordFrom_80 k2 (f_X9_wordFrom_26 k2 f) (mk S m) (some 50) (nI s) (nI e) (nI q) (nI c) l = f_X9_wordFrom_26 k2 f (mk S m) (some 50) (nI s) (nI e) (nI q) l (nI (c + 1)) := fun l => by
      unfold f_X9_wordFrom_80
      rw [bnd_eq, show nI c + (1 : Int32) = nI (c + 1) from nI_add c 1]
    have h0 : ∃ g, f = g + 1 := ⟨f - 1, by omega⟩
    have e26 : f_X9_wordFrom_26 k2 f (mk S m) (some 50) (nI s) (nI e) (nI q) 0 (nI (c + 1)) = f_X9_wordFrom_88 k2 (mk S m) (some 50) (nI s) (nI e) (nI q) 0 := by
      obtain ⟨g, rfl⟩ := h0
      show fb_X9_wordFrom_26 k2 (f_X9_wordFrom_26 k2 g) (mk S m) (some 50) (nI s) (nI e) (nI q) 0 (nI (c + 1)) = _
      unfold fb_X9_wordFrom_26
      split
      · rw [if_pos rfl]
      · rfl
    have key : ∀ x : Nat, x ≤ 255 → x = (if c < e - s then tp (s + c) else 32) → ∃ l4 : Int32, (l4 = 0 ∧ ¬ lkP tp q s (e - s) ∨ l4 = 1 ∧ lkP tp q s (e - s)) ∧ f_X9_wordFrom_72 k2 (f_X9_wordFrom_26 k2 f) (mk S m) (some 50) (nI s) (nI e) (nI q) (nI c) (nI x) (nI (wdT.getD (8 * q + c) 0)) = f_X9_wordFrom_88 k2 (mk S m) (some 50) (nI s) (nI e) (nI q) l4 := by
      intro x hx hxe
      unfold f_X9_wordFrom_72
      by_cases w : wdT.getD (8 * q + c) 0 = x
      · obtain ⟨l4, a1, a2⟩ := ih f (c + 1) (by omega) (by omega) (fun j hj => by
          by_cases y : j = c
          · rw [y, w, hxe]
          · exact ha j (by omega))
        refine ⟨l4, a1, ?_⟩
        rw [if_pos (by rw [w]), e80]
        exact a2
      · refine ⟨0, Or.inl ⟨rfl, fun y => w ?_⟩, ?_⟩
        · rw [hxe]
          exact y c (by omega)
        · rw [if_neg (fun y => w ((nI_eq (by omega) (by omega)).1 y)), e80, e26]
    rw [if_pos (show nI c < (8 : Int32) from nI_lt (b := 8) (by omega) (by decide)), if_neg (show ¬ (1 : Int32) = 0 by decide), gR_k hk, Option.bind_some, rk50_28 hS, show ((8 : Int32) * nI q) + nI c = nI (8 * q + c) from by
      rw [show (8 : Int32) * nI q = nI (8 * q) from pk_mul 8 q, nI_add], rI_n (sk64 hS) (show 8 * q + c < 96 by omega) (by decide), Option.bind_some, hw, nI_add]
    by_cases c1 : c < e - s
    · obtain ⟨t1, t2⟩ := hT.2.2.1 (s + c) (by omega)
      rw [if_pos (nI_lt (by omega) (by omega)), gR_k hk, Option.bind_some, rk50_11 hS, rI_n (sk55 hS) (show s + c < 160 by omega) (by decide), Option.bind_some, t1]
      exact key _ t2 (by rw [if_pos c1])
    · rw [if_neg (nI_nlt (by omega) (by omega))]
      exact key 32 (by decide) (by rw [if_neg c1])
theorem M_wordL {S : SK} {n : Nat} {tp : Nat → Nat} {m : Nat → Nat → Int32} (hS : SkOK S) (hT : TPm m n tp) {s e : Nat} (hse : s ≤ e) (he : e ≤ n) (ha : ∀ j, s ≤ j → j < e → isL (tp j) = true) : ∀ (r f q : Nat), q + r = 12 → r < f → (∀ j, j < q → wT.getD (rwS j + 1) [] ≠ tlS tp s (e - s)) → ∃ k, k ≤ 12 ∧ (k < 12 → wT.getD (rwS k + 1) [] = tlS tp s (e - s)) ∧ (k = 12 → ∀ j, j < 12 → wT.getD (rwS j + 1) [] ≠ tlS tp s (e - s)) ∧ f_X9_wordFrom_2 f (mk S m) (some 50) (nI s) (nI e) (nI q) = some (nI k, mk S m) := by
  have hn := hT.2.1
  intro r
  induction r with
  | zero =>
    intro f q hq hf hno
    obtain ⟨f, rfl⟩ : ∃ k, f = k + 1 := ⟨f - 1, by omega⟩
    have hq12 : q = 12 := by omega
    subst hq12
    refine ⟨12, Nat.le_refl _, fun y => absurd y (by decide), fun _ => hno, ?_⟩
    rfl
  | succ r ih =>
    intro f q hq hf hno
    obtain ⟨f, rfl⟩ : ∃ k, f = k + 1 := ⟨f - 1, by omega⟩
    have hq12 : q < 12 := by omega
    have go : wT.getD (rwS q + 1) [] ≠ tlS tp s (e - s) → ∃ k, k ≤ 12 ∧ (k < 12 → wT.getD (rwS k + 1) [] = tlS tp s (e - s)) ∧ (k = 12 → ∀ j, j < 12 → wT.getD (rwS j + 1) [] ≠ tlS tp s (e - s)) ∧ f_X9_wordFrom_88 (f_X9_wordFrom_2 f) (mk S m) (some 50) (nI s) (nI e) (nI q) 0 = some (nI k, mk S m) := by
      intro hne
      unfold f_X9_wordFrom_88
      rw [if_pos rfl, bnd_eq, show nI q + (1 : Int32) = nI (q + 1) from nI_add q 1]
      exact ih f (q + 1) (by omega) (by omega) (fun j hj => by
        by_cases y : j = q
        · rw [y]; exact hne
        · exact hno j (by omega))
    show ∃ k, _ ∧ _ ∧ _ ∧ fb_X9_wordFrom_2 (f_X9_wordFrom_2 f) (mk S m) (some 50) (nI s) (nI e) (nI q) = _
    unfold fb_X9_wordFrom_2 f_X9_wordFrom_21
    rw [if_pos (show nI q < (12 : Int32) from nI_lt (b := 12) hq12 (by decide)), pk_sub hse]
    by_cases c8 : 8 < e - s
    · rw [if_pos (show (8 : Int32) < nI (e - s) from nI_lt (a := 8) c8 (by omega))]
      have e26 : f_X9_wordFrom_26 (f_X9_wordFrom_2 f) FU (mk S m) (some 50) (nI s) (nI e) (nI q) 0 0 = f_X9_wordFrom_88 (f_X9_wordFrom_2 f) (mk S m) (some 50) (nI s) (nI e) (nI q) 0 := by
        show fb_X9_wordFrom_26 (f_X9_wordFrom_2 f) (f_X9_wordFrom_26 (f_X9_wordFrom_2 f) 4999) (mk S m) (some 50) (nI s) (nI e) (nI q) 0 0 = _
        unfold fb_X9_wordFrom_26
        rw [if_pos (by decide), if_pos rfl]
      rw [e26]
      refine go (fun y => ?_)
      have h1 := (tlS_eq.1 y).1
      have h2 := (rw_ok q hq12).2.2.1
      omega
    · rw [if_neg (show ¬ (8 : Int32) < nI (e - s) from nI_nlt (a := 8) (by omega) (by decide))]
      obtain ⟨l4, a1, a2⟩ := M_likeL hS hT hq12 hse he (f_X9_wordFrom_2 f) 8 FU 0 rfl (by unfold FU; omega) (fun j hj => by omega)
      have hif := lkP_iff (tp := tp) (s := s) (len := e - s) hq12 (by omega) (fun j h1 h2 => ha j h1 (by omega))
      rw [show f_X9_wordFrom_26 (f_X9_wordFrom_2 f) FU (mk S m) (some 50) (nI s) (nI e) (nI q) 1 0 = _ from a2]
      rcases a1 with ⟨rfl, h2⟩ | ⟨rfl, h2⟩
      · exact go (fun y => h2 (hif.2 y))
      · refine ⟨q, by omega, fun _ => hif.1 h2, fun y => by omega, ?_⟩
        unfold f_X9_wordFrom_88
        rw [if_neg (show ¬ (1 : Int32) = 0 by decide)]
