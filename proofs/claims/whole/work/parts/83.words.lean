/-! PURE: the tape's tokens; the class's words, letters -/
def isL (b : Nat) : Bool := decide (97 ≤ b) && decide (b ≤ 122)
def isD (b : Nat) : Bool := decide (48 ≤ b) && decide (b ≤ 57)
def isBl (b : Nat) : Bool := b == 32 || b == 10
def isSg (b : Nat) : Bool := b == 40 || b == 41 || b == 42 || b == 43 || b == 45 || b == 59 || b == 60 || b == 61
def ruS (c : Nat → Bool) (tp : Nat → Nat) : Nat → Nat → Nat
  | 0, p => p
  | r + 1, p => if c (tp p) = true then ruS c tp r (p + 1) else p
theorem ruS_ge {c : Nat → Bool} {tp : Nat → Nat} : ∀ (r p : Nat), p ≤ ruS c tp r p ∧ ruS c tp r p ≤ p + r := by
  intro r
  induction r with
  | zero => intro p; exact ⟨Nat.le_refl _, Nat.le_refl _⟩
  | succ r ih =>
    intro p
    unfold ruS
    have := ih (p + 1)
    split
    · omega
    · omega
theorem ruS_gt {c : Nat → Bool} {tp : Nat → Nat} {n p : Nat} (h : p < n) (hc : c (tp p) = true) : p < ruS c tp (n - p) p := by
  obtain ⟨r, hr⟩ : ∃ r, n - p = r + 1 := ⟨n - p - 1, by omega⟩
  rw [hr]
  unfold ruS
  rw [if_pos hc]
  have := (ruS_ge (c := c) (tp := tp) r (p + 1)).1
  omega
/-- the texts of the class: first the law that it begins with, then its words -/
def wT : List (List Nat) := [[111, 112, 101, 110, 115, 32, 114, 101, 115, 116, 32, 61, 32, 48, 32, 59, 32, 119, 111, 114, 116, 104, 32, 50, 48, 32, 59, 32, 104, 97, 115, 116, 101, 32, 109, 105, 110, 117, 116, 101, 32, 59], [115, 117, 109], [114, 101, 115, 116], [118, 97, 108, 117, 101], [109, 105, 110, 117, 116, 101], [99, 111, 105, 110, 115], [119, 104, 111], [111, 112, 101, 110, 115], [119, 111, 114, 116, 104], [104, 97, 115, 116, 101], [111, 114], [97, 110, 100], [110, 111, 116]]
theorem wT_b : ∀ k, k < 13 → (wT.getD k []).length = xLen.getD k 0 ∧ (wT.getD k []).length ≤ 42 ∧ ∀ i, i < (wT.getD k []).length → ((xByt.getD k []).getD i 0 &&& (255 : Int32)) = nI ((wT.getD k []).getD i 0) ∧ (wT.getD k []).getD i 0 < 256 := by decide +kernel
theorem ch_n : ∀ b, b < 256 → (((nI b).toUInt32 % 65536).toInt32) = nI b := by decide +kernel
theorem ch_rz {h : XM} {b : Nat} (hb : b < 256) : rzc h (nI b) = some (nI b, h) := by
  unfold rzc
  rw [if_pos]
  have : ∀ j : Fin 256, narrow .char (.int (nI j.val)) = .int (nI j.val) := by decide +kernel
  exact this ⟨b, hb⟩
theorem J0_len {h : XM} {k : Nat} (hk : k < 13) : vk (3 * k) (f_J0_length h (3 * k)) = some (nI (wT.getD k []).length, h) := by
  have c1 : 3 * k % 3 = 0 ∧ 3 * k / 3 < 13 := by omega
  have c2 : (3 * k + 1) % 3 = 1 ∧ (3 * k + 1) / 3 < 13 := by omega
  have e3 : (3 * k + 1) / 3 = k := by omega
  obtain ⟨a1, a2, a3⟩ := wT_b k hk
  unfold vk
  rw [if_pos c1]
  unfold f_J0_length gS
  rw [if_pos c1, Option.bind_some]
  unfold lnK
  rw [if_pos c2, Option.bind_some, e3]
  unfold vk
  rw [if_pos c1]
  unfold f_J0_coder
  rw [if_neg (by decide)]
  unfold gCo
  rw [if_pos c1, Option.bind_some]
  unfold f_J0_coder_14 rzb
  rw [if_pos rfl, Option.bind_some, ← a1]
  show some (nI (wT.getD k []).length >>> (nI 0 &&& nI 31), h) = _
  rw [shr_n (by omega) (by decide)]
  show some (nI ((wT.getD k []).length / 1), h) = _
  rw [Nat.div_one]
theorem J0_char {h : XM} {k i : Nat} (hk : k < 13) (hi : i < (wT.getD k []).length) : vk (3 * k) (f_J0_charAt h (3 * k) (nI i)) = some (nI ((wT.getD k []).getD i 0), h) := by
  have c1 : 3 * k % 3 = 0 ∧ 3 * k / 3 < 13 := by omega
  have c2 : (3 * k + 1) % 3 = 1 ∧ (3 * k + 1) / 3 < 13 := by omega
  have e3 : (3 * k + 1) / 3 = k := by omega
  obtain ⟨a1, a2, a3⟩ := wT_b k hk
  obtain ⟨a4, a5⟩ := a3 i hi
  have e1 : vk (3 * k) (f_J0_isLatin1 h (3 * k)) = some (1, h) := by
    unfold vk
    rw [if_pos c1]
    unfold f_J0_isLatin1
    rw [if_neg (by decide)]
    unfold gCo
    rw [if_pos c1, Option.bind_some, if_pos rfl]
    unfold f_J0_isLatin1_18 rz
    rw [if_pos (Or.inr rfl)]
  unfold vk
  rw [if_pos c1]
  unfold f_J0_charAt
  rw [e1, Option.bind_some, if_neg (show ¬ (1 : Int32) = 0 by decide)]
  unfold gS
  rw [if_pos c1, Option.bind_some]
  unfold f_J1_charAt lnK
  rw [if_pos c2, Option.bind_some, e3, ← a1]
  unfold f_J0_checkIndex f_J3_checkIndex
  rw [if_neg (nI_pos (by omega)), if_pos (show nI i < Int32.ofNat (wT.getD k []).length from nI_lt hi (by omega)), Option.bind_some, Option.bind_some]
  unfold rB
  rw [e3, ← a1, if_pos ⟨⟨c2.1, hk⟩, ixN hi (by omega)⟩, nI_clamp (by omega), Option.bind_some, a4, ch_n _ a5, ch_rz a5, Option.bind_some, ch_rz a5]
theorem b_lt {b c : Nat} (hb : b ≤ 255) (hc : c ≤ 300) : nI b < nI c ↔ b < c := nI_ltI (by omega) (by omega)
theorem X3_isL {h : XM} {b : Nat} (hb : b ≤ 255) : f_X3_isLetter h (nI b) = some (if isL b = true then 1 else 0, h) := by
  unfold f_X3_isLetter isL
  by_cases c1 : b < 97
  · rw [if_pos (show nI b < (97 : Int32) from (b_lt (c := 97) hb (by decide)).2 c1)]
    simp [show ¬ 97 ≤ b by omega]
    rfl
  · rw [if_neg (show ¬ nI b < (97 : Int32) from fun y => c1 ((b_lt (c := 97) hb (by decide)).1 y))]
    by_cases c2 : 122 < b
    · rw [if_pos (show (122 : Int32) < nI b from nI_lt (a := 122) c2 (by omega))]
      simp [show ¬ b ≤ 122 by omega]
      rfl
    · rw [if_neg (show ¬ (122 : Int32) < nI b from nI_nlt (a := 122) (by omega) (by decide))]
      simp [show 97 ≤ b by omega, show b ≤ 122 by omega]
      rfl
theorem X3_isD {h : XM} {b : Nat} (hb : b ≤ 255) : f_X3_isDigit h (nI b) = some (if isD b = true then 1 else 0, h) := by
  unfold f_X3_isDigit isD
  by_cases c1 : b < 48
  · rw [if_pos (show nI b < (48 : Int32) from (b_lt (c := 48) hb (by decide)).2 c1)]
    simp [show ¬ 48 ≤ b by omega]
    rfl
  · rw [if_neg (show ¬ nI b < (48 : Int32) from fun y => c1 ((b_lt (c := 48) hb (by decide)).1 y))]
    by_cases c2 : 57 < b
    · rw [if_pos (show (57 : Int32) < nI b from nI_lt (a := 57) c2 (by omega))]
      simp [show ¬ b ≤ 57 by omega]
      rfl
    · rw [if_neg (show ¬ (57 : Int32) < nI b from nI_nlt (a := 57) (by omega) (by decide))]
      simp [show 48 ≤ b by omega, show b ≤ 57 by omega]
      rfl
theorem X9_isL {h : XM} {b : Nat} (hb : b ≤ 255) : f_X9_in h (nI b) (97 : Int32) (122 : Int32) = some (if isL b = true then 1 else 0, h) := by
  rw [X9_in]
  unfold isL
  by_cases c1 : b < 97
  · rw [if_pos (show nI b < (97 : Int32) from (b_lt (c := 97) hb (by decide)).2 c1)]
    simp [show ¬ 97 ≤ b by omega]
  · rw [if_neg (show ¬ nI b < (97 : Int32) from fun y => c1 ((b_lt (c := 97) hb (by decide)).1 y))]
    by_cases c2 : 122 < b
    · rw [if_pos (show (122 : Int32) < nI b from nI_lt (a := 122) c2 (by omega))]
      simp [show ¬ b ≤ 122 by omega]
    · rw [if_neg (show ¬ (122 : Int32) < nI b from nI_nlt (a := 122) (by omega) (by decide))]
      simp [show 97 ≤ b by omega, show b ≤ 122 by omega]
theorem X9_isD {h : XM} {b : Nat} (hb : b ≤ 255) : f_X9_in h (nI b) (48 : Int32) (57 : Int32) = some (if isD b = true then 1 else 0, h) := by
  rw [X9_in]
  unfold isD
  by_cases c1 : b < 48
  · rw [if_pos (show nI b < (48 : Int32) from (b_lt (c := 48) hb (by decide)).2 c1)]
    simp [show ¬ 48 ≤ b by omega]
  · rw [if_neg (show ¬ nI b < (48 : Int32) from fun y => c1 ((b_lt (c := 48) hb (by decide)).1 y))]
    by_cases c2 : 57 < b
    · rw [if_pos (show (57 : Int32) < nI b from nI_lt (a := 57) c2 (by omega))]
      simp [show ¬ b ≤ 57 by omega]
    · rw [if_neg (show ¬ (57 : Int32) < nI b from nI_nlt (a := 57) (by omega) (by decide))]
      simp [show 48 ≤ b by omega, show b ≤ 57 by omega]
/-- a piece of the tape; which word it is -/
def tlS (tp : Nat → Nat) (s len : Nat) : List Nat := (List.range len).map (fun i => tp (s + i))
theorem tlS_eq {tp : Nat → Nat} {s len : Nat} {l : List Nat} : l = tlS tp s len ↔ l.length = len ∧ ∀ i, i < l.length → l.getD i 0 = tp (s + i) := by
  constructor
  · rintro rfl
    refine ⟨by simp [tlS], fun i hi => ?_⟩
    have h2 : i < len := by simpa [tlS] using hi
    simp [tlS, h2]
  · rintro ⟨h1, h2⟩
    apply List.ext_getElem
    · simp [tlS, h1]
    · intro i a1 a2
      have := h2 i a1
      rw [List.getD_eq_getElem?_getD, List.getElem?_eq_getElem a1] at this
      simp [tlS]
      exact this
def wdK (l : List Nat) : Nat := ((List.range 12).find? (fun k => decide (wT.getD (k + 1) [] = l))).getD 12
theorem wT_inj : ∀ k, k < 12 → ∀ j, j < 12 → wT.getD (k + 1) [] = wT.getD (j + 1) [] → k = j := by decide +kernel
theorem wdK_of {l : List Nat} {k : Nat} (hk : k < 12) (h : wT.getD (k + 1) [] = l) : wdK l = k := by
  unfold wdK
  cases e : (List.range 12).find? (fun k => decide (wT.getD (k + 1) [] = l)) with
  | none =>
    rw [List.find?_eq_none] at e
    have := e k (List.mem_range.2 hk)
    simp at this
    exact absurd (by simpa using h) this
  | some j =>
    have h1 := List.find?_some e
    have h2 := List.mem_of_find?_eq_some e
    have h3 := List.mem_range.1 h2
    show j = k
    exact wT_inj j h3 k hk ((of_decide_eq_true h1).trans h.symm)
theorem wdK_no {l : List Nat} (h : ∀ k, k < 12 → wT.getD (k + 1) [] ≠ l) : wdK l = 12 := by
  unfold wdK
  rw [List.find?_eq_none.2 (fun k hk => by
    have := h k (List.mem_range.1 hk)
    simpa using this)]
  rfl
theorem wdK_le (l : List Nat) : wdK l ≤ 12 ∧ (wdK l < 12 → wT.getD (wdK l + 1) [] = l) := by
  by_cases c : ∃ k, k < 12 ∧ wT.getD (k + 1) [] = l
  · obtain ⟨k, h1, h2⟩ := c
    rw [wdK_of h1 h2]
    exact ⟨by omega, fun _ => h2⟩
  · rw [wdK_no (fun k hk y => c ⟨k, hk, y⟩)]
    exact ⟨by omega, fun y => by omega⟩
def nvS (tp : Nat → Nat) (s : Nat) : Nat → Nat
  | 0 => 0
  | j + 1 => 10 * nvS tp s j + (tp (s + j) - 48)
def tpP (tp : Nat → Nat) (n p : Nat) : Nat := ruS isBl tp (n - p) p
def tkT (tp : Nat → Nat) (n : Nat) : TK := fun p =>
  if n ≤ tpP tp n p then (257, 0, tpP tp n p)
  else if isL (tp (tpP tp n p)) = true then (if wdK (tlS tp (tpP tp n p) (ruS isL tp (n - tpP tp n p) (tpP tp n p) - tpP tp n p)) = 12 then 258 else wdK (tlS tp (tpP tp n p) (ruS isL tp (n - tpP tp n p) (tpP tp n p) - tpP tp n p)), 0, ruS isL tp (n - tpP tp n p) (tpP tp n p))
  else if isD (tp (tpP tp n p)) = true then (if 4 < ruS isD tp (n - tpP tp n p) (tpP tp n p) - tpP tp n p then 258 else 256, nvS tp (tpP tp n p) (ruS isD tp (n - tpP tp n p) (tpP tp n p) - tpP tp n p), ruS isD tp (n - tpP tp n p) (tpP tp n p))
  else (if isSg (tp (tpP tp n p)) = true then tp (tpP tp n p) else 258, 0, tpP tp n p + 1)
