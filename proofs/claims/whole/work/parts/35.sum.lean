/-! PURE: a sum that stops at 9999, in the class and in the model; the model's minute -/
theorem min9999 {s v : Nat} (hs : s ≤ 9999) (hv : v ≤ 429) : (if nI s + nI v < nI 9999 then nI s + nI v else nI 9999) = nI (min (s + v) 9999) := by
  rw [nI_add]
  by_cases q : s + v < 9999
  · rw [if_pos (nI_lt (by omega) (by omega)), Nat.min_eq_left (by omega)]
  · rw [Nat.min_eq_right (by omega)]
    simp (disch := omega) only [nI_ltI, q, if_false]
theorem wn9999 {s v : Nat} (hs : s ≤ 9999) (hv : v ≤ 429) : (if nI s + nI v < nI 0 then nI 0 else if nI 9999 < nI s + nI v then nI 9999 else nI s + nI v) = nI (min (s + v) 9999) := by
  rw [nI_add]
  by_cases q : 9999 < s + v
  · rw [Nat.min_eq_right (by omega)]
    simp (disch := omega) only [nI_ltI, Nat.not_lt_zero, q, if_false, if_true]
  · rw [Nat.min_eq_left (by omega)]
    simp (disch := omega) only [nI_ltI, Nat.not_lt_zero, q, if_false]
theorem wn99 {w : Nat} (hw : w ≤ 99) : (if nI w + nI 1 < nI 0 then nI 0 else if nI 99 < nI w + nI 1 then nI 99 else nI w + nI 1) = nI (min (w + 1) 99) := by
  rw [nI_add]
  by_cases q : 99 < w + 1
  · rw [Nat.min_eq_right (by omega)]
    simp (disch := omega) only [nI_ltI, Nat.not_lt_zero, q, if_false, if_true]
  · rw [Nat.min_eq_left (by omega)]
    simp (disch := omega) only [nI_ltI, Nat.not_lt_zero, q, if_false]
