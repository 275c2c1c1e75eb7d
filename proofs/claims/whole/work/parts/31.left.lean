/-! PURE: the bits of an own mask that aren't spent are as many as the coins left -/
theorem bit_div (n i : Nat) : n / 2 ^ i % 2 = if n.testBit i = true then 1 else 0 := by
  rw [Nat.testBit_eq_decide_div_mod_eq]
  have h := Nat.mod_lt (n / 2 ^ i) (show 2 > 0 by decide)
  by_cases q : n / 2 ^ i % 2 = 1
  · simp [q]
  · have : n / 2 ^ i % 2 = 0 := by omega
    simp [this]
theorem pc7_eq (n : Nat) : pc7 n = (if n.testBit 0 = true then 1 else 0) + (if n.testBit 1 = true then 1 else 0) + (if n.testBit 2 = true then 1 else 0) + (if n.testBit 3 = true then 1 else 0) + (if n.testBit 4 = true then 1 else 0) + (if n.testBit 5 = true then 1 else 0) + (if n.testBit 6 = true then 1 else 0) := by
  have b0 := bit_div n 0
  have b1 := bit_div n 1
  have b2 := bit_div n 2
  have b3 := bit_div n 3
  have b4 := bit_div n 4
  have b5 := bit_div n 5
  have b6 := bit_div n 6
  rw [← b0, ← b1, ← b2, ← b3, ← b4, ← b5, ← b6]
  unfold pc7
  rw [show (2 : Nat) ^ 0 = 1 by decide, show (2 : Nat) ^ 1 = 2 by decide, show (2 : Nat) ^ 2 = 4 by decide, show (2 : Nat) ^ 3 = 8 by decide, show (2 : Nat) ^ 4 = 16 by decide, show (2 : Nat) ^ 5 = 32 by decide, show (2 : Nat) ^ 6 = 64 by decide, Nat.div_one]
theorem lf_bit {o s N p c : Nat} {wh : Nat → Nat} (ho : o.testBit c = true ↔ c < N ∧ wh c = p) : (if (o ^^^ (o &&& s)).testBit c = true then 1 else 0) = if c < N then (if s.testBit c = false ∧ wh c = p then 1 else 0) else 0 := by
  rw [tb_diff]
  by_cases h1 : c < N
  · rw [if_pos h1]
    by_cases h2 : wh c = p
    · have q := ho.2 ⟨h1, h2⟩
      rw [q]
      cases s.testBit c <;> simp [h2]
    · have q : o.testBit c = false := by
        cases z : o.testBit c
        · rfl
        · exact absurd (ho.1 z).2 h2
      rw [q]
      simp [h2]
  · rw [if_neg h1]
    have q : o.testBit c = false := by
      cases z : o.testBit c
      · rfl
      · exact absurd (ho.1 z).1 h1
    rw [q]
    simp
theorem pc7_lf {o s N p : Nat} {wh : Nat → Nat} (ho : ∀ c, c < 7 → (o.testBit c = true ↔ c < N ∧ wh c = p)) (hN : N ≤ 7) : pc7 (o ^^^ (o &&& s)) = lfS wh s p N := by
  rw [pc7_eq, lf_bit (ho 0 (by decide)), lf_bit (ho 1 (by decide)), lf_bit (ho 2 (by decide)), lf_bit (ho 3 (by decide)), lf_bit (ho 4 (by decide)), lf_bit (ho 5 (by decide)), lf_bit (ho 6 (by decide))]
  rcases (show N = 0 ∨ N = 1 ∨ N = 2 ∨ N = 3 ∨ N = 4 ∨ N = 5 ∨ N = 6 ∨ N = 7 by omega) with e | e | e | e | e | e | e | e <;> subst e <;> simp [lfS]
