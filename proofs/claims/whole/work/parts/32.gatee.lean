/-! PURE: the class's gate: the owner out of the masks, may a coin be put in, the class's count of the coins left -/
theorem owS_wh {o wh : Nat → Nat} {N c : Nat} (ho : ∀ p, p < 4 → ∀ c, c < 7 → ((o p).testBit c = true ↔ c < N ∧ wh c = p)) (hc : c < N) (hN : N ≤ 7) (hw : wh c < 4) : owS o c = wh c := by
  have hb : ∀ p, p < 4 → (o p).testBit c = decide (wh c = p) := by
    intro p hp
    have h := ho p hp c (by omega)
    by_cases q : wh c = p
    · rw [h.2 ⟨hc, q⟩]
      simp [q]
    · cases z : (o p).testBit c
      · simp [q]
      · exact absurd (h.1 z).2 q
  unfold owS
  rw [hb 0 (by decide), hb 1 (by decide), hb 2 (by decide), hb 3 (by decide)]
  rcases (show wh c = 0 ∨ wh c = 1 ∨ wh c = 2 ∨ wh c = 3 by omega) with e | e | e | e <;> rw [e] <;> rfl
theorem owS_lt (o : Nat → Nat) (c : Nat) : owS o c < 4 := by
  unfold owS
  repeat' split
  all_goals omega
theorem X1_mayPut {S : SK} {m : Nat → Nat → Int32} {g c n A s i : Nat} {o : Nat → Nat} (hS : SkOK S) (hG : GS S g) (hn : m g 9 = nI n) (hn7 : n ≤ 7) (hA : rf S 1 c = some A) (hc : c < n) (hs : m g 10 = nI s) (hi : m g 8 = nI i) (h1 : s < 2 ^ 31) (h2 : i < 2 ^ 31) (ho : ∀ p, p < 4 → m (g + 1) p = nI (o p) ∧ o p < 2 ^ 31) : f_X1_mayPut (mk S m) (some g) (nI c) = some (nI (if s.testBit c then 0 else if i.testBit (owS o c) then 0 else 1), mk S m) := by
  have hk : (sh S g).1 = 1 := by rw [hG.1]
  have hl := owS_lt o c
  unfold f_X1_mayPut
  rw [vc_k hk, X1_coinAt hS hG hn hn7 hA hc]
  simp only [Option.bind_some]
  rw [if_neg (by simp), vc_k hk, X1_isSpent hG.1 hs h1 (by omega)]
  simp only [Option.bind_some]
  cases s.testBit c
  · rw [if_pos (by decide), vc_k hk, X1_ownerOf hG ho (by omega)]
    simp only [Option.bind_some]
    rw [vc_k hk, X1_isInside hG.1 hi h2 (by omega)]
    cases i.testBit (owS o c) <;> rfl
  · rfl
/-- the class's way to count the coins left: leftOf, then the bits -/
theorem X1_many {S : SK} {m : Nat → Nat → Int32} {g o s p N : Nat} {wh : Nat → Nat} (hG : GS S g) (ho : m (g + 1) p = nI o) (hs : m g 10 = nI s) (h1 : o < 128) (hp : p < 4) (hN : N ≤ 7) (hb : ∀ c, c < 7 → (o.testBit c = true ↔ c < N ∧ wh c = p)) {α : Type} (F : Int32 × XM → Option α) : (f_X1_leftOf (mk S m) (some g) (nI p)).bind (fun q => (f_J6_bitCount q.2 q.1).bind F) = F (nI (lfS wh s p N), mk S m) := by
  rw [X1_leftOf hG ho hs (by omega) hp]
  show (f_J6_bitCount (mk S m) (nI (o ^^^ (o &&& s)))).bind F = _
  have h7 : o ^^^ (o &&& s) < 128 := by
    have h1' : o &&& s < 2 ^ 7 := Nat.lt_of_le_of_lt Nat.and_le_left h1
    exact Nat.xor_lt_two_pow (n := 7) h1 h1'
  rw [J6_bitCount h7, pc7_lf hb hN]
  rfl
