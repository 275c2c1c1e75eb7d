/-! PURE: the class's gate: who owns a coin, which coin it is, what it costs, waiting -/
def owS (o : Nat → Nat) (c : Nat) : Nat := if (o 0).testBit c then 0 else if (o 1).testBit c then 1 else if (o 2).testBit c then 2 else if (o 3).testBit c then 3 else 0
theorem X1_owner_step {S : SK} {m : Nat → Nat → Int32} {g c i o n : Nat} (hG : GS S g) (ho : m (g + 1) i = nI o) (h1 : o < 2 ^ 31) (hi : i < 4) (hc : c < 31) : f_X1_ownerOf_2 (n + 1) (mk S m) (some g) (nI c) (nI i) = if o.testBit c then some (nI i, mk S m) else f_X1_ownerOf_2 n (mk S m) (some g) (nI c) (nI (i + 1)) := by
  obtain ⟨g1, g2, g3, g4, g5, g6, g7⟩ := hG
  have hk : (sh S g).1 = 1 := by rw [g1]
  have q : nI i < nI 4 := nI_lt (by omega) (by omega)
  have hb := bitI (n := o) (c := c) h1 (by omega)
  show fb_X1_ownerOf_2 (f_X1_ownerOf_2 n) _ _ _ _ = _
  simp only [fb_X1_ownerOf_2, n_lit, q, if_true, gR_k hk, g6, Option.bind_some, rI_n g2 hi (by decide), ho, hb, bnd_eq, nI_add]
  cases o.testBit c <;> rfl
theorem X1_owner_end {S : SK} {m : Nat → Nat → Int32} {g c n : Nat} : f_X1_ownerOf_2 (n + 1) (mk S m) (some g) (nI c) (nI 4) = some (nI 0, mk S m) := rfl
theorem X1_ownerOf {S : SK} {m : Nat → Nat → Int32} {g c : Nat} {o : Nat → Nat} (hG : GS S g) (ho : ∀ p, p < 4 → m (g + 1) p = nI (o p) ∧ o p < 2 ^ 31) (hc : c < 31) : f_X1_ownerOf (mk S m) (some g) (nI c) = some (nI (owS o c), mk S m) := by
  show f_X1_ownerOf_2 (4995 + 1 + 1 + 1 + 1 + 1) (mk S m) (some g) (nI c) (nI 0) = _
  rw [X1_owner_step hG (ho 0 (by decide)).1 (ho 0 (by decide)).2 (by decide) hc, X1_owner_step hG (ho 1 (by decide)).1 (ho 1 (by decide)).2 (by decide) hc, X1_owner_step hG (ho 2 (by decide)).1 (ho 2 (by decide)).2 (by decide) hc, X1_owner_step hG (ho 3 (by decide)).1 (ho 3 (by decide)).2 (by decide) hc, X1_owner_end]
  unfold owS
  cases (o 0).testBit c <;> cases (o 1).testBit c <;> cases (o 2).testBit c <;> cases (o 3).testBit c <;> rfl
theorem X1_coinAt {S : SK} {m : Nat → Nat → Int32} {g c n A : Nat} (hS : SkOK S) (hG : GS S g) (hn : m g 9 = nI n) (hn7 : n ≤ 7) (hA : rf S 1 c = some A) (hc : c < n) : f_X1_coinAt (mk S m) (some g) (nI c) = some (some A, mk S m) := by
  obtain ⟨g1, g2, g3, g4, g5, g6, g7⟩ := hG
  have hk : (sh S g).1 = 1 := by rw [g1]
  have q1 : ¬ nI c < nI 0 := nI_pos (by omega)
  have q2 : nI c < nI n := nI_lt (by omega) (by omega)
  have q3 : nI c < nI 7 := nI_lt (by omega) (by omega)
  simp only [f_X1_coinAt, f_X1_coinAt_31, n_lit, q1, if_false, gI_k hk, hn, Option.bind_some, q2, if_true, gR_k hk, g4, ln_mk, sk1 hS, show (10 ≤ 12 ∧ 12 ≤ 15) = True by decide, nI_ofNat, q3, rR_n (sk1 hS) (show c < 7 by omega) (by decide), hA]
/-- a coin that isn't there -/
theorem X1_coinAt_no {S : SK} {m : Nat → Nat → Int32} {g n : Nat} {c : Int32} (hG : GS S g) (hn : m g 9 = nI n) (hc : c < 0 ∨ ¬ c < nI n) : f_X1_coinAt (mk S m) (some g) c = some (none, mk S m) := by
  obtain ⟨g1, g2, g3, g4, g5, g6, g7⟩ := hG
  have hk : (sh S g).1 = 1 := by rw [g1]
  unfold f_X1_coinAt
  by_cases q : c < 0
  · rw [if_pos q]
    rfl
  · rw [if_neg q, gI_k hk, hn]
    simp only [Option.bind_some]
    rw [if_neg (hc.resolve_left q)]
    rfl
theorem X1_isOne {S : SK} {m : Nat → Nat → Int32} {g n : Nat} {p : Int32} (hG : GS S g) (hn : m g 7 = nI n) : f_X1_isOne (mk S m) (some g) p = some (if p < 0 then 0 else if p < nI n then 1 else 0, mk S m) := by
  obtain ⟨g1, g2, g3, g4, g5, g6, g7⟩ := hG
  have hk : (sh S g).1 = 1 := by rw [g1]
  unfold f_X1_isOne
  by_cases q : p < 0
  · rw [if_pos q, if_pos q]
    rfl
  · rw [if_neg q, gI_k hk, hn, if_neg q]
    simp only [Option.bind_some]
    by_cases z : p < nI n
    · rw [if_pos z, if_pos z]
      rfl
    · rw [if_neg z, if_neg z]
      rfl
theorem min99 {w : Nat} (hw : w < 2 ^ 30) : (if nI w + nI 1 < nI 99 then nI w + nI 1 else nI 99) = nI (min (w + 1) 99) := by
  rw [nI_add]
  by_cases q : w + 1 < 99
  · rw [if_pos (nI_lt (by omega) (by omega)), Nat.min_eq_left (by omega)]
  · rw [Nat.min_eq_right (by omega)]
    simp (disch := omega) only [nI_ltI, q, if_false]
theorem X1_waitOn {S : SK} {m : Nat → Nat → Int32} {g w : Nat} (hG : GS S g) (hw : m g 6 = nI w) (h9 : w ≤ 99) : f_X1_waitOn (mk S m) (some g) = some (mk S (w2 m g 6 (nI (min (w + 1) 99)))) := by
  obtain ⟨g1, g2, g3, g4, g5, g6, g7⟩ := hG
  have hk : (sh S g).1 = 1 := by rw [g1]
  simp only [f_X1_waitOn, gI_k hk, pI_k hk, hw, Option.bind_some, n_lit, bnd_eq]
  exact congrArg (fun v => some (mk S (w2 m g 6 v))) (min99 (show w < 2 ^ 30 by omega))
theorem X1_costOf {S : SK} {m : Nat → Nat → Int32} {g c n A k t : Nat} (hS : SkOK S) (hG : GS S g) (hn : m g 9 = nI n) (hn7 : n ≤ 7) (hA : rf S 1 c = some A) (hc : c < n) (hA0 : (sh S A).1 = 0) (h0 : m A 0 = nI k) (h1 : m A 1 = nI t) (hk5 : k ≤ 5) (ht : t ≤ 30) : f_X1_costOf (mk S m) (some g) (nI c) = some (nI (csS k t), mk S m) := by
  have e := X1_coinAt hS hG hn hn7 hA hc
  have e2 := X0_costs (S := S) (m := m) hA0 h0 h1 hk5 ht
  obtain ⟨g1, g2, g3, g4, g5, g6, g7⟩ := hG
  have hk : (sh S g).1 = 1 := by rw [g1]
  unfold f_X1_costOf f_X1_costOf_18
  rw [vc_k hk, e]
  simp only [Option.bind_some, vc_k hA0, e2]
  rfl
theorem X1_undo {S : SK} {m : Nat → Nat → Int32} {g : Nat} {a b c d : Int32} (hG : GS S g) : f_X1_undo (mk S m) (some g) a b c d = some (mk S (w2 (w2 (w2 (w2 m g 5 a) g 6 b) g 8 c) g 10 d)) := by
  obtain ⟨g1, g2, g3, g4, g5, g6, g7⟩ := hG
  have hk : (sh S g).1 = 1 := by rw [g1]
  simp only [f_X1_undo, pI_k hk, Option.bind_some]
