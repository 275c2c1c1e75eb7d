/-! PURE: a whole text: its three parts, in the class (at A) and in the model (number t) -/
def TxC (m : Nat → Nat → Int32) (A N : Nat) (pr : Nat → List Nat) (fr : Nat → Nat) : Prop := ∀ p, p < 3 → wfS (pr p) 0 = some 1 ∧ CdC m (A + 1) (fr p) (pr p) ∧ m (A + 2) p = nI (fr p) ∧ m (A + 2) (p + 1) = nI (fr p + (pr p).length) ∧ fr p + (pr p).length ≤ N
def TxM (m : Nat → Nat → Int32) (t : Nat) (pr : Nat → List Nat) (fr : Nat → Nat) : Prop := ∀ p, p < 3 → wfS (pr p) 0 = some 1 ∧ CdM m 56 (200 * t + fr p) (pr p) ∧ m 57 (4 * t + p) = nI (fr p) ∧ m 57 (4 * t + p + 1) = nI (fr p + (pr p).length) ∧ fr p + (pr p).length ≤ 200
theorem TxC.ag {m m2 : Nat → Nat → Int32} {A N : Nat} {pr : Nat → List Nat} {fr : Nat → Nat} (h : TxC m A N pr fr) (h1 : m2 (A + 1) = m (A + 1)) (h2 : m2 (A + 2) = m (A + 2)) : TxC m2 A N pr fr := by
  intro p hp
  obtain ⟨a, b, c, d, e⟩ := h p hp
  exact ⟨a, b.ag h1, by rw [h2]; exact c, by rw [h2]; exact d, e⟩
theorem TxM.ag {m m2 : Nat → Nat → Int32} {t : Nat} {pr : Nat → List Nat} {fr : Nat → Nat} (h : TxM m t pr fr) (h1 : m2 56 = m 56) (h2 : m2 57 = m 57) : TxM m2 t pr fr := by
  intro p hp
  obtain ⟨a, b, c, d, e⟩ := h p hp
  exact ⟨a, b.ag h1, by rw [h2]; exact c, by rw [h2]; exact d, e⟩
theorem X1_law {S : SK} {m : Nat → Nat → Int32} {g l A N p d a : Nat} {v w n q : Int32} {pr : Nat → List Nat} {fr : Nat → Nat} (hS : SkOK S) (hG : GS S g) (hl : m g 11 = nI l) (hl6 : l < 6) (hA : rf S 2 l = some A) (hT : TxS S A N) (hg2 : g + 2 < A) (hd : m g 4 = nI d) (h0 : 0 < d) (h1 : d < 2 ^ 31) (ha : a < 2 ^ 31) (hp : p < 3) (hx : TxC m A N pr fr) :
    ∃ m2 : Nat → Nat → Int32, f_X1_lawSays (mk S m) (some g) (nI p) (nI a) v w n q = some (lwS p (vlS (nmS (nI a) (nI (a % d)) v w n q) (pr p)), mk S m2) ∧ Ag (fun b => b = A + 3 ∨ b = g + 2) m m2 := by
  obtain ⟨a1, a2, a3, a4, a5⟩ := hx p hp
  exact X1_lawSays hS hG hl hl6 hA hT (by omega) hg2 hd h0 h1 ha hp a5 a1 a2 a3 a4
theorem X9_law {S : SK} {m : Nat → Nat → Int32} {l p d a : Nat} {v w n q : Int32} {pr : Nat → List Nat} {fr : Nat → Nat} (hS : SkOK S) (hl : m 50 16 = nI l) (hl6 : l < 6) (hd : m 50 0 = nI d) (h0 : 0 < d) (h1 : d < 2 ^ 31) (ha : a < 2 ^ 31) (hp : p < 3) (hx : TxM m l pr fr) :
    ∃ m2 : Nat → Nat → Int32, f_X9_worksOut (mk S m) (some 50) (nI p) (nI a) v w n q = some (lwS p (vlS (nmS (nI a) (nI (a % d)) v w n q) (pr p)), mk S m2) ∧ Ag (fun b => b = 66 ∨ b = 67) m m2 := by
  obtain ⟨a1, a2, a3, a4, a5⟩ := hx p hp
  exact X9_worksOut hS hl hl6 hd h0 h1 ha hp a5 a1 a2 a3 a4
theorem lwS_0 (e : Int32) : lwS 0 e = 0 ∨ lwS 0 e = 1 := by
  unfold lwS
  rw [if_pos rfl]
  by_cases q : e = 0
  · exact Or.inl (if_pos q)
  · exact Or.inr (if_neg q)
