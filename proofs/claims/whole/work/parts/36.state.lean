/-! PURE: a morning: what is fixed in it (number, people, coins, whose, kinds, told, more, the law's parts), what moves (sum, minute, inside, spent) -/
abbrev EN : Type := Nat × Nat × Nat × (Nat → Nat) × (Nat → Nat) × (Nat → Nat) × (Nat → Nat) × (Nat → List Nat)
def eD (E : EN) : Nat := E.1
def eP (E : EN) : Nat := E.2.1
def eN (E : EN) : Nat := E.2.2.1
def eW (E : EN) : Nat → Nat := E.2.2.2.1
def eK (E : EN) : Nat → Nat := E.2.2.2.2.1
def eT (E : EN) : Nat → Nat := E.2.2.2.2.2.1
def eM (E : EN) : Nat → Nat := E.2.2.2.2.2.2.1
def eL (E : EN) : Nat → List Nat := E.2.2.2.2.2.2.2
abbrev QS : Type := Nat × Nat × Nat × Nat
def EOK (E : EN) : Prop := (2 ≤ eD E ∧ eD E ≤ 20) ∧ eP E ≤ 4 ∧ eN E ≤ 7 ∧ ∀ c, c < eN E → eW E c < eP E ∧ eK E c ≤ 5 ∧ eT E c ≤ 30 ∧ eM E c ≤ 9
def QOK (E : EN) (q : QS) : Prop := q.1 ≤ 9999 ∧ q.2.1 ≤ 99 ∧ q.2.2.1 < 2 ^ eP E ∧ q.2.2.2 < 2 ^ eN E
def cntS (E : EN) (q : QS) (c : Nat) : Nat := cnS (eK E c) (eT E c) (eM E c) q.1
def cstS (E : EN) (c : Nat) : Nat := csS (eK E c) (eT E c)
def lawS (E : EN) (p a v w n u : Nat) : Int32 := lwS p (vlS (nmS (nI a) (nI (a % eD E)) (nI v) (nI w) (nI n) (nI u)) (eL E p))
def sumS (E : EN) (q : QS) (c : Nat) : Nat := min (q.1 + cntS E q c) 9999
def opS (E : EN) (q : QS) (c : Nat) : Bool := decide (¬ lawS E 0 (sumS E q c) (cntS E q c) q.2.1 (lfS (eW E) (q.2.2.2 ||| 2 ^ c) (eW E c) (eN E)) (eW E c) = 0)
def putS (E : EN) (q : QS) (c : Nat) : QS := (sumS E q c, min (q.2.1 + 1) 99, if opS E q c = true then q.2.2.1 ||| 2 ^ eW E c else q.2.2.1, q.2.2.2 ||| 2 ^ c)
def waitS (q : QS) : QS := (q.1, min (q.2.1 + 1) 99, q.2.2.1, q.2.2.2)
def canS (E : EN) (q : QS) (c : Nat) : Bool := !q.2.2.2.testBit c && !q.2.2.1.testBit (eW E c)
def wthS (E : EN) (q : QS) (p : Nat) : Int32 := (if q.2.2.1.testBit p = true then lawS E 1 q.1 0 q.2.1 (lfS (eW E) q.2.2.2 p (eN E)) p else 0) - lawS E 2 q.1 0 q.2.1 (lfS (eW E) q.2.2.2 p (eN E)) p
theorem cntS_le {E : EN} {q : QS} {c : Nat} (hE : EOK E) (hc : c < eN E) : cntS E q c ≤ 429 := cnS_le (hE.2.2.2 c hc).2.2.1 (hE.2.2.2 c hc).2.2.2
theorem p16 {p i : Nat} (hp : p ≤ 4) (h : i < 2 ^ p) : i < 16 := Nat.lt_of_lt_of_le h (Nat.pow_le_pow_right (by decide) hp)
theorem p128 {p i : Nat} (hp : p ≤ 7) (h : i < 2 ^ p) : i < 128 := Nat.lt_of_lt_of_le h (Nat.pow_le_pow_right (by decide) hp)
theorem QOK.put {E : EN} {q : QS} {c : Nat} (hE : EOK E) (h : QOK E q) (hc : c < eN E) : QOK E (putS E q c) := by
  obtain ⟨h1, h2, h3, h4⟩ := h
  refine ⟨Nat.min_le_right _ _, Nat.min_le_right _ _, ?_, Nat.or_lt_two_pow h4 (Nat.pow_lt_pow_right (by decide) hc)⟩
  show (if opS E q c = true then q.2.2.1 ||| 2 ^ eW E c else q.2.2.1) < 2 ^ eP E
  split
  · exact Nat.or_lt_two_pow h3 (Nat.pow_lt_pow_right (by decide) (hE.2.2.2 c hc).1)
  · exact h3
theorem QOK.wait {E : EN} {q : QS} (h : QOK E q) : QOK E (waitS q) := ⟨h.1, Nat.min_le_right _ _, h.2.2.1, h.2.2.2⟩
/-- the own mask of one: the first n coins whose owner he is -/
def omS (wh : Nat → Nat) (p : Nat) : Nat → Nat
  | 0 => 0
  | n + 1 => if wh n = p then omS wh p n ||| 2 ^ n else omS wh p n
theorem om_bit (wh : Nat → Nat) (p : Nat) : ∀ n c, (omS wh p n).testBit c = true ↔ c < n ∧ wh c = p
  | 0, c => by simp [omS]
  | n + 1, c => by
    have ih := om_bit wh p n c
    unfold omS
    split
    · rename_i h
      rw [tb_set]
      by_cases q : n = c
      · subst q
        simp [h]
      · have q2 : decide (n = c) = false := by simp [q]
        rw [q2, Bool.or_false, ih]
        constructor
        · exact fun z => ⟨by omega, z.2⟩
        · exact fun z => ⟨by omega, z.2⟩
    · rename_i h
      rw [ih]
      constructor
      · exact fun z => ⟨by omega, z.2⟩
      · intro z
        refine ⟨?_, z.2⟩
        by_cases q : c = n
        · subst q
          exact absurd z.2 h
        · omega
theorem om_lt (wh : Nat → Nat) (p n : Nat) : omS wh p n < 2 ^ n := by
  apply bits_lt
  intro i hi
  cases z : (omS wh p n).testBit i
  · rfl
  · have := ((om_bit wh p n i).1 z).1
    omega
theorem om_128 {wh : Nat → Nat} {p n : Nat} (h : n ≤ 7) : omS wh p n < 128 := p128 h (om_lt wh p n)
/-- the stack's cell of a text -/
def Stk (S : SK) (b : Nat) : Prop := ∃ A N, TxS S A N ∧ (A = 46 ∨ 76 ≤ A) ∧ b = A + 3
theorem Stk.ge {S : SK} {b : Nat} (h : Stk S b) : b = 49 ∨ 79 ≤ b := by
  obtain ⟨A, N, _, h2, h3⟩ := h
  omega
theorem Stk.k {S : SK} {b : Nat} (h : Stk S b) : (sh S b).1 = 10 := by
  obtain ⟨A, N, h1, _, rfl⟩ := h
  rw [h1.2.2.2.2.2.2.1]
theorem Stk.no1 {S : SK} {A N : Nat} (h : TxS S A N) : ¬ Stk S (A + 1) := by
  rintro ⟨B, M, h1, _, h3⟩
  have e : A = B + 2 := by omega
  have h4 := h.1
  rw [e, h1.2.2.2.2.2.1] at h4
  cases h4
theorem Stk.no2 {S : SK} {A N : Nat} (h : TxS S A N) : ¬ Stk S (A + 2) := by
  rintro ⟨B, M, h1, _, h3⟩
  have e : A = B + 1 := by omega
  have h4 := h.1
  rw [e, h1.2.2.2.2.1] at h4
  have := congrArg Prod.fst h4
  simp at this
/-! the class's pictures -/
def CCoin (S : SK) (m : Nat → Nat → Int32) (E : EN) : Prop := ∀ c, c < eN E → ∃ A, rf S 1 c = some A ∧ sh S A = (0, 3) ∧ 76 ≤ A ∧ m A 0 = nI (eK E c) ∧ m A 1 = nI (eT E c) ∧ m A 2 = nI (eM E c)
def CText (S : SK) (m : Nat → Nat → Int32) (l : Nat) (pr : Nat → List Nat) : Prop := ∃ A N fr, rf S 2 l = some A ∧ TxS S A N ∧ (A = 46 ∨ 76 ≤ A) ∧ TxC m A N pr fr
def CStat (S : SK) (m : Nat → Nat → Int32) (E : EN) (l : Nat) : Prop := SkOK S ∧ EOK E ∧ l < 6 ∧ CCoin S m E ∧ CText S m l (eL E)
def CG (m : Nat → Nat → Int32) (g : Nat) (E : EN) (l : Nat) (q : QS) : Prop := m g 4 = nI (eD E) ∧ m g 5 = nI q.1 ∧ m g 6 = nI q.2.1 ∧ m g 7 = nI (eP E) ∧ m g 8 = nI q.2.2.1 ∧ m g 9 = nI (eN E) ∧ m g 10 = nI q.2.2.2 ∧ m g 11 = nI l ∧ ∀ p, p < 4 → m (g + 1) p = nI (omS (eW E) p (eN E))
def CI (S : SK) (m : Nat → Nat → Int32) (g : Nat) (E : EN) (l : Nat) (q : QS) : Prop := CStat S m E l ∧ isG g ∧ CG m g E l q ∧ QOK E q
/-- what putting in writes -/
def ZG (S : SK) (g b : Nat) : Prop := b = g ∨ b = g + 2 ∨ Stk S b
theorem isG.le {g : Nat} (h : isG g) : g = 3 ∨ g = 6 ∨ g = 9 ∨ g = 15 ∨ g = 19 := h
theorem CCoin.ag {S : SK} {m m2 : Nat → Nat → Int32} {E : EN} {Z : Nat → Prop} (h : CCoin S m E) (ha : Ag Z m m2) (hz : ∀ A, sh S A = (0, 3) → 76 ≤ A → ¬ Z A) : CCoin S m2 E := by
  intro c hc
  obtain ⟨A, a1, a2, a3, a4, a5, a6⟩ := h c hc
  have e := ha A (hz A a2 a3)
  exact ⟨A, a1, a2, a3, by rw [e]; exact a4, by rw [e]; exact a5, by rw [e]; exact a6⟩
theorem CText.ag {S : SK} {m m2 : Nat → Nat → Int32} {l : Nat} {pr : Nat → List Nat} {Z : Nat → Prop} (h : CText S m l pr) (ha : Ag Z m m2) (hz : ∀ A N, TxS S A N → (A = 46 ∨ 76 ≤ A) → ¬ Z (A + 1) ∧ ¬ Z (A + 2)) : CText S m2 l pr := by
  obtain ⟨A, N, fr, a1, a2, a3, a4⟩ := h
  have e := hz A N a2 a3
  exact ⟨A, N, fr, a1, a2, a3, a4.ag (ha _ e.1) (ha _ e.2)⟩
/-- cells that coins and texts don't lie in -/
def ZOK (S : SK) (Z : Nat → Prop) : Prop := (∀ A, sh S A = (0, 3) → 76 ≤ A → ¬ Z A) ∧ ∀ A N, TxS S A N → (A = 46 ∨ 76 ≤ A) → ¬ Z (A + 1) ∧ ¬ Z (A + 2)
theorem ZOK.of {S : SK} {Z : Nat → Prop} (h : ∀ b, Z b → Stk S b ∨ b < 46 ∨ (50 ≤ b ∧ b < 76)) : ZOK S Z := by
  constructor
  · intro A h1 h2 h3
    rcases h A h3 with e | e | e
    · have := e.k
      rw [h1] at this
      simp at this
    · omega
    · omega
  · intro A N h1 h2
    constructor
    · intro h3
      rcases h _ h3 with e | e | e
      · exact Stk.no1 h1 e
      · omega
      · omega
    · intro h3
      rcases h _ h3 with e | e | e
      · exact Stk.no2 h1 e
      · omega
      · omega
theorem ZG.ok {S : SK} {g : Nat} (hg : isG g) : ZOK S (ZG S g) := ZOK.of (fun b hb => by
  rcases hb with e | e | e
  · have := hg.le
    omega
  · have := hg.le
    omega
  · exact Or.inl e)
theorem CStat.ag {S : SK} {m m2 : Nat → Nat → Int32} {E : EN} {l : Nat} {Z : Nat → Prop} (h : CStat S m E l) (ha : Ag Z m m2) (hz : ZOK S Z) : CStat S m2 E l := ⟨h.1, h.2.1, h.2.2.1, h.2.2.2.1.ag ha hz.1, h.2.2.2.2.ag ha hz.2⟩
theorem CI.set {S : SK} {m m2 : Nat → Nat → Int32} {g : Nat} {E : EN} {l : Nat} {q r : QS} (h : CI S m g E l q) (hq : QOK E r) (ha : Ag (ZG S g) m m2) (h4 : ∀ j, j ≠ 5 → j ≠ 6 → j ≠ 8 → j ≠ 10 → m2 g j = m g j) (h5 : m2 g 5 = nI r.1) (h6 : m2 g 6 = nI r.2.1) (h8 : m2 g 8 = nI r.2.2.1) (h10 : m2 g 10 = nI r.2.2.2) : CI S m2 g E l r := by
  obtain ⟨h1, hg, ⟨d4, d5, d6, d7, d8, d9, d10, d11, ho⟩, h3⟩ := h
  refine ⟨h1.ag ha (ZG.ok hg), hg, ⟨?_, h5, h6, ?_, h8, ?_, h10, ?_, ?_⟩, hq⟩
  · rw [h4 4 (by decide) (by decide) (by decide) (by decide)]; exact d4
  · rw [h4 7 (by decide) (by decide) (by decide) (by decide)]; exact d7
  · rw [h4 9 (by decide) (by decide) (by decide) (by decide)]; exact d9
  · rw [h4 11 (by decide) (by decide) (by decide) (by decide)]; exact d11
  · intro p hp
    have e : m2 (g + 1) = m (g + 1) := ha _ (fun z => by
      have := hg.le
      rcases z with z | z | z
      · omega
      · omega
      · have := z.ge
        omega)
    rw [e]
    exact ho p hp
theorem CI.ag {S : SK} {m m2 : Nat → Nat → Int32} {g : Nat} {E : EN} {l : Nat} {q : QS} {Z : Nat → Prop} (h : CI S m g E l q) (ha : Ag Z m m2) (hz : ZOK S Z) (h1 : ¬ Z g) (h2 : ¬ Z (g + 1)) : CI S m2 g E l q := by
  obtain ⟨h1', hg, ⟨d4, d5, d6, d7, d8, d9, d10, d11, ho⟩, h3⟩ := h
  have e := ha g h1
  have e2 := ha (g + 1) h2
  refine ⟨h1'.ag ha hz, hg, ⟨by rw [e]; exact d4, by rw [e]; exact d5, by rw [e]; exact d6, by rw [e]; exact d7, by rw [e]; exact d8, by rw [e]; exact d9, by rw [e]; exact d10, by rw [e]; exact d11, ?_⟩, h3⟩
  intro p hp
  rw [e2]
  exact ho p hp
