/-! PURE: what a text says: codes (the model's: 0 .. 5 names, 11 or, 12 and, 13 not, 14 <, 15 =, 16 +, 17 -, 18 *, 19 negated, 100000 + n a number) over a stack -/
def twoS (c : Nat) (a b : Int32) : Int32 := if c = 11 then (if a = 0 then (if b = 0 then 0 else 1) else 1) else if c = 12 then (if a = 0 then 0 else if b = 0 then 0 else 1) else if c = 14 then (if a < b then 1 else 0) else if c = 15 then (if a = b then 1 else 0) else if c = 16 then a + b else if c = 17 then a - b else a * b
def stS (nm : Nat → Int32) (c : Nat) (st : List Int32) : List Int32 :=
  if 100000 ≤ c then nI (c - 100000) :: st
  else if c < 11 then nm c :: st
  else match st with
    | [] => []
    | x :: s => if c = 13 then (if x = 0 then 1 else 0) :: s else if c = 19 then (-x) :: s else match s with
      | [] => []
      | y :: s => twoS c y x :: s
def evS (nm : Nat → Int32) : List Nat → List Int32 → List Int32
  | [], st => st
  | c :: cs, st => evS nm cs (stS nm c st)
/-- a code that there is -/
def cokS (c : Nat) : Bool := decide (c < 6) || (decide (11 ≤ c) && decide (c ≤ 19)) || (decide (100000 ≤ c) && decide (c < 110000))
/-- how deep the stack is behind a code; none: it isn't deep enough -/
def dpS (c d : Nat) : Option Nat := if 100000 ≤ c ∨ c < 11 then some (d + 1) else if c = 13 ∨ c = 19 then (if 1 ≤ d then some d else none) else if 2 ≤ d then some (d - 1) else none
def wfS : List Nat → Nat → Option Nat
  | [], d => some d
  | c :: cs, d => if cokS c = true then (dpS c d).bind (wfS cs) else none
/-- how the class writes a code -/
def enS (c : Nat) : Int32 := if 100000 ≤ c then nI (c - 100000) else if c < 11 then (-1) - nI c else if c = 19 then -7 else if c = 13 then -8 else if c = 16 then -9 else if c = 17 then -10 else if c = 18 then -11 else if c = 14 then -12 else if c = 15 then -13 else if c = 12 then -14 else -15
theorem stS_len {nm : Nat → Int32} {c d : Nat} {st : List Int32} (h : dpS c st.length = some d) : (stS nm c st).length = d := by
  unfold dpS at h
  unfold stS
  by_cases h1 : 100000 ≤ c
  · rw [if_pos (Or.inl h1)] at h
    rw [if_pos h1]
    cases h
    rfl
  · rw [if_neg h1]
    by_cases h2 : c < 11
    · rw [if_pos (Or.inr h2)] at h
      rw [if_pos h2]
      cases h
      rfl
    · rw [if_neg (by omega)] at h
      rw [if_neg h2]
      match st, h with
      | [], h => simp at h
      | [x], h =>
        by_cases h3 : c = 13
        · simp [h3] at h ⊢
          exact h
        · by_cases h4 : c = 19
          · simp [h4] at h ⊢
            exact h
          · simp [h3, h4] at h
      | x :: y :: s, h =>
        by_cases h3 : c = 13
        · simp [h3] at h ⊢
          exact h
        · by_cases h4 : c = 19
          · simp [h4] at h ⊢
            exact h
          · simp [h3, h4] at h ⊢
            omega
/-- a stack on an array: the top at the highest place -/
def StkR (m : Nat → Nat → Int32) (B : Nat) : List Int32 → Prop
  | [] => True
  | x :: s => m B s.length = x ∧ StkR m B s
theorem StkR.w {m : Nat → Nat → Int32} {B j : Nat} {v : Int32} : ∀ {s : List Int32}, StkR m B s → s.length ≤ j → StkR (w2 m B j v) B s
  | [], _, _ => trivial
  | x :: s, h, hj => by
    have hj : s.length + 1 ≤ j := hj
    refine ⟨?_, h.2.w (by omega)⟩
    rw [w2_ap, if_neg (by omega)]
    exact h.1
theorem StkR.push {m : Nat → Nat → Int32} {B : Nat} {v : Int32} {s : List Int32} (h : StkR m B s) : StkR (w2 m B s.length v) B (v :: s) := ⟨by rw [w2_ap, if_pos ⟨rfl, rfl⟩], h.w (Nat.le_refl _)⟩
/-- the model's array holds a part's codes from a place on -/
def CdM (m : Nat → Nat → Int32) (C : Nat) : Nat → List Nat → Prop
  | _, [] => True
  | i, c :: cs => m C i = nI c ∧ CdM m C (i + 1) cs
/-- the class's -/
def CdC (m : Nat → Nat → Int32) (C : Nat) : Nat → List Nat → Prop
  | _, [] => True
  | i, c :: cs => m C i = enS c ∧ CdC m C (i + 1) cs
theorem CdM.ag {m m2 : Nat → Nat → Int32} {C : Nat} (e : m2 C = m C) : ∀ {cs : List Nat} {i : Nat}, CdM m C i cs → CdM m2 C i cs
  | [], _, _ => trivial
  | c :: cs, i, h => ⟨by rw [e]; exact h.1, h.2.ag e⟩
theorem CdC.ag {m m2 : Nat → Nat → Int32} {C : Nat} (e : m2 C = m C) : ∀ {cs : List Nat} {i : Nat}, CdC m C i cs → CdC m2 C i cs
  | [], _, _ => trivial
  | c :: cs, i, h => ⟨by rw [e]; exact h.1, h.2.ag e⟩
theorem X9_two {h : XM} {c : Nat} {a b : Int32} (hc : 11 ≤ c ∧ c ≤ 18) (h13 : c ≠ 13) : f_X9_two h (nI c) a b = some (twoS c a b, h) := by
  rcases (show c = 11 ∨ c = 12 ∨ c = 14 ∨ c = 15 ∨ c = 16 ∨ c = 17 ∨ c = 18 by omega) with e | e | e | e | e | e | e <;> subst e <;>
    simp (disch := omega) [f_X9_two, f_X9_two_102, f_X9_two_57, f_X9_two_52, f_X9_two_71, f_X9_two_70, f_X9_two_82, f_X9_two_93, twoS, n_lit, nI_eq] <;> first | done | (split <;> rfl) | (by_cases ha : a = nI 0 <;> by_cases hb : b = nI 0 <;> simp [ha, hb])
theorem X5_joined {h : XM} {c : Nat} {a b : Int32} (hc : 11 ≤ c ∧ c ≤ 18) (h13 : c ≠ 13) : f_X5_joined h (enS c) a b = some (twoS c a b, h) := by
  rcases (show c = 11 ∨ c = 12 ∨ c = 14 ∨ c = 15 ∨ c = 16 ∨ c = 17 ∨ c = 18 by omega) with e | e | e | e | e | e | e <;> subst e <;>
    simp (decide := true) [f_X5_joined, f_X5_joined_101, f_X5_joined_96, f_X5_joined_87, f_X5_joined_86, f_X5_joined_73, f_X5_joined_62, twoS, enS] <;> first | done | (split <;> rfl) | (by_cases ha : a = 0 <;> by_cases hb : b = 0 <;> simp [ha, hb])
