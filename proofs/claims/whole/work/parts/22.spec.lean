/-! PURE: what the document says, over numbers; coins as the class has them -/
def upN (f : Nat → Nat) (j v : Nat) : Nat → Nat := fun i => if i = j then v else f i
/-- what a coin counts (kind, told, more, the sum), what it costs -/
def cnS (k t o s : Nat) : Nat := if k = 1 then 7 * t else if k = 2 then t - o else if k = 3 then (if s % 2 = 0 then 0 else t - o) else if k = 4 then 14 * t + o else if k = 5 then t + s % (o + 1) else t
def csS (k t : Nat) : Nat := if k = 3 then t / 3 else if k = 4 then 2 * t else t
/-- how many of the first n coins are left (sp: spent) and are p's -/
def lfS (wh : Nat → Nat) (sp p : Nat) : Nat → Nat
  | 0 => 0
  | n + 1 => lfS wh sp p n + (if sp.testBit n = false ∧ wh n = p then 1 else 0)
theorem cnS_le {k t o s : Nat} (ht : t ≤ 30) (ho : o ≤ 9) : cnS k t o s ≤ 429 := by
  unfold cnS
  have h9 : s % (o + 1) < o + 1 := Nat.mod_lt _ (by omega)
  repeat' split
  all_goals omega
theorem csS_le {k t : Nat} (ht : t ≤ 30) : csS k t ≤ 60 := by
  unfold csS
  repeat' split
  all_goals omega
theorem lfS_le (wh : Nat → Nat) (sp p n : Nat) : lfS wh sp p n ≤ n := by
  induction n with
  | zero => exact Nat.le_refl _
  | succ n ih =>
    unfold lfS
    split <;> omega
theorem max0 {t o : Nat} (ht : t < 2 ^ 30) (ho : o < 2 ^ 30) : (if (0 : Int32) < nI t - nI o then nI t - nI o else (0 : Int32)) = nI (t - o) := by
  by_cases q : o ≤ t
  · rw [pk_sub q]
    by_cases z : t - o = 0
    · rw [z]
      rfl
    · rw [if_pos]
      exact nI_lt (a := 0) (by omega) (by omega)
  · have h := pk_sneg (a := t) (b := o) (by omega) (by omega)
    rw [if_neg]
    · rw [show t - o = 0 by omega]
      rfl
    · intro z
      rw [Int32.lt_iff_toInt_lt] at h z
      omega
theorem X0_worn {S : SK} {m : Nat → Nat → Int32} {a t o : Nat} (hk : (sh S a).1 = 0) (h1 : m a 1 = nI t) (h2 : m a 2 = nI o) (ht : t ≤ 30) (ho : o ≤ 9) : f_X0_worn (mk S m) (some a) = some (nI (t - o), mk S m) := by
  simp only [f_X0_worn, gI_k hk, Option.bind_some, bnd_eq, h1, h2]
  rw [max0 (by omega) (by omega)]
theorem X0_countsBy {S : SK} {m : Nat → Nat → Int32} {a k t o s : Nat} (hk : (sh S a).1 = 0) (h0 : m a 0 = nI k) (h1 : m a 1 = nI t) (h2 : m a 2 = nI o) (hkk : k ≤ 5) (ht : t ≤ 30) (ho : o ≤ 9) (hs : s ≤ 9999) : f_X0_countsBy (mk S m) (some a) (nI s) = some (nI (cnS k t o s), mk S m) := by
  have hw := X0_worn hk h1 h2 ht ho
  rcases (show k = 0 ∨ k = 1 ∨ k = 2 ∨ k = 3 ∨ k = 4 ∨ k = 5 by omega) with e | e | e | e | e | e <;> subst e <;>
    simp (disch := omega) [f_X0_countsBy, f_X0_countsBy_67, f_X0_countsBy_104, gI_k hk, vc_k hk, hw, h0, h1, h2, n_lit, nI_eq, irem_n, pk_mul, nI_add, cnS]
  · split <;> rfl
  · by_cases q : o = 0
    · subst q
      simp [nI_ltI, Nat.mod_one]
    · exact fun z => absurd z (nI_ge (a := 0) (by omega) (by omega))
theorem X0_costs {S : SK} {m : Nat → Nat → Int32} {a k t : Nat} (hk : (sh S a).1 = 0) (h0 : m a 0 = nI k) (h1 : m a 1 = nI t) (hkk : k ≤ 5) (ht : t ≤ 30) : f_X0_costs (mk S m) (some a) = some (nI (csS k t), mk S m) := by
  rcases (show k = 0 ∨ k = 1 ∨ k = 2 ∨ k = 3 ∨ k = 4 ∨ k = 5 by omega) with e | e | e | e | e | e <;> subst e <;>
    simp (disch := omega) [f_X0_costs, gI_k hk, h0, h1, n_lit, nI_eq, idiv_n, pk_mul, csS]
/-- counting bits, up to 7 of them -/
def pc7 (n : Nat) : Nat := n % 2 + n / 2 % 2 + n / 4 % 2 + n / 8 % 2 + n / 16 % 2 + n / 32 % 2 + n / 64 % 2
theorem bitCount_all : ∀ n, n < 128 → (f_J6_bitCount x0 (nI n)).map (fun q => q.1) = some (nI (pc7 n)) := by decide +kernel
theorem J6_bitCount {h : XM} {n : Nat} (hn : n < 128) : f_J6_bitCount h (nI n) = some (nI (pc7 n), h) := by
  have h1 := bitCount_all n hn
  have e : f_J6_bitCount h (nI n) = (f_J6_bitCount x0 (nI n)).map (fun q => (q.1, h)) := rfl
  rw [e]
  cases hq : f_J6_bitCount x0 (nI n) with
  | none =>
    rw [hq] at h1
    cases h1
  | some q =>
    rw [hq] at h1
    simp only [Option.map_some, Option.some.injEq] at h1 ⊢
    rw [h1]
