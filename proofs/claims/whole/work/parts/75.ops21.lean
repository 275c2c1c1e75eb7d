/-! PURE: calls: next -/
theorem ksS_bit {p : Nat → Bool} : ∀ (r i a j : Nat), (ksS p r i a).testBit j = (a.testBit j || (decide (i ≤ j ∧ j < i + r) && p j)) := by
  intro r
  induction r with
  | zero =>
    intro i a j
    have : ¬ (i ≤ j ∧ j < i + 0) := by omega
    rw [decide_eq_false this, Bool.false_and, Bool.or_false]
    rfl
  | succ r ih =>
    intro i a j
    show (ksS p r (i + 1) (if p i = true then a ||| 2 ^ i else a)).testBit j = _
    rw [ih]
    by_cases e : j = i
    · subst e
      rw [decide_eq_false (show ¬ (j + 1 ≤ j ∧ j < j + 1 + r) by omega), Bool.false_and, Bool.or_false, decide_eq_true (show j ≤ j ∧ j < j + (r + 1) by omega), Bool.true_and]
      by_cases z : p j = true
      · rw [if_pos z, Nat.testBit_or, Nat.testBit_two_pow_self, z]
      · have z' : p j = false := by simpa using z
        rw [if_neg z, z', Bool.or_false]
    · have e2 : (i + 1 ≤ j ∧ j < i + 1 + r) ↔ (i ≤ j ∧ j < i + (r + 1)) := by omega
      have e3 : (if p i = true then a ||| 2 ^ i else a).testBit j = a.testBit j := by
        by_cases z : p i = true
        · rw [if_pos z, Nat.testBit_or, Nat.testBit_two_pow_of_ne (fun y => e y.symm), Bool.or_false]
        · rw [if_neg z]
      rw [e3]
      by_cases w : i ≤ j ∧ j < i + (r + 1)
      · rw [decide_eq_true w, decide_eq_true (e2.2 w)]
      · rw [decide_eq_false w, decide_eq_false (fun y => w (e2.1 y))]
def hwS (p : Nat → Bool) : Nat → Nat → Nat
  | 0, _ => 0
  | r + 1, i => (if p i = true then 1 else 0) + hwS p r (i + 1)
theorem hwS_le {p : Nat → Bool} : ∀ r i, hwS p r i ≤ r := by
  intro r
  induction r with
  | zero => exact fun _ => Nat.le_refl _
  | succ r ih =>
    intro i
    have := ih (i + 1)
    unfold hwS
    split <;> omega
theorem hwS_end {p : Nat → Bool} : ∀ r i, hwS p (r + 1) i = hwS p r i + if p (i + r) = true then 1 else 0 := by
  intro r
  induction r with
  | zero =>
    intro i
    unfold hwS
    show (if p i = true then 1 else 0) + 0 = 0 + if p (i + 0) = true then 1 else 0
    rw [Nat.add_comm]
    rfl
  | succ r ih =>
    intro i
    have e := ih (i + 1)
    have e1 : hwS p (r + 1 + 1) i = (if p i = true then 1 else 0) + hwS p (r + 1) (i + 1) := rfl
    have e2 : hwS p (r + 1) i = (if p i = true then 1 else 0) + hwS p r (i + 1) := rfl
    rw [e1, e, e2, show i + 1 + r = i + (r + 1) by omega]
    omega
theorem hwS_eq {p p2 : Nat → Bool} : ∀ r i, (∀ k, i ≤ k → k < i + r → p k = p2 k) → hwS p r i = hwS p2 r i := by
  intro r
  induction r with
  | zero => exact fun _ _ => rfl
  | succ r ih =>
    intro i h
    have e1 : hwS p (r + 1) i = (if p i = true then 1 else 0) + hwS p r (i + 1) := rfl
    have e2 : hwS p2 (r + 1) i = (if p2 i = true then 1 else 0) + hwS p2 r (i + 1) := rfl
    rw [e1, e2, h i (Nat.le_refl _) (by omega), ih (i + 1) (fun k h1 h2 => h k (by omega) (by omega))]
theorem bcS_hw (n : Nat) : ∀ k, bcS n k = hwS (fun j => n.testBit j) k 0 := by
  intro k
  induction k with
  | zero => rfl
  | succ k ih =>
    rw [hwS_end, ← ih, Nat.zero_add]
    rfl
theorem hwS_split {p w : Nat → Bool} : ∀ r i, hwS p r i = hwS (fun k => p k && w k) r i + hwS (fun k => p k && !(w k)) r i := by
  intro r
  induction r with
  | zero => exact fun _ => rfl
  | succ r ih =>
    intro i
    have e1 : hwS p (r + 1) i = (if p i = true then 1 else 0) + hwS p r (i + 1) := rfl
    have e2 : hwS (fun k => p k && w k) (r + 1) i = (if (p i && w i) = true then 1 else 0) + hwS (fun k => p k && w k) r (i + 1) := rfl
    have e3 : hwS (fun k => p k && !(w k)) (r + 1) i = (if (p i && !(w i)) = true then 1 else 0) + hwS (fun k => p k && !(w k)) r (i + 1) := rfl
    rw [e1, e2, e3, ih (i + 1)]
    cases p i <;> cases w i <;> simp <;> omega
theorem ksS_ones {p : Nat → Bool} : bcS (ksS p 19 2 0) 24 = hwS p 19 2 := by
  have hb : ∀ j, (ksS p 19 2 0).testBit j = (decide (2 ≤ j ∧ j < 2 + 19) && p j) := fun j => by rw [ksS_bit, Nat.zero_testBit, Bool.false_or]
  rw [bcS_hw]
  generalize hq : (fun j => (ksS p 19 2 0).testBit j) = q
  have hq' : ∀ j, q j = (decide (2 ≤ j ∧ j < 2 + 19) && p j) := fun j => by rw [← hq]; exact hb j
  have z : ∀ j, ¬ (2 ≤ j ∧ j < 2 + 19) → q j = false := fun j hj => by rw [hq', decide_eq_false hj, Bool.false_and]
  have e1 : hwS q 24 0 = (if q 0 = true then 1 else 0) + ((if q 1 = true then 1 else 0) + hwS q 22 2) := rfl
  have e2 : hwS q 22 2 = hwS q 21 2 + (if q (2 + 21) = true then 1 else 0) := hwS_end (p := q) 21 2
  have e3 : hwS q 21 2 = hwS q 20 2 + (if q (2 + 20) = true then 1 else 0) := hwS_end (p := q) 20 2
  have e4 : hwS q 20 2 = hwS q 19 2 + (if q (2 + 19) = true then 1 else 0) := hwS_end (p := q) 19 2
  rw [z _ (by omega), if_neg (by decide)] at e2 e3 e4
  rw [z 0 (by omega), z 1 (by omega), if_neg (by decide)] at e1
  have e5 := hwS_eq (p := q) (p2 := p) 19 2 (fun k h1 h2 => by rw [hq', decide_eq_true ⟨h1, h2⟩, Bool.true_and])
  omega
theorem ksS_lt {p : Nat → Bool} : ksS p 19 2 0 < 2 ^ 21 := by
  refine Nat.lt_pow_two_of_testBit _ (fun j hj => ?_)
  rw [ksS_bit, Nat.zero_testBit, Bool.false_or, decide_eq_false (by omega), Bool.false_and]
def mxS (w n : Nat) : Nat := if w < n then n else w
theorem C_left {S : SK} {m : Nat → Nat → Int32} {p : Nat → Bool} {set : Nat} {x : Int32} (hset : set < 2 ^ 21) (hp : ∀ k, 2 ≤ k → k ≤ 20 → set.testBit k = p k) : ∀ (r f i w n : Nat), i + r = 21 → 2 ≤ i → w + r ≤ 40 → n + r ≤ 40 → r < f → f_X8_leftAtWorst_7 f (mk S m) (nI set) x (nI w) (nI n) (nI i) = some (nI (mxS (w + hwS (fun k => p k && whB x k) r i) (n + hwS (fun k => p k && !(whB x k)) r i)), mk S m) := by
  intro r
  induction r with
  | zero =>
    intro f i w n hi hi2 hw hn hf
    obtain ⟨f, rfl⟩ : ∃ k, f = k + 1 := ⟨f - 1, by omega⟩
    have hi : i = 21 := by omega
    subst hi
    show fb_X8_leftAtWorst_7 (f_X8_leftAtWorst_7 f) (mk S m) (nI set) x (nI w) (nI n) (nI 21) = some (nI (if w < n then n else w), mk S m)
    unfold fb_X8_leftAtWorst_7
    rw [if_pos (show (20 : Int32) < nI 21 by decide), bnd_eq]
    by_cases z : w < n
    · rw [if_pos (nI_lt z (by omega)), if_pos z]
    · rw [if_neg (nI_nlt (by omega) (by omega)), if_neg z]
  | succ r ih =>
    intro f i w n hi hi2 hw hn hf
    obtain ⟨f, rfl⟩ : ∃ k, f = k + 1 := ⟨f - 1, by omega⟩
    have hb : (nI set >>> (nI i &&& 31)) &&& 1 = nI (if set.testBit i = true then 1 else 0) := bitI (by omega) (by omega)
    have e44 : ∀ w n : Nat, f_X8_leftAtWorst_44 (f_X8_leftAtWorst_7 f) (mk S m) (nI set) x (nI w) (nI n) (nI i) = f_X8_leftAtWorst_7 f (mk S m) (nI set) x (nI w) (nI n) (nI (i + 1)) := fun w n => by
      unfold f_X8_leftAtWorst_44
      rw [bnd_eq, show nI i + (1 : Int32) = nI (i + 1) from nI_add i 1]
    have e1 : hwS (fun k => p k && whB x k) (r + 1) i = (if (p i && whB x i) = true then 1 else 0) + hwS (fun k => p k && whB x k) r (i + 1) := rfl
    have e2 : hwS (fun k => p k && !(whB x k)) (r + 1) i = (if (p i && !(whB x i)) = true then 1 else 0) + hwS (fun k => p k && !(whB x k)) r (i + 1) := rfl
    show fb_X8_leftAtWorst_7 (f_X8_leftAtWorst_7 f) (mk S m) (nI set) x (nI w) (nI n) (nI i) = _
    unfold fb_X8_leftAtWorst_7
    rw [if_neg (nlt20 (by omega)), hb, hp i hi2 (by omega), e1, e2]
    cases hpi : p i with
    | false =>
      rw [if_pos (show nI (if false = true then 1 else 0) = (0 : Int32) from rfl), e44, ih f (i + 1) w n (by omega) (by omega) (by omega) (by omega) (by omega), Bool.false_and, Bool.false_and, if_neg (by decide), Nat.zero_add, Nat.zero_add]
    | true =>
      obtain ⟨v, ev, hv⟩ := fm_0 (h := mk S m) (x := x) (show 2 ≤ i ∧ i ≤ 20 by omega)
      rw [if_neg (show ¬ nI (if true = true then 1 else 0) = (0 : Int32) by decide), ev, Option.bind_some, Bool.true_and, Bool.true_and]
      cases hwi : whB x i with
      | true =>
        rw [if_pos (hv.2 hwi), bnd_eq, show nI w + (1 : Int32) = nI (w + 1) from nI_add w 1, e44, ih f (i + 1) (w + 1) n (by omega) (by omega) (by omega) (by omega) (by omega), if_pos rfl, if_neg (by decide), Nat.zero_add, Nat.add_assoc]
      | false =>
        rw [if_neg (fun y => by rw [hv.1 y] at hwi; exact absurd hwi (by decide)), bnd_eq, show nI n + (1 : Int32) = nI (n + 1) from nI_add n 1, e44, ih f (i + 1) w (n + 1) (by omega) (by omega) (by omega) (by omega) (by omega), if_neg (by decide), if_pos (by decide), Nat.zero_add, Nat.add_assoc]
theorem M_left {S : SK} {m : Nat → Nat → Int32} {p : Nat → Bool} {set br : Nat} {x0 what l6 l7 : Int32} {K : XM → Option Nat → Int32 → Int32 → Int32 → Int32 → Int32 → Option (Int32 × XM)} (hS : SkOK S) (h48 : m 50 48 = x0) (hset : set < 2 ^ 21) (hp : ∀ k, 2 ≤ k → k ≤ 20 → set.testBit k = p k) : ∀ (r f i w : Nat), i + r = 21 → 2 ≤ i → w + r ≤ 40 → r < f → bcS set 24 ≤ 40 → w + hwS (fun k => p k && whB (x0 + nI br) k) r i ≤ bcS set 24 → f_X9_next__68 K f (mk S m) (some 50) what (nI set) l6 l7 (nI br) (nI w) (nI i) = f_X9_next__141 K (mk S m) (some 50) what (nI set) l6 l7 (nI br) (nI (mxS (w + hwS (fun k => p k && whB (x0 + nI br) k) r i) (bcS set 24 - (w + hwS (fun k => p k && whB (x0 + nI br) k) r i)))) := by
  have hk9 : (sh S 50).1 = 9 := by rw [sk50 hS]
  intro r
  induction r with
  | zero =>
    intro f i w hi hi2 hw hf h40 hle
    obtain ⟨f, rfl⟩ : ∃ k, f = k + 1 := ⟨f - 1, by omega⟩
    have hi : i = 21 := by omega
    subst hi
    have hle' : w ≤ bcS set 24 := hle
    show fb_X9_next__68 K (f_X9_next__68 K f) (mk S m) (some 50) what (nI set) l6 l7 (nI br) (nI w) (nI 21) = f_X9_next__141 K (mk S m) (some 50) what (nI set) l6 l7 (nI br) (nI (if w < bcS set 24 - w then bcS set 24 - w else w))
    unfold fb_X9_next__68
    rw [if_pos (show (20 : Int32) < nI 21 by decide), X9_ones (by omega), Option.bind_some, bnd_eq, pk_sub hle']
    by_cases z : bcS set 24 - w < w
    · rw [if_pos (nI_lt z (by omega)), if_neg (by omega)]
    · rw [if_neg (nI_nlt (by omega) (by omega))]
      by_cases z2 : w < bcS set 24 - w
      · rw [if_pos z2]
      · rw [if_neg z2, show bcS set 24 - w = w by omega]
  | succ r ih =>
    intro f i w hi hi2 hw hf h40 hle
    obtain ⟨f, rfl⟩ : ∃ k, f = k + 1 := ⟨f - 1, by omega⟩
    have hb : (nI set >>> (nI i &&& 31)) &&& 1 = nI (if set.testBit i = true then 1 else 0) := bitI (by omega) (by omega)
    have e108 : ∀ c w : Nat, f_X9_next__108 K (f_X9_next__68 K f) (mk S m) (some 50) what (nI set) l6 l7 (nI br) (nI i) (nI c) (nI w) = f_X9_next__68 K f (mk S m) (some 50) what (nI set) l6 l7 (nI br) (nI (w + c)) (nI (i + 1)) := fun c w => by
      unfold f_X9_next__108
      rw [bnd_eq, bnd_eq, nI_add, show nI i + (1 : Int32) = nI (i + 1) from nI_add i 1]
    have e107 : f_X9_next__107 K (f_X9_next__68 K f) (mk S m) (some 50) what (nI set) l6 l7 (nI br) (nI i) (nI w) = f_X9_next__68 K f (mk S m) (some 50) what (nI set) l6 l7 (nI br) (nI w) (nI (i + 1)) := e108 0 w
    have e1 : hwS (fun k => p k && whB (x0 + nI br) k) (r + 1) i = (if (p i && whB (x0 + nI br) i) = true then 1 else 0) + hwS (fun k => p k && whB (x0 + nI br) k) r (i + 1) := rfl
    show fb_X9_next__68 K (f_X9_next__68 K f) (mk S m) (some 50) what (nI set) l6 l7 (nI br) (nI w) (nI i) = _
    unfold fb_X9_next__68
    rw [e1] at hle ⊢
    rw [if_neg (nlt20 (by omega)), hb, hp i hi2 (by omega)]
    cases hpi : p i with
    | false =>
      rw [hpi, Bool.false_and, if_neg (by decide), Nat.zero_add] at hle
      rw [if_neg (show ¬ nI (if false = true then 1 else 0) = (1 : Int32) by decide), e107, ih f (i + 1) w (by omega) (by omega) (by omega) (by omega) h40 hle, Bool.false_and, if_neg (by decide), Nat.zero_add]
    | true =>
      rw [hpi, Bool.true_and] at hle
      rw [if_pos (show nI (if true = true then 1 else 0) = (1 : Int32) from rfl), gI_k hk9, h48, Option.bind_some, M_whole (show 2 ≤ i ∧ i ≤ 20 by omega), Option.bind_some, Bool.true_and]
      cases hwi : whB (x0 + nI br) i with
      | true =>
        rw [hwi, if_pos rfl] at hle
        rw [if_neg (show ¬ (if true = true then (1 : Int32) else 0) = 0 by decide), show f_X9_next__108 K (f_X9_next__68 K f) (mk S m) (some 50) what (nI set) l6 l7 (nI br) (nI i) ((1 : Int32)) (nI w) = _ from e108 1 w, ih f (i + 1) (w + 1) (by omega) (by omega) (by omega) (by omega) h40 (by omega), if_pos rfl, Nat.add_assoc]
      | false =>
        rw [hwi, if_neg (by decide), Nat.zero_add] at hle
        rw [if_pos (show (if false = true then (1 : Int32) else 0) = 0 from rfl), e107, ih f (i + 1) w (by omega) (by omega) (by omega) (by omega) h40 hle, if_neg (by decide), Nat.zero_add]
def nxS (W : Nat → Nat) : Nat → Nat → Nat → Nat → Nat × Nat
  | 0, _, b, lf => (b, lf)
  | r + 1, i, b, lf => if b = 0 ∨ W i < lf then nxS W r (i + 1) i (W i) else nxS W r (i + 1) b lf
theorem nxS_pos {W : Nat → Nat} : ∀ r i b lf, 1 ≤ i → (b ≠ 0 ∨ 0 < r) → (nxS W r i b lf).1 ≠ 0 := by
  intro r
  induction r with
  | zero => exact fun i b lf _ h => h.resolve_right (by omega)
  | succ r ih =>
    intro i b lf hi h
    unfold nxS
    by_cases c : b = 0 ∨ W i < lf
    · rw [if_pos c]
      exact ih _ _ _ (by omega) (Or.inl (by omega))
    · rw [if_neg c]
      exact ih _ _ _ (by omega) (Or.inl (fun y => c (Or.inl y)))
def wrS (p : Nat → Bool) (x : Int32) (i : Nat) : Nat := mxS (hwS (fun k => p k && whB (x + nI i) k) 19 2) (hwS (fun k => p k && !(whB (x + nI i) k)) 19 2)
theorem wrS_le {p : Nat → Bool} {x : Int32} {i : Nat} : wrS p x i ≤ 19 := by
  have a := hwS_le (p := fun k => p k && whB (x + nI i) k) 19 2
  have b := hwS_le (p := fun k => p k && !(whB (x + nI i) k)) 19 2
  unfold wrS mxS
  split <;> omega
theorem C_next {S : SK} {m : Nat → Nat → Int32} {p : Nat → Bool} {what x : Int32} : ∀ (r f i b lf : Nat), i + r = 31 → b ≤ 31 → lf ≤ 31 → r < f → f_X8_next_61 f (mk S m) what (nI (ksS p 19 2 0)) x (nI b) (nI lf) (nI i) = some (if what = 0 then nI (nxS (wrS p x) r i b lf).1 else nI (nxS (wrS p x) r i b lf).2, mk S m) := by
  intro r
  induction r with
  | zero =>
    intro f i b lf hi hb hlf hf
    obtain ⟨f, rfl⟩ : ∃ k, f = k + 1 := ⟨f - 1, by omega⟩
    have hi : i = 31 := by omega
    subst hi
    show fb_X8_next_61 (f_X8_next_61 f) (mk S m) what (nI (ksS p 19 2 0)) x (nI b) (nI lf) (nI 31) = some (if what = 0 then nI b else nI lf, mk S m)
    unfold fb_X8_next_61
    rw [if_pos (show (30 : Int32) < nI 31 by decide)]
    by_cases z : what = 0
    · rw [if_pos z, if_pos z]
      rfl
    · rw [if_neg z, if_neg z]
      rfl
  | succ r ih =>
    intro f i b lf hi hb hlf hf
    obtain ⟨f, rfl⟩ : ∃ k, f = k + 1 := ⟨f - 1, by omega⟩
    have hl := C_left (S := S) (m := m) (p := p) (set := ksS p 19 2 0) (x := x + nI i) ksS_lt (fun k h1 h2 => by rw [ksS_bit, Nat.zero_testBit, Bool.false_or, decide_eq_true (by omega), Bool.true_and]) 19 FU 2 0 0 (by omega) (by omega) (by omega) (by omega) (by unfold FU; omega)
    rw [Nat.zero_add, Nat.zero_add] at hl
    have hl' : f_X8_leftAtWorst (mk S m) (nI (ksS p 19 2 0)) (x + nI i) = some (nI (wrS p x i), mk S m) := hl
    have hw := wrS_le (p := p) (x := x) (i := i)
    have e100 : ∀ b lf : Nat, f_X8_next_100 (f_X8_next_61 f) (mk S m) what (nI (ksS p 19 2 0)) x (nI b) (nI lf) (nI i) = f_X8_next_61 f (mk S m) what (nI (ksS p 19 2 0)) x (nI b) (nI lf) (nI (i + 1)) := fun b lf => by
      unfold f_X8_next_100
      rw [bnd_eq, show nI i + (1 : Int32) = nI (i + 1) from nI_add i 1]
    have e92 : f_X8_next_92 (f_X8_next_61 f) (mk S m) what (nI (ksS p 19 2 0)) x (nI i) (nI (wrS p x i)) = f_X8_next_61 f (mk S m) what (nI (ksS p 19 2 0)) x (nI i) (nI (wrS p x i)) (nI (i + 1)) := e100 i (wrS p x i)
    show fb_X8_next_61 (f_X8_next_61 f) (mk S m) what (nI (ksS p 19 2 0)) x (nI b) (nI lf) (nI i) = _
    unfold fb_X8_next_61
    have es : nxS (wrS p x) (r + 1) i b lf = if b = 0 ∨ wrS p x i < lf then nxS (wrS p x) r (i + 1) i (wrS p x i) else nxS (wrS p x) r (i + 1) b lf := rfl
    rw [if_neg (show ¬ (30 : Int32) < nI i from fun y => by have := (nI_ltI (a := 30) (by omega) (by omega)).1 y; omega), hl', Option.bind_some, es]
    by_cases z : b = 0
    · subst z
      rw [if_pos (show nI 0 = (0 : Int32) from rfl), if_pos (Or.inl rfl), e92]
      exact ih f (i + 1) i _ (by omega) (by omega) (by omega) (by omega)
    · rw [if_neg (nI_ne0 (by omega) (by omega))]
      by_cases z2 : wrS p x i < lf
      · rw [if_pos (nI_lt z2 (by omega)), if_pos (Or.inr z2), e92]
        exact ih f (i + 1) i _ (by omega) (by omega) (by omega) (by omega)
      · rw [if_neg (nI_nlt (by omega) (by omega)), if_neg (show ¬ (b = 0 ∨ wrS p x i < lf) by omega), e100]
        exact ih f (i + 1) b lf (by omega) hb hlf (by omega)
theorem M_next {S : SK} {m : Nat → Nat → Int32} {p : Nat → Bool} {what x : Int32} (hS : SkOK S) (h48 : m 50 48 = x) : ∀ (r f i b lf : Nat), i + r = 31 → 1 ≤ i → b ≤ 31 → lf ≤ 31 → r < f → f_X9_next__55 f (mk S m) (some 50) what (nI (ksS p 19 2 0)) (nI b) (if b = 0 then -1 else nI lf) (nI i) = some (if what = 0 then nI (nxS (wrS p x) r i b lf).1 else (if (nxS (wrS p x) r i b lf).1 = 0 then -1 else nI (nxS (wrS p x) r i b lf).2), mk S m) := by
  intro r
  induction r with
  | zero =>
    intro f i b lf hi hi1 hb hlf hf
    obtain ⟨f, rfl⟩ : ∃ k, f = k + 1 := ⟨f - 1, by omega⟩
    have hi : i = 31 := by omega
    subst hi
    show fb_X9_next__55 (f_X9_next__55 f) (mk S m) (some 50) what (nI (ksS p 19 2 0)) (nI b) (if b = 0 then -1 else nI lf) (nI 31) = some (if what = 0 then nI b else (if b = 0 then -1 else nI lf), mk S m)
    unfold fb_X9_next__55
    rw [if_pos (show (30 : Int32) < nI 31 by decide)]
    by_cases z : what = 0
    · rw [if_pos z, if_pos z]
      rfl
    · rw [if_neg z, if_neg z]
      rfl
  | succ r ih =>
    intro f i b lf hi hi1 hb hlf hf
    obtain ⟨f, rfl⟩ : ∃ k, f = k + 1 := ⟨f - 1, by omega⟩
    have hones := ksS_ones (p := p)
    have h19 := hwS_le (p := p) 19 2
    have hsp := hwS_split (p := p) (w := fun k => whB (x + nI i) k) 19 2
    have hl := M_left (S := S) (m := m) (p := p) (set := ksS p 19 2 0) (br := i) (x0 := x) (what := what) (l6 := nI b) (l7 := if b = 0 then -1 else nI lf) (K := f_X9_next__55 f) hS h48 ksS_lt (fun k h1 h2 => by rw [ksS_bit, Nat.zero_testBit, Bool.false_or, decide_eq_true (by omega), Bool.true_and]) 19 FU 2 0 (by omega) (by omega) (by omega) (by unfold FU; omega) (by rw [hones]; omega) (by rw [hones]; omega)
    rw [Nat.zero_add, hones, show hwS p 19 2 - hwS (fun k => p k && whB (x + nI i) k) 19 2 = hwS (fun k => p k && !(whB (x + nI i) k)) 19 2 by omega] at hl
    have hl' : f_X9_next__68 (f_X9_next__55 f) FU (mk S m) (some 50) what (nI (ksS p 19 2 0)) (nI b) (if b = 0 then -1 else nI lf) (nI i) ((0 : Int32)) ((2 : Int32)) = f_X9_next__141 (f_X9_next__55 f) (mk S m) (some 50) what (nI (ksS p 19 2 0)) (nI b) (if b = 0 then -1 else nI lf) (nI i) (nI (wrS p x i)) := hl
    have hw := wrS_le (p := p) (x := x) (i := i)
    have e185 : ∀ (c : Nat) (v : Int32), f_X9_next__185 (f_X9_next__55 f) (mk S m) (some 50) what (nI (ksS p 19 2 0)) (nI c) (nI i) v = f_X9_next__55 f (mk S m) (some 50) what (nI (ksS p 19 2 0)) (nI c) v (nI (i + 1)) := fun c v => by
      unfold f_X9_next__185
      rw [bnd_eq, show nI i + (1 : Int32) = nI (i + 1) from nI_add i 1]
    have e178 : ∀ (c : Nat) (v : Int32), f_X9_next__178 (f_X9_next__55 f) (mk S m) (some 50) what (nI (ksS p 19 2 0)) (nI c) (nI i) v = f_X9_next__55 f (mk S m) (some 50) what (nI (ksS p 19 2 0)) (nI c) v (nI (i + 1)) := e185
    show fb_X9_next__55 (f_X9_next__55 f) (mk S m) (some 50) what (nI (ksS p 19 2 0)) (nI b) (if b = 0 then -1 else nI lf) (nI i) = _
    unfold fb_X9_next__55
    have es : nxS (wrS p x) (r + 1) i b lf = if b = 0 ∨ wrS p x i < lf then nxS (wrS p x) r (i + 1) i (wrS p x i) else nxS (wrS p x) r (i + 1) b lf := rfl
    rw [if_neg (show ¬ (30 : Int32) < nI i from fun y => by have := (nI_ltI (a := 30) (by omega) (by omega)).1 y; omega), hl', es]
    have hi0 : ¬ i = 0 ∨ i = 0 := by omega
    by_cases z : b = 0
    · subst z
      rw [if_pos rfl, if_pos (Or.inl rfl)]
      unfold f_X9_next__141 f_X9_next__156 f_X9_next__163
      rw [if_pos rfl, if_pos rfl, e178]
      by_cases zi : i = 0
      · subst zi
        omega
      · have nx := ih f (i + 1) i (wrS p x i) (by omega) (by omega) (by omega) (by omega) (by omega)
        rw [if_neg zi] at nx
        exact nx
    · rw [if_neg z]
      unfold f_X9_next__141 f_X9_next__156 f_X9_next__163
      rw [if_neg (n_m1 lf (by omega)), if_neg (n_m1 lf (by omega)), if_neg (n_m1 lf (by omega))]
      by_cases z2 : wrS p x i < lf
      · rw [if_pos (nI_lt z2 (by omega)), if_pos (nI_lt z2 (by omega)), if_pos (Or.inr z2), e178]
        have zi : ¬ i = 0 := by omega
        have nx := ih f (i + 1) i (wrS p x i) (by omega) (by omega) (by omega) (by omega) (by omega)
        rw [if_neg zi] at nx
        exact nx
      · rw [if_neg (nI_nlt (by omega) (by omega)), if_neg (nI_nlt (by omega) (by omega)), if_neg (show ¬ (b = 0 ∨ wrS p x i < lf) by omega), e185]
        have nx := ih f (i + 1) b lf (by omega) (by omega) hb hlf (by omega)
        rw [if_neg z] at nx
        exact nx
theorem C_sumB {S : SK} {m : Nat → Nat → Int32} {s n : Nat} (hS : SkOK S) (hs : s < 4) (hn : n ≤ 20) (h2 : m (38 + 2 * s) 2 = nI (2 * n)) : ∀ (r f j : Nat) (x : Int32), j + r = n → r < f → f_X4_sumBehind_4 f (mk S m) (some (38 + 2 * s)) x (nI (2 * j)) = some (smS (m (39 + 2 * s)) r j x, mk S m) := by
  obtain ⟨b1, b2, b3, b4⟩ := shS hS s hs
  have hk4 : (sh S (38 + 2 * s)).1 = 4 := by rw [b1]
  intro r
  induction r with
  | zero =>
    intro f j x hj hf
    obtain ⟨f, rfl⟩ : ∃ k, f = k + 1 := ⟨f - 1, by omega⟩
    show fb_X4_sumBehind_4 (f_X4_sumBehind_4 f) (mk S m) (some (38 + 2 * s)) x (nI (2 * j)) = _
    unfold fb_X4_sumBehind_4
    rw [gI_k hk4, h2, Option.bind_some, show nI (2 * j) + (1 : Int32) = nI (2 * j + 1) from nI_add _ 1, if_neg (nI_nlt (by omega) (by omega))]
    rfl
  | succ r ih =>
    intro f j x hj hf
    obtain ⟨f, rfl⟩ : ∃ k, f = k + 1 := ⟨f - 1, by omega⟩
    show fb_X4_sumBehind_4 (f_X4_sumBehind_4 f) (mk S m) (some (38 + 2 * s)) x (nI (2 * j)) = _
    unfold fb_X4_sumBehind_4
    rw [gI_k hk4, h2, Option.bind_some, show nI (2 * j) + (1 : Int32) = nI (2 * j + 1) from nI_add _ 1, if_pos (nI_lt (by omega) (by omega)), gR_k hk4, b3, Option.bind_some, rI_n b2 (by omega) (by decide), Option.bind_some, bnd_eq, bnd_eq, show nI (2 * j) + (2 : Int32) = nI (2 * (j + 1)) from nI_add _ 2]
    exact ih f (j + 1) (x + m (39 + 2 * s) (2 * j)) (by omega) (by omega)
theorem op_next {S : SK} {m : Nat → Nat → Int32} (hR : RR S m) (x y z : Int32) : RES (f_X8_next (mk S m) (some 0) x y z) (fun S1 m1 => f_X9_next_ (mk S1 m1) (some 50) x y z) := by
  have hR0 := hR
  have hS := hR.ok
  have hk8 : (sh S 0).1 = 8 := by rw [sk0 hS]
  have hk1 : (sh S 3).1 = 1 := by rw [sk3 hS]
  have hk : (sh S 50).1 = 9 := by rw [sk50 hS]
  obtain ⟨d, P, N, l, T, wh, kd, td, mo, prs, q, h⟩ := hR
  obtain ⟨hl, ⟨g1, g2, g3⟩, hO⟩ := h
  rcases C_start hS hO.2.2.1 x y with ⟨r, hr, h1, h2⟩ | ⟨s, n, hs, rfl, hn, hz, h1, h2⟩
  · refine op_same (a := r) hR0 ?_ ?_
    · unfold f_X8_next
      rw [vc_k hk8, h1, Option.bind_some, if_neg hr]
    · show f_X9_next_ (mk S m) (some 50) x y z = _
      unfold f_X9_next_
      rcases h2 (lg S) m rfl rfl with u | ⟨u, rfl, v⟩
      · have u' : f_X9_sheetWrong (mk S m) (some 50) x = some (r, mk S m) := u
        rw [vc_k hk, u', Option.bind_some, if_neg hr]
      · have u' : f_X9_sheetWrong (mk S m) (some 50) x = some (0, mk S m) := u
        have v' : f_X9_in (mk S m) y ((0 : Int32)) ((9999 : Int32)) = some (0, mk S m) := v
        rw [vc_k hk, u', Option.bind_some, if_pos rfl]
        show (f_X9_in (mk S m) y ((0 : Int32)) ((9999 : Int32))).bind _ = _
        rw [v', Option.bind_some, if_pos rfl]
        rfl
  · obtain ⟨b1, b2, b3, b4⟩ := shS hS s hs
    have hk4 : (sh S (38 + 2 * s)).1 = 4 := by rw [b1]
    obtain ⟨q1, q2, q3, _⟩ := hO.2.2.1 s hs
    obtain ⟨u, v⟩ := h2 (lg S) m rfl rfl
    have u' : f_X9_sheetWrong (mk S m) (some 50) (nI s) = some (0, mk S m) := u
    have v' : f_X9_in (mk S m) y ((0 : Int32)) ((9999 : Int32)) = some (1, mk S m) := v
    rcases i_rng z (B := 1) (by decide) with ⟨k, hk1', rfl⟩ | hbad
    · have e1 := C_nums (m := m) (x := y) hS hs hn hz 19 FU 2 0 (by omega) (by omega) (by unfold FU; omega)
      have e3 := C_sumB (m := m) hS hs hn hz n FU 0 y (by omega) (by unfold FU; omega)
      obtain ⟨m2, e2, x2, ag2⟩ := M_nums hS (cl := m (39 + 2 * s)) (st := y) hs hn 19 FU 2 0 m (by omega) (by omega) (by unfold FU; omega) (by rw [q2]; exact hz) q3
      have hM2 : MV S m2 (mkE d P N wh kd td mo (prs l)) l q := g2.ag ag2 (fun _ _ => id) (fun j hj => by omega)
      have e4 := C_next (S := S) (m := m) (p := fun k => soS (m (39 + 2 * s)) k n 0 y) (what := nI k) (x := smS (m (39 + 2 * s)) n 0 y) 30 FU 1 0 0 (by omega) (by omega) (by omega) (by unfold FU; omega)
      have e5 := M_next (S := S) (m := m2) (p := fun k => soS (m (39 + 2 * s)) k n 0 y) (what := nI k) (x := smS (m (39 + 2 * s)) n 0 y) hS (x2 (by omega)) 30 FU 1 0 0 (by omega) (by omega) (by omega) (by omega) (by unfold FU; omega)
      rw [if_neg (nxS_pos 30 1 0 0 (by omega) (Or.inr (by omega)))] at e5
      refine op_mk (S1 := S) (m1 := m) (S2 := S) (m2 := m2) (a := if nI k = 0 then nI (nxS (wrS (fun k => soS (m (39 + 2 * s)) k n 0 y) (smS (m (39 + 2 * s)) n 0 y)) 30 1 0 0).1 else nI (nxS (wrS (fun k => soS (m (39 + 2 * s)) k n 0 y) (smS (m (39 + 2 * s)) n 0 y)) 30 1 0 0).2) ?_ ?_ ⟨d, P, N, l, T, wh, kd, td, mo, prs, q, RP.q (L := lg S) ⟨hl, ⟨g1, g2, g3⟩, hO⟩ Ag.rf (ag2.mono (fun _ z => z.elim) (fun j hj => by unfold JM; omega)) hM2 ?_⟩
      · unfold f_X8_next
        rw [vc_k hk8, h1, Option.bind_some, if_pos rfl, ifr_y (b := 1) (B := 1) rfl hk1' (by decide), r0_8 hS, Option.bind_some, rR37 hS hs, Option.bind_some, vc_k hk4]
        have e1' : f_X4_numbersBy (mk S m) (some (38 + 2 * s)) y = _ := e1
        have e3' : f_X4_sumBehind (mk S m) (some (38 + 2 * s)) y = _ := e3
        rw [e1', Option.bind_some, r0_8 hS, Option.bind_some, rR37 hS hs, Option.bind_some, vc_k hk4, e3', Option.bind_some]
        exact e4
      · show f_X9_next_ (mk S m) (some 50) (nI s) y (nI k) = _
        unfold f_X9_next_
        rw [vc_k hk, u', Option.bind_some, if_pos rfl]
        show (f_X9_in (mk S m) y ((0 : Int32)) ((9999 : Int32))).bind _ = _
        rw [v', Option.bind_some, if_neg (show ¬ (1 : Int32) = 0 by decide), X9_in, ifr_y (b := 1) (B := 1) rfl hk1' (by decide), Option.bind_some, if_neg (show ¬ (1 : Int32) = 0 by decide), vc_k hk]
        have e2' : f_X9_numbersFor (mk S m) (some 50) (nI s) y = _ := e2
        rw [e2', Option.bind_some]
        exact e5
      · rw [ag2.2 37 (by decide)]
        exact g3
    · refine op_same (a := -7) hR0 ?_ ?_
      · unfold f_X8_next
        rw [vc_k hk8, h1, Option.bind_some, if_pos rfl, ifr_n (b := 1) (B := 1) rfl hbad]
        rfl
      · show f_X9_next_ (mk S m) (some 50) (nI s) y z = _
        unfold f_X9_next_
        rw [vc_k hk, u', Option.bind_some, if_pos rfl]
        show (f_X9_in (mk S m) y ((0 : Int32)) ((9999 : Int32))).bind _ = _
        rw [v', Option.bind_some, if_neg (show ¬ (1 : Int32) = 0 by decide), X9_in, ifr_n (b := 1) (B := 1) rfl hbad, Option.bind_some, if_pos rfl]
        rfl
