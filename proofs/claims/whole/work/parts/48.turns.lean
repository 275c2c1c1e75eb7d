/-! PURE: by turns: what is chosen; ints out of integers -/
theorem oI_to {a : Int} (h : -2147483648 ≤ a) (h2 : a < 2147483648) : (Int32.ofInt a).toInt = a := Int32.toInt_ofInt_of_le h h2
theorem oI_n (n : Nat) : Int32.ofInt (n : Int) = nI n := Int32.ofInt_eq_ofNat
theorem oI_sub (x : Int32) (b : Nat) : x - nI b = Int32.ofInt (x.toInt - (b : Int)) := by
  rw [Int32.ofInt_sub, Int32.ofInt_toInt, oI_n]
theorem oI_sub2 (a : Int) (b : Nat) : Int32.ofInt a - nI b = Int32.ofInt (a - (b : Int)) := by
  rw [Int32.ofInt_sub, oI_n]
theorem oI_lt {a b : Int} (h1 : -2147483648 ≤ a) (h2 : a < 2147483648) (h3 : -2147483648 ≤ b) (h4 : b < 2147483648) : Int32.ofInt a < Int32.ofInt b ↔ a < b := by
  rw [Int32.lt_iff_toInt_lt, oI_to h1 h2, oI_to h3 h4]
theorem lw_bd {p : Nat} (hp : p ≠ 0) (e : Int32) : 0 ≤ (lwS p e).toInt ∧ (lwS p e).toInt ≤ 99 := by
  have z0 : (0 : Int32).toInt = 0 := by decide
  have z9 : (99 : Int32).toInt = 99 := by decide
  unfold lwS
  rw [if_neg hp]
  by_cases h1 : e < 99
  · rw [if_pos h1]
    by_cases h2 : 0 < e
    · rw [if_pos h2]
      rw [Int32.lt_iff_toInt_lt] at h1 h2
      omega
    · rw [if_neg h2]
      omega
  · rw [if_neg h1]
    by_cases h2 : (0 : Int32) < 99
    · rw [if_pos h2]
      omega
    · rw [if_neg h2]
      omega
theorem sub_to {a b : Int32} (h1 : 0 ≤ a.toInt) (h2 : a.toInt ≤ 99) (h3 : 0 ≤ b.toInt) (h4 : b.toInt ≤ 99) : (a - b).toInt = a.toInt - b.toInt := by
  have e : a - b = Int32.ofInt (a.toInt - b.toInt) := by rw [Int32.ofInt_sub, Int32.ofInt_toInt, Int32.ofInt_toInt]
  rw [e, oI_to (by omega) (by omega)]
theorem wth_bd (E : EN) (q : QS) (p : Nat) : -99 ≤ (wthS E q p).toInt ∧ (wthS E q p).toInt ≤ 99 := by
  have h2 : 0 ≤ (lawS E 2 q.1 0 q.2.1 (lfS (eW E) q.2.2.2 p (eN E)) p).toInt ∧ (lawS E 2 q.1 0 q.2.1 (lfS (eW E) q.2.2.2 p (eN E)) p).toInt ≤ 99 := lw_bd (by decide) _
  have h1 : 0 ≤ (lawS E 1 q.1 0 q.2.1 (lfS (eW E) q.2.2.2 p (eN E)) p).toInt ∧ (lawS E 1 q.1 0 q.2.1 (lfS (eW E) q.2.2.2 p (eN E)) p).toInt ≤ 99 := lw_bd (by decide) _
  have z0 : (0 : Int32).toInt = 0 := by decide
  unfold wthS
  split
  · rw [sub_to h1.1 h1.2 h2.1 h2.2]
    omega
  · rw [sub_to (by omega) (by omega) h2.1 h2.2]
    omega
abbrev RT : Type := (Nat → Int) × List Nat
def tkS (u c mv : Nat) (x : RT) : RT := (fun p => if p = u then x.1 p - (c : Int) else x.1 p, mv :: x.2)
def slS (E : EN) (rec : QS → RT) (q : QS) (u : Nat) : Nat → Nat → RT → RT
  | 0, _, a => a
  | r + 1, i, a => slS E rec q u r (i + 1) (if eW E i = u ∧ canS E q i = true then (if a.1 u < (rec (putS E q i)).1 u - (cstS E i : Int) then tkS u (cstS E i) (i + 1) (rec (putS E q i)) else a) else a)
def solS (E : EN) : Nat → Nat → QS → RT
  | 0, _, q => (fun p => (wthS E q p).toInt, [])
  | k + 1, t, q => slS E (solS E k (t + 1)) q (t % eP E) (eN E) 0 ((solS E k (t + 1) (waitS q)).1, 0 :: (solS E k (t + 1) (waitS q)).2)
def RB (k : Nat) (a : RT) : Prop := a.2.length = k ∧ (∀ p, -99 - 60 * (k : Int) ≤ a.1 p ∧ a.1 p ≤ 99) ∧ ∀ d, d ∈ a.2 → d ≤ 7
theorem RB.tk {k u c mv : Nat} {x : RT} (h : RB k x) (hc : c ≤ 60) (hm : mv ≤ 7) : RB (k + 1) (tkS u c mv x) := by
  obtain ⟨h1, h2, h3⟩ := h
  refine ⟨?_, fun p => ?_, fun d hd => ?_⟩
  · show (mv :: x.2).length = k + 1
    rw [List.length_cons, h1]
  · have := h2 p
    show _ ≤ (if p = u then x.1 p - (c : Int) else x.1 p) ∧ (if p = u then x.1 p - (c : Int) else x.1 p) ≤ 99
    split <;> omega
  · have hd' : d ∈ mv :: x.2 := hd
    rcases List.mem_cons.1 hd' with e | e
    · omega
    · exact h3 d e
theorem RB.w {k : Nat} {x : RT} (h : RB k x) : RB (k + 1) (x.1, 0 :: x.2) := by
  obtain ⟨h1, h2, h3⟩ := h
  refine ⟨?_, fun p => ?_, fun d hd => ?_⟩
  · show (0 :: x.2).length = k + 1
    rw [List.length_cons, h1]
  · have := h2 p
    show _ ≤ x.1 p ∧ x.1 p ≤ 99
    omega
  · have hd' : d ∈ 0 :: x.2 := hd
    rcases List.mem_cons.1 hd' with e | e
    · omega
    · exact h3 d e
theorem sl_rb {E : EN} {rec : QS → RT} {k : Nat} (hE : EOK E) (hr : ∀ q, RB k (rec q)) (q : QS) (u : Nat) : ∀ r i a, i + r = eN E → RB (k + 1) a → RB (k + 1) (slS E rec q u r i a)
  | 0, _, _, _, h => h
  | r + 1, i, a, hi, h => by
    apply sl_rb hE hr q u r (i + 1) _ (by omega)
    have hN := hE.2.2.1
    split
    · split
      · exact (hr _).tk (cst_le hE (by omega)) (by omega)
      · exact h
    · exact h
theorem sol_rb {E : EN} (hE : EOK E) : ∀ k t q, RB k (solS E k t q)
  | 0, t, q => ⟨rfl, fun p => by
      have := wth_bd E q p
      show -99 - 60 * ((0 : Nat) : Int) ≤ (wthS E q p).toInt ∧ (wthS E q p).toInt ≤ 99
      omega, fun d hd => by cases hd⟩
  | k + 1, t, q => sl_rb hE (sol_rb hE k (t + 1)) q (t % eP E) (eN E) 0 _ (by omega) (sol_rb hE k (t + 1) (waitS q)).w
def EndM (m : Nat → Nat → Int32) (A b P : Nat) (f : Nat → Int) : Prop := ∀ p, p < P → m A (b + p) = Int32.ofInt (f p)
def LinM (m : Nat → Nat → Int32) (A b : Nat) (L : List Nat) : Prop := ∀ j, j < L.length → m A (b + j) = nI (L.getD j 0)
