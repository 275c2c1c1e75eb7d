/-! PURE: calls: which -/
def whB (x : Int32) (k : Nat) : Bool := decide (x - x / nI k * nI k = 0)
theorem rem_ne {x : Int32} {k : Nat} (hk : 2 ≤ k ∧ k ≤ 20) : ¬ (x - x / nI k * nI k) + nI k = 0 := by
  intro h
  have ek : (nI k).toInt = (k : Int) := nI_toInt (by omega)
  have hn : nI k ≠ -1 := n_m1 k (by omega)
  have e1 : (x / nI k).toInt = x.toInt.tdiv (k : Int) := by rw [Int32.toInt_div_of_ne_right _ _ hn, ek]
  have e2 : (x / nI k * nI k).toInt % 4294967296 = (x.toInt.tdiv (k : Int) * (k : Int)) % 4294967296 := by
    rw [Int32.toInt_mul, e1, ek]
    exact Int.bmod_emod
  have e3 : (x - x / nI k * nI k).toInt % 4294967296 = (x.toInt - (x / nI k * nI k).toInt) % 4294967296 := by
    rw [Int32.toInt_sub]
    exact Int.bmod_emod
  have e4 : ((x - x / nI k * nI k) + nI k).toInt % 4294967296 = ((x - x / nI k * nI k).toInt + (k : Int)) % 4294967296 := by
    rw [Int32.toInt_add, ek]
    exact Int.bmod_emod
  rw [h] at e4
  have e0 : (0 : Int32).toInt = 0 := by decide
  rw [e0] at e4
  have f1 : (x.toInt.tmod (k : Int)).natAbs < k := by
    rw [Int.natAbs_tmod]
    exact Nat.mod_lt _ (by show 0 < Int.natAbs (k : Int); omega)
  have f2 := Int.tmod_add_mul_tdiv x.toInt (k : Int)
  rw [Int.mul_comm] at f2
  generalize x.toInt.tdiv (k : Int) * (k : Int) = t at *
  omega
theorem irem_k {x : Int32} {k : Nat} (hk : 2 ≤ k ∧ k ≤ 20) : irem x (nI k) = some (x - x / nI k * nI k) := by
  unfold irem
  rw [if_neg (nI_ne0 (by omega) (by omega))]
theorem fm_0 {h : XM} {x : Int32} {k : Nat} (hk : 2 ≤ k ∧ k ≤ 20) : ∃ v, f_J9_floorMod h x (nI k) = some (v, h) ∧ (v = 0 ↔ whB x k = true) := by
  have hw : whB x k = true ↔ x - x / nI k * nI k = 0 := decide_eq_true_iff
  rw [hw]
  unfold f_J9_floorMod
  rw [irem_k hk, Option.bind_some]
  have hne := rem_ne (x := x) hk
  generalize x - x / nI k * nI k = r at hne ⊢
  by_cases c : (x ^^^ nI k) < 0
  · rw [if_pos c]
    by_cases z : r = 0
    · rw [if_pos z]
      exact ⟨r, rfl, Iff.rfl⟩
    · rw [if_neg z]
      exact ⟨r + nI k, rfl, fun y => absurd y hne, fun y => absurd y z⟩
  · rw [if_neg c]
    exact ⟨r, rfl, Iff.rfl⟩
theorem M_whole {h : XM} {x : Int32} {k : Nat} (hk : 2 ≤ k ∧ k ≤ 20) : f_X9_isWhole h x (nI k) = some (if whB x k = true then 1 else 0, h) := by
  have hw : whB x k = true ↔ x - x / nI k * nI k = 0 := decide_eq_true_iff
  unfold f_X9_isWhole
  rw [irem_k hk, Option.bind_some]
  by_cases z : x - x / nI k * nI k = 0
  · rw [if_pos z, if_pos (hw.2 z)]
    rfl
  · rw [if_neg z, if_neg (fun y => z (hw.1 y))]
    rfl
def soS (cl : Nat → Int32) (k : Nat) : Nat → Nat → Int32 → Bool
  | 0, _, _ => true
  | r + 1, j, x => if whB (x + cl (2 * j)) k = decide (cl (2 * j + 1) = 1) then soS cl k r (j + 1) (x + cl (2 * j)) else false
def smS (cl : Nat → Int32) : Nat → Nat → Int32 → Int32
  | 0, _, x => x
  | r + 1, j, x => smS cl r (j + 1) (x + cl (2 * j))
theorem C_so {S : SK} {m : Nat → Nat → Int32} {s n k : Nat} (hS : SkOK S) (hs : s < 4) (hn : n ≤ 20) (h2 : m (38 + 2 * s) 2 = nI (2 * n)) (hk : 2 ≤ k ∧ k ≤ 20) : ∀ (r f j : Nat) (x : Int32), j + r = n → r < f → f_X4_isSoBy_5 f (mk S m) (some (38 + 2 * s)) (nI k) x (nI (2 * j)) = some (if soS (m (39 + 2 * s)) k r j x = true then 1 else 0, mk S m) := by
  obtain ⟨b1, b2, b3, b4⟩ := shS hS s hs
  have hk4 : (sh S (38 + 2 * s)).1 = 4 := by rw [b1]
  intro r
  induction r with
  | zero =>
    intro f j x hj hf
    obtain ⟨f, rfl⟩ : ∃ k, f = k + 1 := ⟨f - 1, by omega⟩
    show fb_X4_isSoBy_5 (f_X4_isSoBy_5 f) (mk S m) (some (38 + 2 * s)) (nI k) x (nI (2 * j)) = _
    unfold fb_X4_isSoBy_5
    rw [gI_k hk4, h2, Option.bind_some, show nI (2 * j) + (1 : Int32) = nI (2 * j + 1) from nI_add _ 1, if_neg (nI_nlt (by omega) (by omega))]
    rfl
  | succ r ih =>
    intro f j x hj hf
    obtain ⟨f, rfl⟩ : ∃ k, f = k + 1 := ⟨f - 1, by omega⟩
    have nx := ih f (j + 1) (x + m (39 + 2 * s) (2 * j)) (by omega) (by omega)
    show fb_X4_isSoBy_5 (f_X4_isSoBy_5 f) (mk S m) (some (38 + 2 * s)) (nI k) x (nI (2 * j)) = _
    unfold fb_X4_isSoBy_5
    rw [gI_k hk4, h2, Option.bind_some, show nI (2 * j) + (1 : Int32) = nI (2 * j + 1) from nI_add _ 1, if_pos (nI_lt (by omega) (by omega)), gR_k hk4, b3, Option.bind_some, rI_n b2 (by omega) (by decide), Option.bind_some, bnd_eq]
    obtain ⟨v, ev, hv⟩ := fm_0 (h := mk S m) (x := x + m (39 + 2 * s) (2 * j)) hk
    rw [ev, Option.bind_some]
    have e39 : ∀ b : Int32, f_X4_isSoBy_39 (f_X4_isSoBy_5 f) (mk S m) (some (38 + 2 * s)) (nI k) (x + m (39 + 2 * s) (2 * j)) (nI (2 * j)) b = if b = (if m (39 + 2 * s) (2 * j + 1) = 1 then 1 else 0) then f_X4_isSoBy_5 f (mk S m) (some (38 + 2 * s)) (nI k) (x + m (39 + 2 * s) (2 * j)) (nI (2 * (j + 1))) else some (0, mk S m) := fun b => by
      unfold f_X4_isSoBy_39
      rw [gR_k hk4, b3, Option.bind_some, show nI (2 * j) + (1 : Int32) = nI (2 * j + 1) from nI_add _ 1, rI_n b2 (by omega) (by decide), Option.bind_some]
      have e61 : ∀ a : Int32, f_X4_isSoBy_61 (f_X4_isSoBy_5 f) (mk S m) (some (38 + 2 * s)) (nI k) (x + m (39 + 2 * s) (2 * j)) (nI (2 * j)) a b = if b = a then f_X4_isSoBy_5 f (mk S m) (some (38 + 2 * s)) (nI k) (x + m (39 + 2 * s) (2 * j)) (nI (2 * (j + 1))) else some (0, mk S m) := fun a => by
        unfold f_X4_isSoBy_61
        rw [bnd_eq, show nI (2 * j) + (2 : Int32) = nI (2 * (j + 1)) from nI_add _ 2]
        rfl
      by_cases c : m (39 + 2 * s) (2 * j + 1) = 1
      · rw [if_pos c, if_pos c, e61]
      · rw [if_neg c, if_neg c, e61]
    have es : soS (m (39 + 2 * s)) k (r + 1) j x = if whB (x + m (39 + 2 * s) (2 * j)) k = decide (m (39 + 2 * s) (2 * j + 1) = 1) then soS (m (39 + 2 * s)) k r (j + 1) (x + m (39 + 2 * s) (2 * j)) else false := rfl
    rw [es, e39, e39, nx]
    by_cases c : m (39 + 2 * s) (2 * j + 1) = 1
    · rw [if_pos c, decide_eq_true c]
      by_cases w : whB (x + m (39 + 2 * s) (2 * j)) k = true
      · rw [if_pos (hv.2 w), if_pos rfl, if_pos w]
      · rw [if_neg (fun y => w (hv.1 y)), if_neg (by decide), if_neg w]
        rfl
    · rw [if_neg c, decide_eq_false c]
      by_cases w : whB (x + m (39 + 2 * s) (2 * j)) k = true
      · rw [if_pos (hv.2 w), if_neg (by decide), w, if_neg (show ¬ true = false by decide)]
        rfl
      · have w' : whB (x + m (39 + 2 * s) (2 * j)) k = false := by simpa using w
        rw [if_neg (fun y => w (hv.1 y)), if_pos rfl, w', if_pos (show false = false from rfl)]
theorem C_nums {S : SK} {m : Nat → Nat → Int32} {s n : Nat} {x : Int32} (hS : SkOK S) (hs : s < 4) (hn : n ≤ 20) (h2 : m (38 + 2 * s) 2 = nI (2 * n)) : ∀ (r f i a : Nat), i + r = 21 → 2 ≤ i → r < f → f_X4_numbersBy_4 f (mk S m) (some (38 + 2 * s)) x (nI a) (nI i) = some (nI (ksS (fun k => soS (m (39 + 2 * s)) k n 0 x) r i a), mk S m) := by
  obtain ⟨b1, b2, b3, b4⟩ := shS hS s hs
  have hk4 : (sh S (38 + 2 * s)).1 = 4 := by rw [b1]
  intro r
  induction r with
  | zero =>
    intro f i a hi hi2 hf
    obtain ⟨f, rfl⟩ : ∃ k, f = k + 1 := ⟨f - 1, by omega⟩
    have hi : i = 21 := by omega
    subst hi
    rfl
  | succ r ih =>
    intro f i a hi hi2 hf
    obtain ⟨f, rfl⟩ : ∃ k, f = k + 1 := ⟨f - 1, by omega⟩
    have e0 := C_so (m := m) hS hs hn h2 (show 2 ≤ i ∧ i ≤ 20 by omega) n FU 0 x (by omega) (by unfold FU; omega)
    have e0' : f_X4_isSoBy (mk S m) (some (38 + 2 * s)) (nI i) x = some (if soS (m (39 + 2 * s)) i n 0 x = true then 1 else 0, mk S m) := e0
    have e25 : ∀ a, f_X4_numbersBy_25 (f_X4_numbersBy_4 f) (mk S m) (some (38 + 2 * s)) x (nI a) (nI i) = f_X4_numbersBy_4 f (mk S m) (some (38 + 2 * s)) x (nI a) (nI (i + 1)) := fun a => by
      unfold f_X4_numbersBy_25
      rw [bnd_eq, show nI i + (1 : Int32) = nI (i + 1) from nI_add i 1]
    show fb_X4_numbersBy_4 (f_X4_numbersBy_4 f) (mk S m) (some (38 + 2 * s)) x (nI a) (nI i) = some (nI (ksS (fun k => soS (m (39 + 2 * s)) k n 0 x) r (i + 1) (if soS (m (39 + 2 * s)) i n 0 x = true then a ||| 2 ^ i else a)), mk S m)
    unfold fb_X4_numbersBy_4
    rw [if_neg (nlt20 (by omega)), vc_k hk4, e0', Option.bind_some]
    by_cases z : soS (m (39 + 2 * s)) i n 0 x = true
    · rw [if_pos z, if_pos z, if_neg (show ¬ (1 : Int32) = 0 by decide), bnd_eq, show (1 : Int32) <<< (nI i &&& 31) = nI (2 ^ i) from shl1 (by omega), fa_or, e25]
      exact ih f (i + 1) _ (by omega) (by omega) (by omega)
    · rw [if_neg z, if_neg z, if_pos rfl, e25]
      exact ih f (i + 1) _ (by omega) (by omega) (by omega)
theorem M_forIn {S : SK} (hS : SkOK S) {s n k a : Nat} {st : Int32} {cl : Nat → Int32} {K : XM → Option Nat → Int32 → Int32 → Int32 → Int32 → Option (Int32 × XM)} (hs : s < 4) (hn : n ≤ 20) (hk : 2 ≤ k ∧ k ≤ 20) : ∀ (r f j : Nat) (m : Nat → Nat → Int32) (x : Int32) (b : Bool), j + r = n → r < f → m 50 48 = x → m 61 s = nI (2 * n) → (∀ t, t < 40 → m 62 (40 * s + t) = cl t) →
    ∃ m2, f_X9_numbersFor_23 K f (mk S m) (some 50) (nI s) st (nI a) (nI k) (if b = true then 1 else 0) (nI j) = K (mk S m2) (some 50) (nI s) st (nI (if (b && soS cl k r j x) = true then a ||| 2 ^ k else a)) (nI (k + 1)) ∧ m2 50 48 = smS cl r j x ∧ AgM (fun _ => False) (fun j => j = 48) m m2 := by
  have hk9 : (sh S 50).1 = 9 := by rw [sk50 hS]
  intro r
  induction r with
  | zero =>
    intro f j m x b hj hf hx h61 hcl
    obtain ⟨f, rfl⟩ : ∃ k, f = k + 1 := ⟨f - 1, by omega⟩
    refine ⟨m, ?_, hx, AgM.of (Ag.rf (Z := fun _ => False)) id⟩
    show fb_X9_numbersFor_23 K (f_X9_numbersFor_23 K f) (mk S m) (some 50) (nI s) st (nI a) (nI k) (if b = true then 1 else 0) (nI j) = _
    unfold fb_X9_numbersFor_23
    rw [gR_k hk9, rk50_21 hS, Option.bind_some, rI_n (sk61 hS) hs (by decide), h61, Option.bind_some, show idiv (nI (2 * n)) ((2 : Int32)) = some (nI (2 * n / 2)) from idiv_n (d := 2) (by omega) (by decide) (by decide), show 2 * n / 2 = n by omega, Option.bind_some, if_neg (nI_nlt (by omega) (by omega))]
    have e128 : ∀ c : Nat, f_X9_numbersFor_128 K (mk S m) (some 50) (nI s) st (nI k) (nI c) (nI a) = K (mk S m) (some 50) (nI s) st (nI (a ||| c)) (nI (k + 1)) := fun c => by
      unfold f_X9_numbersFor_128
      rw [bnd_eq, bnd_eq, fa_or, show nI k + (1 : Int32) = nI (k + 1) from nI_add k 1]
    cases b with
    | false =>
      rw [if_pos (show (if false = true then (1 : Int32) else 0) = 0 from rfl)]
      have := e128 0
      rw [Nat.or_zero] at this
      exact this
    | true =>
      rw [if_neg (by decide), show (1 : Int32) <<< (nI k &&& 31) = nI (2 ^ k) from shl1 (by omega), e128]
      rfl
  | succ r ih =>
    intro f j m x b hj hf hx h61 hcl
    obtain ⟨f, rfl⟩ : ∃ k, f = k + 1 := ⟨f - 1, by omega⟩
    have c1 := hcl (2 * j) (by omega)
    have c2 := hcl (2 * j + 1) (by omega)
    have nx := fun b => ih f (j + 1) (w2 m 50 48 (x + cl (2 * j))) (x + cl (2 * j)) b (by omega) (by omega) (by rw [w2_ap, if_pos ⟨rfl, rfl⟩]) (by rw [w2_ne (by decide), h61]) (fun t ht => by rw [w2_ne (by decide)]; exact hcl t ht)
    have ag0 : AgM (fun _ => False) (fun j => j = 48) m (w2 m 50 48 (x + cl (2 * j))) := AgM.w50 AgM.rf rfl
    have e106 : ∀ (m' : Nat → Nat → Int32) (v : Int32), f_X9_numbersFor_106 K (f_X9_numbersFor_23 K f) (mk S m') (some 50) (nI s) st (nI a) (nI k) (nI j) v = f_X9_numbersFor_23 K f (mk S m') (some 50) (nI s) st (nI a) (nI k) v (nI (j + 1)) := fun m' v => by
      unfold f_X9_numbersFor_106
      rw [bnd_eq, show nI j + (1 : Int32) = nI (j + 1) from nI_add j 1]
    have es : soS cl k (r + 1) j x = if whB (x + cl (2 * j)) k = decide (cl (2 * j + 1) = 1) then soS cl k r (j + 1) (x + cl (2 * j)) else false := rfl
    have em : smS cl (r + 1) j x = smS cl r (j + 1) (x + cl (2 * j)) := rfl
    rw [es, em]
    have step : f_X9_numbersFor_23 K (f + 1) (mk S m) (some 50) (nI s) st (nI a) (nI k) (if b = true then 1 else 0) (nI j) = f_X9_numbersFor_23 K f (mk S (w2 m 50 48 (x + cl (2 * j)))) (some 50) (nI s) st (nI a) (nI k) (if (b && decide (whB (x + cl (2 * j)) k = decide (cl (2 * j + 1) = 1))) = true then 1 else 0) (nI (j + 1)) := by
      show fb_X9_numbersFor_23 K (f_X9_numbersFor_23 K f) (mk S m) (some 50) (nI s) st (nI a) (nI k) (if b = true then 1 else 0) (nI j) = _
      unfold fb_X9_numbersFor_23
      rw [gR_k hk9, rk50_21 hS, Option.bind_some, rI_n (sk61 hS) hs (by decide), h61, Option.bind_some, show idiv (nI (2 * n)) ((2 : Int32)) = some (nI (2 * n / 2)) from idiv_n (d := 2) (by omega) (by decide) (by decide), show 2 * n / 2 = n by omega, Option.bind_some, if_pos (nI_lt (by omega) (by omega)), gI_k hk9, hx, Option.bind_some, gR_k hk9, rk50_22 hS, Option.bind_some, show (40 : Int32) * nI s = nI (40 * s) from pk_mul 40 s, show (2 : Int32) * nI j = nI (2 * j) from pk_mul 2 j, nI_add, rI_n (sk62 hS) (by omega) (by decide), c1, Option.bind_some, pI_k hk9, Option.bind_some]
      cases b with
      | false =>
        rw [if_pos (show (if false = true then (1 : Int32) else 0) = 0 from rfl)]
        unfold f_X9_numbersFor_105
        rw [e106]
        rfl
      | true =>
        rw [if_neg (by decide), gI_k hk9, w2_ap, if_pos ⟨rfl, rfl⟩, Option.bind_some, M_whole hk, Option.bind_some, gR_k hk9, rk50_22 hS, Option.bind_some, show nI (40 * s + 2 * j) + (1 : Int32) = nI (40 * s + (2 * j + 1)) from nI_add _ 1, rI_n (sk62 hS) (by omega) (by decide), w2_ne (by decide), c2, Option.bind_some]
        unfold f_X9_numbersFor_98 f_X9_numbersFor_105
        rw [e106, e106]
        by_cases c : cl (2 * j + 1) = 1
        · rw [if_pos c, decide_eq_true c]
          by_cases w : whB (x + cl (2 * j)) k = true
          · rw [w, if_pos rfl]
            rfl
          · have w' : whB (x + cl (2 * j)) k = false := by simpa using w
            rw [w', if_neg (show ¬ (if false = true then (1 : Int32) else 0) = 1 by decide)]
            rfl
        · rw [if_neg c, decide_eq_false c]
          by_cases w : whB (x + cl (2 * j)) k = true
          · rw [w, if_neg (show ¬ (if true = true then (1 : Int32) else 0) = 0 by decide)]
            rfl
          · have w' : whB (x + cl (2 * j)) k = false := by simpa using w
            rw [w', if_pos (show (if false = true then (1 : Int32) else 0) = 0 from rfl)]
            rfl
    rw [step]
    obtain ⟨m2, e2, hx2, ag2⟩ := nx (b && decide (whB (x + cl (2 * j)) k = decide (cl (2 * j + 1) = 1)))
    refine ⟨m2, ?_, hx2, ag0.tr ag2⟩
    rw [e2]
    by_cases w : whB (x + cl (2 * j)) k = decide (cl (2 * j + 1) = 1)
    · rw [if_pos w, decide_eq_true w, Bool.and_true]
    · rw [if_neg w, decide_eq_false w, Bool.and_false, Bool.false_and]
theorem M_nums {s n : Nat} {cl : Nat → Int32} {st : Int32} {S : SK} (hS : SkOK S) (hs : s < 4) (hn : n ≤ 20) : ∀ (r f i a : Nat) (m : Nat → Nat → Int32), i + r = 21 → 2 ≤ i → r < f → m 61 s = nI (2 * n) → (∀ t, t < 40 → m 62 (40 * s + t) = cl t) →
    ∃ m2, f_X9_numbersFor_5 f (mk S m) (some 50) (nI s) st (nI a) (nI i) = some (nI (ksS (fun k => soS cl k n 0 st) r i a), mk S m2) ∧ (0 < r → m2 50 48 = smS cl n 0 st) ∧ AgM (fun _ => False) (fun j => j = 48) m m2 := by
  have hk9 : (sh S 50).1 = 9 := by rw [sk50 hS]
  intro r
  induction r with
  | zero =>
    intro f i a m hi hi2 hf h61 hcl
    obtain ⟨f, rfl⟩ : ∃ k, f = k + 1 := ⟨f - 1, by omega⟩
    have hi : i = 21 := by omega
    subst hi
    exact ⟨m, rfl, fun h => by omega, AgM.of (Ag.rf (Z := fun _ => False)) id⟩
  | succ r ih =>
    intro f i a m hi hi2 hf h61 hcl
    obtain ⟨f, rfl⟩ : ∃ k, f = k + 1 := ⟨f - 1, by omega⟩
    have ag0 : AgM (fun _ => False) (fun j => j = 48) m (w2 m 50 48 st) := AgM.w50 AgM.rf rfl
    obtain ⟨m1, e1, x1, ag1⟩ := M_forIn hS (cl := cl) (K := f_X9_numbersFor_5 f) (a := a) (st := st) hs hn (show 2 ≤ i ∧ i ≤ 20 by omega) n FU 0 (w2 m 50 48 st) st true (by omega) (by unfold FU; omega) (by rw [w2_ap, if_pos ⟨rfl, rfl⟩]) (by rw [w2_ne (by decide), h61]) (fun t ht => by rw [w2_ne (by decide)]; exact hcl t ht)
    have ag01 := ag0.tr ag1
    obtain ⟨m2, e2, x2, ag2⟩ := ih f (i + 1) (if soS cl i n 0 st = true then a ||| 2 ^ i else a) m1 (by omega) (by omega) (by omega) (by rw [ag01.1 61 (by decide) id, h61]) (fun t ht => by rw [ag01.1 62 (by decide) id]; exact hcl t ht)
    refine ⟨m2, ?_, fun _ => ?_, ag01.tr ag2⟩
    · show fb_X9_numbersFor_5 (f_X9_numbersFor_5 f) (mk S m) (some 50) (nI s) st (nI a) (nI i) = some (nI (ksS (fun k => soS cl k n 0 st) r (i + 1) (if soS cl i n 0 st = true then a ||| 2 ^ i else a)), mk S m2)
      unfold fb_X9_numbersFor_5
      rw [if_neg (nlt20 (by omega)), pI_k hk9, Option.bind_some]
      have e1' : f_X9_numbersFor_23 (f_X9_numbersFor_5 f) FU (mk S (w2 m 50 48 st)) (some 50) (nI s) st (nI a) (nI i) ((1 : Int32)) ((0 : Int32)) = _ := e1
      rw [e1', Bool.true_and]
      exact e2
    · cases r with
      | zero =>
        have : f_X9_numbersFor_5 f (mk S m1) (some 50) (nI s) st (nI (if soS cl i n 0 st = true then a ||| 2 ^ i else a)) (nI (i + 1)) = _ := e2
        have hi : i + 1 = 21 := by omega
        rw [hi] at this
        obtain ⟨f, rfl⟩ : ∃ k, f = k + 1 := ⟨f - 1, by omega⟩
        have e3 : f_X9_numbersFor_5 (f + 1) (mk S m1) (some 50) (nI s) st (nI (if soS cl i n 0 st = true then a ||| 2 ^ i else a)) (nI 21) = some (nI (if soS cl i n 0 st = true then a ||| 2 ^ i else a), mk S m1) := rfl
        rw [e3] at this
        have h5 := congrArg (fun o => o.elim (0 : Int32) (fun p => xi p.2 50 48)) this
        have h6 : m1 50 48 = m2 50 48 := h5
        rw [← h6]
        exact x1
      | succ r => exact x2 (by omega)
theorem C_start {S : SK} {m : Nat → Nat → Int32} (hS : SkOK S) (hSh : RSh m) (x y : Int32) : (∃ r : Int32, ¬ r = 0 ∧ f_X8_refusedStart (mk S m) (some 0) x y = some (r, mk S m) ∧ ∀ (L : Nat → Nat → Int64) (m' : Nat → Nat → Int32), m' 60 = m 60 → m' 61 = m 61 → (f_X9_sheetWrong (mk (sLg S L) m') (some 50) x = some (r, mk (sLg S L) m') ∨ (f_X9_sheetWrong (mk (sLg S L) m') (some 50) x = some (0, mk (sLg S L) m') ∧ r = -7 ∧ f_X9_in (mk (sLg S L) m') y ((0 : Int32)) ((9999 : Int32)) = some (0, mk (sLg S L) m')))) ∨ (∃ s n, s < 4 ∧ x = nI s ∧ n ≤ 20 ∧ m (38 + 2 * s) 2 = nI (2 * n) ∧ f_X8_refusedStart (mk S m) (some 0) x y = some (0, mk S m) ∧ ∀ (L : Nat → Nat → Int64) (m' : Nat → Nat → Int32), m' 60 = m 60 → m' 61 = m 61 → f_X9_sheetWrong (mk (sLg S L) m') (some 50) x = some (0, mk (sLg S L) m') ∧ f_X9_in (mk (sLg S L) m') y ((0 : Int32)) ((9999 : Int32)) = some (1, mk (sLg S L) m')) := by
  have hk8 : (sh S 0).1 = 8 := by rw [sk0 hS]
  rcases rows_cases hS hSh x with ⟨r, hr, h1, h2⟩ | ⟨s, n, hs, rfl, hn, hz, h1, h2⟩
  · refine Or.inl ⟨r, hr, ?_, fun L m' e1 e2 => Or.inl (h2 L m' e1 e2)⟩
    unfold f_X8_refusedStart
    rw [vc_k hk8, h1, Option.bind_some, if_neg hr]
  · rcases i_rng y (B := 9999) (by decide) with ⟨k, hk, rfl⟩ | hbad
    · refine Or.inr ⟨s, n, hs, rfl, hn, hz, ?_, fun L m' e1 e2 => ⟨h2 L m' e1 e2, ?_⟩⟩
      · unfold f_X8_refusedStart
        rw [vc_k hk8, h1, Option.bind_some, if_pos rfl, ifr_y (b := 9999) (B := 9999) rfl hk (by decide)]
        rfl
      · rw [X9_in, ifr_y (b := 9999) (B := 9999) rfl hk (by decide)]
    · refine Or.inl ⟨-7, by decide, ?_, fun L m' e1 e2 => Or.inr ⟨h2 L m' e1 e2, rfl, ?_⟩⟩
      · unfold f_X8_refusedStart
        rw [vc_k hk8, h1, Option.bind_some, if_pos rfl, ifr_n (b := 9999) (B := 9999) rfl hbad]
        rfl
      · rw [X9_in, ifr_n (b := 9999) (B := 9999) rfl hbad]
theorem op_which {S : SK} {m : Nat → Nat → Int32} (hR : RR S m) (x y : Int32) : RES (f_X8_which (mk S m) (some 0) x y) (fun S1 m1 => f_X9_which (mk S1 m1) (some 50) x y) := by
  have hR0 := hR
  have hS := hR.ok
  have hk8 : (sh S 0).1 = 8 := by rw [sk0 hS]
  have hk1 : (sh S 3).1 = 1 := by rw [sk3 hS]
  have hk : (sh S 50).1 = 9 := by rw [sk50 hS]
  obtain ⟨d, P, N, l, T, wh, kd, td, mo, prs, q, h⟩ := hR
  obtain ⟨hl, ⟨g1, g2, g3⟩, hO⟩ := h
  rcases C_start hS hO.2.2.1 x y with ⟨r, hr, h1, h2⟩ | ⟨s, n, hs, rfl, hn, hz, h1, h2⟩
  · refine op_same (a := r) hR0 ?_ ?_
    · unfold f_X8_which
      rw [vc_k hk8, h1, Option.bind_some, if_neg hr]
      rfl
    · show f_X9_which (mk S m) (some 50) x y = _
      unfold f_X9_which
      rcases h2 (lg S) m rfl rfl with u | ⟨u, rfl, v⟩
      · have u' : f_X9_sheetWrong (mk S m) (some 50) x = _ := u
        rw [vc_k hk, u', Option.bind_some, if_neg hr]
        rfl
      · have u' : f_X9_sheetWrong (mk S m) (some 50) x = _ := u
        have v' : f_X9_in (mk S m) y ((0 : Int32)) ((9999 : Int32)) = _ := v
        rw [vc_k hk, u', Option.bind_some, if_pos rfl]
        show (f_X9_in (mk S m) y ((0 : Int32)) ((9999 : Int32))).bind _ = _
        rw [v', Option.bind_some, if_pos rfl]
        rfl
  · obtain ⟨b1, b2, b3, b4⟩ := shS hS s hs
    have hk4 : (sh S (38 + 2 * s)).1 = 4 := by rw [b1]
    obtain ⟨q1, q2, q3, _⟩ := hO.2.2.1 s hs
    have e1 := C_nums (m := m) (x := y) hS hs hn hz 19 FU 2 0 (by omega) (by omega) (by unfold FU; omega)
    obtain ⟨m2, e2, _, ag2⟩ := M_nums hS (cl := m (39 + 2 * s)) (st := y) hs hn 19 FU 2 0 m (by omega) (by omega) (by unfold FU; omega) (by rw [q2]; exact hz) q3
    have hM2 : MV S m2 (mkE d P N wh kd td mo (prs l)) l q := g2.ag ag2 (fun _ _ => id) (fun j hj => by omega)
    refine op_mk (a := nI (ksS (fun k => soS (m (39 + 2 * s)) k n 0 y) 19 2 0)) (S1 := S) (m1 := m) (S2 := S) (m2 := m2) ?_ ?_ ⟨d, P, N, l, T, wh, kd, td, mo, prs, q, RP.q (L := lg S) ⟨hl, ⟨g1, g2, g3⟩, hO⟩ Ag.rf (ag2.mono (fun _ z => z.elim) (fun j hj => by unfold JM; omega)) hM2 ?_⟩
    · unfold f_X8_which
      rw [vc_k hk8, h1, Option.bind_some, if_pos rfl, r0_8 hS, Option.bind_some, rR37 hS hs, Option.bind_some, vc_k hk4]
      have e1' : f_X4_numbersBy (mk S m) (some (38 + 2 * s)) y = _ := e1
      rw [e1', Option.bind_some]
      rfl
    · show f_X9_which (mk S m) (some 50) (nI s) y = _
      unfold f_X9_which
      obtain ⟨u, v⟩ := h2 (lg S) m rfl rfl
      have u' : f_X9_sheetWrong (mk S m) (some 50) (nI s) = some (0, mk S m) := u
      have v' : f_X9_in (mk S m) y ((0 : Int32)) ((9999 : Int32)) = some (1, mk S m) := v
      rw [vc_k hk, u', Option.bind_some, if_pos rfl]
      show (f_X9_in (mk S m) y ((0 : Int32)) ((9999 : Int32))).bind _ = _
      rw [v', Option.bind_some, if_neg (show ¬ (1 : Int32) = 0 by decide), vc_k hk]
      have e2' : f_X9_numbersFor (mk S m) (some 50) (nI s) y = _ := e2
      rw [e2', Option.bind_some]
      rfl
    · rw [ag2.2 37 (by decide)]
      exact g3
