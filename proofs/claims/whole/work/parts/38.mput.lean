/-! PURE: the model in a morning; its told answers -/
def sLg (S : SK) (L : Nat → Nat → Int64) : SK := (S.1, S.2.1, L, S.2.2.2)
theorem sLg_ok {S : SK} {L : Nat → Nat → Int64} (h : SkOK S) : SkOK (sLg S L) := h
theorem sLg_id (S : SK) : sLg S (lg S) = S := rfl
def kyS (p a v w n u : Nat) : Nat := ((((p * 10000 + a) * 1000 + v) * 100 + w) * 10 + n) * 10 + u
def kyR (p a v w n u : Nat) : Prop := p < 3 ∧ a ≤ 9999 ∧ v < 1000 ∧ w < 100 ∧ n < 10 ∧ u < 10
theorem ky_lt {p a v w n u : Nat} (h : kyR p a v w n u) : kyS p a v w n u < 300000000000 := by
  unfold kyR at h
  unfold kyS
  omega
theorem ky_inj {p a v w n u p2 a2 v2 w2 n2 u2 : Nat} (h : kyR p a v w n u) (h2 : kyR p2 a2 v2 w2 n2 u2) (e : kyS p a v w n u = kyS p2 a2 v2 w2 n2 u2) : p = p2 ∧ a = a2 ∧ v = v2 ∧ w = w2 ∧ n = n2 ∧ u = u2 := by
  unfold kyR at h h2
  unfold kyS at e
  refine ⟨?_, ?_, ?_, ?_, ?_, ?_⟩ <;> omega
def KC (S : SK) (m : Nat → Nat → Int32) (E : EN) : Prop := m 50 37 = nI 0 ∨ (m 50 37 = nI 1 ∧ ∀ i, i < 4096 → lg S 68 i = -1 ∨ ∃ p a v w n u, kyR p a v w n u ∧ lg S 68 i = lN (kyS p a v w n u) ∧ m 69 i = lawS E p a v w n u)
def MG (m : Nat → Nat → Int32) (E : EN) (l : Nat) (q : QS) : Prop := m 50 0 = nI (eD E) ∧ m 50 1 = nI q.1 ∧ m 50 2 = nI q.2.1 ∧ m 50 3 = nI (eP E) ∧ m 50 4 = nI q.2.2.1 ∧ m 50 5 = nI (eN E) ∧ m 50 10 = nI q.2.2.2 ∧ m 50 16 = nI l ∧ (∀ c, c < eN E → m 51 c = nI (eW E c) ∧ m 52 c = nI (eK E c) ∧ m 53 c = nI (eT E c) ∧ m 54 c = nI (eM E c)) ∧ ∃ fr, TxM m l (eL E) fr
def MV (S : SK) (m : Nat → Nat → Int32) (E : EN) (l : Nat) (q : QS) : Prop := SkOK S ∧ EOK E ∧ l < 6 ∧ MG m E l q ∧ QOK E q ∧ KC S m E
def AgM (Z J : Nat → Prop) (m m2 : Nat → Nat → Int32) : Prop := (∀ a, a ≠ 50 → ¬ Z a → m2 a = m a) ∧ ∀ j, ¬ J j → m2 50 j = m 50 j
theorem AgM.rf {Z J : Nat → Prop} {m : Nat → Nat → Int32} : AgM Z J m m := ⟨fun _ _ _ => rfl, fun _ _ => rfl⟩
theorem AgM.tr {Z J : Nat → Prop} {m m2 m3 : Nat → Nat → Int32} (h : AgM Z J m m2) (h2 : AgM Z J m2 m3) : AgM Z J m m3 := ⟨fun a ha hz => (h2.1 a ha hz).trans (h.1 a ha hz), fun j hj => (h2.2 j hj).trans (h.2 j hj)⟩
theorem AgM.mono {Z J Z2 J2 : Nat → Prop} {m m2 : Nat → Nat → Int32} (h : AgM Z J m m2) (hz : ∀ a, Z a → Z2 a) (hj : ∀ a, J a → J2 a) : AgM Z2 J2 m m2 := ⟨fun a ha hz2 => h.1 a ha (fun q => hz2 (hz a q)), fun j hj2 => h.2 j (fun q => hj2 (hj j q))⟩
theorem AgM.w50 {Z J : Nat → Prop} {m m2 : Nat → Nat → Int32} {j : Nat} {v : Int32} (h : AgM Z J m m2) (hj : J j) : AgM Z J m (w2 m2 50 j v) := ⟨fun b hb hz => by
  rw [w2_ne hb]
  exact h.1 b hb hz, fun k hk => by
  rw [w2_ap, if_neg (fun z => hk (by rw [z.2]; exact hj))]
  exact h.2 k hk⟩
theorem AgM.w {Z J : Nat → Prop} {m m2 : Nat → Nat → Int32} {a j : Nat} {v : Int32} (h : AgM Z J m m2) (h5 : a ≠ 50) (ha : Z a) : AgM Z J m (w2 m2 a j v) := ⟨fun b hb hz => by
  rw [w2_ne (fun e => hz (by rw [e]; exact ha))]
  exact h.1 b hb hz, fun k hk => by
  rw [w2_ap, if_neg (fun z => h5 z.1.symm)]
  exact h.2 k hk⟩
theorem AgM.of {Z J : Nat → Prop} {m m2 : Nat → Nat → Int32} (h : Ag Z m m2) (h5 : ¬ Z 50) : AgM Z J m m2 := ⟨fun a _ hz => h a hz, fun j _ => by rw [h 50 h5]⟩
def ZA (b : Nat) : Prop := b = 66 ∨ b = 67 ∨ b = 69
def JQ (j : Nat) : Prop := j = 1 ∨ j = 2 ∨ j = 4 ∨ j = 10
def J0 (_ : Nat) : Prop := False
theorem MV.set {S : SK} {m m2 : Nat → Nat → Int32} {E : EN} {l : Nat} {q r : QS} {Z J : Nat → Prop} (h : MV S m E l q) (hq : QOK E r) (ha : AgM Z J m m2) (hz : ∀ b, (51 ≤ b ∧ b ≤ 57) ∨ b = 69 → ¬ Z b) (hj : ∀ j, j = 0 ∨ j = 3 ∨ j = 5 ∨ j = 16 ∨ j = 37 → ¬ J j) (h1 : m2 50 1 = nI r.1) (h2 : m2 50 2 = nI r.2.1) (h4 : m2 50 4 = nI r.2.2.1) (h10 : m2 50 10 = nI r.2.2.2) : MV S m2 E l r := by
  obtain ⟨hS, hE, hl, ⟨d0, d1, d2, d3, d4, d5, d10, d16, ha', fr, hx⟩, hq0, hK⟩ := h
  have e := fun b (hb : (51 ≤ b ∧ b ≤ 57) ∨ b = 69) => ha.1 b (by omega) (hz b hb)
  refine ⟨hS, hE, hl, ⟨?_, h1, h2, ?_, h4, ?_, h10, ?_, ?_, fr, hx.ag (e 56 (by decide)) (e 57 (by decide))⟩, hq, ?_⟩
  · rw [ha.2 0 (hj 0 (by decide))]; exact d0
  · rw [ha.2 3 (hj 3 (by decide))]; exact d3
  · rw [ha.2 5 (hj 5 (by decide))]; exact d5
  · rw [ha.2 16 (hj 16 (by decide))]; exact d16
  · intro c hc
    rw [e 51 (by decide), e 52 (by decide), e 53 (by decide), e 54 (by decide)]
    exact ha' c hc
  · unfold KC at hK ⊢
    rw [ha.2 37 (hj 37 (by decide)), e 69 (by decide)]
    exact hK
theorem MV.ag {S : SK} {m m2 : Nat → Nat → Int32} {E : EN} {l : Nat} {q : QS} {Z J : Nat → Prop} (h : MV S m E l q) (ha : AgM Z J m m2) (hz : ∀ b, (51 ≤ b ∧ b ≤ 57) ∨ b = 69 → ¬ Z b) (hj : ∀ j, j = 0 ∨ j = 3 ∨ j = 5 ∨ j = 16 ∨ j = 37 ∨ j = 1 ∨ j = 2 ∨ j = 4 ∨ j = 10 → ¬ J j) : MV S m2 E l q := by
  have g := h.2.2.2.1
  refine h.set h.2.2.2.2.1 ha hz (fun j hj2 => hj j (by omega)) ?_ ?_ ?_ ?_
  · rw [ha.2 1 (hj 1 (by decide))]; exact g.2.1
  · rw [ha.2 2 (hj 2 (by decide))]; exact g.2.2.1
  · rw [ha.2 4 (hj 4 (by decide))]; exact g.2.2.2.2.1
  · rw [ha.2 10 (hj 10 (by decide))]; exact g.2.2.2.2.2.2.1
theorem lg_cmp0 {x y : Int64} : lg_cmp x y = 0 ↔ x = y := by
  unfold lg_cmp
  by_cases h1 : x > y
  · rw [if_pos h1]
    constructor
    · intro h
      exact absurd h (by decide)
    · intro h
      subst h
      exact absurd h1 (by
        intro z
        have z2 := Int64.lt_iff_toInt_lt.1 z
        omega)
  · rw [if_neg h1]
    by_cases h2 : x = y
    · rw [if_pos h2]
      exact ⟨fun _ => h2, fun _ => rfl⟩
    · rw [if_neg h2]
      exact ⟨fun z => absurd z (by decide), fun z => absurd z h2⟩
theorem lN_m1 {n : Nat} (h : n < 2 ^ 63) : ¬ (-1 : Int64) = lN n := by
  intro e
  have e2 := congrArg Int64.toInt e
  rw [pk_lT h] at e2
  have e3 : (-1 : Int64).toInt = -1 := by decide
  rw [e3] at e2
  omega
theorem ldiv_n {a b : Nat} (ha : a < 2 ^ 63) (h0 : 0 < b) (hb : b < 2 ^ 63) : ldiv (lN a) (lN b) = some (lN (a / b)) := by
  unfold ldiv
  rw [if_neg (fun z => by
    have := (pk_lEQ (b := 0) hb (by decide)).1 z
    omega), pk_lDiv ha h0 hb]
theorem lrem_n {a b : Nat} (ha : a < 2 ^ 63) (h0 : 0 < b) (hb : b < 2 ^ 63) : lrem (lN a) (lN b) = some (lN (a % b)) := by
  unfold lrem
  rw [if_neg (fun z => by
    have := (pk_lEQ (b := 0) hb (by decide)).1 z
    omega), pk_lRem ha h0 hb]
theorem rL_n {S : SK} {m : Nat → Nat → Int32} {a n N : Nat} (hs : sh S a = (11, N)) (hn : n < N) (hN : N < 2 ^ 31) : rL (mk S m) (some a) (nI n) = some (lg S a n) := by
  show (if (sh S a).1 = 11 ∧ ¬ (nI n < 0 ∨ (sh S a).2 ≤ (nI n).toNatClampNeg) then some (lg S a (nI n).toNatClampNeg) else none) = _
  rw [hs, if_pos ⟨rfl, ixN hn hN⟩, nI_clamp (by omega)]
theorem stL_n {S : SK} {m : Nat → Nat → Int32} {a n N : Nat} {v : Int64} (hs : sh S a = (11, N)) (hn : n < N) (hN : N < 2 ^ 31) : sL (mk S m) (some a) (nI n) v = some (mk (S.1, S.2.1, w2 (lg S) a n v, S.2.2.2) m) := by
  show (if (sh S a).1 = 11 ∧ ¬ (nI n < 0 ∨ (sh S a).2 ≤ (nI n).toNatClampNeg) then _ else none) = _
  rw [hs, if_pos ⟨rfl, ixN hn hN⟩, nI_clamp (by omega)]
  rfl
