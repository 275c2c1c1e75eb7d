/-! PURE: the model: worth, keeping and laying back, ranges, counting ones; an int as a number -/
theorem i_of {x : Int32} (h : ¬ x < 0) : ∃ n, n < 2 ^ 31 ∧ x = nI n := by
  obtain ⟨n, hn, rfl⟩ : ∃ n, n < 2 ^ 32 ∧ x = nI n := ⟨x.toBitVec.toNat, x.toBitVec.isLt, by
    apply Int32.toBitVec_inj.1
    show x.toBitVec = BitVec.ofNat 32 x.toBitVec.toNat
    simp⟩
  by_cases q : n < 2 ^ 31
  · exact ⟨n, q, rfl⟩
  · exfalso
    apply h
    rw [Int32.lt_iff_toInt_lt]
    have e : (nI n).toInt = (n : Int) - 2 ^ 32 := by
      show (BitVec.ofNat 32 n).toInt = _
      rw [BitVec.toInt_eq_toNat_cond, BitVec.toNat_ofNat, Nat.mod_eq_of_lt hn, if_neg (by omega)]
      rfl
    rw [e]
    have e0 : (0 : Int32).toInt = 0 := by decide
    rw [e0]
    omega
/-- an int is below n, or it isn't -/
theorem i_in (x : Int32) {n : Nat} (hn : n < 2 ^ 31) : (∃ k, k < n ∧ x = nI k) ∨ (x < 0 ∨ ¬ x < nI n) := by
  by_cases h : x < 0
  · exact Or.inr (Or.inl h)
  · obtain ⟨k, hk, rfl⟩ := i_of h
    by_cases q : k < n
    · exact Or.inl ⟨k, q, rfl⟩
    · exact Or.inr (Or.inr (by rw [nI_ltI hk hn]; exact q))
theorem i_pre {x : Int32} {n : Nat} (hn : n < 2 ^ 31) (hx : ¬ x < 0) : (nI n - 1 < x) ↔ ¬ x < nI n := by
  obtain ⟨k, hk, rfl⟩ := i_of hx
  rw [nI_ltI hk hn]
  by_cases q : n = 0
  · subst q
    have e : nI 0 - 1 = -1 := by decide
    rw [e]
    constructor
    · intro _
      omega
    · intro _
      rw [Int32.lt_iff_toInt_lt, nI_toInt hk]
      have e1 : (-1 : Int32).toInt = -1 := by decide
      rw [e1]
      omega
  · have e : nI n - 1 = nI (n - 1) := pk_sub (a := n) (b := 1) (by omega)
    rw [e, nI_ltI (by omega) hk]
    omega
theorem X9_in {h : XM} {a lo hi : Int32} : f_X9_in h a lo hi = some (if a < lo then 0 else if hi < a then 0 else 1, h) := by
  unfold f_X9_in
  by_cases q : a < lo
  · rw [if_pos q, if_pos q]
    rfl
  · rw [if_neg q, if_neg q]
    by_cases z : hi < a
    · rw [if_pos z, if_pos z]
      rfl
    · rw [if_neg z, if_neg z]
      rfl
theorem rz_b {h : XM} {c d : Prop} [Decidable c] [Decidable d] : rz h (if c then 0 else if d then 0 else 1) = some ((if c then 0 else if d then 0 else 1), h) := by
  split
  · rfl
  · split <;> rfl
theorem one_b {x : Int32} {n : Nat} (hn : n < 2 ^ 31) : (if x < 0 then (0 : Int32) else if nI n - 1 < x then 0 else 1) = if x < 0 then 0 else if x < nI n then 1 else 0 := by
  by_cases q : x < 0
  · rw [if_pos q, if_pos q]
  · rw [if_neg q, if_neg q]
    have := i_pre hn q
    by_cases z : x < nI n
    · rw [if_pos z, if_neg (fun y => this.1 y z)]
    · rw [if_neg z, if_pos (this.2 z)]
theorem M_isOne {S : SK} {m : Nat → Nat → Int32} {E : EN} {l : Nat} {q : QS} (h : MV S m E l q) {p : Int32} : f_X9_isOne (mk S m) (some 50) p = some (if p < 0 then 0 else if p < nI (eP E) then 1 else 0, mk S m) := by
  have hk : (sh S 50).1 = 9 := by rw [sk50 h.1]
  have hP := h.2.1.2.1
  unfold f_X9_isOne
  rw [gI_k hk, h.2.2.2.1.2.2.2.1, Option.bind_some, X9_in, Option.bind_some, rz_b, one_b (by omega)]
theorem M_isCoin {S : SK} {m : Nat → Nat → Int32} {E : EN} {l : Nat} {q : QS} (h : MV S m E l q) {p : Int32} : f_X9_isCoin (mk S m) (some 50) p = some (if p < 0 then 0 else if p < nI (eN E) then 1 else 0, mk S m) := by
  have hk : (sh S 50).1 = 9 := by rw [sk50 h.1]
  have hN := h.2.1.2.2.1
  unfold f_X9_isCoin
  rw [gI_k hk, h.2.2.2.1.2.2.2.2.2.1, Option.bind_some, X9_in, Option.bind_some, rz_b, one_b (by omega)]
def bcS (n : Nat) : Nat → Nat
  | 0 => 0
  | k + 1 => bcS n k + if n.testBit k = true then 1 else 0
theorem bc_le (n k : Nat) : bcS n k ≤ k := by
  induction k with
  | zero => exact Nat.le_refl _
  | succ k ih =>
    unfold bcS
    split <;> omega
theorem X9_ones {h : XM} {n : Nat} (hn : n < 2 ^ 31) : f_X9_ones h (nI n) = some (nI (bcS n 24), h) := by
  have loop : ∀ r f i, i + r = 24 → r < f → f_X9_ones_4 f h (nI n) (nI (bcS n i)) (nI i) = some (nI (bcS n 24), h) := by
    intro r
    induction r with
    | zero =>
      intro f i hi hr
      obtain ⟨f, rfl⟩ : ∃ k, f = k + 1 := ⟨f - 1, by omega⟩
      have hi : i = 24 := by omega
      subst hi
      rfl
    | succ r ih =>
      intro f i hi hr
      obtain ⟨f, rfl⟩ : ∃ k, f = k + 1 := ⟨f - 1, by omega⟩
      have nx := ih f (i + 1) (by omega) (by omega)
      have hb : (nI n >>> (nI i &&& 31)) &&& 1 = nI (if n.testBit i = true then 1 else 0) := bitI hn (by omega)
      show fb_X9_ones_4 (f_X9_ones_4 f) _ _ _ _ = _
      unfold fb_X9_ones_4
      rw [if_pos (show nI i < (24 : Int32) from (nI_ltI (b := 24) (by omega) (by omega)).2 (by omega)), hb, bnd_eq, bnd_eq, nI_add, show nI i + (1 : Int32) = nI (i + 1) from nI_add i 1]
      exact nx
  exact loop 24 FU 0 (by omega) (by unfold FU; omega)
theorem bc_pc : ∀ n, n < 128 → bcS n 24 = pc7 n := by decide +kernel
theorem M_worth {S : SK} {m : Nat → Nat → Int32} {E : EN} {l : Nat} {q : QS} (h : MV S m E l q) {p : Nat} (hp : p < 4) :
    ∃ L m2, f_X9_worthOf (mk S m) (some 50) (nI p) = some (wthS E q p, mk (sLg S L) m2) ∧ MV (sLg S L) m2 E l q ∧ AgM ZA J0 m m2 := by
  have hS := h.1
  have hE := h.2.1
  have hq := h.2.2.2.2.1
  have z1 := p16 hE.2.1 hq.2.2.1
  have hlf := lfS_le (eW E) q.2.2.2 p (eN E)
  have hN := hE.2.2.1
  have tail : ∀ (S1 : SK) (m1 : Nat → Nat → Int32) (v : Int32), MV S1 m1 E l q → ∃ L m2, f_X9_worthOf_34 (mk S1 m1) (some 50) (nI p) (nI (lfS (eW E) q.2.2.2 p (eN E))) v = some (v - lawS E 2 q.1 0 q.2.1 (lfS (eW E) q.2.2.2 p (eN E)) p, mk (sLg S1 L) m2) ∧ MV (sLg S1 L) m2 E l q ∧ AgM ZA J0 m1 m2 := by
    intro S1 m1 v h1
    have hk : (sh S1 50).1 = 9 := by rw [sk50 h1.1]
    obtain ⟨L, m2, e, hI, ag⟩ := M_asks h1 (p := 2) (a := q.1) (v := 0) (w := q.2.1) (n := lfS (eW E) q.2.2.2 p (eN E)) (u := p) ⟨by decide, hq.1, by decide, by have := hq.2.1; omega, by omega, by omega⟩
    refine ⟨L, m2, ?_, hI, ag⟩
    have e' : f_X9_asksOf (mk S1 m1) (some 50) 2 (nI q.1) 0 (nI q.2.1) (nI (lfS (eW E) q.2.2.2 p (eN E))) (nI p) = _ := e
    unfold f_X9_worthOf_34
    rw [gI_k hk, h1.2.2.2.1.2.1, Option.bind_some, gI_k hk, h1.2.2.2.1.2.2.1, Option.bind_some, vc_k hk, e', Option.bind_some]
  have hk : (sh S 50).1 = 9 := by rw [sk50 hS]
  have ei := X9_isInside (S := S) (m := m) (p := p) hS h.2.2.2.1.2.2.2.2.1 (by omega) (by omega)
  unfold f_X9_worthOf
  rw [vc_k hk, M_leftOf h hp, Option.bind_some, vc_k hk, ei, Option.bind_some]
  cases hb : q.2.2.1.testBit p
  · rw [if_pos (show nI (if false = true then 1 else 0) = (0 : Int32) from rfl)]
    obtain ⟨L, m2, e, hI, ag⟩ := tail S m 0 h
    refine ⟨L, m2, ?_, hI, ag⟩
    rw [e]
    unfold wthS
    rw [hb]
    rfl
  · rw [if_neg (show ¬ nI (if true = true then 1 else 0) = (0 : Int32) by decide)]
    obtain ⟨L1, m1, e1, hI1, ag1⟩ := M_asks h (p := 1) (a := q.1) (v := 0) (w := q.2.1) (n := lfS (eW E) q.2.2.2 p (eN E)) (u := p) ⟨by decide, hq.1, by decide, by have := hq.2.1; omega, by omega, by omega⟩
    obtain ⟨L, m2, e, hI, ag⟩ := tail (sLg S L1) m1 (lawS E 1 q.1 0 q.2.1 (lfS (eW E) q.2.2.2 p (eN E)) p) hI1
    refine ⟨L, m2, ?_, hI, ag1.tr ag⟩
    have e1' : f_X9_asksOf (mk S m) (some 50) 1 (nI q.1) 0 (nI q.2.1) (nI (lfS (eW E) q.2.2.2 p (eN E))) (nI p) = _ := e1
    rw [gI_k hk, h.2.2.2.1.2.1, Option.bind_some, gI_k hk, h.2.2.2.1.2.2.1, Option.bind_some, vc_k hk, e1', Option.bind_some]
    show f_X9_worthOf_34 (mk (sLg S L1) m1) _ _ _ _ = _
    rw [e]
    unfold wthS
    rw [hb]
    rfl
def KP (m : Nat → Nat → Int32) (d : Nat) (q : QS) : Prop := m 70 (4 * d) = nI q.1 ∧ m 70 (4 * d + 1) = nI q.2.1 ∧ m 70 (4 * d + 2) = nI q.2.2.1 ∧ m 70 (4 * d + 3) = nI q.2.2.2
def Z70 (b : Nat) : Prop := b = 70
theorem M_keeps {S : SK} {m : Nat → Nat → Int32} {E : EN} {l : Nat} {q : QS} (h : MV S m E l q) {d : Nat} (hd : d < 16) :
    ∃ m2, f_X9_keeps (mk S m) (some 50) (nI d) = some (mk S m2) ∧ MV S m2 E l q ∧ KP m2 d q ∧ AgM Z70 J0 m m2 ∧ ∀ j, j < 4 * d ∨ 4 * d + 4 ≤ j → m2 70 j = m 70 j := by
  have hS := h.1
  have hk : (sh S 50).1 = 9 := by rw [sk50 hS]
  have g := h.2.2.2.1
  have e4 : (4 : Int32) * nI d = nI (4 * d) := pk_mul 4 d
  have e41 : nI (4 * d) + (1 : Int32) = nI (4 * d + 1) := nI_add _ 1
  have e42 : nI (4 * d) + (2 : Int32) = nI (4 * d + 2) := nI_add _ 2
  have e43 : nI (4 * d) + (3 : Int32) = nI (4 * d + 3) := nI_add _ 3
  have n5 : ∀ (f : Nat → Nat → Int32) (j k : Nat) (v : Int32), w2 f 70 j v 50 k = f 50 k := fun f j k v => by rw [w2_ap, if_neg (by simp)]
  have agz : AgM Z70 J0 m (w2 (w2 (w2 (w2 m 70 (4 * d) (nI q.1)) 70 (4 * d + 1) (nI q.2.1)) 70 (4 * d + 2) (nI q.2.2.1)) 70 (4 * d + 3) (nI q.2.2.2)) := ((((AgM.rf (Z := Z70) (J := J0) (m := m)).w (a := 70) (by decide) rfl).w (a := 70) (by decide) rfl).w (a := 70) (by decide) rfl).w (a := 70) (by decide) rfl
  refine ⟨w2 (w2 (w2 (w2 m 70 (4 * d) (nI q.1)) 70 (4 * d + 1) (nI q.2.1)) 70 (4 * d + 2) (nI q.2.2.1)) 70 (4 * d + 3) (nI q.2.2.2), ?_, ?_, ?_, agz, ?_⟩
  · unfold f_X9_keeps
    rw [gR_k hk, rk50_38 hS, Option.bind_some, gI_k hk, g.2.1, Option.bind_some, e4, sI_n (sk70 hS) (by omega) (by decide), Option.bind_some, gR_k hk, rk50_38 hS, Option.bind_some, gI_k hk, n5, g.2.2.1, Option.bind_some, e41, sI_n (sk70 hS) (by omega) (by decide), Option.bind_some, gR_k hk, rk50_38 hS, Option.bind_some, gI_k hk, n5, n5, g.2.2.2.2.1, Option.bind_some, e42, sI_n (sk70 hS) (by omega) (by decide), Option.bind_some, gR_k hk, rk50_38 hS, Option.bind_some, gI_k hk, n5, n5, n5, g.2.2.2.2.2.2.1, Option.bind_some, e43, sI_n (sk70 hS) (by omega) (by decide), Option.bind_some]
  · exact h.ag agz (fun b hb => by unfold Z70; omega) (fun j _ => id)
  · refine ⟨?_, ?_, ?_, ?_⟩
    · simp [w2_ap]
    · simp [w2_ap]
    · simp [w2_ap]
    · simp [w2_ap]
  · intro j hj
    rw [w2_ap, if_neg (by omega), w2_ap, if_neg (by omega), w2_ap, if_neg (by omega), w2_ap, if_neg (by omega)]
theorem M_lays {S : SK} {m : Nat → Nat → Int32} {E : EN} {l : Nat} {q r : QS} (h : MV S m E l q) {d : Nat} (hd : d < 16) (hkp : KP m d r) (hr : QOK E r) :
    ∃ m2, f_X9_laysBack (mk S m) (some 50) (nI d) = some (mk S m2) ∧ MV S m2 E l r ∧ AgM (fun _ => False) JQ m m2 := by
  have hS := h.1
  have hk : (sh S 50).1 = 9 := by rw [sk50 hS]
  obtain ⟨k1, k2, k3, k4⟩ := hkp
  have e4 : (4 : Int32) * nI d = nI (4 * d) := pk_mul 4 d
  have e41 : nI (4 * d) + (1 : Int32) = nI (4 * d + 1) := nI_add _ 1
  have e42 : nI (4 * d) + (2 : Int32) = nI (4 * d + 2) := nI_add _ 2
  have e43 : nI (4 * d) + (3 : Int32) = nI (4 * d + 3) := nI_add _ 3
  have n5 : ∀ (f : Nat → Nat → Int32) (j k : Nat) (v : Int32), w2 f 50 j v 70 k = f 70 k := fun f j k v => by rw [w2_ap, if_neg (by simp)]
  have agz : AgM (fun _ => False) JQ m (w2 (w2 (w2 (w2 m 50 1 (nI r.1)) 50 2 (nI r.2.1)) 50 4 (nI r.2.2.1)) 50 10 (nI r.2.2.2)) := (((AgM.rf.w50 (by unfold JQ; omega)).w50 (by unfold JQ; omega)).w50 (by unfold JQ; omega)).w50 (by unfold JQ; omega)
  refine ⟨w2 (w2 (w2 (w2 m 50 1 (nI r.1)) 50 2 (nI r.2.1)) 50 4 (nI r.2.2.1)) 50 10 (nI r.2.2.2), ?_, ?_, agz⟩
  · unfold f_X9_laysBack
    rw [gR_k hk, rk50_38 hS, Option.bind_some, e4, rI_n (sk70 hS) (by omega) (by decide), Option.bind_some, k1, pI_k hk, Option.bind_some, gR_k hk, rk50_38 hS, Option.bind_some, e41, rI_n (sk70 hS) (by omega) (by decide), Option.bind_some, n5, k2, pI_k hk, Option.bind_some, gR_k hk, rk50_38 hS, Option.bind_some, e42, rI_n (sk70 hS) (by omega) (by decide), Option.bind_some, n5, n5, k3, pI_k hk, Option.bind_some, gR_k hk, rk50_38 hS, Option.bind_some, e43, rI_n (sk70 hS) (by omega) (by decide), Option.bind_some, n5, n5, n5, k4, pI_k hk, Option.bind_some]
  · exact h.set hr agz (fun _ _ => id) (fun j hj => by unfold JQ; omega) rfl rfl rfl rfl
