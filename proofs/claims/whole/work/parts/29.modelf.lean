/-! PURE: the model, one question at a time -/
theorem wn_lw (e : Int32) : (if e < 0 then 0 else if 99 < e then 99 else e) = (if 0 < (if e < 99 then e else 99) then (if e < 99 then e else 99) else 0) := by
  have z0 : (0 : Int32).toInt = 0 := by decide
  have z9 : (99 : Int32).toInt = 99 := by decide
  by_cases h1 : e < 0
  · have h1' := Int32.lt_iff_toInt_lt.1 h1
    have h2 : e < 99 := Int32.lt_iff_toInt_lt.2 (by rw [z0] at h1'; rw [z9]; omega)
    have h3 : ¬ 0 < e := fun z => by
      have := Int32.lt_iff_toInt_lt.1 z
      omega
    rw [if_pos h1, if_pos h2, if_neg h3]
  · rw [if_neg h1]
    have h1' : ¬ e.toInt < 0 := fun z => h1 (Int32.lt_iff_toInt_lt.2 (by rw [z0]; exact z))
    by_cases h2 : e < 99
    · have h2' := Int32.lt_iff_toInt_lt.1 h2
      have h3 : ¬ 99 < e := fun z => by
        have := Int32.lt_iff_toInt_lt.1 z
        omega
      rw [if_neg h3, if_pos h2]
      by_cases h4 : 0 < e
      · rw [if_pos h4]
      · rw [if_neg h4]
        apply Int32.toInt_inj.1
        have h4' : ¬ 0 < e.toInt := fun z => h4 (Int32.lt_iff_toInt_lt.2 (by rw [z0]; exact z))
        rw [z0]
        omega
    · rw [if_neg h2, if_pos (show (0 : Int32) < 99 by decide)]
      have h2' : ¬ e.toInt < 99 := fun z => h2 (Int32.lt_iff_toInt_lt.2 (by rw [z9]; exact z))
      by_cases h3 : 99 < e
      · rw [if_pos h3]
      · rw [if_neg h3]
        apply Int32.toInt_inj.1
        have h3' : ¬ 99 < e.toInt := fun z => h3 (Int32.lt_iff_toInt_lt.2 (by rw [z9]; exact z))
        rw [z9]
        omega
theorem X9_within {h : XM} {e lo hi : Int32} : f_X9_within h e lo hi = some (if e < lo then lo else if hi < e then hi else e, h) := by
  unfold f_X9_within f_X9_within_19
  by_cases q : e < lo
  · rw [if_pos q, if_pos q]
  · rw [if_neg q, if_neg q]
    by_cases z : hi < e
    · rw [if_pos z, if_pos z]
    · rw [if_neg z, if_neg z]
theorem X9_isInside {S : SK} {m : Nat → Nat → Int32} {i p : Nat} (hS : SkOK S) (hi : m 50 4 = nI i) (h1 : i < 2 ^ 31) (hp : p < 31) : f_X9_isInside (mk S m) (some 50) (nI p) = some (nI (if i.testBit p then 1 else 0), mk S m) := by
  have hk : (sh S 50).1 = 9 := by rw [sk50 hS]
  have hb := bitI (n := i) (c := p) h1 (by omega)
  simp only [f_X9_isInside, gI_k hk, Option.bind_some, hi, n_lit, hb]
  cases i.testBit p <;> rfl
theorem X9_isLeft {S : SK} {m : Nat → Nat → Int32} {i p : Nat} (hS : SkOK S) (hi : m 50 10 = nI i) (h1 : i < 2 ^ 31) (hp : p < 31) : f_X9_isLeft (mk S m) (some 50) (nI p) = some (nI (if i.testBit p then 0 else 1), mk S m) := by
  have hk : (sh S 50).1 = 9 := by rw [sk50 hS]
  have hb := bitI (n := i) (c := p) h1 (by omega)
  simp only [f_X9_isLeft, gI_k hk, Option.bind_some, hi, n_lit, hb]
  cases i.testBit p <;> rfl
theorem X9_canPut {S : SK} {m : Nat → Nat → Int32} {s i c p : Nat} (hS : SkOK S) (hs : m 50 10 = nI s) (hi : m 50 4 = nI i) (h1 : s < 2 ^ 31) (h2 : i < 2 ^ 31) (hc : c < 7) (hw : m 51 c = nI p) (hp : p < 4) : f_X9_canPut (mk S m) (some 50) (nI c) = some (nI (if s.testBit c then 0 else if i.testBit p then 0 else 1), mk S m) := by
  have hk : (sh S 50).1 = 9 := by rw [sk50 hS]
  unfold f_X9_canPut
  rw [vc_k hk, X9_isLeft hS hs h1 (by omega)]
  simp only [Option.bind_some]
  cases s.testBit c
  · rw [if_neg (by decide), gR_k hk, rk50_6 hS]
    simp only [Option.bind_some]
    rw [rI_n (sk51 hS) hc (by decide), hw]
    simp only [Option.bind_some]
    rw [vc_k hk, X9_isInside hS hi h2 (by omega)]
    cases i.testBit p <;> rfl
  · rfl
theorem X9_costsOf {S : SK} {m : Nat → Nat → Int32} {c k t : Nat} (hS : SkOK S) (hc : c < 7) (h0 : m 52 c = nI k) (h1 : m 53 c = nI t) (hk5 : k ≤ 5) (ht : t ≤ 30) : f_X9_costsOf (mk S m) (some 50) (nI c) = some (nI (csS k t), mk S m) := by
  have hk : (sh S 50).1 = 9 := by rw [sk50 hS]
  rcases (show k = 0 ∨ k = 1 ∨ k = 2 ∨ k = 3 ∨ k = 4 ∨ k = 5 by omega) with e | e | e | e | e | e <;> subst e <;>
    simp (disch := omega) [f_X9_costsOf, f_X9_costsOf_48, gR_k hk, rk50_7 hS, rk50_8 hS, rI_n (sk52 hS) hc, rI_n (sk53 hS) hc, h0, h1, n_lit, nI_eq, idiv_n, pk_mul, csS]
theorem X9_worksOut {S : SK} {m : Nat → Nat → Int32} {l s0 p d a : Nat} {v w n q : Int32} {cs : List Nat} (hS : SkOK S) (hl : m 50 16 = nI l) (hl6 : l < 6) (hd : m 50 0 = nI d) (h0 : 0 < d) (h1 : d < 2 ^ 31) (ha : a < 2 ^ 31) (hp : p < 3) (he : s0 + cs.length ≤ 200) (hw : wfS cs 0 = some 1) (hc : CdM m 56 (200 * l + s0) cs) (hs0 : m 57 (4 * l + p) = nI s0) (hen : m 57 (4 * l + p + 1) = nI (s0 + cs.length)) :
    ∃ m2 : Nat → Nat → Int32, f_X9_worksOut (mk S m) (some 50) (nI p) (nI a) v w n q = some (lwS p (vlS (nmS (nI a) (nI (a % d)) v w n q) cs), mk S m2) ∧ Ag (fun b => b = 66 ∨ b = 67) m m2 := by
  have hk : (sh S 50).1 = 9 := by rw [sk50 hS]
  let m1 := w2 (w2 (w2 (w2 (w2 (w2 m 67 0 (nI a)) 67 1 (nI (a % d))) 67 2 v) 67 3 w) 67 4 n) 67 5 q
  have hk1 : ∀ b, b ≠ 67 → m1 b = m b := fun b hb => by
    funext j
    show w2 (w2 (w2 (w2 (w2 (w2 m 67 0 (nI a)) 67 1 (nI (a % d))) 67 2 v) 67 3 w) 67 4 n) 67 5 q b j = m b j
    simp only [w2_ap, hb, false_and, if_false]
  have hag : Ag (fun b => b = 66 ∨ b = 67) m m1 := fun b hb => hk1 b (fun e => hb (Or.inr e))
  have hnm : ∀ j, j < 6 → m1 67 j = nmS (nI a) (nI (a % d)) v w n q j := by
    intro j hj
    show w2 (w2 (w2 (w2 (w2 (w2 m 67 0 (nI a)) 67 1 (nI (a % d))) 67 2 v) 67 3 w) 67 4 n) 67 5 q 67 j = _
    rcases (show j = 0 ∨ j = 1 ∨ j = 2 ∨ j = 3 ∨ j = 4 ∨ j = 5 by omega) with e | e | e | e | e | e <;> subst e <;> simp [w2_ap, nmS]
  obtain ⟨m2, e2, ag2⟩ := X9_says (S := S) hS (t := l) (p := p) (s0 := s0) hl6 hp (nm := nmS (nI a) (nI (a % d)) v w n q) (cs := cs) (m := m1) he hw (hc.ag (hk1 56 (by decide))) (by rw [hk1 50 (by decide)]; exact hl) (by rw [hk1 57 (by decide)]; exact hs0) (by rw [hk1 57 (by decide)]; exact hen) hnm
  refine ⟨m2, ?_, hag.tr (ag2.mono (fun b hb => Or.inl hb))⟩
  have hd2 : w2 m 67 0 (nI a) 50 0 = nI d := by rw [w2_ap, if_neg (by omega)]; exact hd
  have e2 : f_X9_says (mk S (w2 (w2 (w2 (w2 (w2 (w2 m 67 0 (nI a)) 67 1 (nI (a % d))) 67 2 v) 67 3 w) 67 4 n) 67 5 q)) (some 50) (nI p) = _ := e2
  unfold lwS vlS
  generalize (evS (nmS (nI a) (nI (a % d)) v w n q) cs []).headD 0 = e at e2 ⊢
  unfold f_X9_worksOut
  simp only [gR_k hk, gI_k hk, rk50_34 hS, Option.bind_some, n_lit, sI_n (sk67 hS) (show 0 < 6 by decide) (by decide), sI_n (sk67 hS) (show 1 < 6 by decide) (by decide), sI_n (sk67 hS) (show 2 < 6 by decide) (by decide), sI_n (sk67 hS) (show 3 < 6 by decide) (by decide), sI_n (sk67 hS) (show 4 < 6 by decide) (by decide), sI_n (sk67 hS) (show 5 < 6 by decide) (by decide), vc_k hk, hd2, irem_n ha h0 h1, e2, f_X9_worksOut_82, X9_within]
  by_cases hp0 : p = 0
  · subst hp0
    by_cases z : e = nI 0
    · simp only [eq_self, if_true, z]
    · have z2 : ¬ e = 0 := z
      simp only [eq_self, if_true, z, z2, if_false]
  · have z : ¬ nI p = nI 0 := fun z => hp0 ((nI_eq (by omega) (by omega)).1 z)
    simp only [z, hp0, if_false]
    exact congrArg (fun v => some (v, mk S m2)) (wn_lw e)
