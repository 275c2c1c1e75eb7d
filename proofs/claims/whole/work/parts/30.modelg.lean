/-! PURE: the model: what a coin counts, how many are left -/
theorem wn30 {t o : Nat} (ht : t ≤ 30) (ho : o ≤ 9) : (if nI t - nI o < nI 0 then nI 0 else if nI 30 < nI t - nI o then nI 30 else nI t - nI o) = nI (t - o) := by
  by_cases q : o ≤ t
  · rw [pk_sub q]
    simp (disch := omega) only [nI_ltI, Nat.not_lt_zero, if_false, show ¬ 30 < t - o by omega]
  · have h := pk_sneg (a := t) (b := o) (by omega) (by omega)
    have h2 : nI t - nI o < nI 0 := h
    simp only [h2, if_true]
    rw [show t - o = 0 by omega]
theorem X9_countsNow {S : SK} {m : Nat → Nat → Int32} {c k t o s : Nat} (hS : SkOK S) (hc : c < 7) (h0 : m 52 c = nI k) (h1 : m 53 c = nI t) (h2 : m 54 c = nI o) (hs : m 50 1 = nI s) (hkk : k ≤ 5) (ht : t ≤ 30) (ho : o ≤ 9) (hs9 : s ≤ 9999) : f_X9_countsNow (mk S m) (some 50) (nI c) = some (nI (cnS k t o s), mk S m) := by
  have hk : (sh S 50).1 = 9 := by rw [sk50 hS]
  have hw := wn30 ht ho
  rcases (show k = 0 ∨ k = 1 ∨ k = 2 ∨ k = 3 ∨ k = 4 ∨ k = 5 by omega) with e | e | e | e | e | e <;> subst e <;>
    simp (disch := omega) only [f_X9_countsNow, f_X9_countsNow_87, X9_within, gR_k hk, gI_k hk, rk50_7 hS, rk50_8 hS, rk50_9 hS, rI_n (sk52 hS) hc, rI_n (sk53 hS) hc, rI_n (sk54 hS) hc, h0, h1, h2, hs, hw, Option.bind_some, n_lit, nI_eq, irem_n, pk_mul, nI_add, cnS, if_true, if_false, eq_self, show ¬ (0 = 1) by decide, show ¬ (0 = 2) by decide, show ¬ (0 = 3) by decide, show ¬ (0 = 4) by decide, show ¬ (0 = 5) by decide, show ¬ (2 = 1) by decide, show ¬ (3 = 1) by decide, show ¬ (3 = 2) by decide, show ¬ (4 = 1) by decide, show ¬ (4 = 2) by decide, show ¬ (4 = 3) by decide, show ¬ (5 = 1) by decide, show ¬ (5 = 2) by decide, show ¬ (5 = 3) by decide, show ¬ (5 = 4) by decide]
  · by_cases q : s % 2 = 0
    · simp only [q, if_true]
    · simp only [q, if_false]
/-- how many coins are left: the reference's count -/
theorem X9_leftOf_loop {S : SK} {m : Nat → Nat → Int32} {N s p : Nat} {wh : Nat → Nat} (hS : SkOK S) (hn : m 50 5 = nI N) (hN : N ≤ 7) (hs : m 50 10 = nI s) (hs2 : s < 2 ^ 31) (hw : ∀ c, c < N → m 51 c = nI (wh c) ∧ wh c < 4) (hp : p < 4) :
    ∀ (r n i : Nat), i + r = N → r < n → f_X9_leftOf_4 n (mk S m) (some 50) (nI p) (nI (lfS wh s p i)) (nI i) = some (nI (lfS wh s p N), mk S m) := by
  have hk : (sh S 50).1 = 9 := by rw [sk50 hS]
  intro r
  induction r with
  | zero =>
    intro n i hi hr
    obtain ⟨n, rfl⟩ : ∃ k, n = k + 1 := ⟨n - 1, by omega⟩
    show fb_X9_leftOf_4 (f_X9_leftOf_4 n) _ _ _ _ _ = _
    have hi : i = N := by omega
    subst hi
    simp (disch := omega) only [fb_X9_leftOf_4, gI_k hk, hn, Option.bind_some, nI_ltI, Nat.lt_irrefl, if_false]
  | succ r ih =>
    intro n i hi hr
    obtain ⟨n, rfl⟩ : ∃ k, n = k + 1 := ⟨n - 1, by omega⟩
    have hl := lfS_le wh s p i
    have hL := X9_isLeft hS hs hs2 (p := i) (by omega)
    obtain ⟨hwi, hw4⟩ := hw i (by omega)
    have step : f_X9_leftOf_4 (n + 1) (mk S m) (some 50) (nI p) (nI (lfS wh s p i)) (nI i) = f_X9_leftOf_4 n (mk S m) (some 50) (nI p) (nI (lfS wh s p (i + 1))) (nI (i + 1)) := by
      show fb_X9_leftOf_4 (f_X9_leftOf_4 n) _ _ _ _ _ = _
      have hi2 : i < N := by omega
      have q01 : ¬ nI 1 = nI 0 := by decide
      have el : lfS wh s p (i + 1) = lfS wh s p i + (if s.testBit i = false ∧ wh i = p then 1 else 0) := rfl
      by_cases hb : s.testBit i = true
      · rw [hb] at hL
        have e0 : lfS wh s p (i + 1) = lfS wh s p i := by rw [el, hb, if_neg (by simp)]; omega
        rw [e0]
        simp (disch := omega) only [fb_X9_leftOf_4, f_X9_leftOf_35, f_X9_leftOf_36, gI_k hk, hn, Option.bind_some, nI_ltI, hi2, if_true, vc_k hk, hL, n_lit, eq_self, bnd_eq, nI_add, Nat.add_zero]
      · have hb : s.testBit i = false := by simpa using hb
        rw [hb] at hL
        by_cases hq : wh i = p
        · have e0 : lfS wh s p (i + 1) = lfS wh s p i + 1 := by rw [el, if_pos ⟨hb, hq⟩]
          rw [e0]
          rw [hq] at hwi
          simp (disch := omega) only [fb_X9_leftOf_4, f_X9_leftOf_35, f_X9_leftOf_36, gI_k hk, gR_k hk, rk50_6 hS, rI_n (sk51 hS) (show i < 7 by omega), hwi, hn, Option.bind_some, nI_ltI, hi2, if_true, vc_k hk, hL, n_lit, q01, if_false, eq_self, bnd_eq, nI_add, Bool.false_eq_true]
        · have e0 : lfS wh s p (i + 1) = lfS wh s p i := by rw [el, if_neg (fun z => hq z.2)]; omega
          rw [e0]
          simp (disch := omega) only [fb_X9_leftOf_4, f_X9_leftOf_35, f_X9_leftOf_36, gI_k hk, gR_k hk, rk50_6 hS, rI_n (sk51 hS) (show i < 7 by omega), hwi, hn, Option.bind_some, nI_ltI, hi2, if_true, vc_k hk, hL, n_lit, q01, if_false, eq_self, bnd_eq, nI_add, Bool.false_eq_true, nI_eq, hq, Nat.add_zero]
    rw [step]
    exact ih n (i + 1) (by omega) (by omega)
theorem X9_leftOf {S : SK} {m : Nat → Nat → Int32} {N s p : Nat} {wh : Nat → Nat} (hS : SkOK S) (hn : m 50 5 = nI N) (hN : N ≤ 7) (hs : m 50 10 = nI s) (hs2 : s < 2 ^ 31) (hw : ∀ c, c < N → m 51 c = nI (wh c) ∧ wh c < 4) (hp : p < 4) : f_X9_leftOf (mk S m) (some 50) (nI p) = some (nI (lfS wh s p N), mk S m) :=
  X9_leftOf_loop hS hn hN hs hs2 hw hp N FU 0 (by omega) (by unfold FU; omega)
