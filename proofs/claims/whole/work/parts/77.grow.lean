/-! PURE: the memory with one coin more -/
def cnK (S : SK) (c : Nat) : SK := (S.1 + 1, (fun b => if b = S.1 then (0, 3) else S.2.1 b), (fun b => if b = S.1 then fun _ => 0 else S.2.2.1 b), w2 (fun b => if b = S.1 then fun _ => none else S.2.2.2 b) 1 c (some S.1))
theorem cn_sh {S : SK} {c b : Nat} (h : b < S.1) : sh (cnK S c) b = sh S b := if_neg (by omega)
theorem cn_shA {S : SK} {c : Nat} : sh (cnK S c) S.1 = (0, 3) := if_pos rfl
theorem cn_rf {S : SK} {c b j : Nat} (h : b < S.1) (hj : b ≠ 1 ∨ j ≠ c) : rf (cnK S c) b j = rf S b j := by
  show w2 (fun b => if b = S.1 then fun _ => none else S.2.2.2 b) 1 c (some S.1) b j = S.2.2.2 b j
  rw [w2_ap, if_neg (by omega)]
  exact congrFun (if_neg (by omega)) j
theorem cn_rfA {S : SK} {c : Nat} : rf (cnK S c) 1 c = some S.1 := by
  show w2 (fun b => if b = S.1 then fun _ => none else S.2.2.2 b) 1 c (some S.1) 1 c = _
  rw [w2_ap, if_pos ⟨rfl, rfl⟩]
theorem sh_lt : ∀ q ∈ shT, q.1 < 76 := by decide
theorem rf_lt : ∀ q ∈ rfT, q.1 < 76 ∧ q.1 ≠ 1 := by decide
theorem cn_ok {S : SK} {c : Nat} (h : SkOK S) : SkOK (cnK S c) := by
  obtain ⟨h1, h2, h3⟩ := h
  refine ⟨fun q hq => ?_, fun q hq => ?_, Nat.le_succ_of_le h3⟩
  · have := sh_lt q hq
    rw [cn_sh (by omega)]
    exact h1 q hq
  · have := rf_lt q hq
    rw [cn_rf (by omega) (Or.inl this.2)]
    exact h2 q hq
theorem cn_tx {S : SK} {c A N : Nat} (h : TxS S A N) (hA : A + 3 < S.1) (h1 : A = 46 ∨ 76 ≤ A) : TxS (cnK S c) A N := by
  obtain ⟨a1, a2, a3, a4, a5, a6, a7, a8⟩ := h
  have n1 : A ≠ 1 := by omega
  refine ⟨?_, ?_, ?_, ?_, ?_, ?_, ?_, a8⟩
  · rw [cn_sh (by omega)]; exact a1
  · rw [cn_rf (by omega) (Or.inl n1)]; exact a2
  · rw [cn_rf (by omega) (Or.inl n1)]; exact a3
  · rw [cn_rf (by omega) (Or.inl n1)]; exact a4
  · rw [cn_sh (by omega)]; exact a5
  · rw [cn_sh (by omega)]; exact a6
  · rw [cn_sh (by omega)]; exact a7
def KeepC (S : SK) (m m2 : Nat → Nat → Int32) : Prop := ∀ b, b < S.1 → b ≠ 3 → b ≠ 4 → ¬ (50 ≤ b ∧ b ≤ 54) → m2 b = m b
theorem CText.grow {S : SK} {m m2 : Nat → Nat → Int32} {l c : Nat} {pr : Nat → List Nat} (hS : SkOK S) (h : CText S m l pr) (hm : KeepC S m m2) (ha : ∀ A, rf S 2 l = some A → A + 3 < S.1) : CText (cnK S c) m2 l pr := by
  obtain ⟨A, N, fr, a1, a2, a3, a4⟩ := h
  have hA := ha A a1
  have h76 := hS.2.2
  refine ⟨A, N, fr, ?_, cn_tx a2 hA a3, a3, a4.ag (hm _ (by omega) (by omega) (by omega) (by omega)) (hm _ (by omega) (by omega) (by omega) (by omega))⟩
  rw [cn_rf (by omega) (Or.inl (by decide))]
  exact a1
theorem CCoin.grow {S : SK} {m m2 : Nat → Nat → Int32} {E : EN} {c : Nat} (hS : SkOK S) (h : CCoin S m E) (hm : KeepC S m m2) (ha : ∀ k A, k < eN E → rf S 1 k = some A → A < S.1) (hc : eN E ≤ c) : CCoin (cnK S c) m2 E := by
  intro k hk
  obtain ⟨A, a1, a2, a3, a4, a5, a6⟩ := h k hk
  have hA := ha k A hk a1
  have h76 := hS.2.2
  have e := hm A hA (by omega) (by omega) (by omega)
  refine ⟨A, ?_, ?_, a3, by rw [e]; exact a4, by rw [e]; exact a5, by rw [e]; exact a6⟩
  · rw [cn_rf (by omega) (Or.inr (by omega))]
    exact a1
  · rw [cn_sh hA]
    exact a2
theorem CI.grow6 {S : SK} {m m2 : Nat → Nat → Int32} {E : EN} {l c : Nat} {q : QS} (h : CI S m 6 E l q) (hm : KeepC S m m2) (ha : ∀ k A, k < eN E → rf S 1 k = some A → A < S.1) (hb : ∀ A, rf S 2 l = some A → A + 3 < S.1) (hc : eN E ≤ c) : CI (cnK S c) m2 6 E l q := by
  obtain ⟨⟨hS, hE, hl, hco, ht⟩, hg, ⟨d4, d5, d6, d7, d8, d9, d10, d11, ho⟩, hq⟩ := h
  have h76 := hS.2.2
  have e6 : m2 6 = m 6 := hm 6 (by omega) (by decide) (by decide) (by decide)
  have e7 : m2 7 = m 7 := hm 7 (by omega) (by decide) (by decide) (by decide)
  refine ⟨⟨cn_ok hS, hE, hl, hco.grow hS hm ha hc, ht.grow hS hm hb⟩, hg, ⟨by rw [e6]; exact d4, by rw [e6]; exact d5, by rw [e6]; exact d6, by rw [e6]; exact d7, by rw [e6]; exact d8, by rw [e6]; exact d9, by rw [e6]; exact d10, by rw [e6]; exact d11, fun p hp => ?_⟩, hq⟩
  rw [show m2 (6 + 1) = m (6 + 1) from e7]
  exact ho p hp
theorem RTx.grow {S : SK} {m m2 : Nat → Nat → Int32} {T c : Nat} {prs : Nat → Nat → List Nat} (hS : SkOK S) (h : RTx S m T prs) (hm : KeepC S m m2) (hb : ∀ t A, t < T → rf S 2 t = some A → A + 3 < S.1) (h15 : m2 50 15 = m 50 15) : RTx (cnK S c) m2 T prs := by
  obtain ⟨t1, t2, t3, t4, t5⟩ := h
  have h76 := hS.2.2
  refine ⟨t1, t2, ?_, by rw [h15]; exact t4, fun t ht => ?_⟩
  · rw [hm 0 (by omega) (by decide) (by decide) (by decide)]
    exact t3
  · obtain ⟨a1, fr, a2⟩ := t5 t ht
    exact ⟨a1.grow hS hm (fun A => hb t A ht), fr, a2.ag (hm 56 (by omega) (by decide) (by decide) (by decide)) (hm 57 (by omega) (by decide) (by decide) (by decide))⟩
theorem RAd.grow {S : SK} {N T : Nat} (hS : SkOK S) (h : RAd S N T) : RAd (cnK S N) (N + 1) T := by
  have h76 := hS.2.2
  refine ⟨fun c A hc hA => ?_, fun t A ht hA => ?_⟩
  · by_cases e : c = N
    · subst e
      rw [cn_rfA] at hA
      have : S.1 = A := by simpa using hA
      show A < S.1 + 1
      omega
    · rw [cn_rf (by omega) (Or.inr e)] at hA
      have := h.1 c A (by omega) hA
      show A < S.1 + 1
      omega
  · rw [cn_rf (by omega) (Or.inl (by decide))] at hA
    have := h.2 t A ht hA
    show A + 3 < S.1 + 1
    omega
theorem RO.grow {S : SK} {m m2 : Nat → Nat → Int32} {N T : Nat} {kd td mo kd2 td2 mo2 : Nat → Nat} {prs : Nat → Nat → List Nat} (hS : SkOK S) (h : RO S m N T kd td mo prs) (hm : KeepC S m m2) (h50 : ∀ j, j = 12 ∨ j = 15 ∨ j = 17 → m2 50 j = m 50 j) (hk : ∀ c, c < N → kd2 c = kd c ∧ td2 c = td c ∧ mo2 c = mo c) : RO (cnK S N) m2 (N + 1) T kd2 td2 mo2 prs := by
  obtain ⟨hTx, hI, hsh, hTp, hWd, hAd⟩ := h
  have h76 := hS.2.2
  have e := fun b (h1 : b < 76) (h3 : b ≠ 3) (h4 : b ≠ 4) (h5 : ¬ (50 ≤ b ∧ b ≤ 54)) => hm b (by omega) h3 h4 h5
  refine ⟨hTx.grow hS hm hAd.2 (h50 15 (by decide)), ?_, hsh.e (fun b hb => e b (by omega) (by omega) (by omega) (by omega)), hTp.e (by rw [e 33 (by omega) (by omega) (by omega) (by omega)]) (h50 12 (by decide)) (e 34 (by omega) (by omega) (by omega) (by omega)) (e 55 (by omega) (by omega) (by omega) (by omega)), hWd.e (e 64 (by omega) (by omega) (by omega) (by omega)) (e 36 (by omega) (by omega) (by omega) (by omega)), hAd.grow hS⟩
  unfold RIm at hI ⊢
  rw [e 0 (by omega) (by omega) (by omega) (by omega), h50 17 (by decide), e 58 (by omega) (by omega) (by omega) (by omega), e 59 (by omega) (by omega) (by omega) (by omega)]
  rcases hI with y | ⟨y1, y2, d2, P2, N2, wh2, l2, q2, y3, y4, y5, y6⟩
  · exact Or.inl y
  · refine Or.inr ⟨y1, y2, d2, P2, N2, wh2, l2, q2, ?_, y4, by omega, y6⟩
    have g := y3.grow6 (c := N) hm (fun k A hk2 hA => hAd.1 k A (Nat.lt_of_lt_of_le hk2 y5) hA) (fun A hA => hAd.2 l2 A y4 hA) y5
    obtain ⟨⟨a1, ⟨b1, b2, b3, b4⟩, a3, a4, a5⟩, g2, g3, g4⟩ := g
    refine ⟨⟨a1, ⟨b1, b2, b3, fun c hc => ?_⟩, a3, fun c hc => ?_, a5⟩, g2, g3, g4⟩
    · obtain ⟨x1, x2, x3⟩ := hk c (Nat.lt_of_lt_of_le hc y5)
      have := b4 c hc
      show wh2 c < P2 ∧ kd2 c ≤ 5 ∧ td2 c ≤ 30 ∧ mo2 c ≤ 9
      rw [x1, x2, x3]
      exact this
    · obtain ⟨x1, x2, x3⟩ := hk c (Nat.lt_of_lt_of_le hc y5)
      obtain ⟨A, r1, r2, r3, r4, r5, r6⟩ := a4 c hc
      refine ⟨A, r1, r2, r3, ?_, ?_, ?_⟩
      · show m2 A 0 = nI (kd2 c)
        rw [x1]; exact r4
      · show m2 A 1 = nI (td2 c)
        rw [x2]; exact r5
      · show m2 A 2 = nI (mo2 c)
        rw [x3]; exact r6
