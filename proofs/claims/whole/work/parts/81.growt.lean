/-! PURE: the memory with one text more -/
def GrT (S S2 : SK) (n T : Nat) : Prop := S2.1 = S.1 + 4 ∧ (∀ b, b < S.1 → sh S2 b = sh S b) ∧ (∀ b j, b < S.1 → (b ≠ 2 ∨ j ≠ T) → rf S2 b j = rf S b j) ∧ TxS S2 S.1 n ∧ rf S2 2 T = some S.1
theorem rf_lt2 : ∀ q ∈ rfT, q.1 ≠ 2 ∨ q.2.1 = 0 := by decide
theorem gt_ok {S S2 : SK} {n T : Nat} (h : SkOK S) (hG : GrT S S2 n T) (hT : 1 ≤ T) : SkOK S2 := by
  obtain ⟨h1, h2, h3⟩ := h
  obtain ⟨k1, k2, k3, _, _⟩ := hG
  refine ⟨fun q hq => ?_, fun q hq => ?_, by omega⟩
  · have := sh_lt q hq
    rw [k2 q.1 (by omega)]
    exact h1 q hq
  · have := rf_lt q hq
    have w := rf_lt2 q hq
    rw [k3 q.1 q.2.1 (by omega) (by omega)]
    exact h2 q hq
theorem gt_tx {S S2 : SK} {n T A N : Nat} (hG : GrT S S2 n T) (h : TxS S A N) (hA : A + 3 < S.1) (h1 : A = 46 ∨ 76 ≤ A) : TxS S2 A N := by
  obtain ⟨a1, a2, a3, a4, a5, a6, a7, a8⟩ := h
  obtain ⟨k1, k2, k3, _, _⟩ := hG
  have n2 : A ≠ 2 := by omega
  refine ⟨?_, ?_, ?_, ?_, ?_, ?_, ?_, a8⟩
  · rw [k2 _ (by omega)]; exact a1
  · rw [k3 _ _ (by omega) (Or.inl n2)]; exact a2
  · rw [k3 _ _ (by omega) (Or.inl n2)]; exact a3
  · rw [k3 _ _ (by omega) (Or.inl n2)]; exact a4
  · rw [k2 _ (by omega)]; exact a5
  · rw [k2 _ (by omega)]; exact a6
  · rw [k2 _ (by omega)]; exact a7
def KeepT (S : SK) (m m2 : Nat → Nat → Int32) : Prop := ∀ b, b < S.1 → ¬ (b = 0 ∨ b = 33 ∨ b = 35 ∨ b = 36 ∨ b = 50 ∨ b = 56 ∨ b = 57 ∨ b = 65 ∨ b = 66) → m2 b = m b
theorem CText.growT {S S2 : SK} {m m2 : Nat → Nat → Int32} {l n T : Nat} {pr : Nat → List Nat} (hS : SkOK S) (hG : GrT S S2 n T) (h : CText S m l pr) (hm : KeepT S m m2) (ha : ∀ A, rf S 2 l = some A → A + 3 < S.1) (hl : l ≠ T) : CText S2 m2 l pr := by
  obtain ⟨A, N, fr, a1, a2, a3, a4⟩ := h
  have hA := ha A a1
  have h76 := hS.2.2
  refine ⟨A, N, fr, ?_, gt_tx hG a2 hA a3, a3, a4.ag (hm _ (by omega) (by omega)) (hm _ (by omega) (by omega))⟩
  rw [hG.2.2.1 2 l (by omega) (Or.inr hl)]
  exact a1
theorem CCoin.growT {S S2 : SK} {m m2 : Nat → Nat → Int32} {E : EN} {n T : Nat} (hS : SkOK S) (hG : GrT S S2 n T) (h : CCoin S m E) (hm : KeepT S m m2) (ha : ∀ k A, k < eN E → rf S 1 k = some A → A < S.1) : CCoin S2 m2 E := by
  intro k hk
  obtain ⟨A, a1, a2, a3, a4, a5, a6⟩ := h k hk
  have hA := ha k A hk a1
  have h76 := hS.2.2
  have e := hm A hA (by omega)
  refine ⟨A, ?_, ?_, a3, by rw [e]; exact a4, by rw [e]; exact a5, by rw [e]; exact a6⟩
  · rw [hG.2.2.1 1 k (by omega) (Or.inl (by decide))]
    exact a1
  · rw [hG.2.1 A hA]
    exact a2
theorem CI.growT {S S2 : SK} {m m2 : Nat → Nat → Int32} {g : Nat} {E : EN} {l n T : Nat} {q : QS} (hG : GrT S S2 n T) (h : CI S m g E l q) (hm : KeepT S m m2) (ha : ∀ k A, k < eN E → rf S 1 k = some A → A < S.1) (hb : ∀ A, rf S 2 l = some A → A + 3 < S.1) (hl : l < T) : CI S2 m2 g E l q := by
  obtain ⟨⟨hS, hE, hl6, hco, ht⟩, hg, ⟨d4, d5, d6, d7, d8, d9, d10, d11, ho⟩, hq⟩ := h
  have h76 := hS.2.2
  have e6 : m2 g = m g := hm g (by unfold isG at hg; omega) (by unfold isG at hg; omega)
  have e7 : m2 (g + 1) = m (g + 1) := hm (g + 1) (by unfold isG at hg; omega) (by unfold isG at hg; omega)
  refine ⟨⟨gt_ok hS hG (by omega), hE, hl6, hco.growT hS hG hm ha, ht.growT hS hG hm hb (by omega)⟩, hg, ⟨by rw [e6]; exact d4, by rw [e6]; exact d5, by rw [e6]; exact d6, by rw [e6]; exact d7, by rw [e6]; exact d8, by rw [e6]; exact d9, by rw [e6]; exact d10, by rw [e6]; exact d11, fun p hp => ?_⟩, hq⟩
  rw [e7]
  exact ho p hp
theorem RO.growT {S S2 : SK} {m m2 : Nat → Nat → Int32} {N T n : Nat} {kd td mo : Nat → Nat} {prs : Nat → Nat → List Nat} {pr : Nat → List Nat} (hS : SkOK S) (hG : GrT S S2 n T) (h : RO S m N T kd td mo prs) (hT : T < 6) (hm : KeepT S m m2) (h9 : m2 0 9 = nI (T + 1)) (h10 : m2 0 10 = m 0 10) (h15 : m2 50 15 = nI (T + 1)) (h17 : m2 50 17 = m 50 17) (hold : ∀ t, t < T → ∃ fr, TxM m2 t (prs t) fr) (hnew : CText S2 m2 T pr) (hnewM : ∃ fr, TxM m2 T pr fr) (htp : RTp m2) (h36 : m2 36 0 = nI 0) : RO S2 m2 N (T + 1) kd td mo (fun t => if t = T then pr else prs t) := by
  obtain ⟨⟨t1, t2, _, _, t5⟩, hI, hsh, _, hWd, hAd⟩ := h
  have h76 := hS.2.2
  have e := fun b (h1 : b < 76) (h2 : ¬ (b = 0 ∨ b = 33 ∨ b = 35 ∨ b = 36 ∨ b = 50 ∨ b = 56 ∨ b = 57 ∨ b = 65 ∨ b = 66)) => hm b (by omega) h2
  refine ⟨⟨by omega, hT, h9, h15, fun t ht => ?_⟩, ?_, hsh.e (fun b hb => e b (by omega) (by omega)), htp, ⟨fun k hk => by rw [e 64 (by omega) (by omega)]; exact hWd.1 k hk, h36⟩, ⟨fun c A hc hA => ?_, fun t A ht hA => ?_⟩⟩
  · by_cases w : t = T
    · subst w
      show CText S2 m2 t (if t = t then pr else prs t) ∧ ∃ fr, TxM m2 t (if t = t then pr else prs t) fr
      rw [if_pos rfl]
      exact ⟨hnew, hnewM⟩
    · show CText S2 m2 t (if t = T then pr else prs t) ∧ ∃ fr, TxM m2 t (if t = T then pr else prs t) fr
      rw [if_neg w]
      exact ⟨(t5 t (by omega)).1.growT hS hG hm (fun A => hAd.2 t A (by omega)) w, hold t (by omega)⟩
  · unfold RIm at hI ⊢
    rw [h10, h17, e 58 (by omega) (by omega), e 59 (by omega) (by omega)]
    rcases hI with y | ⟨y1, y2, d2, P2, N2, wh2, l2, q2, y3, y4, y5, y6⟩
    · exact Or.inl y
    · refine Or.inr ⟨y1, y2, d2, P2, N2, wh2, l2, q2, ?_, by omega, y5, y6⟩
      show CI S2 m2 6 (mkE d2 P2 N2 wh2 kd td mo (if l2 = T then pr else prs l2)) l2 q2
      rw [if_neg (show ¬ l2 = T by omega)]
      exact y3.growT hG hm (fun k A hk hA => hAd.1 k A (Nat.lt_of_lt_of_le hk y5) hA) (fun A hA => hAd.2 l2 A y4 hA) y4
  · rw [hG.2.2.1 1 c (by omega) (Or.inl (by decide))] at hA
    have := hAd.1 c A hc hA
    have := hG.1
    omega
  · have k1 := hG.1
    by_cases w : t = T
    · subst w
      rw [hG.2.2.2.2] at hA
      have : S.1 = A := by simpa using hA
      omega
    · rw [hG.2.2.1 2 t (by omega) (Or.inr w)] at hA
      have := hAd.2 t A (by omega) hA
      omega
theorem MV.growT {S S2 : SK} {m m2 : Nat → Nat → Int32} {E : EN} {l n T : Nat} {q : QS} (h : MV S m E l q) (hG : GrT S S2 n T) (hT : 1 ≤ T) (h37 : m2 50 37 = nI 0) (e : ∀ b, 51 ≤ b ∧ b ≤ 54 → m2 b = m b) (j50 : ∀ j, j ≤ 5 ∨ j = 10 ∨ j = 16 → m2 50 j = m 50 j) (hx : ∃ fr, TxM m2 l (eL E) fr) : MV S2 m2 E l q := by
  obtain ⟨hS, hE, hl, ⟨d0, d1, d2, d3, d4, d5, d10, d16, arr, _⟩, hq, _⟩ := h
  refine ⟨gt_ok hS hG hT, hE, hl, ⟨by rw [j50 0 (by omega)]; exact d0, by rw [j50 1 (by omega)]; exact d1, by rw [j50 2 (by omega)]; exact d2, by rw [j50 3 (by omega)]; exact d3, by rw [j50 4 (by omega)]; exact d4, by rw [j50 5 (by omega)]; exact d5, by rw [j50 10 (by omega)]; exact d10, by rw [j50 16 (by omega)]; exact d16, fun k hk => ?_, hx⟩, hq, Or.inl h37⟩
  rw [e 51 (by omega), e 52 (by omega), e 53 (by omega), e 54 (by omega)]
  exact arr k hk
