/-! PURE: by turns, the reference: its told answers are fresh -/
theorem MV.kc {S : SK} {m m2 : Nat → Nat → Int32} {E : EN} {l : Nat} {q : QS} {Z J : Nat → Prop} {L : Nat → Nat → Int64} (h : MV S m E l q) (ha : AgM Z J m m2) (hz : ∀ b, 51 ≤ b ∧ b ≤ 57 → ¬ Z b) (hj : ∀ j, J j → j = 37 ∨ 38 ≤ j) (hk : KC (sLg S L) m2 E) : MV (sLg S L) m2 E l q := by
  obtain ⟨hS, hE, hl, ⟨d0, d1, d2, d3, d4, d5, d10, d16, ha', fr, hx⟩, hq0, hK⟩ := h
  have e := fun b (hb : 51 ≤ b ∧ b ≤ 57) => ha.1 b (by omega) (hz b hb)
  have e5 := fun j (hb : j < 37) => ha.2 j (fun z => by have := hj j z; omega)
  refine ⟨hS, hE, hl, ⟨by rw [e5 _ (by decide)]; exact d0, by rw [e5 _ (by decide)]; exact d1, by rw [e5 _ (by decide)]; exact d2, by rw [e5 _ (by decide)]; exact d3, by rw [e5 _ (by decide)]; exact d4, by rw [e5 _ (by decide)]; exact d5, by rw [e5 _ (by decide)]; exact d10, by rw [e5 _ (by decide)]; exact d16, ?_, fr, hx.ag (e 56 (by decide)) (e 57 (by decide))⟩, hq0, hk⟩
  intro c hc
  rw [e 51 (by decide), e 52 (by decide), e 53 (by decide), e 54 (by decide)]
  exact ha' c hc
theorem pZ_k {S : SK} {m : Nat → Nat → Int32} {k a j : Nat} {v : Int32} (h : (sh S a).1 = k) (hv : v = 0 ∨ v = 1) : pZ (mk S m) k (some a) j v = some (mk S (w2 m a j v)) := by rw [pZ_mk, if_pos ⟨h, hv⟩]
def J37 (j : Nat) : Prop := j = 1 ∨ j = 2 ∨ j = 4 ∨ j = 10 ∨ j = 37
theorem M_goes {S : SK} {m : Nat → Nat → Int32} {E : EN} {l n : Nat} {q : QS} (h : MV S m E l q) (hP1 : 1 ≤ eP E) (hn : n ≤ 6) :
    ∃ L m2, f_X9_goesByTurns (mk S m) (some 50) (nI n) = some (mk (sLg S L) m2) ∧ MV (sLg S L) m2 E l q ∧ m2 50 37 = nI 0 ∧ EndM m2 71 0 (eP E) (solS E n 0 q).1 ∧ LinM m2 72 0 (solS E n 0 q).2 ∧ AgM (fun b => 66 ≤ b ∧ b ≤ 75) J37 m m2 := by
  have hS := h.1
  have hE := h.2.1
  have hk : (sh S 50).1 = 9 := by rw [sk50 hS]
  have clear : ∀ (r f i : Nat) (L : Nat → Nat → Int64) (m : Nat → Nat → Int32), i + r = 4096 → r < f → ∃ L2, f_X9_goesByTurns_22 f (mk (sLg S L) m) (some 50) (nI n) (nI i) = ((pZ (mk (sLg S L2) m) 9 (some 50) 37 ((1 : Int32))).bind fun h4 => (vc h4 9 (some 50) (f_X9_turns 12 h4 (some 50) ((0 : Int32)) (nI n))).bind fun q5 => (pZ q5 9 (some 50) 37 ((0 : Int32))).bind fun h6 => some h6) ∧ (∀ k, i ≤ k → k < 4096 → L2 68 k = -1) ∧ ∀ k, k < i → L2 68 k = L 68 k := by
    intro r
    induction r with
    | zero =>
      intro f i L m hi hf
      obtain ⟨f, rfl⟩ : ∃ k, f = k + 1 := ⟨f - 1, by omega⟩
      refine ⟨L, ?_, fun k _ _ => by omega, fun _ _ => rfl⟩
      show fb_X9_goesByTurns_22 (f_X9_goesByTurns_22 f) (mk (sLg S L) m) (some 50) (nI n) (nI i) = _
      unfold fb_X9_goesByTurns_22
      rw [if_neg (show ¬ nI i < (4096 : Int32) from fun z => by have := (nI_ltI (b := 4096) (by omega) (by omega)).1 z; omega)]
    | succ r ih =>
      intro f i L m hi hf
      obtain ⟨f, rfl⟩ : ∃ k, f = k + 1 := ⟨f - 1, by omega⟩
      have hS2 : SkOK (sLg S L) := sLg_ok hS
      have hk2 : (sh (sLg S L) 50).1 = 9 := by rw [sk50 hS2]
      obtain ⟨L2, e, h1, h2⟩ := ih f (i + 1) (w2 L 68 i (-1)) m (by omega) (by omega)
      refine ⟨L2, ?_, ?_, ?_⟩
      · show fb_X9_goesByTurns_22 (f_X9_goesByTurns_22 f) (mk (sLg S L) m) (some 50) (nI n) (nI i) = _
        unfold fb_X9_goesByTurns_22
        rw [if_pos (show nI i < (4096 : Int32) from (nI_ltI (b := 4096) (by omega) (by omega)).2 (by omega)), gR_k hk2, rk50_35 hS2, Option.bind_some, stL_n (sk68 hS2) (by omega) (by decide), Option.bind_some, bnd_eq, show nI i + (1 : Int32) = nI (i + 1) from nI_add i 1]
        exact e
      · intro k k1 k2
        by_cases z : k = i
        · subst z
          rw [h2 _ (by omega), w2_ap, if_pos ⟨rfl, rfl⟩]
        · exact h1 k (by omega) k2
      · intro k hk
        rw [h2 k (by omega), w2_ap, if_neg (by omega)]
  have zero : ∀ (r f i : Nat) (m : Nat → Nat → Int32), i + r = 4 → r < f → ∃ m2, f_X9_goesByTurns_2 f (mk S m) (some 50) (nI n) (nI i) = f_X9_goesByTurns_22 FU (mk S m2) (some 50) (nI n) ((0 : Int32)) ∧ (∀ k, i ≤ k → k < 4 → m2 75 k = nI 0) ∧ (∀ k, k < i → m2 75 k = m 75 k) ∧ Ag (fun b => b = 75) m m2 := by
    intro r
    induction r with
    | zero =>
      intro f i m hi hf
      obtain ⟨f, rfl⟩ : ∃ k, f = k + 1 := ⟨f - 1, by omega⟩
      refine ⟨m, ?_, fun k _ _ => by omega, fun _ _ => rfl, Ag.rf⟩
      show fb_X9_goesByTurns_2 (f_X9_goesByTurns_2 f) (mk S m) (some 50) (nI n) (nI i) = _
      unfold fb_X9_goesByTurns_2
      rw [if_neg (show ¬ nI i < (4 : Int32) from fun z => by have := (nI_ltI (b := 4) (by omega) (by omega)).1 z; omega)]
    | succ r ih =>
      intro f i m hi hf
      obtain ⟨f, rfl⟩ : ∃ k, f = k + 1 := ⟨f - 1, by omega⟩
      obtain ⟨m2, e, h1, h2, ag⟩ := ih f (i + 1) (w2 m 75 i 0) (by omega) (by omega)
      refine ⟨m2, ?_, ?_, ?_, (Ag.w2 (Z := fun b => b = 75) Ag.rf rfl).tr ag⟩
      · show fb_X9_goesByTurns_2 (f_X9_goesByTurns_2 f) (mk S m) (some 50) (nI n) (nI i) = _
        unfold fb_X9_goesByTurns_2
        rw [if_pos (show nI i < (4 : Int32) from (nI_ltI (b := 4) (by omega) (by omega)).2 (by omega)), gR_k hk, rk50_47 hS, Option.bind_some, sI_n (sk75 hS) (by omega) (by decide), Option.bind_some, bnd_eq, show nI i + (1 : Int32) = nI (i + 1) from nI_add i 1]
        exact e
      · intro k k1 k2
        by_cases z : k = i
        · subst z
          rw [h2 _ (by omega), w2_ap, if_pos ⟨rfl, rfl⟩]
          rfl
        · exact h1 k (by omega) k2
      · intro k hk
        rw [h2 k (by omega), w2_ap, if_neg (by omega)]
  obtain ⟨m1, e1, z1, _, ag1⟩ := zero 4 FU 0 m (by omega) (by unfold FU; omega)
  obtain ⟨L2, e2, z2, _⟩ := clear 4096 FU 0 (lg S) m1 (by omega) (by unfold FU; omega)
  have hS2 : SkOK (sLg S L2) := sLg_ok hS
  have hk2 : (sh (sLg S L2) 50).1 = 9 := by rw [sk50 hS2]
  have agA : AgM (fun b => b = 75) (fun j => j = 37) m (w2 m1 50 37 1) := AgM.w50 (AgM.of ag1 (by omega)) rfl
  have hM2 : MV (sLg S L2) (w2 m1 50 37 1) E l q := h.kc agA (fun b hb => by omega) (fun j hj => Or.inl hj) (Or.inr ⟨rfl, fun i hi => Or.inl (z2 i (Nat.zero_le _) hi)⟩)
  have hpd : PD (w2 m1 50 37 1) (fun _ => 0) := fun p hp => by
    rw [w2_ap, if_neg (by simp)]
    exact z1 p (Nat.zero_le _) hp
  obtain ⟨L3, m3, e3, hM3, _, hE3, hL3, ag3, _⟩ := M_turns hP1 n 12 (sLg S L2) (w2 m1 50 37 1) q 0 n (fun _ => 0) hM2 hpd (by omega) hn (by omega) (fun p => by omega)
  have hS3 := hM3.1
  have hk3 : (sh (sLg (sLg S L2) L3) 50).1 = 9 := by rw [sk50 hS3]
  have agB : AgM (fun _ => False) (fun j => j = 37) m3 (w2 m3 50 37 0) := AgM.w50 AgM.rf rfl
  have hM4 : MV (sLg (sLg (sLg S L2) L3) L3) (w2 m3 50 37 0) E l q := hM3.kc agB (fun _ _ => id) (fun j hj => Or.inl hj) (Or.inl rfl)
  refine ⟨L3, w2 m3 50 37 0, ?_, hM4, rfl, ?_, ?_, ?_⟩
  · show f_X9_goesByTurns_2 FU (mk S m) (some 50) (nI n) (nI 0) = _
    rw [e1]
    have e2' : f_X9_goesByTurns_22 FU (mk S m1) (some 50) (nI n) (0 : Int32) = _ := e2
    rw [e2', pZ_k hk2 (Or.inr rfl), Option.bind_some, vc_k hk2]
    show (f_X9_turns 12 (mk (sLg S L2) (w2 m1 50 37 1)) (some 50) (nI 0) (nI n)).bind _ = _
    rw [e3, Option.bind_some, pZ_k hk3 (Or.inl rfl), Option.bind_some]
    rfl
  · intro p hp
    have := hE3 p hp
    show m3 71 (0 + p) = _
    rw [show 4 * 0 + p = 0 + p by omega] at this
    rw [this]
    congr 1
    show (solS E n 0 q).1 p - ((0 : Nat) : Int) = (solS E n 0 q).1 p
    omega
  · intro j hj
    have := hL3 j hj
    rw [show 7 * 0 + 0 + j = 0 + j by omega] at this
    exact this
  · exact ((agA.mono (fun b hb => by omega) (fun j hj => by unfold J37; omega)).tr (ag3.mono (fun _ z => z) (fun j hj => by unfold JQ at hj; unfold J37; omega))).tr (agB.mono (fun _ z => z.elim) (fun j hj => by unfold J37; omega))
