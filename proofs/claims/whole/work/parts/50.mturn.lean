/-! PURE: by turns, the reference -/
def PD (m : Nat → Nat → Int32) (pd : Nat → Nat) : Prop := ∀ p, p < 4 → m 75 p = nI (pd p)
theorem M_ends {S : SK} {m : Nat → Nat → Int32} {E : EN} {l : Nat} {q : QS} (h : MV S m E l q) {t : Nat} {pd : Nat → Nat} (hpd : PD m pd) (ht : t ≤ 6) :
    ∃ L m2, f_X9_endsNow (mk S m) (some 50) (nI t) = some (mk (sLg S L) m2) ∧ MV (sLg S L) m2 E l q ∧ EndM m2 71 (4 * t) (eP E) (fun p => (wthS E q p).toInt - (pd p : Int)) ∧ AgM (fun b => ZA b ∨ b = 71) J0 m m2 := by
  have hP := h.2.1.2.1
  have loop : ∀ (r f i : Nat) (S : SK) (m : Nat → Nat → Int32), i + r = eP E → r < f → MV S m E l q → PD m pd → ∃ L m2, f_X9_endsNow_2 f (mk S m) (some 50) (nI t) (nI i) = some (mk (sLg S L) m2) ∧ MV (sLg S L) m2 E l q ∧ (∀ k, i ≤ k → k < eP E → m2 71 (4 * t + k) = Int32.ofInt ((wthS E q k).toInt - (pd k : Int))) ∧ (∀ j, j < 4 * t + i → m2 71 j = m 71 j) ∧ AgM (fun b => ZA b ∨ b = 71) J0 m m2 := by
    intro r
    induction r with
    | zero =>
      intro f i S m hi hf hM hpd
      obtain ⟨f, rfl⟩ : ∃ k, f = k + 1 := ⟨f - 1, by omega⟩
      have hk : (sh S 50).1 = 9 := by rw [sk50 hM.1]
      refine ⟨lg S, m, ?_, hM, fun k _ _ => by omega, fun _ _ => rfl, AgM.rf⟩
      show fb_X9_endsNow_2 (f_X9_endsNow_2 f) (mk S m) (some 50) (nI t) (nI i) = _
      unfold fb_X9_endsNow_2
      rw [gI_k hk, hM.2.2.2.1.2.2.2.1, Option.bind_some, if_neg (by rw [nI_ltI (by omega) (by omega)]; omega)]
      rfl
    | succ r ih =>
      intro f i S m hi hf hM hpd
      obtain ⟨f, rfl⟩ : ∃ k, f = k + 1 := ⟨f - 1, by omega⟩
      have hk : (sh S 50).1 = 9 := by rw [sk50 hM.1]
      obtain ⟨L1, m1, e1, hM1, ag1⟩ := M_worth hM (p := i) (by omega)
      have hS1 := hM1.1
      have hk1 : (sh (sLg S L1) 50).1 = 9 := by rw [sk50 hS1]
      have e75 : m1 75 = m 75 := ag1.1 75 (by decide) (by unfold ZA; omega)
      have agw : AgM (fun b => b = 71) J0 m1 (w2 m1 71 (4 * t + i) (Int32.ofInt ((wthS E q i).toInt - (pd i : Int)))) := AgM.w (Z := fun b => b = 71) AgM.rf (by decide) rfl
      have hM2 := hM1.ag agw (fun b hb => by omega) (fun j _ => id)
      obtain ⟨L3, m3, e3, hM3, h1, h2, ag3⟩ := ih f (i + 1) (sLg S L1) _ (by omega) (by omega) hM2 (fun p hp => by rw [w2_ap, if_neg (by simp), e75]; exact hpd p hp)
      refine ⟨L3, m3, ?_, hM3, ?_, ?_, ?_⟩
      · show fb_X9_endsNow_2 (f_X9_endsNow_2 f) (mk S m) (some 50) (nI t) (nI i) = _
        unfold fb_X9_endsNow_2
        rw [gI_k hk, hM.2.2.2.1.2.2.2.1, Option.bind_some, if_pos (by rw [nI_ltI (by omega) (by omega)]; omega), gR_k hk, rk50_43 hM.1, Option.bind_some, vc_k hk, e1, Option.bind_some]
        show (gR (mk (sLg S L1) m1) 9 (some 50) 47).bind _ = _
        rw [gR_k hk1, rk50_47 hS1, Option.bind_some]
        show (rI (mk (sLg S L1) m1) (some 75) (nI i)).bind _ = _
        rw [rI_n (sk75 hS1) (by omega) (by decide), Option.bind_some]
        show (sI (mk (sLg S L1) m1) (some 71) ((4 : Int32) * nI t + nI i) (wthS E q i - m1 75 i)).bind _ = _
        rw [e75, hpd i (by omega), oI_sub, show (4 : Int32) * nI t = nI (4 * t) from pk_mul 4 t, nI_add, sI_n (sk71 hS1) (by omega) (by decide), Option.bind_some, bnd_eq, show nI i + (1 : Int32) = nI (i + 1) from nI_add i 1]
        exact e3
      · intro k k1 k2
        by_cases z : k = i
        · subst z
          rw [h2 _ (by omega), w2_ap, if_pos ⟨rfl, rfl⟩]
        · exact h1 k (by omega) k2
      · intro j hj
        rw [h2 j (by omega), w2_ap, if_neg (by omega), ag1.1 71 (by decide) (by unfold ZA; omega)]
      · exact ((ag1.mono (fun b hb => Or.inl hb) (fun _ z => z)).tr (agw.mono (fun b hb => Or.inr hb) (fun _ z => z))).tr ag3
  obtain ⟨L, m2, e, hM2, h1, _, ag⟩ := loop (eP E) FU 0 S m (by omega) (by unfold FU; omega) h hpd
  exact ⟨L, m2, e, hM2, fun p hp => h1 p (Nat.zero_le _) hp, ag⟩
def Z34 (b : Nat) : Prop := b = 73 ∨ b = 74
theorem getD_cons (a : Nat) (L : List Nat) (j : Nat) : (a :: L).getD (j + 1) 0 = L.getD j 0 := rfl
theorem M_take30 {S : SK} {m : Nat → Nat → Int32} {E : EN} {l : Nat} {q : QS} (h : MV S m E l q) {t n mv : Nat} {F : Nat → Int} {Ls : List Nat} (hn : n ≤ 6) (ht : t < n) (hF : EndM m 71 (4 * (t + 1)) (eP E) F) (hL : LinM m 72 (7 * (t + 1) + (t + 1)) Ls) (hlen : Ls.length + (t + 1) = n) :
    ∃ m2, f_X9_takes_30 (mk S m) (some 50) (nI t) (nI n) (nI mv) = some (mk S m2) ∧ MV S m2 E l q ∧ EndM m2 73 (4 * t) (eP E) F ∧ LinM m2 74 (7 * t + t) (mv :: Ls) ∧ AgM Z34 J0 m m2 ∧ (∀ j, j < 4 * t → m2 73 j = m 73 j) ∧ ∀ j, j < 7 * t → m2 74 j = m 74 j := by
  have hS := h.1
  have hP := h.2.1.2.1
  have hk : (sh S 50).1 = 9 := by rw [sk50 hS]
  obtain ⟨m1, e1, c1, c1', ag1⟩ := M_cp33 hS (t := t) (n := n) (P := eP E) (mv := nI mv) hP (by omega) (eP E) FU 0 m (by omega) (by unfold FU; omega) h.2.2.2.1.2.2.2.1
  let m2 := w2 m1 74 (7 * t + t) (nI mv)
  obtain ⟨m3, e3, c3, c3', ag3⟩ := M_cp90 hS (t := t) (n := n) (P := eP E) hn ht (n - (t + 1)) FU (t + 1) m2 (by omega) (by unfold FU; omega)
  have ag2 : Ag (fun b => b = 74) m1 m2 := Ag.w2 (Z := fun b => b = 74) Ag.rf rfl
  have agA : Ag Z34 m m3 := ((ag1.mono (fun b hb => Or.inl hb)).tr (ag2.mono (fun b hb => Or.inr hb))).tr (ag3.mono (fun b hb => Or.inr hb))
  have agM : AgM Z34 J0 m m3 := AgM.of agA (by unfold Z34; omega)
  have e73 : m3 73 = m1 73 := (ag3 73 (by omega)).trans (ag2 73 (by omega))
  refine ⟨m3, ?_, h.ag agM (fun b hb => by unfold Z34; omega) (fun j _ => id), ?_, ?_, agM, ?_, ?_⟩
  · unfold f_X9_takes_30
    show f_X9_takes_33 FU (mk S m) (some 50) (nI t) (nI n) (nI mv) (nI 0) = _
    rw [e1, gR_k hk, rk50_46 hS, Option.bind_some, show (7 : Int32) * nI t = nI (7 * t) from pk_mul 7 t, nI_add, sI_n (sk74 hS) (by omega) (by decide), Option.bind_some, bnd_eq]
    exact e3
  · intro p hp
    rw [e73, c1 p (Nat.zero_le _) hp]
    exact hF p hp
  · intro j hj
    have hj' : j < Ls.length + 1 := hj
    cases j with
    | zero =>
      rw [c3' _ (by omega)]
      show w2 m1 74 (7 * t + t) (nI mv) 74 (7 * t + t + 0) = _
      rw [w2_ap, if_pos ⟨rfl, by omega⟩]
      rfl
    | succ j =>
      have h1 := c3 (t + (j + 1)) (by omega) (by omega)
      rw [show 7 * t + t + (j + 1) = 7 * t + (t + (j + 1)) by omega, h1, getD_cons]
      show w2 m1 74 (7 * t + t) (nI mv) 72 _ = _
      rw [w2_ap, if_neg (by simp), ag1 72 (by omega), show 7 * (t + 1) + (t + (j + 1)) = 7 * (t + 1) + (t + 1) + j by omega]
      exact hL j (by omega)
  · intro j hj
    rw [e73, c1' j (by omega)]
  · intro j hj
    rw [c3' j (by omega)]
    show w2 m1 74 (7 * t + t) (nI mv) 74 j = _
    rw [w2_ap, if_neg (by omega), ag1 74 (by omega)]
theorem M_turns {E : EN} {l : Nat} (hP1 : 1 ≤ eP E) : ∀ (k f : Nat) (S : SK) (m : Nat → Nat → Int32) (q : QS) (t n : Nat) (pd : Nat → Nat), MV S m E l q → PD m pd → t + k = n → n ≤ 6 → k < f → (∀ p, pd p ≤ 60 * t) →
    ∃ L m2, f_X9_turns f (mk S m) (some 50) (nI t) (nI n) = some (mk (sLg S L) m2) ∧ MV (sLg S L) m2 E l q ∧ PD m2 pd ∧ EndM m2 71 (4 * t) (eP E) (fun p => (solS E k t q).1 p - (pd p : Int)) ∧ LinM m2 72 (7 * t + t) (solS E k t q).2 ∧ AgM (fun b => 66 ≤ b ∧ b ≤ 75) JQ m m2 ∧ (∀ j, j < 4 * t → m2 70 j = m 70 j) ∧ (∀ j, j < 4 * t → m2 73 j = m 73 j) ∧ ∀ j, j < 7 * t → m2 74 j = m 74 j := by
  intro k
  induction k with
  | zero =>
    intro f S m q t n pd hM hpd htn hn hf hpb
    obtain ⟨f, rfl⟩ : ∃ k, f = k + 1 := ⟨f - 1, by omega⟩
    have htn : t = n := by omega
    subst htn
    have hk : (sh S 50).1 = 9 := by rw [sk50 hM.1]
    obtain ⟨L, m2, e, hM2, hE2, ag⟩ := M_ends hM hpd hn
    refine ⟨L, m2, ?_, hM2, ?_, hE2, fun j hj => absurd hj (Nat.not_lt_zero _), ag.mono (fun b hb => by unfold ZA at hb; omega) (fun _ z => z.elim), ?_, ?_, ?_⟩
    · show fe_X9_turns (f_X9_turns f) (mk S m) (some 50) (nI t) (nI t) = _
      unfold fe_X9_turns
      rw [if_pos rfl, vc_k hk, e, Option.bind_some]
    · intro p hp
      rw [ag.1 75 (by decide) (by unfold ZA; omega)]
      exact hpd p hp
    · intro j _
      rw [ag.1 70 (by decide) (by unfold ZA; omega)]
    · intro j _
      rw [ag.1 73 (by decide) (by unfold ZA; omega)]
    · intro j _
      rw [ag.1 74 (by decide) (by unfold ZA; omega)]
  | succ k ih =>
    intro f S m q t n pd hM hpd htn hn hf hpb
    obtain ⟨f, rfl⟩ : ∃ k, f = k + 1 := ⟨f - 1, by omega⟩
    have hS := hM.1
    have hE := hM.2.1
    have hP := hE.2.1
    have hN := hE.2.2.1
    have hq := hM.2.2.2.2.1
    have hk : (sh S 50).1 = 9 := by rw [sk50 hS]
    have g := hM.2.2.2.1
    generalize hu : t % eP E = u
    have huP : u < eP E := by
      rw [← hu]
      exact Nat.mod_lt _ (by omega)
    -- what stays
    let Zt : Nat → Prop := fun b => 66 ≤ b ∧ b ≤ 75
    have zA : ∀ b, ZA b → Zt b := fun b hb => by unfold ZA at hb; show 66 ≤ b ∧ b ≤ 75; omega
    obtain ⟨m1, e1, hM1, hK1, ag1, hlo1⟩ := M_keeps hM (d := t) (by omega)
    have g1 := hM1.2.2.2.1
    have ag2 : AgM (fun _ => False) JQ m1 (w2 m1 50 2 (nI (min (q.2.1 + 1) 99))) := AgM.w50 AgM.rf (by unfold JQ; omega)
    have hM2 : MV S (w2 m1 50 2 (nI (min (q.2.1 + 1) 99))) E l (waitS q) := hM1.set hq.wait ag2 (fun _ _ => id) (fun j hj => by unfold JQ; omega) g1.2.1 rfl g1.2.2.2.2.1 g1.2.2.2.2.2.2.1
    have hpd2 : PD (w2 m1 50 2 (nI (min (q.2.1 + 1) 99))) pd := by
      intro p hp
      rw [ag2.1 75 (by decide) id, ag1.1 75 (by decide) (by unfold Z70; omega)]
      exact hpd p hp
    obtain ⟨L3, m3, e3, hM3, hpd3, hE3, hL3, ag3, k70, k73, k74⟩ := ih f S _ (waitS q) (t + 1) n pd hM2 hpd2 (by omega) hn (by omega) (fun p => by have := hpb p; omega)
    have hS3 := hM3.1
    have hk3 : (sh (sLg S L3) 50).1 = 9 := by rw [sk50 hS3]
    have hK3 : KP m3 t q := by
      unfold KP
      rw [k70 _ (by omega), k70 _ (by omega), k70 _ (by omega), k70 _ (by omega), ag2.1 70 (by decide) id]
      exact hK1
    obtain ⟨m4, e4, hM4, ag4⟩ := M_lays hM3 (d := t) (by omega) hK3 hq
    have e4b : ∀ b, b ≠ 50 → m4 b = m3 b := fun b hb => ag4.1 b hb id
    have hE4 : EndM m4 71 (4 * (t + 1)) (eP E) (fun p => (solS E k (t + 1) (waitS q)).1 p - (pd p : Int)) := fun p hp => by rw [e4b 71 (by decide)]; exact hE3 p hp
    have hL4 : LinM m4 72 (7 * (t + 1) + (t + 1)) (solS E k (t + 1) (waitS q)).2 := fun j hj => by rw [e4b 72 (by decide)]; exact hL3 j hj
    have hlen4 := (sol_rb hE k (t + 1) (waitS q)).1
    obtain ⟨m5, e5, hM5, hE5, hL5, ag5, k73', k74'⟩ := M_take30 hM4 (mv := 0) hn (by omega) hE4 hL4 (by omega)
    have e5b : ∀ b, b ≠ 50 → b ≠ 73 → b ≠ 74 → m5 b = m4 b := fun b h1 h2 h3 => ag5.1 b h1 (by unfold Z34; omega)
    have hpd5 : PD m5 pd := fun p hp => by
      rw [e5b 75 (by decide) (by decide) (by decide), e4b 75 (by decide)]
      exact hpd3 p hp
    have hK5 : KP m5 t q := by
      unfold KP
      rw [e5b 70 (by decide) (by decide) (by decide), e4b 70 (by decide)]
      exact hK3
    have loop : ∀ (r f' i : Nat) (S : SK) (m : Nat → Nat → Int32) (a : RT), i + r = eN E → r < f' → MV S m E l q → PD m pd → KP m t q → RB (k + 1) a → EndM m 73 (4 * t) (eP E) (fun p => a.1 p - (pd p : Int)) → LinM m 74 (7 * t + t) a.2 →
        ∃ L m2, f_X9_turns_64 (f_X9_turns f) f' (mk S m) (some 50) (nI t) (nI n) (nI u) (nI i) = some (mk (sLg S L) m2) ∧ MV (sLg S L) m2 E l q ∧ PD m2 pd ∧ EndM m2 71 (4 * t) (eP E) (fun p => (slS E (solS E k (t + 1)) q u r i a).1 p - (pd p : Int)) ∧ LinM m2 72 (7 * t + t) (slS E (solS E k (t + 1)) q u r i a).2 ∧ AgM Zt JQ m m2 ∧ (∀ j, j < 4 * t → m2 70 j = m 70 j) ∧ (∀ j, j < 4 * t → m2 73 j = m 73 j) ∧ ∀ j, j < 7 * t → m2 74 j = m 74 j := by
      intro r
      induction r with
      | zero =>
        intro f' i S m a hi hf' hM hpd hK hRB hEa hLa
        obtain ⟨f', rfl⟩ : ∃ k, f' = k + 1 := ⟨f' - 1, by omega⟩
        have hS := hM.1
        have hk : (sh S 50).1 = 9 := by rw [sk50 hS]
        obtain ⟨m1, e1, c1, c1', ag1⟩ := M_cp164 hS (rr := f_X9_turns f) (t := t) (n := n) (P := eP E) hP (by omega) (eP E) FU 0 m (by omega) (by unfold FU; omega) hM.2.2.2.1.2.2.2.1
        obtain ⟨m2, e2, c2, c2', ag2⟩ := M_cp204 hS (rr := f_X9_turns f) (t := t) (n := n) (P := eP E) hn (by omega) (n - t) FU t m1 (by omega) (by unfold FU; omega)
        have agA : AgM (fun b => b = 71 ∨ b = 72) J0 m m2 := AgM.of ((ag1.mono (fun b hb => Or.inl hb)).tr (ag2.mono (fun b hb => Or.inr hb))) (by omega)
        have eb : ∀ b, b ≠ 50 → b ≠ 71 → b ≠ 72 → m2 b = m b := fun b h1 h2 h3 => agA.1 b h1 (by omega)
        refine ⟨lg S, m2, ?_, hM.ag agA (fun b hb => by omega) (fun j _ => id), ?_, ?_, ?_, agA.mono (fun b hb => by show 66 ≤ b ∧ b ≤ 75; omega) (fun _ z => z.elim), ?_, ?_, ?_⟩
        · show fb_X9_turns_64 (f_X9_turns f) (f_X9_turns_64 (f_X9_turns f) f') (mk S m) (some 50) (nI t) (nI n) (nI u) (nI i) = _
          unfold fb_X9_turns_64
          rw [gI_k hk, hM.2.2.2.1.2.2.2.2.2.1, Option.bind_some, if_neg (by rw [nI_ltI (by omega) (by omega)]; omega)]
          show f_X9_turns_164 (f_X9_turns f) FU (mk S m) (some 50) (nI t) (nI n) (nI 0) = _
          rw [e1]
          exact e2
        · intro p hp
          rw [eb 75 (by decide) (by decide) (by decide)]
          exact hpd p hp
        · intro p hp
          rw [ag2 71 (by omega), c1 p (Nat.zero_le _) hp]
          exact hEa p hp
        · intro j hj
          have hj' : j < a.2.length := hj
          have hl := hRB.1
          rw [show 7 * t + t + j = 7 * t + (t + j) by omega, c2 (t + j) (by omega) (by omega), ag1 74 (by omega), show 7 * t + (t + j) = 7 * t + t + j by omega]
          exact hLa j hj'
        · intro j _
          rw [eb 70 (by decide) (by decide) (by decide)]
        · intro j _
          rw [eb 73 (by decide) (by decide) (by decide)]
        · intro j _
          rw [eb 74 (by decide) (by decide) (by decide)]
      | succ r ihr =>
        intro f' i S m a hi hf' hM hpd hK hRB hEa hLa
        obtain ⟨f', rfl⟩ : ∃ k, f' = k + 1 := ⟨f' - 1, by omega⟩
        have hS := hM.1
        have hk : (sh S 50).1 = 9 := by rw [sk50 hS]
        have hiN : i < eN E := by omega
        have hwh := M_whose hM hiN
        have hEi := hE.2.2.2 i hiN
        have e155 : ∀ (h : XM) (f'' : Nat), f_X9_turns_155 (f_X9_turns f) (f_X9_turns_64 (f_X9_turns f) f'') h (some 50) (nI t) (nI n) (nI u) (nI i) = f_X9_turns_64 (f_X9_turns f) f'' h (some 50) (nI t) (nI n) (nI u) (nI (i + 1)) := by
          intro h f''
          unfold f_X9_turns_155
          rw [bnd_eq, show nI i + (1 : Int32) = nI (i + 1) from nI_add i 1]
        have skip : ¬ (eW E i = u ∧ canS E q i = true) → ∃ L m2, f_X9_turns_64 (f_X9_turns f) f' (mk S m) (some 50) (nI t) (nI n) (nI u) (nI (i + 1)) = some (mk (sLg S L) m2) ∧ MV (sLg S L) m2 E l q ∧ PD m2 pd ∧ EndM m2 71 (4 * t) (eP E) (fun p => (slS E (solS E k (t + 1)) q u (r + 1) i a).1 p - (pd p : Int)) ∧ LinM m2 72 (7 * t + t) (slS E (solS E k (t + 1)) q u (r + 1) i a).2 ∧ AgM Zt JQ m m2 ∧ (∀ j, j < 4 * t → m2 70 j = m 70 j) ∧ (∀ j, j < 4 * t → m2 73 j = m 73 j) ∧ ∀ j, j < 7 * t → m2 74 j = m 74 j := by
          intro hno
          have ew : slS E (solS E k (t + 1)) q u (r + 1) i a = slS E (solS E k (t + 1)) q u r (i + 1) a := by
            show slS E (solS E k (t + 1)) q u r (i + 1) (if eW E i = u ∧ canS E q i = true then _ else a) = _
            rw [if_neg hno]
          rw [ew]
          exact ihr f' (i + 1) S m a (by omega) (by omega) hM hpd hK hRB hEa hLa
        show ∃ L m2, fb_X9_turns_64 (f_X9_turns f) (f_X9_turns_64 (f_X9_turns f) f') (mk S m) (some 50) (nI t) (nI n) (nI u) (nI i) = _ ∧ _
        unfold fb_X9_turns_64
        rw [gI_k hk, hM.2.2.2.1.2.2.2.2.2.1, Option.bind_some, if_pos (by rw [nI_ltI (by omega) (by omega)]; omega), hwh.1, Option.bind_some, hwh.2, Option.bind_some]
        by_cases hw : eW E i = u
        · rw [if_pos (show nI (eW E i) = nI u by rw [hw]), vc_k hk, M_canPut hM hiN, Option.bind_some]
          by_cases hcan : canS E q i = true
          · rw [hcan, if_neg (show ¬ nI (if true = true then 1 else 0) = (0 : Int32) by decide)]
            have hcs := cst_le hE hiN
            generalize hx : solS E k (t + 1) (putS E q i) = x
            have hxb : RB k x := by
              rw [← hx]
              exact sol_rb hE k (t + 1) (putS E q i)
            have ew : slS E (solS E k (t + 1)) q u (r + 1) i a = slS E (solS E k (t + 1)) q u r (i + 1) (if a.1 u < x.1 u - (cstS E i : Int) then tkS u (cstS E i) (i + 1) x else a) := by
              show slS E (solS E k (t + 1)) q u r (i + 1) (if eW E i = u ∧ canS E q i = true then _ else a) = _
              rw [if_pos ⟨hw, hcan⟩, hx]
            rw [ew]
            obtain ⟨L1, m1, e1, hM1, ag1⟩ := M_put hM hiN
            have hS1 := hM1.1
            have hk1 : (sh (sLg S L1) 50).1 = 9 := by rw [sk50 hS1]
            have b1 : ∀ b, b ≠ 50 → b ≠ 66 → b ≠ 67 → b ≠ 69 → m1 b = m b := fun b h1 h2 h3 h4 => ag1.1 b h1 (by unfold ZA; omega)
            have hpdu : m1 75 u = nI (pd u) := by
              rw [b1 75 (by decide) (by decide) (by decide) (by decide)]
              exact hpd u (by omega)
            have agp : AgM (fun b => b = 75) J0 m1 (w2 m1 75 u (nI (pd u + cstS E i))) := AgM.w (Z := fun b => b = 75) AgM.rf (by decide) rfl
            have hMp := hM1.ag agp (fun b hb => by omega) (fun j _ => id)
            have hpdp : PD (w2 m1 75 u (nI (pd u + cstS E i))) (fun p => if p = u then pd u + cstS E i else pd p) := by
              intro p hp
              rw [w2_ap]
              by_cases z : p = u
              · rw [if_pos ⟨rfl, z⟩]
                show _ = nI (if p = u then _ else _)
                rw [if_pos z]
              · rw [if_neg (fun y => z y.2), b1 75 (by decide) (by decide) (by decide) (by decide)]
                show _ = nI (if p = u then _ else _)
                rw [if_neg z]
                exact hpd p hp
            obtain ⟨L3, m3, e3, hM3, hpd3, hE3, hL3, ag3, k70, k73, k74⟩ := ih f (sLg S L1) _ (putS E q i) (t + 1) n (fun p => if p = u then pd u + cstS E i else pd p) hMp hpdp (by omega) hn (by omega) (fun p => by
              have h1 := hpb p
              have h2 := hpb u
              show (if p = u then pd u + cstS E i else pd p) ≤ 60 * (t + 1)
              split <;> omega)
            have hS3 := hM3.1
            have hk3 : (sh (sLg (sLg S L1) L3) 50).1 = 9 := by rw [sk50 hS3]
            have hpu3 : m3 75 u = nI (pd u + cstS E i) := by
              have this : m3 75 u = nI (if u = u then pd u + cstS E i else pd u) := hpd3 u (by omega)
              rw [if_pos rfl] at this
              exact this
            have agq : AgM (fun b => b = 75) J0 m3 (w2 m3 75 u (nI (pd u))) := AgM.w (Z := fun b => b = 75) AgM.rf (by decide) rfl
            have hMq := hM3.ag agq (fun b hb => by omega) (fun j _ => id)
            have hpdq : PD (w2 m3 75 u (nI (pd u))) pd := by
              intro p hp
              rw [w2_ap]
              by_cases z : p = u
              · rw [if_pos ⟨rfl, z⟩, z]
              · rw [if_neg (fun y => z y.2)]
                have this : m3 75 p = nI (if p = u then pd u + cstS E i else pd p) := hpd3 p hp
                rw [if_neg z] at this
                exact this
            have hKq : KP (w2 m3 75 u (nI (pd u))) t q := by
              have e70 : ∀ j, j < 4 * t + 4 → w2 m3 75 u (nI (pd u)) 70 j = m 70 j := fun j hj => by
                rw [w2_ap, if_neg (by simp), k70 j (by omega), w2_ap, if_neg (by simp), b1 70 (by decide) (by decide) (by decide) (by decide)]
              unfold KP
              rw [e70 _ (by omega), e70 _ (by omega), e70 _ (by omega), e70 _ (by omega)]
              exact hK
            obtain ⟨m4, e4, hM4, ag4⟩ := M_lays hMq (d := t) (by omega) hKq hq
            have b4 : ∀ b, b ≠ 50 → b ≠ 75 → m4 b = m3 b := fun b h1 h2 => by
              rw [ag4.1 b h1 id, agq.1 b h1 h2]
            have hpd4 : PD m4 pd := fun p hp => by
              rw [ag4.1 75 (by decide) id]
              exact hpdq p hp
            have hK4 : KP m4 t q := by
              unfold KP
              rw [ag4.1 70 (by decide) id]
              exact hKq
            have hE4 : EndM m4 71 (4 * (t + 1)) (eP E) (fun p => (tkS u (cstS E i) (i + 1) x).1 p - (pd p : Int)) := by
              intro p hp
              rw [b4 71 (by decide) (by decide), hE3 p hp, hx]
              congr 1
              show x.1 p - ((if p = u then pd u + cstS E i else pd p : Nat) : Int) = (if p = u then x.1 p - (cstS E i : Int) else x.1 p) - (pd p : Int)
              by_cases z : p = u
              · rw [if_pos z, if_pos z, z]
                omega
              · rw [if_neg z, if_neg z]
            have hL4 : LinM m4 72 (7 * (t + 1) + (t + 1)) x.2 := by
              intro j hj
              rw [b4 72 (by decide) (by decide)]
              rw [hx] at hL3
              exact hL3 j hj
            have row73 : ∀ j, j < 4 * t + 4 → m4 73 j = m 73 j := fun j hj => by
              rw [b4 73 (by decide) (by decide), k73 j (by omega), w2_ap, if_neg (by simp), b1 73 (by decide) (by decide) (by decide) (by decide)]
            have row74 : ∀ j, j < 7 * t + 7 → m4 74 j = m 74 j := fun j hj => by
              rw [b4 74 (by decide) (by decide), k74 j (by omega), w2_ap, if_neg (by simp), b1 74 (by decide) (by decide) (by decide) (by decide)]
            have row70 : ∀ j, j < 4 * t → m4 70 j = m 70 j := fun j hj => by
              rw [b4 70 (by decide) (by decide), k70 j (by omega), w2_ap, if_neg (by simp), b1 70 (by decide) (by decide) (by decide) (by decide)]
            have agm4 : AgM Zt JQ m m4 := ((((ag1.mono zA (fun _ z => z)).tr (agp.mono (fun b hb => by show 66 ≤ b ∧ b ≤ 75; omega) (fun _ z => z.elim))).tr ag3).tr (agq.mono (fun b hb => by show 66 ≤ b ∧ b ≤ 75; omega) (fun _ z => z.elim))).tr (ag4.mono (fun _ z => z.elim) (fun _ z => z))
            have hEa4 : EndM m4 73 (4 * t) (eP E) (fun p => a.1 p - (pd p : Int)) := fun p hp => by
              rw [row73 _ (by omega)]
              exact hEa p hp
            have hLa4 : LinM m4 74 (7 * t + t) a.2 := fun j hj => by
              have hl := hRB.1
              rw [row74 _ (by omega)]
              exact hLa j hj
            have hcmp : (Int32.ofInt (a.1 u - (pd u : Int)) < Int32.ofInt ((tkS u (cstS E i) (i + 1) x).1 u - (pd u : Int))) ↔ a.1 u < x.1 u - (cstS E i : Int) := by
              have a1 := hRB.2.1 u
              have a2 := hxb.2.1 u
              have a3 := hpb u
              have e : (tkS u (cstS E i) (i + 1) x).1 u = x.1 u - (cstS E i : Int) := if_pos rfl
              rw [e, oI_lt (by omega) (by omega) (by omega) (by omega)]
              omega
            have r71 : (mk (sLg (sLg S L1) L3) m4) = mk (sLg (sLg S L1) L3) m4 := rfl
            have takes : ∃ m5, f_X9_takes (mk (sLg (sLg S L1) L3) m4) (some 50) (nI t) (nI n) (nI u) (nI (i + 1)) (0 : Int32) = some (mk (sLg (sLg S L1) L3) m5) ∧ MV (sLg (sLg S L1) L3) m5 E l q ∧ EndM m5 73 (4 * t) (eP E) (fun p => (if a.1 u < x.1 u - (cstS E i : Int) then tkS u (cstS E i) (i + 1) x else a).1 p - (pd p : Int)) ∧ LinM m5 74 (7 * t + t) (if a.1 u < x.1 u - (cstS E i : Int) then tkS u (cstS E i) (i + 1) x else a).2 ∧ AgM Z34 J0 m4 m5 ∧ (∀ j, j < 4 * t → m5 73 j = m4 73 j) ∧ ∀ j, j < 7 * t → m5 74 j = m4 74 j := by
              unfold f_X9_takes
              rw [if_pos (show (0 : Int32) = 0 from rfl), gR_k hk3, rk50_43 hS3, Option.bind_some, show nI t + (1 : Int32) = nI (t + 1) from nI_add t 1, show (4 : Int32) * nI (t + 1) = nI (4 * (t + 1)) from pk_mul 4 (t + 1), nI_add, rI_n (sk71 hS3) (by omega) (by decide), Option.bind_some, gR_k hk3, rk50_45 hS3, Option.bind_some, show (4 : Int32) * nI t = nI (4 * t) from pk_mul 4 t, nI_add, rI_n (sk73 hS3) (by omega) (by decide), Option.bind_some, hE4 u huP, hEa4 u huP]
              by_cases z : a.1 u < x.1 u - (cstS E i : Int)
              · rw [if_pos (hcmp.2 z), if_pos z]
                obtain ⟨m5, e5, hM5, hE5, hL5, ag5, k73', k74'⟩ := M_take30 hM4 (mv := i + 1) hn (by omega) hE4 hL4 (by have := hxb.1; omega)
                exact ⟨m5, e5, hM5, hE5, hL5, ag5, k73', k74'⟩
              · rw [if_neg (fun y => z (hcmp.1 y)), if_neg z]
                exact ⟨m4, rfl, hM4, hEa4, hLa4, AgM.rf, fun _ _ => rfl, fun _ _ => rfl⟩
            obtain ⟨m5, e5, hM5, hE5, hL5, ag5, k73', k74'⟩ := takes
            have b5 : ∀ b, b ≠ 50 → b ≠ 73 → b ≠ 74 → m5 b = m4 b := fun b h1 h2 h3 => ag5.1 b h1 (by unfold Z34; omega)
            have hpd5 : PD m5 pd := fun p hp => by
              rw [b5 75 (by decide) (by decide) (by decide)]
              exact hpd4 p hp
            have hK5 : KP m5 t q := by
              unfold KP
              rw [b5 70 (by decide) (by decide) (by decide)]
              exact hK4
            have hRB5 : RB (k + 1) (if a.1 u < x.1 u - (cstS E i : Int) then tkS u (cstS E i) (i + 1) x else a) := by
              split
              · exact hxb.tk hcs (by omega)
              · exact hRB
            obtain ⟨L6, m6, e6, hM6, hpd6, hE6, hL6, ag6, j70, j73, j74⟩ := ihr f' (i + 1) (sLg (sLg S L1) L3) m5 _ (by omega) (by omega) hM5 hpd5 hK5 hRB5 hE5 hL5
            refine ⟨L6, m6, ?_, hM6, hpd6, hE6, hL6, ?_, ?_, ?_, ?_⟩
            · rw [vc_k hk, e1, Option.bind_some]
              show (gR (mk (sLg S L1) m1) 9 (some 50) 47).bind _ = _
              rw [gR_k hk1, rk50_47 hS1, Option.bind_some]
              show (rI (mk (sLg S L1) m1) (some 75) (nI u)).bind _ = _
              rw [rI_n (sk75 hS1) (by omega) (by decide), Option.bind_some, hpdu]
              show (vc (mk (sLg S L1) m1) 9 (some 50) (f_X9_costsOf (mk (sLg S L1) m1) (some 50) (nI i))).bind _ = _
              rw [vc_k hk1, M_costs hM1 hiN, Option.bind_some]
              show (sI (mk (sLg S L1) m1) (some 75) (nI u) (nI (pd u) + nI (cstS E i))).bind _ = _
              rw [nI_add, sI_n (sk75 hS1) (by omega) (by decide), Option.bind_some, vc_k hk1, show nI t + (1 : Int32) = nI (t + 1) from nI_add t 1, e3, Option.bind_some, gR_k hk3, rk50_47 hS3, Option.bind_some, rI_n (sk75 hS3) (by omega) (by decide), Option.bind_some, hpu3, vc_k hk3, M_costs hM3 hiN, Option.bind_some]
              show (sI (mk (sLg (sLg S L1) L3) m3) (some 75) (nI u) (nI (pd u + cstS E i) - nI (cstS E i))).bind _ = _
              rw [pk_sub (by omega), show pd u + cstS E i - cstS E i = pd u by omega, sI_n (sk75 hS3) (by omega) (by decide), Option.bind_some, vc_k hk3, e4, Option.bind_some, vc_k hk3, show nI i + (1 : Int32) = nI (i + 1) from nI_add i 1, e5, Option.bind_some, e155]
              exact e6
            · exact (agm4.tr (ag5.mono (fun b hb => by unfold Z34 at hb; show 66 ≤ b ∧ b ≤ 75; omega) (fun _ z => z.elim))).tr ag6
            · intro j hj
              rw [j70 j hj, b5 70 (by decide) (by decide) (by decide), row70 j hj]
            · intro j hj
              rw [j73 j hj, k73' j hj, row73 j (by omega)]
            · intro j hj
              rw [j74 j hj, k74' j hj, row74 j (by omega)]
          · have hcan' : canS E q i = false := by simpa using hcan
            rw [hcan', if_pos (show nI (if false = true then 1 else 0) = (0 : Int32) from rfl), e155]
            exact skip (fun z => hcan z.2)
        · rw [if_neg (fun z => hw ((nI_eq (by omega) (by omega)).1 z)), e155]
          exact skip (fun z => hw z.1)
    obtain ⟨L6, m6, e6, hM6, hpd6, hE6, hL6, ag6, j70, j73, j74⟩ := loop (eN E) FU 0 (sLg S L3) m5 ((solS E k (t + 1) (waitS q)).1, 0 :: (solS E k (t + 1) (waitS q)).2) (by omega) (by unfold FU; omega) hM5 hpd5 hK5 (sol_rb hE k (t + 1) (waitS q)).w hE5 hL5
    have es : solS E (k + 1) t q = slS E (solS E k (t + 1)) q u (eN E) 0 ((solS E k (t + 1) (waitS q)).1, 0 :: (solS E k (t + 1) (waitS q)).2) := by
      show slS E (solS E k (t + 1)) q (t % eP E) (eN E) 0 _ = _
      rw [hu]
    rw [es]
    refine ⟨L6, m6, ?_, hM6, hpd6, hE6, hL6, ?_, ?_, ?_, ?_⟩
    · have ewn : (if nI q.2.1 + nI 1 < nI 0 then nI 0 else if nI 99 < nI q.2.1 + nI 1 then nI 99 else nI q.2.1 + nI 1) = nI (min (q.2.1 + 1) 99) := wn99 hq.2.1
      show fe_X9_turns (f_X9_turns f) (mk S m) (some 50) (nI t) (nI n) = _
      unfold fe_X9_turns
      rw [if_neg (fun z => by have := (nI_eq (by omega) (by omega)).1 z; omega), gI_k hk, g.2.2.2.1, Option.bind_some, irem_n (by omega) (by omega) (by omega), Option.bind_some, hu, vc_k hk, e1, Option.bind_some, gI_k hk, g1.2.2.1, Option.bind_some, X9_within, Option.bind_some]
      rw [show (if nI q.2.1 + (1 : Int32) < (0 : Int32) then (0 : Int32) else if (99 : Int32) < nI q.2.1 + (1 : Int32) then (99 : Int32) else nI q.2.1 + (1 : Int32)) = nI (min (q.2.1 + 1) 99) from ewn, pI_k hk, Option.bind_some, vc_k hk, show nI t + (1 : Int32) = nI (t + 1) from nI_add t 1, e3, Option.bind_some, vc_k hk3, e4, Option.bind_some, vc_k hk3]
      unfold f_X9_takes
      rw [if_neg (show ¬ (1 : Int32) = 0 by decide)]
      show (f_X9_takes_30 (mk (sLg S L3) m4) (some 50) (nI t) (nI n) (nI 0)).bind _ = _
      rw [e5, Option.bind_some]
      exact e6
    · exact (((((ag1.mono (fun b hb => by unfold Z70 at hb; show 66 ≤ b ∧ b ≤ 75; omega) (fun _ z => z.elim)).tr (ag2.mono (fun _ z => z.elim) (fun _ z => z))).tr ag3).tr (ag4.mono (fun _ z => z.elim) (fun _ z => z))).tr (ag5.mono (fun b hb => by unfold Z34 at hb; show 66 ≤ b ∧ b ≤ 75; omega) (fun _ z => z.elim))).tr ag6
    · intro j hj
      rw [j70 j hj, e5b 70 (by decide) (by decide) (by decide), e4b 70 (by decide), k70 j (by omega), ag2.1 70 (by decide) id, hlo1 j (by omega)]
    · intro j hj
      rw [j73 j hj, k73' j hj, e4b 73 (by decide), k73 j (by omega), ag2.1 73 (by decide) id, ag1.1 73 (by decide) (by unfold Z70; omega)]
    · intro j hj
      rw [j74 j hj, k74' j hj, e4b 74 (by decide), k74 j (by omega), ag2.1 74 (by decide) id, ag1.1 74 (by decide) (by unfold Z70; omega)]
