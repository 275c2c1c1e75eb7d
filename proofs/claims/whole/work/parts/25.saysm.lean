/-! PURE: the model's says -/
theorem nI_inj' {a b : Nat} (ha : a < 2 ^ 31) (hb : b < 2 ^ 31) : (nI a = nI b) ↔ a = b := nI_eq ha hb
set_option maxRecDepth 8000 in
theorem X9_says_loop {S : SK} (hS : SkOK S) {t p e : Nat} (ht : t < 6) (hp : p < 3) (he : e ≤ 200) {nm : Nat → Int32} :
    ∀ (cs : List Nat) (n i : Nat) (m : Nat → Nat → Int32) (st : List Int32) (dl : Nat), i + cs.length = e → wfS cs st.length = some dl → CdM m 56 (200 * t + i) cs → StkR m 66 st → m 50 16 = nI t → m 57 (4 * t + p + 1) = nI e → (∀ j, j < 6 → m 67 j = nm j) → st.length ≤ i → cs.length < n →
    ∃ m2 : Nat → Nat → Int32, f_X9_says_16 n (mk S m) (some 50) (nI p) (nI st.length) (nI i) = some (m2 66 0, mk S m2) ∧ Ag (fun a => a = 66) m m2 ∧ StkR m2 66 (evS nm cs st) := by
  intro cs
  induction cs with
  | nil =>
    intro n i m st dl hi hw hc hst hr hen hnm hsi hn
    obtain ⟨n, rfl⟩ : ∃ k, n = k + 1 := ⟨n - 1, by simp at hn; omega⟩
    refine ⟨m, ?_, Ag.rf, hst⟩
    show fb_X9_says_16 (f_X9_says_16 n) _ _ _ _ _ = _
    have hi : i = e := by simpa using hi
    simp (disch := omega) [fb_X9_says_16, gR_mk, gI_mk, sk50 hS, rk50_14 hS, rk50_33 hS, hr, n_lit, pk_mul, nI_add, rI_n (sk57 hS), rI_n (sk66 hS), hen, nI_ltI, hi]
  | cons c cs ih =>
    intro n i m st dl hi hw hc hst hr hen hnm hsi hn
    obtain ⟨n, rfl⟩ : ∃ k, n = k + 1 := ⟨n - 1, by simp at hn; omega⟩
    have hl : i + (cs.length + 1) = e := by simpa using hi
    have hn : cs.length < n := by simpa using hn
    have hok : cokS c = true := by
      unfold wfS at hw
      by_cases q : cokS c = true
      · exact q
      · rw [if_neg q] at hw
        cases hw
    unfold wfS at hw
    rw [if_pos hok] at hw
    cases hdp : dpS c st.length with
    | none =>
      rw [hdp] at hw
      cases hw
    | some d1 =>
      rw [hdp] at hw
      have hw : wfS cs d1 = some dl := hw
      have hlen := stS_len (nm := nm) hdp
      obtain ⟨hc0, hc1⟩ := hc
      have hlt : nI i < nI e := nI_lt (by omega) (by omega)
      -- what is read of the text
      have E0 : f_X9_says_16 (n + 1) (mk S m) (some 50) (nI p) (nI st.length) (nI i) = fb_X9_says_16 (f_X9_says_16 n) (mk S m) (some 50) (nI p) (nI st.length) (nI i) := rfl
      -- the step
      have step : ∃ m1 : Nat → Nat → Int32, f_X9_says_16 (n + 1) (mk S m) (some 50) (nI p) (nI st.length) (nI i) = f_X9_says_16 n (mk S m1) (some 50) (nI p) (nI (stS nm c st).length) (nI (i + 1)) ∧ Ag (fun a => a = 66) m m1 ∧ StkR m1 66 (stS nm c st) := by
        rw [E0]
        unfold cokS at hok
        simp only [Bool.or_eq_true, Bool.and_eq_true, decide_eq_true_eq] at hok
        rcases hok with (h6 | ⟨h11, h19⟩) | ⟨hlo, hhi⟩
        · -- a name
          refine ⟨w2 m 66 st.length (nm c), ?_, Ag.rf.w2 rfl, ?_⟩
          · rw [show stS nm c st = nm c :: st by unfold stS; rw [if_neg (by omega), if_pos (by omega)]]
            simp (disch := omega) only [fb_X9_says_16, f_X9_says_66, f_X9_says_93, f_X9_says_191, bnd_eq, Option.bind_some, gR_mk, gI_mk, sk50 hS, rk50_14 hS, rk50_13 hS, rk50_33 hS, rk50_34 hS, hr, n_lit, pk_mul, nI_add, rI_n (sk57 hS), rI_n (sk56 hS), rI_n (sk67 hS), rI_n (sk66 hS), sI_n (sk66 hS), hen, nI_ltI, nI_eq, hc0, eq_self, if_true, if_false, hnm c h6, show i < e by omega, show c < 100000 by omega, show c < 11 by omega]
            rfl
          · rw [show stS nm c st = nm c :: st by unfold stS; rw [if_neg (by omega), if_pos (by omega)]]
            exact hst.push
        · by_cases h13 : c = 13 ∨ c = 19
          · -- one below
            cases st with
            | nil =>
              exfalso
              unfold dpS at hdp
              rw [if_neg (by omega), if_pos h13] at hdp
              simp at hdp
            | cons x s =>
              obtain ⟨hx, hs⟩ := hst
              have hsl : s.length + 1 ≤ i := hsi
              rcases h13 with e9 | e9 <;> subst e9
              · refine ⟨w2 m 66 s.length (if x = 0 then 1 else 0), ?_, Ag.rf.w2 rfl, StkR.push (s := s) hs⟩
                rw [show stS nm 13 (x :: s) = (if x = 0 then 1 else 0) :: s from rfl]
                by_cases hx0 : x = 0
                · simp (disch := omega) only [List.length_cons, fb_X9_says_16, f_X9_says_66, f_X9_says_93, f_X9_says_130, f_X9_says_191, bnd_eq, Option.bind_some, gR_mk, gI_mk, sk50 hS, rk50_14 hS, rk50_13 hS, rk50_33 hS, rk50_34 hS, hr, n_lit, pk_mul, nI_add, rI_n (sk57 hS), rI_n (sk56 hS), rI_n (sk67 hS), rI_n (sk66 hS), sI_n (sk66 hS), hen, nI_ltI, nI_eq, hc0, eq_self, if_true, if_false, pk_sub, Nat.add_sub_cancel, hx, hx0, show i < e by omega]
                  rfl
                · have hx1 : ¬ x = nI 0 := hx0
                  simp (disch := omega) only [List.length_cons, fb_X9_says_16, f_X9_says_66, f_X9_says_93, f_X9_says_130, f_X9_says_191, bnd_eq, Option.bind_some, gR_mk, gI_mk, sk50 hS, rk50_14 hS, rk50_13 hS, rk50_33 hS, rk50_34 hS, hr, n_lit, pk_mul, nI_add, rI_n (sk57 hS), rI_n (sk56 hS), rI_n (sk67 hS), rI_n (sk66 hS), sI_n (sk66 hS), hen, nI_ltI, nI_eq, hc0, eq_self, if_true, if_false, pk_sub, Nat.add_sub_cancel, hx, hx0, hx1, show i < e by omega]
                  rfl
              · refine ⟨w2 m 66 s.length (-x), ?_, Ag.rf.w2 rfl, StkR.push (s := s) hs⟩
                rw [show stS nm 19 (x :: s) = (-x) :: s from rfl]
                simp (disch := omega) only [List.length_cons, fb_X9_says_16, f_X9_says_66, f_X9_says_93, f_X9_says_130, f_X9_says_191, bnd_eq, Option.bind_some, gR_mk, gI_mk, sk50 hS, rk50_14 hS, rk50_13 hS, rk50_33 hS, rk50_34 hS, hr, n_lit, pk_mul, nI_add, rI_n (sk57 hS), rI_n (sk56 hS), rI_n (sk67 hS), rI_n (sk66 hS), sI_n (sk66 hS), hen, nI_ltI, nI_eq, hc0, eq_self, if_true, if_false, pk_sub, Nat.add_sub_cancel, hx, show i < e by omega]
                rfl
          · -- two below
            have hd2 : 2 ≤ st.length := by
              apply Nat.le_of_not_lt
              intro q
              unfold dpS at hdp
              rw [if_neg (by omega), if_neg h13, if_neg (by omega)] at hdp
              cases hdp
            cases st with
            | nil => exact absurd hd2 (by decide)
            | cons x s =>
              cases s with
              | nil => exact absurd hd2 (by simp)
              | cons y s =>
                  obtain ⟨hx, hy, hs⟩ := hst
                  have hx : m 66 (s.length + 1) = x := hx
                  have hsl : s.length + 1 + 1 ≤ i := hsi
                  have em : ∀ k : Nat, nI (k + 1) + -nI 1 = nI k := pk_m1
                  refine ⟨w2 m 66 s.length (twoS c y x), ?_, Ag.rf.w2 rfl, ?_⟩
                  · rw [show stS nm c (x :: y :: s) = twoS c y x :: s by unfold stS; rw [if_neg (by omega), if_neg (by omega)]; simp only; rw [if_neg (by omega), if_neg (by omega)]]
                    have h2 := fun h => X9_two (h := h) (a := y) (b := x) (c := c) (by omega) (by omega)
                    simp (disch := omega) only [List.length_cons, fb_X9_says_16, f_X9_says_66, f_X9_says_93, f_X9_says_130, f_X9_says_191, bnd_eq, Option.bind_some, gR_mk, gI_mk, sk50 hS, rk50_14 hS, rk50_13 hS, rk50_33 hS, rk50_34 hS, hr, n_lit, pk_mul, nI_add, rI_n (sk57 hS), rI_n (sk56 hS), rI_n (sk67 hS), rI_n (sk66 hS), sI_n (sk66 hS), hen, nI_ltI, nI_eq, hc0, eq_self, if_true, if_false, pk_sub, Nat.add_sub_cancel, em, hx, hy, h2, show i < e by omega, show c < 100000 by omega, show ¬ c < 11 by omega, show ¬ c = 13 by omega, show ¬ c = 19 by omega]
                  · rw [show stS nm c (x :: y :: s) = twoS c y x :: s by unfold stS; rw [if_neg (by omega), if_neg (by omega)]; simp only; rw [if_neg (by omega), if_neg (by omega)]]
                    exact StkR.push (s := s) hs
        · -- a number
          refine ⟨w2 m 66 st.length (nI (c - 100000)), ?_, Ag.rf.w2 rfl, ?_⟩
          · rw [show stS nm c st = nI (c - 100000) :: st by unfold stS; rw [if_pos (by omega)]]
            simp (disch := omega) only [List.length_cons, fb_X9_says_16, f_X9_says_66, f_X9_says_93, f_X9_says_130, f_X9_says_191, bnd_eq, Option.bind_some, gR_mk, gI_mk, sk50 hS, rk50_14 hS, rk50_13 hS, rk50_33 hS, rk50_34 hS, hr, n_lit, pk_mul, nI_add, rI_n (sk57 hS), rI_n (sk56 hS), rI_n (sk67 hS), rI_n (sk66 hS), sI_n (sk66 hS), hen, nI_ltI, nI_eq, hc0, eq_self, if_true, if_false, pk_sub, show i < e by omega, show ¬ c < 100000 by omega, show ¬ c < 11 by omega]
          · rw [show stS nm c st = nI (c - 100000) :: st by unfold stS; rw [if_pos (by omega)]]
            exact hst.push
      obtain ⟨m1, e1, hag, hst1⟩ := step
      have hk : ∀ a, a ≠ 66 → m1 a = m a := fun a ha => hag a ha
      obtain ⟨m2, e2, hag2, hst2⟩ := ih n (i + 1) m1 (stS nm c st) dl (by omega) (by rw [hlen]; exact hw) (by rw [show 200 * t + (i + 1) = 200 * t + i + 1 by omega]; exact hc1.ag (hk 56 (by decide))) hst1 (by rw [hk 50 (by decide)]; exact hr) (by rw [hk 57 (by decide)]; exact hen) (fun j hj => by rw [hk 67 (by decide)]; exact hnm j hj) (by
        rw [hlen]
        unfold dpS at hdp
        split at hdp
        · cases hdp
          omega
        · split at hdp
          · split at hdp
            · cases hdp
              omega
            · cases hdp
          · split at hdp
            · cases hdp
              omega
            · cases hdp) hn
      exact ⟨m2, by rw [e1]; exact e2, hag.tr hag2, hst2⟩
/-- says of the model: of text t's part p, whose codes are cs, with the names nm -/
theorem X9_says {S : SK} (hS : SkOK S) {t p s0 : Nat} (ht : t < 6) (hp : p < 3) {nm : Nat → Int32} {cs : List Nat} {m : Nat → Nat → Int32} (he : s0 + cs.length ≤ 200) (hw : wfS cs 0 = some 1) (hc : CdM m 56 (200 * t + s0) cs) (hr : m 50 16 = nI t) (hs0 : m 57 (4 * t + p) = nI s0) (hen : m 57 (4 * t + p + 1) = nI (s0 + cs.length)) (hnm : ∀ j, j < 6 → m 67 j = nm j) :
    ∃ m2 : Nat → Nat → Int32, f_X9_says (mk S m) (some 50) (nI p) = some ((evS nm cs []).headD 0, mk S m2) ∧ Ag (fun a => a = 66) m m2 := by
  obtain ⟨m2, h1, h2, h3⟩ := X9_says_loop hS ht hp (e := s0 + cs.length) he (nm := nm) cs FU s0 m [] 1 rfl hw hc trivial hr hen hnm (Nat.zero_le _) (by unfold FU; omega)
  refine ⟨m2, ?_, h2⟩
  have hl : ∀ (cs : List Nat) (st : List Int32) (d : Nat), wfS cs st.length = some d → (evS nm cs st).length = d := by
    intro cs
    induction cs with
    | nil =>
      intro st d h
      exact Option.some.inj h
    | cons c cs ih =>
      intro st d h
      unfold wfS at h
      by_cases q : cokS c = true
      · rw [if_pos q] at h
        cases hd : dpS c st.length with
        | none =>
          rw [hd] at h
          cases h
        | some d1 =>
          rw [hd] at h
          exact ih (stS nm c st) d (by rw [stS_len hd]; exact h)
      · rw [if_neg q] at h
        cases h
  have h4 := hl cs [] 1 hw
  have h5 : (evS nm cs []).headD 0 = m2 66 0 := by
    match hq : evS nm cs [], h4, h3 with
    | [x], _, h3 => exact h3.1.symm
  have h1 : f_X9_says_16 FU (mk S m) (some 50) (nI p) (nI 0) (nI s0) = some (m2 66 0, mk S m2) := h1
  unfold f_X9_says
  simp (disch := omega) only [Option.bind_some, gR_mk, gI_mk, sk50 hS, rk50_14 hS, hr, n_lit, pk_mul, nI_add, rI_n (sk57 hS), hs0, eq_self, if_true]
  rw [← h5] at h1
  exact h1
