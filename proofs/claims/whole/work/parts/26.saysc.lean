/-! PURE: the class's says -/
/-- a text at A: its object, its steps, its parts' places, its stack; N steps; P the codes of its parts -/
def TxS (S : SK) (A N : Nat) : Prop := sh S A = (5, 3) ∧ rf S A 0 = some (A + 1) ∧ rf S A 1 = some (A + 2) ∧ rf S A 2 = some (A + 3) ∧ sh S (A + 1) = (10, N) ∧ sh S (A + 2) = (10, 4) ∧ sh S (A + 3) = (10, N) ∧ N ≤ 200
theorem en_name : ∀ c, c < 6 → (¬ enS c < -nI 6 ∧ enS c < nI 0 ∧ -nI 1 - enS c = nI c) := by decide +kernel
theorem en_bin : ∀ c, c < 19 → 11 ≤ c → c ≠ 13 → (enS c < -nI 6 ∧ enS c < -nI 8) := by decide +kernel
theorem en_num {c : Nat} (h : 100000 ≤ c ∧ c < 110000) : ¬ enS c < -nI 6 ∧ ¬ enS c < nI 0 ∧ enS c = nI (c - 100000) := by
  have e : enS c = nI (c - 100000) := by
    unfold enS
    rw [if_pos h.1]
  refine ⟨?_, ?_, e⟩
  · rw [e]
    intro q
    rw [Int32.lt_iff_toInt_lt, nI_toInt (by omega)] at q
    have e6 : (-nI 6).toInt = -6 := by decide
    rw [e6] at q
    omega
  · rw [e]
    exact nI_pos (by omega)
theorem X5_named {S : SK} {m : Nat → Nat → Int32} {B c : Nat} (hB : sh S B = (10, 6)) (hc : c < 6) : f_X5_named (mk S m) (some B) (nI c) = some (m B c, mk S m) := by
  unfold f_X5_named f_X5_named_17 f_X5_named_16
  rw [if_neg (nI_pos (by omega)), ln_mk, hB, if_pos (by decide)]
  simp (disch := omega) only [Option.bind_some, nI_ofNat, nI_ltI, hc, if_true, rI_n hB]
theorem X5_says_loop {S : SK} {A N B e : Nat} (hT : TxS S A N) (hB : sh S B = (10, 6)) (hBA : B ≠ A + 3) (he : e ≤ N) {nm : Nat → Int32} :
    ∀ (cs : List Nat) (n i : Nat) (m : Nat → Nat → Int32) (st : List Int32) (dl : Nat), i + cs.length = e → wfS cs st.length = some dl → 0 < dl → CdC m (A + 1) i cs → StkR m (A + 3) st → (∀ j, j < 6 → m B j = nm j) → st.length ≤ i → cs.length < n →
    ∃ m2 : Nat → Nat → Int32, f_X5_says_49 n (mk S m) (some A) (some B) (nI st.length) (nI e) (nI i) = some (m2 (A + 3) 0, mk S m2) ∧ Ag (fun a => a = A + 3) m m2 ∧ StkR m2 (A + 3) (evS nm cs st) := by
  obtain ⟨t1, t2, t3, t4, t5, t6, t7, t8⟩ := hT
  intro cs
  induction cs with
  | nil =>
    intro n i m st dl hi hw hd hc hst hnm hsi hn
    obtain ⟨n, rfl⟩ : ∃ k, n = k + 1 := ⟨n - 1, by simp at hn; omega⟩
    refine ⟨m, ?_, Ag.rf, hst⟩
    show fb_X5_says_49 (f_X5_says_49 n) _ _ _ _ _ _ = _
    have hi : i = e := by simpa using hi
    have hw : st.length = dl := Option.some.inj hw
    simp (disch := omega) only [fb_X5_says_49, f_X5_says_230, Option.bind_some, gR_mk, t1, t4, n_lit, rI_n t7, nI_ltI, hi, eq_self, if_true, if_false, Nat.lt_irrefl, show 0 < st.length by omega]
  | cons c cs ih =>
    intro n i m st dl hi hw hd hc hst hnm hsi hn
    obtain ⟨n, rfl⟩ : ∃ k, n = k + 1 := ⟨n - 1, by simp at hn; omega⟩
    have hl : i + (cs.length + 1) = e := by simpa using hi
    have hn : cs.length < n := by simpa using hn
    have hok : cokS c = true := by
      unfold wfS at hw
      by_cases q : cokS c = true
      · exact q
      · rw [if_neg q] at hw
        cases hw
    unfold wfS at hw
    rw [if_pos hok] at hw
    cases hdp : dpS c st.length with
    | none =>
      rw [hdp] at hw
      cases hw
    | some d1 =>
      rw [hdp] at hw
      have hw : wfS cs d1 = some dl := hw
      have hlen := stS_len (nm := nm) hdp
      obtain ⟨hc0, hc1⟩ := hc
      have E0 : f_X5_says_49 (n + 1) (mk S m) (some A) (some B) (nI st.length) (nI e) (nI i) = fb_X5_says_49 (f_X5_says_49 n) (mk S m) (some A) (some B) (nI st.length) (nI e) (nI i) := rfl
      have step : ∃ m1 : Nat → Nat → Int32, f_X5_says_49 (n + 1) (mk S m) (some A) (some B) (nI st.length) (nI e) (nI i) = f_X5_says_49 n (mk S m1) (some A) (some B) (nI (stS nm c st).length) (nI e) (nI (i + 1)) ∧ Ag (fun a => a = A + 3) m m1 ∧ StkR m1 (A + 3) (stS nm c st) := by
        rw [E0]
        unfold cokS at hok
        simp only [Bool.or_eq_true, Bool.and_eq_true, decide_eq_true_eq] at hok
        rcases hok with (h6 | ⟨h11, h19⟩) | ⟨hlo, hhi⟩
        · obtain ⟨q1, q2, q3⟩ := en_name c h6
          have es : stS nm c st = nm c :: st := by unfold stS; rw [if_neg (by omega), if_pos (by omega)]
          refine ⟨w2 m (A + 3) st.length (nm c), ?_, Ag.rf.w2 rfl, by rw [es]; exact hst.push⟩
          rw [es]
          simp (disch := omega) only [List.length_cons, fb_X5_says_49, f_X5_says_106, f_X5_says_210, bnd_eq, Option.bind_some, gR_mk, t1, t2, t4, ln_mk, t7, n_lit, rI_n t5, rI_n t7, sI_n t7, nI_ofNat, nI_ltI, nI_add, hc0, q1, q2, q3, X5_named hB h6, hnm c h6, eq_self, if_true, if_false, show i < e by omega, show st.length < N by omega, show (10 ≤ 10 ∧ 10 ≤ 15) = True by decide]
        · by_cases h13 : c = 13 ∨ c = 19
          · cases st with
            | nil =>
              exfalso
              unfold dpS at hdp
              rw [if_neg (by omega), if_pos h13] at hdp
              simp at hdp
            | cons x s =>
              obtain ⟨hx, hs⟩ := hst
              have hsl : s.length + 1 ≤ i := hsi
              rcases h13 with e9 | e9 <;> subst e9
              · have q1 : enS 13 < -nI 6 := by decide
                have q2 : ¬ enS 13 < -nI 8 := by decide
                have q3 : ¬ enS 13 = -nI 7 := by decide
                refine ⟨w2 m (A + 3) s.length (if x = 0 then 1 else 0), ?_, Ag.rf.w2 rfl, StkR.push (s := s) hs⟩
                rw [show stS nm 13 (x :: s) = (if x = 0 then 1 else 0) :: s from rfl]
                by_cases hx0 : x = 0
                · simp (disch := omega) only [List.length_cons, fb_X5_says_49, f_X5_says_169, f_X5_says_210, bnd_eq, Option.bind_some, gR_mk, t1, t2, t4, n_lit, rI_n t5, rI_n t7, sI_n t7, nI_ltI, nI_add, pk_sub, Nat.add_sub_cancel, hc0, q1, q2, q3, hx, hx0, eq_self, if_true, if_false, show i < e by omega, show ¬ s.length + 1 < 1 by omega]
                · have hx1 : ¬ x = nI 0 := hx0
                  simp (disch := omega) only [List.length_cons, fb_X5_says_49, f_X5_says_169, f_X5_says_210, bnd_eq, Option.bind_some, gR_mk, t1, t2, t4, n_lit, rI_n t5, rI_n t7, sI_n t7, nI_ltI, nI_add, pk_sub, Nat.add_sub_cancel, hc0, q1, q2, q3, hx, hx1, eq_self, if_true, if_false, show i < e by omega, show ¬ s.length + 1 < 1 by omega]
              · have q1 : -nI 7 < -nI 6 := by decide
                have q2 : ¬ -nI 7 < -nI 8 := by decide
                have q3 : enS 19 = -nI 7 := by decide
                refine ⟨w2 m (A + 3) s.length (-x), ?_, Ag.rf.w2 rfl, StkR.push (s := s) hs⟩
                rw [show stS nm 19 (x :: s) = (-x) :: s from rfl]
                simp (disch := omega) only [List.length_cons, fb_X5_says_49, f_X5_says_169, f_X5_says_210, bnd_eq, Option.bind_some, gR_mk, t1, t2, t4, n_lit, rI_n t5, rI_n t7, sI_n t7, nI_ltI, nI_add, pk_sub, Nat.add_sub_cancel, hc0, q1, q2, q3, hx, eq_self, if_true, if_false, show i < e by omega, show ¬ s.length + 1 < 1 by omega]
          · have hd2 : 2 ≤ st.length := by
              apply Nat.le_of_not_lt
              intro q
              unfold dpS at hdp
              rw [if_neg (by omega), if_neg h13, if_neg (by omega)] at hdp
              cases hdp
            cases st with
            | nil => exact absurd hd2 (by decide)
            | cons x s =>
              cases s with
              | nil => exact absurd hd2 (by simp)
              | cons y s =>
                obtain ⟨hx, hy, hs⟩ := hst
                have hx : m (A + 3) (s.length + 1) = x := hx
                have hsl : s.length + 1 + 1 ≤ i := hsi
                have em : ∀ k : Nat, nI (k + 1) + -nI 1 = nI k := pk_m1
                have es : stS nm c (x :: y :: s) = twoS c y x :: s := by unfold stS; rw [if_neg (by omega), if_neg (by omega)]; simp only; rw [if_neg (by omega), if_neg (by omega)]
                obtain ⟨q1, q2⟩ := en_bin c (by omega) h11 (by omega)
                refine ⟨w2 m (A + 3) s.length (twoS c y x), ?_, Ag.rf.w2 rfl, by rw [es]; exact StkR.push (s := s) hs⟩
                rw [es]
                have h2 := fun h => X5_joined (h := h) (a := y) (b := x) (c := c) (by omega) (by omega)
                simp (disch := omega) only [List.length_cons, fb_X5_says_49, f_X5_says_210, bnd_eq, Option.bind_some, gR_mk, t1, t2, t4, n_lit, rI_n t5, rI_n t7, sI_n t7, nI_ltI, nI_add, pk_sub, Nat.add_sub_cancel, em, hc0, q1, q2, hx, hy, h2, eq_self, if_true, if_false, show i < e by omega, show ¬ s.length + 1 + 1 < 2 by omega]
        · obtain ⟨q1, q2, q3⟩ := en_num ⟨hlo, hhi⟩
          have es : stS nm c st = nI (c - 100000) :: st := by unfold stS; rw [if_pos hlo]
          refine ⟨w2 m (A + 3) st.length (nI (c - 100000)), ?_, Ag.rf.w2 rfl, by rw [es]; exact hst.push⟩
          rw [es]
          simp (disch := omega) only [List.length_cons, fb_X5_says_49, f_X5_says_106, f_X5_says_210, bnd_eq, Option.bind_some, gR_mk, t1, t2, t4, ln_mk, t7, n_lit, rI_n t5, rI_n t7, sI_n t7, nI_ofNat, nI_ltI, nI_add, hc0, q1, q2, eq_self, if_true, if_false, show i < e by omega, show st.length < N by omega, show (10 ≤ 10 ∧ 10 ≤ 15) = True by decide]
          rw [q3]
      obtain ⟨m1, e1, hag, hst1⟩ := step
      have hk : ∀ a, a ≠ A + 3 → m1 a = m a := fun a ha => hag a ha
      obtain ⟨m2, e2, hag2, hst2⟩ := ih n (i + 1) m1 (stS nm c st) dl (by omega) (by rw [hlen]; exact hw) hd (hc1.ag (hk (A + 1) (by omega))) hst1 (fun j hj => by rw [hk B hBA]; exact hnm j hj) (by
        rw [hlen]
        unfold dpS at hdp
        split at hdp
        · cases hdp
          omega
        · split at hdp
          · split at hdp
            · cases hdp
              omega
            · cases hdp
          · split at hdp
            · cases hdp
              omega
            · cases hdp) hn
      exact ⟨m2, by rw [e1]; exact e2, hag.tr hag2, hst2⟩
theorem evS_len {nm : Nat → Int32} : ∀ (cs : List Nat) (st : List Int32) (d : Nat), wfS cs st.length = some d → (evS nm cs st).length = d
  | [], st, d, h => Option.some.inj h
  | c :: cs, st, d, h => by
    unfold wfS at h
    by_cases q : cokS c = true
    · rw [if_pos q] at h
      cases hd : dpS c st.length with
      | none =>
        rw [hd] at h
        cases h
      | some d1 =>
        rw [hd] at h
        exact evS_len cs (stS nm c st) d (by rw [stS_len hd]; exact h)
    · rw [if_neg q] at h
      cases h
/-- says of the class: of the text at A its part p, whose codes are cs, with the names at B -/
theorem X5_says {S : SK} {A N B p s0 : Nat} (hT : TxS S A N) (hB : sh S B = (10, 6)) (hBA : B ≠ A + 3) (hp : p < 3) {nm : Nat → Int32} {cs : List Nat} {m : Nat → Nat → Int32} (he : s0 + cs.length ≤ N) (hw : wfS cs 0 = some 1) (hc : CdC m (A + 1) s0 cs) (hs0 : m (A + 2) p = nI s0) (hen : m (A + 2) (p + 1) = nI (s0 + cs.length)) (hnm : ∀ j, j < 6 → m B j = nm j) :
    ∃ m2 : Nat → Nat → Int32, f_X5_says (mk S m) (some A) (nI p) (some B) = some ((evS nm cs []).headD 0, mk S m2) ∧ Ag (fun a => a = A + 3) m m2 := by
  obtain ⟨m2, h1, h2, h3⟩ := X5_says_loop hT hB hBA (e := s0 + cs.length) he (nm := nm) cs FU s0 m [] 1 rfl hw (by decide) hc trivial hnm (Nat.zero_le _) (by have := hT.2.2.2.2.2.2.2; unfold FU; omega)
  refine ⟨m2, ?_, h2⟩
  obtain ⟨t1, t2, t3, t4, t5, t6, t7, t8⟩ := hT
  have h4 := evS_len (nm := nm) cs [] 1 hw
  have h5 : (evS nm cs []).headD 0 = m2 (A + 3) 0 := by
    match hq : evS nm cs [], h4, h3 with
    | [x], _, h3 => exact h3.1.symm
  have h1 : f_X5_says_49 FU (mk S m) (some A) (some B) (nI 0) (nI (s0 + cs.length)) (nI s0) = some (m2 (A + 3) 0, mk S m2) := h1
  rw [← h5] at h1
  unfold f_X5_says
  rw [if_neg (nI_pos (by omega))]
  simp (disch := omega) only [Option.bind_some, gR_mk, t1, t2, t3, ln_mk, t5, t6, n_lit, nI_ofNat, nI_add, nI_ltI, rI_n t6, hs0, hen, bnd_eq, eq_self, if_true, show (10 ≤ 10 ∧ 10 ≤ 15) = True by decide, show p + 1 < 4 by omega, show ¬ N < s0 + cs.length by omega, if_false]
  rw [show (if 0 < s0 then nI s0 else nI 0) = nI s0 by
    by_cases q : 0 < s0
    · rw [if_pos q]
    · rw [if_neg q, show s0 = 0 by omega]]
  exact h1
