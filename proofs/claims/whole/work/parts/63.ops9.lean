/-! PURE: calls: told mornings (judge, laws, numbers); sheets -/
theorem shS {S : SK} (h : SkOK S) : ∀ s, s < 4 → sh S (38 + 2 * s) = (4, 3) ∧ sh S (39 + 2 * s) = (10, 40) ∧ rf S (38 + 2 * s) 0 = some (39 + 2 * s) ∧ rf S 37 s = some (38 + 2 * s) := by
  intro s hs
  rcases (show s = 0 ∨ s = 1 ∨ s = 2 ∨ s = 3 by omega) with e | e | e | e <;> subst e
  · exact ⟨sk38 h, sk39 h, rk38_0 h, rk37_0 h⟩
  · exact ⟨sk40 h, sk41 h, rk40_0 h, rk37_1 h⟩
  · exact ⟨sk42 h, sk43 h, rk42_0 h, rk37_2 h⟩
  · exact ⟨sk44 h, sk45 h, rk44_0 h, rk37_3 h⟩
theorem r0_8 {S : SK} {m : Nat → Nat → Int32} (hS : SkOK S) : gR (mk S m) 8 (some 0) 8 = some (some 37) := by
  rw [gR_k (by rw [sk0 hS]), rk0_8 hS]
theorem rR37 {S : SK} {m : Nat → Nat → Int32} (h : SkOK S) {s : Nat} (hs : s < 4) : rR 14 (mk S m) (some 37) (nI s) = some (some (38 + 2 * s)) := by
  rw [rR_n (sk37 h) hs (by decide), (shS h s hs).2.2.2]
theorem X8_isSheet {h : XM} (x : Int32) : f_X8_isSheet h x = some (if x < 0 then 0 else if x < nI 4 then 1 else 0, h) := by
  unfold f_X8_isSheet
  by_cases z : x < 0
  · rw [if_pos z, if_pos z]
    rfl
  · rw [if_neg z, if_neg z]
    by_cases y : x < (4 : Int32)
    · have y' : x < nI 4 := y
      rw [if_pos y, if_pos y']
      rfl
    · have y' : ¬ x < nI 4 := y
      rw [if_neg y, if_neg y']
      rfl
theorem X9_in4 {h : XM} (x : Int32) : f_X9_in h x (0 : Int32) (3 : Int32) = some (if x < 0 then 0 else if x < nI 4 then 1 else 0, h) := by
  rw [X9_in]
  exact congrArg (fun v => some (v, h)) (one_b (x := x) (n := 4) (by decide))
theorem rows_cases {S : SK} {m : Nat → Nat → Int32} (hS : SkOK S) (hSh : RSh m) (x : Int32) :
    (∃ r : Int32, ¬ r = 0 ∧ f_X8_refusedRows (mk S m) (some 0) x = some (r, mk S m) ∧ ∀ (L : Nat → Nat → Int64) (m' : Nat → Nat → Int32), m' 60 = m 60 → m' 61 = m 61 → f_X9_sheetWrong (mk (sLg S L) m') (some 50) x = some (r, mk (sLg S L) m')) ∨ (∃ s n, s < 4 ∧ x = nI s ∧ n ≤ 20 ∧ m (38 + 2 * s) 2 = nI (2 * n) ∧ f_X8_refusedRows (mk S m) (some 0) x = some (0, mk S m) ∧ ∀ (L : Nat → Nat → Int64) (m' : Nat → Nat → Int32), m' 60 = m 60 → m' 61 = m 61 → f_X9_sheetWrong (mk (sLg S L) m') (some 50) x = some (0, mk (sLg S L) m')) := by
  rcases i_in x (n := 4) (by decide) with ⟨s, hs, rfl⟩ | hno
  · have x1 := one_y hs (show (4 : Nat) < 2 ^ 31 by decide)
    obtain ⟨a1, a2, a3, a4, z, hz, a5⟩ := hSh s hs
    obtain ⟨b1, b2, b3, b4⟩ := shS hS s hs
    have hk4 : (sh S (38 + 2 * s)).1 = 4 := by rw [b1]
    have head : f_X8_refusedRows (mk S m) (some 0) (nI s) = if m (38 + 2 * s) 1 = (-1 : Int32) then some (-11, mk S m) else (irem (nI z) (2 : Int32)).bind fun v8 => if v8 = 0 then some (0, mk S m) else some (-2, mk S m) := by
      unfold f_X8_refusedRows
      rw [X8_isSheet, x1, Option.bind_some, if_neg (show ¬ (1 : Int32) = 0 by decide)]
      rw [r0_8 hS, Option.bind_some, rR37 hS hs, Option.bind_some, gI_k hk4, Option.bind_some, Option.bind_some, rR37 hS hs, Option.bind_some, gI_k hk4, a5, Option.bind_some]
      rfl
    have headm : ∀ (L : Nat → Nat → Int64) (m' : Nat → Nat → Int32), m' 60 = m 60 → m' 61 = m 61 → f_X9_sheetWrong (mk (sLg S L) m') (some 50) (nI s) = if m (38 + 2 * s) 1 = (-1 : Int32) then some (-11, mk (sLg S L) m') else (irem (nI z) (2 : Int32)).bind fun v8 => if v8 = 0 then some (0, mk (sLg S L) m') else some (-2, mk (sLg S L) m') := by
      intro L m' e1 e2
      have hS2 : SkOK (sLg S L) := sLg_ok hS
      have hk : (sh (sLg S L) 50).1 = 9 := by rw [sk50 hS2]
      unfold f_X9_sheetWrong
      rw [X9_in4, x1, Option.bind_some, if_neg (show ¬ (1 : Int32) = 0 by decide), gR_k hk, rk50_20 hS2, Option.bind_some, rI_n (sk60 hS2) hs (by decide), Option.bind_some, e1, a1, gR_k hk, rk50_21 hS2, Option.bind_some, rI_n (sk61 hS2) hs (by decide), Option.bind_some, e2, a2, a5]
      rfl
    by_cases h1 : m (38 + 2 * s) 1 = (-1 : Int32)
    · refine Or.inl ⟨-11, by decide, ?_, fun L m' e1 e2 => ?_⟩
      · rw [head, if_pos h1]
      · rw [headm L m' e1 e2, if_pos h1]
    · have er : irem (nI z) (2 : Int32) = some (nI (z % 2)) := irem_n (d := 2) (by omega) (by decide) (by decide)
      by_cases h2 : z % 2 = 0
      · refine Or.inr ⟨s, z / 2, hs, rfl, by omega, ?_, ?_, fun L m' e1 e2 => ?_⟩
        · rw [a5, show 2 * (z / 2) = z by omega]
        · rw [head, if_neg h1, er, Option.bind_some, h2, if_pos (show nI 0 = (0 : Int32) from rfl)]
        · rw [headm L m' e1 e2, if_neg h1, er, Option.bind_some, h2, if_pos (show nI 0 = (0 : Int32) from rfl)]
      · have h3 : z % 2 = 1 := by omega
        refine Or.inl ⟨-2, by decide, ?_, fun L m' e1 e2 => ?_⟩
        · rw [head, if_neg h1, er, Option.bind_some, h3, if_neg (show ¬ nI 1 = (0 : Int32) by decide)]
        · rw [headm L m' e1 e2, if_neg h1, er, Option.bind_some, h3, if_neg (show ¬ nI 1 = (0 : Int32) by decide)]
  · have x1 := one_n hno
    refine Or.inl ⟨-2, by decide, ?_, fun L m' _ _ => ?_⟩
    · unfold f_X8_refusedRows
      rw [X8_isSheet, x1, Option.bind_some, if_pos rfl]
    · unfold f_X9_sheetWrong
      rw [X9_in4, x1, Option.bind_some, if_pos rfl]
theorem X4_at {S : SK} {m : Nat → Nat → Int32} (hS : SkOK S) {s k z : Nat} (hs : s < 4) (hz : z ≤ 40) (h2 : m (38 + 2 * s) 2 = nI z) (hk : k < z) : f_X4_at (mk S m) (some (38 + 2 * s)) (nI k) = some (m (39 + 2 * s) k, mk S m) := by
  obtain ⟨b1, b2, b3, b4⟩ := shS hS s hs
  have hk4 : (sh S (38 + 2 * s)).1 = 4 := by rw [b1]
  unfold f_X4_at
  rw [if_neg (nI_pos (by omega)), gI_k hk4, h2, Option.bind_some, if_pos (by rw [nI_ltI (by omega) (by omega)]; exact hk), gR_k hk4, b3, Option.bind_some, rI_n b2 (by omega) (by decide), Option.bind_some]
  rfl
/-- the first wrong row, or -1 -/
def fwS (E : EN) (cl : Nat → Int32) : Nat → Nat → QS → Int32
  | 0, _, _ => -1
  | r + 1, k, q => if (¬ cl (2 * k) < 0 ∧ cl (2 * k) < nI (eN E)) ∧ canS E q (cl (2 * k)).toNatClampNeg = true then (if cl (2 * k + 1) = nI (if opS E q (cl (2 * k)).toNatClampNeg = true then 1 else 0) then fwS E cl r (k + 1) (putS E q (cl (2 * k)).toNatClampNeg) else nI k) else nI k
theorem C_firstL {S : SK} {E : EN} {l s n : Nat} (hs : s < 4) (hn : n ≤ 20) {cl : Nat → Int32} : ∀ (r f k : Nat) (m : Nat → Nat → Int32) (q : QS), k + r = n → r < f → CI S m 9 E l q → m (38 + 2 * s) 2 = nI (2 * n) → m (39 + 2 * s) = cl →
    ∃ m2, f_X8_firstWrong_30 f (mk S m) (some 0) (some (38 + 2 * s)) (nI k) = some (fwS E cl r k q, mk S m2) ∧ Ag (ZJ S) m m2 := by
  intro r
  induction r with
  | zero =>
    intro f k m q hkr hf hC h2 hcl
    obtain ⟨f, rfl⟩ : ∃ k, f = k + 1 := ⟨f - 1, by omega⟩
    have hS := hC.1.1
    have hk4 : (sh S (38 + 2 * s)).1 = 4 := by rw [(shS hS s hs).1]
    refine ⟨m, ?_, Ag.rf⟩
    show fb_X8_firstWrong_30 (f_X8_firstWrong_30 f) (mk S m) (some 0) (some (38 + 2 * s)) (nI k) = _
    unfold fb_X8_firstWrong_30
    rw [gI_k hk4, h2, Option.bind_some, show idiv (nI (2 * n)) (2 : Int32) = some (nI (2 * n / 2)) from idiv_n (d := 2) (by omega) (by decide) (by decide), Option.bind_some, if_neg (by rw [nI_ltI (by omega) (by omega)]; omega)]
    rfl
  | succ r ih =>
    intro f k m q hkr hf hC h2 hcl
    obtain ⟨f, rfl⟩ : ∃ k, f = k + 1 := ⟨f - 1, by omega⟩
    have hS := hC.1.1
    have hE := hC.1.2.1
    have hN := hE.2.2.1
    have hk8 : (sh S 0).1 = 8 := by rw [sk0 hS]
    have hk9 : (sh S 9).1 = 1 := by rw [sk9 hS]
    have hk4 : (sh S (38 + 2 * s)).1 = 4 := by rw [(shS hS s hs).1]
    have r04 : ∀ m', gR (mk S m') 8 (some 0) 4 = some (some 9) := fun m' => by rw [gR_k hk8, rk0_4 hS]
    have ea := X4_at (m := m) hS hs (show 2 * n ≤ 40 by omega) h2 (show 2 * k < 2 * n by omega)
    rw [hcl] at ea
    show ∃ m2, fb_X8_firstWrong_30 (f_X8_firstWrong_30 f) (mk S m) (some 0) (some (38 + 2 * s)) (nI k) = _ ∧ _
    unfold fb_X8_firstWrong_30
    rw [gI_k hk4, h2, Option.bind_some, show idiv (nI (2 * n)) (2 : Int32) = some (nI (2 * n / 2)) from idiv_n (d := 2) (by omega) (by decide) (by decide), Option.bind_some, if_pos (by rw [nI_ltI (by omega) (by omega)]; omega), vc_k hk4, show (2 : Int32) * nI k = nI (2 * k) from pk_mul 2 k, ea, Option.bind_some]
    show ∃ m2, (gR (mk S m) 8 (some 0) 4).bind _ = _ ∧ _
    rw [r04, Option.bind_some, vc_k hk9]
    by_cases hco : ¬ cl (2 * k) < 0 ∧ cl (2 * k) < nI (eN E)
    · obtain ⟨j, hj31, hj⟩ := i_of hco.1
      have hjN : j < eN E := by
        have := hco.2
        rw [hj] at this
        exact (nI_ltI hj31 (by omega)).1 this
      have hjc : (cl (2 * k)).toNatClampNeg = j := by rw [hj, nI_clamp hj31]
      rw [show (cl (2 * k), mk S m).1 = nI j from hj]
      show ∃ m2, (f_X1_mayPut (mk S m) (some 9) (nI j)).bind _ = _ ∧ _
      rw [C_mayPut hC hjN, Option.bind_some]
      by_cases hcan : canS E q j = true
      · obtain ⟨m1, e1, hC1, ag1⟩ := C_put hC hjN
        have agJ : Ag (ZJ S) m m1 := ag1.mono (fun b hb => zg9_zj hb)
        have n45 : ∀ b, 38 ≤ b ∧ b ≤ 45 → m1 b = m b := fun b hb => agJ b (fun y => by have := y.no; omega)
        have h21 : m1 (38 + 2 * s) 2 = nI (2 * n) := by
          rw [n45 _ (by omega)]
          exact h2
        have hcl1 : m1 (39 + 2 * s) = cl := by
          rw [n45 _ (by omega)]
          exact hcl
        have ea2 := X4_at (m := m1) hS hs (show 2 * n ≤ 40 by omega) h21 (show 2 * k + 1 < 2 * n by omega)
        rw [hcl1] at ea2
        have e83 : ∀ b : Bool, ∃ m2, f_X8_firstWrong_83 (f_X8_firstWrong_30 f) (mk S m1) (some 0) (some (38 + 2 * s)) (nI k) (nI (if b = true then 1 else 0)) = some (if cl (2 * k + 1) = nI (if b = true then 1 else 0) then fwS E cl r (k + 1) (putS E q j) else nI k, mk S m2) ∧ Ag (ZJ S) m m2 := by
          intro b
          unfold f_X8_firstWrong_83
          rw [vc_k hk4, show (2 : Int32) * nI k = nI (2 * k) from pk_mul 2 k, show nI (2 * k) + (1 : Int32) = nI (2 * k + 1) from nI_add _ 1, ea2, Option.bind_some]
          by_cases z : cl (2 * k + 1) = nI (if b = true then 1 else 0)
          · rw [if_pos z, if_pos z, bnd_eq, show nI k + (1 : Int32) = nI (k + 1) from nI_add k 1]
            obtain ⟨m2, e2, ag2⟩ := ih f (k + 1) m1 (putS E q j) (by omega) (by omega) hC1 h21 hcl1
            exact ⟨m2, e2, agJ.tr ag2⟩
          · rw [if_neg z, if_neg z]
            exact ⟨m1, rfl, agJ⟩
        have ef : fwS E cl (r + 1) k q = if cl (2 * k + 1) = nI (if opS E q j = true then 1 else 0) then fwS E cl r (k + 1) (putS E q j) else nI k := by
          show (if (¬ cl (2 * k) < 0 ∧ cl (2 * k) < nI (eN E)) ∧ canS E q (cl (2 * k)).toNatClampNeg = true then _ else _) = _
          rw [hjc, if_pos ⟨hco, hcan⟩]
        rw [ef, hcan, if_neg (show ¬ nI (if true = true then 1 else 0) = (0 : Int32) by decide), r04, Option.bind_some, vc_k hk9, e1, Option.bind_some]
        have := e83 (opS E q j)
        cases hop : opS E q j
        · rw [hop] at this
          rw [if_pos (show nI (if false = true then 1 else 0) = (0 : Int32) from rfl)]
          exact this
        · rw [hop] at this
          rw [if_neg (show ¬ nI (if true = true then 1 else 0) = (0 : Int32) by decide)]
          exact this
      · have hcan' : canS E q j = false := by simpa using hcan
        have ef : fwS E cl (r + 1) k q = nI k := by
          show (if (¬ cl (2 * k) < 0 ∧ cl (2 * k) < nI (eN E)) ∧ canS E q (cl (2 * k)).toNatClampNeg = true then _ else _) = _
          rw [hjc, if_neg (fun z => hcan z.2)]
        rw [ef, hcan', if_pos (show nI (if false = true then 1 else 0) = (0 : Int32) from rfl)]
        exact ⟨m, rfl, Ag.rf⟩
    · have ef : fwS E cl (r + 1) k q = nI k := by
        show (if (¬ cl (2 * k) < 0 ∧ cl (2 * k) < nI (eN E)) ∧ canS E q (cl (2 * k)).toNatClampNeg = true then _ else _) = _
        rw [if_neg (fun z => hco z.1)]
      have hno : cl (2 * k) < 0 ∨ ¬ cl (2 * k) < nI (eN E) := by
        by_cases z : cl (2 * k) < 0
        · exact Or.inl z
        · exact Or.inr (fun y => hco ⟨z, y⟩)
      show ∃ m2, (f_X1_mayPut (mk S m) (some 9) (cl (2 * k))).bind _ = _ ∧ _
      rw [ef, C_mayPut_no hC hno, Option.bind_some, if_pos (show nI 0 = (0 : Int32) from rfl)]
      exact ⟨m, rfl, Ag.rf⟩
theorem C_first {S : SK} {m : Nat → Nat → Int32} {d P N l s n t e T : Nat} {wh kd td mo : Nat → Nat} {prs : Nat → Nat → List Nat} {q : QS} (hC : CI S m 3 (mkE d P N wh kd td mo (prs l)) l q) (ht : CText S m t (prs t)) (ht6 : t < 6) (he : 2 ≤ e ∧ e ≤ 20) (hs : s < 4) (hn : n ≤ 20) (h2 : m (38 + 2 * s) 2 = nI (2 * n)) :
    ∃ m2, f_X8_firstWrong (mk S m) (some 0) (some (38 + 2 * s)) (nI t) (nI e) = some (fwS (mkE e P N wh kd td mo (prs t)) (m (39 + 2 * s)) n 0 q, mk S m2) ∧ Ag (ZJ S) m m2 := by
  have hS := hC.1.1
  have hk8 : (sh S 0).1 = 8 := by rw [sk0 hS]
  have hk9 : (sh S 9).1 = 1 := by rw [sk9 hS]
  have hE := hC.1.2.1
  have r04 : ∀ m', gR (mk S m') 8 (some 0) 4 = some (some 9) := fun m' => by rw [gR_k hk8, rk0_4 hS]
  obtain ⟨m1, e1, hC1, ag1⟩ := C_become hC (g := 9) (Or.inr (Or.inr (Or.inl rfl))) (by decide)
  have c := hC1.2.2.1
  obtain ⟨m3, hm3⟩ : ∃ m3, m3 = w2 (w2 m1 9 11 (nI t)) 9 4 (nI e) := ⟨_, rfl⟩
  have ag3 : Ag (fun b => b = 9) m1 m3 := by
    rw [hm3]
    exact (Ag.w2 (Z := fun b => b = 9) Ag.rf rfl).w2 rfl
  have f9 := fun j (h4 : j ≠ 4) (h11 : j ≠ 11) => show m3 9 j = m1 9 j by rw [hm3, w2_ap, if_neg (fun z => h4 z.2), w2_ap, if_neg (fun z => h11 z.2)]
  have hE' : EOK (mkE e P N wh kd td mo (prs t)) := ⟨he, hE.2⟩
  have agJ1 : Ag (ZJ S) m m1 := ag1.mono (fun b hb => Or.inr (Or.inl (by omega)))
  have hC3 : CI S m3 9 (mkE e P N wh kd td mo (prs t)) t q := hC1.mk' hE' rfl rfl rfl rfl rfl ht6 hC1.2.2.2 ag3 (ht.ag agJ1 ZJ.ok.2) (by rw [hm3, w2_ap, if_pos ⟨rfl, rfl⟩]; rfl) (by rw [f9 5 (by decide) (by decide)]; exact c.2.1) (by rw [f9 6 (by decide) (by decide)]; exact c.2.2.1) (by rw [f9 7 (by decide) (by decide)]; exact c.2.2.2.1) (by rw [f9 8 (by decide) (by decide)]; exact c.2.2.2.2.1) (by rw [f9 9 (by decide) (by decide)]; exact c.2.2.2.2.2.1) (by rw [f9 10 (by decide) (by decide)]; exact c.2.2.2.2.2.2.1) (by rw [hm3, w2_ap, if_neg (by simp), w2_ap, if_pos ⟨rfl, rfl⟩])
  have agJ3 : Ag (ZJ S) m m3 := agJ1.tr (ag3.mono (fun b hb => Or.inr (Or.inl (by omega))))
  have n45 : ∀ b, 38 ≤ b ∧ b ≤ 45 → m3 b = m b := fun b hb => agJ3 b (fun y => by have := y.no; omega)
  obtain ⟨m4, e4, ag4⟩ := C_firstL hs hn n FU 0 m3 q (by omega) (by unfold FU; omega) hC3 (by rw [n45 _ (by omega)]; exact h2) (n45 _ (by omega))
  refine ⟨m4, ?_, agJ3.tr ag4⟩
  unfold f_X8_firstWrong
  rw [r04, Option.bind_some, r0_2 hS, Option.bind_some, vc_k hk9, e1, Option.bind_some, r04, Option.bind_some, pI_k hk9, Option.bind_some, r04, Option.bind_some, pI_k hk9, Option.bind_some, ← hm3]
  exact e4
