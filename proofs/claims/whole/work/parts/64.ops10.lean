/-! PURE: calls: judge, laws, numbers -/
theorem M_unlikeEnd {S : SK} {m : Nat → Nat → Int32} {E : EN} {l : Nat} {q q0 : QS} (h : MV S m E l q) (hK : KP m 0 q0) (hq : QOK E q0) (a : Int32) : ∃ m2, f_X9_unlike_129 (mk S m) (some 50) a = some (a, mk S m2) ∧ MV S m2 E l q0 ∧ AgM (fun _ => False) JQ m m2 := by
  obtain ⟨m2, e2, hM2, ag2⟩ := M_lays h (d := 0) (by decide) hK hq
  have e2' : f_X9_laysBack (mk S m) (some 50) (0 : Int32) = _ := e2
  refine ⟨m2, ?_, hM2, ag2⟩
  unfold f_X9_unlike_129
  rw [vc_k h.k, e2', Option.bind_some]
theorem M_unlikeL {E : EN} {l s n : Nat} {q0 : QS} (hs : s < 4) (hn : n ≤ 20) {cl : Nat → Int32} (hq0 : QOK E q0) : ∀ (r f k : Nat) (S : SK) (m : Nat → Nat → Int32) (q : QS), k + r = n → r + 1 < f → MV S m E l q → KP m 0 q0 → m 61 s = nI (2 * n) → (∀ j, j < 40 → m 62 (40 * s + j) = cl j) →
    ∃ L m2, f_X9_unlike_9 f (mk S m) (some 50) (nI s) (-1) (nI k) = some (fwS E cl r k q, mk (sLg S L) m2) ∧ MV (sLg S L) m2 E l q0 ∧ AgM ZB JQ m m2 := by
  intro r
  induction r with
  | zero =>
    intro f k S m q hkr hf hM hK h61 hcl
    obtain ⟨f, rfl⟩ : ∃ k, f = k + 1 := ⟨f - 1, by omega⟩
    have hS := hM.1
    obtain ⟨m2, e2, hM2, ag2⟩ := M_unlikeEnd hM hK hq0 (-1)
    refine ⟨lg S, m2, ?_, hM2, ag2.mono (fun _ z => z.elim) (fun _ z => z)⟩
    show fb_X9_unlike_9 (f_X9_unlike_9 f) (mk S m) (some 50) (nI s) (-1) (nI k) = _
    unfold fb_X9_unlike_9
    rw [gR_k hM.k, rk50_21 hS, Option.bind_some, rI_n (sk61 hS) hs (by decide), Option.bind_some, h61, show idiv (nI (2 * n)) (2 : Int32) = some (nI (2 * n / 2)) from idiv_n (d := 2) (by omega) (by decide) (by decide), Option.bind_some, if_neg (by rw [nI_ltI (by omega) (by omega)]; omega)]
    exact e2
  | succ r ih =>
    intro f k S m q hkr hf hM hK h61 hcl
    obtain ⟨f, rfl⟩ : ∃ k, f = k + 1 := ⟨f - 1, by omega⟩
    have hS := hM.1
    have hE := hM.2.1
    have hN := hE.2.2.1
    have eidx : ((((40 : Int32)) * nI s) + (((2 : Int32)) * nI k)) = nI (40 * s + 2 * k) := by
      rw [show (40 : Int32) * nI s = nI (40 * s) from pk_mul 40 s, show (2 : Int32) * nI k = nI (2 * k) from pk_mul 2 k, nI_add]
    have ec := hcl (2 * k) (by omega)
    have eo := hcl (2 * k + 1) (by omega)
    rw [← Nat.add_assoc] at eo
    -- the row is wrong: the walk ends at its next step
    have stop : ∀ (S' : SK) (m' : Nat → Nat → Int32) (q' : QS), MV S' m' E l q' → KP m' 0 q0 → m' 61 s = nI (2 * n) → ∃ m2, f_X9_unlike_123 (f_X9_unlike_9 f) (mk S' m') (some 50) (nI s) (nI k) (nI k) = some (nI k, mk S' m2) ∧ MV S' m2 E l q0 ∧ AgM (fun _ => False) JQ m' m2 := by
      intro S' m' q' hM' hK' h61'
      obtain ⟨f, rfl⟩ : ∃ k, f = k + 1 := ⟨f - 1, by omega⟩
      obtain ⟨m2, e2, hM2, ag2⟩ := M_unlikeEnd hM' hK' hq0 (nI k)
      refine ⟨m2, ?_, hM2, ag2⟩
      unfold f_X9_unlike_123
      rw [bnd_eq, show nI k + (1 : Int32) = nI (k + 1) from nI_add k 1]
      show fb_X9_unlike_9 (f_X9_unlike_9 f) (mk S' m') (some 50) (nI s) (nI k) (nI (k + 1)) = _
      unfold fb_X9_unlike_9
      rw [gR_k hM'.k, rk50_21 hM'.1, Option.bind_some, rI_n (sk61 hM'.1) hs (by decide), Option.bind_some, h61', show idiv (nI (2 * n)) (2 : Int32) = some (nI (2 * n / 2)) from idiv_n (d := 2) (by omega) (by decide) (by decide), Option.bind_some]
      by_cases z : nI (k + 1) < nI (2 * n / 2)
      · rw [if_pos z, if_neg (n_m1 k (by omega))]
        exact e2
      · rw [if_neg z]
        exact e2
    have wrong : ∃ L m2, f_X9_unlike_86 (f_X9_unlike_9 f) (mk S m) (some 50) (nI s) (nI k) (cl (2 * k)) (cl (2 * k + 1)) = some (nI k, mk (sLg S L) m2) ∧ MV (sLg S L) m2 E l q0 ∧ AgM ZB JQ m m2 := by
      obtain ⟨m2, e2, hM2, ag2⟩ := stop S m q hM hK h61
      refine ⟨lg S, m2, ?_, hM2, ag2.mono (fun _ z => z.elim) (fun _ z => z)⟩
      unfold f_X9_unlike_86 f_X9_unlike_91
      rw [if_neg (n_m1 k (by omega))]
      exact e2
    show ∃ L m2, fb_X9_unlike_9 (f_X9_unlike_9 f) (mk S m) (some 50) (nI s) (-1) (nI k) = _ ∧ _
    unfold fb_X9_unlike_9
    rw [gR_k hM.k, rk50_21 hS, Option.bind_some, rI_n (sk61 hS) hs (by decide), Option.bind_some, h61, show idiv (nI (2 * n)) (2 : Int32) = some (nI (2 * n / 2)) from idiv_n (d := 2) (by omega) (by decide) (by decide), Option.bind_some, if_pos (by rw [nI_ltI (by omega) (by omega)]; omega), if_pos rfl, gR_k hM.k, rk50_22 hS, Option.bind_some, eidx, rI_n (sk62 hS) (by omega) (by decide), Option.bind_some, ec, Option.bind_some, show nI (40 * s + 2 * k) + (1 : Int32) = nI (40 * s + 2 * k + 1) from nI_add _ 1, rI_n (sk62 hS) (by omega) (by decide), Option.bind_some, eo, vc_k hM.k, M_isCoin hM, Option.bind_some]
    by_cases hco : ¬ cl (2 * k) < 0 ∧ cl (2 * k) < nI (eN E)
    · obtain ⟨j, hj31, hj⟩ := i_of hco.1
      have hjN : j < eN E := by
        have := hco.2
        rw [hj] at this
        exact (nI_ltI hj31 (by omega)).1 this
      have hjc : (cl (2 * k)).toNatClampNeg = j := by rw [hj, nI_clamp hj31]
      by_cases hcan : canS E q j = true
      · have ef : fwS E cl (r + 1) k q = if cl (2 * k + 1) = nI (if opS E q j = true then 1 else 0) then fwS E cl r (k + 1) (putS E q j) else nI k := by
          show (if (¬ cl (2 * k) < 0 ∧ cl (2 * k) < nI (eN E)) ∧ canS E q (cl (2 * k)).toNatClampNeg = true then _ else _) = _
          rw [hjc, if_pos ⟨hco, hcan⟩]
        rw [ef, hj, one_y hjN (by omega), if_neg (show ¬ (1 : Int32) = 0 by decide), vc_k hM.k, M_canPut hM hjN, Option.bind_some, hcan, if_neg (show ¬ nI (if true = true then 1 else 0) = (0 : Int32) by decide), X9_in, Option.bind_some]
        rcases i_rng (cl (2 * k + 1)) (B := 1) (by decide) with ⟨w, hw, ew⟩ | hbad
        · rw [ew, ifr_y (b := 1) (B := 1) rfl hw (by decide), if_neg (show ¬ (1 : Int32) = 0 by decide)]
          obtain ⟨L1, m1, e1, hM1, ag1⟩ := M_put hM hjN
          have hK1 : KP m1 0 q0 := by
            unfold KP
            rw [ag1.1 70 (by decide) (by unfold ZA; omega)]
            exact hK
          have h611 : m1 61 s = nI (2 * n) := by
            rw [ag1.1 61 (by decide) (by unfold ZA; omega)]
            exact h61
          have hcl1 : ∀ j, j < 40 → m1 62 (40 * s + j) = cl j := fun j hj => by
            rw [ag1.1 62 (by decide) (by unfold ZA; omega)]
            exact hcl j hj
          have agB : AgM ZB JQ m m1 := ag1.mono (fun b hb => by unfold ZA at hb; unfold ZB; omega) (fun _ z => z)
          unfold f_X9_unlike_91
          rw [if_pos rfl, vc_k hM.k, e1, Option.bind_some]
          have good : nI w = nI (if opS E q j = true then 1 else 0) → ∃ L m2, f_X9_unlike_122 (f_X9_unlike_9 f) (mk (sLg S L1) m1) (some 50) (nI s) (nI k) (-1) = some (fwS E cl r (k + 1) (putS E q j), mk (sLg S L) m2) ∧ MV (sLg S L) m2 E l q0 ∧ AgM ZB JQ m m2 := by
            intro _
            obtain ⟨L2, m2, e2, hM2, ag2⟩ := ih f (k + 1) (sLg S L1) m1 (putS E q j) (by omega) (by omega) hM1 hK1 h611 hcl1
            refine ⟨L2, m2, ?_, hM2, agB.tr ag2⟩
            unfold f_X9_unlike_122 f_X9_unlike_123
            rw [bnd_eq, show nI k + (1 : Int32) = nI (k + 1) from nI_add k 1]
            exact e2
          have badr : ∃ L m2, f_X9_unlike_122 (f_X9_unlike_9 f) (mk (sLg S L1) m1) (some 50) (nI s) (nI k) (nI k) = some (nI k, mk (sLg S L) m2) ∧ MV (sLg S L) m2 E l q0 ∧ AgM ZB JQ m m2 := by
            obtain ⟨m2, e2, hM2, ag2⟩ := stop (sLg S L1) m1 (putS E q j) hM1 hK1 h611
            exact ⟨L1, m2, e2, hM2, agB.tr (ag2.mono (fun _ z => z.elim) (fun _ z => z))⟩
          have e01 : ∀ b : Bool, f_X9_unlike_114 (f_X9_unlike_9 f) (mk (sLg S L1) m1) (some 50) (nI s) (nI k) (nI w) (nI (if b = true then 1 else 0)) = if nI w = nI (if b = true then 1 else 0) then f_X9_unlike_122 (f_X9_unlike_9 f) (mk (sLg S L1) m1) (some 50) (nI s) (nI k) (-1) else f_X9_unlike_122 (f_X9_unlike_9 f) (mk (sLg S L1) m1) (some 50) (nI s) (nI k) (nI k) := by
            intro b
            unfold f_X9_unlike_114
            by_cases z : nI w = nI (if b = true then 1 else 0)
            · rw [if_pos z, if_pos z.symm]
            · rw [if_neg z, if_neg (fun y => z y.symm)]
          have enter : (if nI w = (1 : Int32) then f_X9_unlike_114 (f_X9_unlike_9 f) (mk (sLg S L1) m1) (some 50) (nI s) (nI k) ((1 : Int32)) (nI (if opS E q j = true then 1 else 0)) else f_X9_unlike_114 (f_X9_unlike_9 f) (mk (sLg S L1) m1) (some 50) (nI s) (nI k) ((0 : Int32)) (nI (if opS E q j = true then 1 else 0))) = f_X9_unlike_114 (f_X9_unlike_9 f) (mk (sLg S L1) m1) (some 50) (nI s) (nI k) (nI w) (nI (if opS E q j = true then 1 else 0)) := by
            rcases (show w = 0 ∨ w = 1 by omega) with rfl | rfl
            · rw [if_neg (show ¬ nI 0 = (1 : Int32) by decide)]
              rfl
            · rw [if_pos (show nI 1 = (1 : Int32) from rfl)]
              rfl
          show ∃ L m2, (if nI w = (1 : Int32) then f_X9_unlike_114 (f_X9_unlike_9 f) (mk (sLg S L1) m1) (some 50) (nI s) (nI k) ((1 : Int32)) (nI (if opS E q j = true then 1 else 0)) else f_X9_unlike_114 (f_X9_unlike_9 f) (mk (sLg S L1) m1) (some 50) (nI s) (nI k) ((0 : Int32)) (nI (if opS E q j = true then 1 else 0))) = _ ∧ _
          rw [enter, e01]
          by_cases z : nI w = nI (if opS E q j = true then 1 else 0)
          · rw [if_pos z, if_pos z]
            exact good z
          · rw [if_neg z, if_neg z]
            exact badr
        · rw [ifr_n (b := 1) (B := 1) rfl hbad, if_pos rfl]
          have hne : ¬ cl (2 * k + 1) = nI (if opS E q j = true then 1 else 0) := by
            intro z
            rcases hbad with y | ⟨y, y2⟩
            · rw [z] at y
              revert y
              cases opS E q j <;> decide
            · rw [z] at y2
              revert y2
              cases opS E q j <;> decide
          rw [if_neg hne, ← hj]
          exact wrong
      · have hcan' : canS E q j = false := by simpa using hcan
        have ef : fwS E cl (r + 1) k q = nI k := by
          show (if (¬ cl (2 * k) < 0 ∧ cl (2 * k) < nI (eN E)) ∧ canS E q (cl (2 * k)).toNatClampNeg = true then _ else _) = _
          rw [hjc, if_neg (fun z => hcan z.2)]
        rw [ef]
        have hone : (if cl (2 * k) < 0 then (0 : Int32) else if cl (2 * k) < nI (eN E) then 1 else 0) = 1 := by
          rw [if_neg hco.1, if_pos hco.2]
        have hcp : f_X9_canPut (mk S m) (some 50) (cl (2 * k)) = some (nI 0, mk S m) := by
          rw [hj, M_canPut hM hjN, hcan']
          rfl
        rw [hone, if_neg (show ¬ (1 : Int32) = 0 by decide), vc_k hM.k, hcp, Option.bind_some, if_pos (show nI 0 = (0 : Int32) from rfl)]
        exact wrong
    · have ef : fwS E cl (r + 1) k q = nI k := by
        show (if (¬ cl (2 * k) < 0 ∧ cl (2 * k) < nI (eN E)) ∧ canS E q (cl (2 * k)).toNatClampNeg = true then _ else _) = _
        rw [if_neg (fun z => hco z.1)]
      have hno : cl (2 * k) < 0 ∨ ¬ cl (2 * k) < nI (eN E) := by
        by_cases z : cl (2 * k) < 0
        · exact Or.inl z
        · exact Or.inr (fun y => hco ⟨z, y⟩)
      rw [ef, one_n hno, if_pos rfl]
      exact wrong
theorem M_unlike {S : SK} {m : Nat → Nat → Int32} {E : EN} {l s n : Nat} {q : QS} (h : MV S m E l q) (hs : s < 4) (hn : n ≤ 20) {cl : Nat → Int32} (h61 : m 61 s = nI (2 * n)) (hcl : ∀ j, j < 40 → m 62 (40 * s + j) = cl j) :
    ∃ L m2, f_X9_unlike (mk S m) (some 50) (nI s) = some (fwS E cl n 0 q, mk (sLg S L) m2) ∧ MV (sLg S L) m2 E l q ∧ AgM ZB JQ m m2 := by
  obtain ⟨m1, e1, hM1, hK1, ag1, _⟩ := M_keeps h (d := 0) (by decide)
  have e1' : f_X9_keeps (mk S m) (some 50) (0 : Int32) = _ := e1
  obtain ⟨L, m2, e2, hM2, ag2⟩ := M_unlikeL (cl := cl) hs hn h.2.2.2.2.1 n FU 0 S m1 q (by omega) (by unfold FU; omega) hM1 hK1 (by rw [ag1.1 61 (by decide) (by unfold Z70; omega)]; exact h61) (fun j hj => by rw [ag1.1 62 (by decide) (by unfold Z70; omega)]; exact hcl j hj)
  refine ⟨L, m2, ?_, hM2, (ag1.mono (fun b hb => by unfold Z70 at hb; unfold ZB; omega) (fun _ z => z.elim)).tr ag2⟩
  unfold f_X9_unlike
  rw [vc_k h.k, e1', Option.bind_some]
  exact e2
theorem zj_60 {S : SK} {m m1 : Nat → Nat → Int32} (h : Ag (ZJ S) m m1) : m1 60 = m 60 ∧ m1 61 = m 61 ∧ m1 62 = m 62 := ⟨h 60 (zj_50 60 (by omega)), h 61 (zj_50 61 (by omega)), h 62 (zj_50 62 (by omega))⟩
theorem op_judge {S : SK} {m : Nat → Nat → Int32} (hR : RR S m) (x : Int32) : RES (f_X8_judge (mk S m) (some 0) x) (fun S1 m1 => f_X9_judge (mk S1 m1) (some 50) x) := by
  have hR0 := hR
  have hS := hR.ok
  have hk8 : (sh S 0).1 = 8 := by rw [sk0 hS]
  have hk1 : (sh S 3).1 = 1 := by rw [sk3 hS]
  have hk : (sh S 50).1 = 9 := by rw [sk50 hS]
  obtain ⟨d, P, N, l, T, wh, kd, td, mo, prs, q, h⟩ := hR
  obtain ⟨hl, ⟨g1, g2, g3⟩, hO⟩ := h
  have hT6 := hO.1.2.1
  have hd : 2 ≤ d ∧ d ≤ 20 := g1.1.2.1.1
  rcases rows_cases hS hO.2.2.1 x with ⟨r, hr, h1, h2⟩ | ⟨s, n, hs, rfl, hn, hz, h1, h2⟩
  · refine op_same (a := r) hR0 ?_ ?_
    · unfold f_X8_judge
      rw [vc_k hk8, h1, Option.bind_some, if_neg hr]
      rfl
    · show f_X9_judge (mk S m) (some 50) x = _
      unfold f_X9_judge
      have h2' : f_X9_sheetWrong (mk S m) (some 50) x = _ := h2 (lg S) m rfl rfl
      rw [vc_k hk, h2', Option.bind_some, if_neg hr]
      rfl
  · obtain ⟨q1, q2, q3, _⟩ := hO.2.2.1 s hs
    obtain ⟨m1, e1, agJ⟩ := C_first (T := T) g1 (CI.tx hO hl).1 (by omega) hd hs hn hz
    have hM1 := g2.ofC agJ zj_50
    obtain ⟨z0, z1, z2⟩ := zj_60 agJ
    obtain ⟨L, m2, e2, hM2, ag2⟩ := M_unlike (cl := m (39 + 2 * s)) hM1 hs hn (by rw [z1, q2]; exact hz) (fun j hj => by rw [z2]; exact q3 j hj)
    have h37 : m2 50 37 = nI 0 := by
      rw [ag2.2 37 (by unfold JQ; omega), agJ 50 (zj_50 50 (by omega))]
      exact g3
    have c := g1.2.2.1
    refine op_mk (a := fwS (mkE d P N wh kd td mo (prs l)) (m (39 + 2 * s)) n 0 q) (S1 := S) (m1 := m1) (S2 := sLg S L) (m2 := m2) ?_ ?_ ⟨d, P, N, l, T, wh, kd, td, mo, prs, q, RP.q ⟨hl, ⟨g1, g2, g3⟩, hO⟩ agJ (ag2.mono (fun b hb => zb_zm hb) (fun j hj => jq_jm hj)) hM2 h37⟩
    · unfold f_X8_judge
      rw [vc_k hk8, h1, Option.bind_some, if_pos rfl]
      rw [r0_8 hS, Option.bind_some, rR37 hS hs, Option.bind_some, r0_2 hS, Option.bind_some, gI_k hk1, c.2.2.2.2.2.2.2.1, Option.bind_some, Option.bind_some, gI_k hk1, show m 3 4 = nI d from c.1, Option.bind_some, vc_k hk8, e1, Option.bind_some]
      rfl
    · show f_X9_judge (mk S m1) (some 50) (nI s) = _
      unfold f_X9_judge
      have h2' : f_X9_sheetWrong (mk S m1) (some 50) (nI s) = _ := h2 (lg S) m1 z0 z1
      rw [vc_k hk, h2', Option.bind_some, if_pos rfl]
      show (vc (mk S m1) 9 (some 50) (f_X9_unlike (mk S m1) (some 50) (nI s))).bind _ = _
      rw [vc_k hk, e2, Option.bind_some]
      rfl
theorem MV.law {S : SK} {m : Nat → Nat → Int32} {d P N l t : Nat} {wh kd td mo : Nat → Nat} {pr pr' : Nat → List Nat} {q : QS} (h : MV S m (mkE d P N wh kd td mo pr) l q) (h37 : m 50 37 = nI 0) (ht : t < 6) (hx : ∃ fr, TxM m t pr' fr) : MV S (w2 m 50 16 (nI t)) (mkE d P N wh kd td mo pr') t q := by
  have g := h.2.2.2.1
  exact h.mk' h.2.1 rfl rfl rfl rfl rfl ht h.2.2.2.2.1 (fun b hb => w2_ne (by omega)) hx g.1 g.2.1 g.2.2.1 g.2.2.2.1 g.2.2.2.2.1 g.2.2.2.2.2.1 g.2.2.2.2.2.2.1 rfl h37
theorem MV.num {S : SK} {m : Nat → Nat → Int32} {d e P N l : Nat} {wh kd td mo : Nat → Nat} {pr : Nat → List Nat} {q : QS} (h : MV S m (mkE d P N wh kd td mo pr) l q) (h37 : m 50 37 = nI 0) (he : 2 ≤ e ∧ e ≤ 20) : MV S (w2 m 50 0 (nI e)) (mkE e P N wh kd td mo pr) l q := by
  have g := h.2.2.2.1
  exact h.mk' ⟨he, h.2.1.2⟩ rfl rfl rfl rfl rfl h.2.2.1 h.2.2.2.2.1 (fun b hb => w2_ne (by omega)) g.2.2.2.2.2.2.2.2.2 rfl g.2.1 g.2.2.1 g.2.2.2.1 g.2.2.2.2.1 g.2.2.2.2.2.1 g.2.2.2.2.2.2.1 g.2.2.2.2.2.2.2.1 h37
def lwB (d P N : Nat) (wh kd td mo : Nat → Nat) (prs : Nat → Nat → List Nat) (cl : Nat → Int32) (n : Nat) (q : QS) (t : Nat) : Bool := decide (fwS (mkE d P N wh kd td mo (prs t)) cl n 0 q = -1)
theorem C_laws {S : SK} {d P N l s n T : Nat} {wh kd td mo : Nat → Nat} {prs : Nat → Nat → List Nat} {q : QS} {cl : Nat → Int32} (hT6 : T ≤ 6) (hs : s < 4) (hn : n ≤ 20) : ∀ (r f i : Nat) (m : Nat → Nat → Int32) (a : Nat), i + r = T → r < f → CI S m 3 (mkE d P N wh kd td mo (prs l)) l q → m 0 9 = nI T → (∀ t, t < T → CText S m t (prs t)) → m (38 + 2 * s) 2 = nI (2 * n) → m (39 + 2 * s) = cl →
    ∃ m2, f_X8_laws_17 f (mk S m) (some 0) (nI s) (nI a) (nI i) = some (nI (ksS (lwB d P N wh kd td mo prs cl n q) r i a), mk S m2) ∧ Ag (ZJ S) m m2 := by
  intro r
  induction r with
  | zero =>
    intro f i m a hi hf hC h9 _ _ _
    obtain ⟨f, rfl⟩ : ∃ k, f = k + 1 := ⟨f - 1, by omega⟩
    have hk8 : (sh S 0).1 = 8 := by rw [sk0 hC.1.1]
    refine ⟨m, ?_, Ag.rf⟩
    show fb_X8_laws_17 (f_X8_laws_17 f) (mk S m) (some 0) (nI s) (nI a) (nI i) = _
    unfold fb_X8_laws_17
    rw [gI_k hk8, h9, Option.bind_some, if_neg (by rw [nI_ltI (by omega) (by omega)]; omega)]
    rfl
  | succ r ih =>
    intro f i m a hi hf hC h9 hx h2 hcl
    obtain ⟨f, rfl⟩ : ∃ k, f = k + 1 := ⟨f - 1, by omega⟩
    have hS := hC.1.1
    have hk8 : (sh S 0).1 = 8 := by rw [sk0 hS]
    have hk1 : (sh S 3).1 = 1 := by rw [sk3 hS]
    have hd2 : 2 ≤ d ∧ d ≤ 20 := hC.1.2.1.1
    obtain ⟨m1, e1, agJ⟩ := C_first (T := T) hC (hx i (by omega)) (by omega) hd2 hs hn h2
    rw [hcl] at e1
    have nb : ∀ b, (b = 0 ∨ (38 ≤ b ∧ b ≤ 45)) → m1 b = m b := fun b hb => agJ b (fun y => by have := y.no; omega)
    have hC1 := hC.zj agJ
    have e56 : ∀ h a, f_X8_laws_56 (f_X8_laws_17 f) h (some 0) (nI s) (nI a) (nI i) = f_X8_laws_17 f h (some 0) (nI s) (nI a) (nI (i + 1)) := fun h a => by
      unfold f_X8_laws_56
      rw [bnd_eq, show nI i + (1 : Int32) = nI (i + 1) from nI_add i 1]
    obtain ⟨m2, e2, ag2⟩ := ih f (i + 1) m1 (if lwB d P N wh kd td mo prs cl n q i = true then a ||| 2 ^ i else a) (by omega) (by omega) hC1 (by rw [nb 0 (Or.inl rfl)]; exact h9) (fun t ht => (hx t ht).ag agJ ZJ.ok.2) (by rw [nb _ (by omega)]; exact h2) (by rw [nb _ (by omega)]; exact hcl)
    refine ⟨m2, ?_, agJ.tr ag2⟩
    show fb_X8_laws_17 (f_X8_laws_17 f) (mk S m) (some 0) (nI s) (nI a) (nI i) = some (nI (ksS (lwB d P N wh kd td mo prs cl n q) r (i + 1) (if lwB d P N wh kd td mo prs cl n q i = true then a ||| 2 ^ i else a)), mk S m2)
    unfold fb_X8_laws_17
    rw [gI_k hk8, h9, Option.bind_some, if_pos (by rw [nI_ltI (by omega) (by omega)]; omega), r0_8 hS, Option.bind_some, rR37 hS hs, Option.bind_some, r0_2 hS, Option.bind_some, gI_k hk1, show m 3 4 = nI d from hC.2.2.1.1, Option.bind_some, vc_k hk8, e1, Option.bind_some]
    by_cases z : fwS (mkE d P N wh kd td mo (prs i)) cl n 0 q = -1
    · have hb : lwB d P N wh kd td mo prs cl n q i = true := decide_eq_true z
      rw [if_pos z, bnd_eq, show (1 : Int32) <<< (nI i &&& 31) = nI (2 ^ i) from shl1 (by omega), fa_or, e56]
      rw [hb, if_pos rfl] at e2 ⊢
      exact e2
    · have hb : lwB d P N wh kd td mo prs cl n q i = false := decide_eq_false z
      rw [if_neg z, e56]
      rw [hb, if_neg (by decide)] at e2 ⊢
      exact e2
theorem M_laws {d P N l s n T : Nat} {wh kd td mo : Nat → Nat} {prs : Nat → Nat → List Nat} {q : QS} {cl : Nat → Int32} (hT6 : T ≤ 6) (hl : l < T) (hs : s < 4) (hn : n ≤ 20) : ∀ (r f i t : Nat) (S : SK) (m : Nat → Nat → Int32) (a : Nat), i + r = T → r < f → MV S m (mkE d P N wh kd td mo (prs t)) t q → m 50 37 = nI 0 → m 50 15 = nI T → (∀ t, t < T → ∃ fr, TxM m t (prs t) fr) → m 61 s = nI (2 * n) → (∀ j, j < 40 → m 62 (40 * s + j) = cl j) →
    ∃ L m2, f_X9_laws_23 f (mk S m) (some 50) (nI s) (nI l) (nI a) (nI i) = some (nI (ksS (lwB d P N wh kd td mo prs cl n q) r i a), mk (sLg S L) m2) ∧ MV (sLg S L) m2 (mkE d P N wh kd td mo (prs l)) l q ∧ m2 50 37 = nI 0 ∧ AgM ZB (fun j => JQ j ∨ j = 16) m m2 := by
  intro r
  induction r with
  | zero =>
    intro f i t S m a hi hf hM h37 h15 hx _ _
    obtain ⟨f, rfl⟩ : ∃ k, f = k + 1 := ⟨f - 1, by omega⟩
    refine ⟨lg S, w2 m 50 16 (nI l), ?_, hM.law h37 (by omega) (hx l hl), h37, AgM.w50 AgM.rf (Or.inr rfl)⟩
    show fb_X9_laws_23 (f_X9_laws_23 f) (mk S m) (some 50) (nI s) (nI l) (nI a) (nI i) = _
    unfold fb_X9_laws_23
    rw [gI_k hM.k, h15, Option.bind_some, if_neg (by rw [nI_ltI (by omega) (by omega)]; omega), pI_k hM.k, Option.bind_some]
    rfl
  | succ r ih =>
    intro f i t S m a hi hf hM h37 h15 hx h61 hcl
    obtain ⟨f, rfl⟩ : ∃ k, f = k + 1 := ⟨f - 1, by omega⟩
    have hM1 := hM.law h37 (t := i) (by omega) (hx i (by omega))
    obtain ⟨L2, m2, e2, hM2, ag2⟩ := M_unlike (cl := cl) hM1 hs hn h61 hcl
    have ag1 : AgM (fun _ => False) (fun j => j = 16) m (w2 m 50 16 (nI i)) := AgM.w50 AgM.rf rfl
    have f37 : m2 50 37 = nI 0 := by
      rw [ag2.2 37 (by unfold JQ; omega)]
      exact h37
    have nb : ∀ b, b ≠ 50 → b < 65 → m2 b = m b := fun b h5 hb => by
      rw [ag2.1 b h5 (by unfold ZB; omega), ag1.1 b h5 id]
    obtain ⟨L3, m3, e3, hM3, h373, ag3⟩ := ih f (i + 1) i (sLg S L2) m2 (if lwB d P N wh kd td mo prs cl n q i = true then a ||| 2 ^ i else a) (by omega) (by omega) hM2 f37 (by rw [ag2.2 15 (by unfold JQ; omega)]; exact h15) (fun t ht => by
      obtain ⟨fr, h⟩ := hx t ht
      exact ⟨fr, h.ag (nb 56 (by decide) (by decide)) (nb 57 (by decide) (by decide))⟩) (by rw [nb 61 (by decide) (by decide)]; exact h61) (fun j hj => by rw [nb 62 (by decide) (by decide)]; exact hcl j hj)
    refine ⟨L3, m3, ?_, hM3, h373, ((ag1.mono (fun _ z => z.elim) (fun j hj => Or.inr hj)).tr (ag2.mono (fun _ z => z) (fun _ z => Or.inl z))).tr ag3⟩
    show fb_X9_laws_23 (f_X9_laws_23 f) (mk S m) (some 50) (nI s) (nI l) (nI a) (nI i) = some (nI (ksS (lwB d P N wh kd td mo prs cl n q) r (i + 1) (if lwB d P N wh kd td mo prs cl n q i = true then a ||| 2 ^ i else a)), mk (sLg S L3) m3)
    unfold fb_X9_laws_23
    rw [gI_k hM.k, h15, Option.bind_some, if_pos (by rw [nI_ltI (by omega) (by omega)]; omega), pI_k hM.k, Option.bind_some, vc_k hM.k, e2, Option.bind_some]
    unfold f_X9_laws_57
    by_cases z : fwS (mkE d P N wh kd td mo (prs i)) cl n 0 q = -1
    · have hb : lwB d P N wh kd td mo prs cl n q i = true := decide_eq_true z
      rw [if_pos z, bnd_eq, bnd_eq, show (1 : Int32) <<< (nI i &&& 31) = nI (2 ^ i) from shl1 (by omega), fa_or, show nI i + (1 : Int32) = nI (i + 1) from nI_add i 1]
      rw [hb, if_pos rfl] at e3 ⊢
      exact e3
    · have hb : lwB d P N wh kd td mo prs cl n q i = false := decide_eq_false z
      rw [if_neg z, bnd_eq, bnd_eq, show nI a ||| (0 : Int32) = nI (a ||| 0) from fa_or a 0, Nat.or_zero, show nI i + (1 : Int32) = nI (i + 1) from nI_add i 1]
      rw [hb, if_neg (by decide)] at e3 ⊢
      exact e3
/-- as RP.q, but the law, the number may have moved in thought -/
theorem RP.q2 {S : SK} {m m1 m2 : Nat → Nat → Int32} {d P N l T : Nat} {wh kd td mo : Nat → Nat} {prs : Nat → Nat → List Nat} {q : QS} {L : Nat → Nat → Int64} (h : RP S m d P N l T wh kd td mo prs q) (ha : Ag (ZJ S) m m1) (hb : AgM ZM JG m1 m2) (hM : MV (sLg S L) m2 (mkE d P N wh kd td mo (prs l)) l q) (h37 : m2 50 37 = nI 0) : RP (sLg S L) m2 d P N l T wh kd td mo prs q := by
  obtain ⟨hl, ⟨g1, g2, g3⟩, hO⟩ := h
  have hb2 : AgM ZM2 JG m1 m2 := hb.mono (fun b hb => by unfold ZM at hb; unfold ZM2; omega) (fun _ z => z)
  exact ⟨hl, ⟨(g1.zj ha).m hb2, hM, h37⟩, hO.g (ha.mono (fun b hb => Or.inr (Or.inr hb))) hb2⟩
theorem op_laws {S : SK} {m : Nat → Nat → Int32} (hR : RR S m) (x : Int32) : RES (f_X8_laws (mk S m) (some 0) x) (fun S1 m1 => f_X9_laws (mk S1 m1) (some 50) x) := by
  have hR0 := hR
  have hS := hR.ok
  have hk8 : (sh S 0).1 = 8 := by rw [sk0 hS]
  have hk1 : (sh S 3).1 = 1 := by rw [sk3 hS]
  have hk : (sh S 50).1 = 9 := by rw [sk50 hS]
  obtain ⟨d, P, N, l, T, wh, kd, td, mo, prs, q, h⟩ := hR
  obtain ⟨hl, ⟨g1, g2, g3⟩, hO⟩ := h
  have hT6 := hO.1.2.1
  rcases rows_cases hS hO.2.2.1 x with ⟨r, hr, h1, h2⟩ | ⟨s, n, hs, rfl, hn, hz, h1, h2⟩
  · refine op_same (a := r) hR0 ?_ ?_
    · unfold f_X8_laws
      rw [vc_k hk8, h1, Option.bind_some, if_neg hr]
    · show f_X9_laws (mk S m) (some 50) x = _
      unfold f_X9_laws
      have h2' : f_X9_sheetWrong (mk S m) (some 50) x = _ := h2 (lg S) m rfl rfl
      rw [vc_k hk, h2', Option.bind_some, if_neg hr]
      rfl
  · obtain ⟨q1, q2, q3, _⟩ := hO.2.2.1 s hs
    obtain ⟨m1, e1, agJ⟩ := C_laws (T := T) (cl := m (39 + 2 * s)) hT6 hs hn T FU 0 m 0 (by omega) (by unfold FU; omega) g1 hO.1.2.2.1 (fun t ht => (CI.tx hO ht).1) hz rfl
    have hM1 := g2.ofC agJ zj_50
    obtain ⟨z0, z1, z2⟩ := zj_60 agJ
    have n50 := agJ 50 (zj_50 50 (by omega))
    obtain ⟨L, m2, e2, hM2, h37, ag2⟩ := M_laws (cl := m (39 + 2 * s)) hT6 hl hs hn T FU 0 l S m1 0 (by omega) (by unfold FU; omega) hM1 (by rw [n50]; exact g3) (by rw [n50]; exact hO.1.2.2.2.1) (fun t ht => by
      obtain ⟨fr, h⟩ := (CI.tx hO ht).2
      exact ⟨fr, h.ag (agJ 56 (zj_50 56 (by omega))) (agJ 57 (zj_50 57 (by omega)))⟩) (by rw [z1, q2]; exact hz) (fun j hj => by rw [z2]; exact q3 j hj)
    refine op_mk (a := nI (ksS (lwB d P N wh kd td mo prs (m (39 + 2 * s)) n q) T 0 0)) (S1 := S) (m1 := m1) (S2 := sLg S L) (m2 := m2) ?_ ?_ ⟨d, P, N, l, T, wh, kd, td, mo, prs, q, RP.q2 ⟨hl, ⟨g1, g2, g3⟩, hO⟩ agJ (ag2.mono (fun b hb => zb_zm hb) (fun j hj => by unfold JQ at hj; unfold JG; omega)) hM2 h37⟩
    · unfold f_X8_laws
      rw [vc_k hk8, h1, Option.bind_some, if_pos rfl]
      exact e1
    · show f_X9_laws (mk S m1) (some 50) (nI s) = _
      unfold f_X9_laws
      have h2' : f_X9_sheetWrong (mk S m1) (some 50) (nI s) = _ := h2 (lg S) m1 z0 z1
      rw [vc_k hk, h2', Option.bind_some, if_pos rfl]
      show (gI (mk S m1) 9 (some 50) 16).bind _ = _
      rw [gI_k hk, hM1.2.2.2.1.2.2.2.2.2.2.2.1, Option.bind_some]
      exact e2
