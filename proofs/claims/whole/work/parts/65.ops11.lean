/-! PURE: calls: numbers, drawn -/
def nmB (P N l : Nat) (wh kd td mo : Nat → Nat) (prs : Nat → Nat → List Nat) (cl : Nat → Int32) (n : Nat) (q : QS) (e : Nat) : Bool := decide (fwS (mkE e P N wh kd td mo (prs l)) cl n 0 q = -1)
theorem nlt20 {i : Nat} (h : i ≤ 20) : ¬ (20 : Int32) < nI i := fun y => by
  have := (nI_ltI (a := 20) (by omega) (by omega)).1 y
  omega
theorem C_numbers {S : SK} {d P N l s n T : Nat} {wh kd td mo : Nat → Nat} {prs : Nat → Nat → List Nat} {q : QS} {cl : Nat → Int32} (hl6 : l < 6) (hs : s < 4) (hn : n ≤ 20) : ∀ (r f i : Nat) (m : Nat → Nat → Int32) (a : Nat), i + r = 21 → 2 ≤ i → r < f → CI S m 3 (mkE d P N wh kd td mo (prs l)) l q → CText S m l (prs l) → m (38 + 2 * s) 2 = nI (2 * n) → m (39 + 2 * s) = cl →
    ∃ m2, f_X8_numbers_17 f (mk S m) (some 0) (nI s) (nI a) (nI i) = some (nI (ksS (nmB P N l wh kd td mo prs cl n q) r i a), mk S m2) ∧ Ag (ZJ S) m m2 := by
  intro r
  induction r with
  | zero =>
    intro f i m a hi hi2 hf hC _ _ _
    obtain ⟨f, rfl⟩ : ∃ k, f = k + 1 := ⟨f - 1, by omega⟩
    have hi : i = 21 := by omega
    subst hi
    exact ⟨m, rfl, Ag.rf⟩
  | succ r ih =>
    intro f i m a hi hi2 hf hC hx h2 hcl
    obtain ⟨f, rfl⟩ : ∃ k, f = k + 1 := ⟨f - 1, by omega⟩
    have hS := hC.1.1
    have hk8 : (sh S 0).1 = 8 := by rw [sk0 hS]
    have hk1 : (sh S 3).1 = 1 := by rw [sk3 hS]
    obtain ⟨m1, e1, agJ⟩ := C_first (T := T) hC hx hl6 (show 2 ≤ i ∧ i ≤ 20 by omega) hs hn h2
    rw [hcl] at e1
    have nb : ∀ b, (b = 0 ∨ (38 ≤ b ∧ b ≤ 45)) → m1 b = m b := fun b hb => agJ b (fun y => by have := y.no; omega)
    have hC1 := hC.zj agJ
    have e54 : ∀ h a, f_X8_numbers_54 (f_X8_numbers_17 f) h (some 0) (nI s) (nI a) (nI i) = f_X8_numbers_17 f h (some 0) (nI s) (nI a) (nI (i + 1)) := fun h a => by
      unfold f_X8_numbers_54
      rw [bnd_eq, show nI i + (1 : Int32) = nI (i + 1) from nI_add i 1]
    obtain ⟨m2, e2, ag2⟩ := ih f (i + 1) m1 (if nmB P N l wh kd td mo prs cl n q i = true then a ||| 2 ^ i else a) (by omega) (by omega) (by omega) hC1 (hx.ag agJ ZJ.ok.2) (by rw [nb _ (by omega)]; exact h2) (by rw [nb _ (by omega)]; exact hcl)
    refine ⟨m2, ?_, agJ.tr ag2⟩
    show fb_X8_numbers_17 (f_X8_numbers_17 f) (mk S m) (some 0) (nI s) (nI a) (nI i) = some (nI (ksS (nmB P N l wh kd td mo prs cl n q) r (i + 1) (if nmB P N l wh kd td mo prs cl n q i = true then a ||| 2 ^ i else a)), mk S m2)
    unfold fb_X8_numbers_17
    rw [if_neg (nlt20 (by omega)), r0_8 hS, Option.bind_some, rR37 hS hs, Option.bind_some, r0_2 hS, Option.bind_some, gI_k hk1, hC.2.2.1.2.2.2.2.2.2.2.1, Option.bind_some, vc_k hk8, e1, Option.bind_some]
    by_cases z : fwS (mkE i P N wh kd td mo (prs l)) cl n 0 q = -1
    · have hb : nmB P N l wh kd td mo prs cl n q i = true := decide_eq_true z
      rw [if_pos z, bnd_eq, show (1 : Int32) <<< (nI i &&& 31) = nI (2 ^ i) from shl1 (by omega), fa_or, e54]
      rw [hb, if_pos rfl] at e2 ⊢
      exact e2
    · have hb : nmB P N l wh kd td mo prs cl n q i = false := decide_eq_false z
      rw [if_neg z, e54]
      rw [hb, if_neg (by decide)] at e2 ⊢
      exact e2
theorem M_numbers {d P N l s n : Nat} {wh kd td mo : Nat → Nat} {prs : Nat → Nat → List Nat} {q : QS} {cl : Nat → Int32} (hd : 2 ≤ d ∧ d ≤ 20) (hs : s < 4) (hn : n ≤ 20) : ∀ (r f i t : Nat) (S : SK) (m : Nat → Nat → Int32) (a : Nat), i + r = 21 → 2 ≤ i → r < f → MV S m (mkE t P N wh kd td mo (prs l)) l q → m 50 37 = nI 0 → m 61 s = nI (2 * n) → (∀ j, j < 40 → m 62 (40 * s + j) = cl j) →
    ∃ L m2, f_X9_numbers_23 f (mk S m) (some 50) (nI s) (nI d) (nI a) (nI i) = some (nI (ksS (nmB P N l wh kd td mo prs cl n q) r i a), mk (sLg S L) m2) ∧ MV (sLg S L) m2 (mkE d P N wh kd td mo (prs l)) l q ∧ m2 50 37 = nI 0 ∧ AgM ZB (fun j => JQ j ∨ j = 0) m m2 := by
  intro r
  induction r with
  | zero =>
    intro f i t S m a hi hi2 hf hM h37 _ _
    obtain ⟨f, rfl⟩ : ∃ k, f = k + 1 := ⟨f - 1, by omega⟩
    have hi : i = 21 := by omega
    subst hi
    refine ⟨lg S, w2 m 50 0 (nI d), ?_, hM.num h37 hd, h37, AgM.w50 AgM.rf (Or.inr rfl)⟩
    show fb_X9_numbers_23 (f_X9_numbers_23 f) (mk S m) (some 50) (nI s) (nI d) (nI a) (nI 21) = _
    unfold fb_X9_numbers_23
    rw [if_pos (show (20 : Int32) < nI 21 by decide), pI_k hM.k, Option.bind_some]
    rfl
  | succ r ih =>
    intro f i t S m a hi hi2 hf hM h37 h61 hcl
    obtain ⟨f, rfl⟩ : ∃ k, f = k + 1 := ⟨f - 1, by omega⟩
    have hM1 := hM.num h37 (e := i) (by omega)
    obtain ⟨L2, m2, e2, hM2, ag2⟩ := M_unlike (cl := cl) hM1 hs hn h61 hcl
    have ag1 : AgM (fun _ => False) (fun j => j = 0) m (w2 m 50 0 (nI i)) := AgM.w50 AgM.rf rfl
    have f37 : m2 50 37 = nI 0 := by
      rw [ag2.2 37 (by unfold JQ; omega)]
      exact h37
    have nb : ∀ b, b ≠ 50 → b < 65 → m2 b = m b := fun b h5 hb => by
      rw [ag2.1 b h5 (by unfold ZB; omega), ag1.1 b h5 id]
    obtain ⟨L3, m3, e3, hM3, h373, ag3⟩ := ih f (i + 1) i (sLg S L2) m2 (if nmB P N l wh kd td mo prs cl n q i = true then a ||| 2 ^ i else a) (by omega) (by omega) (by omega) hM2 f37 (by rw [nb 61 (by decide) (by decide)]; exact h61) (fun j hj => by rw [nb 62 (by decide) (by decide)]; exact hcl j hj)
    refine ⟨L3, m3, ?_, hM3, h373, ((ag1.mono (fun _ z => z.elim) (fun j hj => Or.inr hj)).tr (ag2.mono (fun _ z => z) (fun _ z => Or.inl z))).tr ag3⟩
    show fb_X9_numbers_23 (f_X9_numbers_23 f) (mk S m) (some 50) (nI s) (nI d) (nI a) (nI i) = some (nI (ksS (nmB P N l wh kd td mo prs cl n q) r (i + 1) (if nmB P N l wh kd td mo prs cl n q i = true then a ||| 2 ^ i else a)), mk (sLg S L3) m3)
    unfold fb_X9_numbers_23
    rw [if_neg (nlt20 (by omega)), pI_k hM.k, Option.bind_some, vc_k hM.k, e2, Option.bind_some]
    unfold f_X9_numbers_55
    by_cases z : fwS (mkE i P N wh kd td mo (prs l)) cl n 0 q = -1
    · have hb : nmB P N l wh kd td mo prs cl n q i = true := decide_eq_true z
      rw [if_pos z, bnd_eq, bnd_eq, show (1 : Int32) <<< (nI i &&& 31) = nI (2 ^ i) from shl1 (by omega), fa_or, show nI i + (1 : Int32) = nI (i + 1) from nI_add i 1]
      rw [hb, if_pos rfl] at e3 ⊢
      exact e3
    · have hb : nmB P N l wh kd td mo prs cl n q i = false := decide_eq_false z
      rw [if_neg z, bnd_eq, bnd_eq, show nI a ||| (0 : Int32) = nI (a ||| 0) from fa_or a 0, Nat.or_zero, show nI i + (1 : Int32) = nI (i + 1) from nI_add i 1]
      rw [hb, if_neg (by decide)] at e3 ⊢
      exact e3
theorem op_numbers {S : SK} {m : Nat → Nat → Int32} (hR : RR S m) (x : Int32) : RES (f_X8_numbers (mk S m) (some 0) x) (fun S1 m1 => f_X9_numbers (mk S1 m1) (some 50) x) := by
  have hR0 := hR
  have hS := hR.ok
  have hk8 : (sh S 0).1 = 8 := by rw [sk0 hS]
  have hk1 : (sh S 3).1 = 1 := by rw [sk3 hS]
  have hk : (sh S 50).1 = 9 := by rw [sk50 hS]
  obtain ⟨d, P, N, l, T, wh, kd, td, mo, prs, q, h⟩ := hR
  obtain ⟨hl, ⟨g1, g2, g3⟩, hO⟩ := h
  have hT6 := hO.1.2.1
  have hd : 2 ≤ d ∧ d ≤ 20 := g1.1.2.1.1
  rcases rows_cases hS hO.2.2.1 x with ⟨r, hr, h1, h2⟩ | ⟨s, n, hs, rfl, hn, hz, h1, h2⟩
  · refine op_same (a := r) hR0 ?_ ?_
    · unfold f_X8_numbers
      rw [vc_k hk8, h1, Option.bind_some, if_neg hr]
    · show f_X9_numbers (mk S m) (some 50) x = _
      unfold f_X9_numbers
      have h2' : f_X9_sheetWrong (mk S m) (some 50) x = _ := h2 (lg S) m rfl rfl
      rw [vc_k hk, h2', Option.bind_some, if_neg hr]
      rfl
  · obtain ⟨q1, q2, q3, _⟩ := hO.2.2.1 s hs
    obtain ⟨m1, e1, agJ⟩ := C_numbers (T := T) (cl := m (39 + 2 * s)) (by omega) hs hn 19 FU 2 m 0 (by omega) (by omega) (by unfold FU; omega) g1 (CI.tx hO hl).1 hz rfl
    have hM1 := g2.ofC agJ zj_50
    obtain ⟨z0, z1, z2⟩ := zj_60 agJ
    have n50 := agJ 50 (zj_50 50 (by omega))
    obtain ⟨L, m2, e2, hM2, h37, ag2⟩ := M_numbers (cl := m (39 + 2 * s)) hd hs hn 19 FU 2 d S m1 0 (by omega) (by omega) (by unfold FU; omega) hM1 (by rw [n50]; exact g3) (by rw [z1, q2]; exact hz) (fun j hj => by rw [z2]; exact q3 j hj)
    refine op_mk (a := nI (ksS (nmB P N l wh kd td mo prs (m (39 + 2 * s)) n q) 19 2 0)) (S1 := S) (m1 := m1) (S2 := sLg S L) (m2 := m2) ?_ ?_ ⟨d, P, N, l, T, wh, kd, td, mo, prs, q, RP.q2 ⟨hl, ⟨g1, g2, g3⟩, hO⟩ agJ (ag2.mono (fun b hb => zb_zm hb) (fun j hj => by unfold JQ at hj; unfold JG; omega)) hM2 h37⟩
    · unfold f_X8_numbers
      rw [vc_k hk8, h1, Option.bind_some, if_pos rfl]
      exact e1
    · show f_X9_numbers (mk S m1) (some 50) (nI s) = _
      unfold f_X9_numbers
      have h2' : f_X9_sheetWrong (mk S m1) (some 50) (nI s) = _ := h2 (lg S) m1 z0 z1
      rw [vc_k hk, h2', Option.bind_some, if_pos rfl]
      show (gI (mk S m1) 9 (some 50) 0).bind _ = _
      rw [gI_k hk, show m1 50 0 = nI d from hM1.2.2.2.1.1, Option.bind_some]
      exact e2
/-! mornings by lot -/
def drS (E : EN) : Nat → Nat → QS → QS
  | 0, _, q => q
  | k + 1, lot, q => if 0 < eN E then drS E k (lot * 48271 % 2147483647) (if canS E q (lot * 48271 % 2147483647 % eN E) = true then putS E q (lot * 48271 % 2147483647 % eN E) else q) else q
theorem lot_rem {lot : Nat} (h : lot < 2147483648) : lrem (lN lot * (48271 : Int64)) (2147483647 : Int64) = some (lN (lot * 48271 % 2147483647)) := by
  rw [show (48271 : Int64) = lN 48271 from rfl, show (2147483647 : Int64) = lN 2147483647 from rfl, lN_mul]
  exact lrem_n (by omega) (by decide) (by decide)
theorem lt14 {i : Nat} (h : i < 14) : nI i < (14 : Int32) := (nI_ltI (b := 14) (by omega) (by omega)).2 h
theorem C_insideEnd {S : SK} {m : Nat → Nat → Int32} {E : EN} {l : Nat} {q : QS} (h : CI S m 9 E l q) : f_X8_insideBy_87 (mk S m) (some 0) = some (nI (pc7 q.2.2.1), mk S m) := by
  have hk8 : (sh S 0).1 = 8 := by rw [sk0 h.1.1]
  have hk9 : (sh S 9).1 = 1 := by rw [sk9 h.1.1]
  have z1 := p16 h.1.2.1.2.1 h.2.2.2.2.2.1
  unfold f_X8_insideBy_87
  rw [gR_k hk8, rk0_4 h.1.1, Option.bind_some, gI_k hk9, h.2.2.1.2.2.2.2.1, Option.bind_some, J6_bitCount (by omega), Option.bind_some]
theorem C_insideL {S : SK} {E : EN} {l : Nat} : ∀ (r f i : Nat) (m : Nat → Nat → Int32) (q : QS) (lot : Nat), i + r = 14 → r < f → lot < 2147483648 → CI S m 9 E l q →
    ∃ m2, f_X8_insideBy_19 f (mk S m) (some 0) (lN lot) (nI i) = some (nI (pc7 (drS E r lot q).2.2.1), mk S m2) ∧ Ag (ZJ S) m m2 := by
  intro r
  induction r with
  | zero =>
    intro f i m q lot hi hf hlt hC
    obtain ⟨f, rfl⟩ : ∃ k, f = k + 1 := ⟨f - 1, by omega⟩
    have hi : i = 14 := by omega
    subst hi
    refine ⟨m, ?_, Ag.rf⟩
    show fb_X8_insideBy_19 (f_X8_insideBy_19 f) (mk S m) (some 0) (lN lot) (nI 14) = _
    unfold fb_X8_insideBy_19
    rw [if_neg (show ¬ nI 14 < (14 : Int32) by decide), C_insideEnd hC]
    rfl
  | succ r ih =>
    intro f i m q lot hi hf hlt hC
    obtain ⟨f, rfl⟩ : ∃ k, f = k + 1 := ⟨f - 1, by omega⟩
    have hS := hC.1.1
    have hN := hC.1.2.1.2.2.1
    have hk8 : (sh S 0).1 = 8 := by rw [sk0 hS]
    have hk9 : (sh S 9).1 = 1 := by rw [sk9 hS]
    have r04 : ∀ m', gR (mk S m') 8 (some 0) 4 = some (some 9) := fun m' => by rw [gR_k hk8, rk0_4 hS]
    show ∃ m2, fb_X8_insideBy_19 (f_X8_insideBy_19 f) (mk S m) (some 0) (lN lot) (nI i) = _ ∧ _
    unfold fb_X8_insideBy_19
    rw [if_pos (lt14 (by omega)), r04, Option.bind_some, gI_k hk9, hC.2.2.1.2.2.2.2.2.1, Option.bind_some]
    by_cases hN0 : 0 < eN E
    · have hlt2 : lot * 48271 % 2147483647 < 2147483647 := Nat.mod_lt _ (by decide)
      have hc : lot * 48271 % 2147483647 % eN E < eN E := Nat.mod_lt _ hN0
      have ed : drS E (r + 1) lot q = drS E r (lot * 48271 % 2147483647) (if canS E q (lot * 48271 % 2147483647 % eN E) = true then putS E q (lot * 48271 % 2147483647 % eN E) else q) := if_pos hN0
      rw [ed]
      have e81 : ∀ h lt, f_X8_insideBy_81 (f_X8_insideBy_19 f) h (some 0) lt (nI i) = f_X8_insideBy_19 f h (some 0) lt (nI (i + 1)) := fun h lt => by
        unfold f_X8_insideBy_81
        rw [bnd_eq, show nI i + (1 : Int32) = nI (i + 1) from nI_add i 1]
      rw [if_pos (show (0 : Int32) < nI (eN E) from (nI_ltI (a := 0) (by omega) (by omega)).2 hN0), lot_rem hlt, Option.bind_some, Option.bind_some, gI_k hk9, hC.2.2.1.2.2.2.2.2.1, Option.bind_some, nI_l (by omega)]
      generalize lot * 48271 % 2147483647 = lot2 at hlt2 hc
      rw [lrem_n (by omega) hN0 (by omega), Option.bind_some, Option.bind_some, lN_i, vc_k hk9, C_mayPut hC hc, Option.bind_some]
      by_cases hcan : canS E q (lot2 % eN E) = true
      · obtain ⟨m1, e1, hC1, ag1⟩ := C_put hC hc
        obtain ⟨m2, e2, ag2⟩ := ih f (i + 1) m1 (putS E q (lot2 % eN E)) lot2 (by omega) (by omega) (by omega) hC1
        refine ⟨m2, ?_, (ag1.mono (fun b hb => zg9_zj hb)).tr ag2⟩
        rw [hcan, if_neg (show ¬ nI (if true = true then 1 else 0) = (0 : Int32) by decide), if_pos rfl]
        rw [r04, Option.bind_some, vc_k hk9, e1, Option.bind_some, e81]
        exact e2
      · have hcan' : canS E q (lot2 % eN E) = false := by simpa using hcan
        obtain ⟨m2, e2, ag2⟩ := ih f (i + 1) m q lot2 (by omega) (by omega) (by omega) hC
        refine ⟨m2, ?_, ag2⟩
        rw [hcan', if_pos (show nI (if false = true then 1 else 0) = (0 : Int32) from rfl), if_neg (by decide), e81]
        exact e2
    · have ed : drS E (r + 1) lot q = q := if_neg hN0
      rw [ed, if_neg (show ¬ (0 : Int32) < nI (eN E) from fun z => hN0 ((nI_ltI (a := 0) (by omega) (by omega)).1 z)), C_insideEnd hC]
      exact ⟨m, rfl, Ag.rf⟩
theorem C_inside {S : SK} {m : Nat → Nat → Int32} {E : EN} {l sd : Nat} {q : QS} (h : CI S m 3 E l q) (hsd : sd < 200000) :
    ∃ m2, f_X8_insideBy (mk S m) (some 0) (nI sd) = some (nI (pc7 (drS E 14 (sd + 1) q).2.2.1), mk S m2) ∧ Ag (ZJ S) m m2 := by
  have hS := h.1.1
  have hk8 : (sh S 0).1 = 8 := by rw [sk0 hS]
  have hk9 : (sh S 9).1 = 1 := by rw [sk9 hS]
  obtain ⟨m1, e1, hC1, ag1⟩ := C_become h (g := 9) (Or.inr (Or.inr (Or.inl rfl))) (by decide)
  obtain ⟨m2, e2, ag2⟩ := C_insideL 14 FU 0 m1 q (sd + 1) (by omega) (by unfold FU; omega) (by omega) hC1
  refine ⟨m2, ?_, (ag1.mono (fun b hb => Or.inr (Or.inl (by omega)))).tr ag2⟩
  unfold f_X8_insideBy
  rw [gR_k hk8, rk0_4 hS, Option.bind_some, r0_2 hS, Option.bind_some, vc_k hk9, e1, Option.bind_some, bnd_eq, nI_l (by omega), lN_1]
  exact e2
theorem M_insideEnd {S : SK} {m : Nat → Nat → Int32} {E : EN} {l : Nat} {q q0 : QS} (h : MV S m E l q) (hK : KP m 0 q0) (hq : QOK E q0) : ∃ m2, f_X9_insideBy_69 (mk S m) (some 50) = some (nI (pc7 q.2.2.1), mk S m2) ∧ MV S m2 E l q0 ∧ AgM (fun _ => False) JQ m m2 := by
  have z1 := p16 h.2.1.2.1 h.2.2.2.2.1.2.2.1
  obtain ⟨m2, e2, hM2, ag2⟩ := M_lays h (d := 0) (by decide) hK hq
  have e2' : f_X9_laysBack (mk S m) (some 50) (0 : Int32) = _ := e2
  refine ⟨m2, ?_, hM2, ag2⟩
  unfold f_X9_insideBy_69
  rw [gI_k h.k, h.2.2.2.1.2.2.2.2.1, Option.bind_some, X9_ones (by omega), Option.bind_some, vc_k h.k, e2', Option.bind_some, bc_pc _ (by omega)]
theorem M_insideL {E : EN} {l : Nat} {q0 : QS} (hq0 : QOK E q0) : ∀ (r f i : Nat) (S : SK) (m : Nat → Nat → Int32) (q : QS) (lot : Nat), i + r = 14 → r < f → lot < 2147483648 → MV S m E l q → KP m 0 q0 →
    ∃ L m2, f_X9_insideBy_13 f (mk S m) (some 50) (lN lot) (nI i) = some (nI (pc7 (drS E r lot q).2.2.1), mk (sLg S L) m2) ∧ MV (sLg S L) m2 E l q0 ∧ AgM ZB JQ m m2 := by
  intro r
  induction r with
  | zero =>
    intro f i S m q lot hi hf hlt hM hK
    obtain ⟨f, rfl⟩ : ∃ k, f = k + 1 := ⟨f - 1, by omega⟩
    have hi : i = 14 := by omega
    subst hi
    obtain ⟨m2, e2, hM2, ag2⟩ := M_insideEnd hM hK hq0
    refine ⟨lg S, m2, ?_, hM2, ag2.mono (fun _ z => z.elim) (fun _ z => z)⟩
    show fb_X9_insideBy_13 (f_X9_insideBy_13 f) (mk S m) (some 50) (lN lot) (nI 14) = _
    unfold fb_X9_insideBy_13
    rw [if_neg (show ¬ nI 14 < (14 : Int32) by decide), e2]
    rfl
  | succ r ih =>
    intro f i S m q lot hi hf hlt hM hK
    obtain ⟨f, rfl⟩ : ∃ k, f = k + 1 := ⟨f - 1, by omega⟩
    have hN := hM.2.1.2.2.1
    show ∃ L m2, fb_X9_insideBy_13 (f_X9_insideBy_13 f) (mk S m) (some 50) (lN lot) (nI i) = _ ∧ _
    unfold fb_X9_insideBy_13
    rw [if_pos (lt14 (by omega)), gI_k hM.k, hM.2.2.2.1.2.2.2.2.2.1, Option.bind_some]
    by_cases hN0 : 0 < eN E
    · have hlt2 : lot * 48271 % 2147483647 < 2147483647 := Nat.mod_lt _ (by decide)
      have hc : lot * 48271 % 2147483647 % eN E < eN E := Nat.mod_lt _ hN0
      have ed : drS E (r + 1) lot q = drS E r (lot * 48271 % 2147483647) (if canS E q (lot * 48271 % 2147483647 % eN E) = true then putS E q (lot * 48271 % 2147483647 % eN E) else q) := if_pos hN0
      rw [ed]
      have e63 : ∀ h lt, f_X9_insideBy_63 (f_X9_insideBy_13 f) h (some 50) lt (nI i) = f_X9_insideBy_13 f h (some 50) lt (nI (i + 1)) := fun h lt => by
        unfold f_X9_insideBy_63
        rw [bnd_eq, show nI i + (1 : Int32) = nI (i + 1) from nI_add i 1]
      rw [if_pos (show (0 : Int32) < nI (eN E) from (nI_ltI (a := 0) (by omega) (by omega)).2 hN0), lot_rem hlt, Option.bind_some, Option.bind_some, nI_l (by omega)]
      generalize lot * 48271 % 2147483647 = lot2 at hlt2 hc
      rw [lrem_n (by omega) hN0 (by omega), Option.bind_some, lN_i, vc_k hM.k, M_canPut hM hc, Option.bind_some]
      by_cases hcan : canS E q (lot2 % eN E) = true
      · obtain ⟨L1, m1, e1, hM1, ag1⟩ := M_put hM hc
        have hK1 : KP m1 0 q0 := by
          unfold KP
          rw [ag1.1 70 (by decide) (by unfold ZA; omega)]
          exact hK
        obtain ⟨L2, m2, e2, hM2, ag2⟩ := ih f (i + 1) (sLg S L1) m1 (putS E q (lot2 % eN E)) lot2 (by omega) (by omega) (by omega) hM1 hK1
        refine ⟨L2, m2, ?_, hM2, (ag1.mono (fun b hb => by unfold ZA at hb; unfold ZB; omega) (fun _ z => z)).tr ag2⟩
        rw [hcan, if_neg (show ¬ nI (if true = true then 1 else 0) = (0 : Int32) by decide), if_pos rfl, vc_k hM.k, e1, Option.bind_some, e63]
        exact e2
      · have hcan' : canS E q (lot2 % eN E) = false := by simpa using hcan
        obtain ⟨L2, m2, e2, hM2, ag2⟩ := ih f (i + 1) S m q lot2 (by omega) (by omega) (by omega) hM hK
        refine ⟨L2, m2, ?_, hM2, ag2⟩
        rw [hcan', if_pos (show nI (if false = true then 1 else 0) = (0 : Int32) from rfl), if_neg (by decide), e63]
        exact e2
    · have ed : drS E (r + 1) lot q = q := if_neg hN0
      obtain ⟨m2, e2, hM2, ag2⟩ := M_insideEnd hM hK hq0
      refine ⟨lg S, m2, ?_, hM2, ag2.mono (fun _ z => z.elim) (fun _ z => z)⟩
      rw [ed, if_neg (show ¬ (0 : Int32) < nI (eN E) from fun z => hN0 ((nI_ltI (a := 0) (by omega) (by omega)).1 z)), e2]
      rfl
theorem M_inside {S : SK} {m : Nat → Nat → Int32} {E : EN} {l sd : Nat} {q : QS} (h : MV S m E l q) (hsd : sd < 200000) :
    ∃ L m2, f_X9_insideBy (mk S m) (some 50) (nI sd) = some (nI (pc7 (drS E 14 (sd + 1) q).2.2.1), mk (sLg S L) m2) ∧ MV (sLg S L) m2 E l q ∧ AgM ZB JQ m m2 := by
  obtain ⟨m1, e1, hM1, hK1, ag1, _⟩ := M_keeps h (d := 0) (by decide)
  have e1' : f_X9_keeps (mk S m) (some 50) (0 : Int32) = _ := e1
  obtain ⟨L, m2, e2, hM2, ag2⟩ := M_insideL h.2.2.2.2.1 14 FU 0 S m1 q (sd + 1) (by omega) (by unfold FU; omega) (by omega) hM1 hK1
  refine ⟨L, m2, ?_, hM2, (ag1.mono (fun b hb => by unfold Z70 at hb; unfold ZB; omega) (fun _ z => z.elim)).tr ag2⟩
  unfold f_X9_insideBy
  rw [bnd_eq, nI_l (by omega), lN_1, vc_k h.k, e1', Option.bind_some]
  exact e2
theorem op_drawn {S : SK} {m : Nat → Nat → Int32} (hR : RR S m) (x : Int32) : RES (f_X8_drawn (mk S m) (some 0) x) (fun S1 m1 => f_X9_drawn (mk S1 m1) (some 50) x) := by
  have hR0 := hR
  have hS := hR.ok
  have hk8 : (sh S 0).1 = 8 := by rw [sk0 hS]
  have hk1 : (sh S 3).1 = 1 := by rw [sk3 hS]
  have hk : (sh S 50).1 = 9 := by rw [sk50 hS]
  obtain ⟨d, P, N, l, T, wh, kd, td, mo, prs, q, h⟩ := hR
  obtain ⟨hl, ⟨g1, g2, g3⟩, hO⟩ := h
  rcases i_rng x (B := 99999) (by decide) with ⟨sd, hsd, rfl⟩ | hbad
  · obtain ⟨m1, e1, agJ⟩ := C_inside g1 (sd := sd) (by omega)
    have hM1 := g2.ofC agJ zj_50
    obtain ⟨L, m2, e2, hM2, ag2⟩ := M_inside hM1 (sd := sd) (by omega)
    have h37 : m2 50 37 = nI 0 := by
      rw [ag2.2 37 (by unfold JQ; omega), agJ 50 (zj_50 50 (by omega))]
      exact g3
    refine op_mk (a := nI (pc7 (drS (mkE d P N wh kd td mo (prs l)) 14 (sd + 1) q).2.2.1)) (S1 := S) (m1 := m1) (S2 := sLg S L) (m2 := m2) ?_ ?_ ⟨d, P, N, l, T, wh, kd, td, mo, prs, q, RP.q ⟨hl, ⟨g1, g2, g3⟩, hO⟩ agJ (ag2.mono (fun b hb => zb_zm hb) (fun j hj => jq_jm hj)) hM2 h37⟩
    · unfold f_X8_drawn
      rw [ifr_y (b := 99999) (B := 99999) rfl hsd (by decide), vc_k hk8, e1, Option.bind_some]
      rfl
    · show f_X9_drawn (mk S m1) (some 50) (nI sd) = _
      unfold f_X9_drawn
      rw [X9_in, ifr_y (b := 99999) (B := 99999) rfl hsd (by decide), Option.bind_some, if_neg (show ¬ (1 : Int32) = 0 by decide), vc_k hk, e2, Option.bind_some]
      rfl
  · refine op_same (a := -2) hR0 ?_ ?_
    · unfold f_X8_drawn
      rw [ifr_n (b := 99999) (B := 99999) rfl hbad]
      rfl
    · show f_X9_drawn (mk S m) (some 50) x = _
      unfold f_X9_drawn
      rw [X9_in, ifr_n (b := 99999) (B := 99999) rfl hbad, Option.bind_some, if_pos rfl]
      rfl
