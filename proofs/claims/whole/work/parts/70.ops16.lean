/-! PURE: calls: sheet, cell -/
def ZJS (S : SK) (b : Nat) : Prop := ZJ S b ∨ (38 ≤ b ∧ b ≤ 45)
def ZMS (b : Nat) : Prop := (60 ≤ b ∧ b ≤ 62) ∨ (65 ≤ b ∧ b ≤ 75)
theorem RP.sheet {S : SK} {m m1 m2 : Nat → Nat → Int32} {d P N l T : Nat} {wh kd td mo : Nat → Nat} {prs : Nat → Nat → List Nat} {q : QS} {L : Nat → Nat → Int64} (h : RP S m d P N l T wh kd td mo prs q) (ha : Ag (ZJS S) m m1) (hb : AgM ZMS JM m1 m2) (hM : MV (sLg S L) m2 (mkE d P N wh kd td mo (prs l)) l q) (h37 : m2 50 37 = nI 0) (hsh : RSh m2) : RP (sLg S L) m2 d P N l T wh kd td mo prs q := by
  obtain ⟨hl, ⟨g1, g2, g3⟩, hTx, hI, _, hTp, hWd, hAd⟩ := h
  have nj : ∀ b, ZJS S b → b = 5 ∨ (8 ≤ b ∧ b ≤ 32) ∨ (38 ≤ b ∧ b ≤ 45) ∨ b = 49 ∨ 79 ≤ b := fun b hb => by
    rcases hb with y | y
    · have := y.no
      omega
    · omega
  have hA : Ag (fun b => ZJS S b ∨ b = 50 ∨ ZMS b) m m2 := fun b hb2 => by
    rw [hb.1 b (fun y => hb2 (Or.inr (Or.inl y))) (fun y => hb2 (Or.inr (Or.inr y))), ha b (fun y => hb2 (Or.inl y))]
  have hz : ZOK S (fun b => ZJS S b ∨ b = 50 ∨ ZMS b) := ZOK.of (fun b hb2 => by
    rcases hb2 with (( y | y | y) | y) | y | y
    · exact Or.inr (Or.inl (by omega))
    · exact Or.inr (Or.inl (by omega))
    · exact Or.inl y
    · exact Or.inr (Or.inl (by omega))
    · exact Or.inr (Or.inr (by omega))
    · exact Or.inr (Or.inr (by unfold ZMS at y; omega)))
  have no : ∀ b, b = 0 ∨ b = 3 ∨ b = 4 ∨ b = 6 ∨ b = 7 ∨ b = 33 ∨ b = 34 ∨ b = 36 ∨ (51 ≤ b ∧ b ≤ 59) ∨ b = 64 → ¬ (ZJS S b ∨ b = 50 ∨ ZMS b) := fun b hb2 y => by
    rcases y with y | y | y
    · have := nj b y
      omega
    · omega
    · unfold ZMS at y
      omega
  have e := fun b hb => hA b (no b hb)
  have j50 : ∀ j, j = 12 ∨ j = 15 ∨ j = 17 → m2 50 j = m 50 j := fun j hj => by
    rw [hb.2 j (by unfold JM; omega), ha 50 (fun y => by have := nj 50 y; omega)]
  refine ⟨hl, ⟨(g1.ag hA hz (no 3 (by omega)) (no 4 (by omega))).lg, hM, h37⟩, hTx.ag hA hz (by rw [e 0 (by omega)]) (j50 15 (by omega)) (e 56 (by omega)) (e 57 (by omega)), ?_, hsh, hTp.e (by rw [e 33 (by omega)]) (j50 12 (by omega)) (e 34 (by omega)) (e 55 (by omega)), hWd.e (e 64 (by omega)) (e 36 (by omega)), hAd⟩
  unfold RIm at hI ⊢
  rw [e 0 (by omega), j50 17 (by omega), e 58 (by omega), e 59 (by omega)]
  rcases hI with y | ⟨y1, y2, d2, P2, N2, wh2, l2, q2, y3, y4⟩
  · exact Or.inl y
  · exact Or.inr ⟨y1, y2, d2, P2, N2, wh2, l2, q2, (y3.ag hA hz (no 6 (by omega)) (no 7 (by omega))).lg, y4⟩
theorem RSh.set {m m2 : Nat → Nat → Int32} {s : Nat} (h : RSh m) (hs : s < 4) (e60 : ∀ j, j ≠ s → m2 60 j = m 60 j) (e61 : ∀ j, j ≠ s → m2 61 j = m 61 j) (e62 : ∀ j, j < 40 * s ∨ 40 * s + 40 ≤ j → m2 62 j = m 62 j) (ec : ∀ b, 38 ≤ b ∧ b ≤ 45 → b ≠ 38 + 2 * s → b ≠ 39 + 2 * s → m2 b = m b) (new : m2 60 s = m2 (38 + 2 * s) 1 ∧ m2 61 s = m2 (38 + 2 * s) 2 ∧ (∀ k, k < 40 → m2 62 (40 * s + k) = m2 (39 + 2 * s) k) ∧ (m2 (38 + 2 * s) 1 = -1 ∨ m2 (38 + 2 * s) 1 = nI 0 ∨ m2 (38 + 2 * s) 1 = nI 1 ∨ m2 (38 + 2 * s) 1 = nI 2) ∧ ∃ z, z ≤ 40 ∧ m2 (38 + 2 * s) 2 = nI z) : RSh m2 := by
  intro t ht
  by_cases e : t = s
  · rw [e]
    exact new
  · obtain ⟨a1, a2, a3, a4, a5⟩ := h t ht
    have f1 := ec (38 + 2 * t) (by omega) (by omega) (by omega)
    have f2 := ec (39 + 2 * t) (by omega) (by omega) (by omega)
    rw [f1, f2, e60 t e, e61 t e]
    refine ⟨a1, a2, ?_, a4, a5⟩
    intro k hk
    rw [e62 _ (by omega)]
    exact a3 k hk
theorem C_sheetBe {S : SK} {m : Nat → Nat → Int32} {s n : Nat} {sort : Int32} (hS : SkOK S) (hs : s < 4) (hn : n ≤ 40) :
    ∃ m2, f_X4_become (mk S m) (some (38 + 2 * s)) sort (nI n) = some (mk S m2) ∧ m2 (38 + 2 * s) 1 = sort ∧ m2 (38 + 2 * s) 2 = nI n ∧ (∀ k, k < 40 → m2 (39 + 2 * s) k = 0) ∧ Ag (fun b => b = 38 + 2 * s ∨ b = 39 + 2 * s) m m2 := by
  obtain ⟨b1, b2, b3, b4⟩ := shS hS s hs
  have hk4 : (sh S (38 + 2 * s)).1 = 4 := by rw [b1]
  have e1 : (if nI n < (40 : Int32) then nI n else (40 : Int32)) = nI n := by
    by_cases z : n < 40
    · exact if_pos ((nI_ltI (b := 40) (by omega) (by omega)).2 z)
    · have : n = 40 := by omega
      subst this
      rfl
  have e2 : (if (0 : Int32) < nI n then nI n else (0 : Int32)) = nI n := by
    by_cases z : 0 < n
    · exact if_pos ((nI_ltI (a := 0) (by omega) (by omega)).2 z)
    · have : n = 0 := by omega
      subst this
      rfl
  obtain ⟨m2, f1, f2, _, f3⟩ := J7_fill b2 (by decide) (v := (0 : Int32)) (w2 (w2 m (38 + 2 * s) 1 sort) (38 + 2 * s) 2 (nI n))
  refine ⟨m2, ?_, ?_, ?_, f2, ?_⟩
  · unfold f_X4_become
    rw [pI_k hk4, Option.bind_some, bnd_eq, bnd_eq, e1, e2, pI_k hk4, Option.bind_some, gR_k hk4, b3, Option.bind_some, f1, Option.bind_some]
  · rw [f3 (38 + 2 * s) (by omega), w2_ap, if_neg (by simp), w2_ap, if_pos ⟨rfl, rfl⟩]
  · rw [f3 (38 + 2 * s) (by omega), w2_ap, if_pos ⟨rfl, rfl⟩]
  · exact ((Ag.w2 (Z := fun b => b = 38 + 2 * s ∨ b = 39 + 2 * s) Ag.rf (Or.inl rfl)).w2 (Or.inl rfl)).tr (f3.mono (fun b hb => Or.inr hb))
theorem M_zero {S : SK} (hS : SkOK S) {s : Nat} (hs : s < 4) : ∀ (r f i : Nat) (m : Nat → Nat → Int32), i + r = 40 → r < f → ∃ m2, f_X9_sheet_70 f (mk S m) (some 50) (nI s) (nI i) = some (1, mk S m2) ∧ (∀ k, i ≤ k → k < 40 → m2 62 (40 * s + k) = 0) ∧ (∀ j, j < 40 * s + i ∨ 40 * s + 40 ≤ j → m2 62 j = m 62 j) ∧ Ag (fun b => b = 62) m m2 := by
  have hk : (sh S 50).1 = 9 := by rw [sk50 hS]
  intro r
  induction r with
  | zero =>
    intro f i m hi hf
    obtain ⟨f, rfl⟩ : ∃ k, f = k + 1 := ⟨f - 1, by omega⟩
    have hi : i = 40 := by omega
    subst hi
    exact ⟨m, rfl, fun k _ _ => by omega, fun _ _ => rfl, Ag.rf⟩
  | succ r ih =>
    intro f i m hi hf
    obtain ⟨f, rfl⟩ : ∃ k, f = k + 1 := ⟨f - 1, by omega⟩
    obtain ⟨m2, e, h1, h2, ag⟩ := ih f (i + 1) (w2 m 62 (40 * s + i) 0) (by omega) (by omega)
    refine ⟨m2, ?_, ?_, ?_, (Ag.w2 (Z := fun b => b = 62) Ag.rf rfl).tr ag⟩
    · show fb_X9_sheet_70 (f_X9_sheet_70 f) (mk S m) (some 50) (nI s) (nI i) = _
      unfold fb_X9_sheet_70
      rw [if_pos (show nI i < (40 : Int32) from (nI_ltI (b := 40) (by omega) (by omega)).2 (by omega)), gR_k hk, rk50_22 hS, Option.bind_some, show (40 : Int32) * nI s = nI (40 * s) from pk_mul 40 s, nI_add, sI_n (sk62 hS) (by omega) (by decide), Option.bind_some, bnd_eq, show nI i + (1 : Int32) = nI (i + 1) from nI_add i 1]
      exact e
    · intro k k1 k2
      by_cases z : k = i
      · subst z
        rw [h2 _ (by omega), w2_ap, if_pos ⟨rfl, rfl⟩]
      · exact h1 k (by omega) k2
    · intro j hj
      rw [h2 j (by omega), w2_ap, if_neg (by omega)]
theorem i_sort (x : Int32) : x < -1 ∨ (¬ x < -1 ∧ (2 : Int32) < x) ∨ x = -1 ∨ ∃ k, k ≤ 2 ∧ x = nI k := by
  have em : (-1 : Int32).toInt = -1 := by decide
  have e0 : (0 : Int32).toInt = 0 := by decide
  by_cases h : x < -1
  · exact Or.inl h
  · by_cases h0 : x < 0
    · refine Or.inr (Or.inr (Or.inl ?_))
      rw [Int32.lt_iff_toInt_lt] at h h0
      apply Int32.toInt_inj.1
      omega
    · obtain ⟨k, hk, rfl⟩ := i_of h0
      by_cases z : k ≤ 2
      · exact Or.inr (Or.inr (Or.inr ⟨k, z, rfl⟩))
      · exact Or.inr (Or.inl ⟨h, (nI_ltI (a := 2) (by omega) hk).2 (by omega)⟩)
theorem op_sheet {S : SK} {m : Nat → Nat → Int32} (hR : RR S m) (x y z : Int32) : RES (f_X8_sheet (mk S m) (some 0) x y z) (fun S1 m1 => f_X9_sheet (mk S1 m1) (some 50) x y z) := by
  have hR0 := hR
  have hS := hR.ok
  have hk8 : (sh S 0).1 = 8 := by rw [sk0 hS]
  have hk1 : (sh S 3).1 = 1 := by rw [sk3 hS]
  have hk : (sh S 50).1 = 9 := by rw [sk50 hS]
  obtain ⟨d, P, N, l, T, wh, kd, td, mo, prs, q, h⟩ := hR
  obtain ⟨hl, ⟨g1, g2, g3⟩, hO⟩ := h
  rcases i_in x (n := 4) (by decide) with ⟨s, hs, rfl⟩ | hno
  · have x1 := one_y hs (show (4 : Nat) < 2 ^ 31 by decide)
    obtain ⟨b1, b2, b3, b4⟩ := shS hS s hs
    have hk4 : (sh S (38 + 2 * s)).1 = 4 := by rw [b1]
    have hx0 : f_X8_sheet (mk S m) (some 0) (nI s) y z = if y < ((-1 : Int32)) then (f_X8_sheet_17 (mk S m)) else (if ((2 : Int32)) < y then (f_X8_sheet_17 (mk S m)) else (if y = ((-1 : Int32)) then ((f_X4_become (mk S m) (some (38 + 2 * s)) ((-1 : Int32)) ((0 : Int32))).bind fun q4 => some ((1 : Int32), q4)) else (if ((40 : Int32)) < z then (some ((-2 : Int32), mk S m)) else (if z < 0 then (some ((-14 : Int32), mk S m)) else ((f_X4_become (mk S m) (some (38 + 2 * s)) y z).bind fun q7 => some ((1 : Int32), q7)))))) := by
      unfold f_X8_sheet
      rw [X8_isSheet, x1, Option.bind_some, if_neg (show ¬ (1 : Int32) = 0 by decide)]
      simp only [r0_8 hS, rR37 hS hs, Option.bind_some, vc_k hk4]
    have hy0 : ∀ m', f_X9_sheet (mk S m') (some 50) (nI s) y z = (if (if y < (-1 : Int32) then (0 : Int32) else if (2 : Int32) < y then 0 else 1) = 0 then (f_X9_sheet_29 (mk S m')) else (if y = ((-1 : Int32)) then (f_X9_sheet_32 (mk S m') (some 50) (nI s) y z) else (if ((40 : Int32)) < z then (f_X9_sheet_29 (mk S m')) else (f_X9_sheet_32 (mk S m') (some 50) (nI s) y z)))) := by
      intro m'
      unfold f_X9_sheet
      rw [X9_in4, x1, Option.bind_some, if_neg (show ¬ (1 : Int32) = 0 by decide), X9_in, Option.bind_some]
    -- the change itself
    have go : ∀ (n : Nat) (sort : Int32), n ≤ 40 → (sort = -1 ∨ sort = nI 0 ∨ sort = nI 1 ∨ sort = nI 2) → f_X8_sheet (mk S m) (some 0) (nI s) y z = (f_X4_become (mk S m) (some (38 + 2 * s)) sort (nI n)).bind (fun q7 => some ((1 : Int32), q7)) → (∀ m', f_X9_sheet (mk S m') (some 50) (nI s) y z = (sI (mk S m') (some 60) (nI s) sort).bind fun h6 => f_X9_sheet_66 h6 (some 50) (nI s) (nI n) (nI s) (some 61)) → RES (f_X8_sheet (mk S m) (some 0) (nI s) y z) (fun S1 m1 => f_X9_sheet (mk S1 m1) (some 50) (nI s) y z) := by
      intro n sort hn hsort e1 e2
      obtain ⟨m1, f1, f2, f3, f4, ag1⟩ := C_sheetBe (m := m) (sort := sort) hS hs hn
      obtain ⟨m2, i1, i2, i3, ag2⟩ := M_zero hS hs 40 FU 0 (w2 (w2 m1 60 s sort) 61 s (nI n)) (by omega) (by unfold FU; omega)
      have agc : Ag (ZJS S) m m1 := ag1.mono (fun b hb => Or.inr (by omega))
      have hM1 := g2.ofC ag1 (fun b hb => by omega)
      have agm : AgM (fun b => b = 60 ∨ b = 61 ∨ b = 62) J0 m1 m2 := AgM.of (((Ag.w2 (Z := fun b => b = 60 ∨ b = 61 ∨ b = 62) Ag.rf (Or.inl rfl)).w2 (Or.inr (Or.inl rfl))).tr (ag2.mono (fun b hb => Or.inr (Or.inr hb)))) (by omega)
      have hM2 := hM1.ag agm (fun b hb => by omega) (fun j _ => id)
      have n60 : ∀ j, m2 60 j = w2 m1 60 s sort 60 j := fun j => by
        rw [ag2 60 (by omega), w2_ap, if_neg (by simp)]
      have n61 : ∀ j, m2 61 j = w2 m1 61 s (nI n) 61 j := fun j => by
        rw [ag2 61 (by omega)]
        by_cases u : j = s
        · rw [u, w2_ap, if_pos ⟨rfl, rfl⟩, w2_ap, if_pos ⟨rfl, rfl⟩]
        · rw [w2_ap, if_neg (fun y => u y.2), w2_ap, if_neg (by simp), w2_ap, if_neg (fun y => u y.2)]
      have nc : ∀ b, 38 ≤ b ∧ b ≤ 45 → m2 b = m1 b := fun b hb => agm.1 b (by omega) (by omega)
      have hsh : RSh m2 := by
        refine hO.2.2.1.set hs (fun j hj => ?_) (fun j hj => ?_) (fun j hj => ?_) (fun b hb h1 h2 => ?_) ⟨?_, ?_, ?_, ?_, n, hn, ?_⟩
        · rw [n60, w2_ap, if_neg (fun u => hj u.2), ag1 60 (by omega)]
        · rw [n61, w2_ap, if_neg (fun u => hj u.2), ag1 61 (by omega)]
        · rw [i3 j (by omega), w2_ap, if_neg (by simp), w2_ap, if_neg (by simp), ag1 62 (by omega)]
        · rw [nc b hb, ag1 b (by omega)]
        · rw [n60, w2_ap, if_pos ⟨rfl, rfl⟩, nc _ (by omega), f2]
        · rw [n61, w2_ap, if_pos ⟨rfl, rfl⟩, nc _ (by omega), f3]
        · intro k hk
          rw [i2 k (Nat.zero_le _) hk, nc _ (by omega), f4 k hk]
        · rw [nc _ (by omega), f2]
          exact hsort
        · rw [nc _ (by omega), f3]
      refine op_mk (a := 1) (S1 := S) (m1 := m1) (S2 := S) (m2 := m2) ?_ ?_ ⟨d, P, N, l, T, wh, kd, td, mo, prs, q, RP.sheet (L := lg S) ⟨hl, ⟨g1, g2, g3⟩, hO⟩ agc (agm.mono (fun b hb => by unfold ZMS; omega) (fun _ u => u.elim)) hM2 ?_ hsh⟩
      · rw [e1, f1, Option.bind_some]
      · show f_X9_sheet (mk S m1) (some 50) (nI s) y z = _
        rw [e2 m1, sI_n (sk60 hS) hs (by decide), Option.bind_some]
        unfold f_X9_sheet_66
        rw [sI_n (sk61 hS) hs (by decide), Option.bind_some]
        exact i1
      · rw [agm.2 37 id, ag1 50 (by omega)]
        exact g3
    rcases i_sort y with h | ⟨h1, h2⟩ | rfl | ⟨k, hk2, rfl⟩
    · refine op_same (a := -2) hR0 ?_ ?_
      · rw [hx0, if_pos h]
        rfl
      · show f_X9_sheet (mk S m) (some 50) (nI s) y z = _
        rw [hy0, if_pos h, if_pos rfl]
        rfl
    · refine op_same (a := -2) hR0 ?_ ?_
      · rw [hx0, if_neg h1, if_pos h2]
        rfl
      · show f_X9_sheet (mk S m) (some 50) (nI s) y z = _
        rw [hy0, if_neg h1, if_pos h2, if_pos rfl]
        rfl
    · refine go 0 (-1) (by omega) (Or.inl rfl) ?_ ?_
      · rw [hx0, if_neg (by decide), if_neg (by decide), if_pos rfl]
        rfl
      · intro m'
        rw [hy0, if_neg (by decide), if_pos rfl]
        unfold f_X9_sheet_32 f_X9_sheet_44
        rw [if_pos rfl, gR_k hk, rk50_20 hS, Option.bind_some, sI_n (sk60 hS) hs (by decide), Option.bind_some, Option.bind_some, gR_k hk, rk50_21 hS, Option.bind_some, if_pos rfl]
        rfl
    · have c1 : ¬ nI k < (-1 : Int32) := fun u => by
        rw [Int32.lt_iff_toInt_lt, nI_toInt (by omega)] at u
        have em : (-1 : Int32).toInt = -1 := by decide
        omega
      have c2 : ¬ (2 : Int32) < nI k := fun u => by
        have := (nI_ltI (a := 2) (by omega) (by omega)).1 u
        omega
      have c3 : ¬ nI k = (-1 : Int32) := n_m1 k (by omega)
      rcases i_rng z (B := 40) (by decide) with ⟨n, hn, rfl⟩ | hbad
      · refine go n (nI k) hn (Or.inr (by rcases (show k = 0 ∨ k = 1 ∨ k = 2 by omega) with rfl | rfl | rfl <;> simp)) ?_ ?_
        · rw [hx0, if_neg c1, if_neg c2, if_neg c3, if_neg (show ¬ (40 : Int32) < nI n from fun u => by have := (nI_ltI (a := 40) (by omega) (by omega)).1 u; omega), if_neg (nI_pos (by omega))]
        · intro m'
          rw [hy0, if_neg c1, if_neg c2, if_neg (show ¬ (1 : Int32) = 0 by decide), if_neg c3, if_neg (show ¬ (40 : Int32) < nI n from fun u => by have := (nI_ltI (a := 40) (by omega) (by omega)).1 u; omega)]
          unfold f_X9_sheet_32 f_X9_sheet_44
          rw [if_neg c3, if_neg (nI_pos (by omega)), gR_k hk, rk50_20 hS, Option.bind_some, sI_n (sk60 hS) hs (by decide), Option.bind_some, Option.bind_some, gR_k hk, rk50_21 hS, Option.bind_some, if_neg c3]
      · rcases hbad with u | ⟨u, u2⟩
        · have h40 : ¬ (40 : Int32) < z := fun v => by
            rw [Int32.lt_iff_toInt_lt] at u v
            have e0 : (0 : Int32).toInt = 0 := by decide
            have e4 : (40 : Int32).toInt = 40 := by decide
            omega
          refine op_same (a := -14) hR0 ?_ ?_
          · rw [hx0, if_neg c1, if_neg c2, if_neg c3, if_neg h40, if_pos u]
          · show f_X9_sheet (mk S m) (some 50) (nI s) (nI k) z = _
            rw [hy0, if_neg c1, if_neg c2, if_neg (show ¬ (1 : Int32) = 0 by decide), if_neg c3, if_neg h40]
            unfold f_X9_sheet_32
            rw [if_neg c3, if_pos u]
        · have u3 : (40 : Int32) < z := u2
          refine op_same (a := -2) hR0 ?_ ?_
          · rw [hx0, if_neg c1, if_neg c2, if_neg c3, if_pos u3]
          · show f_X9_sheet (mk S m) (some 50) (nI s) (nI k) z = _
            rw [hy0, if_neg c1, if_neg c2, if_neg (show ¬ (1 : Int32) = 0 by decide), if_neg c3, if_pos u3]
            rfl
  · have x1 := one_n hno
    refine op_same (a := -2) hR0 ?_ ?_
    · unfold f_X8_sheet
      rw [X8_isSheet, x1, Option.bind_some, if_pos rfl]
      rfl
    · show f_X9_sheet (mk S m) (some 50) x y z = _
      unfold f_X9_sheet
      rw [X9_in4, x1, Option.bind_some, if_pos rfl]
      rfl
theorem X4_write {S : SK} {m : Nat → Nat → Int32} (hS : SkOK S) {s k z : Nat} {v : Int32} (hs : s < 4) (hz : z ≤ 40) (h2 : m (38 + 2 * s) 2 = nI z) (hk : k < z) : f_X4_write (mk S m) (some (38 + 2 * s)) (nI k) v = some (mk S (w2 m (39 + 2 * s) k (if m (38 + 2 * s) 1 = 0 then v.toInt8.toInt32 else if m (38 + 2 * s) 1 = 1 then v.toInt16.toInt32 else v))) := by
  obtain ⟨b1, b2, b3, b4⟩ := shS hS s hs
  have hk4 : (sh S (38 + 2 * s)).1 = 4 := by rw [b1]
  have e44 : ∀ u, f_X4_write_44 (mk S m) u (nI k) (some (39 + 2 * s)) = some (mk S (w2 m (39 + 2 * s) k u)) := fun u => by
    unfold f_X4_write_44
    rw [sI_n b2 (by omega) (by decide), Option.bind_some]
  unfold f_X4_write
  rw [if_neg (nI_pos (by omega)), gI_k hk4, h2, Option.bind_some, if_pos (by rw [nI_ltI (by omega) (by omega)]; exact hk), gR_k hk4, b3, Option.bind_some, gI_k hk4, Option.bind_some]
  by_cases c0 : m (38 + 2 * s) 1 = 0
  · rw [if_pos c0, if_pos c0, e44]
  · rw [if_neg c0, if_neg c0, Option.bind_some]
    by_cases c1 : m (38 + 2 * s) 1 = 1
    · rw [if_pos c1, if_pos c1, e44]
    · rw [if_neg c1, if_neg c1, e44]
theorem op_cell {S : SK} {m : Nat → Nat → Int32} (hR : RR S m) (x y z : Int32) : RES (f_X8_cell (mk S m) (some 0) x y z) (fun S1 m1 => f_X9_cell (mk S1 m1) (some 50) x y z) := by
  have hR0 := hR
  have hS := hR.ok
  have hk8 : (sh S 0).1 = 8 := by rw [sk0 hS]
  have hk1 : (sh S 3).1 = 1 := by rw [sk3 hS]
  have hk : (sh S 50).1 = 9 := by rw [sk50 hS]
  obtain ⟨d, P, N, l, T, wh, kd, td, mo, prs, q, h⟩ := hR
  obtain ⟨hl, ⟨g1, g2, g3⟩, hO⟩ := h
  rcases i_in x (n := 4) (by decide) with ⟨s, hs, rfl⟩ | hno
  · have x1 := one_y hs (show (4 : Nat) < 2 ^ 31 by decide)
    obtain ⟨b1, b2, b3, b4⟩ := shS hS s hs
    have hk4 : (sh S (38 + 2 * s)).1 = 4 := by rw [b1]
    obtain ⟨q1, q2, q3, q4, n, hn, q5⟩ := hO.2.2.1 s hs
    by_cases hmiss : m (38 + 2 * s) 1 = -1
    · refine op_same (a := -11) hR0 ?_ ?_
      · unfold f_X8_cell
        rw [X8_isSheet, x1, Option.bind_some, if_neg (show ¬ (1 : Int32) = 0 by decide)]
        rw [r0_8 hS, Option.bind_some, rR37 hS hs, Option.bind_some, gI_k hk4, Option.bind_some, if_pos hmiss]
      · show f_X9_cell (mk S m) (some 50) (nI s) y z = _
        unfold f_X9_cell
        rw [X9_in4, x1, Option.bind_some, if_neg (show ¬ (1 : Int32) = 0 by decide), gR_k hk, rk50_20 hS, Option.bind_some, rI_n (sk60 hS) hs (by decide), Option.bind_some, q1, if_pos hmiss]
    · rcases i_in y (show n < 2 ^ 31 by omega) with ⟨k, hkn, rfl⟩ | hno
      · have ew := X4_write (v := z) hS hs hn q5 hkn
        obtain ⟨v, hv⟩ : ∃ v, v = (if m (38 + 2 * s) 1 = 0 then z.toInt8.toInt32 else if m (38 + 2 * s) 1 = 1 then z.toInt16.toInt32 else z) := ⟨_, rfl⟩
        rw [← hv] at ew
        have ag1 : Ag (fun b => b = 39 + 2 * s) m (w2 m (39 + 2 * s) k v) := Ag.w2 (Z := fun b => b = 39 + 2 * s) Ag.rf rfl
        have hM1 := g2.ofC ag1 (fun b hb => by omega)
        have agm : AgM (fun b => b = 62) J0 (w2 m (39 + 2 * s) k v) (w2 (w2 m (39 + 2 * s) k v) 62 (40 * s + k) v) := AgM.w (Z := fun b => b = 62) AgM.rf (by decide) rfl
        have hM2 := hM1.ag agm (fun b hb => by omega) (fun j _ => id)
        have hsh : RSh (w2 (w2 m (39 + 2 * s) k v) 62 (40 * s + k) v) := by
          refine hO.2.2.1.set hs (fun j hj => ?_) (fun j hj => ?_) (fun j hj => ?_) (fun b hb h1 h2 => ?_) ⟨?_, ?_, ?_, ?_, n, hn, ?_⟩
          · rw [w2_ap, if_neg (by simp), w2_ap, if_neg (by omega)]
          · rw [w2_ap, if_neg (by simp), w2_ap, if_neg (by omega)]
          · rw [w2_ap, if_neg (by omega), w2_ap, if_neg (by omega)]
          · rw [w2_ne (by omega), w2_ne (by omega)]
          · rw [w2_ap, if_neg (by simp), w2_ap, if_neg (by omega), w2_ap, if_neg (by omega), w2_ap, if_neg (by omega)]
            exact q1
          · rw [w2_ap, if_neg (by simp), w2_ap, if_neg (by omega), w2_ap, if_neg (by omega), w2_ap, if_neg (by omega)]
            exact q2
          · intro j hj
            by_cases e : j = k
            · subst e
              rw [w2_ap, if_pos ⟨rfl, rfl⟩, w2_ap, if_neg (by omega), w2_ap, if_pos ⟨rfl, rfl⟩]
            · rw [w2_ap, if_neg (by omega), w2_ap, if_neg (by omega), w2_ap, if_neg (by omega), w2_ap, if_neg (by omega)]
              exact q3 j hj
          · rw [w2_ap, if_neg (by omega), w2_ap, if_neg (by omega)]
            exact q4
          · rw [w2_ap, if_neg (by omega), w2_ap, if_neg (by omega)]
            exact q5
        have nb : ∀ b, b = 60 ∨ b = 61 → w2 m (39 + 2 * s) k v b = m b := fun b hb => w2_ne (by omega)
        refine op_mk (a := 1) (S1 := S) (m1 := w2 m (39 + 2 * s) k v) (S2 := S) (m2 := w2 (w2 m (39 + 2 * s) k v) 62 (40 * s + k) v) ?_ ?_ ⟨d, P, N, l, T, wh, kd, td, mo, prs, q, RP.sheet (L := lg S) ⟨hl, ⟨g1, g2, g3⟩, hO⟩ (ag1.mono (fun b hb => Or.inr (by omega))) (agm.mono (fun b hb => by unfold ZMS; omega) (fun _ u => u.elim)) hM2 ?_ hsh⟩
        · unfold f_X8_cell
          rw [X8_isSheet, x1, Option.bind_some, if_neg (show ¬ (1 : Int32) = 0 by decide)]
          rw [r0_8 hS, Option.bind_some, rR37 hS hs, Option.bind_some, gI_k hk4, Option.bind_some, if_neg hmiss, if_neg (nI_pos (by omega)), Option.bind_some, rR37 hS hs, Option.bind_some, gI_k hk4, q5, Option.bind_some, if_pos (by rw [nI_ltI (by omega) (by omega)]; exact hkn), Option.bind_some, rR37 hS hs, Option.bind_some, vc_k hk4, ew, Option.bind_some]
        · show f_X9_cell (mk S (w2 m (39 + 2 * s) k v)) (some 50) (nI s) (nI k) z = _
          have e84 : ∀ u, f_X9_cell_84 (mk S (w2 m (39 + 2 * s) k v)) u (nI (40 * s + k)) (some 62) = some (1, mk S (w2 (w2 m (39 + 2 * s) k v) 62 (40 * s + k) u)) := fun u => by
            unfold f_X9_cell_84
            rw [sI_n (sk62 hS) (by omega) (by decide), Option.bind_some]
          unfold f_X9_cell
          rw [X9_in4, x1, Option.bind_some, if_neg (show ¬ (1 : Int32) = 0 by decide), gR_k hk, rk50_20 hS, Option.bind_some, rI_n (sk60 hS) hs (by decide), Option.bind_some, nb 60 (Or.inl rfl), q1, if_neg hmiss, gR_k hk, rk50_21 hS, Option.bind_some, rI_n (sk61 hS) hs (by decide), Option.bind_some, nb 61 (Or.inr rfl), q2, q5, X9_in, one_b (by omega), one_y hkn (by omega), Option.bind_some, if_neg (show ¬ (1 : Int32) = 0 by decide)]
          rw [gR_k hk, rk50_22 hS, Option.bind_some, gR_k hk, rk50_20 hS, Option.bind_some, rI_n (sk60 hS) hs (by decide), Option.bind_some, nb 60 (Or.inl rfl), q1, show (40 : Int32) * nI s = nI (40 * s) from pk_mul 40 s, nI_add]
          by_cases c0 : m (38 + 2 * s) 1 = 0
          · rw [if_pos c0, show z.toInt8.toInt32 = v from by rw [hv, if_pos c0]]
            exact e84 v
          · rw [if_neg c0, Option.bind_some, rI_n (sk60 hS) hs (by decide), Option.bind_some, nb 60 (Or.inl rfl), q1]
            by_cases c1 : m (38 + 2 * s) 1 = 1
            · rw [if_pos c1, show z.toInt16.toInt32 = v from by rw [hv, if_neg c0, if_pos c1]]
              exact e84 v
            · rw [if_neg c1]
              have : z = v := by rw [hv, if_neg c0, if_neg c1]
              rw [← this] at e84 ⊢
              exact e84 z
        · rw [w2_ap, if_neg (by simp), w2_ap, if_neg (by omega)]
          exact g3
      · refine op_same (a := -12) hR0 ?_ ?_
        · unfold f_X8_cell
          rw [X8_isSheet, x1, Option.bind_some, if_neg (show ¬ (1 : Int32) = 0 by decide)]
          rw [r0_8 hS, Option.bind_some, rR37 hS hs, Option.bind_some, gI_k hk4, Option.bind_some, if_neg hmiss]
          by_cases u : y < 0
          · rw [if_pos u]
            rfl
          · rw [if_neg u, Option.bind_some, rR37 hS hs, Option.bind_some, gI_k hk4, q5, Option.bind_some, if_neg (hno.resolve_left u)]
            rfl
        · show f_X9_cell (mk S m) (some 50) (nI s) y z = _
          unfold f_X9_cell
          rw [X9_in4, x1, Option.bind_some, if_neg (show ¬ (1 : Int32) = 0 by decide), gR_k hk, rk50_20 hS, Option.bind_some, rI_n (sk60 hS) hs (by decide), Option.bind_some, q1, if_neg hmiss, gR_k hk, rk50_21 hS, Option.bind_some, rI_n (sk61 hS) hs (by decide), Option.bind_some, q2, q5, X9_in, one_b (by omega), one_n hno, Option.bind_some, if_pos rfl]
  · have x1 := one_n hno
    refine op_same (a := -2) hR0 ?_ ?_
    · unfold f_X8_cell
      rw [X8_isSheet, x1, Option.bind_some, if_pos rfl]
    · show f_X9_cell (mk S m) (some 50) x y z = _
      unfold f_X9_cell
      rw [X9_in4, x1, Option.bind_some, if_pos rfl]
