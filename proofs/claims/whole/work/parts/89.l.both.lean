/-! PURE: both objects, new -/
theorem M_lcp {S : SK} (hS : SkOK S) : ∀ (r f i : Nat) (m : Nat → Nat → Int32), i + r = 42 → r < f → (∀ k, k < 42 → m 63 k = nI (lw0 k)) → (∀ k, k < i → m 55 k = nI (lw0 k)) → ∃ m2, f_X9_init_1048 f (mk S m) (some 50) (nI i) = ((pI (mk S m2) 9 (some 50) 12 ((42 : Int32))).bind fun h6 => (vc h6 9 (some 50) (f_X9_text h6 (some 50))).bind fun q7 => some q7.2) ∧ (∀ k, k < 42 → m2 55 k = nI (lw0 k)) ∧ ∀ b, b ≠ 55 → m2 b = m b := by
  have hk : (sh S 50).1 = 9 := by rw [sk50 hS]
  intro r
  induction r with
  | zero =>
    intro f i m hi hf h63 ha
    obtain ⟨f, rfl⟩ : ∃ k, f = k + 1 := ⟨f - 1, by omega⟩
    have hi : i = 42 := by omega
    subst hi
    refine ⟨m, ?_, ha, fun _ _ => rfl⟩
    show fb_X9_init_1048 (f_X9_init_1048 f) (mk S m) (some 50) (nI 42) = _
    unfold fb_X9_init_1048
    rw [if_neg (show ¬ nI 42 < (42 : Int32) by decide)]
  | succ r ih =>
    intro f i m hi hf h63 ha
    obtain ⟨f, rfl⟩ : ∃ k, f = k + 1 := ⟨f - 1, by omega⟩
    obtain ⟨m2, a1, a2, a3⟩ := ih f (i + 1) (w2 m 55 i (nI (lw0 i))) (by omega) (by omega) (fun k hk => by rw [w2_ap, if_neg (by omega)]; exact h63 k hk) (fun k hk => by
      rw [w2_ap]
      by_cases c : k = i
      · rw [if_pos ⟨rfl, c⟩, c]
      · rw [if_neg (by omega)]
        exact ha k (by omega))
    refine ⟨m2, ?_, a2, fun b hb => by rw [a3 b hb, w2_ne hb]⟩
    show fb_X9_init_1048 (f_X9_init_1048 f) (mk S m) (some 50) (nI i) = _
    unfold fb_X9_init_1048
    rw [if_pos (show nI i < (42 : Int32) from nI_lt (b := 42) (by omega) (by decide)), gR_k hk, Option.bind_some, rk50_11 hS, gR_k hk, Option.bind_some, rk50_23 hS, rI_n (sk63 hS) (show i < 42 by omega) (by decide), Option.bind_some, h63 i (by omega), sI_n (sk55 hS) (show i < 160 by omega) (by decide), Option.bind_some, bnd_eq, show nI i + (1 : Int32) = nI (i + 1) from nI_add i 1]
    exact a1
theorem shT_b : ∀ z ∈ shT, z.1 < 46 ∨ 50 ≤ z.1 := by decide
theorem rfT_b : ∀ z ∈ rfT, (z.1 < 46 ∨ 50 ≤ z.1) ∧ (z.1 ≠ 2 ∨ z.2.1 ≠ 0) := by decide
def E0 : EN := mkE 9 0 0 (fun _ => 0) (fun _ => 0) (fun _ => 0) (fun _ => 0) pr0
theorem init_both : ∃ h1 S m, f_X8_init (nw x0 8 11) (some 0) = some h1 ∧ h1.1 = 50 ∧ f_X9_init (nw h1 9 49) (some 50) = some (mk S m) ∧ RR S m := by
  obtain ⟨S, m, p1, p2, p3, p4, p5, p6⟩ := Pre8_is
  have hRd : RdOK S := ⟨p3 (33, 3, 11) (by decide) (by decide), p3 (34, 10, 160) (by decide) (by decide), p3 (35, 10, 160) (by decide) (by decide), p3 (36, 10, 4) (by decide) (by decide), p4 (33, 0, 34) (by decide) (by decide), p4 (33, 1, 35) (by decide) (by decide), p4 (33, 2, 36) (by decide) (by decide), by omega⟩
  obtain ⟨S2, m2, t1, t2, t3, t4, t5, t6, t7, t8, t9, t10, t11, t12⟩ := X8_T8 (m := m) hRd p2 (p3 (0, 8, 11) (by decide) (by decide)) (p3 (2, 13, 6) (by decide) (by decide)) (p4 (0, 7, 33) (by decide) (by decide)) (p5 (33, 3, 0) (by decide)) (p5 (36, 0, 0) (by decide))
  have e8 : f_X8_init (nw x0 8 11) (some 0) = some (mk S2 m2) := by
    rw [X8_pre, p1, Option.bind_some]
    exact t1
  -- the reference over it
  have hok := P9_ok
  cases e9 : P9 y50 (some 50) with
  | none => rw [e9] at hok; cases hok
  | some g =>
    rw [e9] at hok
    have h2 : chk9 g = true := Option.some.inj hok
    unfold chk9 at h2
    rw [Bool.and_eq_true, Bool.and_eq_true, Bool.and_eq_true, Bool.and_eq_true, Bool.and_eq_true, Bool.and_eq_true] at h2
    obtain ⟨a1, a2, a3, a4, a5, a6, a7⟩ := h2
    rw [List.all_eq_true] at a2 a3 a4 a5 a6 a7
    have sm0 : SM (nw (mk S2 m2) 9 49) 51 (nw (mk S2 m2) 9 49) y50 := by
      refine ⟨by show S2.1 + 1 = 51; omega, rfl, fun b hb => ⟨rfl, rfl, rfl⟩, fun b hb hb2 => ?_⟩
      have hb50 : b = 50 := by omega
      subst hb50
      have c : (50 : Nat) = (mk S2 m2).1 := t2.symm
      exact ⟨if_pos c, if_pos c, if_pos c⟩
    obtain ⟨g2, b1, b2, b3, b4, b5⟩ := P9_sim sm0 g e9
    have g2e : g2 = mk (g2.1, g2.2.1, g2.2.2.2.1, g2.2.2.2.2) g2.2.2.1 := mk_of g2
    obtain ⟨S3, hS3⟩ : ∃ S3 : SK, S3 = (g2.1, g2.2.1, g2.2.2.2.1, g2.2.2.2.2) := ⟨_, rfl⟩
    obtain ⟨m3, hm3⟩ : ∃ m3 : Nat → Nat → Int32, m3 = g2.2.2.1 := ⟨_, rfl⟩
    have xs3 : ∀ b, sh S3 b = xs g2 b := fun b => by rw [hS3]; rfl
    have xr3 : ∀ b, rf S3 b = xr g2 b := fun b => by rw [hS3]; rfl
    have xi3 : ∀ b, m3 b = xi g2 b := fun b => by rw [hm3]; rfl
    have cnt : S3.1 = 76 := by rw [hS3]; exact b2
    rw [← hS3, ← hm3] at g2e
    have lo : ∀ b, b < 50 → sh S3 b = sh S2 b ∧ m3 b = m2 b ∧ rf S3 b = rf S2 b := fun b hb => by
      obtain ⟨c1, c2, c3⟩ := b4 b hb
      have hne : b ≠ (mk S2 m2).1 := by
        show b ≠ S2.1
        omega
      exact ⟨(xs3 b).trans (c1.trans (if_neg hne)), (xi3 b).trans (c2.trans (if_neg hne)), (xr3 b).trans (c3.trans (if_neg hne))⟩
    have hi : ∀ b, 50 ≤ b → b < 76 → sh S3 b = xs g b ∧ m3 b = xi g b ∧ rf S3 b = xr g b := fun b hb hb2 => by
      obtain ⟨c1, c2, c3⟩ := b5 b hb hb2
      exact ⟨(xs3 b).trans c1, (xi3 b).trans c2, (xr3 b).trans c3⟩
    have hS : SkOK S3 := by
      refine ⟨fun z hz => ?_, fun z hz => ?_, by omega⟩
      · rcases shT_b z hz with c | c
        · rw [(lo z.1 (by omega)).1, t3 z.1 c]
          exact p3 z hz c
        · rw [(hi z.1 c (sh_lt z hz)).1]
          exact of_decide_eq_true (a2 z hz) c
      · rcases rfT_b z hz with ⟨c | c, c2⟩
        · rw [(lo z.1 (by omega)).2.2, t4 z.1 z.2.1 c c2]
          exact p4 z hz c
        · rw [(hi z.1 c (rf_lt z hz).1).2.2]
          exact of_decide_eq_true (a3 z hz) c
    have i9 : ∀ z ∈ i9T, m3 z.1 z.2.1 = z.2.2 := fun z hz => by
      have hz2 : 50 ≤ z.1 ∧ z.1 < 76 := (by decide : ∀ z ∈ i9T, 50 ≤ z.1 ∧ z.1 < 76) z hz
      rw [(hi z.1 hz2.1 hz2.2).2.1]
      exact of_decide_eq_true (a4 z hz)
    have i62 : ∀ k, k < 160 → m3 62 k = 0 := fun k hk => by
      rw [(hi 62 (by decide) (by decide)).2.1]
      exact of_decide_eq_true (a5 k (List.mem_range.2 hk))
    have i63 : ∀ k, k < 42 → m3 63 k = nI (lw0 k) := fun k hk => by
      rw [(hi 63 (by decide) (by decide)).2.1]
      exact of_decide_eq_true (a6 k (List.mem_range.2 hk))
    have i64 : ∀ k, k < 96 → m3 64 k = nI (wdT.getD k 0) := fun k hk => by
      rw [(hi 64 (by decide) (by decide)).2.1]
      exact of_decide_eq_true (a7 k (List.mem_range.2 hk))
    have hk : (sh S3 50).1 = 9 := by rw [sk50 hS]
    obtain ⟨m4, d1, d2, d3⟩ := M_lcp hS 42 FU 0 m3 rfl (by unfold FU; omega) i63 (fun k hk => by omega)
    have T4 : TPm (w2 m4 50 12 42) 42 lw0 := by
      refine ⟨?_, by decide, fun k hk => ⟨?_, lw0_b k hk⟩, fun k hk => ?_⟩
      · rw [w2_ap, if_pos ⟨rfl, rfl⟩]; rfl
      · rw [w2_ap, if_neg (by omega)]; exact d2 k hk
      · rw [w2_ap, if_neg (by omega), d3 64 (by decide)]; exact i64 k hk
    obtain ⟨m5, f1, f2, f3⟩ := M_text (T := 0) hS T4 (show w2 m4 50 12 42 50 15 = nI 0 by rw [w2_ap, if_neg (by omega), d3 50 (by decide)]; exact i9 (50, 15, 0) (by decide)) (by decide) tx0
    rcases f3 with ⟨p, g', _⟩ | ⟨x1, x2, x3, g', y4, y5, y6, y7, y8, y9, y10, y11⟩
    · cases g'
    have hx := Sum.inl.inj g'
    have hx1 : x1 = [1, 100000, 15] := (congrArg Prod.fst hx).symm
    have hx2 : x2 = [1, 100000, 15] ++ [100020] := (congrArg (fun z => z.2.1) hx).symm
    have hx3 : x3 = [1, 100000, 15] ++ [100020] ++ [3] := (congrArg (fun z => z.2.2) hx).symm
    subst hx1 hx2 hx3
    have eM : f_X9_init (nw (mk S2 m2) 9 49) (some 50) = some (mk S3 m5) := by
      rw [X9_split, b1, Option.bind_some, g2e]
      rw [show f_X9_init_1048 FU (mk S3 m3) (some 50) 0 = _ from d1, pI_k hk, Option.bind_some, vc_k hk, y11, Option.bind_some]
    refine ⟨mk S2 m2, S3, m5, e8, t2, eM, ?_⟩
    -- what stands in the end
    have k5 : ∀ b, b ≠ 50 → b ≠ 55 → b ≠ 56 → b ≠ 57 → b ≠ 65 → m5 b = m3 b := fun b h1 h2 h3 h4 h5 => by
      rw [show m5 b = w2 m4 50 12 42 b from funext fun j => f1 b j h5 (Or.inl h1) (Or.inl h3) (Or.inl h4), w2_ne h1, d3 b h2]
    have k50 : ∀ j, ¬ (j = 12 ∨ j = 15 ∨ (24 ≤ j ∧ j ≤ 27) ∨ (30 ≤ j ∧ j ≤ 32)) → m5 50 j = m3 50 j := fun j hj => by
      rw [f1 50 j (by decide) (Or.inr hj) (Or.inl (by decide)) (Or.inl (by decide)), w2_ap, if_neg (by omega), d3 50 (by decide)]
    have l5 : ∀ b, b < 50 → m5 b = m2 b := fun b hb => by
      rw [k5 b (by omega) (by omega) (by omega) (by omega) (by omega), (lo b hb).2.1]
    have i8 : ∀ z ∈ i8T, ¬ (z.1 = 0 ∧ z.2.1 = 9) → z.1 ≠ 33 → z.1 ≠ 36 → m5 z.1 z.2.1 = z.2.2 := fun z hz c1 c2 c3 => by
      have hz2 : z.1 < 46 ∧ z.1 ≠ 34 ∧ z.1 ≠ 35 := (by decide : ∀ z ∈ i8T, z.1 < 46 ∧ z.1 ≠ 34 ∧ z.1 ≠ 35) z hz
      rw [l5 z.1 (by omega)]
      by_cases c0 : z.1 = 0
      · rw [c0, t10 z.2.1 (fun y => c1 ⟨c0, y⟩), ← p5 z hz, c0]
      · rw [t8 z.1 (by omega) (by omega)]
        exact p5 z hz
    have w1 : wfP [1, 100000, 15] := wfP.two (cs := [1]) (cs2 := [100000]) (x := 15) (wfP.val (by decide)) (wfP.val (by decide)) (by decide)
    have w2' : wfP [100020] := wfP.val (by decide)
    have w3 : wfP [3] := wfP.val (by decide)
    have r20 : rf S3 2 0 = some 46 := by rw [(lo 2 (by decide)).2.2]; exact t5
    have hTx : TxS S3 46 5 := by
      obtain ⟨z1, z2, z3, z4, z5, z6, z7, z8⟩ := t6
      exact ⟨by rw [(lo 46 (by decide)).1]; exact z1, by rw [(lo 46 (by decide)).2.2]; exact z2, by rw [(lo 46 (by decide)).2.2]; exact z3, by rw [(lo 46 (by decide)).2.2]; exact z4, by rw [(lo 47 (by decide)).1]; exact z5, by rw [(lo 48 (by decide)).1]; exact z6, by rw [(lo 49 (by decide)).1]; exact z7, z8⟩
    have hCT : CText S3 m5 0 pr0 := ⟨46, 5, fr0, r20, hTx, Or.inl rfl, t7.ag (l5 47 (by decide)) (l5 48 (by decide))⟩
    have hTM : ∃ fr, TxM m5 0 pr0 fr := ⟨_, TxM.of w1 w2' w3 y5 y6 y7 y8 y9 y10⟩
    have hE : EOK E0 := ⟨⟨(by decide : 2 ≤ 9), (by decide : 9 ≤ 20)⟩, (by decide : 0 ≤ 4), (by decide : 0 ≤ 7), fun c hc => absurd hc (Nat.not_lt_zero c)⟩
    have hQ : QOK E0 (0, 0, 0, 0) := ⟨(by decide : 0 ≤ 9999), (by decide : 0 ≤ 99), (by decide : 0 < 2 ^ 0), (by decide : 0 < 2 ^ 0)⟩
    have om : ∀ p, omS (eW E0) p (eN E0) = 0 := fun p => rfl
    have g8 : ∀ j v, (3, j, v) ∈ i8T → m5 3 j = v := fun j v h => i8 (3, j, v) h (by omega) (show (3 : Nat) ≠ 33 by decide) (show (3 : Nat) ≠ 36 by decide)
    have g9 : ∀ j v, (50, j, v) ∈ i9T → (¬ (j = 12 ∨ j = 15 ∨ (24 ≤ j ∧ j ≤ 27) ∨ (30 ≤ j ∧ j ≤ 32))) → m5 50 j = v := fun j v h hj => by
      rw [k50 j hj]
      exact i9 (50, j, v) h
    refine ⟨9, 0, 0, 0, 1, fun _ => 0, fun _ => 0, fun _ => 0, fun _ => 0, fun _ => pr0, (0, 0, 0, 0), by decide, ⟨?_, ?_, ?_⟩, ?_⟩
    · refine ⟨⟨hS, hE, by decide, fun c hc => absurd hc (Nat.not_lt_zero c), hCT⟩, Or.inl rfl, ⟨g8 4 9 (by decide), g8 5 0 (by decide), g8 6 0 (by decide), g8 7 0 (by decide), g8 8 0 (by decide), g8 9 0 (by decide), g8 10 0 (by decide), g8 11 0 (by decide), fun p hp => ?_⟩, hQ⟩
      rcases (show p = 0 ∨ p = 1 ∨ p = 2 ∨ p = 3 by omega) with rfl | rfl | rfl | rfl
      · exact i8 (4, 0, 0) (by decide) (by decide) (by decide) (by decide)
      · exact i8 (4, 1, 0) (by decide) (by decide) (by decide) (by decide)
      · exact i8 (4, 2, 0) (by decide) (by decide) (by decide) (by decide)
      · exact i8 (4, 3, 0) (by decide) (by decide) (by decide) (by decide)
    · refine ⟨hS, hE, by decide, ⟨g9 0 9 (by decide) (by decide), g9 1 0 (by decide) (by decide), g9 2 0 (by decide) (by decide), g9 3 0 (by decide) (by decide), g9 4 0 (by decide) (by decide), g9 5 0 (by decide) (by decide), g9 10 0 (by decide) (by decide), g9 16 0 (by decide) (by decide), fun c hc => absurd hc (Nat.not_lt_zero c), hTM⟩, hQ, Or.inl (g9 37 0 (by decide) (by decide))⟩
    · exact g9 37 0 (by decide) (by decide)
    · refine ⟨⟨Nat.le_refl 1, by decide, by rw [l5 0 (by decide)]; exact t9, y4, fun t ht => ?_⟩, Or.inl ⟨i8 (0, 10, 0) (by decide) (by decide) (by decide) (by decide), g9 17 0 (by decide) (by decide)⟩, fun s hs => ?_, ⟨0, by decide, by rw [l5 33 (by decide)]; exact t11, f2, fun k hk => absurd hk (Nat.not_lt_zero k)⟩, ⟨fun k hk => by rw [k5 64 (by decide) (by decide) (by decide) (by decide) (by decide)]; exact i64 k hk, by rw [l5 36 (by decide)]; exact t12⟩, ⟨fun c A hc => absurd hc (Nat.not_lt_zero c), fun t A ht hA => ?_⟩⟩
      · have ht0 : t = 0 := by omega
        subst ht0
        exact ⟨hCT, hTM⟩
      · have e60 : m5 60 s = -1 := by
          rw [k5 60 (by decide) (by decide) (by decide) (by decide) (by decide)]
          rcases (show s = 0 ∨ s = 1 ∨ s = 2 ∨ s = 3 by omega) with rfl | rfl | rfl | rfl
          · exact i9 (60, 0, -1) (by decide)
          · exact i9 (60, 1, -1) (by decide)
          · exact i9 (60, 2, -1) (by decide)
          · exact i9 (60, 3, -1) (by decide)
        have e61 : m5 61 s = 0 := by
          rw [k5 61 (by decide) (by decide) (by decide) (by decide) (by decide)]
          rcases (show s = 0 ∨ s = 1 ∨ s = 2 ∨ s = 3 by omega) with rfl | rfl | rfl | rfl
          · exact i9 (61, 0, 0) (by decide)
          · exact i9 (61, 1, 0) (by decide)
          · exact i9 (61, 2, 0) (by decide)
          · exact i9 (61, 3, 0) (by decide)
        have es1 : m5 (38 + 2 * s) 1 = -1 := by
          rcases (show s = 0 ∨ s = 1 ∨ s = 2 ∨ s = 3 by omega) with rfl | rfl | rfl | rfl
          · exact i8 (38, 1, -1) (by decide) (by decide) (by decide) (by decide)
          · exact i8 (40, 1, -1) (by decide) (by decide) (by decide) (by decide)
          · exact i8 (42, 1, -1) (by decide) (by decide) (by decide) (by decide)
          · exact i8 (44, 1, -1) (by decide) (by decide) (by decide) (by decide)
        have es2 : m5 (38 + 2 * s) 2 = 0 := by
          rcases (show s = 0 ∨ s = 1 ∨ s = 2 ∨ s = 3 by omega) with rfl | rfl | rfl | rfl
          · exact i8 (38, 2, 0) (by decide) (by decide) (by decide) (by decide)
          · exact i8 (40, 2, 0) (by decide) (by decide) (by decide) (by decide)
          · exact i8 (42, 2, 0) (by decide) (by decide) (by decide) (by decide)
          · exact i8 (44, 2, 0) (by decide) (by decide) (by decide) (by decide)
        refine ⟨e60.trans es1.symm, e61.trans es2.symm, fun k hk => ?_, Or.inl es1, 0, by decide, es2⟩
        rw [k5 62 (by decide) (by decide) (by decide) (by decide) (by decide), i62 _ (by omega), l5 (39 + 2 * s) (by omega), t8 (39 + 2 * s) (by omega) (by omega)]
        exact (p6 s hs k hk).symm
      · have ht0 : t = 0 := by omega
        subst ht0
        rw [r20] at hA
        have : 46 = A := by simpa using hA
        omega
