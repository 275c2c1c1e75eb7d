/-! PURE: calls: coinsBy, the loop -/
theorem sub4 {z w : Nat} (hz : z ≤ 40) (hw : w < 2 ^ 31) : (nI z - (4 : Int32) < nI w) ↔ z < w + 4 := by
  have e : (nI z - (4 : Int32)).toInt = (z : Int) - 4 := pk_sub_toInt (a := z) (b := 4) (by omega) (by decide)
  rw [Int32.lt_iff_toInt_lt, e, nI_toInt hw]
  omega
theorem wrap_lt {p w : Nat} (hp : p < 2 ^ 31) (hw : 2 ^ 31 ≤ w) (hw2 : w < 2 ^ 31 + 2 ^ 30) : nI w < nI p := by
  have e : (nI w).toInt = (w : Int) - 4294967296 := by
    show (Int32.ofNat w).toInt = _
    rw [Int32.toInt_ofNat', Int.bmod_def, show ((Int32.size : Nat) : Int) = 4294967296 from rfl]
    split <;> omega
  rw [Int32.lt_iff_toInt_lt, e, nI_toInt hp]
  omega
theorem RO.same {S : SK} {m m2 : Nat → Nat → Int32} {N T : Nat} {kd td mo : Nat → Nat} {prs : Nat → Nat → List Nat} (h : RO S m N T kd td mo prs) (e : ∀ b, ¬ (50 ≤ b ∧ b ≤ 54) → m2 b = m b) (h50 : ∀ j, j = 12 ∨ j = 15 ∨ j = 17 → m2 50 j = m 50 j) : RO S m2 N T kd td mo prs := by
  obtain ⟨hTx, hI, hsh, hTp, hWd, hAd⟩ := h
  have ha : Ag (fun b => 50 ≤ b ∧ b ≤ 54) m m2 := e
  have hz : ZOK S (fun b => 50 ≤ b ∧ b ≤ 54) := ZOK.of (fun b hb => Or.inr (Or.inr (by omega)))
  refine ⟨hTx.ag (L := lg S) ha hz (by rw [e 0 (by omega)]) (h50 15 (by decide)) (e 56 (by omega)) (e 57 (by omega)), ?_, hsh.e (fun b hb => e b (by omega)), hTp.e (by rw [e 33 (by omega)]) (h50 12 (by decide)) (e 34 (by omega)) (e 55 (by omega)), hWd.e (e 64 (by omega)) (e 36 (by omega)), hAd⟩
  unfold RIm at hI ⊢
  rw [e 0 (by omega), h50 17 (by decide), e 58 (by omega), e 59 (by omega)]
  rcases hI with y | ⟨y1, y2, d2, P2, N2, wh2, l2, q2, y3, y4⟩
  · exact Or.inl y
  · exact Or.inr ⟨y1, y2, d2, P2, N2, wh2, l2, q2, y3.ag ha hz (by omega) (by omega), y4⟩
theorem coins_loop {s p T l d P many : Nat} {q : QS} {prs : Nat → Nat → List Nat} (hs : s < 4) (hp : p < 2 ^ 31) (hl : l < T) (hmany : many ≤ 7) : ∀ (r f f2 i b N : Nat) (S : SK) (m : Nat → Nat → Int32) (wh kd td mo : Nat → Nat), i + r = many → b ≤ i → r < f → r < f2 → CI S m 3 (mkE d P N wh kd td mo (prs l)) l q → RO S m N T kd td mo prs →
    ∃ (a : Int32) (S1 : SK) (m1 : Nat → Nat → Int32) (N1 : Nat) (wh1 kd1 td1 mo1 : Nat → Nat), f_X8_coinsBy_69 f (mk S m) (some 0) (nI p) (nI many) (some (38 + 2 * s)) (nI b) (nI i) = some (a, mk S1 m1) ∧ CI S1 m1 3 (mkE d P N1 wh1 kd1 td1 mo1 (prs l)) l q ∧ RO S1 m1 N1 T kd1 td1 mo1 prs ∧ SkOK S1 ∧ (∀ b, 50 ≤ b ∧ b ≤ 75 → m1 b = m b) ∧ ∀ S' m', MV S' m' (mkE d P N wh kd td mo (prs l)) l q → m' 50 37 = nI 0 → m' 61 = m 61 → m' 62 = m 62 → ∃ m2, f_X9_coinsBy_64 f2 (mk S' m') (some 50) (nI s) (nI p) (nI many) (nI b) (nI i) = some (a, mk S' m2) ∧ MV S' m2 (mkE d P N1 wh1 kd1 td1 mo1 (prs l)) l q ∧ m2 50 37 = nI 0 ∧ (∀ b, ¬ (50 ≤ b ∧ b ≤ 54) → m2 b = m' b) ∧ ∀ j, j ≠ 5 → j ≠ 10 → m2 50 j = m' 50 j := by
  intro r
  induction r with
  | zero =>
    intro f f2 i b N S m wh kd td mo hi hb hf hf2 hC hO
    obtain ⟨f, rfl⟩ : ∃ k, f = k + 1 := ⟨f - 1, by omega⟩
    obtain ⟨f2, rfl⟩ : ∃ k, f2 = k + 1 := ⟨f2 - 1, by omega⟩
    have hi : i = many := by omega
    subst hi
    refine ⟨nI b, S, m, N, wh, kd, td, mo, ?_, hC, hO, hC.1.1, fun _ _ => rfl, fun S' m' hM h37 _ _ => ⟨m', ?_, hM, h37, fun _ _ => rfl, fun _ _ _ => rfl⟩⟩
    · show fb_X8_coinsBy_69 (f_X8_coinsBy_69 f) (mk S m) (some 0) (nI p) (nI i) (some (38 + 2 * s)) (nI b) (nI i) = _
      unfold fb_X8_coinsBy_69
      rw [if_neg (nI_nlt (Nat.le_refl _) (by omega))]
    · show fb_X9_coinsBy_64 (f_X9_coinsBy_64 f2) (mk S' m') (some 50) (nI s) (nI p) (nI i) (nI b) (nI i) = _
      unfold fb_X9_coinsBy_64
      rw [if_neg (nI_nlt (Nat.le_refl _) (by omega))]
  | succ r ih =>
    intro f f2 i b N S m wh kd td mo hi hb hf hf2 hC hO
    obtain ⟨f, rfl⟩ : ∃ k, f = k + 1 := ⟨f - 1, by omega⟩
    obtain ⟨f2, rfl⟩ : ∃ k, f2 = k + 1 := ⟨f2 - 1, by omega⟩
    have hS := hC.1.1
    have hk8 : (sh S 0).1 = 8 := by rw [sk0 hS]
    obtain ⟨b1, b2, b3, b4⟩ := shS hS s hs
    have hk4 : (sh S (38 + 2 * s)).1 = 4 := by rw [b1]
    obtain ⟨q1, q2, q3, _, z, hz, q5⟩ := hO.2.2.1 s hs
    have f104 : f_X8_coinsBy_104 (mk S m) = some (-12, mk S m) := rfl
    have f102 : ∀ h, f_X9_coinsBy_102 h = some (-12, h) := fun _ => rfl
    have m4 : (4 : Int32) * nI i = nI (4 * i) := pk_mul 4 i
    have hxs : f_X8_coinsBy_69 (f + 1) (mk S m) (some 0) (nI p) (nI many) (some (38 + 2 * s)) (nI b) (nI i) = fb_X8_coinsBy_69 (f_X8_coinsBy_69 f) (mk S m) (some 0) (nI p) (nI many) (some (38 + 2 * s)) (nI b) (nI i) := rfl
    have hys : ∀ S' m', f_X9_coinsBy_64 (f2 + 1) (mk S' m') (some 50) (nI s) (nI p) (nI many) (nI b) (nI i) = fb_X9_coinsBy_64 (f_X9_coinsBy_64 f2) (mk S' m') (some 50) (nI s) (nI p) (nI many) (nI b) (nI i) := fun _ _ => rfl
    have hlt : nI i < nI many := nI_lt (by omega) (by omega)
    by_cases hok : p + 4 * i + 4 ≤ z
    rotate_left
    · refine ⟨-12, S, m, N, wh, kd, td, mo, ?_, hC, hO, hS, fun _ _ => rfl, fun S' m' hM h37 e61 e62 => ⟨m', ?_, hM, h37, fun _ _ => rfl, fun _ _ _ => rfl⟩⟩
      · rw [hxs]
        unfold fb_X8_coinsBy_69
        rw [if_pos hlt, if_neg (nI_pos hp), gI_k hk4, q5, Option.bind_some]
        by_cases w : z < p
        · rw [if_pos (nI_lt w hp), f104]
        · rw [if_neg (nI_nlt (by omega) (by omega)), m4, nI_add, vc_k hk4, show f_X4_hasRow (mk S m) (some (38 + 2 * s)) (nI (p + 4 * i)) ((4 : Int32)) = _ from X4_has hS hs hz q5 (p := p + 4 * i) (c := 4) (by omega) (by decide), Option.bind_some, if_neg hok, if_pos rfl, f104]
      · rw [hys]
        unfold fb_X9_coinsBy_64
        rw [if_pos hlt, bnd_eq, m4, nI_add, if_neg (nI_pos hp)]
        by_cases w : p + 4 * i < 2 ^ 31
        · rw [if_neg (nI_nlt (by omega) w), gR_k hM.k, rk50_21 hM.1, Option.bind_some, rI_n (sk61 hM.1) hs (by decide), e61, q2, q5, Option.bind_some, if_pos ((sub4 hz w).2 (by omega)), f102]
        · rw [if_pos (wrap_lt hp (by omega) (by omega)), f102]
    · have hcell : ∀ k, k < 4 → f_X4_at (mk S m) (some (38 + 2 * s)) (nI (p + 4 * i + k)) = some (m (39 + 2 * s) (p + 4 * i + k), mk S m) := fun k hk => X4_at hS hs hz q5 (by omega)
      have hclass : f_X8_coinsBy_69 (f + 1) (mk S m) (some 0) (nI p) (nI many) (some (38 + 2 * s)) (nI b) (nI i) = (f_X8_coin (mk S m) (some 0) (m (39 + 2 * s) (p + 4 * i)) (m (39 + 2 * s) (p + 4 * i + 1)) (m (39 + 2 * s) (p + 4 * i + 2)) (m (39 + 2 * s) (p + 4 * i + 3))).bind fun q9 => if q9.1 < 0 then (f_X8_coinsBy_69 f q9.2 (some 0) (nI p) (nI many) (some (38 + 2 * s)) (nI b) (nI (i + 1))) else (f_X8_coinsBy_69 f q9.2 (some 0) (nI p) (nI many) (some (38 + 2 * s)) (nI (b + 1)) (nI (i + 1))) := by
        rw [hxs]
        unfold fb_X8_coinsBy_69 f_X8_coinsBy_159
        rw [if_pos hlt, if_neg (nI_pos hp), gI_k hk4, q5, Option.bind_some, if_neg (nI_nlt (by omega) (by omega)), m4, nI_add, vc_k hk4, show f_X4_hasRow (mk S m) (some (38 + 2 * s)) (nI (p + 4 * i)) ((4 : Int32)) = _ from X4_has hS hs hz q5 (p := p + 4 * i) (c := 4) (by omega) (by decide), Option.bind_some, if_pos hok, if_neg (show ¬ (1 : Int32) = 0 by decide), bnd_eq, vc_k hk4, show f_X4_at (mk S m) (some (38 + 2 * s)) (nI (p + 4 * i)) = _ from hcell 0 (by decide), Option.bind_some, vc_k hk4, show nI (p + 4 * i) + (1 : Int32) = nI (p + 4 * i + 1) from nI_add _ 1, hcell 1 (by decide), Option.bind_some, vc_k hk4, show nI (p + 4 * i) + (2 : Int32) = nI (p + 4 * i + 2) from nI_add _ 2, hcell 2 (by decide), Option.bind_some, vc_k hk4, show nI (p + 4 * i) + (3 : Int32) = nI (p + 4 * i + 3) from nI_add _ 3, hcell 3 (by decide), Option.bind_some, vc_k hk8]
        simp only [bnd_eq, show nI i + (1 : Int32) = nI (i + 1) from nI_add i 1, show nI b + (1 : Int32) = nI (b + 1) from nI_add b 1]
        rfl
      have hmodel : ∀ S' m', MV S' m' (mkE d P N wh kd td mo (prs l)) l q → m' 61 = m 61 → m' 62 = m 62 → f_X9_coinsBy_64 (f2 + 1) (mk S' m') (some 50) (nI s) (nI p) (nI many) (nI b) (nI i) = (f_X9_coin (mk S' m') (some 50) (m (39 + 2 * s) (p + 4 * i)) (m (39 + 2 * s) (p + 4 * i + 1)) (m (39 + 2 * s) (p + 4 * i + 2)) (m (39 + 2 * s) (p + 4 * i + 3))).bind fun q9 => if q9.1 < 0 then (f_X9_coinsBy_64 f2 q9.2 (some 50) (nI s) (nI p) (nI many) (nI b) (nI (i + 1))) else (f_X9_coinsBy_64 f2 q9.2 (some 50) (nI s) (nI p) (nI many) (nI (b + 1)) (nI (i + 1))) := by
        intro S' m' hM e61 e62
        have hk' := hM.k
        have rd : ∀ k, k < 4 → rI (mk S' m') (some 62) (nI (40 * s + (p + 4 * i) + k)) = some (m (39 + 2 * s) (p + 4 * i + k)) := fun k hk => by
          rw [rI_n (sk62 hM.1) (by omega) (by decide), e62, show 40 * s + (p + 4 * i) + k = 40 * s + (p + 4 * i + k) by omega, q3 _ (by omega)]
        rw [hys]
        unfold fb_X9_coinsBy_64 f_X9_coinsBy_162
        rw [if_pos hlt, bnd_eq, m4, nI_add, if_neg (nI_pos hp), if_neg (nI_nlt (by omega) (by omega)), gR_k hk', rk50_21 hM.1, Option.bind_some, rI_n (sk61 hM.1) hs (by decide), e61, q2, q5, Option.bind_some, if_neg (fun w => by have := (sub4 hz (show p + 4 * i < 2 ^ 31 by omega)).1 w; omega), bnd_eq, show (40 : Int32) * nI s = nI (40 * s) from pk_mul 40 s, nI_add, gR_k hk', rk50_22 hM.1, Option.bind_some, show rI (mk S' m') (some 62) (nI (40 * s + (p + 4 * i))) = _ from rd 0 (by decide), Option.bind_some, Option.bind_some, show nI (40 * s + (p + 4 * i)) + (1 : Int32) = nI (40 * s + (p + 4 * i) + 1) from nI_add _ 1, rd 1 (by decide), Option.bind_some, Option.bind_some, show nI (40 * s + (p + 4 * i)) + (2 : Int32) = nI (40 * s + (p + 4 * i) + 2) from nI_add _ 2, rd 2 (by decide), Option.bind_some, Option.bind_some, show nI (40 * s + (p + 4 * i)) + (3 : Int32) = nI (40 * s + (p + 4 * i) + 3) from nI_add _ 3, rd 3 (by decide), Option.bind_some, vc_k hk']
        simp only [bnd_eq, show nI i + (1 : Int32) = nI (i + 1) from nI_add i 1, show nI b + (1 : Int32) = nI (b + 1) from nI_add b 1, show nI b + (0 : Int32) = nI b from nI_add b 0]
        rfl
      rcases coin_both hC hl hO.2.2.2.2.2 (m (39 + 2 * s) (p + 4 * i)) (m (39 + 2 * s) (p + 4 * i + 1)) (m (39 + 2 * s) (p + 4 * i + 2)) (m (39 + 2 * s) (p + 4 * i + 3)) with ⟨r0, hr0, e1, e2⟩ | ⟨t, k, k2, k3, mA, hN6, e1, hC1, fr1, e2⟩
      · obtain ⟨a, S1, m1, N1, wh1, kd1, td1, mo1, g1, g2, g3, g4, g5, g6⟩ := ih f f2 (i + 1) b N S m wh kd td mo (by omega) (by omega) (by omega) (by omega) hC hO
        refine ⟨a, S1, m1, N1, wh1, kd1, td1, mo1, ?_, g2, g3, g4, g5, fun S' m' hM h37 e61 e62 => ?_⟩
        · rw [hclass, e1, Option.bind_some, if_pos hr0]
          exact g1
        · obtain ⟨m2, w1, w2', w3, w4, w5⟩ := g6 S' m' hM h37 e61 e62
          refine ⟨m2, ?_, w2', w3, w4, w5⟩
          rw [hmodel S' m' hM e61 e62, e2 S' m' hM, Option.bind_some, if_pos hr0]
          exact w1
      · have h76 := hS.2.2
        have kp : KeepC S m mA := fun b h1 h3 h4 _ => fr1 b (by omega) h3 h4
        have hO1 := hO.grow (kd2 := upN kd N k) (td2 := upN td N k2) (mo2 := upN mo N k3) hS kp (fun j hj => by rw [fr1 50 (by omega) (by decide) (by decide)]) (fun c hc => by
          unfold upN
          rw [if_neg (by omega), if_neg (by omega), if_neg (by omega)]
          exact ⟨rfl, rfl, rfl⟩)
        have nneg : ¬ nI N < 0 := nI_pos (by omega)
        obtain ⟨a, S1, m1, N1, wh1, kd1, td1, mo1, g1, g2, g3, g4, g5, g6⟩ := ih f f2 (i + 1) (b + 1) (N + 1) (cnK S N) mA (upN wh N t) (upN kd N k) (upN td N k2) (upN mo N k3) (by omega) (by omega) (by omega) (by omega) hC1 hO1
        refine ⟨a, S1, m1, N1, wh1, kd1, td1, mo1, ?_, g2, g3, g4, fun b hb => ?_, fun S' m' hM h37 e61 e62 => ?_⟩
        · rw [hclass, e1, Option.bind_some, if_neg nneg]
          exact g1
        · rw [g5 b hb, fr1 b (by omega) (by omega) (by omega)]
        · obtain ⟨mB, v1, v2, v3, v4, v5⟩ := e2 S' m' hM h37
          obtain ⟨m2, w1, w2', w3, w4, w5⟩ := g6 S' mB v2 v3 (by rw [v4 61 (by omega), e61, fr1 61 (by omega) (by omega) (by omega)]) (by rw [v4 62 (by omega), e62, fr1 62 (by omega) (by omega) (by omega)])
          refine ⟨m2, ?_, w2', w3, fun b hb => (w4 b hb).trans (v4 b hb), fun j h5 h10 => (w5 j h5 h10).trans (v5 j h5 h10)⟩
          rw [hmodel S' m' hM e61 e62, v1, Option.bind_some, if_neg nneg]
          exact w1
theorem op_coinsBy {S : SK} {m : Nat → Nat → Int32} (hR : RR S m) (x y z u : Int32) : RES (f_X8_coinsBy (mk S m) (some 0) x y z u) (fun S1 m1 => f_X9_coinsBy (mk S1 m1) (some 50) x y z u) := by
  have hR0 := hR
  have hS := hR.ok
  have hk8 : (sh S 0).1 = 8 := by rw [sk0 hS]
  have hk1 : (sh S 3).1 = 1 := by rw [sk3 hS]
  have hk : (sh S 50).1 = 9 := by rw [sk50 hS]
  obtain ⟨d, P, N, l, T, wh, kd, td, mo, prs, q, h⟩ := hR
  obtain ⟨hl, ⟨g1, g2, g3⟩, hO⟩ := h
  have yin : ∀ h : XM, ∀ w b : Int32, f_X9_in h w ((0 : Int32)) b = some (if w < 0 then 0 else if b < w then 0 else 1, h) := fun h w b => by rw [X9_in]
  rcases i_in x (n := 4) (by decide) with ⟨s, hs, rfl⟩ | hno
  rotate_left
  · have x1 := one_n hno
    refine op_same (a := -2) hR0 ?_ ?_
    · unfold f_X8_coinsBy
      rw [X8_isSheet, x1, Option.bind_some, if_pos rfl]
      rfl
    · show f_X9_coinsBy (mk S m) (some 50) x y z u = _
      unfold f_X9_coinsBy
      rw [X9_in4, x1, Option.bind_some, if_pos rfl]
      rfl
  have x1 := one_y hs (show (4 : Nat) < 2 ^ 31 by decide)
  obtain ⟨b1, b2, b3, b4⟩ := shS hS s hs
  have hk4 : (sh S (38 + 2 * s)).1 = 4 := by rw [b1]
  obtain ⟨q1, q2, q3, _, n, hn, q5⟩ := hO.2.2.1 s hs
  rcases i_rng y (B := 2) (by decide) with ⟨k, hk2, rfl⟩ | w
  rotate_left
  · refine op_same (a := -2) hR0 ?_ ?_
    · unfold f_X8_coinsBy
      rw [X8_isSheet, x1, Option.bind_some, if_neg (show ¬ (1 : Int32) = 0 by decide), ifr_n (b := 2) (B := 2) rfl w]
      rfl
    · show f_X9_coinsBy (mk S m) (some 50) (nI s) y z u = _
      unfold f_X9_coinsBy
      rw [X9_in4, x1, Option.bind_some, if_neg (show ¬ (1 : Int32) = 0 by decide), yin, ifr_n (b := 2) (B := 2) rfl w, Option.bind_some, if_pos rfl]
      rfl
  rcases i_rng u (B := 7) (by decide) with ⟨many, hm7, rfl⟩ | w
  rotate_left
  · refine op_same (a := -2) hR0 ?_ ?_
    · unfold f_X8_coinsBy
      rw [X8_isSheet, x1, Option.bind_some, if_neg (show ¬ (1 : Int32) = 0 by decide), ifr_y (b := 2) (B := 2) rfl hk2 (by decide), ifr_n (b := 7) (B := 7) rfl w]
      rfl
    · show f_X9_coinsBy (mk S m) (some 50) (nI s) (nI k) z u = _
      unfold f_X9_coinsBy
      rw [X9_in4, x1, Option.bind_some, if_neg (show ¬ (1 : Int32) = 0 by decide), yin, ifr_y (b := 2) (B := 2) rfl hk2 (by decide), Option.bind_some, if_neg (show ¬ (1 : Int32) = 0 by decide), yin, ifr_n (b := 7) (B := 7) rfl w, Option.bind_some, if_pos rfl]
      rfl
  have hx : f_X8_coinsBy (mk S m) (some 0) (nI s) (nI k) z (nI many) = if m (38 + 2 * s) 1 = (-1 : Int32) then some (-11, mk S m) else if m (38 + 2 * s) 1 = nI k then f_X8_coinsBy_69 9 (mk S m) (some 0) z (nI many) (some (38 + 2 * s)) (nI 0) (nI 0) else some (-13, mk S m) := by
    unfold f_X8_coinsBy
    rw [X8_isSheet, x1, Option.bind_some, if_neg (show ¬ (1 : Int32) = 0 by decide), ifr_y (b := 2) (B := 2) rfl hk2 (by decide), ifr_y (b := 7) (B := 7) rfl hm7 (by decide), r0_8 hS, Option.bind_some, rR37 hS hs, Option.bind_some, gI_k hk4, Option.bind_some, Option.bind_some]
    rfl
  have hy : ∀ (S' : SK) (m' : Nat → Nat → Int32), SkOK S' → m' 60 = m 60 → f_X9_coinsBy (mk S' m') (some 50) (nI s) (nI k) z (nI many) = if m (38 + 2 * s) 1 = (-1 : Int32) then some (-11, mk S' m') else if m (38 + 2 * s) 1 = nI k then f_X9_coinsBy_64 FU (mk S' m') (some 50) (nI s) z (nI many) (nI 0) (nI 0) else some (-13, mk S' m') := by
    intro S' m' hS' e60
    have hk' : (sh S' 50).1 = 9 := by rw [sk50 hS']
    unfold f_X9_coinsBy
    rw [X9_in4, x1, Option.bind_some, if_neg (show ¬ (1 : Int32) = 0 by decide), yin, ifr_y (b := 2) (B := 2) rfl hk2 (by decide), Option.bind_some, if_neg (show ¬ (1 : Int32) = 0 by decide), yin, ifr_y (b := 7) (B := 7) rfl hm7 (by decide), Option.bind_some, if_neg (show ¬ (1 : Int32) = 0 by decide), gR_k hk', rk50_20 hS', Option.bind_some, rI_n (sk60 hS') hs (by decide), e60, q1, Option.bind_some, Option.bind_some, rI_n (sk60 hS') hs (by decide), e60, q1, Option.bind_some]
    rfl
  by_cases w1 : m (38 + 2 * s) 1 = -1
  · refine op_same (a := -11) hR0 ?_ ?_
    · rw [hx, if_pos w1]
    · show f_X9_coinsBy (mk S m) (some 50) (nI s) (nI k) z (nI many) = _
      rw [hy S m hS rfl, if_pos w1]
  by_cases w2' : m (38 + 2 * s) 1 = nI k
  rotate_left
  · refine op_same (a := -13) hR0 ?_ ?_
    · rw [hx, if_neg w1, if_neg w2']
    · show f_X9_coinsBy (mk S m) (some 50) (nI s) (nI k) z (nI many) = _
      rw [hy S m hS rfl, if_neg w1, if_neg w2']
  rw [if_neg w1, if_pos w2'] at hx
  by_cases zn : z < 0
  · by_cases m0 : many = 0
    · refine op_same (a := 0) hR0 ?_ ?_
      · rw [hx, m0]
        rfl
      · show f_X9_coinsBy (mk S m) (some 50) (nI s) (nI k) z (nI many) = _
        rw [hy S m hS rfl, if_neg w1, if_pos w2', m0]
        rfl
    · have hlt : nI 0 < nI many := nI_lt (by omega) (by omega)
      refine op_same (a := -12) hR0 ?_ ?_
      · rw [hx]
        show fb_X8_coinsBy_69 (f_X8_coinsBy_69 8) (mk S m) (some 0) z (nI many) (some (38 + 2 * s)) (nI 0) (nI 0) = _
        unfold fb_X8_coinsBy_69
        rw [if_pos hlt, if_pos zn]
        rfl
      · show f_X9_coinsBy (mk S m) (some 50) (nI s) (nI k) z (nI many) = _
        rw [hy S m hS rfl, if_neg w1, if_pos w2']
        show fb_X9_coinsBy_64 (f_X9_coinsBy_64 4999) (mk S m) (some 50) (nI s) z (nI many) (nI 0) (nI 0) = _
        unfold fb_X9_coinsBy_64
        rw [if_pos hlt, bnd_eq, if_pos zn]
        rfl
  · obtain ⟨p, hp, rfl⟩ := i_of zn
    obtain ⟨a, S1, m1, N1, wh1, kd1, td1, mo1, e1, hC1, hO1, hS1, fr, e2⟩ := coins_loop (p := p) hs hp hl hm7 many 9 FU 0 0 N S m wh kd td mo (by omega) (by omega) (by omega) (by unfold FU; omega) g1 hO
    have hM1 : MV S1 m1 (mkE d P N wh kd td mo (prs l)) l q := by
      obtain ⟨_, hE, hl6, ⟨d0, d1, d2, d3, d4, d5, d10, d16, arr, fr', hxt⟩, hq, _⟩ := g2
      have e50 := fr 50 (by omega)
      refine ⟨hS1, hE, hl6, ⟨by rw [e50]; exact d0, by rw [e50]; exact d1, by rw [e50]; exact d2, by rw [e50]; exact d3, by rw [e50]; exact d4, by rw [e50]; exact d5, by rw [e50]; exact d10, by rw [e50]; exact d16, fun k hk => ?_, fr', hxt.ag (fr 56 (by omega)) (fr 57 (by omega))⟩, hq, Or.inl (by rw [e50]; exact g3)⟩
      rw [fr 51 (by omega), fr 52 (by omega), fr 53 (by omega), fr 54 (by omega)]
      exact arr k hk
    obtain ⟨m2, v1, v2, v3, v4, v5⟩ := e2 S1 m1 hM1 (by rw [fr 50 (by omega)]; exact g3) (fr 61 (by omega)) (fr 62 (by omega))
    refine op_mk (a := a) (S1 := S1) (m1 := m1) (S2 := S1) (m2 := m2) ?_ ?_ ⟨d, P, N1, l, T, wh1, kd1, td1, mo1, prs, q, hl, ⟨hC1.ag (Z := fun b => 50 ≤ b ∧ b ≤ 54) v4 (ZOK.of (fun b hb => Or.inr (Or.inr (by omega)))) (by omega) (by omega), v2, v3⟩, hO1.same v4 (fun j hj => v5 j (by omega) (by omega))⟩
    · rw [hx]
      exact e1
    · show f_X9_coinsBy (mk S1 m1) (some 50) (nI s) (nI k) (nI p) (nI many) = _
      rw [hy S1 m1 hS1 (fr 60 (by omega)), if_neg w1, if_pos w2']
      exact v1
