/-! PURE: calls: feed -/
def adC (m : Nat → Nat → Int32) (z : Nat) (v : Int32) : Nat → Nat → Int32 := w2 (w2 m 34 z v) 33 3 (nI (z + 1))
def adM (m : Nat → Nat → Int32) (z : Nat) (v : Int32) : Nat → Nat → Int32 := w2 (w2 m 55 z v) 50 12 (nI (z + 1))
def adCs (m : Nat → Nat → Int32) (z : Nat) (B : Nat → Nat) : Nat → Nat → Nat → Int32
  | 0 => m
  | k + 1 => adC (adCs m z B k) (z + k) (nI (B k))
def adMs (m : Nat → Nat → Int32) (z : Nat) (B : Nat → Nat) : Nat → Nat → Nat → Int32
  | 0 => m
  | k + 1 => adM (adMs m z B k) (z + k) (nI (B k))
theorem adCs_ok {m : Nat → Nat → Int32} {z : Nat} {B : Nat → Nat} (h : m 33 3 = nI z) : ∀ k, adCs m z B k 33 3 = nI (z + k) ∧ (∀ j, j < z → adCs m z B k 34 j = m 34 j) ∧ (∀ j, j < k → adCs m z B k 34 (z + j) = nI (B j)) ∧ Ag (fun b => b = 33 ∨ b = 34) m (adCs m z B k) := by
  intro k
  induction k with
  | zero => exact ⟨h, fun _ _ => rfl, fun j hj => by omega, Ag.rf⟩
  | succ k ih =>
    obtain ⟨a1, a2, a3, a4⟩ := ih
    refine ⟨?_, ?_, ?_, ?_⟩
    · show w2 (w2 (adCs m z B k) 34 (z + k) (nI (B k))) 33 3 (nI (z + k + 1)) 33 3 = _
      rw [w2_ap, if_pos ⟨rfl, rfl⟩]
      rfl
    · intro j hj
      show w2 (w2 (adCs m z B k) 34 (z + k) (nI (B k))) 33 3 (nI (z + k + 1)) 34 j = _
      rw [w2_ap, if_neg (by omega), w2_ap, if_neg (by omega)]
      exact a2 j hj
    · intro j hj
      show w2 (w2 (adCs m z B k) 34 (z + k) (nI (B k))) 33 3 (nI (z + k + 1)) 34 (z + j) = _
      rw [w2_ap, if_neg (by omega), w2_ap]
      by_cases c : j = k
      · rw [if_pos ⟨rfl, by omega⟩, c]
      · rw [if_neg (by omega)]
        exact a3 j (by omega)
    · exact (a4.w2 (Or.inr rfl)).w2 (Or.inl rfl)
theorem adMs_ok {m : Nat → Nat → Int32} {z : Nat} {B : Nat → Nat} (h : m 50 12 = nI z) : ∀ k, adMs m z B k 50 12 = nI (z + k) ∧ (∀ j, j < z → adMs m z B k 55 j = m 55 j) ∧ (∀ j, j < k → adMs m z B k 55 (z + j) = nI (B j)) ∧ AgM (fun b => b = 55) (fun j => j = 12) m (adMs m z B k) := by
  intro k
  induction k with
  | zero => exact ⟨h, fun _ _ => rfl, fun j hj => by omega, AgM.of (Z := fun b => b = 55) Ag.rf (by decide)⟩
  | succ k ih =>
    obtain ⟨a1, a2, a3, a4⟩ := ih
    refine ⟨?_, ?_, ?_, ?_⟩
    · show w2 (w2 (adMs m z B k) 55 (z + k) (nI (B k))) 50 12 (nI (z + k + 1)) 50 12 = _
      rw [w2_ap, if_pos ⟨rfl, rfl⟩]
      rfl
    · intro j hj
      show w2 (w2 (adMs m z B k) 55 (z + k) (nI (B k))) 50 12 (nI (z + k + 1)) 55 j = _
      rw [w2_ap, if_neg (by omega), w2_ap, if_neg (by omega)]
      exact a2 j hj
    · intro j hj
      show w2 (w2 (adMs m z B k) 55 (z + k) (nI (B k))) 50 12 (nI (z + k + 1)) 55 (z + j) = _
      rw [w2_ap, if_neg (by omega), w2_ap]
      by_cases c : j = k
      · rw [if_pos ⟨rfl, by omega⟩, c]
      · rw [if_neg (by omega)]
        exact a3 j (by omega)
    · exact (a4.w (by decide) rfl).w50 rfl
theorem C_addS {S : SK} {m : Nat → Nat → Int32} {z : Nat} {B : Nat → Nat} (hS : SkOK S) (h : m 33 3 = nI z) {k : Nat} (hz : z + k < 160) : f_X3_add (mk S (adCs m z B k)) (some 33) (nI (B k)) = some (mk S (adCs m z B (k + 1))) := by
  have hk3 : (sh S 33).1 = 3 := by rw [sk33 hS]
  have a1 := (adCs_ok (B := B) h k).1
  unfold f_X3_add
  rw [gI_k hk3, a1, Option.bind_some, if_pos (show nI (z + k) < (160 : Int32) from (nI_ltI (b := 160) (by omega) (by omega)).2 hz), gR_k hk3, rk33_0 hS, Option.bind_some, Option.bind_some, sI_n (sk34 hS) hz (by decide), Option.bind_some, gI_k hk3, w2_ap, if_neg (by omega), a1, Option.bind_some, pI_k hk3, Option.bind_some, show nI (z + k) + (1 : Int32) = nI (z + k + 1) from nI_add _ 1]
  rfl
theorem C_feed5 {S : SK} {m : Nat → Nat → Int32} {z k : Nat} {B : Nat → Nat} (hS : SkOK S) (h : m 33 3 = nI z) (hk : 1 ≤ k ∧ k ≤ 5) (hz : z + k ≤ 160) : ((f_X3_add (mk S m) (some 33) (nI (B 0))).bind fun q17 => if ((1 : Int32)) < nI k then ((gR q17 8 (some 0) 7).bind fun v18 => (vc q17 3 v18 (f_X3_add q17 v18 (nI (B 1)))).bind fun q19 => f_X8_feed_93 q19 (some 0) (nI k) (nI (B 2)) (nI (B 3)) (nI (B 4))) else (f_X8_feed_93 q17 (some 0) (nI k) (nI (B 2)) (nI (B 3)) (nI (B 4)))) = some (nI (z + k), mk S (adCs m z B k)) := by
  have hk8 : (sh S 0).1 = 8 := by rw [sk0 hS]
  have hk3 : (sh S 33).1 = 3 := by rw [sk33 hS]
  have r7 : ∀ m', gR (mk S m') 8 (some 0) 7 = some (some 33) := fun m' => by rw [gR_k hk8, rk0_7 hS]
  have e0 : f_X3_add (mk S m) (some 33) (nI (B 0)) = some (mk S (adCs m z B 1)) := C_addS (k := 0) hS h (by omega)
  have ad := fun k (hz : z + k < 160) => C_addS (B := B) (k := k) hS h hz
  have e135 : ∀ k, f_X8_feed_135 (mk S (adCs m z B k)) (some 0) = some (nI (z + k), mk S (adCs m z B k)) := fun k => by
    unfold f_X8_feed_135
    rw [r7, Option.bind_some, gI_k hk3, (adCs_ok (B := B) h k).1, Option.bind_some]
  rw [e0, Option.bind_some]
  rcases (show k = 1 ∨ k = 2 ∨ k = 3 ∨ k = 4 ∨ k = 5 by omega) with rfl | rfl | rfl | rfl | rfl
  · rw [if_neg (by decide)]
    unfold f_X8_feed_93 f_X8_feed_107 f_X8_feed_121
    rw [if_neg (by decide), if_neg (by decide), if_neg (by decide), e135]
  · rw [if_pos (by decide), r7, Option.bind_some, vc_k hk3, ad 1 (by omega), Option.bind_some]
    unfold f_X8_feed_93 f_X8_feed_107 f_X8_feed_121
    rw [if_neg (by decide), if_neg (by decide), if_neg (by decide), e135]
  · rw [if_pos (by decide), r7, Option.bind_some, vc_k hk3, ad 1 (by omega), Option.bind_some]
    unfold f_X8_feed_93
    rw [if_pos (by decide), r7, Option.bind_some, vc_k hk3, ad 2 (by omega), Option.bind_some]
    unfold f_X8_feed_107 f_X8_feed_121
    rw [if_neg (by decide), if_neg (by decide), e135]
  · rw [if_pos (by decide), r7, Option.bind_some, vc_k hk3, ad 1 (by omega), Option.bind_some]
    unfold f_X8_feed_93
    rw [if_pos (by decide), r7, Option.bind_some, vc_k hk3, ad 2 (by omega), Option.bind_some]
    unfold f_X8_feed_107
    rw [if_pos (by decide), r7, Option.bind_some, vc_k hk3, ad 3 (by omega), Option.bind_some]
    unfold f_X8_feed_121
    rw [if_neg (by decide), e135]
  · rw [if_pos (by decide), r7, Option.bind_some, vc_k hk3, ad 1 (by omega), Option.bind_some]
    unfold f_X8_feed_93
    rw [if_pos (by decide), r7, Option.bind_some, vc_k hk3, ad 2 (by omega), Option.bind_some]
    unfold f_X8_feed_107
    rw [if_pos (by decide), r7, Option.bind_some, vc_k hk3, ad 3 (by omega), Option.bind_some]
    unfold f_X8_feed_121
    rw [if_pos (by decide), r7, Option.bind_some, vc_k hk3, ad 4 (by omega), Option.bind_some, e135]
theorem M_feed {S : SK} {m : Nat → Nat → Int32} {z k : Nat} {B : Nat → Nat} (hS : SkOK S) (h : m 50 12 = nI z) (hk5 : k ≤ 5) (hz : z + k ≤ 160) : ∀ (r f j : Nat), j + r = k → r < f → f_X9_feed_68 f (mk S (adMs m z B j)) (some 50) (nI k) (nI (B 0)) (nI (B 1)) (nI (B 2)) (nI (B 3)) (nI (B 4)) (nI j) = some (nI (z + k), mk S (adMs m z B k)) := by
  have hk9 : (sh S 50).1 = 9 := by rw [sk50 hS]
  intro r
  induction r with
  | zero =>
    intro f j hj hf
    obtain ⟨f, rfl⟩ : ∃ k, f = k + 1 := ⟨f - 1, by omega⟩
    have hj : j = k := by omega
    subst hj
    show fb_X9_feed_68 (f_X9_feed_68 f) (mk S (adMs m z B j)) (some 50) (nI j) (nI (B 0)) (nI (B 1)) (nI (B 2)) (nI (B 3)) (nI (B 4)) (nI j) = _
    unfold fb_X9_feed_68
    rw [if_neg (nI_nlt (Nat.le_refl _) (by omega)), gI_k hk9, (adMs_ok (B := B) h j).1, Option.bind_some]
  | succ r ih =>
    intro f j hj hf
    obtain ⟨f, rfl⟩ : ∃ k, f = k + 1 := ⟨f - 1, by omega⟩
    have a1 := (adMs_ok (B := B) h j).1
    have e125 : f_X9_feed_125 (f_X9_feed_68 f) (mk S (adMs m z B j)) (some 50) (nI k) (nI (B 0)) (nI (B 1)) (nI (B 2)) (nI (B 3)) (nI (B 4)) (nI j) (nI (B j)) (nI (z + j)) (some 55) = some (nI (z + k), mk S (adMs m z B k)) := by
      unfold f_X9_feed_125
      rw [sI_n (sk55 hS) (by omega) (by decide), Option.bind_some, gI_k hk9, w2_ap, if_neg (by omega), a1, Option.bind_some, pI_k hk9, Option.bind_some, bnd_eq, show nI (z + j) + (1 : Int32) = nI (z + j + 1) from nI_add _ 1, show nI j + (1 : Int32) = nI (j + 1) from nI_add j 1]
      exact ih f (j + 1) (by omega) (by omega)
    show fb_X9_feed_68 (f_X9_feed_68 f) (mk S (adMs m z B j)) (some 50) (nI k) (nI (B 0)) (nI (B 1)) (nI (B 2)) (nI (B 3)) (nI (B 4)) (nI j) = _
    unfold fb_X9_feed_68
    rw [if_pos (nI_lt (by omega) (by omega)), gR_k hk9, rk50_11 hS, Option.bind_some, gI_k hk9, a1, Option.bind_some]
    rcases (show j = 0 ∨ j = 1 ∨ j = 2 ∨ j = 3 ∨ j = 4 by omega) with rfl | rfl | rfl | rfl | rfl
    · rw [if_pos (by decide)]
      exact e125
    · rw [if_neg (by decide), if_pos (by decide)]
      exact e125
    · rw [if_neg (by decide), if_neg (by decide), if_pos (by decide)]
      exact e125
    · rw [if_neg (by decide), if_neg (by decide), if_neg (by decide), if_pos (by decide)]
      exact e125
    · rw [if_neg (by decide), if_neg (by decide), if_neg (by decide), if_neg (by decide)]
      exact e125
theorem by_y {h : XM} {k : Nat} (hk : k ≤ 255) : f_X8_isByte h (nI k) = some (1, h) ∧ f_X9_isByte h (nI k) = some (1, h) := by
  constructor
  · unfold f_X8_isByte
    rw [ifr_y (b := 255) (B := 255) rfl hk (by decide)]
    rfl
  · unfold f_X9_isByte
    rw [X9_in, ifr_y (b := 255) (B := 255) rfl hk (by decide), Option.bind_some]
    rfl
theorem by_n {h : XM} {x : Int32} (hx : x < 0 ∨ (¬ x < 0 ∧ nI 255 < x)) : f_X8_isByte h x = some (0, h) ∧ f_X9_isByte h x = some (0, h) := by
  constructor
  · unfold f_X8_isByte
    rw [ifr_n (b := 255) (B := 255) rfl hx]
    rfl
  · unfold f_X9_isByte
    rw [X9_in, ifr_n (b := 255) (B := 255) rfl hx, Option.bind_some]
    rfl
theorem MV.tape {S : SK} {m m2 : Nat → Nat → Int32} {E : EN} {l : Nat} {q : QS} (h : MV S m E l q) (ha : AgM (fun b => b = 55) (fun j => j = 12) m m2) : MV S m2 E l q := by
  obtain ⟨hS, hE, hl, ⟨d0, d1, d2, d3, d4, d5, d10, d16, ha', fr, hx⟩, hq0, hK⟩ := h
  have e := fun b (hb : b ≠ 50) (h5 : b ≠ 55) => ha.1 b hb h5
  have j := fun j (hj : j ≠ 12) => ha.2 j hj
  refine ⟨hS, hE, hl, ⟨?_, ?_, ?_, ?_, ?_, ?_, ?_, ?_, ?_, fr, hx.ag (e 56 (by decide) (by decide)) (e 57 (by decide) (by decide))⟩, hq0, ?_⟩
  · rw [j 0 (by decide)]; exact d0
  · rw [j 1 (by decide)]; exact d1
  · rw [j 2 (by decide)]; exact d2
  · rw [j 3 (by decide)]; exact d3
  · rw [j 4 (by decide)]; exact d4
  · rw [j 5 (by decide)]; exact d5
  · rw [j 10 (by decide)]; exact d10
  · rw [j 16 (by decide)]; exact d16
  · intro c hc
    rw [e 51 (by decide) (by decide), e 52 (by decide) (by decide), e 53 (by decide) (by decide), e 54 (by decide) (by decide)]
    exact ha' c hc
  · unfold KC at hK ⊢
    rw [j 37 (by decide), e 69 (by decide) (by decide)]
    exact hK
theorem RP.tape {S : SK} {m m1 m2 : Nat → Nat → Int32} {d P N l T : Nat} {wh kd td mo : Nat → Nat} {prs : Nat → Nat → List Nat} {q : QS} (h : RP S m d P N l T wh kd td mo prs q) (ha : Ag (fun b => b = 33 ∨ b = 34) m m1) (hb : AgM (fun b => b = 55) (fun j => j = 12) m1 m2) (ht : RTp m2) : RP S m2 d P N l T wh kd td mo prs q := by
  obtain ⟨hl, ⟨g1, g2, g3⟩, hTx, hI, hsh, hTp, hWd, hAd⟩ := h
  have hA : Ag (fun b => b = 33 ∨ b = 34 ∨ b = 50 ∨ b = 55) m m2 := fun b hb2 => by
    rw [hb.1 b (by omega) (by omega), ha b (by omega)]
  have hz : ZOK S (fun b => b = 33 ∨ b = 34 ∨ b = 50 ∨ b = 55) := ZOK.of (fun b hb2 => by omega)
  have e : ∀ b, b ≠ 33 → b ≠ 34 → b ≠ 50 → b ≠ 55 → m2 b = m b := fun b h1 h2 h3 h4 => hA b (by omega)
  have j50 : ∀ j, j ≠ 12 → m2 50 j = m 50 j := fun j hj => by
    rw [hb.2 j hj, ha 50 (by omega)]
  have hM1 := g2.ofC ha (fun b hb => by omega)
  refine ⟨hl, ⟨g1.ag hA hz (by omega) (by omega), hM1.tape hb, by rw [j50 37 (by decide)]; exact g3⟩, hTx.ag (L := lg S) hA hz (by rw [e 0 (by omega) (by omega) (by omega) (by omega)]) (j50 15 (by omega)) (e 56 (by omega) (by omega) (by omega) (by omega)) (e 57 (by omega) (by omega) (by omega) (by omega)), ?_, hsh.e (fun b hb => e b (by omega) (by omega) (by omega) (by omega)), ht, hWd.e (e 64 (by omega) (by omega) (by omega) (by omega)) (e 36 (by omega) (by omega) (by omega) (by omega)), hAd⟩
  unfold RIm at hI ⊢
  rw [e 0 (by omega) (by omega) (by omega) (by omega), j50 17 (by omega), e 58 (by omega) (by omega) (by omega) (by omega), e 59 (by omega) (by omega) (by omega) (by omega)]
  rcases hI with y | ⟨y1, y2, d2, P2, N2, wh2, l2, q2, y3, y4⟩
  · exact Or.inl y
  · exact Or.inr ⟨y1, y2, d2, P2, N2, wh2, l2, q2, y3.ag hA hz (by omega) (by omega), y4⟩
theorem feed_no {S : SK} {m : Nat → Nat → Int32} (hR0 : RR S m) (k x2 x3 x4 x5 x6 : Int32) (hk5 : ∃ c, (1 ≤ c ∧ c ≤ 5) ∧ k = nI c) (hb : (x2 < 0 ∨ (¬ x2 < 0 ∧ nI 255 < x2)) ∨ (x3 < 0 ∨ (¬ x3 < 0 ∧ nI 255 < x3)) ∨ (x4 < 0 ∨ (¬ x4 < 0 ∧ nI 255 < x4)) ∨ (x5 < 0 ∨ (¬ x5 < 0 ∧ nI 255 < x5)) ∨ (x6 < 0 ∨ (¬ x6 < 0 ∧ nI 255 < x6))) : RES (f_X8_feed (mk S m) (some 0) k x2 x3 x4 x5 x6) (fun S1 m1 => f_X9_feed (mk S1 m1) (some 50) k x2 x3 x4 x5 x6) := by
  obtain ⟨c, hc, rfl⟩ := hk5
  have a1 : ¬ nI c < ((1 : Int32)) := nI_nlt (b := 1) (by omega) (by omega)
  have a2 : ¬ ((5 : Int32)) < nI c := nI_nlt (a := 5) (by omega) (by omega)
  have e1 : ∀ h : XM, f_X9_in h (nI c) ((1 : Int32)) ((5 : Int32)) = some (1, h) := fun h => by
    unfold f_X9_in
    rw [if_neg a1, if_neg a2]
    rfl
  have both : f_X8_feed (mk S m) (some 0) (nI c) x2 x3 x4 x5 x6 = some (-2, mk S m) ∧ f_X9_feed (mk S m) (some 50) (nI c) x2 x3 x4 x5 x6 = some (-2, mk S m) := by
    unfold f_X8_feed f_X9_feed
    rw [if_neg a1, if_neg a2, e1, Option.bind_some, if_neg (show ¬ (1 : Int32) = 0 by decide)]
    show ((f_X8_isByte (mk S m) x2).bind _ = _) ∧ ((f_X9_isByte (mk S m) x2).bind _ = _)
    rcases i_rng x2 (B := 255) (by decide) with ⟨b0, h0, rfl⟩ | z
    rotate_left
    · rw [(by_n z).1, (by_n z).2, Option.bind_some, Option.bind_some, if_pos rfl, if_pos rfl]
      exact ⟨rfl, rfl⟩
    rw [(by_y h0).1, (by_y h0).2, Option.bind_some, Option.bind_some, if_neg (show ¬ (1 : Int32) = 0 by decide), if_neg (show ¬ (1 : Int32) = 0 by decide)]
    replace hb := hb.resolve_left (fun z => by
      rcases z with z | ⟨_, z⟩
      · exact nI_pos (by omega) z
      · exact nI_nlt (by omega) (by omega) z)
    show ((f_X8_isByte (mk S m) x3).bind _ = _) ∧ ((f_X9_isByte (mk S m) x3).bind _ = _)
    rcases i_rng x3 (B := 255) (by decide) with ⟨b1, h1, rfl⟩ | z
    rotate_left
    · rw [(by_n z).1, (by_n z).2, Option.bind_some, Option.bind_some, if_pos rfl, if_pos rfl]
      exact ⟨rfl, rfl⟩
    rw [(by_y h1).1, (by_y h1).2, Option.bind_some, Option.bind_some, if_neg (show ¬ (1 : Int32) = 0 by decide), if_neg (show ¬ (1 : Int32) = 0 by decide)]
    replace hb := hb.resolve_left (fun z => by
      rcases z with z | ⟨_, z⟩
      · exact nI_pos (by omega) z
      · exact nI_nlt (by omega) (by omega) z)
    show ((f_X8_isByte (mk S m) x4).bind _ = _) ∧ ((f_X9_isByte (mk S m) x4).bind _ = _)
    rcases i_rng x4 (B := 255) (by decide) with ⟨b2, h2, rfl⟩ | z
    rotate_left
    · rw [(by_n z).1, (by_n z).2, Option.bind_some, Option.bind_some, if_pos rfl, if_pos rfl]
      exact ⟨rfl, rfl⟩
    rw [(by_y h2).1, (by_y h2).2, Option.bind_some, Option.bind_some, if_neg (show ¬ (1 : Int32) = 0 by decide), if_neg (show ¬ (1 : Int32) = 0 by decide)]
    replace hb := hb.resolve_left (fun z => by
      rcases z with z | ⟨_, z⟩
      · exact nI_pos (by omega) z
      · exact nI_nlt (by omega) (by omega) z)
    show ((f_X8_isByte (mk S m) x5).bind _ = _) ∧ ((f_X9_isByte (mk S m) x5).bind _ = _)
    rcases hb with z | z
    · rw [(by_n z).1, (by_n z).2, Option.bind_some, Option.bind_some, if_pos rfl, if_pos rfl]
      exact ⟨rfl, rfl⟩
    rcases i_rng x5 (B := 255) (by decide) with ⟨b3, h3, rfl⟩ | z5
    rotate_left
    · rw [(by_n z5).1, (by_n z5).2, Option.bind_some, Option.bind_some, if_pos rfl, if_pos rfl]
      exact ⟨rfl, rfl⟩
    rw [(by_y h3).1, (by_y h3).2, Option.bind_some, Option.bind_some, if_neg (show ¬ (1 : Int32) = 0 by decide), if_neg (show ¬ (1 : Int32) = 0 by decide)]
    show ((f_X8_isByte (mk S m) x6).bind _ = _) ∧ ((f_X9_isByte (mk S m) x6).bind _ = _)
    rw [(by_n z).1, (by_n z).2, Option.bind_some, Option.bind_some, if_pos rfl, if_pos rfl]
    exact ⟨rfl, rfl⟩
  exact op_same (a := -2) hR0 both.1 both.2
theorem op_feed {S : SK} {m : Nat → Nat → Int32} (hR : RR S m) (k x2 x3 x4 x5 x6 : Int32) : RES (f_X8_feed (mk S m) (some 0) k x2 x3 x4 x5 x6) (fun S1 m1 => f_X9_feed (mk S1 m1) (some 50) k x2 x3 x4 x5 x6) := by
  have hR0 := hR
  have hS := hR.ok
  have hk8 : (sh S 0).1 = 8 := by rw [sk0 hS]
  have hk1 : (sh S 3).1 = 1 := by rw [sk3 hS]
  have hk : (sh S 50).1 = 9 := by rw [sk50 hS]
  obtain ⟨d, P, N, l, T, wh, kd, td, mo, prs, q, h⟩ := hR
  obtain ⟨hl, ⟨g1, g2, g3⟩, hO⟩ := h
  rcases i_rng2 k (lo := 1) (hi := 5) (by decide) (by decide) with ⟨c, hc, rfl⟩ | hbad
  rotate_left
  · refine op_same (a := -2) hR0 ?_ ?_
    · unfold f_X8_feed
      rcases hbad with z | ⟨z1, z2⟩
      · rw [if_pos (show k < (1 : Int32) from z)]
        rfl
      · rw [if_neg (show ¬ k < (1 : Int32) from z1), if_pos (show (5 : Int32) < k from z2)]
        rfl
    · show f_X9_feed (mk S m) (some 50) k x2 x3 x4 x5 x6 = _
      unfold f_X9_feed f_X9_in
      rcases hbad with z | ⟨z1, z2⟩
      · rw [if_pos (show k < (1 : Int32) from z)]
        rfl
      · rw [if_neg (show ¬ k < (1 : Int32) from z1), if_pos (show (5 : Int32) < k from z2)]
        rfl
  rcases i_rng x2 (B := 255) (by decide) with ⟨b0, h0, rfl⟩ | z
  rotate_left
  · exact feed_no hR0 _ _ _ _ _ _ ⟨c, hc, rfl⟩ (Or.inl z)
  rcases i_rng x3 (B := 255) (by decide) with ⟨b1, h1, rfl⟩ | z
  rotate_left
  · exact feed_no hR0 _ _ _ _ _ _ ⟨c, hc, rfl⟩ (Or.inr (Or.inl z))
  rcases i_rng x4 (B := 255) (by decide) with ⟨b2, h2, rfl⟩ | z
  rotate_left
  · exact feed_no hR0 _ _ _ _ _ _ ⟨c, hc, rfl⟩ (Or.inr (Or.inr (Or.inl z)))
  rcases i_rng x5 (B := 255) (by decide) with ⟨b3, h3, rfl⟩ | z
  rotate_left
  · exact feed_no hR0 _ _ _ _ _ _ ⟨c, hc, rfl⟩ (Or.inr (Or.inr (Or.inr (Or.inl z))))
  rcases i_rng x6 (B := 255) (by decide) with ⟨b4, h4, rfl⟩ | z
  rotate_left
  · exact feed_no hR0 _ _ _ _ _ _ ⟨c, hc, rfl⟩ (Or.inr (Or.inr (Or.inr (Or.inr z))))
  obtain ⟨z, z1, z2, z3, z4⟩ := hO.2.2.2.1
  have hk3 : (sh S 33).1 = 3 := by rw [sk33 hS]
  have a1 : ¬ nI c < ((1 : Int32)) := nI_nlt (b := 1) (by omega) (by omega)
  have a2 : ¬ ((5 : Int32)) < nI c := nI_nlt (a := 5) (by omega) (by omega)
  have e1 : ∀ h : XM, f_X9_in h (nI c) ((1 : Int32)) ((5 : Int32)) = some (1, h) := fun h => by
    unfold f_X9_in
    rw [if_neg a1, if_neg a2]
    rfl
  obtain ⟨B, hB⟩ : ∃ B : Nat → Nat, B = (fun i => [b0, b1, b2, b3, b4].getD i 0) := ⟨_, rfl⟩
  have B0 : B 0 = b0 := by rw [hB]; rfl
  have B1 : B 1 = b1 := by rw [hB]; rfl
  have B2 : B 2 = b2 := by rw [hB]; rfl
  have B3 : B 3 = b3 := by rw [hB]; rfl
  have B4 : B 4 = b4 := by rw [hB]; rfl
  have hx : ∀ m', f_X8_feed (mk S m') (some 0) (nI c) (nI b0) (nI b1) (nI b2) (nI b3) (nI b4) = if ((160 : Int32)) < (m' 33 3 + nI c) then (some ((-4 : Int32), mk S m')) else ((f_X3_add (mk S m') (some 33) (nI b0)).bind fun q17 => if ((1 : Int32)) < nI c then ((gR q17 8 (some 0) 7).bind fun v18 => (vc q17 3 v18 (f_X3_add q17 v18 (nI b1))).bind fun q19 => f_X8_feed_93 q19 (some 0) (nI c) (nI b2) (nI b3) (nI b4)) else (f_X8_feed_93 q17 (some 0) (nI c) (nI b2) (nI b3) (nI b4))) := fun m' => by
    unfold f_X8_feed
    rw [if_neg a1, if_neg a2, (by_y h0).1, Option.bind_some, if_neg (show ¬ (1 : Int32) = 0 by decide), (by_y h1).1, Option.bind_some, if_neg (show ¬ (1 : Int32) = 0 by decide), (by_y h2).1, Option.bind_some, if_neg (show ¬ (1 : Int32) = 0 by decide), (by_y h3).1, Option.bind_some, if_neg (show ¬ (1 : Int32) = 0 by decide), (by_y h4).1, Option.bind_some, if_neg (show ¬ (1 : Int32) = 0 by decide), gR_k hk8, rk0_7 hS, Option.bind_some, gI_k hk3, Option.bind_some, Option.bind_some, vc_k hk3]
  have hy : ∀ m', f_X9_feed (mk S m') (some 50) (nI c) (nI b0) (nI b1) (nI b2) (nI b3) (nI b4) = if ((160 : Int32)) < (m' 50 12 + nI c) then (some ((-4 : Int32), mk S m')) else (f_X9_feed_68 FU (mk S m') (some 50) (nI c) (nI b0) (nI b1) (nI b2) (nI b3) (nI b4) (nI 0)) := fun m' => by
    unfold f_X9_feed
    rw [e1, Option.bind_some, if_neg (show ¬ (1 : Int32) = 0 by decide), (by_y h0).2, Option.bind_some, if_neg (show ¬ (1 : Int32) = 0 by decide), (by_y h1).2, Option.bind_some, if_neg (show ¬ (1 : Int32) = 0 by decide), (by_y h2).2, Option.bind_some, if_neg (show ¬ (1 : Int32) = 0 by decide), (by_y h3).2, Option.bind_some, if_neg (show ¬ (1 : Int32) = 0 by decide), (by_y h4).2, Option.bind_some, if_neg (show ¬ (1 : Int32) = 0 by decide), gI_k hk, Option.bind_some]
    rfl
  by_cases hfull : 160 < z + c
  · refine op_same (a := -4) hR0 ?_ ?_
    · rw [hx, z2, nI_add, if_pos (show (160 : Int32) < nI (z + c) from nI_lt (a := 160) hfull (by omega))]
    · show f_X9_feed (mk S m) (some 50) _ _ _ _ _ _ = _
      rw [hy, z3, nI_add, if_pos (show (160 : Int32) < nI (z + c) from nI_lt (a := 160) hfull (by omega))]
  · obtain ⟨p1, p2, p3, p4⟩ := adCs_ok (B := B) z2 c
    have z3' : adCs m z B c 50 12 = nI z := by rw [p4 50 (by omega)]; exact z3
    obtain ⟨r1, r2, r3, r4⟩ := adMs_ok (B := B) z3' c
    have hf := C_feed5 (B := B) hS z2 hc (by omega)
    have hm := M_feed (B := B) (k := c) hS z3' (by omega) (by omega) c FU 0 (by omega) (by unfold FU; omega)
    rw [B0, B1, B2, B3, B4] at hf hm
    have n33 : adMs (adCs m z B c) z B c 33 = adCs m z B c 33 := r4.1 33 (by decide) (by decide)
    have n34 : adMs (adCs m z B c) z B c 34 = adCs m z B c 34 := r4.1 34 (by decide) (by decide)
    refine op_mk (a := nI (z + c)) (S1 := S) (m1 := adCs m z B c) (S2 := S) (m2 := adMs (adCs m z B c) z B c) ?_ ?_ ⟨d, P, N, l, T, wh, kd, td, mo, prs, q, RP.tape ⟨hl, ⟨g1, g2, g3⟩, hO⟩ p4 r4 ⟨z + c, by omega, by rw [n33]; exact p1, r1, fun k hk => ?_⟩⟩
    · rw [hx, z2, nI_add, if_neg (show ¬ (160 : Int32) < nI (z + c) from nI_nlt (a := 160) (b := z + c) (by omega) (by omega))]
      exact hf
    · show f_X9_feed (mk S (adCs m z B c)) (some 50) _ _ _ _ _ _ = _
      rw [hy, z3', nI_add, if_neg (show ¬ (160 : Int32) < nI (z + c) from nI_nlt (a := 160) (b := z + c) (by omega) (by omega))]
      exact hm
    · rw [n34]
      by_cases w : k < z
      · rw [r2 k w, p2 k w, p4 55 (by omega)]
        exact z4 k w
      · have e := r3 (k - z) (by omega)
        have e' := p3 (k - z) (by omega)
        rw [show z + (k - z) = k by omega] at e e'
        rw [e, e']
        refine ⟨rfl, B (k - z), ?_, rfl⟩
        rcases (show k - z = 0 ∨ k - z = 1 ∨ k - z = 2 ∨ k - z = 3 ∨ k - z = 4 by omega) with u | u | u | u | u <;> rw [u] <;> omega
