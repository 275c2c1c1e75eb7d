/-! PURE: calls: image, back, taken -/
theorem RTx.ag {S : SK} {m m2 : Nat → Nat → Int32} {T : Nat} {prs : Nat → Nat → List Nat} {Z : Nat → Prop} {L : Nat → Nat → Int64} (h : RTx S m T prs) (ha : Ag Z m m2) (hz : ZOK S Z) (h9 : m2 0 9 = m 0 9) (h15 : m2 50 15 = m 50 15) (h56 : m2 56 = m 56) (h57 : m2 57 = m 57) : RTx (sLg S L) m2 T prs := by
  obtain ⟨t1, t2, t3, t4, t5⟩ := h
  refine ⟨t1, t2, by rw [h9]; exact t3, by rw [h15]; exact t4, ?_⟩
  intro t ht
  obtain ⟨a1, fr, a2⟩ := t5 t ht
  exact ⟨a1.ag ha hz.2, fr, a2.ag h56 h57⟩
theorem RSh.e {m m2 : Nat → Nat → Int32} (h : RSh m) (e : ∀ b, (38 ≤ b ∧ b ≤ 45) ∨ b = 60 ∨ b = 61 ∨ b = 62 → m2 b = m b) : RSh m2 := by
  intro s hs
  rw [e 60 (by omega), e 61 (by omega), e 62 (by omega), e (38 + 2 * s) (by omega), e (39 + 2 * s) (by omega)]
  exact h s hs
theorem RTp.e {m m2 : Nat → Nat → Int32} (h : RTp m) (e33 : m2 33 3 = m 33 3) (e12 : m2 50 12 = m 50 12) (e34 : m2 34 = m 34) (e55 : m2 55 = m 55) : RTp m2 := by
  unfold RTp
  rw [e33, e12, e34, e55]
  exact h
theorem RWd.e {m m2 : Nat → Nat → Int32} (h : RWd m) (e : m2 64 = m 64) (e36 : m2 36 = m 36) : RWd m2 := by
  unfold RWd
  rw [e, e36]
  exact h
theorem M_imgL {S : SK} (hS : SkOK S) {N : Nat} : ∀ (r f i : Nat) (m : Nat → Nat → Int32), i + r = 7 → r < f → m 50 5 = nI N → ∃ m2, f_X9_image_89 f (mk S m) (some 50) (nI i) = some (nI N, mk S m2) ∧ (∀ k, i ≤ k → k < 7 → m2 59 k = m 51 k) ∧ (∀ k, k < i → m2 59 k = m 59 k) ∧ Ag (fun b => b = 59) m m2 := by
  have hk : (sh S 50).1 = 9 := by rw [sk50 hS]
  intro r
  induction r with
  | zero =>
    intro f i m hi hf h5
    obtain ⟨f, rfl⟩ : ∃ k, f = k + 1 := ⟨f - 1, by omega⟩
    have hi : i = 7 := by omega
    subst hi
    refine ⟨m, ?_, fun k _ _ => by omega, fun _ _ => rfl, Ag.rf⟩
    show fb_X9_image_89 (f_X9_image_89 f) (mk S m) (some 50) (nI 7) = _
    unfold fb_X9_image_89
    rw [if_neg (show ¬ nI 7 < (7 : Int32) by decide), gI_k hk, h5, Option.bind_some]
  | succ r ih =>
    intro f i m hi hf h5
    obtain ⟨f, rfl⟩ : ∃ k, f = k + 1 := ⟨f - 1, by omega⟩
    obtain ⟨m2, e, h1, h2, ag⟩ := ih f (i + 1) (w2 m 59 i (m 51 i)) (by omega) (by omega) h5
    refine ⟨m2, ?_, ?_, ?_, (Ag.w2 (Z := fun b => b = 59) Ag.rf rfl).tr ag⟩
    · show fb_X9_image_89 (f_X9_image_89 f) (mk S m) (some 50) (nI i) = _
      unfold fb_X9_image_89
      rw [if_pos (show nI i < (7 : Int32) from (nI_ltI (b := 7) (by omega) (by omega)).2 (by omega)), gR_k hk, rk50_19 hS, Option.bind_some, gR_k hk, rk50_6 hS, Option.bind_some, rI_n (sk51 hS) (by omega) (by decide), Option.bind_some, sI_n (sk59 hS) (by omega) (by decide), Option.bind_some, bnd_eq, show nI i + (1 : Int32) = nI (i + 1) from nI_add i 1]
      exact e
    · intro k k1 k2
      by_cases z : k = i
      · subst z
        rw [h2 _ (by omega), w2_ap, if_pos ⟨rfl, rfl⟩]
      · rw [h1 k (by omega) k2, w2_ap, if_neg (by simp)]
    · intro k hk
      rw [h2 k (by omega), w2_ap, if_neg (by omega)]
theorem M_backL {S : SK} (hS : SkOK S) {N : Nat} : ∀ (r f i : Nat) (m : Nat → Nat → Int32), i + r = 7 → r < f → m 50 5 = nI N → ∃ m2, f_X9_back_94 f (mk S m) (some 50) (nI i) = some (nI N, mk S m2) ∧ (∀ k, i ≤ k → k < 7 → m2 51 k = m 59 k) ∧ (∀ k, k < i → m2 51 k = m 51 k) ∧ Ag (fun b => b = 51) m m2 := by
  have hk : (sh S 50).1 = 9 := by rw [sk50 hS]
  intro r
  induction r with
  | zero =>
    intro f i m hi hf h5
    obtain ⟨f, rfl⟩ : ∃ k, f = k + 1 := ⟨f - 1, by omega⟩
    have hi : i = 7 := by omega
    subst hi
    refine ⟨m, ?_, fun k _ _ => by omega, fun _ _ => rfl, Ag.rf⟩
    show fb_X9_back_94 (f_X9_back_94 f) (mk S m) (some 50) (nI 7) = _
    unfold fb_X9_back_94
    rw [if_neg (show ¬ nI 7 < (7 : Int32) by decide), gI_k hk, h5, Option.bind_some]
  | succ r ih =>
    intro f i m hi hf h5
    obtain ⟨f, rfl⟩ : ∃ k, f = k + 1 := ⟨f - 1, by omega⟩
    obtain ⟨m2, e, h1, h2, ag⟩ := ih f (i + 1) (w2 m 51 i (m 59 i)) (by omega) (by omega) h5
    refine ⟨m2, ?_, ?_, ?_, (Ag.w2 (Z := fun b => b = 51) Ag.rf rfl).tr ag⟩
    · show fb_X9_back_94 (f_X9_back_94 f) (mk S m) (some 50) (nI i) = _
      unfold fb_X9_back_94
      rw [if_pos (show nI i < (7 : Int32) from (nI_ltI (b := 7) (by omega) (by omega)).2 (by omega)), gR_k hk, rk50_6 hS, Option.bind_some, gR_k hk, rk50_19 hS, Option.bind_some, rI_n (sk59 hS) (by omega) (by decide), Option.bind_some, sI_n (sk51 hS) (by omega) (by decide), Option.bind_some, bnd_eq, show nI i + (1 : Int32) = nI (i + 1) from nI_add i 1]
      exact e
    · intro k k1 k2
      by_cases z : k = i
      · subst z
        rw [h2 _ (by omega), w2_ap, if_pos ⟨rfl, rfl⟩]
      · rw [h1 k (by omega) k2, w2_ap, if_neg (by simp)]
    · intro k hk
      rw [h2 k (by omega), w2_ap, if_neg (by omega)]
theorem op_image {S : SK} {m : Nat → Nat → Int32} (hR : RR S m) : RES (f_X8_image (mk S m) (some 0)) (fun S1 m1 => f_X9_image (mk S1 m1) (some 50)) := by
  have hR0 := hR
  have hS := hR.ok
  have hk8 : (sh S 0).1 = 8 := by rw [sk0 hS]
  have hk1 : (sh S 3).1 = 1 := by rw [sk3 hS]
  have hk : (sh S 50).1 = 9 := by rw [sk50 hS]
  obtain ⟨d, P, N, l, T, wh, kd, td, mo, prs, q, h⟩ := hR
  obtain ⟨hl, ⟨g1, g2, g3⟩, hO⟩ := h
  have hk6 : (sh S 6).1 = 1 := by rw [sk6 hS]
  have r03 : gR (mk S m) 8 (some 0) 3 = some (some 6) := by rw [gR_k hk8, rk0_3 hS]
  obtain ⟨hTx, hI, hSh, hTp, hWd, hAd⟩ := hO
  obtain ⟨m0, e0, hC0, ag0⟩ := C_become g1 (g := 6) (Or.inr (Or.inl rfl)) (by decide)
  obtain ⟨m1, hm1⟩ : ∃ m1, m1 = w2 m0 0 10 1 := ⟨_, rfl⟩
  have ag1 : Ag (fun b => b = 0 ∨ b = 6 ∨ b = 7) m m1 := by
    rw [hm1]
    exact (Ag.mono (Z2 := fun b => b = 0 ∨ b = 6 ∨ b = 7) ag0 (fun b hb => Or.inr hb)).w2 (Or.inl rfl)
  have z1 : ZOK S (fun b => b = 0 ∨ b = 6 ∨ b = 7) := ZOK.of (fun b hb => Or.inr (Or.inl (by omega)))
  have hC3 : CI S m1 3 (mkE d P N wh kd td mo (prs l)) l q := g1.ag ag1 z1 (by omega) (by omega)
  have c := hC3.2.2.1
  have agx : Ag (fun b => b = 0) m0 m1 := by
    rw [hm1]
    exact Ag.w2 (Z := fun b => b = 0) Ag.rf rfl
  have hC6 : CI S m1 6 (mkE d P N wh kd td mo (prs l)) l q := hC0.ag agx (ZOK.of (fun b hb => Or.inr (Or.inl (by omega)))) (by omega) (by omega)
  have hM1 := g2.ofC ag1 (fun b hb => by omega)
  have g := hM1.2.2.2.1
  obtain ⟨m2, hm2⟩ : ∃ m2, m2 = w2 (w2 (w2 (w2 (w2 (w2 (w2 (w2 (w2 m1 50 17 1) 58 0 (nI d)) 58 1 (nI q.1)) 58 2 (nI q.2.1)) 58 3 (nI P)) 58 4 (nI q.2.2.1)) 58 5 (nI N)) 58 6 (nI q.2.2.2)) 58 7 (nI l) := ⟨_, rfl⟩
  have ag2 : AgM (fun b => b = 58) (fun j => j = 17) m1 m2 := by
    rw [hm2]
    exact ((((((((AgM.w50 (Z := fun b => b = 58) (J := fun j => j = 17) AgM.rf rfl).w (a := 58) (by decide) rfl).w (a := 58) (by decide) rfl).w (a := 58) (by decide) rfl).w (a := 58) (by decide) rfl).w (a := 58) (by decide) rfl).w (a := 58) (by decide) rfl).w (a := 58) (by decide) rfl).w (a := 58) (by decide) rfl
  obtain ⟨m3, e3, i1, _, ag3⟩ := M_imgL hS (N := N) 7 FU 0 m2 (by omega) (by unfold FU; omega) (by rw [ag2.2 5 (by omega)]; exact g.2.2.2.2.2.1)
  have ag23 : AgM (fun b => b = 58 ∨ b = 59) (fun j => j = 17) m1 m3 := (ag2.mono (fun b hb => Or.inl hb) (fun _ z => z)).tr ((AgM.of (Z := fun b => b = 59) (J := J0) ag3 (by omega)).mono (fun b hb => Or.inr hb) (fun _ z => z.elim))
  have agAll : Ag (fun b => b = 0 ∨ b = 6 ∨ b = 7 ∨ b = 50 ∨ b = 58 ∨ b = 59) m m3 := fun b hb => by
    rw [ag23.1 b (by omega) (by omega), ag1 b (by omega)]
  have zAll : ZOK S (fun b => b = 0 ∨ b = 6 ∨ b = 7 ∨ b = 50 ∨ b = 58 ∨ b = 59) := ZOK.of (fun b hb => by
    by_cases z : b < 46
    · exact Or.inr (Or.inl z)
    · exact Or.inr (Or.inr (by omega)))
  have zm : ZOK S (fun b => b = 50 ∨ b = 58 ∨ b = 59) := ZOK.of (fun b hb => Or.inr (Or.inr (by omega)))
  have agm : Ag (fun b => b = 50 ∨ b = 58 ∨ b = 59) m1 m3 := fun b hb => ag23.1 b (by omega) (by omega)
  have e58 : m3 58 = m2 58 := ag3 58 (by omega)
  have m09 : m3 0 = m1 0 := agm 0 (by omega)
  refine op_mk (a := nI N) (S1 := S) (m1 := m1) (S2 := S) (m2 := m3) ?_ ?_ ⟨d, P, N, l, T, wh, kd, td, mo, prs, q, hl, ⟨(hC3.ag agm zm (by omega) (by omega)), hM1.ag ag23 (fun b hb => by omega) (fun j hj => by omega), ?_⟩, ?_, ?_, hSh.e (fun b hb => agAll b (by omega)), hTp.e (by rw [agAll 33 (by omega)]) (by rw [ag23.2 12 (by omega), ag1 50 (by omega)]) (agAll 34 (by omega)) (agAll 55 (by omega)), hWd.e (agAll 64 (by omega)) (agAll 36 (by omega)), hAd⟩
  · unfold f_X8_image
    rw [r03, Option.bind_some, r0_2 hS, Option.bind_some, vc_k hk6, e0, Option.bind_some, pZ_k hk8 (Or.inr rfl), Option.bind_some, ← hm1, r0_2 hS, Option.bind_some, gI_k hk1, show m1 3 9 = nI N from c.2.2.2.2.2.1, Option.bind_some]
  · show f_X9_image (mk S m1) (some 50) = _
    have n58 : ∀ (f : Nat → Nat → Int32) (j k : Nat) (v : Int32), w2 f 58 j v 50 k = f 50 k := fun f j k v => by rw [w2_ap, if_neg (by simp)]
    have n17 : ∀ (k : Nat), ¬ k = 17 → w2 m1 50 17 1 50 k = m1 50 k := fun k hk => by rw [w2_ap, if_neg (fun y => hk y.2)]
    have s58 : ∀ (f : Nat → Nat → Int32) (j : Nat) (v : Int32), j < 8 → sI (mk S f) (some 58) (nI j) v = some (mk S (w2 f 58 j v)) := fun f j v hj => sI_n (sk58 hS) hj (by decide)
    have g58 : ∀ (f : Nat → Nat → Int32), gR (mk S f) 9 (some 50) 18 = some (some 58) := fun f => by rw [gR_k hk, rk50_18 hS]
    unfold f_X9_image
    rw [pZ_k hk (Or.inr rfl), Option.bind_some, g58, Option.bind_some, gI_k hk, n17 0 (by decide), show m1 50 0 = nI d from g.1, Option.bind_some, show sI (mk S (w2 m1 50 17 1)) (some 58) (0 : Int32) (nI d) = some (mk S (w2 (w2 m1 50 17 1) 58 0 (nI d))) from s58 _ 0 _ (by decide), Option.bind_some, g58, Option.bind_some, gI_k hk, n58, n17 1 (by decide), g.2.1, Option.bind_some]
    rw [show ∀ f v, sI (mk S f) (some 58) (1 : Int32) v = some (mk S (w2 f 58 1 v)) from fun f v => s58 f 1 v (by decide), Option.bind_some, g58, Option.bind_some, gI_k hk, n58, n58, n17 2 (by decide), g.2.2.1, Option.bind_some]
    rw [show ∀ f v, sI (mk S f) (some 58) (2 : Int32) v = some (mk S (w2 f 58 2 v)) from fun f v => s58 f 2 v (by decide), Option.bind_some, g58, Option.bind_some, gI_k hk, n58, n58, n58, n17 3 (by decide), show m1 50 3 = nI P from g.2.2.2.1, Option.bind_some]
    rw [show ∀ f v, sI (mk S f) (some 58) (3 : Int32) v = some (mk S (w2 f 58 3 v)) from fun f v => s58 f 3 v (by decide), Option.bind_some, g58, Option.bind_some, gI_k hk, n58, n58, n58, n58, n17 4 (by decide), g.2.2.2.2.1, Option.bind_some]
    rw [show ∀ f v, sI (mk S f) (some 58) (4 : Int32) v = some (mk S (w2 f 58 4 v)) from fun f v => s58 f 4 v (by decide), Option.bind_some, g58, Option.bind_some, gI_k hk, n58, n58, n58, n58, n58, n17 5 (by decide), show m1 50 5 = nI N from g.2.2.2.2.2.1, Option.bind_some]
    rw [show ∀ f v, sI (mk S f) (some 58) (5 : Int32) v = some (mk S (w2 f 58 5 v)) from fun f v => s58 f 5 v (by decide), Option.bind_some, g58, Option.bind_some, gI_k hk, n58, n58, n58, n58, n58, n58, n17 10 (by decide), g.2.2.2.2.2.2.1, Option.bind_some]
    rw [show ∀ f v, sI (mk S f) (some 58) (6 : Int32) v = some (mk S (w2 f 58 6 v)) from fun f v => s58 f 6 v (by decide), Option.bind_some, g58, Option.bind_some, gI_k hk, n58, n58, n58, n58, n58, n58, n58, n17 16 (by decide), g.2.2.2.2.2.2.2.1, Option.bind_some]
    rw [show ∀ f v, sI (mk S f) (some 58) (7 : Int32) v = some (mk S (w2 f 58 7 v)) from fun f v => s58 f 7 v (by decide), Option.bind_some, ← hm2]
    exact e3
  · rw [ag23.2 37 (by omega), ag1 50 (by omega)]
    exact g3
  · exact hTx.ag (L := lg S) agAll zAll (by rw [m09, hm1, w2_ap, if_neg (by simp), ag0 0 (by omega)]) (by rw [ag23.2 15 (by omega), ag1 50 (by omega)]) (agAll 56 (by omega)) (agAll 57 (by omega))
  · refine Or.inr ⟨by rw [m09, hm1, w2_ap, if_pos ⟨rfl, rfl⟩]; rfl, ?_, d, P, N, wh, l, q, hC6.ag agm zm (by omega) (by omega), hl, Nat.le_refl _, ?_, ?_, ?_, ?_, ?_, ?_, ?_, ?_, ?_⟩
    · rw [ag3 50 (by omega), hm2]
      simp [w2_ap]
      rfl
    · rw [e58, hm2]; simp [w2_ap]
    · rw [e58, hm2]; simp [w2_ap]
    · rw [e58, hm2]; simp [w2_ap]
    · rw [e58, hm2]; simp [w2_ap]
    · rw [e58, hm2]; simp [w2_ap]
    · rw [e58, hm2]; simp [w2_ap]
    · rw [e58, hm2]; simp [w2_ap]
    · rw [e58, hm2]; simp [w2_ap]
    · intro k hk
      have hN : N ≤ 7 := g1.1.2.1.2.2.1
      rw [i1 k (Nat.zero_le _) (by omega), ag2.1 51 (by decide) (by omega)]
      exact (g.2.2.2.2.2.2.2.2.1 k hk).1
