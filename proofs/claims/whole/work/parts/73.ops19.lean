/-! PURE: calls: film, the other side -/
def ZN (b : Nat) : Prop := ZB b ∨ b = 60 ∨ b = 61 ∨ b = 62
theorem M_filmZ {S : SK} (hS : SkOK S) {s : Nat} (hs : s < 4) : ∀ (r f i : Nat) (m : Nat → Nat → Int32), i + r = 40 → r < f → ∃ m2, f_X9_film_14 f (mk S m) (some 50) (nI s) (nI i) = (vc (mk S m2) 9 (some 50) (f_X9_keeps (mk S m2) (some 50) ((0 : Int32)))).bind (fun q18 => f_X9_film_47 FU q18 (some 50) (nI s) (nI 0) (nI 0)) ∧ (∀ k, i ≤ k → k < 40 → m2 62 (40 * s + k) = 0) ∧ (∀ j, j < 40 * s + i ∨ 40 * s + 40 ≤ j → m2 62 j = m 62 j) ∧ Ag (fun b => b = 62) m m2 := by
  have hk : (sh S 50).1 = 9 := by rw [sk50 hS]
  intro r
  induction r with
  | zero =>
    intro f i m hi hf
    obtain ⟨f, rfl⟩ : ∃ k, f = k + 1 := ⟨f - 1, by omega⟩
    have hi : i = 40 := by omega
    subst hi
    refine ⟨m, ?_, fun k _ _ => by omega, fun _ _ => rfl, Ag.rf⟩
    show fb_X9_film_14 (f_X9_film_14 f) (mk S m) (some 50) (nI s) (nI 40) = _
    unfold fb_X9_film_14
    rw [if_neg (show ¬ nI 40 < (40 : Int32) by decide)]
    rfl
  | succ r ih =>
    intro f i m hi hf
    obtain ⟨f, rfl⟩ : ∃ k, f = k + 1 := ⟨f - 1, by omega⟩
    obtain ⟨m2, e, h1, h2, ag⟩ := ih f (i + 1) (w2 m 62 (40 * s + i) 0) (by omega) (by omega)
    refine ⟨m2, ?_, ?_, ?_, (Ag.w2 (Z := fun b => b = 62) Ag.rf rfl).tr ag⟩
    · show fb_X9_film_14 (f_X9_film_14 f) (mk S m) (some 50) (nI s) (nI i) = _
      unfold fb_X9_film_14
      rw [if_pos (show nI i < (40 : Int32) from (nI_ltI (b := 40) (by omega) (by omega)).2 (by omega)), gR_k hk, rk50_22 hS, Option.bind_some, show (40 : Int32) * nI s = nI (40 * s) from pk_mul 40 s, nI_add, sI_n (sk62 hS) (by omega) (by decide), Option.bind_some, bnd_eq, show nI i + (1 : Int32) = nI (i + 1) from nI_add i 1]
      exact e
    · intro k k1 k2
      by_cases z : k = i
      · subst z
        rw [h2 _ (by omega), w2_ap, if_pos ⟨rfl, rfl⟩]
      · exact h1 k (by omega) k2
    · intro j hj
      rw [h2 j (by omega), w2_ap, if_neg (by omega)]
theorem M_filmL {E : EN} {l s : Nat} {q0 : QS} (hs : s < 4) (hq0 : QOK E q0) : ∀ (r f i : Nat) (S : SK) (m : Nat → Nat → Int32) (q : QS) (n : Nat) (F : Nat → Int32), i + r = eN E → r < f → n ≤ i → MV S m E l q → KP m 0 q0 → (∀ k, k < 40 → m 62 (40 * s + k) = F k) →
    ∃ L m2, f_X9_film_47 f (mk S m) (some 50) (nI s) (nI n) (nI i) = some (nI (fmS E r i q n F).1, mk (sLg S L) m2) ∧ MV (sLg S L) m2 E l q0 ∧ (∀ k, k < 40 → m2 62 (40 * s + k) = (fmS E r i q n F).2 k) ∧ (∀ j, j < 40 * s ∨ 40 * s + 40 ≤ j → m2 62 j = m 62 j) ∧ m2 60 s = nI 2 ∧ m2 61 s = nI (2 * (fmS E r i q n F).1) ∧ (∀ j, j ≠ s → m2 60 j = m 60 j) ∧ (∀ j, j ≠ s → m2 61 j = m 61 j) ∧ AgM ZN JQ m m2 := by
  intro r
  induction r with
  | zero =>
    intro f i S m q n F hi hf hn hM hK h3
    obtain ⟨f, rfl⟩ : ∃ k, f = k + 1 := ⟨f - 1, by omega⟩
    have hi : i = eN E := by omega
    subst hi
    have hN := hM.2.1.2.2.1
    have hS := hM.1
    obtain ⟨m1, e1, hM1, ag1⟩ := M_lays hM (d := 0) (by decide) hK hq0
    have e1' : f_X9_laysBack (mk S m) (some 50) (0 : Int32) = _ := e1
    have n6 : ∀ b, b ≠ 50 → m1 b = m b := fun b hb => ag1.1 b hb (fun z => z)
    have ag2 : AgM ZN JQ m1 (w2 (w2 m1 60 s (nI 2)) 61 s (nI (2 * n))) := ((AgM.of (Ag.rf (Z := fun _ => False)) id).mono (fun _ z => z.elim) (fun _ z => z) |>.w (by decide) (Or.inr (Or.inl rfl))).w (by decide) (Or.inr (Or.inr (Or.inl rfl)))
    refine ⟨lg S, w2 (w2 m1 60 s (nI 2)) 61 s (nI (2 * n)), ?_, ?_, ?_, ?_, ?_, ?_, ?_, ?_, (ag1.mono (fun _ z => z.elim) (fun _ z => z)).tr ag2⟩
    · show fb_X9_film_47 (f_X9_film_47 f) (mk S m) (some 50) (nI s) (nI n) (nI (eN E)) = _
      unfold fb_X9_film_47
      rw [gI_k hM.k, hM.2.2.2.1.2.2.2.2.2.1, Option.bind_some, if_neg (nI_nlt (Nat.le_refl _) (by omega)), vc_k hM.k, e1', Option.bind_some, gR_k hM.k, rk50_20 hS, Option.bind_some, sI_n (sk60 hS) hs (by decide), Option.bind_some, gR_k hM.k, rk50_21 hS, Option.bind_some, show (2 : Int32) * nI n = nI (2 * n) from pk_mul 2 n, sI_n (sk61 hS) hs (by decide), Option.bind_some]
      rfl
    · exact hM1.ag (AgM.of (Z := fun b => b = 60 ∨ b = 61) (J := J0) ((Ag.w2 Ag.rf (Or.inl rfl)).w2 (Or.inr rfl)) (by decide)) (fun b hb => by omega) (fun _ _ => id)
    · intro k hk
      rw [w2_ap, if_neg (by simp), w2_ap, if_neg (by simp), n6 62 (by decide)]
      exact h3 k hk
    · intro j hj
      rw [w2_ap, if_neg (by simp), w2_ap, if_neg (by simp), n6 62 (by decide)]
    · rw [w2_ap, if_neg (by simp), w2_ap, if_pos ⟨rfl, rfl⟩]
    · rw [w2_ap, if_pos ⟨rfl, rfl⟩]
      rfl
    · intro j hj
      rw [w2_ap, if_neg (by simp), w2_ap, if_neg (fun y => hj y.2), n6 60 (by decide)]
    · intro j hj
      rw [w2_ap, if_neg (fun y => hj y.2), w2_ap, if_neg (by simp), n6 61 (by decide)]
  | succ r ih =>
    intro f i S m q n F hi hf hn hM hK h3
    obtain ⟨f, rfl⟩ : ∃ k, f = k + 1 := ⟨f - 1, by omega⟩
    have hN := hM.2.1.2.2.1
    have hS := hM.1
    have hk := hM.k
    have hc : i < eN E := by omega
    have e108 : ∀ h (n : Nat), f_X9_film_108 (f_X9_film_47 f) h (some 50) (nI s) (nI n) (nI i) = f_X9_film_47 f h (some 50) (nI s) (nI n) (nI (i + 1)) := fun h n => by
      unfold f_X9_film_108
      rw [bnd_eq, show nI i + (1 : Int32) = nI (i + 1) from nI_add i 1]
    show ∃ L m2, fb_X9_film_47 (f_X9_film_47 f) (mk S m) (some 50) (nI s) (nI n) (nI i) = _ ∧ _
    unfold fb_X9_film_47
    rw [gI_k hk, hM.2.2.2.1.2.2.2.2.2.1, Option.bind_some, if_pos (nI_lt hc (by omega)), vc_k hk, M_canPut hM hc, Option.bind_some]
    by_cases hcan : canS E q i = true
    · have ef : fmS E (r + 1) i q n F = fmS E r (i + 1) (putS E q i) (n + 1) (upF (upF F (2 * n) (nI i)) (2 * n + 1) (nI (if opS E q i = true then 1 else 0))) := if_pos hcan
      rw [ef]
      have wag : ∀ (m' : Nat → Nat → Int32) k v, AgM (fun b => b = 62) J0 m' (w2 m' 62 k v) := fun m' k v => AgM.of (Ag.w2 (Z := fun b => b = 62) Ag.rf rfl) (by decide)
      have hM0 : MV S (w2 m 62 (40 * s + 2 * n) (nI i)) E l q := hM.ag (wag _ _ _) (fun b hb => by omega) (fun _ _ => id)
      obtain ⟨L1, m1, e1, hM1, ag1⟩ := M_put hM0 hc
      have n62 : ∀ b, (b = 60 ∨ b = 61 ∨ b = 62 ∨ b = 70) → m1 b = w2 m 62 (40 * s + 2 * n) (nI i) b := fun b hb => ag1.1 b (by omega) (by unfold ZA; omega)
      have hM2 : ∀ v, MV (sLg S L1) (w2 m1 62 (40 * s + 2 * n + 1) v) E l (putS E q i) := fun v => hM1.ag (wag _ _ _) (fun b hb => by omega) (fun _ _ => id)
      have hK2 : ∀ v, KP (w2 m1 62 (40 * s + 2 * n + 1) v) 0 q0 := fun v => by
        unfold KP
        rw [w2_ne (by decide), n62 70 (by omega), w2_ne (by decide)]
        exact hK
      obtain ⟨L2, m2, e2, hM3, c1, c2, c3, c4, c5, c6, ag2⟩ := ih f (i + 1) (sLg S L1) (w2 m1 62 (40 * s + 2 * n + 1) (nI (if opS E q i = true then 1 else 0))) (putS E q i) (n + 1) (upF (upF F (2 * n) (nI i)) (2 * n + 1) (nI (if opS E q i = true then 1 else 0))) (by omega) (by omega) (by omega) (hM2 _) (hK2 _) (fun k hk => by
        unfold upF
        rw [w2_ap]
        by_cases z : k = 2 * n + 1
        · rw [if_pos ⟨rfl, by omega⟩, if_pos z]
        · rw [if_neg (by omega), if_neg z, n62 62 (by omega), w2_ap]
          by_cases z2 : k = 2 * n
          · rw [if_pos ⟨rfl, by omega⟩, if_pos z2]
          · rw [if_neg (by omega), if_neg z2]
            exact h3 k hk)
      have aga : AgM ZN JQ m (w2 m1 62 (40 * s + 2 * n + 1) (nI (if opS E q i = true then 1 else 0))) := (((wag m _ _).mono (fun b hb => Or.inr (Or.inr (Or.inr hb))) (fun _ z => z.elim)).tr (ag1.mono (fun b hb => Or.inl (by unfold ZA at hb; unfold ZB; omega)) (fun _ z => z))).tr ((wag m1 _ _).mono (fun b hb => Or.inr (Or.inr (Or.inr hb))) (fun _ z => z.elim))
      refine ⟨L2, m2, ?_, hM3, c1, ?_, c3, c4, ?_, ?_, aga.tr ag2⟩
      · rw [hcan, if_neg (show ¬ nI (if true = true then 1 else 0) = (0 : Int32) by decide), gR_k hk, rk50_22 hS, Option.bind_some, show (40 : Int32) * nI s = nI (40 * s) from pk_mul 40 s, show (2 : Int32) * nI n = nI (2 * n) from pk_mul 2 n, nI_add, sI_n (sk62 hS) (by omega) (by decide), Option.bind_some, gR_k hk, rk50_22 hS, Option.bind_some, vc_k hk, e1, Option.bind_some]
        have e104 : ∀ v : Int32, f_X9_film_104 (f_X9_film_47 f) (mk (sLg S L1) m1) (some 50) (nI s) (nI n) (nI i) v (nI (40 * s + 2 * n) + ((1 : Int32))) (some 62) = f_X9_film_47 f (mk (sLg S L1) (w2 m1 62 (40 * s + 2 * n + 1) v)) (some 50) (nI s) (nI (n + 1)) (nI (i + 1)) := fun v => by
          unfold f_X9_film_104
          rw [show nI (40 * s + 2 * n) + (1 : Int32) = nI (40 * s + 2 * n + 1) from nI_add _ 1, sI_n (sk62 hM1.1) (by omega) (by decide), Option.bind_some, bnd_eq, show nI n + (1 : Int32) = nI (n + 1) from nI_add n 1, e108]
        by_cases ho : opS E q i = true
        · rw [ho] at e2 ⊢
          rw [if_neg (show ¬ nI (if true = true then 1 else 0) = (0 : Int32) by decide), show (1 : Int32) = nI (if true = true then 1 else 0) from rfl]
          exact (e104 _).trans e2
        · have ho' : opS E q i = false := by simpa using ho
          rw [ho'] at e2 ⊢
          rw [if_pos (show nI (if false = true then 1 else 0) = (0 : Int32) from rfl)]
          exact (e104 _).trans e2
      · intro j hj
        rw [c2 j hj, w2_ap, if_neg (by omega), n62 62 (by omega), w2_ap, if_neg (by omega)]
      · intro j hj
        rw [c5 j hj, w2_ne (by decide), n62 60 (by omega), w2_ne (by decide)]
      · intro j hj
        rw [c6 j hj, w2_ne (by decide), n62 61 (by omega), w2_ne (by decide)]
    · have hcan' : canS E q i = false := by simpa using hcan
      have ef : fmS E (r + 1) i q n F = fmS E r (i + 1) q n F := if_neg hcan
      rw [ef, hcan', if_pos (show nI (if false = true then 1 else 0) = (0 : Int32) from rfl), e108]
      exact ih f (i + 1) S m q n F (by omega) (by omega) (by omega) hM hK h3
theorem op_film {S : SK} {m : Nat → Nat → Int32} (hR : RR S m) (x : Int32) : RES (f_X8_film (mk S m) (some 0) x) (fun S1 m1 => f_X9_film (mk S1 m1) (some 50) x) := by
  have hR0 := hR
  have hS := hR.ok
  have hk8 : (sh S 0).1 = 8 := by rw [sk0 hS]
  have hk1 : (sh S 3).1 = 1 := by rw [sk3 hS]
  have hk : (sh S 50).1 = 9 := by rw [sk50 hS]
  obtain ⟨d, P, N, l, T, wh, kd, td, mo, prs, q, h⟩ := hR
  obtain ⟨hl, ⟨g1, g2, g3⟩, hO⟩ := h
  rcases i_in x (n := 4) (by decide) with ⟨s, hs, rfl⟩ | hno
  · have x1 := one_y hs (show (4 : Nat) < 2 ^ 31 by decide)
    obtain ⟨b1, b2, b3, b4⟩ := shS hS s hs
    have hk4 : (sh S (38 + 2 * s)).1 = 4 := by rw [b1]
    have hk9 : (sh S 9).1 = 1 := by rw [sk9 hS]
    have hN := g1.1.2.1.2.2.1
    obtain ⟨ma, ea, fa1, fa2, fa3, aga⟩ := C_sheetBe (m := m) (sort := nI 2) (n := 14) hS hs (by decide)
    have hCa : CI S ma 3 (mkE d P N wh kd td mo (prs l)) l q := g1.ag aga (ZOK.of (fun b hb => Or.inr (Or.inl (by omega)))) (by omega) (by omega)
    obtain ⟨mb, eb, hCb, agb⟩ := C_become hCa (g := 9) (Or.inr (Or.inr (Or.inl rfl))) (by decide)
    have nb : ∀ b, 38 ≤ b → b ≤ 45 → mb b = ma b := fun b y z => agb b (by omega)
    obtain ⟨m1, e1, c1, c2, c3, ag1⟩ := C_filmL hs N FU 0 mb q 0 (fun _ => (0 : Int32)) (by show 0 + N = N; omega) (by have : N ≤ 7 := hN; unfold FU; omega) (Nat.le_refl _) hCb (by rw [nb _ (by omega) (by omega), fa1]) (by rw [nb _ (by omega) (by omega), fa2]) (fun k hk => by rw [nb _ (by omega) (by omega), fa3 k hk])
    have agA : Ag (ZF S s) m m1 := ((aga.mono (fun b hb => Or.inr hb)).tr (agb.mono (fun b hb => Or.inl (Or.inr (Or.inl (by omega)))))).tr ag1
    have agc : Ag (ZJS S) m m1 := agA.mono (fun b hb => by
      rcases hb with z | z
      · exact Or.inl z
      · exact Or.inr (by omega))
    have n50 : ∀ b, 50 ≤ b → b ≤ 75 → m1 b = m b := fun b y z => agA b (fun u => by
      rcases u with u | u
      · have := u.no
        omega
      · omega)
    have hM1 := g2.ofC agA (fun b hb u => by
      rcases u with u | u
      · have := u.no
        omega
      · omega)
    obtain ⟨m2, e2, z1, z2, ag2⟩ := M_filmZ hS hs 40 FU 0 m1 (by omega) (by unfold FU; omega)
    have hM2 := hM1.ag (AgM.of (J := J0) ag2 (by decide)) (fun b hb => by omega) (fun _ _ => id)
    obtain ⟨m3, e3, hM3, hK3, ag3, _⟩ := M_keeps hM2 (d := 0) (by decide)
    have e3' : f_X9_keeps (mk S m2) (some 50) (0 : Int32) = _ := e3
    have n3 : ∀ b, b = 60 ∨ b = 61 ∨ b = 62 → m3 b = m2 b := fun b hb => ag3.1 b (by omega) (by unfold Z70; omega)
    obtain ⟨L, m4, e4, hM4, w1, w2', w3, w4, w5, w6, ag4⟩ := M_filmL hs hM2.2.2.2.2.1 N FU 0 S m3 q 0 (fun _ => (0 : Int32)) (by show 0 + N = N; omega) (by have : N ≤ 7 := hN; unfold FU; omega) (Nat.le_refl _) hM3 hK3 (fun k hk => by rw [n3 62 (by omega)]; exact z1 k (Nat.zero_le _) hk)
    have agm : AgM ZN JQ m1 m4 := (((AgM.of (J := J0) ag2 (by decide)).mono (fun b hb => Or.inr (Or.inr (Or.inr hb))) (fun _ z => z.elim)).tr (ag3.mono (fun b hb => Or.inl (by unfold Z70 at hb; unfold ZB; omega)) (fun _ z => z.elim))).tr ag4
    have n4 : ∀ b, 38 ≤ b → b ≤ 45 → m4 b = m1 b := fun b y z => agm.1 b (by omega) (by unfold ZN ZB; omega)
    have hle := fmS_le (E := mkE d P N wh kd td mo (prs l)) N 0 q 0 (fun _ => (0 : Int32))
    have hsh : RSh m4 := by
      refine hO.2.2.1.set hs (fun j hj => ?_) (fun j hj => ?_) (fun j hj => ?_) (fun b hb h1 h2 => ?_) ⟨?_, ?_, ?_, ?_, 2 * (fmS (mkE d P N wh kd td mo (prs l)) N 0 q 0 (fun _ => (0 : Int32))).1, ?_, ?_⟩
      · rw [w5 j hj, n3 60 (by omega), ag2 60 (by decide), n50 60 (by omega) (by omega)]
      · rw [w6 j hj, n3 61 (by omega), ag2 61 (by decide), n50 61 (by omega) (by omega)]
      · rw [w2' j hj, n3 62 (by omega), z2 j (by omega), n50 62 (by omega) (by omega)]
      · rw [n4 b hb.1 hb.2]
        exact agA b (fun u => by
          rcases u with u | u
          · have := u.no
            omega
          · omega)
      · rw [w3, n4 _ (by omega) (by omega), c2]
      · rw [w4, n4 _ (by omega) (by omega), c3]
      · intro k hk40
        rw [w1 k hk40, n4 _ (by omega) (by omega), c1 k hk40]
      · rw [n4 _ (by omega) (by omega), c2]
        exact Or.inr (Or.inr (Or.inr rfl))
      · have : N ≤ 7 := hN
        omega
      · rw [n4 _ (by omega) (by omega), c3]
    refine op_mk (a := nI (fmS (mkE d P N wh kd td mo (prs l)) N 0 q 0 (fun _ => (0 : Int32))).1) (S1 := S) (m1 := m1) (S2 := sLg S L) (m2 := m4) ?_ ?_ ⟨d, P, N, l, T, wh, kd, td, mo, prs, q, RP.sheet ⟨hl, ⟨g1, g2, g3⟩, hO⟩ agc (agm.mono (fun b hb => by unfold ZN ZB at hb; unfold ZMS; omega) (fun j hj => by unfold JQ at hj; unfold JM; omega)) hM4 ?_ hsh⟩
    · unfold f_X8_film
      rw [X8_isSheet, x1, Option.bind_some, if_neg (show ¬ (1 : Int32) = 0 by decide), r0_8 hS, Option.bind_some, rR37 hS hs, Option.bind_some, vc_k hk4]
      have ea' : f_X4_become (mk S m) (some (38 + 2 * s)) ((2 : Int32)) ((14 : Int32)) = _ := ea
      rw [ea', Option.bind_some, gR_k hk8, rk0_4 hS, Option.bind_some, r0_2 hS, Option.bind_some, vc_k hk9, eb, Option.bind_some]
      exact e1
    · show f_X9_film (mk S m1) (some 50) (nI s) = _
      unfold f_X9_film
      rw [X9_in4, x1, Option.bind_some, if_neg (show ¬ (1 : Int32) = 0 by decide)]
      refine e2.trans ?_
      rw [vc_k hk, e3', Option.bind_some]
      exact e4
    · rw [agm.2 37 (by unfold JQ; omega), n50 50 (by omega) (by omega)]
      exact g3
  · have x1 := one_n hno
    refine op_same (a := -2) hR0 ?_ ?_
    · unfold f_X8_film
      rw [X8_isSheet, x1, Option.bind_some, if_pos rfl]
    · show f_X9_film (mk S m) (some 50) x = _
      unfold f_X9_film
      rw [X9_in4, x1, Option.bind_some, if_pos rfl]
