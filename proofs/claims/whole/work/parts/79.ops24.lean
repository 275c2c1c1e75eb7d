/-! PURE: calls: coinsBy -/
theorem coin_both {S : SK} {m : Nat → Nat → Int32} {d P N l T : Nat} {wh kd td mo : Nat → Nat} {prs : Nat → Nat → List Nat} {q : QS} (g1 : CI S m 3 (mkE d P N wh kd td mo (prs l)) l q) (hl : l < T) (hAd : RAd S N T) (x y z u : Int32) :
    (∃ r : Int32, r < 0 ∧ f_X8_coin (mk S m) (some 0) x y z u = some (r, mk S m) ∧ ∀ S' m', MV S' m' (mkE d P N wh kd td mo (prs l)) l q → f_X9_coin (mk S' m') (some 50) x y z u = some (r, mk S' m')) ∨
    (∃ t k k2 k3 m1, N < 7 ∧ f_X8_coin (mk S m) (some 0) x y z u = some (nI N, mk (cnK S N) m1) ∧ CI (cnK S N) m1 3 (mkE d P (N + 1) (upN wh N t) (upN kd N k) (upN td N k2) (upN mo N k3) (prs l)) l q ∧ (∀ b, b ≠ S.1 → b ≠ 3 → b ≠ 4 → m1 b = m b) ∧ ∀ S' m', MV S' m' (mkE d P N wh kd td mo (prs l)) l q → m' 50 37 = nI 0 → ∃ m2, f_X9_coin (mk S' m') (some 50) x y z u = some (nI N, mk S' m2) ∧ MV S' m2 (mkE d P (N + 1) (upN wh N t) (upN kd N k) (upN td N k2) (upN mo N k3) (prs l)) l q ∧ m2 50 37 = nI 0 ∧ (∀ b, ¬ (50 ≤ b ∧ b ≤ 54) → m2 b = m' b) ∧ ∀ j, j ≠ 5 → j ≠ 10 → m2 50 j = m' 50 j) := by
  have hS := g1.1.1
  have hk8 : (sh S 0).1 = 8 := by rw [sk0 hS]
  have hk1 : (sh S 3).1 = 1 := by rw [sk3 hS]
  have c := g1.2.2.1
  have hE := g1.1.2.1
  have hq := g1.2.2.2
  have hN : N ≤ 7 := hE.2.2.1
  have hP4 : P ≤ 4 := hE.2.1
  have h76 := hS.2.2
  have neg2 : (-2 : Int32) < 0 := by decide
  have neg4 : (-4 : Int32) < 0 := by decide
  rcases i_in x (show P < 2 ^ 31 by omega) with ⟨t, ht, rfl⟩ | hno
  rotate_left
  · have x1 := one_n (show x < 0 ∨ ¬ x < nI (eP (mkE d P N wh kd td mo (prs l))) from hno)
    refine Or.inl ⟨-2, neg2, ?_, fun S' m' h2 => ?_⟩
    · unfold f_X8_coin
      rw [r0_2 hS, Option.bind_some, vc_k hk1, C_isOne g1, x1, Option.bind_some, if_pos rfl]
      rfl
    · unfold f_X9_coin
      rw [vc_k h2.k, M_isOne h2, x1, Option.bind_some, if_pos rfl]
      rfl
  have x1 := one_y (show t < eP (mkE d P N wh kd td mo (prs l)) from ht) (show P < 2 ^ 31 by omega)
  have hx : f_X8_coin (mk S m) (some 0) (nI t) y z u = if y < 0 then some (-2, mk S m) else (if ((5 : Int32)) < y then some (-2, mk S m) else (if z < 0 then some (-2, mk S m) else (if ((30 : Int32)) < z then some (-2, mk S m) else (if u < 0 then some (-2, mk S m) else (if ((9 : Int32)) < u then some (-2, mk S m) else (if nI N < 0 then some (-4, mk S m) else (if nI N < ((7 : Int32)) then ((nO (mk S m) 0 3).bind fun h6 => (((some (xc (mk S m)))).bind fun _ => f_X0_init h6 (some (xc (mk S m))) y z u).bind fun q7 => (sR 12 0 q7 (some 1) (nI N) (some (xc (mk S m)))).bind fun h8 => (gR h8 8 (some 0) 2).bind fun v9 => (pI h8 1 v9 9 (nI N + ((1 : Int32)))).bind fun h10 => (gR h10 8 (some 0) 2).bind fun v11 => (vc h10 1 v11 (f_X1_give h10 v11 (nI N) (nI t))).bind fun q12 => some (nI N, q12)) else some (-4, mk S m)))))))) := by
    unfold f_X8_coin
    rw [r0_2 hS, Option.bind_some, vc_k hk1, C_isOne g1, x1, Option.bind_some, if_neg (show ¬ (1 : Int32) = 0 by decide), r0_2 hS, Option.bind_some, gI_k hk1, c.2.2.2.2.2.1, Option.bind_some, gR_k hk8, rk0_0 hS, Option.bind_some]
    rfl
  have yin : ∀ h : XM, ∀ w b : Int32, f_X9_in h w ((0 : Int32)) b = some (if w < 0 then 0 else if b < w then 0 else 1, h) := fun h w b => by rw [X9_in]
  have mno : ∀ {S' : SK} {m' : Nat → Nat → Int32}, (MV S' m' (mkE d P N wh kd td mo (prs l)) l q) → ((y < 0 ∨ (¬ y < 0 ∧ nI 5 < y)) ∨ ((z < 0 ∨ (¬ z < 0 ∧ nI 30 < z)) ∨ (u < 0 ∨ (¬ u < 0 ∧ nI 9 < u)))) → f_X9_coin (mk S' m') (some 50) (nI t) y z u = some (-2, mk S' m') := by
    intro S' m' h2 hbad
    have e0 : f_X9_isOne (mk S' m') (some 50) (nI t) = some (1, mk S' m') := by rw [M_isOne h2, x1]
    unfold f_X9_coin
    rw [vc_k h2.k, e0, Option.bind_some, if_neg (show ¬ (1 : Int32) = 0 by decide), yin, Option.bind_some]
    rcases i_rng y (B := 5) (by decide) with ⟨k, hk5, rfl⟩ | w
    rotate_left
    · rw [ifr_n (b := 5) (B := 5) rfl w, if_pos rfl]
      rfl
    rw [ifr_y (b := 5) (B := 5) rfl hk5 (by decide), if_neg (show ¬ (1 : Int32) = 0 by decide), yin, Option.bind_some]
    rcases i_rng z (B := 30) (by decide) with ⟨k2, hk30, rfl⟩ | w
    rotate_left
    · rw [ifr_n (b := 30) (B := 30) rfl w, if_pos rfl]
      rfl
    rw [ifr_y (b := 30) (B := 30) rfl hk30 (by decide), if_neg (show ¬ (1 : Int32) = 0 by decide), yin, Option.bind_some]
    rcases i_rng u (B := 9) (by decide) with ⟨k3, hk9, rfl⟩ | w
    rotate_left
    · rw [ifr_n (b := 9) (B := 9) rfl w, if_pos rfl]
      rfl
    exfalso
    rcases hbad with (w | ⟨_, w⟩) | (w | ⟨_, w⟩) | (w | ⟨_, w⟩)
    · exact nI_pos (by omega) w
    · exact nI_nlt hk5 (by omega) w
    · exact nI_pos (by omega) w
    · exact nI_nlt hk30 (by omega) w
    · exact nI_pos (by omega) w
    · exact nI_nlt hk9 (by omega) w
  rcases i_rng y (B := 5) (by decide) with ⟨k, hk5, rfl⟩ | w
  rotate_left
  · refine Or.inl ⟨-2, neg2, ?_, fun S' m' h2 => mno h2 (Or.inl w)⟩
    rw [hx, ifr_n (b := 5) (B := 5) rfl w]
  rcases i_rng z (B := 30) (by decide) with ⟨k2, hk30, rfl⟩ | w
  rotate_left
  · refine Or.inl ⟨-2, neg2, ?_, fun S' m' h2 => mno h2 (Or.inr (Or.inl w))⟩
    rw [hx, ifr_y (b := 5) (B := 5) rfl hk5 (by decide), ifr_n (b := 30) (B := 30) rfl w]
  rcases i_rng u (B := 9) (by decide) with ⟨k3, hk9, rfl⟩ | w
  rotate_left
  · refine Or.inl ⟨-2, neg2, ?_, fun S' m' h2 => mno h2 (Or.inr (Or.inr w))⟩
    rw [hx, ifr_y (b := 5) (B := 5) rfl hk5 (by decide), ifr_y (b := 30) (B := 30) rfl hk30 (by decide), ifr_n (b := 9) (B := 9) rfl w]
  rw [ifr_y (b := 5) (B := 5) rfl hk5 (by decide), ifr_y (b := 30) (B := 30) rfl hk30 (by decide), ifr_y (b := 9) (B := 9) rfl hk9 (by decide), if_neg (nI_pos (by omega))] at hx
  have hy : ∀ (S' : SK) (m' : Nat → Nat → Int32), SkOK S' → f_X9_isOne (mk S' m') (some 50) (nI t) = some (1, mk S' m') → m' 50 5 = nI N → m' 50 10 = nI q.2.2.2 → f_X9_coin (mk S' m') (some 50) (nI t) (nI k) (nI k2) (nI k3) = if nI N = ((7 : Int32)) then some (-4, mk S' m') else (sI (mk S' m') (some 51) (nI N) (nI t)).bind fun h8 => (gR h8 9 (some 50) 7).bind fun v9 => (gI h8 9 (some 50) 5).bind fun v10 => (sI h8 v9 v10 (nI k)).bind fun h11 => (gR h11 9 (some 50) 8).bind fun v12 => (gI h11 9 (some 50) 5).bind fun v13 => (sI h11 v12 v13 (nI k2)).bind fun h14 => (gR h14 9 (some 50) 9).bind fun v15 => (gI h14 9 (some 50) 5).bind fun v16 => (sI h14 v15 v16 (nI k3)).bind fun h17 => (gI h17 9 (some 50) 10).bind fun v18 => (gI h17 9 (some 50) 5).bind fun v19 => (pI h17 9 (some 50) 10 (v18 &&& ((((1 : Int32)) <<< (v19 &&& 31)) ^^^ ((-1 : Int32))))).bind fun h20 => (gI h20 9 (some 50) 5).bind fun v21 => (pI h20 9 (some 50) 5 (v21 + ((1 : Int32)))).bind fun h22 => (gI h22 9 (some 50) 5).bind fun v23 => some (v23 - ((1 : Int32)), h22) := by
    intro S' m' hS' e0 e5 e10
    have hk' : (sh S' 50).1 = 9 := by rw [sk50 hS']
    unfold f_X9_coin
    rw [vc_k hk', e0, Option.bind_some, if_neg (show ¬ (1 : Int32) = 0 by decide), yin, Option.bind_some, ifr_y (b := 5) (B := 5) rfl hk5 (by decide), if_neg (show ¬ (1 : Int32) = 0 by decide), yin, Option.bind_some, ifr_y (b := 30) (B := 30) rfl hk30 (by decide), if_neg (show ¬ (1 : Int32) = 0 by decide), yin, Option.bind_some, ifr_y (b := 9) (B := 9) rfl hk9 (by decide), if_neg (show ¬ (1 : Int32) = 0 by decide), gI_k hk', e5, Option.bind_some, gR_k hk', rk50_6 hS', Option.bind_some, Option.bind_some]
  by_cases h7 : N = 7
  · refine Or.inl ⟨-4, neg4, ?_, fun S' m' h2 => ?_⟩
    · rw [hx, h7, if_neg (show ¬ nI 7 < (7 : Int32) by decide)]
    · rw [hy S' m' h2.1 (by rw [M_isOne h2, x1]) h2.2.2.2.1.2.2.2.2.2.1 h2.2.2.2.1.2.2.2.2.2.2.1, h7, if_pos (show nI 7 = (7 : Int32) from rfl)]
  have hN6 : N < 7 := by omega
  have hS' : SkOK (cnK S N) := cn_ok hS
  have hk1' : (sh (cnK S N) 3).1 = 1 := by rw [sk3 hS']
  have hk8' : (sh (cnK S N) 0).1 = 8 := by rw [sk0 hS']
  have hk' : (sh (cnK S N) 50).1 = 9 := by rw [sk50 hS']
  obtain ⟨ma, hma⟩ : ∃ ma, ma = w2 (cnM S m (nI k) (nI k2) (nI k3)) 3 9 (nI (N + 1)) := ⟨_, rfl⟩
  have a1 : ∀ b, b ≠ S.1 → b ≠ 3 → ma b = m b := fun b h1 h3 => by rw [hma, w2_ne h3, cnM_ne h1]
  have own : ∀ p, p < 4 → ma (3 + 1) p = nI (omS wh p N) ∧ omS wh p N < 128 := fun p hp => by
    rw [a1 (3 + 1) (by omega) (by decide)]
    exact ⟨(g1.own p hp).1, om_128 hN⟩
  obtain ⟨m1, e1, o1, ag1⟩ := C_give (S := cnK S N) (m := ma) (g := 3) (c := N) (t := t) (o := fun p => omS wh p N) (GS_of hS' g1.2.1) (by omega) (by omega) own
  have b1 : ∀ b, b ≠ S.1 → b ≠ 3 → b ≠ 4 → m1 b = m b := fun b h1 h3 h4 => by rw [ag1 b (by omega), a1 b h1 h3]
  have f3 : ∀ j, j ≠ 9 → m1 3 j = m 3 j := fun j hj => by
    rw [ag1 3 (by omega), hma, w2_ap, if_neg (fun y => hj y.2), cnM_ne (by omega)]
  have f39 : m1 3 9 = nI (N + 1) := by rw [ag1 3 (by omega), hma, w2_ap, if_pos ⟨rfl, rfl⟩]
  have fA : m1 S.1 0 = nI k ∧ m1 S.1 1 = nI k2 ∧ m1 S.1 2 = nI k3 := by
    have e : m1 S.1 = cnM S m (nI k) (nI k2) (nI k3) S.1 := by rw [ag1 S.1 (by omega), hma, w2_ne (by omega)]
    rw [e]
    unfold cnM
    refine ⟨?_, ?_, ?_⟩
    · rw [w2_ap, if_neg (by simp), w2_ap, if_neg (by simp), w2_ap, if_pos ⟨rfl, rfl⟩]
    · rw [w2_ap, if_neg (by simp), w2_ap, if_pos ⟨rfl, rfl⟩]
    · rw [w2_ap, if_pos ⟨rfl, rfl⟩]
  have hxx : f_X8_coin (mk S m) (some 0) (nI t) (nI k) (nI k2) (nI k3) = some (nI N, mk (cnK S N) m1) := by
    have en := C_newCoin (m := m) (a := nI k) (b := nI k2) (c := nI k3) hS hN6
    rw [hx, if_pos (show nI N < (7 : Int32) from nI_lt (b := 7) hN6 (by decide))]
    have assoc : ∀ {α β γ : Type} (o : Option α) (f : α → Option β) (h : β → Option γ), (o.bind fun a => (f a).bind h) = (o.bind f).bind h := fun o f h => by cases o <;> rfl
    rw [show (fun h6 => (((some (xc (mk S m)))).bind fun _ => f_X0_init h6 (some (xc (mk S m))) (nI k) (nI k2) (nI k3)).bind fun q7 => (sR 12 0 q7 (some 1) (nI N) (some (xc (mk S m)))).bind fun h8 => (gR h8 8 (some 0) 2).bind fun v9 => (pI h8 1 v9 9 (nI N + ((1 : Int32)))).bind fun h10 => (gR h10 8 (some 0) 2).bind fun v11 => (vc h10 1 v11 (f_X1_give h10 v11 (nI N) (nI t))).bind fun q12 => some (nI N, q12)) = (fun h6 => ((((some (xc (mk S m)))).bind fun _ => f_X0_init h6 (some (xc (mk S m))) (nI k) (nI k2) (nI k3)).bind fun q7 => sR 12 0 q7 (some 1) (nI N) (some (xc (mk S m)))).bind fun h8 => (gR h8 8 (some 0) 2).bind fun v9 => (pI h8 1 v9 9 (nI N + ((1 : Int32)))).bind fun h10 => (gR h10 8 (some 0) 2).bind fun v11 => (vc h10 1 v11 (f_X1_give h10 v11 (nI N) (nI t))).bind fun q12 => some (nI N, q12)) from funext (fun h6 => assoc _ _ _), assoc, en, Option.bind_some, r0_2 hS', Option.bind_some, pI_k hk1', Option.bind_some, show nI N + (1 : Int32) = nI (N + 1) from nI_add N 1, r0_2 hS', Option.bind_some, vc_k hk1', ← hma, e1, Option.bind_some]
  have hE' : EOK (mkE d P (N + 1) (upN wh N t) (upN kd N k) (upN td N k2) (upN mo N k3) (prs l)) := ⟨hE.1, hE.2.1, hN6, fun j hj => by
    show upN wh N t j < P ∧ upN kd N k j ≤ 5 ∧ upN td N k2 j ≤ 30 ∧ upN mo N k3 j ≤ 9
    unfold upN
    by_cases w : j = N
    · rw [if_pos w, if_pos w, if_pos w, if_pos w]
      exact ⟨ht, hk5, hk30, hk9⟩
    · rw [if_neg w, if_neg w, if_neg w, if_neg w]
      have hj2 : j < N + 1 := hj
      exact hE.2.2.2 j (show j < N by omega)⟩
  have hq4 : q.2.2.2 < 2 ^ N := hq.2.2.2
  have hq' : QOK (mkE d P (N + 1) (upN wh N t) (upN kd N k) (upN td N k2) (upN mo N k3) (prs l)) q := ⟨hq.1, hq.2.1, hq.2.2.1, by
    show q.2.2.2 < 2 ^ (N + 1)
    rw [Nat.pow_succ]
    omega⟩
  have kp1 : KeepC S m m1 := fun b h1 h3 h4 h5 => b1 b (by omega) h3 h4
  have hC1 : CI (cnK S N) m1 3 (mkE d P (N + 1) (upN wh N t) (upN kd N k) (upN td N k2) (upN mo N k3) (prs l)) l q := by
    refine ⟨⟨hS', hE', g1.1.2.2.1, ?_, g1.1.2.2.2.2.grow hS kp1 (fun A => hAd.2 l A hl)⟩, g1.2.1, ?_, hq'⟩
    · intro j hj
      have hj2 : j < N + 1 := hj
      by_cases w : j = N
      · subst w
        refine ⟨S.1, cn_rfA, cn_shA, h76, ?_, ?_, ?_⟩
        · show m1 S.1 0 = nI (upN kd j k j)
          unfold upN
          rw [if_pos rfl]
          exact fA.1
        · show m1 S.1 1 = nI (upN td j k2 j)
          unfold upN
          rw [if_pos rfl]
          exact fA.2.1
        · show m1 S.1 2 = nI (upN mo j k3 j)
          unfold upN
          rw [if_pos rfl]
          exact fA.2.2
      · have cg := g1.1.2.2.2.1.grow (c := N) hS kp1 (fun i A hi => hAd.1 i A hi) (Nat.le_refl _)
        obtain ⟨A, r1, r2, r3, r4, r5, r6⟩ := cg j (show j < N by omega)
        refine ⟨A, r1, r2, r3, ?_, ?_, ?_⟩
        · show m1 A 0 = nI (upN kd N k j)
          unfold upN
          rw [if_neg w]
          exact r4
        · show m1 A 1 = nI (upN td N k2 j)
          unfold upN
          rw [if_neg w]
          exact r5
        · show m1 A 2 = nI (upN mo N k3 j)
          unfold upN
          rw [if_neg w]
          exact r6
    · refine ⟨by rw [f3 4 (by decide)]; exact c.1, by rw [f3 5 (by decide)]; exact c.2.1, by rw [f3 6 (by decide)]; exact c.2.2.1, by rw [f3 7 (by decide)]; exact c.2.2.2.1, by rw [f3 8 (by decide)]; exact c.2.2.2.2.1, f39, by rw [f3 10 (by decide)]; exact c.2.2.2.2.2.2.1, by rw [f3 11 (by decide)]; exact c.2.2.2.2.2.2.2.1, ?_⟩
      intro p hp
      have := o1 p hp
      rw [om_give (wh := wh) (N := N) (N2 := N + 1) (c := N) (t := t) (Or.inr ⟨rfl, rfl⟩) p] at this
      exact this
  refine Or.inr ⟨t, k, k2, k3, m1, hN6, hxx, hC1, b1, fun S' m' h2 h37 => ?_⟩
  have hS2 : SkOK S' := h2.1
  have hk' : (sh S' 50).1 = 9 := h2.k
  have g := h2.2.2.2.1
  have e5 : m' 50 5 = nI N := g.2.2.2.2.2.1
  have e10 : m' 50 10 = nI q.2.2.2 := g.2.2.2.2.2.2.1
  have one1 : f_X9_isOne (mk S' m') (some 50) (nI t) = some (1, mk S' m') := by rw [M_isOne h2, x1]
  obtain ⟨m2, hm2⟩ : ∃ m2, m2 = w2 (w2 (w2 (w2 (w2 (w2 m' 51 N (nI t)) 52 N (nI k)) 53 N (nI k2)) 54 N (nI k3)) 50 10 (nI q.2.2.2)) 50 5 (nI (N + 1)) := ⟨_, rfl⟩
  have bits : nI q.2.2.2 &&& (((1 : Int32) <<< (nI N &&& 31)) ^^^ (-1 : Int32)) = nI q.2.2.2 := by
    rw [show (1 : Int32) <<< (nI N &&& 31) = nI (2 ^ N) from shl1 (by omega), compl_n (by have : 2 ^ N ≤ 2 ^ 7 := Nat.pow_le_pow_right (by decide) hN; omega)]
    refine congrArg nI (Nat.eq_of_testBit_eq (fun i => ?_))
    rw [tb_diff, Nat.testBit_two_pow]
    by_cases w : N = i
    · subst w
      rw [Nat.testBit_lt_two_pow hq4, Bool.false_and]
    · rw [decide_eq_false w, Bool.not_false, Bool.and_true]
  have hyy : f_X9_coin (mk S' m') (some 50) (nI t) (nI k) (nI k2) (nI k3) = some (nI N, mk S' m2) := by
    rw [hy _ m' hS2 one1 e5 e10, if_neg (show ¬ nI N = (7 : Int32) from fun w => h7 ((nI_eq (b := 7) (by omega) (by omega)).1 w)), sI_n (sk51 hS2) (by omega) (by decide), Option.bind_some, gR_k hk', rk50_7 hS2, Option.bind_some, gI_k hk', w2_ne (by decide), e5, Option.bind_some, sI_n (sk52 hS2) (by omega) (by decide), Option.bind_some]
    rw [gR_k hk', rk50_8 hS2, Option.bind_some, gI_k hk', w2_ne (by decide), w2_ne (by decide), e5, Option.bind_some, sI_n (sk53 hS2) (by omega) (by decide), Option.bind_some]
    rw [gR_k hk', rk50_9 hS2, Option.bind_some, gI_k hk', w2_ne (by decide), w2_ne (by decide), w2_ne (by decide), e5, Option.bind_some, sI_n (sk54 hS2) (by omega) (by decide), Option.bind_some]
    rw [gI_k hk', w2_ne (by decide), w2_ne (by decide), w2_ne (by decide), w2_ne (by decide), e10, Option.bind_some, gI_k hk', w2_ne (by decide), w2_ne (by decide), w2_ne (by decide), w2_ne (by decide), e5, Option.bind_some, bits, pI_k hk', Option.bind_some]
    rw [gI_k hk', w2_ap, if_neg (by decide), w2_ne (by decide), w2_ne (by decide), w2_ne (by decide), w2_ne (by decide), e5, Option.bind_some, show nI N + (1 : Int32) = nI (N + 1) from nI_add N 1, pI_k hk', Option.bind_some, ← hm2, gI_k hk', hm2, w2_ap, if_pos ⟨rfl, rfl⟩, Option.bind_some, show nI (N + 1) - (1 : Int32) = nI N from nI_pred N]
  have nj : ∀ b, ¬ (50 ≤ b ∧ b ≤ 54) → m2 b = m' b := fun b hb => by
    rw [hm2, w2_ne (by omega), w2_ne (by omega), w2_ne (by omega), w2_ne (by omega), w2_ne (by omega), w2_ne (by omega)]
  have n50j : ∀ j, j ≠ 5 → j ≠ 10 → m2 50 j = m' 50 j := fun j h5 h10 => by
    rw [hm2, w2_ap, if_neg (fun y => h5 y.2), w2_ap, if_neg (fun y => h10 y.2), w2_ne (by decide), w2_ne (by decide), w2_ne (by decide), w2_ne (by decide)]
  have hM2 : MV S' m2 (mkE d P (N + 1) (upN wh N t) (upN kd N k) (upN td N k2) (upN mo N k3) (prs l)) l q := by
    obtain ⟨_, _, hl6, ⟨d0, d1, d2, d3, d4, d5, d10, d16, arr, fr, hxt⟩, _, _⟩ := h2
    refine ⟨hS2, hE', hl6, ⟨?_, ?_, ?_, ?_, ?_, ?_, ?_, ?_, ?_, fr, ?_⟩, hq', Or.inl ?_⟩
    · rw [n50j 0 (by decide) (by decide)]; exact d0
    · rw [n50j 1 (by decide) (by decide)]; exact d1
    · rw [n50j 2 (by decide) (by decide)]; exact d2
    · rw [n50j 3 (by decide) (by decide)]; exact d3
    · rw [n50j 4 (by decide) (by decide)]; exact d4
    · rw [hm2, w2_ap, if_pos ⟨rfl, rfl⟩]
      rfl
    · rw [hm2, w2_ap, if_neg (by decide), w2_ap, if_pos ⟨rfl, rfl⟩]
    · rw [n50j 16 (by decide) (by decide)]; exact d16
    · intro j hj
      have hj2 : j < N + 1 := hj
      show m2 51 j = nI (upN wh N t j) ∧ m2 52 j = nI (upN kd N k j) ∧ m2 53 j = nI (upN td N k2 j) ∧ m2 54 j = nI (upN mo N k3 j)
      rw [hm2]
      rw [w2_ne (by decide), w2_ne (by decide), w2_ne (by decide), w2_ne (by decide), w2_ne (by decide), w2_ap]
      refine ⟨?_, ?_, ?_, ?_⟩
      · by_cases w : j = N
        · rw [if_pos ⟨rfl, w⟩]
          unfold upN
          rw [if_pos w]
        · rw [if_neg (fun y => w y.2)]
          unfold upN
          rw [if_neg w]
          exact (arr j (show j < N by omega)).1
      · rw [w2_ne (by decide), w2_ne (by decide), w2_ne (by decide), w2_ne (by decide), w2_ap]
        by_cases w : j = N
        · rw [if_pos ⟨rfl, w⟩]
          unfold upN
          rw [if_pos w]
        · rw [if_neg (fun y => w y.2), w2_ne (by decide)]
          unfold upN
          rw [if_neg w]
          exact (arr j (show j < N by omega)).2.1
      · rw [w2_ne (by decide), w2_ne (by decide), w2_ne (by decide), w2_ap]
        by_cases w : j = N
        · rw [if_pos ⟨rfl, w⟩]
          unfold upN
          rw [if_pos w]
        · rw [if_neg (fun y => w y.2), w2_ne (by decide), w2_ne (by decide)]
          unfold upN
          rw [if_neg w]
          exact (arr j (show j < N by omega)).2.2.1
      · rw [w2_ne (by decide), w2_ne (by decide), w2_ap]
        by_cases w : j = N
        · rw [if_pos ⟨rfl, w⟩]
          unfold upN
          rw [if_pos w]
        · rw [if_neg (fun y => w y.2), w2_ne (by decide), w2_ne (by decide), w2_ne (by decide)]
          unfold upN
          rw [if_neg w]
          exact (arr j (show j < N by omega)).2.2.2
    · exact hxt.ag (nj 56 (by omega)) (nj 57 (by omega))
    · rw [n50j 37 (by decide) (by decide)]
      exact h37
  exact ⟨m2, hyy, hM2, by rw [n50j 37 (by decide) (by decide)]; exact h37, nj, n50j⟩
