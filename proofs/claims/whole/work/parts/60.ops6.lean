/-! PURE: calls: rest, moves, play -/
theorem C_think {S : SK} {m : Nat → Nat → Int32} {E : EN} {l n : Nat} {q : QS} (h : CI S m 3 E l q) (hP1 : 1 ≤ eP E) (hn : n ≤ 6) :
    ∃ m2, f_X6_think (mk S m) (some 18) (some 3) (nI n) = some (mk S m2) ∧ EndC m2 0 (eP E) (solS E n 0 q).1 ∧ m2 30 0 = nI (dgv (solS E n 0 q).2) ∧ Ag (ZJ S) m m2 := by
  have hS := h.1.1
  have hk : (sh S 18).1 = 6 := by rw [sk18 hS]
  have hk1 : (sh S 19).1 = 1 := by rw [sk19 hS]
  have hk2 : (sh S 12).1 = 2 := by rw [sk12 hS]
  have hq := h.2.2.2
  have hE := h.1.2.1
  obtain ⟨m1, e1, hC1, ag1⟩ := C_become h (g := 19) (Or.inr (Or.inr (Or.inr (Or.inr rfl)))) (by decide)
  obtain ⟨m2, e2, hf2, ag2⟩ := X2_forget hS m1
  obtain ⟨m3, hm3⟩ : ∃ m3, m3 = w2 m2 18 6 (nI n) := ⟨_, rfl⟩
  have ag3 : Ag (fun b => b = 13 ∨ b = 18) m1 m3 := by
    rw [hm3]
    exact (Ag.mono (Z2 := fun b => b = 13 ∨ b = 18) ag2 (fun b hb => Or.inl hb)).w2 (Or.inr rfl)
  have hC3 : CI S m3 19 E l q := hC1.ag ag3 (ZOK.of (fun b hb => Or.inr (Or.inl (by omega)))) (by omega) (by omega)
  have e13 : ∀ i, i < 1024 → m3 13 i = -1 := by
    intro i hi
    rw [hm3, w2_ap, if_neg (by simp)]
    exact hf2 i hi
  obtain ⟨m4, e4, hC4, hE4, h304, _, _, _, ag4⟩ := C_turns (w0 := q.2.1) (n := n) hP1 hn n 12 m3 q 0 (by omega) (by omega) hC3 (by rw [hm3, w2_ap, if_pos ⟨rfl, rfl⟩]) (by have := hq.2.1; omega) (fun t r r1 r2 r3 r4 => by
    have l2 := kt_lt hE r1 (show t ≤ 6 by omega)
    rw [e13 _ (sl_lt _)] at r4
    exact absurd r4.symm (n_m1 _ (by omega)))
  have em : (if nI n < (6 : Int32) then nI n else (6 : Int32)) = nI n := by
    by_cases z : n < 6
    · exact if_pos ((nI_ltI (b := 6) (by omega) (by omega)).2 z)
    · have : n = 6 := by omega
      subst this
      rfl
  have em2 : (if (0 : Int32) < nI n then nI n else (0 : Int32)) = nI n := by
    by_cases z : 0 < n
    · exact if_pos ((nI_ltI (a := 0) (by omega) (by omega)).2 z)
    · have : n = 0 := by omega
      subst this
      rfl
  refine ⟨m4, ?_, hE4, h304, ?_⟩
  · unfold f_X6_think
    rw [gR_k hk, rk18_0 hS, Option.bind_some, vc_k hk1, e1, Option.bind_some, gR_k hk, rk18_3 hS, Option.bind_some, vc_k hk2, e2, Option.bind_some, bnd_eq, bnd_eq, em, em2, pI_k hk, Option.bind_some, ← hm3, vc_k hk]
    show (f_X6_solve 12 (mk S m3) (some 18) (nI 0)).bind _ = _
    rw [e4, Option.bind_some]
  · refine ((ag1.mono (fun b hb => ?_)).tr (ag3.mono (fun b hb => ?_))).tr (ag4.mono (fun b hb => ?_))
    · exact Or.inr (Or.inl (by omega))
    · exact Or.inr (Or.inl (by omega))
    · rcases hb with y | y | y | y | y
      · exact Or.inr (Or.inl (by omega))
      · exact Or.inr (Or.inl (by omega))
      · exact Or.inr (Or.inl (by omega))
      · exact Or.inr (Or.inl (by omega))
      · exact Or.inr (Or.inr y)
theorem j37_jm {j : Nat} (h : J37 j) : JM j := by
  unfold J37 at h
  unfold JM
  omega
theorem X8_areTurns {h : XM} (x : Int32) : f_X8_areTurns h x = some (if x < 0 then 0 else if (6 : Int32) < x then 0 else 1, h) := by
  unfold f_X8_areTurns
  by_cases z : x < 0
  · rw [if_pos z, if_pos z]
    rfl
  · rw [if_neg z, if_neg z]
    by_cases y : (6 : Int32) < x
    · rw [if_pos y, if_pos y]
      rfl
    · rw [if_neg y, if_neg y]
      rfl
theorem op_rest {S : SK} {m : Nat → Nat → Int32} (hR : RR S m) (p w : Int32) : RES (f_X8_rest (mk S m) (some 0) p w) (fun S1 m1 => f_X9_rest (mk S1 m1) (some 50) p w) := by
  have hR0 := hR
  have hS := hR.ok
  have hk8 : (sh S 0).1 = 8 := by rw [sk0 hS]
  have hk1 : (sh S 3).1 = 1 := by rw [sk3 hS]
  have hk : (sh S 50).1 = 9 := by rw [sk50 hS]
  obtain ⟨d, P, N, l, T, wh, kd, td, mo, prs, q, h⟩ := hR
  obtain ⟨hl, ⟨g1, g2, g3⟩, hO⟩ := h
  have hE := g1.1.2.1
  have hP : P ≤ 4 := hE.2.1
  have hk6 : (sh S 18).1 = 6 := by rw [sk18 hS]
  have r06 : ∀ m', gR (mk S m') 8 (some 0) 6 = some (some 18) := fun m' => by rw [gR_k hk8, rk0_6 hS]
  rcases i_in p (show P < 2 ^ 31 by omega) with ⟨k, hkP, rfl⟩ | hno
  · have x1 := one_y (show k < eP (mkE d P N wh kd td mo (prs l)) from hkP) (show P < 2 ^ 31 by omega)
    rcases i_rng w (B := 6) (by decide) with ⟨n, hn, rfl⟩ | hbad
    · have hP1 : 1 ≤ eP (mkE d P N wh kd td mo (prs l)) := show 1 ≤ P by omega
      obtain ⟨m1, e1, hE1, _, agJ⟩ := C_think g1 hP1 hn
      have hM1 := g2.ofC agJ zj_50
      obtain ⟨L, m2, e2, hM2, h37, hE2, _, ag2⟩ := M_goes hM1 hP1 hn
      refine op_mk (a := Int32.ofInt ((solS (mkE d P N wh kd td mo (prs l)) n 0 q).1 k)) (S1 := S) (m1 := m1) (S2 := sLg S L) (m2 := m2) ?_ ?_ ⟨d, P, N, l, T, wh, kd, td, mo, prs, q, RP.q ⟨hl, ⟨g1, g2, g3⟩, hO⟩ agJ (ag2.mono (fun b hb => by unfold ZM; omega) (fun j hj => j37_jm hj)) hM2 h37⟩
      · unfold f_X8_rest
        rw [r0_2 hS, Option.bind_some, vc_k hk1, C_isOne g1, x1, Option.bind_some, if_neg (show ¬ (1 : Int32) = 0 by decide), X8_areTurns, ifr_y (b := 6) (B := 6) rfl hn (by decide), Option.bind_some, if_neg (show ¬ (1 : Int32) = 0 by decide)]
        rw [r06, Option.bind_some, r0_2 hS, Option.bind_some, vc_k hk6, e1, Option.bind_some, r06, Option.bind_some, vc_k hk6]
        unfold f_X6_endOf
        rw [if_neg (nI_pos (by omega)), if_pos (lt4 (by omega)), gR_k hk6, rk18_1 hS, Option.bind_some, show rR 15 (mk S m1) (some 22) (0 : Int32) = some (some (23 + 0)) from rR22 hS (by decide), Option.bind_some, rI_n (sk2x hS _ (by omega)) (by omega) (by decide), Option.bind_some, hE1 k hkP]
        rfl
      · show f_X9_rest (mk S m1) (some 50) (nI k) (nI n) = _
        unfold f_X9_rest
        rw [vc_k hk, M_isOne hM1, x1, Option.bind_some, if_neg (show ¬ (1 : Int32) = 0 by decide), X9_in, ifr_y (b := 6) (B := 6) rfl hn (by decide), Option.bind_some, if_neg (show ¬ (1 : Int32) = 0 by decide), vc_k hk, e2, Option.bind_some, gR_k hM2.k, rk50_43 hM2.1, Option.bind_some, rI_n (sk71 hM2.1) (by omega) (by decide), Option.bind_some]
        have := hE2 k hkP
        rw [Nat.zero_add] at this
        rw [this]
    · refine op_same (a := -100000) hR0 ?_ ?_
      · unfold f_X8_rest
        rw [r0_2 hS, Option.bind_some, vc_k hk1, C_isOne g1, x1, Option.bind_some, if_neg (show ¬ (1 : Int32) = 0 by decide), X8_areTurns, ifr_n (b := 6) (B := 6) rfl hbad, Option.bind_some, if_pos rfl]
        rfl
      · show f_X9_rest (mk S m) (some 50) (nI k) w = _
        unfold f_X9_rest
        rw [vc_k hk, M_isOne g2, x1, Option.bind_some, if_neg (show ¬ (1 : Int32) = 0 by decide), X9_in, ifr_n (b := 6) (B := 6) rfl hbad, Option.bind_some, if_pos rfl]
        rfl
  · have x1 := one_n (show p < 0 ∨ ¬ p < nI (eP (mkE d P N wh kd td mo (prs l))) from hno)
    refine op_same (a := -100000) hR0 ?_ ?_
    · unfold f_X8_rest
      rw [r0_2 hS, Option.bind_some, vc_k hk1, C_isOne g1, x1, Option.bind_some, if_pos rfl]
      rfl
    · show f_X9_rest (mk S m) (some 50) p w = _
      unfold f_X9_rest
      rw [vc_k hk, M_isOne g2, x1, Option.bind_some, if_pos rfl]
      rfl
def fdg : Nat → List Nat → Nat
  | a, [] => a
  | a, x :: L => fdg (10 * a + x) L
theorem fdg_eq : ∀ (L : List Nat) (a : Nat), fdg a L = a * 10 ^ L.length + dgv L
  | [], a => by
    show a = a * 10 ^ 0 + 0
    omega
  | x :: L, a => by
    show fdg (10 * a + x) L = a * 10 ^ (L.length + 1) + (x * 10 ^ L.length + dgv L)
    rw [fdg_eq L, Nat.add_mul, Nat.pow_succ, ← Nat.add_assoc]
    congr 2
    rw [Nat.mul_comm 10 a, Nat.mul_assoc, Nat.mul_comm 10]
theorem LinM.hd {m : Nat → Nat → Int32} {A b x : Nat} {L : List Nat} (h : LinM m A b (x :: L)) : m A b = nI x := h 0 (Nat.succ_pos _)
theorem LinM.tl {m : Nat → Nat → Int32} {A b x : Nat} {L : List Nat} (h : LinM m A b (x :: L)) : LinM m A (b + 1) L := fun j hj => by
  have := h (j + 1) (Nat.succ_lt_succ hj)
  rw [show b + 1 + j = b + (j + 1) by omega]
  exact this
theorem M_moves {S : SK} {m : Nat → Nat → Int32} (hS : SkOK S) {n : Nat} (hn : n ≤ 6) : ∀ (L : List Nat) (f i a : Nat), i + L.length = n → L.length < f → LinM m 72 i L → f_X9_moves_29 f (mk S m) (some 50) (nI n) (nI a) (nI i) = some (nI (fdg a L), mk S m)
  | [], f, i, a, hi, hf, _ => by
    obtain ⟨f, rfl⟩ : ∃ k, f = k + 1 := ⟨f - 1, by omega⟩
    have hi : i = n := by simpa using hi
    subst hi
    show fb_X9_moves_29 (f_X9_moves_29 f) (mk S m) (some 50) (nI i) (nI a) (nI i) = _
    unfold fb_X9_moves_29
    rw [if_neg (by rw [nI_ltI (by omega) (by omega)]; omega)]
    rfl
  | x :: L, f, i, a, hi, hf, hL => by
    have hi : i + (L.length + 1) = n := hi
    have hf : L.length + 1 < f := hf
    obtain ⟨f, rfl⟩ : ∃ k, f = k + 1 := ⟨f - 1, by omega⟩
    have hk : (sh S 50).1 = 9 := by rw [sk50 hS]
    show fb_X9_moves_29 (f_X9_moves_29 f) (mk S m) (some 50) (nI n) (nI a) (nI i) = _
    unfold fb_X9_moves_29
    rw [if_pos (by rw [nI_ltI (by omega) (by omega)]; omega), gR_k hk, rk50_44 hS, Option.bind_some, rI_n (sk72 hS) (by omega) (by decide), Option.bind_some, hL.hd, bnd_eq, bnd_eq, show (10 : Int32) * nI a = nI (10 * a) from pk_mul 10 a, nI_add, show nI i + (1 : Int32) = nI (i + 1) from nI_add i 1]
    exact M_moves hS hn L f (i + 1) (10 * a + x) (by omega) (by omega) hL.tl
theorem op_moves {S : SK} {m : Nat → Nat → Int32} (hR : RR S m) (w : Int32) : RES (f_X8_moves (mk S m) (some 0) w) (fun S1 m1 => f_X9_moves (mk S1 m1) (some 50) w) := by
  have hR0 := hR
  have hS := hR.ok
  have hk8 : (sh S 0).1 = 8 := by rw [sk0 hS]
  have hk1 : (sh S 3).1 = 1 := by rw [sk3 hS]
  have hk : (sh S 50).1 = 9 := by rw [sk50 hS]
  obtain ⟨d, P, N, l, T, wh, kd, td, mo, prs, q, h⟩ := hR
  obtain ⟨hl, ⟨g1, g2, g3⟩, hO⟩ := h
  have hE := g1.1.2.1
  have hP : P ≤ 4 := hE.2.1
  have c7 : m 3 7 = nI P := g1.2.2.1.2.2.2.1
  have g7 : m 50 3 = nI P := g2.2.2.2.1.2.2.2.1
  have hk6 : (sh S 18).1 = 6 := by rw [sk18 hS]
  have r06 : ∀ m', gR (mk S m') 8 (some 0) 6 = some (some 18) := fun m' => by rw [gR_k hk8, rk0_6 hS]
  rcases i_rng w (B := 6) (by decide) with ⟨n, hn, rfl⟩ | hbad
  · by_cases hP0 : P = 0
    · subst hP0
      refine op_same (a := -2) hR0 ?_ ?_
      · unfold f_X8_moves
        rw [X8_areTurns, ifr_y (b := 6) (B := 6) rfl hn (by decide), Option.bind_some, if_neg (show ¬ (1 : Int32) = 0 by decide)]
        rw [r0_2 hS, Option.bind_some, gI_k hk1, c7, Option.bind_some, if_pos (show nI 0 = (0 : Int32) from rfl)]
        rfl
      · show f_X9_moves (mk S m) (some 50) (nI n) = _
        unfold f_X9_moves
        rw [X9_in, ifr_y (b := 6) (B := 6) rfl hn (by decide), Option.bind_some, if_neg (show ¬ (1 : Int32) = 0 by decide), gI_k hk, g7, Option.bind_some, if_pos (show nI 0 = (0 : Int32) from rfl)]
        rfl
    · have hP1 : 1 ≤ eP (mkE d P N wh kd td mo (prs l)) := show 1 ≤ P by omega
      have hPn : ¬ nI P = (0 : Int32) := fun z => hP0 ((nI_eq (b := 0) (by omega) (by omega)).1 z)
      obtain ⟨m1, e1, _, h30, agJ⟩ := C_think g1 hP1 hn
      have hM1 := g2.ofC agJ zj_50
      obtain ⟨L, m2, e2, hM2, h37, _, hL2, ag2⟩ := M_goes hM1 hP1 hn
      have hrb := sol_rb hE n 0 q
      have em := M_moves hM2.1 hn (solS (mkE d P N wh kd td mo (prs l)) n 0 q).2 FU 0 0 (by rw [hrb.1]; omega) (by rw [hrb.1]; unfold FU; omega) hL2
      rw [fdg_eq, Nat.zero_mul, Nat.zero_add] at em
      refine op_mk (a := nI (dgv (solS (mkE d P N wh kd td mo (prs l)) n 0 q).2)) (S1 := S) (m1 := m1) (S2 := sLg S L) (m2 := m2) ?_ ?_ ⟨d, P, N, l, T, wh, kd, td, mo, prs, q, RP.q ⟨hl, ⟨g1, g2, g3⟩, hO⟩ agJ (ag2.mono (fun b hb => by unfold ZM; omega) (fun j hj => j37_jm hj)) hM2 h37⟩
      · unfold f_X8_moves
        rw [X8_areTurns, ifr_y (b := 6) (B := 6) rfl hn (by decide), Option.bind_some, if_neg (show ¬ (1 : Int32) = 0 by decide)]
        rw [r0_2 hS, Option.bind_some, gI_k hk1, c7, Option.bind_some, if_neg hPn, r06, Option.bind_some, Option.bind_some, vc_k hk6, e1, Option.bind_some, r06, Option.bind_some, vc_k hk6]
        unfold f_X6_line
        rw [gR_k hk6, rk18_2 hS, Option.bind_some, show rI (mk S m1) (some 30) (0 : Int32) = some (m1 30 0) from rI_n (n := 0) (sk30 hS) (by decide) (by decide), Option.bind_some, h30]
        rfl
      · show f_X9_moves (mk S m1) (some 50) (nI n) = _
        unfold f_X9_moves
        rw [X9_in, ifr_y (b := 6) (B := 6) rfl hn (by decide), Option.bind_some, if_neg (show ¬ (1 : Int32) = 0 by decide), gI_k hk, show m1 50 3 = nI P from hM1.2.2.2.1.2.2.2.1, Option.bind_some, if_neg hPn, vc_k hk, e2, Option.bind_some]
        exact em
  · refine op_same (a := -2) hR0 ?_ ?_
    · unfold f_X8_moves
      rw [X8_areTurns, ifr_n (b := 6) (B := 6) rfl hbad, Option.bind_some, if_pos rfl]
      rfl
    · show f_X9_moves (mk S m) (some 50) w = _
      unfold f_X9_moves
      rw [X9_in, ifr_n (b := 6) (B := 6) rfl hbad, Option.bind_some, if_pos rfl]
      rfl
