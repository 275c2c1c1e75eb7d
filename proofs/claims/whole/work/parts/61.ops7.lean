/-! PURE: calls: play -/
def plS (E : EN) : List Nat → QS → QS
  | [], q => q
  | x :: L, q => plS E L (if x = 0 then waitS q else putS E q (x - 1))
theorem sl_dg {E : EN} {rec : QS → RT} (hr : ∀ q d, d ∈ (rec q).2 → d ≤ eN E) (q : QS) (u : Nat) : ∀ r i a, i + r = eN E → (∀ d, d ∈ a.2 → d ≤ eN E) → ∀ d, d ∈ (slS E rec q u r i a).2 → d ≤ eN E
  | 0, _, _, _, h => h
  | r + 1, i, a, hi, h => by
    apply sl_dg hr q u r (i + 1) _ (by omega)
    intro d hd
    split at hd
    · split at hd
      · have hd' : d ∈ (i + 1) :: (rec (putS E q i)).2 := hd
        rcases List.mem_cons.1 hd' with e | e
        · omega
        · exact hr _ _ e
      · exact h d hd
    · exact h d hd
theorem sol_dg (E : EN) : ∀ k t q d, d ∈ (solS E k t q).2 → d ≤ eN E
  | 0, _, _, d, h => by cases h
  | k + 1, t, q, d, h => by
    refine sl_dg (sol_dg E k (t + 1)) q (t % eP E) (eN E) 0 _ (by omega) ?_ d h
    intro d hd
    have hd' : d ∈ 0 :: (solS E k (t + 1) (waitS q)).2 := hd
    rcases List.mem_cons.1 hd' with e | e
    · omega
    · exact sol_dg E k (t + 1) (waitS q) d e
theorem dgv_lt : ∀ (L : List Nat), (∀ d, d ∈ L → d ≤ 7) → dgv L < 10 ^ L.length
  | [], _ => by decide
  | x :: L, h => by
    have ih := dgv_lt L (fun d hd => h d (List.mem_cons_of_mem _ hd))
    have hx := h x List.mem_cons_self
    show x * 10 ^ L.length + dgv L < 10 ^ (L.length + 1)
    rw [Nat.pow_succ]
    have : x * 10 ^ L.length ≤ 7 * 10 ^ L.length := Nat.mul_le_mul_right _ hx
    omega
theorem C_play {S : SK} {E : EN} {l W : Nat} (hW : W < 10000000) : ∀ (L : List Nat) (f : Nat) (m : Nat → Nat → Int32) (q : QS), CI S m 3 E l q → L.length ≤ 6 → (∀ d, d ∈ L → d ≤ 7 ∧ d ≤ eN E) → W % 10 ^ L.length = dgv L → L.length < f →
    ∃ m2, f_X8_play_44 f (mk S m) (some 0) (nI W) (nI L.length + -1) = some (nI (pc7 (plS E L q).2.2.1), mk S m2) ∧ CI S m2 3 E l (plS E L q) ∧ Ag (ZC3 S) m m2
  | [], f, m, q, hC, hl, hd, hw, hf => by
    obtain ⟨f, rfl⟩ : ∃ k, f = k + 1 := ⟨f - 1, by omega⟩
    have hk1 : (sh S 3).1 = 1 := by rw [sk3 hC.1.1]
    have z1 := p16 hC.1.2.1.2.1 hC.2.2.2.2.2.1
    refine ⟨m, ?_, hC, Ag.rf⟩
    show fb_X8_play_44 (f_X8_play_44 f) (mk S m) (some 0) (nI W) (nI 0 + -1) = _
    unfold fb_X8_play_44
    rw [if_pos (show nI 0 + (-1 : Int32) < 0 by decide), r0_2 hC.1.1, Option.bind_some, gI_k hk1, hC.2.2.1.2.2.2.2.1, Option.bind_some, J6_bitCount (by omega), Option.bind_some]
    rfl
  | x :: L, f, m, q, hC, hl, hd, hw, hf => by
    obtain ⟨f, rfl⟩ : ∃ k, f = k + 1 := ⟨f - 1, by omega⟩
    have hl' : L.length + 1 ≤ 6 := hl
    have hf' : L.length + 1 < f + 1 := hf
    have hk1 : (sh S 3).1 = 1 := by rw [sk3 hC.1.1]
    have hx := hd x List.mem_cons_self
    have hdL := fun d hd' => hd d (List.mem_cons_of_mem x hd')
    have hlt := dgv_lt L (fun d hd' => (hdL d hd').1)
    have hp0 : 0 < 10 ^ L.length := Nat.pow_pos (by decide)
    have hp7 := p10_le (show L.length ≤ 7 by omega)
    have hw' : W % 10 ^ (L.length + 1) = x * 10 ^ L.length + dgv L := hw
    rw [Nat.pow_succ] at hw'
    have edig : W / 10 ^ L.length % 10 = x := by
      have e1 := Nat.mod_mul_right_div_self W (10 ^ L.length) 10
      rw [← e1, hw', Nat.mul_comm x, Nat.mul_add_div hp0, Nat.div_eq_of_lt hlt, Nat.add_zero]
    have erest : W % 10 ^ L.length = dgv L := by
      have e1 : W % (10 ^ L.length * 10) % 10 ^ L.length = W % 10 ^ L.length := Nat.mod_mul_right_mod W (10 ^ L.length) 10
      rw [← e1, hw', Nat.mul_comm x, Nat.mul_add_mod, Nat.mod_eq_of_lt hlt]
    have e87 : ∀ h, f_X8_play_87 (f_X8_play_44 f) h (some 0) (nI W) (nI L.length) = f_X8_play_44 f h (some 0) (nI W) (nI L.length + -1) := fun _ => rfl
    rw [show nI (x :: L).length + (-1 : Int32) = nI L.length from m1_pre L.length]
    show ∃ m2, fb_X8_play_44 (f_X8_play_44 f) (mk S m) (some 0) (nI W) (nI L.length) = _ ∧ _
    unfold fb_X8_play_44
    rw [if_neg (nI_pos (by omega)), rT_n _ (by omega), Option.bind_some, idiv_n (by omega) hp0 (by omega), Option.bind_some, show irem (nI (W / 10 ^ L.length)) (10 : Int32) = some (nI (W / 10 ^ L.length % 10)) from irem_n (d := 10) (by have := Nat.div_le_self W (10 ^ L.length); omega) (by decide) (by decide), Option.bind_some, edig]
    by_cases z : x = 0
    · obtain ⟨m1, e1, hC1, ag1⟩ := C_wait hC
      obtain ⟨m2, e2, hC2, ag2⟩ := C_play hW L f m1 (waitS q) hC1 (by omega) hdL erest (by omega)
      have ep : plS E (x :: L) q = plS E L (waitS q) := by
        show plS E L (if x = 0 then _ else _) = _
        rw [if_pos z]
      rw [ep]
      refine ⟨m2, ?_, hC2, (ag1.mono (fun b hb => Or.inl hb)).tr ag2⟩
      rw [if_pos (show nI x = (0 : Int32) by rw [z]; rfl), r0_2 hC.1.1, Option.bind_some, vc_k hk1, e1, Option.bind_some, e87]
      exact e2
    · obtain ⟨m1, e1, hC1, ag1⟩ := C_put hC (c := x - 1) (by omega)
      obtain ⟨m2, e2, hC2, ag2⟩ := C_play hW L f m1 (putS E q (x - 1)) hC1 (by omega) hdL erest (by omega)
      have ep : plS E (x :: L) q = plS E L (putS E q (x - 1)) := by
        show plS E L (if x = 0 then _ else _) = _
        rw [if_neg z]
      rw [ep]
      refine ⟨m2, ?_, hC2, (ag1.mono (fun b hb => ?_)).tr ag2⟩
      · rw [if_neg (show ¬ nI x = (0 : Int32) from fun y => z ((nI_eq (b := 0) (by omega) (by omega)).1 y)), r0_2 hC.1.1, Option.bind_some, vc_k hk1, show nI x - (1 : Int32) = nI (x - 1) from pk_sub (b := 1) (by omega), e1, Option.bind_some, e87]
        exact e2
      · rcases hb with y | y | y
        · exact Or.inl y
        · exact Or.inr (Or.inr (Or.inl (by omega)))
        · exact Or.inr (Or.inr (Or.inr (Or.inr y)))
theorem M_wait {S : SK} {m : Nat → Nat → Int32} {E : EN} {l : Nat} {q : QS} (h : MV S m E l q) : MV S (w2 m 50 2 (nI (min (q.2.1 + 1) 99))) E l (waitS q) ∧ AgM (fun _ => False) JQ m (w2 m 50 2 (nI (min (q.2.1 + 1) 99))) := by
  have g := h.2.2.2.1
  have ag : AgM (fun _ => False) JQ m (w2 m 50 2 (nI (min (q.2.1 + 1) 99))) := AgM.w50 AgM.rf (by unfold JQ; omega)
  exact ⟨h.set h.2.2.2.2.1.wait ag (fun _ _ => id) (fun j hj => by unfold JQ; omega) g.2.1 rfl g.2.2.2.2.1 g.2.2.2.2.2.2.1, ag⟩
theorem M_play {E : EN} {l n : Nat} (hn : n ≤ 6) : ∀ (L : List Nat) (f i : Nat) (S : SK) (m : Nat → Nat → Int32) (q : QS), MV S m E l q → i + L.length = n → (∀ d, d ∈ L → d ≤ 7 ∧ d ≤ eN E) → L.length < f → LinM m 72 i L →
    ∃ L2 m2, f_X9_play_27 f (mk S m) (some 50) (nI n) (nI i) = some (nI (pc7 (plS E L q).2.2.1), mk (sLg S L2) m2) ∧ MV (sLg S L2) m2 E l (plS E L q) ∧ AgM ZA JQ m m2
  | [], f, i, S, m, q, hM, hi, hd, hf, hL => by
    obtain ⟨f, rfl⟩ : ∃ k, f = k + 1 := ⟨f - 1, by omega⟩
    have hi : i = n := by simpa using hi
    subst hi
    have z1 := p16 hM.2.1.2.1 hM.2.2.2.2.1.2.2.1
    refine ⟨lg S, m, ?_, hM, AgM.rf⟩
    show fb_X9_play_27 (f_X9_play_27 f) (mk S m) (some 50) (nI i) (nI i) = _
    unfold fb_X9_play_27
    rw [if_neg (by rw [nI_ltI (by omega) (by omega)]; omega), gI_k hM.k, hM.2.2.2.1.2.2.2.2.1, Option.bind_some, X9_ones (by omega), Option.bind_some]
    show some (nI (bcS q.2.2.1 24), mk S m) = some (nI (pc7 q.2.2.1), mk (sLg S (lg S)) m)
    rw [bc_pc _ (by omega)]
    rfl
  | x :: L, f, i, S, m, q, hM, hi, hd, hf, hL => by
    obtain ⟨f, rfl⟩ : ∃ k, f = k + 1 := ⟨f - 1, by omega⟩
    have hi : i + (L.length + 1) = n := hi
    have hf' : L.length + 1 < f + 1 := hf
    have hS := hM.1
    have hk := hM.k
    have hx := hd x List.mem_cons_self
    have hdL := fun d hd' => hd d (List.mem_cons_of_mem x hd')
    have e73 : ∀ h, f_X9_play_73 (f_X9_play_27 f) h (some 50) (nI n) (nI i) = f_X9_play_27 f h (some 50) (nI n) (nI (i + 1)) := fun h => by
      unfold f_X9_play_73
      rw [bnd_eq, show nI i + (1 : Int32) = nI (i + 1) from nI_add i 1]
    show ∃ L2 m2, fb_X9_play_27 (f_X9_play_27 f) (mk S m) (some 50) (nI n) (nI i) = _ ∧ _
    unfold fb_X9_play_27
    rw [if_pos (by rw [nI_ltI (by omega) (by omega)]; omega), gR_k hk, rk50_44 hS, Option.bind_some, rI_n (sk72 hS) (by omega) (by decide), Option.bind_some, hL.hd]
    by_cases z : x = 0
    · obtain ⟨hM1, ag1⟩ := M_wait hM
      have hL1 : LinM (w2 m 50 2 (nI (min (q.2.1 + 1) 99))) 72 (i + 1) L := fun j hj => by
        rw [ag1.1 72 (by decide) id]
        exact hL.tl j hj
      obtain ⟨L2, m2, e2, hM2, ag2⟩ := M_play hn L f (i + 1) S _ (waitS q) hM1 (by omega) hdL (by omega) hL1
      have ep : plS E (x :: L) q = plS E L (waitS q) := by
        show plS E L (if x = 0 then _ else _) = _
        rw [if_pos z]
      rw [ep]
      have e9 : (if nI q.2.1 + nI 1 < nI 0 then nI 0 else if nI 99 < nI q.2.1 + nI 1 then nI 99 else nI q.2.1 + nI 1) = nI (min (q.2.1 + 1) 99) := wn99 hM.2.2.2.2.1.2.1
      refine ⟨L2, m2, ?_, hM2, (ag1.mono (fun _ z => z.elim) (fun _ z => z)).tr ag2⟩
      rw [if_pos (show nI x = (0 : Int32) by rw [z]; rfl), gI_k hk, hM.2.2.2.1.2.2.1, Option.bind_some, X9_within, Option.bind_some]
      rw [show (if nI q.2.1 + (1 : Int32) < (0 : Int32) then (0 : Int32) else if (99 : Int32) < nI q.2.1 + (1 : Int32) then (99 : Int32) else nI q.2.1 + (1 : Int32)) = nI (min (q.2.1 + 1) 99) from e9, pI_k hk, Option.bind_some, e73]
      exact e2
    · obtain ⟨L1, m1, e1, hM1, ag1⟩ := M_put hM (c := x - 1) (by omega)
      have hL1 : LinM m1 72 (i + 1) L := fun j hj => by
        rw [ag1.1 72 (by decide) (by unfold ZA; omega)]
        exact hL.tl j hj
      obtain ⟨L2, m2, e2, hM2, ag2⟩ := M_play hn L f (i + 1) (sLg S L1) m1 (putS E q (x - 1)) hM1 (by omega) hdL (by omega) hL1
      have ep : plS E (x :: L) q = plS E L (putS E q (x - 1)) := by
        show plS E L (if x = 0 then _ else _) = _
        rw [if_neg z]
      rw [ep]
      refine ⟨L2, m2, ?_, hM2, ag1.tr ag2⟩
      rw [if_neg (show ¬ nI x = (0 : Int32) from fun y => z ((nI_eq (b := 0) (by omega) (by omega)).1 y)), Option.bind_some, rI_n (sk72 hS) (by omega) (by decide), Option.bind_some, hL.hd, vc_k hk, show nI x - (1 : Int32) = nI (x - 1) from pk_sub (b := 1) (by omega), e1, Option.bind_some, e73]
      exact e2
theorem op_play {S : SK} {m : Nat → Nat → Int32} (hR : RR S m) (w : Int32) : RES (f_X8_play (mk S m) (some 0) w) (fun S1 m1 => f_X9_play (mk S1 m1) (some 50) w) := by
  have hR0 := hR
  have hS := hR.ok
  have hk8 : (sh S 0).1 = 8 := by rw [sk0 hS]
  have hk1 : (sh S 3).1 = 1 := by rw [sk3 hS]
  have hk : (sh S 50).1 = 9 := by rw [sk50 hS]
  obtain ⟨d, P, N, l, T, wh, kd, td, mo, prs, q, h⟩ := hR
  obtain ⟨hl, ⟨g1, g2, g3⟩, hO⟩ := h
  have hE := g1.1.2.1
  have hP : P ≤ 4 := hE.2.1
  have c7 : m 3 7 = nI P := g1.2.2.1.2.2.2.1
  have g7 : m 50 3 = nI P := g2.2.2.2.1.2.2.2.1
  have hk6 : (sh S 18).1 = 6 := by rw [sk18 hS]
  have r06 : ∀ m', gR (mk S m') 8 (some 0) 6 = some (some 18) := fun m' => by rw [gR_k hk8, rk0_6 hS]
  rcases i_rng w (B := 6) (by decide) with ⟨n, hn, rfl⟩ | hbad
  · by_cases hP0 : P = 0
    · subst hP0
      refine op_same (a := -2) hR0 ?_ ?_
      · unfold f_X8_play
        rw [X8_areTurns, ifr_y (b := 6) (B := 6) rfl hn (by decide), Option.bind_some, if_neg (show ¬ (1 : Int32) = 0 by decide)]
        rw [r0_2 hS, Option.bind_some, gI_k hk1, c7, Option.bind_some, if_pos (show nI 0 = (0 : Int32) from rfl)]
        rfl
      · show f_X9_play (mk S m) (some 50) (nI n) = _
        unfold f_X9_play
        rw [X9_in, ifr_y (b := 6) (B := 6) rfl hn (by decide), Option.bind_some, if_neg (show ¬ (1 : Int32) = 0 by decide), gI_k hk, g7, Option.bind_some, if_pos (show nI 0 = (0 : Int32) from rfl)]
        rfl
    · have hP1 : 1 ≤ eP (mkE d P N wh kd td mo (prs l)) := show 1 ≤ P by omega
      have hPn : ¬ nI P = (0 : Int32) := fun z => hP0 ((nI_eq (b := 0) (by omega) (by omega)).1 z)
      obtain ⟨m1, e1, _, h30, agJ⟩ := C_think g1 hP1 hn
      have hC1 := g1.zj agJ
      have hrb := sol_rb hE n 0 q
      have hdg := sol_dg (mkE d P N wh kd td mo (prs l)) n 0 q
      have hd2 : ∀ x, x ∈ (solS (mkE d P N wh kd td mo (prs l)) n 0 q).2 → x ≤ 7 ∧ x ≤ eN (mkE d P N wh kd td mo (prs l)) := fun x hx => ⟨hrb.2.2 x hx, hdg x hx⟩
      have hlt := dgv_lt _ hrb.2.2
      rw [hrb.1] at hlt
      have hp7 := p10_le (show n ≤ 7 by omega)
      obtain ⟨m2, e2, hC2, ag2⟩ := C_play (W := dgv (solS (mkE d P N wh kd td mo (prs l)) n 0 q).2) (by omega) (solS (mkE d P N wh kd td mo (prs l)) n 0 q).2 FU m1 q hC1 (by rw [hrb.1]; omega) hd2 (by rw [hrb.1]; exact Nat.mod_eq_of_lt hlt) (by rw [hrb.1]; unfold FU; omega)
      rw [hrb.1] at e2
      have agc : Ag (ZC3 S) m m2 := (agJ.mono (fun b hb => Or.inr (Or.inr hb))).tr ag2
      have n5 : ∀ b, 50 ≤ b ∧ b ≤ 75 → ¬ ZC3 S b := fun b hb y => by
        rcases y with y | y | y
        · omega
        · omega
        · have := y.no
          omega
      have hMc := g2.ofC agc n5
      obtain ⟨L3, m3, e3, hM3, h373, _, hL3, ag3⟩ := M_goes hMc hP1 hn
      obtain ⟨L4, m4, e4, hM4, ag4⟩ := M_play hn (solS (mkE d P N wh kd td mo (prs l)) n 0 q).2 FU 0 (sLg S L3) m3 q hM3 (by rw [hrb.1]; omega) hd2 (by rw [hrb.1]; unfold FU; omega) hL3
      have agm : AgM ZM2 JG m2 m4 := (ag3.mono (fun b hb => by unfold ZM2; omega) (fun j hj => by unfold J37 at hj; unfold JG; omega)).tr (ag4.mono (fun b hb => by unfold ZA at hb; unfold ZM2; omega) (fun j hj => by unfold JQ at hj; unfold JG; omega))
      have h374 : m4 50 37 = nI 0 := by
        rw [ag4.2 37 (by unfold JQ; omega)]
        exact h373
      refine op_mk (a := nI (pc7 (plS (mkE d P N wh kd td mo (prs l)) (solS (mkE d P N wh kd td mo (prs l)) n 0 q).2 q).2.2.1)) (S1 := S) (m1 := m2) (S2 := sLg S L4) (m2 := m4) ?_ ?_ ⟨d, P, N, l, T, wh, kd, td, mo, prs, plS (mkE d P N wh kd td mo (prs l)) (solS (mkE d P N wh kd td mo (prs l)) n 0 q).2 q, hl, ⟨hC2.m agm, hM4, h374⟩, hO.g agc agm⟩
      · unfold f_X8_play
        rw [X8_areTurns, ifr_y (b := 6) (B := 6) rfl hn (by decide), Option.bind_some, if_neg (show ¬ (1 : Int32) = 0 by decide)]
        rw [r0_2 hS, Option.bind_some, gI_k hk1, c7, Option.bind_some, if_neg hPn, r06, Option.bind_some, Option.bind_some, vc_k hk6, e1, Option.bind_some, r06, Option.bind_some, vc_k hk6]
        have eline : f_X6_line (mk S m1) (some 18) = some (nI (dgv (solS (mkE d P N wh kd td mo (prs l)) n 0 q).2), mk S m1) := by
          unfold f_X6_line
          rw [gR_k hk6, rk18_2 hS, Option.bind_some, show rI (mk S m1) (some 30) (0 : Int32) = some (m1 30 0) from rI_n (n := 0) (sk30 hS) (by decide) (by decide), Option.bind_some, h30]
        rw [eline, Option.bind_some, bnd_eq, Int32.sub_eq_add_neg]
        exact e2
      · show f_X9_play (mk S m2) (some 50) (nI n) = _
        unfold f_X9_play
        rw [X9_in, ifr_y (b := 6) (B := 6) rfl hn (by decide), Option.bind_some, if_neg (show ¬ (1 : Int32) = 0 by decide), gI_k hk, show m2 50 3 = nI P from hMc.2.2.2.1.2.2.2.1, Option.bind_some, if_neg hPn, vc_k hk, e3, Option.bind_some]
        exact e4
  · refine op_same (a := -2) hR0 ?_ ?_
    · unfold f_X8_play
      rw [X8_areTurns, ifr_n (b := 6) (B := 6) rfl hbad, Option.bind_some, if_pos rfl]
      rfl
    · show f_X9_play (mk S m) (some 50) w = _
      unfold f_X9_play
      rw [X9_in, ifr_n (b := 6) (B := 6) rfl hbad, Option.bind_some, if_pos rfl]
      rfl
