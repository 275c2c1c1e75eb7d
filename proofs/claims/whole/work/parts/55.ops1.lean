/-! PURE: calls: what stays when the gate itself moves; put, worth, asks, count, stand, come, force, set -/
def ZC3 (S : SK) (b : Nat) : Prop := b = 3 ∨ b = 4 ∨ ZJ S b
def ZM2 (b : Nat) : Prop := b = 51 ∨ (65 ≤ b ∧ b ≤ 75)
def JG (j : Nat) : Prop := j ≠ 12 ∧ j ≠ 15 ∧ j ≠ 17
theorem RO.g {S : SK} {m m1 m2 : Nat → Nat → Int32} {N T : Nat} {kd td mo : Nat → Nat} {prs : Nat → Nat → List Nat} {L : Nat → Nat → Int64} (h : RO S m N T kd td mo prs) (ha : Ag (ZC3 S) m m1) (hb : AgM ZM2 JG m1 m2) : RO (sLg S L) m2 N T kd td mo prs := by
  have n50 : ¬ ZC3 S 50 := by
    rintro (y | y | y)
    · omega
    · omega
    · have := y.no
      omega
  have hAM : AgM (fun b => ZC3 S b ∨ ZM2 b) JG m m2 := by
    refine ⟨fun b h5 hb2 => ?_, fun j hj => ?_⟩
    · rw [hb.1 b h5 (fun y => hb2 (Or.inr y)), ha b (fun y => hb2 (Or.inl y))]
    · rw [hb.2 j hj, ha 50 n50]
  refine h.ag hAM (ZOK.of (fun b hb2 => ?_)) ?_ ?_ ?_
  · rcases hb2 with (y | y | (y | y | y)) | y
    · exact Or.inr (Or.inl (by omega))
    · exact Or.inr (Or.inl (by omega))
    · exact Or.inr (Or.inl (by omega))
    · exact Or.inr (Or.inl (by omega))
    · exact Or.inl y
    · exact Or.inr (Or.inr (by unfold ZM2 at y; omega))
  · rintro (y | y)
    · exact n50 y
    · unfold ZM2 at y
      omega
  · intro b hb2
    unfold RCell at hb2
    rintro ((y | y | y) | y)
    · omega
    · omega
    · have := y.no
      omega
    · unfold ZM2 at y
      omega
  · intro j hj
    unfold JG
    omega
theorem CI.m {S : SK} {m1 m2 : Nat → Nat → Int32} {g : Nat} {E : EN} {l : Nat} {q : QS} {J : Nat → Prop} {L : Nat → Nat → Int64} (h : CI S m1 g E l q) (hb : AgM ZM2 J m1 m2) : CI (sLg S L) m2 g E l q := by
  have hg := h.2.1.le
  have ag : Ag (fun b => 50 ≤ b ∧ b ≤ 75) m1 m2 := fun b hb2 => hb.1 b (by omega) (by unfold ZM2; omega)
  exact (h.ag ag (ZOK.of (fun b hb2 => Or.inr (Or.inr (by omega)))) (by omega) (by omega)).lg
theorem r0_2 {S : SK} {m : Nat → Nat → Int32} (hS : SkOK S) : gR (mk S m) 8 (some 0) 2 = some (some 3) := by
  rw [gR_k (by rw [sk0 hS]), rk0_2 hS]
theorem one_y {k n : Nat} (h : k < n) (hn : n < 2 ^ 31) : (if nI k < 0 then (0 : Int32) else if nI k < nI n then 1 else 0) = 1 := by
  rw [if_neg (nI_pos (by omega)), if_pos (nI_lt h hn)]
theorem one_n {x : Int32} {n : Nat} (h : x < 0 ∨ ¬ x < nI n) : (if x < 0 then (0 : Int32) else if x < nI n then 1 else 0) = 0 := by
  by_cases q : x < 0
  · rw [if_pos q]
  · rw [if_neg q, if_neg (h.resolve_left q)]
theorem C_isOne {S : SK} {m : Nat → Nat → Int32} {g : Nat} {E : EN} {l : Nat} {q : QS} (h : CI S m g E l q) (p : Int32) : f_X1_isOne (mk S m) (some g) p = some (if p < 0 then 0 else if p < nI (eP E) then 1 else 0, mk S m) := X1_isOne (GS_of h.1.1 h.2.1) h.2.2.1.2.2.2.1
theorem C_coinAt_no {S : SK} {m : Nat → Nat → Int32} {g : Nat} {E : EN} {l : Nat} {q : QS} (h : CI S m g E l q) {c : Int32} (hc : c < 0 ∨ ¬ c < nI (eN E)) : f_X1_coinAt (mk S m) (some g) c = some (none, mk S m) := X1_coinAt_no (GS_of h.1.1 h.2.1) h.2.2.1.2.2.2.2.2.1 hc
theorem MV.k {S : SK} {m : Nat → Nat → Int32} {E : EN} {l : Nat} {q : QS} (h : MV S m E l q) : (sh S 50).1 = 9 := by rw [sk50 h.1]
theorem nI_m5 : ¬ (nI 0 = (1 : Int32)) := by decide
theorem op_worth {S : SK} {m : Nat → Nat → Int32} (hR : RR S m) (p : Int32) : RES (f_X8_worth (mk S m) (some 0) p) (fun S1 m1 => f_X9_worth (mk S1 m1) (some 50) p) := by
  have hR0 := hR
  have hS := hR.ok
  have hk1 : (sh S 3).1 = 1 := by rw [sk3 hS]
  have hk : (sh S 50).1 = 9 := by rw [sk50 hS]
  obtain ⟨d, P, N, l, T, wh, kd, td, mo, prs, q, h⟩ := hR
  obtain ⟨hl, ⟨g1, g2, g3⟩, hO⟩ := h
  have hP : P ≤ 4 := g1.1.2.1.2.1
  rcases i_in p (show P < 2 ^ 31 by omega) with ⟨k, hkP, rfl⟩ | hno
  · obtain ⟨m1, e1, hC1, ag1⟩ := C_worth g1 (p := k) (by omega)
    have agJ : Ag (ZJ S) m m1 := ag1.mono (fun b hb => by
      rcases hb with y | y
      · exact Or.inl (by omega)
      · exact Or.inr (Or.inr y))
    have hM1 := g2.ofC agJ (fun b hb y => by have := y.no; omega)
    obtain ⟨L, m2, e2, hM2, ag2⟩ := M_worth hM1 (p := k) (by omega)
    have h37 : m2 50 37 = nI 0 := by
      rw [ag2.2 37 id, agJ 50 (fun y => by have := y.no; omega)]
      exact g3
    refine ⟨wthS (mkE d P N wh kd td mo (prs l)) q k, S, m1, sLg S L, m2, ?_, ?_, ⟨d, P, N, l, T, wh, kd, td, mo, prs, q, RP.q ⟨hl, ⟨g1, g2, g3⟩, hO⟩ agJ (ag2.mono (fun b hb => by unfold ZA at hb; unfold ZM; omega) (fun _ z => z.elim)) hM2 h37⟩, sk50 hS⟩
    · show f_X8_worth (mk S m) (some 0) (nI k) = _
      unfold f_X8_worth
      rw [r0_2 hS, Option.bind_some, vc_k hk1, C_isOne g1, one_y (show k < eP (mkE d P N wh kd td mo (prs l)) from hkP) (show P < 2 ^ 31 by omega), Option.bind_some, if_neg (show ¬ (1 : Int32) = 0 by decide)]
      rw [r0_2 hS, Option.bind_some, vc_k hk1, e1, Option.bind_some]
      rfl
    · show f_X9_worth (mk S m1) (some 50) (nI k) = _
      unfold f_X9_worth
      rw [vc_k hk, M_isOne hM1, one_y (show k < eP (mkE d P N wh kd td mo (prs l)) from hkP) (show P < 2 ^ 31 by omega), Option.bind_some, if_neg (show ¬ (1 : Int32) = 0 by decide), vc_k hk, e2, Option.bind_some]
      rfl
  · refine op_same (a := -100000) hR0 ?_ ?_
    · show f_X8_worth (mk S m) (some 0) p = _
      unfold f_X8_worth
      rw [r0_2 hS, Option.bind_some, vc_k hk1, C_isOne g1, one_n (show p < 0 ∨ ¬ p < nI (eP (mkE d P N wh kd td mo (prs l))) from hno), Option.bind_some, if_pos rfl]
      rfl
    · show f_X9_worth (mk S m) (some 50) p = _
      unfold f_X9_worth
      rw [vc_k hk, M_isOne g2, one_n (show p < 0 ∨ ¬ p < nI (eP (mkE d P N wh kd td mo (prs l))) from hno), Option.bind_some, if_pos rfl]
      rfl
theorem op_put {S : SK} {m : Nat → Nat → Int32} (hR : RR S m) (c : Int32) : RES (f_X8_put (mk S m) (some 0) c) (fun S1 m1 => f_X9_put (mk S1 m1) (some 50) c) := by
  have hR0 := hR
  have hS := hR.ok
  have hk1 : (sh S 3).1 = 1 := by rw [sk3 hS]
  have hk : (sh S 50).1 = 9 := by rw [sk50 hS]
  obtain ⟨d, P, N, l, T, wh, kd, td, mo, prs, q, h⟩ := hR
  obtain ⟨hl, ⟨g1, g2, g3⟩, hO⟩ := h
  generalize hE : mkE d P N wh kd td mo (prs l) = E at g1 g2
  have hN : eN E ≤ 7 := g1.1.2.1.2.2.1
  rcases i_in c (show eN E < 2 ^ 31 by omega) with ⟨k, hkN, rfl⟩ | hno
  · obtain ⟨A, c1, _⟩ := C_coinAt g1 hkN
    by_cases hcan : canS E q k = true
    · obtain ⟨m1, e1, hC1, ag1⟩ := C_put g1 hkN
      have agJ : Ag (ZC3 S) m m1 := ag1.mono (fun b hb => by
        rcases hb with y | y | y
        · exact Or.inl y
        · exact Or.inr (Or.inr (Or.inl (by omega)))
        · exact Or.inr (Or.inr (Or.inr (Or.inr y))))
      have n5 : ∀ b, 50 ≤ b ∧ b ≤ 75 → ¬ ZC3 S b := fun b hb y => by
        rcases y with y | y | y
        · omega
        · omega
        · have := y.no
          omega
      have hM1 := g2.ofC agJ n5
      obtain ⟨L, m2, e2, hM2, ag2⟩ := M_put hM1 hkN
      have h37 : m2 50 37 = nI 0 := by
        rw [ag2.2 37 (by unfold JQ; omega), agJ 50 (n5 50 (by omega))]
        exact g3
      have ag2' : AgM ZM2 JG m1 m2 := ag2.mono (fun b hb => by unfold ZA at hb; unfold ZM2; omega) (fun j hj => by unfold JQ at hj; unfold JG; omega)
      subst hE
      refine ⟨nI (if opS (mkE d P N wh kd td mo (prs l)) q k = true then 1 else 0), S, m1, sLg S L, m2, ?_, ?_, ⟨d, P, N, l, T, wh, kd, td, mo, prs, putS (mkE d P N wh kd td mo (prs l)) q k, hl, ⟨hC1.m ag2', hM2, h37⟩, hO.g agJ ag2'⟩, sk50 hS⟩
      · show f_X8_put (mk S m) (some 0) (nI k) = _
        unfold f_X8_put
        rw [r0_2 hS, Option.bind_some, vc_k hk1, c1, Option.bind_some, if_neg (by simp)]
        rw [r0_2 hS, Option.bind_some, vc_k hk1, C_mayPut g1 hkN, Option.bind_some, hcan, if_neg (show ¬ nI (if true = true then 1 else 0) = (0 : Int32) by decide)]
        rw [r0_2 hS, Option.bind_some, vc_k hk1, e1, Option.bind_some]
        cases opS (mkE d P N wh kd td mo (prs l)) q k <;> rfl
      · show f_X9_put (mk S m1) (some 50) (nI k) = _
        unfold f_X9_put
        rw [vc_k hk, M_isCoin hM1, one_y hkN (by omega), Option.bind_some, if_neg (show ¬ (1 : Int32) = 0 by decide), vc_k hk, M_canPut hM1 hkN, Option.bind_some, hcan, if_neg (show ¬ nI (if true = true then 1 else 0) = (0 : Int32) by decide), vc_k hk, e2, Option.bind_some]
        cases opS (mkE d P N wh kd td mo (prs l)) q k <;> rfl
    · have hcan' : canS E q k = false := by simpa using hcan
      refine op_same (a := -3) hR0 ?_ ?_
      · show f_X8_put (mk S m) (some 0) (nI k) = _
        unfold f_X8_put
        rw [r0_2 hS, Option.bind_some, vc_k hk1, c1, Option.bind_some, if_neg (by simp)]
        rw [r0_2 hS, Option.bind_some, vc_k hk1, C_mayPut g1 hkN, Option.bind_some, hcan', if_pos (show nI (if false = true then 1 else 0) = (0 : Int32) from rfl)]
      · show f_X9_put (mk S m) (some 50) (nI k) = _
        unfold f_X9_put
        rw [vc_k hk, M_isCoin g2, one_y hkN (by omega), Option.bind_some, if_neg (show ¬ (1 : Int32) = 0 by decide), vc_k hk, M_canPut g2 hkN, Option.bind_some, hcan', if_pos (show nI (if false = true then 1 else 0) = (0 : Int32) from rfl)]
  · refine op_same (a := -5) hR0 ?_ ?_
    · show f_X8_put (mk S m) (some 0) c = _
      unfold f_X8_put
      rw [r0_2 hS, Option.bind_some, vc_k hk1, C_coinAt_no g1 hno, Option.bind_some, if_pos rfl]
    · show f_X9_put (mk S m) (some 50) c = _
      unfold f_X9_put
      rw [vc_k hk, M_isCoin g2, one_n hno, Option.bind_some, if_pos rfl]
