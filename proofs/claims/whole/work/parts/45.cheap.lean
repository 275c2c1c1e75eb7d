/-! PURE: the cheapest way in, both sides -/
def chS (E : EN) (set : Nat) (q : QS) : BW := waysS E set 12 q 0 0 0 none
theorem C_cheapest {S : SK} {m : Nat → Nat → Int32} {E : EN} {l set g : Nat} {q : QS} (hset : set < 2 ^ 31) (h : CI S m g E l q) (hg : g ≠ 15) :
    ∃ m2, f_X7_cheapest (mk S m) (some 14) (some g) (nI set) = some (bO (fun x => x.1) (chS E set q), mk S m2) ∧ (∀ x, chS E set q = some x → m2 14 5 = nI x.2.2) ∧ BOK (chS E set q) ∧ Ag (fun b => ZW S b ∨ b = 16) m m2 := by
  have hS := h.1.1
  have hk7 : (sh S 14).1 = 7 := by rw [sk14 hS]
  have hk1 : (sh S 15).1 = 1 := by rw [sk15 hS]
  have hk2 : (sh S 12).1 = 2 := by rw [sk12 hS]
  obtain ⟨m1, e1, hC1, ag1⟩ := C_become h (g := 15) (Or.inr (Or.inr (Or.inr (Or.inl rfl)))) (fun z => hg z.symm)
  obtain ⟨m2, e2, hf2, ag2⟩ := X2_forget hS m1
  let m3 := w2 (w2 m2 14 2 (nI set)) 14 3 (-1)
  have ag3 : Ag (fun b => b = 13 ∨ b = 14) m1 m3 := ((Ag.mono (Z2 := fun b => b = 13 ∨ b = 14) ag2 (fun b hb => Or.inl hb)).w2 (Or.inr rfl)).w2 (Or.inr rfl)
  have hC3 : CI S m3 15 E l q := hC1.ag ag3 (ZOK.of (fun b hb => Or.inr (Or.inl (by omega)))) (by omega) (by omega)
  have e13 : ∀ i, i < 1024 → m3 13 i = -1 := by
    intro i hi
    show w2 (w2 m2 14 2 (nI set)) 14 3 (-1) 13 i = -1
    rw [w2_ap, if_neg (by simp), w2_ap, if_neg (by simp)]
    exact hf2 i hi
  have hq := h.2.2.2
  have hE := h.1.2.1
  obtain ⟨m4, e4, hC4, h24, hB4, hb4, _, _, ag4⟩ := C_ways (q0 := q) hset 12 m3 q 0 0 0 none rfl hC3 rfl ⟨rfl, fun x hx => by cases hx⟩ (fun x hx => by cases hx) (rq_0 hq) (fun x hx => by cases hx) (fun r d2 co2 r1 r2 r3 => by
    have l2 := key_lt hE r1.1
    rw [e13 _ (sl_lt _)] at r3
    exact absurd r3.symm (n_m1 _ (by omega)))
  refine ⟨m4, ?_, hB4.2, hb4, ?_⟩
  · unfold f_X7_cheapest
    rw [gR_k hk7, rk14_0 hS, Option.bind_some, vc_k hk1, e1, Option.bind_some, gR_k hk7, rk14_1 hS, Option.bind_some, vc_k hk2, e2, Option.bind_some, pI_k hk7, Option.bind_some, pI_k hk7, Option.bind_some, vc_k hk7]
    show (f_X7_goOn 12 (mk S m3) (some 14) (nI 0) (nI 0) (nI 0)).bind _ = _
    rw [e4, Option.bind_some, gI_k hk7, Option.bind_some, hB4.1]
    rfl
  · refine ((ag1.mono (fun b hb => ?_)).tr (ag3.mono (fun b hb => ?_))).tr (ag4.mono (fun b hb => Or.inl hb))
    · rcases hb with e | e
      · exact Or.inl (Or.inr (Or.inr (Or.inl e)))
      · exact Or.inr (by omega)
    · rcases hb with e | e
      · exact Or.inl (Or.inl e)
      · exact Or.inl (Or.inr (Or.inl e))
theorem M_finds {S : SK} {m : Nat → Nat → Int32} {E : EN} {l set : Nat} {q : QS} (hset : set < 2 ^ 31) (h : MV S m E l q) :
    ∃ L m2, f_X9_findsCheapest (mk S m) (some 50) (nI set) = some (mk (sLg S L) m2) ∧ MV (sLg S L) m2 E l q ∧ BM m2 (chS E set q) ∧ BOK (chS E set q) ∧ AgM ZB JW m m2 ∧ ∀ j, 32 ≤ j → m2 70 j = m 70 j := by
  have hS := h.1
  have hk : (sh S 50).1 = 9 := by rw [sk50 hS]
  have hN := h.2.1.2.2.1
  have hfr := fr_le E q
  have ag1 : AgM (fun _ => False) (fun j => j = 39 ∨ j = 40 ∨ j = 41) m (w2 (w2 (w2 m 50 39 (-1)) 50 40 (-1)) 50 41 (-1)) := (((AgM.rf.w50 (by omega)).w50 (by omega)).w50 (by omega))
  have h1 := h.ag ag1 (fun _ _ => id) (fun j hj => by omega)
  obtain ⟨L, m2, e2, hM2, hB2, hb2, ag2, hk2⟩ := M_ways hset 12 S (w2 (w2 (w2 m 50 39 (-1)) 50 40 (-1)) 50 41 (-1)) q 0 0 0 none h1 ⟨rfl, rfl, rfl⟩ (fun x hx => by cases hx) (by omega) (by omega) (by omega)
  refine ⟨L, m2, ?_, hM2, hB2, hb2, (ag1.mono (fun _ z => z.elim) (fun j hj => by unfold JW; omega)).tr ag2, ?_⟩
  · unfold f_X9_findsCheapest
    rw [pI_k hk, Option.bind_some, pI_k hk, Option.bind_some, pI_k hk, Option.bind_some, vc_k hk]
    show (f_X9_waysIn 12 (mk S (w2 (w2 (w2 m 50 39 (-1)) 50 40 (-1)) 50 41 (-1))) (some 50) (nI set) (nI 0) (nI 0) (nI 0)).bind _ = _
    rw [e2, Option.bind_some]
  · intro j hj
    rw [hk2 j (Or.inr hj), ag1.1 70 (by decide) id]
