/-! PURE: calls: text -/
theorem CdM.agR {m m2 : Nat → Nat → Int32} {C : Nat} : ∀ {cs : List Nat} {i : Nat}, CdM m C i cs → (∀ j, i ≤ j → j < i + cs.length → m2 C j = m C j) → CdM m2 C i cs
  | [], _, _, _ => trivial
  | c :: cs, i, h, e => by
    have hl : (c :: cs).length = cs.length + 1 := rfl
    exact ⟨by rw [e i (Nat.le_refl _) (by omega)]; exact h.1, h.2.agR (fun j h1 h2 => e j (by omega) (by omega))⟩
theorem CdC.cpy {m m2 : Nat → Nat → Int32} {C C2 : Nat} : ∀ {cs : List Nat} {i : Nat}, CdC m C i cs → (∀ j, i ≤ j → j < i + cs.length → m2 C2 j = m C j) → CdC m2 C2 i cs
  | [], _, _, _ => trivial
  | c :: cs, i, h, e => by
    have hl : (c :: cs).length = cs.length + 1 := rfl
    exact ⟨by rw [e i (Nat.le_refl _) (by omega)]; exact h.1, h.2.cpy (fun j h1 h2 => e j (by omega) (by omega))⟩
theorem TxM.old {m m2 : Nat → Nat → Int32} {t T : Nat} {pr : Nat → List Nat} {fr : Nat → Nat} (h : TxM m t pr fr) (ht : t < T) (h1 : ∀ j, j < 200 * T → m2 56 j = m 56 j) (h2 : ∀ j, j < 4 * T → m2 57 j = m 57 j) : TxM m2 t pr fr := by
  intro p hp
  obtain ⟨a1, a2, a3, a4, a5⟩ := h p hp
  refine ⟨a1, a2.agR (fun j b1 b2 => h1 j (by omega)), ?_, ?_, a5⟩
  · rw [h2 _ (by omega)]; exact a3
  · rw [h2 _ (by omega)]; exact a4
/-- a text's three parts and where they begin -/
def prT (cs1 cs2 cs3 : List Nat) : Nat → List Nat := fun p => if p = 0 then cs1 else if p = 1 then cs2 else cs3
def frT (cs1 cs2 : List Nat) : Nat → Nat := fun p => if p = 0 then 0 else if p = 1 then cs1.length else (cs1 ++ cs2).length
theorem wfP.ok {cs : List Nat} (h : wfP cs) : wfS cs 0 = some 1 := by
  have := h 0 []
  rw [List.append_nil] at this
  exact this
theorem TxC.of {m : Nat → Nat → Int32} {A : Nat} {cs1 cs2 cs3 : List Nat} (w1 : wfP cs1) (w2 : wfP cs2) (w3 : wfP cs3) (h : CdC m (A + 1) 0 (cs1 ++ cs2 ++ cs3)) (h0 : m (A + 2) 0 = nI 0) (h1 : m (A + 2) 1 = nI cs1.length) (h2 : m (A + 2) 2 = nI (cs1 ++ cs2).length) (h3 : m (A + 2) 3 = nI (cs1 ++ cs2 ++ cs3).length) : TxC m A (cs1 ++ cs2 ++ cs3).length (prT cs1 cs2 cs3) (frT cs1 cs2) := by
  have l2 : (cs1 ++ cs2).length = cs1.length + cs2.length := List.length_append
  have l3 : (cs1 ++ cs2 ++ cs3).length = (cs1 ++ cs2).length + cs3.length := List.length_append
  obtain ⟨g1, g3⟩ := CdC.app.1 h
  obtain ⟨g1, g2⟩ := CdC.app.1 g1
  rw [Nat.zero_add] at g2 g3
  intro p hp
  rcases (show p = 0 ∨ p = 1 ∨ p = 2 by omega) with rfl | rfl | rfl
  · refine ⟨w1.ok, g1, h0, ?_, ?_⟩
    · show m (A + 2) 1 = nI (0 + cs1.length)
      rw [Nat.zero_add]; exact h1
    · show 0 + cs1.length ≤ _
      omega
  · refine ⟨w2.ok, g2, h1, ?_, ?_⟩
    · show m (A + 2) 2 = nI (cs1.length + cs2.length)
      rw [← l2]; exact h2
    · show cs1.length + cs2.length ≤ _
      omega
  · refine ⟨w3.ok, g3, h2, ?_, ?_⟩
    · show m (A + 2) 3 = nI ((cs1 ++ cs2).length + cs3.length)
      rw [← l3]; exact h3
    · show (cs1 ++ cs2).length + cs3.length ≤ _
      omega
theorem TxM.of {m : Nat → Nat → Int32} {t : Nat} {cs1 cs2 cs3 : List Nat} (w1 : wfP cs1) (w2 : wfP cs2) (w3 : wfP cs3) (h : CdM m 56 (200 * t) (cs1 ++ cs2 ++ cs3)) (h0 : m 57 (4 * t) = nI 0) (h1 : m 57 (4 * t + 1) = nI cs1.length) (h2 : m 57 (4 * t + 2) = nI (cs1 ++ cs2).length) (h3 : m 57 (4 * t + 3) = nI (cs1 ++ cs2 ++ cs3).length) (hl : (cs1 ++ cs2 ++ cs3).length ≤ 160) : TxM m t (prT cs1 cs2 cs3) (frT cs1 cs2) := by
  have l2 : (cs1 ++ cs2).length = cs1.length + cs2.length := List.length_append
  have l3 : (cs1 ++ cs2 ++ cs3).length = (cs1 ++ cs2).length + cs3.length := List.length_append
  obtain ⟨g1, g3⟩ := CdM.app.1 h
  obtain ⟨g1, g2⟩ := CdM.app.1 g1
  intro p hp
  rcases (show p = 0 ∨ p = 1 ∨ p = 2 by omega) with rfl | rfl | rfl
  · refine ⟨w1.ok, g1, h0, ?_, ?_⟩
    · show m 57 (4 * t + 1) = nI (0 + cs1.length)
      rw [Nat.zero_add]; exact h1
    · show 0 + cs1.length ≤ _
      omega
  · refine ⟨w2.ok, g2, h1, ?_, ?_⟩
    · show m 57 (4 * t + 2) = nI (cs1.length + cs2.length)
      rw [← l2]; exact h2
    · show cs1.length + cs2.length ≤ _
      omega
  · refine ⟨w3.ok, g3, h2, ?_, ?_⟩
    · show m 57 (4 * t + 3) = nI ((cs1 ++ cs2).length + cs3.length)
      rw [← l3]; exact h3
    · show (cs1 ++ cs2).length + cs3.length ≤ _
      omega
/-- a refused text changes nothing of what both hold but the tape -/
theorem RP.bad {S : SK} {m m2 : Nat → Nat → Int32} {d P N l T : Nat} {wh kd td mo : Nat → Nat} {prs : Nat → Nat → List Nat} {q : QS} (h : RP S m d P N l T wh kd td mo prs q) (ha : Ag (fun b => b = 33 ∨ b = 35 ∨ b = 36 ∨ b = 50 ∨ b = 56 ∨ b = 57 ∨ b = 65) m m2) (h50 : ∀ j, ¬ (j = 12 ∨ j = 15 ∨ (24 ≤ j ∧ j ≤ 27) ∨ (30 ≤ j ∧ j ≤ 32)) → m2 50 j = m 50 j) (h56 : ∀ j, j < 200 * T → m2 56 j = m 56 j) (h57 : ∀ j, j < 4 * T → m2 57 j = m 57 j) (h33 : m2 33 3 = nI 0) (h12 : m2 50 12 = nI 0) (h15 : m2 50 15 = nI T) (h36 : m2 36 0 = m 36 0) : RP S m2 d P N l T wh kd td mo prs q := by
  obtain ⟨hl, ⟨g1, g2, g3⟩, hO⟩ := h
  obtain ⟨⟨t1, t2, t3, t4, t5⟩, hI, hSh, _, hWd, hAd⟩ := hO
  have hz : ZOK S (fun b => b = 33 ∨ b = 35 ∨ b = 36 ∨ b = 50 ∨ b = 56 ∨ b = 57 ∨ b = 65) := ZOK.of (fun b hb => by omega)
  have e := fun b (hb : ¬ (b = 33 ∨ b = 35 ∨ b = 36 ∨ b = 50 ∨ b = 56 ∨ b = 57 ∨ b = 65)) => ha b hb
  have hold : ∀ t, t < T → ∃ fr, TxM m2 t (prs t) fr := fun t ht => by
    obtain ⟨_, fr, w⟩ := t5 t ht
    exact ⟨fr, w.old ht h56 h57⟩
  refine ⟨hl, ⟨g1.ag ha hz (by omega) (by omega), ?_, by rw [h50 37 (by omega)]; exact g3⟩, ⟨t1, t2, by rw [e 0 (by omega)]; exact t3, h15, fun t ht => ⟨(t5 t ht).1.ag ha hz.2, hold t ht⟩⟩, ?_, hSh.e (fun b hb => e b (by omega)), ⟨0, by decide, h33, h12, fun k hk => by omega⟩, ⟨fun k hk => by rw [e 64 (by omega)]; exact hWd.1 k hk, by rw [h36]; exact hWd.2⟩, hAd⟩
  · obtain ⟨hS, hE, hl6, ⟨d0, d1, d2, d3, d4, d5, d10, d16, arr, _⟩, hq, _⟩ := g2
    refine ⟨hS, hE, hl6, ⟨by rw [h50 0 (by omega)]; exact d0, by rw [h50 1 (by omega)]; exact d1, by rw [h50 2 (by omega)]; exact d2, by rw [h50 3 (by omega)]; exact d3, by rw [h50 4 (by omega)]; exact d4, by rw [h50 5 (by omega)]; exact d5, by rw [h50 10 (by omega)]; exact d10, by rw [h50 16 (by omega)]; exact d16, fun k hk => ?_, hold l hl⟩, hq, Or.inl (by rw [h50 37 (by omega)]; exact g3)⟩
    rw [e 51 (by omega), e 52 (by omega), e 53 (by omega), e 54 (by omega)]
    exact arr k hk
  · unfold RIm at hI ⊢
    rw [e 0 (by omega), h50 17 (by omega), e 58 (by omega), e 59 (by omega)]
    rcases hI with y | ⟨y1, y2, d2, P2, N2, wh2, l2, q2, y3, y4⟩
    · exact Or.inl y
    · exact Or.inr ⟨y1, y2, d2, P2, N2, wh2, l2, q2, y3.ag ha hz (by omega) (by omega), y4⟩
theorem op_text {S : SK} {m : Nat → Nat → Int32} (hR : RR S m) : RES (f_X8_text (mk S m) (some 0)) (fun S1 m1 => f_X9_text (mk S1 m1) (some 50)) := by
  have hR0 := hR
  have hS := hR.ok
  have hk8 : (sh S 0).1 = 8 := by rw [sk0 hS]
  have hk1 : (sh S 3).1 = 1 := by rw [sk3 hS]
  have hk : (sh S 50).1 = 9 := by rw [sk50 hS]
  obtain ⟨d, P, N, l, T, wh, kd, td, mo, prs, q, h⟩ := hR
  obtain ⟨hl, ⟨g1, g2, g3⟩, hO⟩ := h
  have hP : RP S m d P N l T wh kd td mo prs q := ⟨hl, ⟨g1, g2, g3⟩, hO⟩
  obtain ⟨⟨t1, t2, t3, t4, t5⟩, hI, hSh, ⟨n, hn, z1, z2, z3⟩, hWd, hAd⟩ := id hO
  have hk3 : (sh S 33).1 = 3 := by rw [sk33 hS]
  have h76 := hS.2.2
  by_cases c6 : T = 6
  · refine op_same (a := -4) hR0 ?_ ?_
    · unfold f_X8_text
      rw [gI_k hk8, Option.bind_some, t3, c6, if_neg (show ¬ nI 6 < (6 : Int32) by decide)]
    · show f_X9_text (mk S m) (some 50) = _
      unfold f_X9_text
      rw [gI_k hk, Option.bind_some, t4, c6, if_pos (show nI 6 = (6 : Int32) from rfl)]
  have hT6 : T < 6 := by omega
  obtain ⟨tp, htp⟩ : ∃ tp : Nat → Nat, ∀ k, k < n → m 34 k = nI (tp k) ∧ tp k ≤ 255 := by
    refine ⟨fun k => (m 34 k).toNatClampNeg, fun k hk => ?_⟩
    obtain ⟨_, b, b1, b2⟩ := z3 k hk
    show m 34 k = nI ((m 34 k).toNatClampNeg) ∧ (m 34 k).toNatClampNeg ≤ 255
    rw [b2, nI_clamp (by omega)]
    exact ⟨rfl, b1⟩
  have hTc : TPc m n tp := ⟨z1, hn, htp⟩
  obtain ⟨m1, f1, f2, f3⟩ := C_read hS.rd hTc
  have tpm : ∀ m' : Nat → Nat → Int32, m' 50 12 = m 50 12 → m' 55 = m 55 → m' 64 = m 64 → TPm m' n tp := fun m' e1 e2 e3 => by
    refine ⟨by rw [e1]; exact z2, hn, fun k hk => ?_, fun k hk => ?_⟩
    · rw [e2, (z3 k hk).1]
      exact htp k hk
    · rw [e3]
      exact hWd.1 k hk
  have ex : f_X8_text (mk S m) (some 0) = ((f_X3_readText (mk S m) (some 33)).bind fun q3 => if q3.1 = none then ((gR q3.2 8 (some 0) 7).bind fun v4 => (gI q3.2 3 v4 4).bind fun v5 => some (((-100 : Int32)) - v5, q3.2)) else ((gR q3.2 8 (some 0) 1).bind fun v6 => (gI q3.2 8 (some 0) 9).bind fun v7 => (sR 13 5 q3.2 v6 v7 q3.1).bind fun h8 => (gI h8 8 (some 0) 9).bind fun v9 => (pI h8 8 (some 0) 9 (v9 + ((1 : Int32)))).bind fun h10 => (gI h10 8 (some 0) 9).bind fun v11 => some (v11 - ((1 : Int32)), h10))) := by
    unfold f_X8_text
    rw [gI_k hk8, Option.bind_some, t3, if_pos (show nI T < (6 : Int32) from nI_lt (b := 6) hT6 (by decide)), gR_k hk8, Option.bind_some, rk0_7 hS, vc_k hk3]
  rcases f3 with ⟨cs1, cs2, cs3, u1, w1, w2', w3, ul, u2, u3, u4, u5, u6, u7⟩ | ⟨p, u1, u2, u3⟩
  · obtain ⟨S2, m2, v1, v2, v3, v4, v5, v6, v7, v8⟩ := C_make hS.rd u3 (by omega)
    have hA5 : (sh S2 S.1).1 = 5 := by rw [v4.1]
    have hs2 : sh S2 2 = (13, 6) := by rw [(v3 2 (by omega)).1]; exact sk2 hS
    have hk82 : (sh S2 0).1 = 8 := by rw [(v3 0 (by omega)).1]; exact hk8
    have m20 : m2 0 = m 0 := by
      rw [v5 0 (by omega) (by decide)]
      exact funext fun j => f1 0 j (by decide) (by decide) (Or.inl (by decide))
    obtain ⟨S3, hS3⟩ : ∃ S3 : SK, S3 = (S2.1, S2.2.1, S2.2.2.1, w2 S2.2.2.2 2 T (some S.1)) := ⟨_, rfl⟩
    have hsr : sR 13 5 (mk S2 m2) (some 2) (nI T) (some S.1) = some (mk S3 m2) := by
      unfold sR
      rw [Option.bind_some, Option.bind_some, xs_mk, hs2, if_pos ⟨⟨rfl, hA5⟩, ixN hT6 (by decide)⟩, nI_clamp (by omega), hS3]
      rfl
    have sh3 : ∀ b, sh S3 b = sh S2 b := fun b => by rw [hS3]; rfl
    have rf3 : ∀ b j, b ≠ 2 ∨ j ≠ T → rf S3 b j = rf S2 b j := fun b j hb => by
      rw [hS3]
      show w2 S2.2.2.2 2 T (some S.1) b j = _
      rw [w2_ap, if_neg (by omega)]
      rfl
    have hG : GrT S S3 (cs1 ++ cs2 ++ cs3).length T := by
      refine ⟨by rw [hS3]; exact v2, fun b hb => ?_, fun b j hb hj => ?_, ?_, ?_⟩
      · rw [sh3, (v3 b hb).1]
      · rw [rf3 b j hj, (v3 b hb).2]
      · obtain ⟨x1, x2, x3, x4, x5, x6, x7, x8⟩ := v4
        refine ⟨by rw [sh3]; exact x1, ?_, ?_, ?_, by rw [sh3]; exact x5, by rw [sh3]; exact x6, by rw [sh3]; exact x7, x8⟩
        · rw [rf3 _ _ (Or.inl (by omega))]; exact x2
        · rw [rf3 _ _ (Or.inl (by omega))]; exact x3
        · rw [rf3 _ _ (Or.inl (by omega))]; exact x4
      · rw [hS3]
        show w2 S2.2.2.2 2 T (some S.1) 2 T = _
        rw [w2_ap, if_pos ⟨rfl, rfl⟩]
    have hOK3 := gt_ok hS hG t1
    have hk83 : (sh S3 0).1 = 8 := by rw [sh3]; exact hk82
    obtain ⟨m3, hm3⟩ : ∃ m3, m3 = w2 m2 0 9 (nI (T + 1)) := ⟨_, rfl⟩
    have ec : f_X8_text (mk S m) (some 0) = some (nI T, mk S3 m3) := by
      rw [ex, u7, v1, Option.bind_some, if_neg (by intro y; cases y)]
      show ((gR (mk S2 m2) 8 (some 0) 1).bind fun v6 => (gI (mk S2 m2) 8 (some 0) 9).bind fun v7 => (sR 13 5 (mk S2 m2) v6 v7 (some S.1)).bind fun h8 => (gI h8 8 (some 0) 9).bind fun v9 => (pI h8 8 (some 0) 9 (v9 + ((1 : Int32)))).bind fun h10 => (gI h10 8 (some 0) 9).bind fun v11 => some (v11 - ((1 : Int32)), h10)) = _
      rw [gR_k hk82, Option.bind_some, (v3 0 (by omega)).2, rk0_1 hS, gI_k hk82, Option.bind_some, m20, t3, hsr, Option.bind_some, gI_k hk83, Option.bind_some, m20, t3, pI_k hk83, Option.bind_some, gI_k hk83, Option.bind_some, w2_ap, if_pos ⟨rfl, rfl⟩, show nI T + (1 : Int32) = nI (T + 1) from nI_add T 1, show nI (T + 1) - (1 : Int32) = nI T from by
        rw [show (1 : Int32) = nI 1 from rfl, pk_sub (by omega)]
        rfl, hm3]
    have e3 : ∀ b, b < S.1 → b ≠ 0 → b ≠ 33 → b ≠ 35 → b ≠ 36 → m3 b = m b := fun b h1 h2 h3 h4 h5 => by
      rw [hm3, w2_ne h2, v5 b h1 h3]
      exact funext fun j => f1 b j h3 h4 (Or.inl h5)
    obtain ⟨m4, y1, y2, y3⟩ := M_text hOK3 (tpm m3 (by rw [e3 50 (by omega) (by decide) (by decide) (by decide) (by decide)]) (e3 55 (by omega) (by decide) (by decide) (by decide) (by decide)) (e3 64 (by omega) (by decide) (by decide) (by decide) (by decide))) (show m3 50 15 = nI T by rw [e3 50 (by omega) (by decide) (by decide) (by decide) (by decide)]; exact t4) hT6 u1
    rcases y3 with ⟨p, g, _⟩ | ⟨x1, x2, x3, g, y4, y5, y6, y7, y8, y9, y10, y11⟩
    · cases g
    have hx := Sum.inl.inj g
    have hx1 : x1 = cs1 := (congrArg Prod.fst hx).symm
    have hx2 : x2 = cs1 ++ cs2 := (congrArg (fun z => z.2.1) hx).symm
    have hx3 : x3 = cs1 ++ cs2 ++ cs3 := (congrArg (fun z => z.2.2) hx).symm
    subst hx1 hx2 hx3
    have e4 : ∀ b, b ≠ 65 → b ≠ 50 → b ≠ 56 → b ≠ 57 → m4 b = m3 b := fun b h1 h2 h3 h4 => funext fun j => y1 b j h1 (Or.inl h2) (Or.inl h3) (Or.inl h4)
    have hKeep : KeepT S m m4 := fun b h1 h2 => by
      rw [e4 b (by omega) (by omega) (by omega) (by omega), e3 b h1 (by omega) (by omega) (by omega) (by omega)]
    have j50 : ∀ j, ¬ (j = 12 ∨ j = 15 ∨ (24 ≤ j ∧ j ≤ 27) ∨ (30 ≤ j ∧ j ≤ 32)) → m4 50 j = m 50 j := fun j hj => by
      rw [y1 50 j (by decide) (Or.inr hj) (Or.inl (by decide)) (Or.inl (by decide)), e3 50 (by omega) (by decide) (by decide) (by decide) (by decide)]
    have hold : ∀ t, t < T → ∃ fr, TxM m4 t (prs t) fr := fun t ht => by
      obtain ⟨_, fr, w⟩ := t5 t ht
      refine ⟨fr, w.old ht (fun j hj => ?_) (fun j hj => ?_)⟩
      · rw [y1 56 j (by decide) (Or.inl (by decide)) (Or.inr hj) (Or.inl (by decide)), e3 56 (by omega) (by decide) (by decide) (by decide) (by decide)]
      · rw [y1 57 j (by decide) (Or.inl (by decide)) (Or.inl (by decide)) (Or.inr hj), e3 57 (by omega) (by decide) (by decide) (by decide) (by decide)]
    have a40 : m4 0 = w2 m2 0 9 (nI (T + 1)) 0 := by rw [e4 0 (by decide) (by decide) (by decide) (by decide), hm3]
    have big : ∀ b, S.1 ≤ b → m4 b = m2 b := fun b hb => by
      rw [e4 b (by omega) (by omega) (by omega) (by omega), hm3, w2_ne (by omega)]
    have f35 : m2 36 0 = nI 0 := by
      rw [v5 36 (by omega) (by decide), f1 36 0 (by decide) (by decide) (Or.inr rfl)]
      exact hWd.2
    have hTx : TxC m4 S.1 (x1 ++ cs2 ++ cs3).length (prT x1 cs2 cs3) (frT x1 cs2) := by
      refine TxC.of w1 w2' w3 (u2.cpy (fun j _ hj => ?_)) ?_ ?_ ?_ ?_
      · rw [big _ (by omega), v7 j (by omega)]
      · rw [big _ (by omega), v8 0 (by omega), f1 36 0 (by decide) (by decide) (Or.inr rfl)]
        exact hWd.2
      · rw [big _ (by omega), v8 1 (by omega)]; exact u4
      · rw [big _ (by omega), v8 2 (by omega)]; exact u5
      · rw [big _ (by omega), v8 3 (by omega)]; exact u6
    have hnew : CText S3 m4 T (prT x1 cs2 cs3) := ⟨S.1, _, _, hG.2.2.2.2, hG.2.2.2.1, Or.inr h76, hTx⟩
    have hnewM : ∃ fr, TxM m4 T (prT x1 cs2 cs3) fr := ⟨_, TxM.of w1 w2' w3 y5 y6 y7 y8 y9 y10⟩
    refine op_mk (a := nI T) (S1 := S3) (m1 := m3) (S2 := S3) (m2 := m4) ec y11 ⟨d, P, N, l, T + 1, wh, kd, td, mo, (fun t => if t = T then prT x1 cs2 cs3 else prs t), q, by omega, ⟨?_, ?_, ?_⟩, ?_⟩
    · show CI S3 m4 3 (mkE d P N wh kd td mo (if l = T then prT x1 cs2 cs3 else prs l)) l q
      rw [if_neg (show ¬ l = T by omega)]
      exact g1.growT hG hKeep (fun k A hk hA => hAd.1 k A hk hA) (fun A hA => hAd.2 l A hl hA) hl
    · show MV S3 m4 (mkE d P N wh kd td mo (if l = T then prT x1 cs2 cs3 else prs l)) l q
      rw [if_neg (show ¬ l = T by omega)]
      exact g2.growT hG t1 (by rw [j50 37 (by omega)]; exact g3) (fun b hb => hKeep b (by omega) (by omega)) (fun j hj => j50 j (by omega)) (hold l hl)
    · rw [j50 37 (by omega)]; exact g3
    · refine hO.growT hS hG hT6 hKeep ?_ ?_ y4 (j50 17 (by omega)) hold hnew hnewM ⟨0, by decide, ?_, y2, fun k hk => by omega⟩ ?_
      · rw [a40, w2_ap, if_pos ⟨rfl, rfl⟩]
      · rw [a40, w2_ap, if_neg (by omega), m20]
      · rw [e4 33 (by decide) (by decide) (by decide) (by decide), hm3, w2_ne (by decide)]
        exact v6
      · rw [e4 36 (by decide) (by decide) (by decide) (by decide), hm3, w2_ne (by decide)]
        exact f35
  · have e64 : f_X3_readText_64 (mk S m1) (some 33) 0 = some (none, mk S (w2 (w2 m1 33 4 (m1 33 6)) 33 3 0)) := by
      unfold f_X3_readText_64 f_X3_readText_112
      rw [gI_k hk3, Option.bind_some, pI_k hk3, Option.bind_some, pI_k hk3, Option.bind_some, if_pos rfl]
    have q4 : w2 (w2 m1 33 4 (m1 33 6)) 33 3 0 33 4 = nI (tpP tp n p) := by
      rw [w2_ap, if_neg (by omega), w2_ap, if_pos ⟨rfl, rfl⟩]
      exact u2
    have q3 : w2 (w2 m1 33 4 (m1 33 6)) 33 3 0 33 3 = nI 0 := by rw [w2_ap, if_pos ⟨rfl, rfl⟩]; rfl
    have qe : ∀ b, b ≠ 33 → w2 (w2 m1 33 4 (m1 33 6)) 33 3 0 b = m1 b := fun b hb => by rw [w2_ne hb, w2_ne hb]
    generalize w2 (w2 m1 33 4 (m1 33 6)) 33 3 0 = m3 at *
    have ec : f_X8_text (mk S m) (some 0) = some (((-100 : Int32)) - nI (tpP tp n p), mk S m3) := by
      rw [ex, u3, e64, Option.bind_some, if_pos rfl]
      show ((gR (mk S m3) 8 (some 0) 7).bind fun v4 => (gI (mk S m3) 3 v4 4).bind fun v5 => some (((-100 : Int32)) - v5, mk S m3)) = _
      rw [gR_k hk8, Option.bind_some, rk0_7 hS, gI_k hk3, Option.bind_some, q4]
    have e3 : ∀ b, b ≠ 33 → b ≠ 35 → b ≠ 36 → m3 b = m b := fun b h1 h2 h3 => by
      rw [qe b h1]
      exact funext fun j => f1 b j h1 h2 (Or.inl h3)
    obtain ⟨m4, y1, y2, y3⟩ := M_text hS (tpm m3 (by rw [e3 50 (by decide) (by decide) (by decide)]) (e3 55 (by decide) (by decide) (by decide)) (e3 64 (by decide) (by decide) (by decide))) (show m3 50 15 = nI T by rw [e3 50 (by decide) (by decide) (by decide)]; exact t4) hT6 u1
    rcases y3 with ⟨p', g, y4, y5⟩ | ⟨x1, x2, x3, g, _⟩
    rotate_left
    · cases g
    have hp' := Sum.inr.inj g
    subst hp'
    refine op_mk (a := (-100 : Int32) - nI (tpP tp n p)) (S1 := S) (m1 := m3) (S2 := S) (m2 := m4) ec y5 ⟨d, P, N, l, T, wh, kd, td, mo, prs, q, hP.bad ?_ ?_ ?_ ?_ ?_ y2 y4 ?_⟩
    · intro b hb
      rw [show m4 b = m3 b from funext fun j => y1 b j (by omega) (Or.inl (by omega)) (Or.inl (by omega)) (Or.inl (by omega)), e3 b (by omega) (by omega) (by omega)]
    · intro j hj
      rw [y1 50 j (by decide) (Or.inr hj) (Or.inl (by decide)) (Or.inl (by decide)), e3 50 (by decide) (by decide) (by decide)]
    · intro j hj
      rw [y1 56 j (by decide) (Or.inl (by decide)) (Or.inr hj) (Or.inl (by decide)), e3 56 (by decide) (by decide) (by decide)]
    · intro j hj
      rw [y1 57 j (by decide) (Or.inl (by decide)) (Or.inl (by decide)) (Or.inr hj), e3 57 (by decide) (by decide) (by decide)]
    · rw [y1 33 3 (by decide) (Or.inl (by decide)) (Or.inl (by decide)) (Or.inl (by decide))]
      exact q3
    · rw [y1 36 0 (by decide) (Or.inl (by decide)) (Or.inl (by decide)) (Or.inl (by decide)), qe 36 (by decide), f1 36 0 (by decide) (by decide) (Or.inr rfl)]
