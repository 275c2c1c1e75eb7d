/-! PURE: the model asks its law, pays in, keeps and lays back -/
theorem M_works {S : SK} {m : Nat → Nat → Int32} {E : EN} {l : Nat} {q : QS} (hS : SkOK S) (hE : EOK E) (hl : l < 6) (hM : MG m E l q) {p a v w n u : Nat} (hp : p < 3) (ha : a ≤ 9999) :
    ∃ m2 : Nat → Nat → Int32, f_X9_worksOut (mk S m) (some 50) (nI p) (nI a) (nI v) (nI w) (nI n) (nI u) = some (lawS E p a v w n u, mk S m2) ∧ Ag (fun b => b = 66 ∨ b = 67) m m2 := by
  obtain ⟨d0, d1, d2, d3, d4, d5, d10, d16, ha', fr, hx⟩ := hM
  have hd := hE.1
  exact X9_law hS d16 hl d0 (by omega) (by omega) (by omega) hp hx
theorem ky_key {p a v w n u : Nat} (hr : kyR p a v w n u) : ((((((nI p).toInt64 * (10000 : Int64) + (nI a).toInt64) * (1000 : Int64) + (nI v).toInt64) * (100 : Int64) + (nI w).toInt64) * (10 : Int64) + (nI n).toInt64) * (10 : Int64) + (nI u).toInt64) = lN (kyS p a v w n u) := by
  obtain ⟨hp, ha, hv, hw, hn, hu⟩ := hr
  rw [nI_l (by omega), nI_l (by omega), nI_l (by omega), nI_l (by omega), nI_l (by omega), nI_l (by omega)]
  unfold kyS
  rw [show (10000 : Int64) = lN 10000 from rfl, show (1000 : Int64) = lN 1000 from rfl, show (100 : Int64) = lN 100 from rfl, show (10 : Int64) = lN 10 from rfl]
  simp only [lN_mul, lN_add]
def ixS (k : Nat) : Nat := (k * 31 + k / 4099) % 4096
theorem ix_lt (k : Nat) : ixS k < 4096 := Nat.mod_lt _ (by decide)
theorem ky_div {k : Nat} (h : k < 300000000000) : ldiv (lN k) (4099 : Int64) = some (lN (k / 4099)) := ldiv_n (b := 4099) (by omega) (by decide) (by decide)
theorem ky_rem {k : Nat} (h : k < 300000000000) : lrem (lN k * (31 : Int64) + lN (k / 4099)) (4096 : Int64) = some (lN (ixS k)) := by
  rw [show (31 : Int64) = lN 31 from rfl, show (4096 : Int64) = lN 4096 from rfl, lN_mul, lN_add]
  exact lrem_n (b := 4096) (by omega) (by decide) (by decide)
theorem asks_0 {h : XM} {a0 : Option Nat} {a1 a2 a3 a4 a5 a6 : Int32} (e : gI h 9 a0 37 = some 0) : f_X9_asksOf h a0 a1 a2 a3 a4 a5 a6 = (vc h 9 a0 (f_X9_worksOut h a0 a1 a2 a3 a4 a5 a6)).bind fun q4 => some (q4.1, q4.2) := by
  unfold f_X9_asksOf
  rw [e]
  rfl
theorem asks_1 {h : XM} {a0 : Option Nat} {a1 a2 a3 a4 a5 a6 : Int32} (e : gI h 9 a0 37 = some 1) : f_X9_asksOf h a0 a1 a2 a3 a4 a5 a6 = (ldiv ((((((((((a1.toInt64 * ((10000 : Int64))) + a2.toInt64) * ((1000 : Int64))) + a3.toInt64) * ((100 : Int64))) + a4.toInt64) * ((10 : Int64))) + a5.toInt64) * ((10 : Int64))) + a6.toInt64) ((4099 : Int64))).bind fun v6 => (lrem (((((((((((a1.toInt64 * ((10000 : Int64))) + a2.toInt64) * ((1000 : Int64))) + a3.toInt64) * ((100 : Int64))) + a4.toInt64) * ((10 : Int64))) + a5.toInt64) * ((10 : Int64))) + a6.toInt64) * ((31 : Int64)) + v6) ((4096 : Int64))).bind fun v7 => (gR h 9 a0 35).bind fun v8 => (rL h v8 v7.toInt32).bind fun v9 => if (lg_cmp v9 ((((((((((a1.toInt64 * ((10000 : Int64))) + a2.toInt64) * ((1000 : Int64))) + a3.toInt64) * ((100 : Int64))) + a4.toInt64) * ((10 : Int64))) + a5.toInt64) * ((10 : Int64))) + a6.toInt64)) = 0 then (f_X9_asksOf_125 h a0 v7.toInt32) else ((gR h 9 a0 35).bind fun v10 => (sL h v10 v7.toInt32 ((((((((((a1.toInt64 * ((10000 : Int64))) + a2.toInt64) * ((1000 : Int64))) + a3.toInt64) * ((100 : Int64))) + a4.toInt64) * ((10 : Int64))) + a5.toInt64) * ((10 : Int64))) + a6.toInt64)).bind fun h11 => (gR h11 9 a0 36).bind fun v12 => (vc h11 9 a0 (f_X9_worksOut h11 a0 a1 a2 a3 a4 a5 a6)).bind fun q13 => (sI q13.2 v12 v7.toInt32 q13.1).bind fun h14 => f_X9_asksOf_125 h14 a0 v7.toInt32) := by
  unfold f_X9_asksOf
  rw [e]
  rfl
theorem asks_n {S : SK} {m m2 : Nat → Nat → Int32} {E : EN} (hk : (sh S 50).1 = 9) (h37 : m 50 37 = nI 0) {p a v w n u : Nat} (e : f_X9_worksOut (mk S m) (some 50) (nI p) (nI a) (nI v) (nI w) (nI n) (nI u) = some (lawS E p a v w n u, mk S m2)) : f_X9_asksOf (mk S m) (some 50) (nI p) (nI a) (nI v) (nI w) (nI n) (nI u) = some (lawS E p a v w n u, mk (sLg S (lg S)) m2) := by
  rw [asks_0 (by rw [gI_k hk, h37]; rfl), vc_k hk, e]
  rfl
theorem asks_st {S : SK} {L : Nat → Nat → Int64} {m3 : Nat → Nat → Int32} {i : Nat} (hS : SkOK S) (hi : i < 4096) : f_X9_asksOf_125 (mk (sLg S L) m3) (some 50) (nI i) = some (m3 69 i, mk (sLg S L) m3) := by
  have hS2 : SkOK (sLg S L) := sLg_ok hS
  have hk2 : (sh (sLg S L) 50).1 = 9 := by rw [sk50 hS2]
  unfold f_X9_asksOf_125
  rw [gR_k hk2, rk50_36 hS2]
  simp only [Option.bind_some]
  rw [rI_n (sk69 hS2) hi (by decide)]
  rfl
theorem asks_y {S : SK} {m : Nat → Nat → Int32} (hS : SkOK S) (hk : (sh S 50).1 = 9) (h37 : m 50 37 = nI 1) {p a v w n u k i : Nat} (hr : kyR p a v w n u) (ek : kyS p a v w n u = k) (ei : ixS k = i) (hc : lg S 68 i = lN k) : f_X9_asksOf (mk S m) (some 50) (nI p) (nI a) (nI v) (nI w) (nI n) (nI u) = some (m 69 i, mk (sLg S (lg S)) m) := by
  have hlt : k < 300000000000 := by rw [← ek]; exact ky_lt hr
  have hi : i < 4096 := by rw [← ei]; exact ix_lt k
  have hrow : gR (mk S m) 9 (some 50) 35 = some (some 68) := by rw [gR_k hk, rk50_35 hS]
  rw [asks_1 (by rw [gI_k hk, h37]; rfl), ky_key hr, ek, ky_div hlt, Option.bind_some, ky_rem hlt, ei, Option.bind_some, hrow, Option.bind_some, lN_i, rL_n (sk68 hS) hi (by decide), Option.bind_some, if_pos (lg_cmp0.2 hc)]
  exact asks_st (L := lg S) hS hi
theorem asks_w {S : SK} {m m3 : Nat → Nat → Int32} {E : EN} (hS : SkOK S) (hk : (sh S 50).1 = 9) (h37 : m 50 37 = nI 1) {p a v w n u k i : Nat} (hr : kyR p a v w n u) (ek : kyS p a v w n u = k) (ei : ixS k = i) (hc : ¬ lg S 68 i = lN k) {L : Nat → Nat → Int64} (hL : L = w2 (lg S) 68 i (lN k)) (e : f_X9_worksOut (mk (sLg S L) m) (some 50) (nI p) (nI a) (nI v) (nI w) (nI n) (nI u) = some (lawS E p a v w n u, mk (sLg S L) m3)) : f_X9_asksOf (mk S m) (some 50) (nI p) (nI a) (nI v) (nI w) (nI n) (nI u) = some (lawS E p a v w n u, mk (sLg S L) (w2 m3 69 i (lawS E p a v w n u))) := by
  have hlt : k < 300000000000 := by rw [← ek]; exact ky_lt hr
  have hi : i < 4096 := by rw [← ei]; exact ix_lt k
  have hrow : gR (mk S m) 9 (some 50) 35 = some (some 68) := by rw [gR_k hk, rk50_35 hS]
  have hS2 : SkOK (sLg S L) := sLg_ok hS
  have hk2 : (sh (sLg S L) 50).1 = 9 := by rw [sk50 hS2]
  rw [asks_1 (by rw [gI_k hk, h37]; rfl), ky_key hr, ek, ky_div hlt, Option.bind_some, ky_rem hlt, ei, Option.bind_some, hrow, Option.bind_some, lN_i, rL_n (sk68 hS) hi (by decide), Option.bind_some, if_neg (fun z => hc (lg_cmp0.1 z)), Option.bind_some, stL_n (sk68 hS) hi (by decide), ← hL]
  simp only [Option.bind_some]
  rw [show ((S.1, S.2.1, L, S.2.2.2) : SK) = sLg S L from rfl, gR_k hk2, rk50_36 hS2]
  simp only [Option.bind_some]
  rw [vc_k hk2, e]
  simp only [Option.bind_some]
  rw [sI_n (sk69 hS2) hi (by decide)]
  simp only [Option.bind_some]
  rw [asks_st hS hi, w2_ap, if_pos ⟨rfl, rfl⟩]
theorem M_asks {S : SK} {m : Nat → Nat → Int32} {E : EN} {l : Nat} {q : QS} (h : MV S m E l q) {p a v w n u : Nat} (hr : kyR p a v w n u) :
    ∃ L m2, f_X9_asksOf (mk S m) (some 50) (nI p) (nI a) (nI v) (nI w) (nI n) (nI u) = some (lawS E p a v w n u, mk (sLg S L) m2) ∧ MV (sLg S L) m2 E l q ∧ AgM ZA J0 m m2 := by
  have h0 := h
  have hr0 := hr
  have hlt := ky_lt hr
  obtain ⟨hp, ha, hv, hw, hn, hu⟩ := hr
  obtain ⟨hS, hE, hl, hM, hq0, hK⟩ := h
  have hk : (sh S 50).1 = 9 := by rw [sk50 hS]
  rcases hK with h37 | ⟨h37, hK⟩
  · obtain ⟨m2, e, ag⟩ := M_works (v := v) (w := w) (n := n) (u := u) hS hE hl hM hp ha
    have ag2 : AgM ZA J0 m m2 := AgM.of (ag.mono (fun b hb => by unfold ZA; omega)) (by unfold ZA; omega)
    refine ⟨lg S, m2, ?_, ?_, ag2⟩
    · exact asks_n hk h37 e
    · have ag3 : AgM (fun b => b = 66 ∨ b = 67) J0 m m2 := AgM.of ag (by omega)
      exact h0.ag ag3 (fun b hb => by omega) (fun j _ => id)
  · have hi := ix_lt (kyS p a v w n u)
    generalize ei : ixS (kyS p a v w n u) = i at hi
    by_cases hc : lg S 68 i = lN (kyS p a v w n u)
    · have hv2 : m 69 i = lawS E p a v w n u := by
        rcases hK i hi with z | ⟨p2, a2, v2, w2', n2, u2, r2, e1, e2⟩
        · rw [z] at hc
          exact absurd hc (lN_m1 (by omega))
        · rw [e1] at hc
          have hlt2 := ky_lt r2
          have := (pk_lEQ (by omega) (by omega)).1 hc
          obtain ⟨r1, r2, r3, r4, r5, r6⟩ := ky_inj r2 hr0 this
          rw [e2, r1, r2, r3, r4, r5, r6]
      refine ⟨lg S, m, ?_, h0, AgM.rf⟩
      rw [← hv2]
      exact asks_y hS hk h37 hr0 rfl ei hc
    · obtain ⟨L, hL⟩ : ∃ L, L = w2 (lg S) 68 i (lN (kyS p a v w n u)) := ⟨_, rfl⟩
      have hS2 : SkOK (sLg S L) := sLg_ok hS
      have hk2 : (sh (sLg S L) 50).1 = 9 := by rw [sk50 hS2]
      obtain ⟨m3, e, ag⟩ := M_works (S := sLg S L) (m := m) (v := v) (w := w) (n := n) (u := u) hS2 hE hl hM hp ha
      have agz : AgM ZA J0 m m3 := AgM.of (ag.mono (fun b hb => by unfold ZA; omega)) (by unfold ZA; omega)
      have agy : AgM ZA J0 m (w2 m3 69 i (lawS E p a v w n u)) := agz.w (by decide) (by unfold ZA; omega)
      refine ⟨L, w2 m3 69 i (lawS E p a v w n u), ?_, ?_, agy⟩
      · exact asks_w hS hk h37 hr0 rfl ei hc hL e
      · obtain ⟨d0, d1, d2, d3, d4, d5, d10, d16, ha', fr, hx⟩ := hM
        have e50 : ∀ j, w2 m3 69 i (lawS E p a v w n u) 50 j = m 50 j := fun j => agy.2 j id
        have eb : ∀ b, 51 ≤ b → b ≤ 57 → w2 m3 69 i (lawS E p a v w n u) b = m b := fun b b1 b2 => agy.1 b (by omega) (by unfold ZA; omega)
        refine ⟨hS2, hE, hl, ⟨by rw [e50]; exact d0, by rw [e50]; exact d1, by rw [e50]; exact d2, by rw [e50]; exact d3, by rw [e50]; exact d4, by rw [e50]; exact d5, by rw [e50]; exact d10, by rw [e50]; exact d16, ?_, fr, hx.ag (eb 56 (by decide) (by decide)) (eb 57 (by decide) (by decide))⟩, hq0, Or.inr ⟨by rw [e50]; exact h37, ?_⟩⟩
        · intro c hc
          rw [eb 51 (by decide) (by decide), eb 52 (by decide) (by decide), eb 53 (by decide) (by decide), eb 54 (by decide) (by decide)]
          exact ha' c hc
        · intro k hk7
          by_cases z : k = i
          · refine Or.inr ⟨p, a, v, w, n, u, hr0, ?_, ?_⟩
            · show L 68 k = _
              rw [hL, w2_ap, if_pos ⟨rfl, z⟩]
            · rw [w2_ap, if_pos ⟨rfl, z⟩]
          · have e1 : lg (sLg S L) 68 k = lg S 68 k := by
              show L 68 k = _
              rw [hL, w2_ap, if_neg (fun y => z y.2)]
            have e2 : w2 m3 69 i (lawS E p a v w n u) 69 k = m 69 k := by
              rw [w2_ap, if_neg (fun y => z y.2), ag 69 (by omega)]
            rw [e1, e2]
            exact hK k hk7
theorem M_canPut {S : SK} {m : Nat → Nat → Int32} {E : EN} {l : Nat} {q : QS} (h : MV S m E l q) {c : Nat} (hc : c < eN E) : f_X9_canPut (mk S m) (some 50) (nI c) = some (nI (if canS E q c = true then 1 else 0), mk S m) := by
  obtain ⟨hS, hE, hl, ⟨d0, d1, d2, d3, d4, d5, d10, d16, ha', fr, hx⟩, hq, hK⟩ := h
  have z1 := p16 hE.2.1 hq.2.2.1
  have z2 := p128 hE.2.2.1 hq.2.2.2
  have hEc := hE.2.2.2 c hc
  have hP := hE.2.1
  have hN := hE.2.2.1
  rw [X9_canPut hS d10 d4 (by omega) (by omega) (by omega) (ha' c hc).1 (by omega)]
  unfold canS
  cases q.2.2.2.testBit c <;> cases q.2.2.1.testBit (eW E c) <;> rfl
theorem M_leftOf {S : SK} {m : Nat → Nat → Int32} {E : EN} {l : Nat} {q : QS} (h : MV S m E l q) {p : Nat} (hp : p < 4) : f_X9_leftOf (mk S m) (some 50) (nI p) = some (nI (lfS (eW E) q.2.2.2 p (eN E)), mk S m) := by
  obtain ⟨hS, hE, hl, ⟨d0, d1, d2, d3, d4, d5, d10, d16, ha', fr, hx⟩, hq, hK⟩ := h
  have z2 := p128 hE.2.2.1 hq.2.2.2
  have hP := hE.2.1
  exact X9_leftOf hS d5 hE.2.2.1 d10 (by omega) (fun c hc => ⟨(ha' c hc).1, by have := (hE.2.2.2 c hc).1; omega⟩) hp
theorem M_counts {S : SK} {m : Nat → Nat → Int32} {E : EN} {l : Nat} {q : QS} (h : MV S m E l q) {c : Nat} (hc : c < eN E) : f_X9_countsNow (mk S m) (some 50) (nI c) = some (nI (cntS E q c), mk S m) := by
  obtain ⟨hS, hE, hl, ⟨d0, d1, d2, d3, d4, d5, d10, d16, ha', fr, hx⟩, hq, hK⟩ := h
  have hN := hE.2.2.1
  have hEc := hE.2.2.2 c hc
  obtain ⟨_, a2, a3, a4⟩ := ha' c hc
  exact X9_countsNow hS (by omega) a2 a3 a4 d1 hEc.2.1 hEc.2.2.1 hEc.2.2.2 hq.1
theorem M_costs {S : SK} {m : Nat → Nat → Int32} {E : EN} {l : Nat} {q : QS} (h : MV S m E l q) {c : Nat} (hc : c < eN E) : f_X9_costsOf (mk S m) (some 50) (nI c) = some (nI (cstS E c), mk S m) := by
  obtain ⟨hS, hE, hl, ⟨d0, d1, d2, d3, d4, d5, d10, d16, ha', fr, hx⟩, hq, hK⟩ := h
  have hN := hE.2.2.1
  have hEc := hE.2.2.2 c hc
  obtain ⟨_, a2, a3, a4⟩ := ha' c hc
  exact X9_costsOf hS (by omega) a2 a3 hEc.2.1 hEc.2.2.1
theorem M_whose {S : SK} {m : Nat → Nat → Int32} {E : EN} {l : Nat} {q : QS} (h : MV S m E l q) {c : Nat} (hc : c < eN E) : (gR (mk S m) 9 (some 50) 6) = some (some 51) ∧ rI (mk S m) (some 51) (nI c) = some (nI (eW E c)) := by
  obtain ⟨hS, hE, hl, ⟨d0, d1, d2, d3, d4, d5, d10, d16, ha', fr, hx⟩, hq, hK⟩ := h
  have hk : (sh S 50).1 = 9 := by rw [sk50 hS]
  have hN := hE.2.2.1
  constructor
  · rw [gR_k hk, rk50_6 hS]
  · rw [rI_n (sk51 hS) (by omega) (by decide), (ha' c hc).1]
theorem M_put {S : SK} {m : Nat → Nat → Int32} {E : EN} {l : Nat} {q : QS} (h : MV S m E l q) {c : Nat} (hc : c < eN E) :
    ∃ L m2, f_X9_paysIn (mk S m) (some 50) (nI c) = some (nI (if opS E q c = true then 1 else 0), mk (sLg S L) m2) ∧ MV (sLg S L) m2 E l (putS E q c) ∧ AgM ZA JQ m m2 := by
  have h0 := h
  have hw := M_whose h hc
  have hcn := M_counts h hc
  obtain ⟨hS, hE, hl, ⟨d0, d1, d2, d3, d4, d5, d10, d16, ha', fr, hx⟩, hq, hK⟩ := h
  have hk : (sh S 50).1 = 9 := by rw [sk50 hS]
  have hEc := hE.2.2.2 c hc
  have hP := hE.2.1
  have hN := hE.2.2.1
  have hcnt := cntS_le (q := q) hE hc
  have emin := wn9999 (s := q.1) (v := cntS E q c) hq.1 hcnt
  let m1 := w2 (w2 m 50 1 (nI (sumS E q c))) 50 10 (nI (q.2.2.2 ||| 2 ^ c))
  have ag1 : AgM ZA JQ m m1 := (AgM.rf.w50 (by unfold JQ; omega)).w50 (by unfold JQ; omega)
  have ag1F : AgM (fun _ => False) JQ m m1 := (AgM.rf.w50 (by unfold JQ; omega)).w50 (by unfold JQ; omega)
  have r10 : m1 50 10 = nI (q.2.2.2 ||| 2 ^ c) := rfl
  have r1 : m1 50 1 = nI (sumS E q c) := rfl
  have hI1 : MV S m1 E l (sumS E q c, q.2.1, q.2.2.1, q.2.2.2 ||| 2 ^ c) := h0.set ⟨Nat.min_le_right _ _, hq.2.1, hq.2.2.1, Nat.or_lt_two_pow hq.2.2.2 (Nat.pow_lt_pow_right (by decide) hc)⟩ ag1F (fun _ _ => id) (fun j hj => by unfold JQ; omega) r1 d2 d4 r10
  have hlf := M_leftOf hI1 (p := eW E c) (by omega)
  have hlf7 := lfS_le (eW E) (q.2.2.2 ||| 2 ^ c) (eW E c) (eN E)
  have hsum : sumS E q c ≤ 9999 := Nat.min_le_right _ _
  obtain ⟨L, m2, e2, hI2, ag2⟩ := M_asks hI1 (p := 0) (a := sumS E q c) (v := cntS E q c) (w := q.2.1) (n := lfS (eW E) (q.2.2.2 ||| 2 ^ c) (eW E c) (eN E)) (u := eW E c) ⟨by decide, hsum, by omega, by have := hq.2.1; omega, by omega, by omega⟩
  have ag2' : AgM ZA JQ m m2 := ag1.tr (ag2.mono (fun _ z => z) (fun _ z => z.elim))
  have hS2 : SkOK (sLg S L) := sLg_ok hS
  have hk2 : (sh (sLg S L) 50).1 = 9 := by rw [sk50 hS2]
  have step : f_X9_paysIn (mk S m) (some 50) (nI c) = if opS E q c = true then f_X9_paysIn_71 (mk (sLg S L) m2) (some 50) (nI (eW E c)) (nI 1) else f_X9_paysIn_71 (mk (sLg S L) m2) (some 50) (nI (eW E c)) (nI 0) := by
    unfold f_X9_paysIn
    rw [hw.1]
    simp only [Option.bind_some]
    rw [hw.2]
    simp only [Option.bind_some]
    rw [vc_k hk, hcn]
    simp only [Option.bind_some]
    rw [gI_k hk, d1]
    simp only [Option.bind_some]
    rw [X9_within]
    simp only [Option.bind_some]
    rw [show (if nI q.1 + nI (cntS E q c) < (0 : Int32) then (0 : Int32) else if (9999 : Int32) < nI q.1 + nI (cntS E q c) then (9999 : Int32) else nI q.1 + nI (cntS E q c)) = nI (sumS E q c) from emin, pI_k hk]
    simp only [Option.bind_some]
    rw [gI_k hk, show w2 m 50 1 (nI (sumS E q c)) 50 10 = nI q.2.2.2 from d10]
    simp only [Option.bind_some]
    rw [pI_k hk, show (1 : Int32) <<< (nI c &&& 31) = nI (2 ^ c) from shl1 (by omega), fa_or]
    simp only [Option.bind_some]
    rw [gI_k hk]
    simp only [Option.bind_some]
    rw [gI_k hk]
    simp only [Option.bind_some]
    rw [vc_k hk]
    show (f_X9_leftOf (mk S m1) (some 50) (nI (eW E c))).bind _ = _
    rw [hlf]
    simp only [Option.bind_some]
    rw [vc_k hk]
    show (f_X9_asksOf (mk S m1) (some 50) 0 (m1 50 1) (nI (cntS E q c)) (m1 50 2) _ _).bind _ = _
    rw [r1, show m1 50 2 = nI q.2.1 from d2]
    have e2' : f_X9_asksOf (mk S m1) (some 50) 0 (nI (sumS E q c)) (nI (cntS E q c)) (nI q.2.1) (nI (lfS (eW E) (q.2.2.2 ||| 2 ^ c) (eW E c) (eN E))) (nI (eW E c)) = _ := e2
    rw [e2']
    simp only [Option.bind_some]
    have hz : lawS E 0 (sumS E q c) (cntS E q c) q.2.1 (lfS (eW E) (q.2.2.2 ||| 2 ^ c) (eW E c) (eN E)) (eW E c) = 0 ∨ lawS E 0 (sumS E q c) (cntS E q c) q.2.1 (lfS (eW E) (q.2.2.2 ||| 2 ^ c) (eW E c) (eN E)) (eW E c) = 1 := lwS_0 _
    rcases hz with z | z
    · rw [if_neg (by rw [z]; decide), if_neg (by unfold opS; simp [z])]
      rfl
    · rw [if_pos z, if_pos (by unfold opS; simp [z])]
      rfl
  rw [step]
  have f := hI2.2.2.2.1
  have hq2 := QOK.put hE hq hc
  have e9 : (if nI q.2.1 + nI 1 < nI 0 then nI 0 else if nI 99 < nI q.2.1 + nI 1 then nI 99 else nI q.2.1 + nI 1) = nI (min (q.2.1 + 1) 99) := wn99 hq.2.1
  have step2 : ∀ b : Nat, b = 0 ∨ b = 1 → f_X9_paysIn_71 (mk (sLg S L) m2) (some 50) (nI (eW E c)) (nI b) = some (nI b, mk (sLg S L) (w2 (w2 m2 50 2 (nI (min (q.2.1 + 1) 99))) 50 4 (nI (q.2.2.1 ||| (if b = 1 then 2 ^ eW E c else 0))))) := by
    intro b hb
    have hsh : (1 : Int32) <<< (nI (eW E c) &&& 31) = nI (2 ^ eW E c) := shl1 (by omega)
    unfold f_X9_paysIn_71
    rw [gI_k hk2, f.2.2.1]
    simp only [Option.bind_some]
    rw [X9_within]
    simp only [Option.bind_some]
    rw [show (if nI (sumS E q c, q.2.1, q.2.2.1, q.2.2.2 ||| 2 ^ c).2.1 + (1 : Int32) < 0 then (0 : Int32) else if (99 : Int32) < nI (sumS E q c, q.2.1, q.2.2.1, q.2.2.2 ||| 2 ^ c).2.1 + (1 : Int32) then 99 else nI (sumS E q c, q.2.1, q.2.2.1, q.2.2.2 ||| 2 ^ c).2.1 + (1 : Int32)) = nI (min (q.2.1 + 1) 99) from e9, pI_k hk2]
    simp only [Option.bind_some]
    rw [gI_k hk2, show w2 m2 50 2 (nI (min (q.2.1 + 1) 99)) 50 4 = nI q.2.2.1 from f.2.2.2.2.1]
    simp only [Option.bind_some]
    rcases hb with rfl | rfl
    · rw [if_pos (show nI 0 = (0 : Int32) from rfl)]
      unfold f_X9_paysIn_106
      rw [pI_k hk2, show nI q.2.2.1 ||| (0 : Int32) = nI (q.2.2.1 ||| 0) from fa_or _ 0]
      rfl
    · rw [if_neg (by decide)]
      unfold f_X9_paysIn_106
      rw [pI_k hk2, hsh, fa_or]
      rfl
  have fin : ∀ b : Nat, (b = 0 ∨ b = 1) → q.2.2.1 ||| (if b = 1 then 2 ^ eW E c else 0) = (putS E q c).2.2.1 → MV (sLg S L) (w2 (w2 m2 50 2 (nI (min (q.2.1 + 1) 99))) 50 4 (nI (q.2.2.1 ||| (if b = 1 then 2 ^ eW E c else 0)))) E l (putS E q c) ∧ AgM ZA JQ m (w2 (w2 m2 50 2 (nI (min (q.2.1 + 1) 99))) 50 4 (nI (q.2.2.1 ||| (if b = 1 then 2 ^ eW E c else 0)))) := by
    intro b hb hi
    refine ⟨?_, (ag2'.w50 (by unfold JQ; omega)).w50 (by unfold JQ; omega)⟩
    have agx : AgM ZA JQ m2 (w2 (w2 m2 50 2 (nI (min (q.2.1 + 1) 99))) 50 4 (nI (q.2.2.1 ||| (if b = 1 then 2 ^ eW E c else 0)))) := (AgM.rf.w50 (by unfold JQ; omega)).w50 (by unfold JQ; omega)
    have agz : AgM (fun _ => False) JQ m2 (w2 (w2 m2 50 2 (nI (min (q.2.1 + 1) 99))) 50 4 (nI (q.2.2.1 ||| (if b = 1 then 2 ^ eW E c else 0)))) := (AgM.rf.w50 (by unfold JQ; omega)).w50 (by unfold JQ; omega)
    refine hI2.set hq2 agz (fun _ _ => id) (fun j hj => by unfold JQ; omega) ?_ rfl ?_ ?_
    · exact f.2.1
    · rw [hi]
      rfl
    · exact f.2.2.2.2.2.2.1
  by_cases z : opS E q c = true
  · rw [if_pos z, z, step2 1 (Or.inr rfl)]
    have := fin 1 (Or.inr rfl) (by unfold putS; simp [z])
    exact ⟨L, _, rfl, this.1, this.2⟩
  · have z' : opS E q c = false := by simpa using z
    rw [if_neg z, z', step2 0 (Or.inl rfl)]
    have := fin 0 (Or.inl rfl) (by unfold putS; simp [z'])
    exact ⟨L, _, rfl, this.1, this.2⟩
