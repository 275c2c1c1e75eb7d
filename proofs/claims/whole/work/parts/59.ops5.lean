/-! PURE: calls: spare (a way is followed) -/
def goS (E : EN) (dg : Nat) : Nat → QS → QS
  | 0, q => q
  | k + 1, q => goS E dg k (putS E q (dg / 10 ^ k % 10 - 1))
theorem m1_pre (k : Nat) : nI (k + 1) + (-1 : Int32) = nI k := by
  rw [← Int32.sub_eq_add_neg]
  exact pk_sub (a := k + 1) (b := 1) (by omega)
theorem neg1_lt : (-1 : Int32) < 0 := by decide
theorem C_follow {S : SK} {m : Nat → Nat → Int32} {g : Nat} {E : EN} {l d dg : Nat} {q : QS} (h : CI S m g E l q) (hd : d ≤ 7) (hg : DGP (eN E) d dg) :
    ∃ m2, f_X1_follow (mk S m) (some g) (nI dg) = some (mk S m2) ∧ CI S m2 g E l (goS E dg d q) ∧ Ag (ZG S g) m m2 := by
  have hS := h.1.1
  have hG := GS_of hS h.2.1
  have hk : (sh S g).1 = 1 := by rw [hG.1]
  have hN := h.1.2.1.2.2.1
  have hl := p10_le hd
  have hlt := hg.1
  have loop : ∀ (k f : Nat) (m : Nat → Nat → Int32) (q : QS), k < 8 → k < f → CI S m g E l q → ∃ m2, f_X1_follow_7 f (mk S m) (some g) (nI dg) (nI k + -1) = some (mk S m2) ∧ CI S m2 g E l (goS E dg (min k d) q) ∧ Ag (ZG S g) m m2 := by
    intro k
    induction k with
    | zero =>
      intro f m q _ hf hC
      obtain ⟨f, rfl⟩ : ∃ k, f = k + 1 := ⟨f - 1, by omega⟩
      refine ⟨m, rfl, ?_, Ag.rf⟩
      rw [Nat.zero_min]
      exact hC
    | succ k ih =>
      intro f m q hk8 hf hC
      obtain ⟨f, rfl⟩ : ∃ k, f = k + 1 := ⟨f - 1, by omega⟩
      have hp : 10 ^ k ≤ 10000000 := p10_le (by omega)
      have hp0 : 0 < 10 ^ k := Nat.pow_pos (by decide)
      have e34 : ∀ h, f_X1_follow_34 (f_X1_follow_7 f) h (some g) (nI dg) (nI k) = f_X1_follow_7 f h (some g) (nI dg) (nI k + -1) := fun _ => rfl
      rw [m1_pre]
      show ∃ m2, fb_X1_follow_7 (f_X1_follow_7 f) (mk S m) (some g) (nI dg) (nI k) = _ ∧ _
      unfold fb_X1_follow_7
      rw [if_neg (nI_pos (by omega)), rT_n k (by omega), Option.bind_some, idiv_n (by omega) hp0 (by omega), Option.bind_some, show irem (nI (dg / 10 ^ k)) (10 : Int32) = some (nI (dg / 10 ^ k % 10)) from irem_n (d := 10) (by have := Nat.div_le_self dg (10 ^ k); omega) (by decide) (by decide), Option.bind_some]
      by_cases hkd : k < d
      · obtain ⟨g1, g2⟩ := hg.2 k hkd
        obtain ⟨m1, e1, hC1, ag1⟩ := C_put hC (c := dg / 10 ^ k % 10 - 1) (by omega)
        obtain ⟨m2, e2, hC2, ag2⟩ := ih f m1 (putS E q (dg / 10 ^ k % 10 - 1)) (by omega) (by omega) hC1
        have em : min (k + 1) d = k + 1 := Nat.min_eq_left (by omega)
        have em2 : min k d = k := Nat.min_eq_left (by omega)
        rw [em]
        rw [em2] at hC2
        refine ⟨m2, ?_, hC2, ag1.tr ag2⟩
        rw [if_pos (show (0 : Int32) < nI (dg / 10 ^ k % 10) from (nI_ltI (a := 0) (by omega) (by omega)).2 (by omega)), vc_k hk, show nI (dg / 10 ^ k % 10) - (1 : Int32) = nI (dg / 10 ^ k % 10 - 1) from pk_sub (b := 1) (by omega), e1, Option.bind_some, e34]
        exact e2
      · have hz : dg / 10 ^ k % 10 = 0 := by
          rw [Nat.div_eq_of_lt (Nat.lt_of_lt_of_le hlt (Nat.pow_le_pow_right (by decide) (by omega)))]
        obtain ⟨m2, e2, hC2, ag2⟩ := ih f m q (by omega) (by omega) hC
        have em : min (k + 1) d = min k d := by omega
        rw [em]
        refine ⟨m2, ?_, hC2, ag2⟩
        rw [hz, if_neg (show ¬ (0 : Int32) < nI 0 by decide), e34]
        exact e2
  obtain ⟨m2, e2, hC2, ag2⟩ := loop 7 FU m q (by omega) (by unfold FU; omega) h
  rw [Nat.min_eq_right hd] at hC2
  refine ⟨m2, ?_, hC2, ag2⟩
  unfold f_X1_follow
  rw [show lnK 2 = some 7 from rfl, Option.bind_some, bnd_eq]
  exact e2
theorem M_goesC {S : SK} {m : Nat → Nat → Int32} {E : EN} {l d dg : Nat} {q : QS} (h : MV S m E l q) (hd : d ≤ 7) (hg : DGP (eN E) d dg) (h40 : m 50 40 = nI d) (h41 : m 50 41 = nI dg) :
    ∃ L m2, f_X9_goesCheapest (mk S m) (some 50) = some (mk (sLg S L) m2) ∧ MV (sLg S L) m2 E l (goS E dg d q) ∧ AgM ZA JQ m m2 := by
  have hN := h.2.1.2.2.1
  have hl := p10_le hd
  have hlt := hg.1
  have hk0 := h.k
  have second : ∀ (r f k : Nat) (S : SK) (m : Nat → Nat → Int32) (q : QS) (tens : Nat), k + r = d → r < f → tens < 2 ^ 31 → (∀ r', r = r' + 1 → tens = 10 ^ r') → MV S m E l q → m 50 40 = nI d → m 50 41 = nI dg → ∃ L m2, f_X9_goesCheapest_25 f (mk S m) (some 50) (nI tens) (nI k) = some (mk (sLg S L) m2) ∧ MV (sLg S L) m2 E l (goS E dg r q) ∧ AgM ZA JQ m m2 := by
    intro r
    induction r with
    | zero =>
      intro f k S m q tens hk hf ht hten hM h40 h41
      obtain ⟨f, rfl⟩ : ∃ k, f = k + 1 := ⟨f - 1, by omega⟩
      refine ⟨lg S, m, ?_, hM, AgM.rf⟩
      show fb_X9_goesCheapest_25 (f_X9_goesCheapest_25 f) (mk S m) (some 50) (nI tens) (nI k) = _
      unfold fb_X9_goesCheapest_25
      rw [gI_k hM.k, h40, Option.bind_some, if_neg (by rw [nI_ltI (by omega) (by omega)]; omega)]
      rfl
    | succ r ih =>
      intro f k S m q tens hk hf ht hten hM h40 h41
      obtain ⟨f, rfl⟩ : ∃ k, f = k + 1 := ⟨f - 1, by omega⟩
      have et := hten r rfl
      subst et
      have hp0 : 0 < 10 ^ r := Nat.pow_pos (by decide)
      obtain ⟨g1, g2⟩ := hg.2 r (by omega)
      obtain ⟨L1, m1, e1, hM1, ag1⟩ := M_put hM (c := dg / 10 ^ r % 10 - 1) (by omega)
      obtain ⟨L2, m2, e2, hM2, ag2⟩ := ih f (k + 1) (sLg S L1) m1 (putS E q (dg / 10 ^ r % 10 - 1)) (10 ^ r / 10) (by omega) (by omega) (by omega) (fun r' hr' => by
        subst hr'
        rw [Nat.pow_succ]
        omega) hM1 (by rw [ag1.2 40 (by unfold JQ; omega)]; exact h40) (by rw [ag1.2 41 (by unfold JQ; omega)]; exact h41)
      refine ⟨L2, m2, ?_, hM2, ag1.tr ag2⟩
      show fb_X9_goesCheapest_25 (f_X9_goesCheapest_25 f) (mk S m) (some 50) (nI (10 ^ r)) (nI k) = _
      unfold fb_X9_goesCheapest_25
      rw [gI_k hM.k, h40, Option.bind_some, if_pos (by rw [nI_ltI (by omega) (by omega)]; omega), gI_k hM.k, h41, Option.bind_some, idiv_n (by omega) hp0 ht, Option.bind_some, show irem (nI (dg / 10 ^ r)) (10 : Int32) = some (nI (dg / 10 ^ r % 10)) from irem_n (d := 10) (by have := Nat.div_le_self dg (10 ^ r); omega) (by decide) (by decide), Option.bind_some, vc_k hM.k, show nI (dg / 10 ^ r % 10) - (1 : Int32) = nI (dg / 10 ^ r % 10 - 1) from pk_sub (b := 1) (by omega), e1, Option.bind_some, show idiv (nI (10 ^ r)) (10 : Int32) = some (nI (10 ^ r / 10)) from idiv_n (d := 10) ht (by decide) (by decide), Option.bind_some, bnd_eq, show nI k + (1 : Int32) = nI (k + 1) from nI_add k 1]
      exact e2
  have first : ∀ (r f k : Nat), k + r = max d 1 → 1 ≤ k → r < f → f_X9_goesCheapest_4 f (mk S m) (some 50) (nI (10 ^ (k - 1))) (nI k) = f_X9_goesCheapest_25 FU (mk S m) (some 50) (nI (10 ^ (max d 1 - 1))) (nI 0) := by
    intro r
    induction r with
    | zero =>
      intro f k hk hk1 hf
      obtain ⟨f, rfl⟩ : ∃ k, f = k + 1 := ⟨f - 1, by omega⟩
      have ek : k = max d 1 := by omega
      show fb_X9_goesCheapest_4 (f_X9_goesCheapest_4 f) (mk S m) (some 50) (nI (10 ^ (k - 1))) (nI k) = _
      unfold fb_X9_goesCheapest_4
      rw [gI_k hk0, h40, Option.bind_some, if_neg (by rw [nI_ltI (by omega) (by omega)]; omega), ek]
      exact congrArg (fun z => f_X9_goesCheapest_25 FU (mk S m) (some 50) (nI (10 ^ (max d 1 - 1))) z) (show (0 : Int32) = nI 0 from rfl)
    | succ r ih =>
      intro f k hk hk1 hf
      obtain ⟨f, rfl⟩ : ∃ k, f = k + 1 := ⟨f - 1, by omega⟩
      show fb_X9_goesCheapest_4 (f_X9_goesCheapest_4 f) (mk S m) (some 50) (nI (10 ^ (k - 1))) (nI k) = _
      unfold fb_X9_goesCheapest_4
      rw [gI_k hk0, h40, Option.bind_some, if_pos (by rw [nI_ltI (by omega) (by omega)]; omega), bnd_eq, bnd_eq, show nI k + (1 : Int32) = nI (k + 1) from nI_add k 1, show nI (10 ^ (k - 1)) * (10 : Int32) = nI (10 ^ (k - 1) * 10) from pk_mul _ 10, ← Nat.pow_succ, show (k - 1).succ = (k + 1) - 1 by omega]
      exact ih f (k + 1) (by omega) (by omega) (by omega)
  have hmx : max d 1 - 1 ≤ 7 := by omega
  have hpm := p10_le hmx
  obtain ⟨L, m2, e2, hM2, ag2⟩ := second d FU 0 S m q (10 ^ (max d 1 - 1)) (by omega) (by unfold FU; omega) (by omega) (fun r' hr' => by
    have : max d 1 - 1 = r' := by omega
    rw [this]) h h40 h41
  refine ⟨L, m2, ?_, hM2, ag2⟩
  have e1 := first (max d 1 - 1) FU 1 (by omega) (by omega) (by unfold FU; omega)
  rw [show 10 ^ (1 - 1) = 1 from rfl] at e1
  have e0 : f_X9_goesCheapest (mk S m) (some 50) = f_X9_goesCheapest_4 FU (mk S m) (some 50) (nI 1) (nI 1) := by
    unfold f_X9_goesCheapest
    exact congrArg (fun z => f_X9_goesCheapest_4 FU (mk S m) (some 50) z z) (show (1 : Int32) = nI 1 from rfl)
  rw [e0, e1]
  exact e2
theorem goS_ok {E : EN} (hE : EOK E) {d dg : Nat} (hg : DGP (eN E) d dg) : ∀ k q, k ≤ d → QOK E q → QOK E (goS E dg k q)
  | 0, _, _, h => h
  | k + 1, q, hk, h => by
    obtain ⟨g1, g2⟩ := hg.2 k (by omega)
    exact goS_ok hE hg k _ (by omega) (h.put hE (by omega))
theorem op_spare {S : SK} {m : Nat → Nat → Int32} (hR : RR S m) (x y : Int32) : RES (f_X8_spare (mk S m) (some 0) x y) (fun S1 m1 => f_X9_spare (mk S1 m1) (some 50) x y) := by
  have hR0 := hR
  have hS := hR.ok
  have hk8 : (sh S 0).1 = 8 := by rw [sk0 hS]
  have hk1 : (sh S 3).1 = 1 := by rw [sk3 hS]
  have hk : (sh S 50).1 = 9 := by rw [sk50 hS]
  obtain ⟨d, P, N, l, T, wh, kd, td, mo, prs, q, h⟩ := hR
  obtain ⟨hl, ⟨g1, g2, g3⟩, hO⟩ := h
  generalize hEE : mkE d P N wh kd td mo (prs l) = E at g1 g2
  have hE := g1.1.2.1
  have hP : eP E ≤ 4 := hE.2.1
  have hN := hE.2.2.1
  have hk7 : (sh S 14).1 = 7 := by rw [sk14 hS]
  have hk9 : (sh S 9).1 = 1 := by rw [sk9 hS]
  have r04 : ∀ m', gR (mk S m') 8 (some 0) 4 = some (some 9) := fun m' => by rw [gR_k hk8, rk0_4 hS]
  have r05 : ∀ m', gR (mk S m') 8 (some 0) 5 = some (some 14) := fun m' => by rw [gR_k hk8, rk0_5 hS]
  have r02 : ∀ m', gR (mk S m') 8 (some 0) 2 = some (some 3) := fun m' => r0_2 hS
  have bad : (f_X8_spare (mk S m) (some 0) x y = some (-100000, mk S m)) → (f_X9_spare (mk S m) (some 50) x y = some (-100000, mk S m)) → RES (f_X8_spare (mk S m) (some 0) x y) (fun S1 m1 => f_X9_spare (mk S1 m1) (some 50) x y) := fun h1 h2 => op_same (a := -100000) hR0 h1 h2
  rcases i_in x (show eP E < 2 ^ 31 by omega) with ⟨a, haP, rfl⟩ | hno
  · have x1 := one_y haP (show eP E < 2 ^ 31 by omega)
    rcases i_in y (show eP E < 2 ^ 31 by omega) with ⟨b, hbP, rfl⟩ | hno
    · have x2 := one_y hbP (show eP E < 2 ^ 31 by omega)
      by_cases hab : a = b
      · subst hab
        refine bad ?_ ?_
        · unfold f_X8_spare
          simp only [r02, Option.bind_some, vc_k hk1, C_isOne g1, x1]
          rfl
        · unfold f_X9_spare
          simp only [vc_k hk, M_isOne g2, x1, Option.bind_some]
          rfl
      · clear bad
        have hpa : 2 ^ a ≤ 2 ^ 3 := Nat.pow_le_pow_right (by decide) (by omega)
        have hpb : 2 ^ b ≤ 2 ^ 3 := Nat.pow_le_pow_right (by decide) (by omega)
        have hor : 2 ^ a ||| 2 ^ b < 2 ^ 31 := Nat.or_lt_two_pow (by omega) (by omega)
        have ea : (1 : Int32) <<< (nI a &&& 31) = nI (2 ^ a) := shl1 (by omega)
        have eb : (1 : Int32) <<< (nI b &&& 31) = nI (2 ^ b) := shl1 (by omega)
        -- the class: first
        obtain ⟨m1, e1, way1, bk1, ag1⟩ := C_cheapest (set := 2 ^ a) (by omega) g1 (by decide)
        have agJ1 : Ag (ZJ S) m m1 := ag1.mono (fun b hb => zw_zj hb)
        have hC1 := g1.zj agJ1
        -- the model's side, wherever the class ends
        have model : ∀ (mc : Nat → Nat → Int32), Ag (ZJ S) m mc → ∃ L3 m3, MV (sLg S L3) m3 E l q ∧ m3 50 37 = nI 0 ∧ AgM ZM JM mc m3 ∧ f_X9_spare (mk S mc) (some 50) (nI a) (nI b) = some ((match chS E (2 ^ a ||| 2 ^ b) q, chS E (2 ^ a) q with | some z3, some z1 => (match chS E (2 ^ b) (goS E z1.2.2 z1.2.1 q) with | some z2 => nI z1.1 + nI z2.1 - nI z3.1 | none => -1) | _, _ => -1), mk (sLg S L3) m3) := by
          intro mc agc
          have hMc := g2.ofC agc zj_50
          have hc37 : mc 50 37 = nI 0 := by
            rw [agc 50 (zj_50 50 (by omega))]
            exact g3
          obtain ⟨L1, n1, f1, hM1, hB1, bk3, am1, kp1⟩ := M_finds (set := 2 ^ a ||| 2 ^ b) hor hMc
          obtain ⟨L2, n2, f2, hM2, hB2, bk1', am2, kp2⟩ := M_finds (set := 2 ^ a) (by omega) hM1
          have am12 : AgM ZM JM mc n2 := (am1.mono (fun b hb => zb_zm hb) (fun j hj => jw_jm hj)).tr (am2.mono (fun b hb => zb_zm hb) (fun j hj => jw_jm hj))
          have h372 : n2 50 37 = nI 0 := by
            rw [am2.2 37 (by unfold JW; omega), am1.2 37 (by unfold JW; omega)]
            exact hc37
          have start : f_X9_spare (mk S mc) (some 50) (nI a) (nI b) = if bO (fun x => x.1) (chS E (2 ^ a ||| 2 ^ b) q) = (-1 : Int32) then f_X9_spare_64 (mk (sLg S L2) n2) else if bO (fun x => x.1) (chS E (2 ^ a) q) = (-1 : Int32) then f_X9_spare_64 (mk (sLg S L2) n2) else ((vc (mk (sLg S L2) n2) 9 (some 50) (f_X9_keeps (mk (sLg S L2) n2) (some 50) ((15 : Int32)))).bind fun q7 => (vc q7 9 (some 50) (f_X9_goesCheapest q7 (some 50))).bind fun q8 => (vc q8 9 (some 50) (f_X9_findsCheapest q8 (some 50) (nI (2 ^ b)))).bind fun q9 => (vc q9 9 (some 50) (f_X9_laysBack q9 (some 50) ((15 : Int32)))).bind fun q10 => (gI q10 9 (some 50) 39).bind fun v11 => if v11 = ((-1 : Int32)) then (f_X9_spare_110 q10 ((-1 : Int32))) else ((gI q10 9 (some 50) 39).bind fun v12 => f_X9_spare_110 q10 ((bO (fun x => x.1) (chS E (2 ^ a) q) + v12) - bO (fun x => x.1) (chS E (2 ^ a ||| 2 ^ b) q)))) := by
            unfold f_X9_spare
            rw [vc_k hk, M_isOne hMc, x1, Option.bind_some, if_neg (show ¬ (1 : Int32) = 0 by decide), vc_k hk, M_isOne hMc, x2, Option.bind_some, if_neg (show ¬ (1 : Int32) = 0 by decide), if_neg (fun z => hab ((nI_eq (by omega) (by omega)).1 z)), vc_k hk, ea, eb, fa_or, f1, Option.bind_some, gI_k hM1.k, hB1.1, Option.bind_some, vc_k hM1.k, f2, Option.bind_some]
            show (gI (mk (sLg S L2) n2) 9 (some 50) 39).bind _ = _
            have hk2' : (sh (sLg S L2) 50).1 = 9 := hM2.k
            rw [gI_k hk2', hB2.1, Option.bind_some]
            rfl
          cases hb3 : chS E (2 ^ a ||| 2 ^ b) q with
          | none =>
            refine ⟨L2, n2, hM2, h372, am12, ?_⟩
            rw [start, hb3, if_pos (show bO (fun x => x.1) none = (-1 : Int32) from rfl)]
            rfl
          | some z3 =>
            have z3b := bk3 z3 hb3
            cases hb1 : chS E (2 ^ a) q with
            | none =>
              refine ⟨L2, n2, hM2, h372, am12, ?_⟩
              rw [start, hb3, hb1, if_neg (show ¬ bO (fun x => x.1) (some z3) = (-1 : Int32) from n_m1 z3.1 (by omega)), if_pos (show bO (fun x => x.1) none = (-1 : Int32) from rfl)]
              rfl
            | some z1 =>
              have z1b := bk1 z1 hb1
              have z1w := ch_dg hE hb1
              rw [hb1] at hB2
              obtain ⟨n3, f3, hM3, hK3, am3, _⟩ := M_keeps hM2 (d := 15) (by decide)
              obtain ⟨L4, n4, f4, hM4, am4⟩ := M_goesC hM3 z1w.1 z1w.2 (by rw [am3.2 40 id]; exact hB2.2.1) (by rw [am3.2 41 id]; exact hB2.2.2)
              obtain ⟨L5, n5, f5, hM5, hB5, bk5, am5, kp5⟩ := M_finds (set := 2 ^ b) (by omega) hM4
              have hK5 : KP n5 15 q := by
                unfold KP
                rw [kp5 _ (by omega), kp5 _ (by omega), kp5 _ (by omega), kp5 _ (by omega), am4.1 70 (by decide) (by unfold ZA; omega)]
                exact hK3
              obtain ⟨n6, f6, hM6, am6⟩ := M_lays hM5 (d := 15) (by decide) hK5 g2.2.2.2.2.1
              have hB6 := hB5.ag am6 (fun j hj => by unfold JQ; omega)
              have am6' : AgM ZM JM mc n6 := ((((am12.tr (am3.mono (fun b hb => by unfold Z70 at hb; unfold ZM; omega) (fun _ z => z.elim))).tr (am4.mono (fun b hb => by unfold ZA at hb; unfold ZM; omega) (fun j hj => by unfold JQ at hj; unfold JM; omega))).tr (am5.mono (fun b hb => zb_zm hb) (fun j hj => jw_jm hj))).tr (am6.mono (fun _ z => z.elim) (fun j hj => by unfold JQ at hj; unfold JM; omega)))
              have h376 : n6 50 37 = nI 0 := by
                rw [am6.2 37 (by unfold JQ; omega), am5.2 37 (by unfold JW; omega), am4.2 37 (by unfold JQ; omega), am3.2 37 id]
                exact h372
              refine ⟨L5, n6, hM6, h376, am6', ?_⟩
              rw [start, hb3, hb1, if_neg (show ¬ bO (fun x => x.1) (some z3) = (-1 : Int32) from n_m1 z3.1 (by omega)), if_neg (show ¬ bO (fun x => x.1) (some z1) = (-1 : Int32) from n_m1 z1.1 (by omega)), vc_k (show (sh (sLg S L2) 50).1 = 9 from hM2.k)]
              have f3' : f_X9_keeps (mk (sLg S L2) n2) (some 50) (15 : Int32) = _ := f3
              have f6' : f_X9_laysBack (mk (sLg (sLg (sLg (sLg S L1) L2) L4) L5) n5) (some 50) (15 : Int32) = _ := f6
              rw [f3', Option.bind_some, vc_k hM3.k, f4, Option.bind_some, vc_k hM4.k, f5, Option.bind_some, vc_k hM5.k, f6', Option.bind_some, gI_k hM6.k, hB6.1, Option.bind_some]
              cases hb2 : chS E (2 ^ b) (goS E z1.2.2 z1.2.1 q) with
              | none =>
                rw [if_pos (show bO (fun x => x.1) none = (-1 : Int32) from rfl)]
                show _ = some ((match chS E (2 ^ b) (goS E z1.2.2 z1.2.1 q) with | some z2 => nI z1.1 + nI z2.1 - nI z3.1 | none => -1), mk (sLg S L5) n6)
                rw [hb2]
                rfl
              | some z2 =>
                have z2b := bk5 z2 hb2
                rw [if_neg (show ¬ bO (fun x => x.1) (some z2) = (-1 : Int32) from n_m1 z2.1 (by omega)), Option.bind_some]
                show _ = some ((match chS E (2 ^ b) (goS E z1.2.2 z1.2.1 q) with | some z2 => nI z1.1 + nI z2.1 - nI z3.1 | none => -1), mk (sLg S L5) n6)
                rw [hb2]
                rfl
        have fin : ∀ (mc : Nat → Nat → Int32) (ans : Int32), Ag (ZJ S) m mc → f_X8_spare (mk S m) (some 0) (nI a) (nI b) = some (ans, mk S mc) → ans = (match chS E (2 ^ a ||| 2 ^ b) q, chS E (2 ^ a) q with | some z3, some z1 => (match chS E (2 ^ b) (goS E z1.2.2 z1.2.1 q) with | some z2 => nI z1.1 + nI z2.1 - nI z3.1 | none => -1) | _, _ => -1) → RES (f_X8_spare (mk S m) (some 0) (nI a) (nI b)) (fun S1 m1 => f_X9_spare (mk S1 m1) (some 50) (nI a) (nI b)) := by
          intro mc ans agc e he
          obtain ⟨L3, m3, hM3, h373, am3, e3⟩ := model mc agc
          rw [← he] at e3
          subst hEE
          exact op_mk e e3 ⟨d, P, N, l, T, wh, kd, td, mo, prs, q, RP.q ⟨hl, ⟨g1, g2, g3⟩, hO⟩ agc am3 hM3 h373⟩
        have cstart : f_X8_spare (mk S m) (some 0) (nI a) (nI b) = if bO (fun x => x.1) (chS E (2 ^ a) q) = (-1 : Int32) then some (-1, mk S m1) else ((gR (mk S m1) 8 (some 0) 4).bind fun v8 => (gR (mk S m1) 8 (some 0) 2).bind fun v9 => (vc (mk S m1) 1 v8 (f_X1_become (mk S m1) v8 v9)).bind fun q10 => (gR q10 8 (some 0) 4).bind fun v11 => (gR q10 8 (some 0) 5).bind fun v12 => (gI q10 7 v12 5).bind fun v13 => (vc q10 1 v11 (f_X1_follow q10 v11 v13)).bind fun q14 => (gR q14 8 (some 0) 5).bind fun v15 => (gR q14 8 (some 0) 4).bind fun v16 => (vc q14 7 v15 (f_X7_cheapest q14 v15 v16 (nI (2 ^ b)))).bind fun q17 => (gR q17.2 8 (some 0) 5).bind fun v18 => (gR q17.2 8 (some 0) 2).bind fun v19 => (vc q17.2 7 v18 (f_X7_cheapest q17.2 v18 v19 (nI (2 ^ a ||| 2 ^ b)))).bind fun q20 => if q17.1 = ((-1 : Int32)) then (f_X8_spare_125 q20.2) else (if q20.1 = ((-1 : Int32)) then (f_X8_spare_125 q20.2) else (some ((bO (fun x => x.1) (chS E (2 ^ a) q) + q17.1) - q20.1, q20.2)))) := by
          unfold f_X8_spare
          rw [r02, Option.bind_some, vc_k hk1, C_isOne g1, x1, Option.bind_some, if_neg (show ¬ (1 : Int32) = 0 by decide)]
          rw [r02, Option.bind_some, vc_k hk1, C_isOne g1, x2, Option.bind_some, if_neg (show ¬ (1 : Int32) = 0 by decide), if_neg (fun z => hab ((nI_eq (by omega) (by omega)).1 z))]
          rw [r05, Option.bind_some, r02, Option.bind_some, vc_k hk7, ea, eb, fa_or, e1, Option.bind_some]
        cases hb1 : chS E (2 ^ a) q with
        | none =>
          refine fin m1 (-1) agJ1 ?_ ?_
          · rw [cstart, hb1, if_pos (show bO (fun x => x.1) none = (-1 : Int32) from rfl)]
          · rw [hb1]
            cases chS E (2 ^ a ||| 2 ^ b) q <;> rfl
        | some z1 =>
          have z1b := bk1 z1 hb1
          have z1w := ch_dg hE hb1
          obtain ⟨m2, e2, hC2, ag2⟩ := C_become hC1 (g := 9) (Or.inr (Or.inr (Or.inl rfl))) (by decide)
          have e14 : m2 14 5 = nI z1.2.2 := by
            rw [ag2 14 (by omega)]
            exact way1 z1 hb1
          obtain ⟨m3, e3, hC3, ag3⟩ := C_follow hC2 z1w.1 z1w.2
          obtain ⟨m4, e4, _, bk4, ag4⟩ := C_cheapest (set := 2 ^ b) (by omega) hC3 (by decide)
          have agJ2 : Ag (ZJ S) m1 m2 := ag2.mono (fun b hb => Or.inr (Or.inl (by omega)))
          have agJ3 : Ag (ZJ S) m2 m3 := ag3.mono (fun b hb => by
            rcases hb with z | z | z
            · exact Or.inr (Or.inl (by omega))
            · exact Or.inr (Or.inl (by omega))
            · exact Or.inr (Or.inr z))
          have agJ4 : Ag (ZJ S) m3 m4 := ag4.mono (fun b hb => zw_zj hb)
          have agJ14 : Ag (ZJ S) m m4 := ((agJ1.tr agJ2).tr agJ3).tr agJ4
          have hC4 := g1.zj agJ14
          obtain ⟨m5, e5, _, bk5, ag5⟩ := C_cheapest (set := 2 ^ a ||| 2 ^ b) hor hC4 (by decide)
          have agJ5 : Ag (ZJ S) m m5 := agJ14.tr (ag5.mono (fun b hb => zw_zj hb))
          have cend : f_X8_spare (mk S m) (some 0) (nI a) (nI b) = if bO (fun x => x.1) (chS E (2 ^ b) (goS E z1.2.2 z1.2.1 q)) = ((-1 : Int32)) then (f_X8_spare_125 (mk S m5)) else (if bO (fun x => x.1) (chS E (2 ^ a ||| 2 ^ b) q) = ((-1 : Int32)) then (f_X8_spare_125 (mk S m5)) else (some ((nI z1.1 + bO (fun x => x.1) (chS E (2 ^ b) (goS E z1.2.2 z1.2.1 q))) - bO (fun x => x.1) (chS E (2 ^ a ||| 2 ^ b) q), mk S m5))) := by
            rw [cstart, hb1, if_neg (show ¬ bO (fun x => x.1) (some z1) = (-1 : Int32) from n_m1 z1.1 (by omega)), r04, Option.bind_some, r02, Option.bind_some, vc_k hk9, e2, Option.bind_some, r04, Option.bind_some, r05, Option.bind_some, gI_k hk7, e14, Option.bind_some, vc_k hk9, e3, Option.bind_some, r05, Option.bind_some, r04, Option.bind_some, vc_k hk7, e4, Option.bind_some]
            show (gR (mk S m4) 8 (some 0) 5).bind _ = _
            rw [r05, Option.bind_some]
            show (gR (mk S m4) 8 (some 0) 2).bind _ = _
            rw [r02, Option.bind_some]
            show (vc (mk S m4) 7 (some 14) (f_X7_cheapest (mk S m4) (some 14) (some 3) (nI (2 ^ a ||| 2 ^ b)))).bind _ = _
            rw [vc_k hk7, e5, Option.bind_some]
            rfl
          cases hb2 : chS E (2 ^ b) (goS E z1.2.2 z1.2.1 q) with
          | none =>
            refine fin m5 (-1) agJ5 ?_ ?_
            · rw [cend, hb2, if_pos (show bO (fun x => x.1) none = (-1 : Int32) from rfl)]
              rfl
            · rw [hb1]
              cases chS E (2 ^ a ||| 2 ^ b) q with
              | none => rfl
              | some z3 =>
                show _ = (match chS E (2 ^ b) (goS E z1.2.2 z1.2.1 q) with | some z2 => _ | none => _)
                rw [hb2]
          | some z2 =>
            have z2b := bk4 z2 hb2
            cases hb3 : chS E (2 ^ a ||| 2 ^ b) q with
            | none =>
              refine fin m5 (-1) agJ5 ?_ ?_
              · rw [cend, hb2, hb3, if_neg (show ¬ bO (fun x => x.1) (some z2) = (-1 : Int32) from n_m1 z2.1 (by omega)), if_pos (show bO (fun x => x.1) none = (-1 : Int32) from rfl)]
                rfl
              · rw [hb1, hb3]
            | some z3 =>
              have z3b := bk5 z3 hb3
              refine fin m5 (nI z1.1 + nI z2.1 - nI z3.1) agJ5 ?_ ?_
              · rw [cend, hb2, hb3, if_neg (show ¬ bO (fun x => x.1) (some z2) = (-1 : Int32) from n_m1 z2.1 (by omega)), if_neg (show ¬ bO (fun x => x.1) (some z3) = (-1 : Int32) from n_m1 z3.1 (by omega))]
                rfl
              · rw [hb1, hb3]
                show _ = (match chS E (2 ^ b) (goS E z1.2.2 z1.2.1 q) with | some z2 => _ | none => _)
                rw [hb2]
    · have x2 := one_n hno
      refine bad ?_ ?_
      · unfold f_X8_spare
        simp only [r02, Option.bind_some, vc_k hk1, C_isOne g1, x1, x2]
        rfl
      · unfold f_X9_spare
        simp only [vc_k hk, M_isOne g2, x1, x2, Option.bind_some]
        rfl
  · have x1 := one_n hno
    refine bad ?_ ?_
    · unfold f_X8_spare
      simp only [r02, Option.bind_some, vc_k hk1, C_isOne g1, x1]
      rfl
    · unfold f_X9_spare
      simp only [vc_k hk, M_isOne g2, x1, Option.bind_some]
      rfl
