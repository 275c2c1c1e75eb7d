/-! PURE: calls: mean -/
theorem i_rng2 (x : Int32) {lo hi : Nat} (hlo : lo < 2 ^ 30) (hh : hi < 2 ^ 30) : (∃ k, (lo ≤ k ∧ k ≤ hi) ∧ x = nI k) ∨ (x < nI lo ∨ (¬ x < nI lo ∧ nI hi < x)) := by
  by_cases z : x < nI lo
  · exact Or.inr (Or.inl z)
  · have z0 : ¬ x < 0 := fun y => z (by
      rw [Int32.lt_iff_toInt_lt] at y ⊢
      have e1 : (0 : Int32).toInt = 0 := by decide
      rw [nI_toInt (by omega)]
      omega)
    obtain ⟨k, hk, rfl⟩ := i_of z0
    rw [nI_ltI hk (by omega)] at z
    by_cases y : k ≤ hi
    · exact Or.inl ⟨k, ⟨by omega, y⟩, rfl⟩
    · exact Or.inr (Or.inr ⟨by rw [nI_ltI hk (by omega)]; exact z, (nI_ltI (by omega) hk).2 (by omega)⟩)
def ptS (E : EN) (q : QS) (sd : Nat) : Nat := pc7 (drS E 14 (sd + 1) q).2.2.1
def meS (E : EN) (q : QS) (sd : Nat) : Nat → Nat → Nat → Nat
  | 0, _, a => a
  | r + 1, i, a => meS E q sd r (i + 1) (a + ptS E q (sd + i))
theorem pc7_le (n : Nat) : pc7 n ≤ 7 := by
  unfold pc7
  omega
theorem me_le (E : EN) (q : QS) (sd : Nat) : ∀ r i a, meS E q sd r i a ≤ a + 7 * r
  | 0, _, _ => Nat.le_refl _
  | r + 1, i, a => by
    have h := me_le E q sd r (i + 1) (a + ptS E q (sd + i))
    have h2 := pc7_le (drS E 14 (sd + i + 1) q).2.2.1
    show meS E q sd r (i + 1) (a + ptS E q (sd + i)) ≤ _
    have h3 : ptS E q (sd + i) ≤ 7 := h2
    omega
theorem X8_gcd {h : XM} {A K : Nat} (hA : A < 2 ^ 30) (hK : K ≤ 40) (hK1 : 1 ≤ K) : ∀ (i f : Nat), i < f → 1 ≤ i → i ≤ 40 → Nat.gcd A K ≤ i → f_X8_commonDivisor_2 f h (nI A) (nI K) (nI i) = some (nI (Nat.gcd A K), h) := by
  have hg0 : 0 < Nat.gcd A K := Nat.gcd_pos_of_pos_right A hK1
  intro i
  induction i with
  | zero => intro f _ h1; omega
  | succ i ih =>
    intro f hf _ hi40 hg
    obtain ⟨f, rfl⟩ : ∃ k, f = k + 1 := ⟨f - 1, by omega⟩
    show fb_X8_commonDivisor_2 (f_X8_commonDivisor_2 f) h (nI A) (nI K) (nI (i + 1)) = _
    unfold fb_X8_commonDivisor_2
    by_cases h1 : i = 0
    · subst h1
      rw [if_neg (show ¬ (1 : Int32) < nI (0 + 1) by decide)]
      have : Nat.gcd A K = 1 := by omega
      rw [this]
      rfl
    · have e21 : f_X8_commonDivisor_21 (f_X8_commonDivisor_2 f) h (nI A) (nI K) (nI (i + 1)) = f_X8_commonDivisor_2 f h (nI A) (nI K) (nI i) := by
        unfold f_X8_commonDivisor_21
        rw [bnd_eq, m1_pre]
      rw [if_pos (show (1 : Int32) < nI (i + 1) from (nI_ltI (a := 1) (by omega) (by omega)).2 (by omega)), irem_n (by omega) (by omega) (by omega), Option.bind_some]
      by_cases d1 : A % (i + 1) = 0
      · rw [d1, if_pos (show nI 0 = (0 : Int32) from rfl), irem_n (by omega) (by omega) (by omega), Option.bind_some]
        by_cases d2 : K % (i + 1) = 0
        · have hd : i + 1 ∣ Nat.gcd A K := Nat.dvd_gcd (Nat.dvd_of_mod_eq_zero d1) (Nat.dvd_of_mod_eq_zero d2)
          have := Nat.le_of_dvd hg0 hd
          rw [d2, if_pos (show nI 0 = (0 : Int32) from rfl), show Nat.gcd A K = i + 1 by omega]
        · have hne : Nat.gcd A K ≠ i + 1 := fun e => d2 (Nat.mod_eq_zero_of_dvd (e ▸ Nat.gcd_dvd_right A K))
          rw [if_neg (show ¬ nI (K % (i + 1)) = (0 : Int32) from fun y => d2 ((nI_eq (b := 0) (by have := Nat.mod_le K (i + 1); omega) (by omega)).1 y)), e21]
          exact ih f (by omega) (by omega) (by omega) (by omega)
      · have hne : Nat.gcd A K ≠ i + 1 := fun e => d1 (Nat.mod_eq_zero_of_dvd (e ▸ Nat.gcd_dvd_left A K))
        rw [if_neg (show ¬ nI (A % (i + 1)) = (0 : Int32) from fun y => d1 ((nI_eq (b := 0) (by have := Nat.mod_le A (i + 1); omega) (by omega)).1 y)), e21]
        exact ih f (by omega) (by omega) (by omega) (by omega)
theorem lgz {b : Nat} (h : ¬ b = 0) (h2 : b < 2 ^ 63) : ¬ lg_cmp (lN b) (0 : Int64) = 0 := fun z => h ((pk_lEQ (b := 0) h2 (by decide)).1 (lg_cmp0.1 z))
theorem X9_euclid {h : XM} {A K p : Nat} (hp : p ≤ 1) (hA : A < 2 ^ 30) (hK : K < 2 ^ 30) : ∀ (b f a : Nat), b < f → a < 2 ^ 30 → b < 2 ^ 30 → 0 < Nat.gcd a b → f_X9_lowest_16 f h (lN A) (lN K) (nI p) (lN a) (lN b) = some (lN ((if p = 0 then A else K) / Nat.gcd a b), h) := by
  intro b
  induction b using Nat.strongRecOn with
  | ind b ih =>
    intro f a hf ha hb hg
    obtain ⟨f, rfl⟩ : ∃ k, f = k + 1 := ⟨f - 1, by omega⟩
    show fb_X9_lowest_16 (f_X9_lowest_16 f) h (lN A) (lN K) (nI p) (lN a) (lN b) = _
    unfold fb_X9_lowest_16
    by_cases hb0 : b = 0
    · subst hb0
      rw [if_pos (lg_cmp0.2 (show lN 0 = (0 : Int64) from rfl)), Nat.gcd_zero_right]
      rw [Nat.gcd_zero_right] at hg
      rcases (show p = 0 ∨ p = 1 by omega) with rfl | rfl
      · rw [if_pos (show nI 0 = (0 : Int32) from rfl), if_pos rfl]
        unfold f_X9_lowest_51
        rw [ldiv_n (by omega) hg (by omega), Option.bind_some]
      · rw [if_neg (show ¬ nI 1 = (0 : Int32) by decide), if_neg (by decide)]
        unfold f_X9_lowest_51
        rw [ldiv_n (by omega) hg (by omega), Option.bind_some]
    · have hml := Nat.mod_lt a (show b > 0 by omega)
      have hgr : Nat.gcd a b = Nat.gcd b (a % b) := by
        rw [Nat.gcd_comm a b, Nat.gcd_rec b a, Nat.gcd_comm]
      rw [if_neg (lgz hb0 (by omega)), lrem_n (by omega) (by omega) (by omega), Option.bind_some, hgr]
      exact ih (a % b) hml f b (by omega) hb (by omega) (by rw [← hgr]; exact hg)
theorem C_mean {S : SK} {E : EN} {l sd K p : Nat} {q : QS} (hsd : sd ≤ 99999) (hK : K ≤ 40) (hK1 : 1 ≤ K) (hp : p ≤ 1) : ∀ (r f i : Nat) (m : Nat → Nat → Int32) (a : Nat), i + r = K → r < f → a ≤ 7 * i → CI S m 3 E l q →
    ∃ m2, f_X8_mean_45 f (mk S m) (some 0) (nI sd) (nI K) (nI p) (nI a) (nI i) = some (lN ((if p = 0 then meS E q sd r i a else K) / Nat.gcd (meS E q sd r i a) K), mk S m2) ∧ Ag (ZJ S) m m2 := by
  intro r
  induction r with
  | zero =>
    intro f i m a hi hf ha hC
    obtain ⟨f, rfl⟩ : ∃ k, f = k + 1 := ⟨f - 1, by omega⟩
    refine ⟨m, ?_, Ag.rf⟩
    have hgp : 0 < Nat.gcd a K := Nat.gcd_pos_of_pos_right a hK1
    have hgK : Nat.gcd a K ≤ K := Nat.le_of_dvd (by omega) (Nat.gcd_dvd_right a K)
    show fb_X8_mean_45 (f_X8_mean_45 f) (mk S m) (some 0) (nI sd) (nI K) (nI p) (nI a) (nI i) = some (lN ((if p = 0 then a else K) / Nat.gcd a K), mk S m)
    unfold fb_X8_mean_45 f_X8_commonDivisor
    rw [if_neg (by rw [nI_ltI (by omega) (by omega)]; omega), X8_gcd (by omega) hK hK1 K FU (by unfold FU; omega) hK1 hK hgK, Option.bind_some, if_neg (show ¬ nI (Nat.gcd a K) < (1 : Int32) from fun y => by have := (nI_ltI (b := 1) (by omega) (by omega)).1 y; omega)]
    unfold f_X8_mean_98
    rcases (show p = 0 ∨ p = 1 by omega) with rfl | rfl
    · have hd := Nat.div_le_self a (Nat.gcd a K)
      rw [if_pos (show nI 0 = (0 : Int32) from rfl), idiv_n (by omega) hgp (by omega), Option.bind_some, nI_l (by omega), if_pos rfl]
    · have hd := Nat.div_le_self K (Nat.gcd a K)
      rw [if_neg (show ¬ nI 1 = (0 : Int32) by decide), idiv_n (by omega) hgp (by omega), Option.bind_some, nI_l (by omega), if_neg (by decide)]
  | succ r ih =>
    intro f i m a hi hf ha hC
    obtain ⟨f, rfl⟩ : ∃ k, f = k + 1 := ⟨f - 1, by omega⟩
    have hk8 : (sh S 0).1 = 8 := by rw [sk0 hC.1.1]
    obtain ⟨m1, e1, ag1⟩ := C_inside hC (sd := sd + i) (by omega)
    have h7 : ptS E q (sd + i) ≤ 7 := pc7_le _
    obtain ⟨m2, e2, ag2⟩ := ih f (i + 1) m1 (a + ptS E q (sd + i)) (by omega) (by omega) (by omega) (hC.zj ag1)
    refine ⟨m2, ?_, ag1.tr ag2⟩
    show fb_X8_mean_45 (f_X8_mean_45 f) (mk S m) (some 0) (nI sd) (nI K) (nI p) (nI a) (nI i) = _
    unfold fb_X8_mean_45
    rw [if_pos (by rw [nI_ltI (by omega) (by omega)]; omega), vc_k hk8, nI_add, e1, Option.bind_some, bnd_eq, bnd_eq, nI_add, show nI i + (1 : Int32) = nI (i + 1) from nI_add i 1]
    exact e2
theorem M_mean {E : EN} {l sd K p : Nat} {q : QS} (hsd : sd ≤ 99999) (hK : K ≤ 40) (hK1 : 1 ≤ K) (hp : p ≤ 1) : ∀ (r f i : Nat) (S : SK) (m : Nat → Nat → Int32) (a : Nat), i + r = K → r < f → a ≤ 7 * i → MV S m E l q →
    ∃ L m2, f_X9_mean_40 f (mk S m) (some 50) (nI sd) (nI K) (nI p) (lN a) (nI i) = some (lN ((if p = 0 then meS E q sd r i a else K) / Nat.gcd (meS E q sd r i a) K), mk (sLg S L) m2) ∧ MV (sLg S L) m2 E l q ∧ AgM ZB JQ m m2 := by
  intro r
  induction r with
  | zero =>
    intro f i S m a hi hf ha hM
    obtain ⟨f, rfl⟩ : ∃ k, f = k + 1 := ⟨f - 1, by omega⟩
    have hgp : 0 < Nat.gcd a K := Nat.gcd_pos_of_pos_right a hK1
    refine ⟨lg S, m, ?_, hM, AgM.rf⟩
    show fb_X9_mean_40 (f_X9_mean_40 f) (mk S m) (some 50) (nI sd) (nI K) (nI p) (lN a) (nI i) = some (lN ((if p = 0 then a else K) / Nat.gcd a K), mk S m)
    unfold fb_X9_mean_40 f_X9_lowest
    rw [if_neg (by rw [nI_ltI (by omega) (by omega)]; omega), nI_l (show K < 2 ^ 31 by omega), nI_l (show p < 2 ^ 31 by omega)]
    by_cases ha0 : a = 0
    · subst ha0
      rw [if_pos (lg_cmp0.2 (show lN 0 = (0 : Int64) from rfl)), Option.bind_some, Nat.gcd_zero_left]
      rcases (show p = 0 ∨ p = 1 by omega) with rfl | rfl
      · rw [if_pos rfl, Nat.zero_div]
      · rw [if_neg (by decide), Nat.div_self hK1]
    · rw [if_neg (lgz ha0 (by omega)), X9_euclid hp (by omega) (by omega) K FU a (by unfold FU; omega) (by omega) (by omega) hgp, Option.bind_some]
  | succ r ih =>
    intro f i S m a hi hf ha hM
    obtain ⟨f, rfl⟩ : ∃ k, f = k + 1 := ⟨f - 1, by omega⟩
    obtain ⟨L1, m1, e1, hM1, ag1⟩ := M_inside hM (sd := sd + i) (by omega)
    have h7 : ptS E q (sd + i) ≤ 7 := pc7_le _
    obtain ⟨L2, m2, e2, hM2, ag2⟩ := ih f (i + 1) (sLg S L1) m1 (a + ptS E q (sd + i)) (by omega) (by omega) (by omega) hM1
    refine ⟨L2, m2, ?_, hM2, ag1.tr ag2⟩
    show fb_X9_mean_40 (f_X9_mean_40 f) (mk S m) (some 50) (nI sd) (nI K) (nI p) (lN a) (nI i) = _
    have h7' : pc7 (drS E 14 (sd + i + 1) q).2.2.1 ≤ 7 := h7
    unfold fb_X9_mean_40
    rw [if_pos (by rw [nI_ltI (by omega) (by omega)]; omega), vc_k hM.k, nI_add, e1, Option.bind_some, bnd_eq, bnd_eq, nI_l (by omega), lN_add, show nI i + (1 : Int32) = nI (i + 1) from nI_add i 1]
    exact e2
theorem op_mean {S : SK} {m : Nat → Nat → Int32} (hR : RR S m) (x y z : Int32) : RESL (f_X8_mean (mk S m) (some 0) x y z) (fun S1 m1 => f_X9_mean (mk S1 m1) (some 50) x y z) := by
  have hR0 := hR
  have hS := hR.ok
  have hk8 : (sh S 0).1 = 8 := by rw [sk0 hS]
  have hk1 : (sh S 3).1 = 1 := by rw [sk3 hS]
  have hk : (sh S 50).1 = 9 := by rw [sk50 hS]
  obtain ⟨d, P, N, l, T, wh, kd, td, mo, prs, q, h⟩ := hR
  obtain ⟨hl, ⟨g1, g2, g3⟩, hO⟩ := h
  have bad : f_X8_mean (mk S m) (some 0) x y z = some (-4611686018427387904, mk S m) → f_X9_mean (mk S m) (some 50) x y z = some (-4611686018427387904, mk S m) → RESL (f_X8_mean (mk S m) (some 0) x y z) (fun S1 m1 => f_X9_mean (mk S1 m1) (some 50) x y z) := fun h1 h2 => ⟨_, S, m, S, m, h1, h2, hR0, sk50 hS⟩
  rcases i_rng x (B := 99999) (by decide) with ⟨sd, hsd, rfl⟩ | hbad
  · rcases i_rng2 y (lo := 1) (hi := 40) (by decide) (by decide) with ⟨K, ⟨hK1, hK⟩, rfl⟩ | hbad
    · have cK : ∀ {α : Type} (A B C : α), (if nI K < (1 : Int32) then A else if (40 : Int32) < nI K then B else C) = C := fun A B C => by
        rw [if_neg (show ¬ nI K < (1 : Int32) from fun u => by have := (nI_ltI (b := 1) (by omega) (by omega)).1 u; omega), if_neg (show ¬ (40 : Int32) < nI K from fun u => by have := (nI_ltI (a := 40) (by omega) (by omega)).1 u; omega)]
      rcases i_rng z (B := 1) (by decide) with ⟨p, hp, rfl⟩ | hbad
      · clear bad
        obtain ⟨m1, e1, agJ⟩ := C_mean (p := p) hsd hK hK1 hp K FU 0 m 0 (by omega) (by unfold FU; omega) (by omega) g1
        have hM1 := g2.ofC agJ zj_50
        obtain ⟨L, m2, e2, hM2, ag2⟩ := M_mean (p := p) hsd hK hK1 hp K FU 0 S m1 0 (by omega) (by unfold FU; omega) (by omega) hM1
        have h37 : m2 50 37 = nI 0 := by
          rw [ag2.2 37 (by unfold JQ; omega), agJ 50 (zj_50 50 (by omega))]
          exact g3
        refine ⟨lN ((if p = 0 then meS (mkE d P N wh kd td mo (prs l)) q sd K 0 0 else K) / Nat.gcd (meS (mkE d P N wh kd td mo (prs l)) q sd K 0 0) K), S, m1, sLg S L, m2, ?_, ?_, ⟨d, P, N, l, T, wh, kd, td, mo, prs, q, RP.q ⟨hl, ⟨g1, g2, g3⟩, hO⟩ agJ (ag2.mono (fun b hb => zb_zm hb) (fun j hj => jq_jm hj)) hM2 h37⟩, sk50 hS⟩
        · unfold f_X8_mean
          rw [ifr_y (b := 99999) (B := 99999) rfl hsd (by decide), cK, ifr_y (b := 1) (B := 1) rfl hp (by decide)]
          exact e1
        · show f_X9_mean (mk S m1) (some 50) (nI sd) (nI K) (nI p) = _
          unfold f_X9_mean
          rw [X9_in, ifr_y (b := 99999) (B := 99999) rfl hsd (by decide), Option.bind_some, if_neg (show ¬ (1 : Int32) = 0 by decide), X9_in, cK, Option.bind_some, if_neg (show ¬ (1 : Int32) = 0 by decide), X9_in, ifr_y (b := 1) (B := 1) rfl hp (by decide), Option.bind_some, if_neg (show ¬ (1 : Int32) = 0 by decide), bnd_eq]
          exact e2
      · refine bad ?_ ?_
        · unfold f_X8_mean
          rw [ifr_y (b := 99999) (B := 99999) rfl hsd (by decide), cK, ifr_n (b := 1) (B := 1) rfl hbad]
          rfl
        · unfold f_X9_mean
          rw [X9_in, ifr_y (b := 99999) (B := 99999) rfl hsd (by decide), Option.bind_some, if_neg (show ¬ (1 : Int32) = 0 by decide), X9_in, cK, Option.bind_some, if_neg (show ¬ (1 : Int32) = 0 by decide), X9_in, ifr_n (b := 1) (B := 1) rfl hbad, Option.bind_some, if_pos rfl]
          rfl
    · have cK : ∀ {α : Type} (A C : α), (if y < (1 : Int32) then A else if (40 : Int32) < y then A else C) = A := fun A C => by
        rcases hbad with u | ⟨u, u2⟩
        · rw [if_pos (show y < (1 : Int32) from u)]
        · rw [if_neg (show ¬ y < (1 : Int32) from u), if_pos (show (40 : Int32) < y from u2)]
      refine bad ?_ ?_
      · unfold f_X8_mean
        rw [ifr_y (b := 99999) (B := 99999) rfl hsd (by decide), cK]
        rfl
      · unfold f_X9_mean
        rw [X9_in, ifr_y (b := 99999) (B := 99999) rfl hsd (by decide), Option.bind_some, if_neg (show ¬ (1 : Int32) = 0 by decide), X9_in, cK, Option.bind_some, if_pos rfl]
        rfl
  · refine bad ?_ ?_
    · unfold f_X8_mean
      rw [ifr_n (b := 99999) (B := 99999) rfl hbad]
      rfl
    · unfold f_X9_mean
      rw [X9_in, ifr_n (b := 99999) (B := 99999) rfl hbad, Option.bind_some, if_pos rfl]
      rfl
