/-! PURE: the rests that one can make: what is walked, and the reference -/
def lmS (E : EN) (p x : Nat) : Nat := omS (eW E) p (eN E) ^^^ (omS (eW E) p (eN E) &&& x)
theorem lm_bit (E : EN) (p x c : Nat) : (lmS E p x).testBit c = true ↔ c < eN E ∧ eW E c = p ∧ x.testBit c = false := by
  have h := om_bit (eW E) p (eN E) c
  unfold lmS
  rw [tb_diff]
  constructor
  · intro z
    have z' : (omS (eW E) p (eN E)).testBit c = true ∧ x.testBit c = false := by simpa using z
    exact ⟨(h.1 z'.1).1, (h.1 z'.1).2, z'.2⟩
  · rintro ⟨a, b, c'⟩
    rw [h.2 ⟨a, b⟩, c']
    rfl
theorem lm_set (E : EN) (p x c : Nat) : lmS E p (x ||| 2 ^ c) = lmS E p x ^^^ (lmS E p x &&& 2 ^ c) := by
  apply Nat.eq_of_testBit_eq
  intro i
  unfold lmS
  rw [tb_diff, tb_diff, tb_diff, tb_set, Nat.testBit_two_pow]
  cases (omS (eW E) p (eN E)).testBit i <;> cases x.testBit i <;> cases decide (c = i) <;> rfl
def rlS (E : EN) (rec : Nat → Nat → Nat → Nat) (s L : Nat) : Nat → Nat → Nat → Nat
  | 0, _, a => a
  | r + 1, i, a => rlS E rec s L r (i + 1) (if L.testBit i = true then rec (min (s + cnS (eK E i) (eT E i) (eM E i) s) 9999) (L ^^^ (L &&& 2 ^ i)) a else a)
def rrS (E : EN) : Nat → Nat → Nat → Nat → Nat
  | 0, _, _, a => a
  | n + 1, s, L, a => rlS E (rrS E n) s L (eN E) 0 (a ||| 2 ^ (s % eD E))
theorem rl_lt {E : EN} {rec : Nat → Nat → Nat → Nat} (hr : ∀ s L a, a < 2 ^ 20 → rec s L a < 2 ^ 20) (s L : Nat) : ∀ r i a, a < 2 ^ 20 → rlS E rec s L r i a < 2 ^ 20
  | 0, _, _, h => h
  | r + 1, i, a, h => by
    apply rl_lt hr s L r (i + 1)
    split
    · exact hr _ _ _ h
    · exact h
theorem rest_lt {E : EN} (hE : EOK E) (s : Nat) : s % eD E < 20 := by
  have h := hE.1
  have := Nat.mod_lt s (show eD E > 0 by omega)
  omega
theorem rr_lt {E : EN} (hE : EOK E) : ∀ n s L a, a < 2 ^ 20 → rrS E n s L a < 2 ^ 20
  | 0, _, _, _, h => h
  | n + 1, s, L, a, h => by
    refine rl_lt (rr_lt hE n) s L (eN E) 0 _ (Nat.or_lt_two_pow h ?_)
    exact Nat.pow_lt_pow_right (by decide) (rest_lt hE s)
def JR (j : Nat) : Prop := j = 1 ∨ j = 2 ∨ j = 4 ∨ j = 10 ∨ j = 42
theorem M_rests {E : EN} {l p : Nat} (hp : p < 4) : ∀ (n : Nat) (S : SK) (m : Nat → Nat → Int32) (q : QS) (d a : Nat), MV S m E l q → m 50 42 = nI a → a < 2 ^ 20 → frS E q < n → d + frS E q ≤ 7 →
    ∃ L m2, f_X9_restsFrom n (mk S m) (some 50) (nI p) (nI d) = some (mk (sLg S L) m2) ∧ MV (sLg S L) m2 E l q ∧ m2 50 42 = nI (rrS E n q.1 (lmS E p q.2.2.2) a) ∧ AgM ZB JR m m2 ∧ ∀ j, j < 4 * d → m2 70 j = m 70 j := by
  intro n
  induction n with
  | zero =>
    intro S m q d a _ _ _ h
    exact absurd h (Nat.not_lt_zero _)
  | succ n ih =>
    intro S m q d a hM ha ha2 hn hd
    have hS := hM.1
    have hE := hM.2.1
    have hN := hE.2.2.1
    have hk : (sh S 50).1 = 9 := by rw [sk50 hS]
    have g := hM.2.2.2.1
    have hq := hM.2.2.2.2.1
    have hD := hE.1
    have hrl := rest_lt hE q.1
    have ha3 : a ||| 2 ^ (q.1 % eD E) < 2 ^ 20 := Nat.or_lt_two_pow ha2 (Nat.pow_lt_pow_right (by decide) hrl)
    have ag0 : AgM (fun _ => False) (fun j => j = 42) m (w2 m 50 42 (nI (a ||| 2 ^ (q.1 % eD E)))) := AgM.w50 (Z := fun _ => False) (J := fun j => j = 42) AgM.rf rfl
    have hM0 := hM.ag ag0 (fun _ _ => id) (fun j hj => by omega)
    obtain ⟨m1, e1, hI1, hK1, ag1, hlo1⟩ := M_keeps hM0 (d := d) (by omega)
    have loop : ∀ (r f i : Nat) (S : SK) (m : Nat → Nat → Int32) (a : Nat), i + r = eN E → r < f → MV S m E l q → m 50 42 = nI a → a < 2 ^ 20 → KP m d q →
        ∃ L m2, f_X9_restsFrom_27 (f_X9_restsFrom n) f (mk S m) (some 50) (nI p) (nI d) (nI i) = some (mk (sLg S L) m2) ∧ MV (sLg S L) m2 E l q ∧ m2 50 42 = nI (rlS E (rrS E n) q.1 (lmS E p q.2.2.2) r i a) ∧ AgM ZB JR m m2 ∧ ∀ j, j < 4 * d → m2 70 j = m 70 j := by
      intro r
      induction r with
      | zero =>
        intro f i S m a hi hr hM ha ha2 hK
        obtain ⟨f, rfl⟩ : ∃ k, f = k + 1 := ⟨f - 1, by omega⟩
        have hk : (sh S 50).1 = 9 := by rw [sk50 hM.1]
        refine ⟨lg S, m, ?_, hM, ha, AgM.rf, fun j _ => rfl⟩
        show fb_X9_restsFrom_27 (f_X9_restsFrom n) (f_X9_restsFrom_27 (f_X9_restsFrom n) f) _ _ _ _ _ = _
        unfold fb_X9_restsFrom_27
        rw [gI_k hk, hM.2.2.2.1.2.2.2.2.2.1, Option.bind_some, if_neg (by rw [nI_ltI (by omega) (by omega)]; omega)]
        rfl
      | succ r ihr =>
        intro f i S m a hi hr hM ha ha2 hK
        obtain ⟨f, rfl⟩ : ∃ k, f = k + 1 := ⟨f - 1, by omega⟩
        have hS := hM.1
        have hk : (sh S 50).1 = 9 := by rw [sk50 hM.1]
        have g := hM.2.2.2.1
        have hwh := M_whose hM (c := i) (by omega)
        have hEi := hE.2.2.2 i (by omega)
        have hP := hE.2.1
        have z2 := p128 hE.2.2.1 hq.2.2.2
        have hlm := lm_bit E p q.2.2.2 i
        have e99 : ∀ (h : XM) (f' : Nat), f_X9_restsFrom_99 (f_X9_restsFrom n) (f_X9_restsFrom_27 (f_X9_restsFrom n) f') h (some 50) (nI p) (nI d) (nI i) = f_X9_restsFrom_27 (f_X9_restsFrom n) f' h (some 50) (nI p) (nI d) (nI (i + 1)) := by
          intro h f'
          unfold f_X9_restsFrom_99
          rw [bnd_eq, show nI i + (1 : Int32) = nI (i + 1) from nI_add i 1]
        have skip : ¬ (lmS E p q.2.2.2).testBit i = true → ∃ L m2, f_X9_restsFrom_27 (f_X9_restsFrom n) f (mk S m) (some 50) (nI p) (nI d) (nI (i + 1)) = some (mk (sLg S L) m2) ∧ MV (sLg S L) m2 E l q ∧ m2 50 42 = nI (rlS E (rrS E n) q.1 (lmS E p q.2.2.2) (r + 1) i a) ∧ AgM ZB JR m m2 ∧ ∀ j, j < 4 * d → m2 70 j = m 70 j := by
          intro hno
          have ew2 : rlS E (rrS E n) q.1 (lmS E p q.2.2.2) (r + 1) i a = rlS E (rrS E n) q.1 (lmS E p q.2.2.2) r (i + 1) a := by
            show rlS E (rrS E n) q.1 (lmS E p q.2.2.2) r (i + 1) (if (lmS E p q.2.2.2).testBit i = true then _ else a) = _
            rw [if_neg hno]
          rw [ew2]
          exact ihr f (i + 1) S m a (by omega) (by omega) hM ha ha2 hK
        show ∃ L m2, fb_X9_restsFrom_27 (f_X9_restsFrom n) (f_X9_restsFrom_27 (f_X9_restsFrom n) f) (mk S m) (some 50) (nI p) (nI d) (nI i) = _ ∧ _
        unfold fb_X9_restsFrom_27
        rw [gI_k hk, g.2.2.2.2.2.1, Option.bind_some, if_pos (by rw [nI_ltI (by omega) (by omega)]; omega), vc_k hk, X9_isLeft hS g.2.2.2.2.2.2.1 (by omega) (by omega), Option.bind_some]
        by_cases hx : q.2.2.2.testBit i = true
        · rw [hx, if_pos (show nI (if true = true then 0 else 1) = (0 : Int32) from rfl), e99]
          exact skip (fun z => by
            have := (hlm.1 z).2.2
            rw [hx] at this
            cases this)
        · have hx' : q.2.2.2.testBit i = false := by simpa using hx
          rw [hx', if_neg (show ¬ nI (if false = true then 0 else 1) = (0 : Int32) by decide), hwh.1, Option.bind_some, hwh.2, Option.bind_some]
          by_cases hw : eW E i = p
          · rw [if_pos (by rw [hw])]
            have hb : (lmS E p q.2.2.2).testBit i = true := hlm.2 ⟨by omega, hw, hx'⟩
            have ew2 : rlS E (rrS E n) q.1 (lmS E p q.2.2.2) (r + 1) i a = rlS E (rrS E n) q.1 (lmS E p q.2.2.2) r (i + 1) (rrS E n (sumS E q i) (lmS E p (q.2.2.2 ||| 2 ^ i)) a) := by
              show rlS E (rrS E n) q.1 (lmS E p q.2.2.2) r (i + 1) (if (lmS E p q.2.2.2).testBit i = true then _ else a) = _
              rw [if_pos hb, lm_set]
              rfl
            rw [ew2]
            have hc : i < eN E := by omega
            have hcnt := cntS_le (q := q) hE hc
            have emin := wn9999 (s := q.1) (v := cntS E q i) hq.1 hcnt
            have hfr : frS E (sumS E q i, q.2.1, q.2.2.1, q.2.2.2 ||| 2 ^ i) < frS E q := fr_lt hc hx'
            have hq1 : QOK E (sumS E q i, q.2.1, q.2.2.1, q.2.2.2 ||| 2 ^ i) := ⟨Nat.min_le_right _ _, hq.2.1, hq.2.2.1, Nat.or_lt_two_pow hq.2.2.2 (Nat.pow_lt_pow_right (by decide) hc)⟩
            have ag1 : AgM (fun _ => False) JQ m (w2 (w2 m 50 1 (nI (sumS E q i))) 50 10 (nI (q.2.2.2 ||| 2 ^ i))) := (AgM.rf.w50 (by unfold JQ; omega)).w50 (by unfold JQ; omega)
            have hI1 := hM.set (r := (sumS E q i, q.2.1, q.2.2.1, q.2.2.2 ||| 2 ^ i)) hq1 ag1 (fun _ _ => id) (fun j hj => by unfold JQ; omega) rfl g.2.2.1 g.2.2.2.2.1 rfl
            obtain ⟨L3, m3, e3, hI3, ha3, ag3, hlo3⟩ := ih S _ _ (d + 1) a hI1 (show m 50 42 = nI a from ha) ha2 (by omega) (by omega)
            have hk3 : (sh (sLg S L3) 50).1 = 9 := by rw [sk50 hI3.1]
            have hK3 : KP m3 d q := by
              have e70 : ∀ j, j < 4 * d + 4 → m3 70 j = m 70 j := fun j hj => by
                rw [hlo3 j (by omega), ag1.1 70 (by decide) id]
              unfold KP
              rw [e70 _ (by omega), e70 _ (by omega), e70 _ (by omega), e70 _ (by omega)]
              exact hK
            obtain ⟨m4, e4, hI4, ag4⟩ := M_lays hI3 (d := d) (by omega) hK3 hq
            have hK4 : KP m4 d q := by
              unfold KP
              rw [ag4.1 70 (by decide) id]
              exact hK3
            have ha4 : m4 50 42 = nI (rrS E n (sumS E q i) (lmS E p (q.2.2.2 ||| 2 ^ i)) a) := by
              rw [ag4.2 42 (by unfold JQ; omega)]
              exact ha3
            obtain ⟨L5, m5, e5, hI5, ha5, ag5, hlo5⟩ := ihr f (i + 1) (sLg S L3) m4 _ (by omega) (by omega) hI4 ha4 (rr_lt hE n _ _ _ ha2) hK4
            refine ⟨L5, m5, ?_, hI5, ha5, ?_, ?_⟩
            · rw [gI_k hk, g.2.1, Option.bind_some, vc_k hk, M_counts hM hc, Option.bind_some, X9_within, Option.bind_some]
              rw [show (if nI q.1 + (nI (cntS E q i), mk S m).1 < (0 : Int32) then (0 : Int32) else if (9999 : Int32) < nI q.1 + (nI (cntS E q i), mk S m).1 then (9999 : Int32) else nI q.1 + (nI (cntS E q i), mk S m).1) = nI (sumS E q i) from emin, pI_k hk, Option.bind_some, gI_k hk, show w2 m 50 1 (nI (sumS E q i)) 50 10 = nI q.2.2.2 from g.2.2.2.2.2.2.1, Option.bind_some, pI_k hk, show (1 : Int32) <<< (nI i &&& 31) = nI (2 ^ i) from shl1 (by omega), fa_or, Option.bind_some, vc_k hk, show nI d + (1 : Int32) = nI (d + 1) from nI_add d 1]
              rw [e3, Option.bind_some, vc_k hk3, e4, Option.bind_some, e99]
              exact e5
            · refine ((ag1.mono (fun _ z => z.elim) (fun j hj => by unfold JQ at hj; unfold JR; omega)).tr ag3).tr ((ag4.mono (fun _ z => z.elim) (fun j hj => by unfold JQ at hj; unfold JR; omega)).tr ag5)
            · intro j hj
              rw [hlo5 j hj, ag4.1 70 (by decide) id, hlo3 j (by omega), ag1.1 70 (by decide) id]
          · rw [if_neg (fun z => hw ((nI_eq (by omega) (by omega)).1 z)), e99]
            exact skip (fun z => hw (hlm.1 z).2.1)
    have e42 : m1 50 42 = nI (a ||| 2 ^ (q.1 % eD E)) := by
      rw [ag1.2 42 id, w2_ap, if_pos ⟨rfl, rfl⟩]
    obtain ⟨L2, m2, e2, hI2, ha2', ag2, hlo2⟩ := loop (eN E) FU 0 S m1 _ (by omega) (by unfold FU; omega) hI1 e42 ha3 hK1
    refine ⟨L2, m2, ?_, hI2, ha2', ?_, ?_⟩
    · show fe_X9_restsFrom (f_X9_restsFrom n) (mk S m) (some 50) (nI p) (nI d) = _
      unfold fe_X9_restsFrom
      rw [gI_k hk, ha, Option.bind_some, gI_k hk, g.2.1, Option.bind_some, gI_k hk, g.1, Option.bind_some, irem_n (by have := hq.1; omega) (by omega) (by omega), Option.bind_some, show (1 : Int32) <<< (nI (q.1 % eD E) &&& 31) = nI (2 ^ (q.1 % eD E)) from shl1 (by omega), fa_or, pI_k hk, Option.bind_some, vc_k hk, e1, Option.bind_some]
      exact e2
    · exact ((ag0.mono (fun _ z => z.elim) (fun j hj => by unfold JR; omega)).tr (ag1.mono (fun a ha => by unfold Z70 at ha; unfold ZB; omega) (fun _ z => z.elim))).tr ag2
    · intro j hj
      rw [hlo2 j hj, hlo1 j (by omega), w2_ap, if_neg (by simp)]
