/-! PURE: the rests that one can make, as the class walks them -/
theorem rl_or {E : EN} {rec : Nat → Nat → Nat → Nat} (hr : ∀ s L a, rec s L a = a ||| rec s L 0) (s L : Nat) : ∀ r i a, rlS E rec s L r i a = a ||| rlS E rec s L r i 0
  | 0, _, a => (Nat.or_zero a).symm
  | r + 1, i, a => by
    have ih := rl_or (E := E) hr s L r (i + 1)
    show rlS E rec s L r (i + 1) _ = a ||| rlS E rec s L r (i + 1) _
    by_cases c : L.testBit i = true
    · rw [if_pos c, if_pos c, ih, hr, Nat.or_assoc, ← ih]
    · rw [if_neg c, if_neg c]
      exact ih a
theorem rr_or (E : EN) : ∀ n s L a, rrS E n s L a = a ||| rrS E n s L 0
  | 0, _, _, a => (Nat.or_zero a).symm
  | n + 1, s, L, a => by
    show rlS E (rrS E n) s L (eN E) 0 (a ||| 2 ^ (s % eD E)) = a ||| rlS E (rrS E n) s L (eN E) 0 (0 ||| 2 ^ (s % eD E))
    rw [rl_or (rr_or E n) s L (eN E) 0 (a ||| 2 ^ (s % eD E)), rl_or (rr_or E n) s L (eN E) 0 (0 ||| 2 ^ (s % eD E)), Nat.zero_or, Nat.or_assoc]
theorem rr_mono {E : EN} {n s L a c : Nat} (h : rrS E n s L a = a) (hc : a ||| c = c) : rrS E n s L c = c := by
  rw [rr_or] at h ⊢
  rw [← hc, Nat.or_assoc, Nat.or_comm c, ← Nat.or_assoc, h]
theorem rr_again (E : EN) (n s L a : Nat) : rrS E n s L (rrS E n s L a) = rrS E n s L a := by
  rw [rr_or E n s L (rrS E n s L a), rr_or E n s L a, Nat.or_assoc, Nat.or_self]
theorem rr_sub (E : EN) (n s L a : Nat) : a ||| rrS E n s L a = rrS E n s L a := by
  rw [rr_or E n s L a, ← Nat.or_assoc, Nat.or_self]
def rlR (E : EN) (L0 L d : Nat) : Prop := L < 2 ^ eN E ∧ d + wghS (fun _ => 1) L (eN E) = wghS (fun _ => 1) L0 (eN E)
theorem clr_or {L c : Nat} (h : L.testBit c = true) : (L ^^^ (L &&& 2 ^ c)) ||| 2 ^ c = L := by
  apply Nat.eq_of_testBit_eq
  intro i
  rw [tb_set, tb_diff, Nat.testBit_two_pow]
  by_cases e : c = i
  · subst e
    simp [h]
  · simp [e]
theorem clr_bit (L c : Nat) : (L ^^^ (L &&& 2 ^ c)).testBit c = false := by
  rw [tb_diff, Nat.testBit_two_pow]
  simp
theorem clr_lt {L c N : Nat} (h : L < 2 ^ N) : L ^^^ (L &&& 2 ^ c) < 2 ^ N := Nat.xor_lt_two_pow h (Nat.lt_of_le_of_lt Nat.and_le_left h)
theorem rlR.step {E : EN} {L0 L d c : Nat} (h : rlR E L0 L d) (hc : c < eN E) (hb : L.testBit c = true) : rlR E L0 (L ^^^ (L &&& 2 ^ c)) (d + 1) := by
  refine ⟨clr_lt h.1, ?_⟩
  have h2 := h.2
  have e := wgh_set (f := fun _ => 1) (clr_bit L c) (eN E) hc
  rw [clr_or hb] at e
  omega
theorem rlR.bd {E : EN} {L0 L d : Nat} (hE : EOK E) (h : rlR E L0 L d) : d ≤ 7 := by
  have h2 := h.2
  have hN := hE.2.2.1
  have l1 := wgh_le (f := fun _ => 1) (x := L0) (B := 1) (eN E) (fun _ _ => Nat.le_refl _)
  omega
def ksN (s L : Nat) : Nat := L * 16384 + s
theorem ks_i {s L : Nat} (hL : L < 128) (hs : s ≤ 9999) : ((nI L <<< (((14 : Int32)) &&& 31)) ||| nI s) = nI (ksN s L) := by
  have e2 : nI L <<< (((14 : Int32)) &&& 31) = nI (2 ^ 14 * L) := by
    rw [pk_shlN (n := L) ((14 : Int32) &&& 31) 14 (s_l 14 (by decide)) (by omega), Nat.mul_comm]
  rw [e2, fa_or_sum _ (by omega)]
  unfold ksN
  congr 1
  omega
def InvR (E : EN) (L0 d a : Nat) (M : Nat → Int32) : Prop := ∀ s L d2, rlR E L0 L d2 → s ≤ 9999 → d ≤ d2 → M (slN (nI (ksN s L))) = nI (ksN s L) → rrS E (12 - d2) s L a = a
def NewR (E : EN) (L0 d : Nat) (M M2 : Nat → Int32) : Prop := ∀ i, i < 1024 → M2 i = M i ∨ ∃ s L d2, rlR E L0 L d2 ∧ s ≤ 9999 ∧ d ≤ d2 ∧ M2 i = nI (ksN s L)
theorem NewR.tr {E : EN} {L0 d : Nat} {M M2 M3 : Nat → Int32} (h : NewR E L0 d M M2) (h2 : NewR E L0 d M2 M3) : NewR E L0 d M M3 := by
  intro i hi
  rcases h2 i hi with e | e
  · rcases h i hi with e2 | ⟨s, L, d2, r1, r2, r3, r4⟩
    · exact Or.inl (e.trans e2)
    · exact Or.inr ⟨s, L, d2, r1, r2, r3, e.trans r4⟩
  · exact Or.inr e
theorem NewR.le {E : EN} {L0 d d3 : Nat} {M M2 : Nat → Int32} (h : NewR E L0 d M M2) (hd : d3 ≤ d) : NewR E L0 d3 M M2 := by
  intro i hi
  rcases h i hi with e | ⟨s, L, d2, r1, r2, r3, r4⟩
  · exact Or.inl e
  · exact Or.inr ⟨s, L, d2, r1, r2, by omega, r4⟩
theorem InvR.sub {E : EN} {L0 d a c : Nat} {M : Nat → Int32} (h : InvR E L0 d a M) (hc : a ||| c = c) : InvR E L0 d c M := fun s L d2 h1 h2 h3 h4 => rr_mono (h s L d2 h1 h2 h3 h4) hc
theorem ks_inj {E : EN} {L0 s L d s2 L2 d2 : Nat} (hE : EOK E) (h : rlR E L0 L d) (h2 : rlR E L0 L2 d2) (hs : s ≤ 9999) (hs2 : s2 ≤ 9999) (e : nI (ksN s L) = nI (ksN s2 L2)) : s = s2 ∧ L = L2 ∧ d = d2 := by
  have z1 := p128 hE.2.2.1 h.1
  have z2 := p128 hE.2.2.1 h2.1
  unfold ksN at e
  have e2 := (nI_eq (by omega) (by omega)).1 e
  have eL : L = L2 := by omega
  have a1 := h.2
  have a2 := h2.2
  rw [eL] at a1
  exact ⟨by omega, eL, by omega⟩
theorem C_rests {S : SK} {E : EN} {l L0 : Nat} {q : QS} : ∀ (n : Nat) (m : Nat → Nat → Int32) (s L d a : Nat), n + d = 12 → CI S m 15 E l q → m 14 4 = nI a → a < 2 ^ 20 → s ≤ 9999 → rlR E L0 L d → InvR E L0 d a (m 13) →
    ∃ m2, f_X7_addRests n (mk S m) (some 14) (nI d) (nI s) (nI L) = some (mk S m2) ∧ m2 14 4 = nI (rrS E n s L a) ∧ InvR E L0 d (rrS E n s L a) (m2 13) ∧ NewR E L0 d (m 13) (m2 13) ∧ Ag (fun b => b = 13 ∨ b = 14) m m2 := by
  intro n
  induction n with
  | zero =>
    intro m s L d a hn hC _ _ _ hR _
    have := hR.bd hC.1.2.1
    omega
  | succ n ih =>
    intro m s L d a hn hC ha ha2 hs hR hInv
    have hS := hC.1.1
    have hE := hC.1.2.1
    have hN := hE.2.2.1
    have hD := hE.1
    have hbd := hR.bd hE
    have hk7 : (sh S 14).1 = 7 := by rw [sk14 hS]
    have hk1 : (sh S 15).1 = 1 := by rw [sk15 hS]
    have hk2 : (sh S 12).1 = 2 := by rw [sk12 hS]
    have hL := p128 hN hR.1
    have hrl := rest_lt hE s
    have hCag : ∀ {m2 : Nat → Nat → Int32}, Ag (fun b => b = 13 ∨ b = 14) m m2 → CI S m2 15 E l q := fun ag => hC.ag ag (ZOK.of (fun b hb => Or.inr (Or.inl (by omega)))) (by omega) (by omega)
    generalize ha' : a ||| 2 ^ (s % eD E) = a'
    have ha3 : a' < 2 ^ 20 := by
      rw [← ha']
      exact Nat.or_lt_two_pow ha2 (Nat.pow_lt_pow_right (by decide) hrl)
    have hsub : a ||| a' = a' := by
      rw [← ha', ← Nat.or_assoc, Nat.or_self]
    generalize hm0 : w2 m 14 4 (nI a') = m0
    have ag0 : Ag (fun b => b = 13 ∨ b = 14) m m0 := by
      rw [← hm0]
      exact Ag.w2 (Z := fun b => b = 13 ∨ b = 14) Ag.rf (Or.inr rfl)
    have e13 : m0 13 = m 13 := by
      rw [← hm0]
      exact w2_ne (by decide)
    have e04 : m0 14 4 = nI a' := by
      rw [← hm0, w2_ap, if_pos ⟨rfl, rfl⟩]
    have hInv0 : InvR E L0 d a' (m0 13) := by
      rw [e13]
      exact hInv.sub hsub
    have er := X1_restOf (S := S) (m := m) (g := 15) (d := eD E) (a := s) (sk15 hS) hC.2.2.1.1 (by omega) (by omega) (by omega)
    have ew : rrS E (n + 1) s L a = rlS E (rrS E n) s L (eN E) 0 a' := by
      show rlS E (rrS E n) s L (eN E) 0 (a ||| 2 ^ (s % eD E)) = _
      rw [ha']
    have hn12 : 12 - d = n + 1 := by omega
    have head : f_X7_addRests (n + 1) (mk S m) (some 14) (nI d) (nI s) (nI L) = if nI d < (7 : Int32) then ((gR (mk S m0) 7 (some 14) 1).bind fun v12 => (vc (mk S m0) 2 v12 (f_X2_knows (mk S m0) v12 (nI (ksN s L)))).bind fun q13 => if q13.1 = 0 then ((gR q13.2 7 (some 14) 1).bind fun v14 => (vc q13.2 2 v14 (f_X2_note q13.2 v14 (nI (ksN s L)))).bind fun q15 => f_X7_addRests_58 (f_X7_addRests n) FU q15 (some 14) (nI d) (nI s) (nI L) ((0 : Int32))) else (f_X7_addRests_45 (f_X7_addRests n) q13.2)) else (f_X7_addRests_45 (f_X7_addRests n) (mk S m0)) := by
      show fe_X7_addRests (f_X7_addRests n) (mk S m) (some 14) (nI d) (nI s) (nI L) = _
      unfold fe_X7_addRests
      rw [gI_k hk7, ha, Option.bind_some, gR_k hk7, rk14_0 hS, Option.bind_some, vc_k hk1, er, Option.bind_some, show (1 : Int32) <<< (nI (s % eD E) &&& 31) = nI (2 ^ (s % eD E)) from shl1 (by omega), fa_or, ha', pI_k hk7, Option.bind_some, hm0, bnd_eq, ks_i hL hs]
    rw [head, ew]
    by_cases hd7 : d = 7
    · subst hd7
      rw [if_neg (show ¬ nI 7 < (7 : Int32) by decide)]
      have hno : ∀ c, c < eN E → L.testBit c = false := by
        intro c hc
        cases z : L.testBit c
        · rfl
        · have h2 := (hR.step hc z).bd hE
          omega
      have hwl : ∀ r i, i + r = eN E → rlS E (rrS E n) s L r i a' = a' := by
        intro r
        induction r with
        | zero => intro i _; rfl
        | succ r ihr =>
          intro i hi
          show rlS E (rrS E n) s L r (i + 1) (if L.testBit i = true then _ else a') = a'
          rw [if_neg (by rw [hno i (by omega)]; decide)]
          exact ihr (i + 1) (by omega)
      rw [hwl (eN E) 0 (by omega)]
      exact ⟨m0, rfl, e04, hInv0, by rw [e13]; exact fun i _ => Or.inl rfl, ag0⟩
    · rw [if_pos (show nI d < (7 : Int32) from (nI_ltI (b := 7) (by omega) (by omega)).2 (by omega)), gR_k hk7, rk14_1 hS, Option.bind_some, vc_k hk2, X2_knows hS, Option.bind_some]
      by_cases hkn : m0 13 (slN (nI (ksN s L))) = nI (ksN s L)
      · rw [if_pos hkn, if_neg (show ¬ (1 : Int32) = 0 by decide)]
        have e := hInv0 s L d hR hs (Nat.le_refl _) hkn
        rw [hn12] at e
        have e2 : rlS E (rrS E n) s L (eN E) 0 a' = a' := by
          have e3 : rrS E (n + 1) s L a' = rlS E (rrS E n) s L (eN E) 0 a' := by
            show rlS E (rrS E n) s L (eN E) 0 (a' ||| 2 ^ (s % eD E)) = _
            rw [← ha', Nat.or_assoc, Nat.or_self]
          rw [← e3]
          exact e
        rw [e2]
        exact ⟨m0, rfl, e04, hInv0, by rw [e13]; exact fun i _ => Or.inl rfl, ag0⟩
      · rw [if_neg hkn, if_pos (show (0 : Int32) = 0 from rfl), gR_k hk7, rk14_1 hS, Option.bind_some, vc_k hk2, X2_note hS, Option.bind_some]
        generalize hm1 : w2 m0 13 (slN (nI (ksN s L))) (nI (ksN s L)) = m1
        have ag1 : Ag (fun b => b = 13 ∨ b = 14) m m1 := by
          rw [← hm1]
          exact ag0.w2 (Or.inl rfl)
        have e14 : m1 14 = m0 14 := by
          rw [← hm1]
          exact w2_ne (by decide)
        have loop : ∀ (r f i : Nat) (m1 : Nat → Nat → Int32) (a : Nat), i + r = 7 → r < f → Ag (fun b => b = 13 ∨ b = 14) m m1 → m1 14 4 = nI a → a < 2 ^ 20 → InvR E L0 (d + 1) a (m1 13) →
            ∃ m2, f_X7_addRests_58 (f_X7_addRests n) f (mk S m1) (some 14) (nI d) (nI s) (nI L) (nI i) = some (mk S m2) ∧ m2 14 4 = nI (rlS E (rrS E n) s L (eN E - i) i a) ∧ InvR E L0 (d + 1) (rlS E (rrS E n) s L (eN E - i) i a) (m2 13) ∧ NewR E L0 (d + 1) (m1 13) (m2 13) ∧ Ag (fun b => b = 13 ∨ b = 14) m m2 := by
          intro r
          induction r with
          | zero =>
            intro f i m1 a hi hf ag ha ha2 hInv
            obtain ⟨f, rfl⟩ : ∃ k, f = k + 1 := ⟨f - 1, by omega⟩
            have hi : i = 7 := by omega
            subst hi
            have e0 : eN E - 7 = 0 := by omega
            rw [e0]
            exact ⟨m1, rfl, ha, hInv, fun i _ => Or.inl rfl, ag⟩
          | succ r ihr =>
            intro f i m1 a hi hf ag ha ha2 hInv
            obtain ⟨f, rfl⟩ : ∃ k, f = k + 1 := ⟨f - 1, by omega⟩
            have hbit : ((nI L >>> (nI i &&& 31)) &&& 1) = nI (if L.testBit i = true then 1 else 0) := bitI (by omega) (by omega)
            have e125 : ∀ (h : XM) (f' : Nat), f_X7_addRests_125 (f_X7_addRests n) (f_X7_addRests_58 (f_X7_addRests n) f') h (some 14) (nI d) (nI s) (nI L) (nI i) = f_X7_addRests_58 (f_X7_addRests n) f' h (some 14) (nI d) (nI s) (nI L) (nI (i + 1)) := by
              intro h f'
              unfold f_X7_addRests_125
              rw [bnd_eq, show nI i + (1 : Int32) = nI (i + 1) from nI_add i 1]
            show ∃ m2, fb_X7_addRests_58 (f_X7_addRests n) (f_X7_addRests_58 (f_X7_addRests n) f) (mk S m1) (some 14) (nI d) (nI s) (nI L) (nI i) = _ ∧ _
            unfold fb_X7_addRests_58
            rw [if_pos (show nI i < (7 : Int32) from (nI_ltI (b := 7) (by omega) (by omega)).2 (by omega)), hbit]
            by_cases hb : L.testBit i = true
            · have hiN : i < eN E := by
                apply Nat.lt_of_not_le
                intro z
                rw [bits_ge hR.1 z] at hb
                cases hb
              have hCx := hCag ag
              obtain ⟨A, c1, c2, c3, c4, c5, c6⟩ := C_coinAt hCx hiN
              have hA : (sh S A).1 = 0 := by rw [c2]
              have hEc := hE.2.2.2 i hiN
              have ecnt := X0_countsBy (S := S) (m := m1) (s := s) hA c4 c5 c6 hEc.2.1 hEc.2.2.1 hEc.2.2.2 hs
              have hcl : cnS (eK E i) (eT E i) (eM E i) s ≤ 429 := cnS_le hEc.2.2.1 hEc.2.2.2
              have emin := min9999 (s := s) (v := cnS (eK E i) (eT E i) (eM E i) s) hs hcl
              obtain ⟨t, ht⟩ : ∃ t, eN E - i = t + 1 := ⟨eN E - i - 1, by omega⟩
              have ht2 : eN E - (i + 1) = t := by omega
              have ew2 : rlS E (rrS E n) s L (eN E - i) i a = rlS E (rrS E n) s L (eN E - (i + 1)) (i + 1) (rrS E n (min (s + cnS (eK E i) (eT E i) (eM E i) s) 9999) (L ^^^ (L &&& 2 ^ i)) a) := by
                rw [ht, ht2]
                show rlS E (rrS E n) s L t (i + 1) (if L.testBit i = true then _ else a) = _
                rw [if_pos hb]
              have hR2 := hR.step hiN hb
              obtain ⟨m3, e3, ha3', hInv3, hNew3, ag3⟩ := ih m1 (min (s + cnS (eK E i) (eT E i) (eM E i) s) 9999) (L ^^^ (L &&& 2 ^ i)) (d + 1) a (by omega) hCx ha ha2 (Nat.min_le_right _ _) hR2 hInv
              obtain ⟨m5, e5, ha5, hInv5, hNew5, ag5⟩ := ihr f (i + 1) m3 _ (by omega) (by omega) (ag.tr ag3) ha3' (rr_lt hE n _ _ _ ha2) hInv3
              rw [← ew2] at ha5 hInv5
              refine ⟨m5, ?_, ha5, hInv5, hNew3.tr hNew5, ag5⟩
              rw [hb, if_neg (show ¬ nI (if true = true then 1 else 0) = (0 : Int32) by decide), gR_k hk7, rk14_0 hS, Option.bind_some, vc_k hk1, c1, Option.bind_some, if_neg (by simp), vc_k hA, ecnt, Option.bind_some, bnd_eq]
              rw [show (if nI s + (nI (cnS (eK E i) (eT E i) (eM E i) s), mk S m1).1 < (9999 : Int32) then nI s + (nI (cnS (eK E i) (eT E i) (eM E i) s), mk S m1).1 else (9999 : Int32)) = nI (min (s + cnS (eK E i) (eT E i) (eM E i) s) 9999) from emin, show (1 : Int32) <<< (nI i &&& 31) = nI (2 ^ i) from shl1 (by omega), compl_n (by omega), show nI d + (1 : Int32) = nI (d + 1) from nI_add d 1, vc_k hk7, e3, Option.bind_some, e125]
              exact e5
            · have hb' : L.testBit i = false := by simpa using hb
              have ew2 : rlS E (rrS E n) s L (eN E - i) i a = rlS E (rrS E n) s L (eN E - (i + 1)) (i + 1) a := by
                by_cases hi7 : i < eN E
                · obtain ⟨t, ht⟩ : ∃ t, eN E - i = t + 1 := ⟨eN E - i - 1, by omega⟩
                  have ht2 : eN E - (i + 1) = t := by omega
                  rw [ht, ht2]
                  show rlS E (rrS E n) s L t (i + 1) (if L.testBit i = true then _ else a) = _
                  rw [if_neg hb]
                · have e1 : eN E - i = 0 := by omega
                  have e2 : eN E - (i + 1) = 0 := by omega
                  rw [e1, e2]
                  rfl
              rw [hb', if_pos (show nI (if false = true then 1 else 0) = (0 : Int32) from rfl), e125, ew2]
              exact ihr f (i + 1) m1 a (by omega) (by omega) ag ha ha2 hInv
        have hInv1 : InvR E L0 (d + 1) a' (m1 13) := by
          intro s2 L2 d2 r1 r2 r3 r4
          rw [← hm1, w2_ap] at r4
          by_cases z : slN (nI (ksN s2 L2)) = slN (nI (ksN s L))
          · rw [if_pos ⟨rfl, z⟩] at r4
            have := (ks_inj hE hR r1 hs r2 r4).2.2
            omega
          · rw [if_neg (fun y => z y.2)] at r4
            exact hInv0 s2 L2 d2 r1 r2 (by omega) r4
        obtain ⟨m2, e2, h24, hInv2, hNew2, ag2⟩ := loop 7 FU 0 m1 a' (by omega) (by unfold FU; omega) ag1 (by rw [e14]; exact e04) ha3 hInv1
        have ew3 : rrS E (n + 1) s L a' = rlS E (rrS E n) s L (eN E - 0) 0 a' := by
          show rlS E (rrS E n) s L (eN E) 0 (a' ||| 2 ^ (s % eD E)) = _
          rw [← ha', Nat.or_assoc, Nat.or_self]
          rfl
        refine ⟨m2, e2, h24, ?_, ?_, ag2⟩
        · show InvR E L0 d (rlS E (rrS E n) s L (eN E - 0) 0 a') (m2 13)
          intro s2 L2 d2 r1 r2 r3 r4
          by_cases hdd : d + 1 ≤ d2
          · exact hInv2 s2 L2 d2 r1 r2 hdd r4
          · have hdd : d2 = d := by omega
            rcases hNew2 (slN (nI (ksN s2 L2))) (sl_lt _) with e | ⟨s', L', d', t1, t2, t3, t4⟩
            · rw [r4, ← hm1, w2_ap] at e
              by_cases z : slN (nI (ksN s2 L2)) = slN (nI (ksN s L))
              · rw [if_pos ⟨rfl, z⟩] at e
                obtain ⟨f1, f2, f3⟩ := ks_inj hE r1 hR r2 hs e
                rw [f1, f2, f3, hn12, ← ew3]
                exact rr_again E (n + 1) s L a'
              · rw [if_neg (fun y => z y.2)] at e
                refine rr_mono (hInv0 s2 L2 d2 r1 r2 (by omega) e.symm) ?_
                rw [← ew3]
                exact rr_sub E (n + 1) s L a'
            · rw [r4] at t4
              have := (ks_inj hE r1 t1 r2 t2 t4).2.2
              omega
        · have h0 : NewR E L0 d (m 13) (m1 13) := by
            intro i hi
            rw [← hm1, w2_ap, e13]
            by_cases z : i = slN (nI (ksN s L))
            · rw [if_pos ⟨rfl, z⟩]
              exact Or.inr ⟨s, L, d, hR, hs, Nat.le_refl _, rfl⟩
            · rw [if_neg (fun y => z y.2)]
              exact Or.inl rfl
          exact h0.tr (hNew2.le (by omega))
theorem C_restsBy {S : SK} {m : Nat → Nat → Int32} {E : EN} {l p g : Nat} {q : QS} (hp : p < 4) (h : CI S m g E l q) (hg : g ≠ 15) :
    ∃ m2, f_X7_restsBy (mk S m) (some 14) (some g) (nI p) = some (nI (rrS E 12 q.1 (lmS E p q.2.2.2) 0), mk S m2) ∧ Ag (fun b => ZW S b ∨ b = 16) m m2 := by
  have hS := h.1.1
  have hk7 : (sh S 14).1 = 7 := by rw [sk14 hS]
  have hk1 : (sh S 15).1 = 1 := by rw [sk15 hS]
  have hk2 : (sh S 12).1 = 2 := by rw [sk12 hS]
  have hq := h.2.2.2
  have hE := h.1.2.1
  obtain ⟨m1, e1, hC1, ag1⟩ := C_become h (g := 15) (Or.inr (Or.inr (Or.inr (Or.inl rfl)))) (fun z => hg z.symm)
  obtain ⟨m2, e2, hf2, ag2⟩ := X2_forget hS m1
  obtain ⟨m3, hm3⟩ : ∃ m3, m3 = w2 m2 14 4 (nI 0) := ⟨_, rfl⟩
  have ag3 : Ag (fun b => b = 13 ∨ b = 14) m1 m3 := by
    rw [hm3]
    exact (Ag.mono (Z2 := fun b => b = 13 ∨ b = 14) ag2 (fun b hb => Or.inl hb)).w2 (Or.inr rfl)
  have hC3 : CI S m3 15 E l q := hC1.ag ag3 (ZOK.of (fun b hb => Or.inr (Or.inl (by omega)))) (by omega) (by omega)
  have e13 : ∀ i, i < 1024 → m3 13 i = -1 := by
    intro i hi
    rw [hm3, w2_ap, if_neg (by simp)]
    exact hf2 i hi
  have hLl : lmS E p q.2.2.2 < 2 ^ eN E := by
    apply bits_lt
    intro i hi
    cases z : (lmS E p q.2.2.2).testBit i
    · rfl
    · have := ((lm_bit E p q.2.2.2 i).1 z).1
      omega
  have hl128 := p128 hE.2.2.1 hLl
  obtain ⟨m4, e4, h44, _, _, ag4⟩ := C_rests (L0 := lmS E p q.2.2.2) 12 m3 q.1 (lmS E p q.2.2.2) 0 0 rfl hC3 (by rw [hm3, w2_ap, if_pos ⟨rfl, rfl⟩]) (by decide) hq.1 ⟨hLl, by omega⟩ (fun s L d2 r1 r2 r3 r4 => by
    rw [e13 _ (sl_lt _)] at r4
    have z1 := p128 hE.2.2.1 r1.1
    exact absurd r4.symm (n_m1 _ (by unfold ksN; omega)))
  have el := X1_leftOf (S := S) (m := m3) (p := p) (GS_of hS hC3.2.1) (hC3.own p hp).1 hC3.2.2.1.2.2.2.2.2.2.1 (hC3.own p hp).2 hp
  refine ⟨m4, ?_, ?_⟩
  · unfold f_X7_restsBy
    rw [gR_k hk7, rk14_0 hS, Option.bind_some, vc_k hk1, e1, Option.bind_some, gR_k hk7, rk14_1 hS, Option.bind_some, vc_k hk2, e2, Option.bind_some, pI_k hk7, Option.bind_some, show w2 m2 14 4 (0 : Int32) = m3 from hm3.symm, gR_k hk7, rk14_0 hS, Option.bind_some, gI_k hk1, hC3.2.2.1.2.1, Option.bind_some, Option.bind_some, vc_k hk1, el, Option.bind_some, vc_k hk7]
    show (f_X7_addRests 12 (mk S m3) (some 14) (nI 0) (nI q.1) (nI (lmS E p q.2.2.2))).bind _ = _
    rw [e4, Option.bind_some, gI_k hk7, Option.bind_some, h44]
  · refine ((ag1.mono (fun b hb => ?_)).tr (ag3.mono (fun b hb => ?_))).tr (ag4.mono (fun b hb => ?_))
    · rcases hb with e | e
      · exact Or.inl (Or.inr (Or.inr (Or.inl e)))
      · exact Or.inr (by omega)
    · rcases hb with e | e
      · exact Or.inl (Or.inl e)
      · exact Or.inl (Or.inr (Or.inl e))
    · rcases hb with e | e
      · exact Or.inl (Or.inl e)
      · exact Or.inl (Or.inr (Or.inl e))
