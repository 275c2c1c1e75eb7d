/-! PURE: by turns, the class's walk: what it recalls is right -/
def kyT (t : Nat) (q : QS) : Nat := ((t * 128 + q.2.2.2) * 16 + q.2.2.1) * 16384 + q.1
theorem kt_lt {E : EN} {q : QS} {t : Nat} (hE : EOK E) (h : QOK E q) (ht : t ≤ 6) : kyT t q < 2 ^ 28 := by
  have z1 := p16 hE.2.1 h.2.2.1
  have z2 := p128 hE.2.2.1 h.2.2.2
  have := h.1
  unfold kyT
  omega
theorem kt_i {E : EN} {q : QS} {t : Nat} (hE : EOK E) (h : QOK E q) (ht : t ≤ 6) : ((((((nI t <<< (((7 : Int32)) &&& 31)) ||| nI q.2.2.2) <<< (((4 : Int32)) &&& 31)) ||| nI q.2.2.1) <<< (((14 : Int32)) &&& 31)) ||| nI q.1) = nI (kyT t q) := by
  have z1 := p16 hE.2.1 h.2.2.1
  have z2 := p128 hE.2.2.1 h.2.2.2
  have y1 := h.1
  have e0 : nI t <<< (((7 : Int32)) &&& 31) = nI (2 ^ 7 * t) := by
    rw [pk_shlN (n := t) ((7 : Int32) &&& 31) 7 (s_l 7 (by decide)) (by omega), Nat.mul_comm]
  have e1 : nI (2 ^ 7 * t + q.2.2.2) <<< (((4 : Int32)) &&& 31) = nI (2 ^ 4 * (2 ^ 7 * t + q.2.2.2)) := by
    rw [pk_shlN (n := 2 ^ 7 * t + q.2.2.2) ((4 : Int32) &&& 31) 4 (s_l 4 (by decide)) (by omega), Nat.mul_comm]
  have e2 : nI (2 ^ 4 * (2 ^ 7 * t + q.2.2.2) + q.2.2.1) <<< (((14 : Int32)) &&& 31) = nI (2 ^ 14 * (2 ^ 4 * (2 ^ 7 * t + q.2.2.2) + q.2.2.1)) := by
    rw [pk_shlN (n := 2 ^ 4 * (2 ^ 7 * t + q.2.2.2) + q.2.2.1) ((14 : Int32) &&& 31) 14 (s_l 14 (by decide)) (by omega), Nat.mul_comm]
  rw [e0, fa_or_sum t (by omega), e1, fa_or_sum _ (by omega), e2, fa_or_sum _ (by omega)]
  unfold kyT
  congr 1
  omega
theorem kt_inj {E : EN} {q r : QS} {t t2 w0 : Nat} (hE : EOK E) (h : QOK E q) (h2 : QOK E r) (ht : t ≤ 6) (ht2 : t2 ≤ 6) (hw : q.2.1 = min (w0 + t) 99) (hw2 : r.2.1 = min (w0 + t2) 99) (e : nI (kyT t q) = nI (kyT t2 r)) : t = t2 ∧ q = r := by
  have l1 := kt_lt hE h ht
  have l2 := kt_lt hE h2 ht2
  have e := (nI_eq (by omega) (by omega)).1 e
  have z1 := p16 hE.2.1 h.2.2.1
  have z2 := p128 hE.2.2.1 h.2.2.2
  have z3 := p16 hE.2.1 h2.2.2.1
  have z4 := p128 hE.2.2.1 h2.2.2.2
  have y1 := h.1
  have y2 := h2.1
  unfold kyT at e
  have ex : q.2.2.2 = r.2.2.2 := by omega
  have ei : q.2.2.1 = r.2.2.1 := by omega
  have es : q.1 = r.1 := by omega
  have et : t = t2 := by omega
  exact ⟨et, Prod.ext es (Prod.ext (by rw [hw, hw2, et]) (Prod.ext ei ex))⟩
def InvT (E : EN) (n w0 : Nat) (m : Nat → Nat → Int32) : Prop := ∀ t r, QOK E r → r.2.1 = min (w0 + t) 99 → t < n → m 13 (slN (nI (kyT t r))) = nI (kyT t r) → (∀ p, p < eP E → m 31 (slN (nI (kyT t r)) * 4 + p) = Int32.ofInt ((solS E (n - t) t r).1 p)) ∧ m 32 (slN (nI (kyT t r))) = nI (dgv (solS E (n - t) t r).2)
theorem InvT.e {E : EN} {n w0 : Nat} {m m2 : Nat → Nat → Int32} (h : InvT E n w0 m) (e1 : m2 13 = m 13) (e2 : m2 31 = m 31) (e3 : m2 32 = m 32) : InvT E n w0 m2 := by
  unfold InvT
  rw [e1, e2, e3]
  exact h
def ZT (S : SK) (b : Nat) : Prop := b = 13 ∨ b = 19 ∨ b = 21 ∨ (23 ≤ b ∧ b ≤ 32) ∨ Stk S b
theorem noZ {S : SK} {b : Nat} (h : b < 46) (h1 : b ≠ 19) (h2 : b ≠ 21) : ¬ ZG S 19 b := by
  rintro (e | e | e)
  · omega
  · omega
  · have := e.ge
    omega
theorem ZG.t {S : SK} {b : Nat} (h : ZG S 19 b) : ZT S b := by
  rcases h with e | e | e
  · exact Or.inr (Or.inl e)
  · exact Or.inr (Or.inr (Or.inl e))
  · exact Or.inr (Or.inr (Or.inr (Or.inr e)))
theorem C_turns {S : SK} {E : EN} {l w0 n : Nat} (hP1 : 1 ≤ eP E) (hn : n ≤ 6) : ∀ (k f : Nat) (m : Nat → Nat → Int32) (q : QS) (t : Nat), t + k = n → k < f → CI S m 19 E l q → m 18 6 = nI n → q.2.1 = min (w0 + t) 99 → InvT E n w0 m →
    ∃ m2, f_X6_solve f (mk S m) (some 18) (nI t) = some (mk S m2) ∧ CI S m2 19 E l q ∧ EndC m2 t (eP E) (solS E k t q).1 ∧ m2 30 t = nI (dgv (solS E k t q).2) ∧ InvT E n w0 m2 ∧ (∀ j, j < t → m2 (23 + j) = m (23 + j)) ∧ (∀ j, j < t → m2 30 j = m 30 j) ∧ Ag (ZT S) m m2 := by
  intro k
  induction k with
  | zero =>
    intro f m q t htn hf hC h6 hw hInv
    obtain ⟨f, rfl⟩ : ∃ k, f = k + 1 := ⟨f - 1, by omega⟩
    have htn : t = n := by omega
    subst htn
    have hS := hC.1.1
    have hk : (sh S 18).1 = 6 := by rw [sk18 hS]
    obtain ⟨m2, e, hC2, hE2, h30, h30', ag⟩ := C_settle hC hn
    have na : ∀ b, b < 46 → b ≠ 21 → b ≠ 23 + t → b ≠ 30 → m2 b = m b := fun b h1 h2 h3 h4 => ag b (by
      rintro (z | z | z | z)
      · exact h2 z
      · have := z.ge
        omega
      · exact h3 z
      · exact h4 z)
    refine ⟨m2, ?_, hC2, hE2, h30, hInv.e (na 13 (by omega) (by omega) (by omega) (by omega)) (na 31 (by omega) (by omega) (by omega) (by omega)) (na 32 (by omega) (by omega) (by omega) (by omega)), ?_, ?_, ?_⟩
    · show fe_X6_solve (f_X6_solve f) (mk S m) (some 18) (nI t) = _
      unfold fe_X6_solve
      rw [gI_k hk, h6, Option.bind_some, if_neg (by rw [nI_ltI (by omega) (by omega)]; omega)]
      unfold f_X6_solve_19
      rw [vc_k hk, e, Option.bind_some]
    · intro j hj
      exact na (23 + j) (by omega) (by omega) (by omega) (by omega)
    · intro j hj
      exact h30' j (by omega)
    · refine ag.mono (fun b hb => ?_)
      rcases hb with z | z | z | z
      · exact Or.inr (Or.inr (Or.inl z))
      · exact Or.inr (Or.inr (Or.inr (Or.inr z)))
      · exact Or.inr (Or.inr (Or.inr (Or.inl (by omega))))
      · exact Or.inr (Or.inr (Or.inr (Or.inl (by omega))))
  | succ k ih =>
    intro f m q t htn hf hC h6 hw hInv
    obtain ⟨f, rfl⟩ : ∃ k, f = k + 1 := ⟨f - 1, by omega⟩
    have hS := hC.1.1
    have hE := hC.1.2.1
    have hP := hE.2.1
    have hN := hE.2.2.1
    have hk : (sh S 18).1 = 6 := by rw [sk18 hS]
    have hk1 : (sh S 19).1 = 1 := by rw [sk19 hS]
    have hk2 : (sh S 12).1 = 2 := by rw [sk12 hS]
    have g := hC.2.2.1
    have hq := hC.2.2.2
    generalize hu : t % eP E = u
    have huP : u < eP E := by
      rw [← hu]
      exact Nat.mod_lt _ (by omega)
    have hnt : n - t = k + 1 := by omega
    show ∃ m2, fe_X6_solve (f_X6_solve f) (mk S m) (some 18) (nI t) = _ ∧ _
    unfold fe_X6_solve
    rw [gI_k hk, h6, Option.bind_some, if_pos (by rw [nI_ltI (by omega) (by omega)]; omega), gR_k hk, rk18_0 hS, Option.bind_some, gI_k hk1, g.2.2.2.1, Option.bind_some, if_neg (show ¬ nI (eP E) < (1 : Int32) from fun z => by have := (nI_ltI (b := 1) (by omega) (by omega)).1 z; omega), Option.bind_some, gI_k hk1, g.2.2.2.2.2.2.1, Option.bind_some, Option.bind_some, gI_k hk1, g.2.2.2.2.1, Option.bind_some, Option.bind_some, gI_k hk1, g.2.1, Option.bind_some, bnd_eq, kt_i hE hq (by omega), gR_k hk, rk18_3 hS, Option.bind_some, vc_k hk2, X2_knows hS, Option.bind_some]
    by_cases hkn : m 13 (slN (nI (kyT t q))) = nI (kyT t q)
    · rw [if_pos hkn, if_neg (show ¬ (1 : Int32) = 0 by decide)]
      obtain ⟨i1, i2⟩ := hInv t q hq hw (by omega) hkn
      rw [hnt] at i1 i2
      obtain ⟨m2, e2, r1, r2, r3, ag⟩ := C_recall (m := m) hS (t := t) (s := slN (nI (kyT t q))) (by omega) (sl_lt _)
      have na : ∀ b, b ≠ 23 + t → b ≠ 30 → m2 b = m b := fun b h3 h4 => ag b (by omega)
      refine ⟨m2, ?_, ?_, ?_, ?_, hInv.e (na 13 (by omega) (by omega)) (na 31 (by omega) (by omega)) (na 32 (by omega) (by omega)), ?_, ?_, ?_⟩
      · rw [gR_k hk, rk18_3 hS, Option.bind_some, vc_k hk2, X2_slot, Option.bind_some, vc_k hk, e2, Option.bind_some]
      · exact hC.ag ag (ZOK.of (fun b hb => Or.inr (Or.inl (by omega)))) (by omega) (by omega)
      · intro p hp
        rw [r1 p (by omega)]
        exact i1 p hp
      · rw [r2]
        exact i2
      · intro j hj
        exact na (23 + j) (by omega) (by omega)
      · intro j hj
        exact r3 j (by omega)
      · exact ag.mono (fun b hb => Or.inr (Or.inr (Or.inr (Or.inl (by omega)))))
    · rw [if_neg hkn, if_pos (show (0 : Int32) = 0 from rfl)]
      have hst : ∀ p, p < 4 → ((nI (2 ^ u) >>> (nI p &&& nI 31)) &&& nI 1) = nI (if decide (u = p) = true then 1 else 0) := fun p hp => by
        have := bitI (n := 2 ^ u) (c := p) (by
          have := Nat.pow_lt_pow_right (a := 2) (by decide) (show u < 31 by omega)
          omega) (by omega)
        rw [this, Nat.testBit_two_pow]
      have hmv := C_movable hC (st := fun p => decide (u = p)) hst
      have hmvb := fun c => mv_bit E q (fun p => decide (u = p)) (eP E) c
      have hmvl := mv_lt E q (fun p => decide (u = p)) (eP E) hN
      generalize hmay : mvS E q (fun p => decide (u = p)) (eP E) = may at hmv hmvb hmvl
      have hmay2 : ∀ c, may.testBit c = true ↔ c < eN E ∧ eW E c = u ∧ canS E q c = true := by
        intro c
        rw [hmvb c]
        constructor
        · rintro ⟨a, b, c', d⟩
          exact ⟨a, (of_decide_eq_true c').symm, d⟩
        · rintro ⟨a, b, c'⟩
          exact ⟨a, by omega, decide_eq_true b.symm, c'⟩
      obtain ⟨m1, e1, hC1, ag1⟩ := C_wait hC
      have a1 : ∀ b, b ≠ 19 → m1 b = m b := fun b h => ag1 b h
      obtain ⟨m2, e2, hC2, hE2, h302, hInv2, k23, k30, ag2⟩ := ih f m1 (waitS q) (t + 1) (by omega) (by omega) hC1 (by rw [a1 18 (by decide)]; exact h6) (by
        show min (q.2.1 + 1) 99 = _
        rw [hw]
        omega) (hInv.e (a1 13 (by decide)) (a1 31 (by decide)) (a1 32 (by decide)))
      have nZT : ∀ b, b < 46 → b ≠ 13 → b ≠ 19 → b ≠ 21 → (b < 23 ∨ 32 < b) → ¬ ZT S b := by
        intro b h1 h2 h3 h4 h5
        rintro (z | z | z | z | z)
        · exact h2 z
        · exact h3 z
        · exact h4 z
        · omega
        · have := z.ge
          omega
      have h62 : m2 18 6 = nI n := by
        rw [ag2 18 (nZT 18 (by decide) (by decide) (by decide) (by decide) (Or.inl (by decide))), a1 18 (by decide)]
        exact h6
      have hrb := sol_rb hE k (t + 1) (waitS q)
      obtain ⟨m3, e3, hE3, h303, h303', ag3⟩ := C_choose hS hP h62 hn (by omega) hE2 h302 (by rw [hrb.1]; omega) huP (dg := 0) (c := 0)
      have a3 : ∀ b, b ≠ 23 + t → b ≠ 30 → m3 b = m2 b := fun b h h' => ag3 b (by omega)
      have hC3 : CI S m3 19 E l (waitS q) := hC2.ag ag3 (ZOK.of (fun b hb => Or.inr (Or.inl (by omega)))) (by omega) (by omega)
      obtain ⟨m4, e4, hC4, ag4⟩ := C_undo hC3 hq
      have a4 : ∀ b, b ≠ 19 → m4 b = m3 b := fun b h => ag4 b h
      have loop : ∀ (r f' i : Nat) (m : Nat → Nat → Int32) (a : RT), i + r = 7 → r < f' → CI S m 19 E l q → m 18 6 = nI n → InvT E n w0 m → RB (k + 1) a → EndC m t (eP E) a.1 → m 30 t = nI (dgv a.2) →
          ∃ m2 m3, f_X6_solve_183 (f_X6_solve f) f' (mk S m) (some 18) (nI t) (nI (kyT t q)) (nI q.1) (nI q.2.1) (nI q.2.2.1) (nI q.2.2.2) (nI u) (nI may) (nI i) = f_X6_solve_183 (f_X6_solve f) (f' - r) (mk S m2) (some 18) (nI t) (nI (kyT t q)) (nI q.1) (nI q.2.1) (nI q.2.2.1) (nI q.2.2.2) (nI u) (nI may) (nI 7) ∧ CI S m2 19 E l q ∧ m2 18 6 = nI n ∧ InvT E n w0 m2 ∧ EndC m2 t (eP E) (slS E (solS E k (t + 1)) q u (eN E - i) i a).1 ∧ m2 30 t = nI (dgv (slS E (solS E k (t + 1)) q u (eN E - i) i a).2) ∧ (∀ j, j < t → m2 (23 + j) = m (23 + j)) ∧ (∀ j, j < t → m2 30 j = m 30 j) ∧ Ag (ZT S) m m2 ∧ m3 = m2 := by
        intro r
        induction r with
        | zero =>
          intro f' i m a hi hf' hC h6 hInv hRB hEa hLa
          have hi : i = 7 := by omega
          subst hi
          have e0 : eN E - 7 = 0 := by omega
          rw [e0]
          exact ⟨m, m, rfl, hC, h6, hInv, hEa, hLa, fun _ _ => rfl, fun _ _ => rfl, Ag.rf, rfl⟩
        | succ r ihr =>
          intro f' i m a hi hf' hC h6 hInv hRB hEa hLa
          obtain ⟨f', rfl⟩ : ∃ k, f' = k + 1 := ⟨f' - 1, by omega⟩
          have hbit : ((nI may >>> (nI i &&& 31)) &&& 1) = nI (if may.testBit i = true then 1 else 0) := bitI (by omega) (by omega)
          have e284 : ∀ (h : XM) (f'' : Nat), f_X6_solve_284 (f_X6_solve f) (f_X6_solve_183 (f_X6_solve f) f'') h (some 18) (nI t) (nI (kyT t q)) (nI q.1) (nI q.2.1) (nI q.2.2.1) (nI q.2.2.2) (nI u) (nI may) (nI i) = f_X6_solve_183 (f_X6_solve f) f'' h (some 18) (nI t) (nI (kyT t q)) (nI q.1) (nI q.2.1) (nI q.2.2.1) (nI q.2.2.2) (nI u) (nI may) (nI (i + 1)) := by
            intro h f''
            unfold f_X6_solve_284
            rw [bnd_eq, show nI i + (1 : Int32) = nI (i + 1) from nI_add i 1]
          have hfr : f' + 1 - (r + 1) = f' - r := by omega
          rw [hfr]
          show ∃ m2 m3, fb_X6_solve_183 (f_X6_solve f) (f_X6_solve_183 (f_X6_solve f) f') (mk S m) (some 18) (nI t) (nI (kyT t q)) (nI q.1) (nI q.2.1) (nI q.2.2.1) (nI q.2.2.2) (nI u) (nI may) (nI i) = _ ∧ _
          unfold fb_X6_solve_183
          rw [if_pos (show nI i < (7 : Int32) from (nI_ltI (b := 7) (by omega) (by omega)).2 (by omega)), hbit]
          by_cases hmb : may.testBit i = true
          · obtain ⟨hiN, hiw, hican⟩ := (hmay2 i).1 hmb
            have hcs := cst_le hE hiN
            generalize hx : solS E k (t + 1) (putS E q i) = x
            have hxb : RB k x := by
              rw [← hx]
              exact sol_rb hE k (t + 1) (putS E q i)
            obtain ⟨s, hs⟩ : ∃ s, eN E - i = s + 1 := ⟨eN E - i - 1, by omega⟩
            have hs2 : eN E - (i + 1) = s := by omega
            have ew : slS E (solS E k (t + 1)) q u (eN E - i) i a = slS E (solS E k (t + 1)) q u (eN E - (i + 1)) (i + 1) (if a.1 u < x.1 u - (cstS E i : Int) then tkS u (cstS E i) (i + 1) x else a) := by
              rw [hs, hs2]
              show slS E (solS E k (t + 1)) q u s (i + 1) (if eW E i = u ∧ canS E q i = true then _ else a) = _
              rw [if_pos ⟨hiw, hican⟩, hx]
            rw [ew]
            obtain ⟨m1, e1, hC1, ag1⟩ := C_put hC hiN
            have a1 : ∀ b, b < 46 → b ≠ 19 → b ≠ 21 → m1 b = m b := fun b h h' h'' => ag1 b (noZ h h' h'')
            obtain ⟨m2, e2, hC2, hE2, h302, hInv2, k23, k30, ag2⟩ := ih f m1 (putS E q i) (t + 1) (by omega) (by omega) hC1 (by rw [a1 18 (by decide) (by decide) (by decide)]; exact h6) (by
              show min (q.2.1 + 1) 99 = _
              rw [hw]
              omega) (hInv.e (a1 13 (by decide) (by decide) (by decide)) (a1 31 (by decide) (by decide) (by decide)) (a1 32 (by decide) (by decide) (by decide)))
            rw [hx] at hE2 h302
            obtain ⟨m3, e3, hC3, ag3⟩ := C_undo hC2 hq
            have a3 : ∀ b, b ≠ 19 → m3 b = m2 b := fun b h => ag3 b h
            have h63 : m3 18 6 = nI n := by
              rw [a3 18 (by decide), ag2 18 (nZT 18 (by decide) (by decide) (by decide) (by decide) (Or.inl (by decide))), a1 18 (by decide) (by decide) (by decide)]
              exact h6
            have hE3 : EndC m3 (t + 1) (eP E) x.1 := fun p hp => by
              rw [a3 _ (by omega)]
              exact hE2 p hp
            have h303 : m3 30 (t + 1) = nI (dgv x.2) := by
              rw [a3 30 (by decide)]
              exact h302
            have row : ∀ j, j < t + 1 → m3 (23 + j) = m (23 + j) := fun j hj => by
              rw [a3 _ (by omega), k23 j hj, a1 _ (by omega) (by omega) (by omega)]
            have row30 : ∀ j, j < t + 1 → m3 30 j = m 30 j := fun j hj => by
              rw [a3 30 (by decide), k30 j hj, a1 30 (by decide) (by decide) (by decide)]
            have hEa3 : EndC m3 t (eP E) a.1 := fun p hp => by
              rw [row t (by omega)]
              exact hEa p hp
            have hInv3 := hInv2.e (a3 13 (by decide)) (a3 31 (by decide)) (a3 32 (by decide))
            have agm : Ag (ZT S) m m3 := ((ag1.mono (fun b hb => hb.t)).tr ag2).tr (ag3.mono (fun b hb => Or.inr (Or.inl hb)))
            have hcmp : (Int32.ofInt (a.1 u) < Int32.ofInt (x.1 u) - nI (cstS E i)) ↔ a.1 u < x.1 u - (cstS E i : Int) := by
              have b1 := hRB.2.1 u
              have b2 := hxb.2.1 u
              rw [oI_sub2, oI_lt (by omega) (by omega) (by omega) (by omega)]
            rw [hmb, if_neg (show ¬ nI (if true = true then 1 else 0) = (0 : Int32) by decide), gR_k hk, rk18_0 hS, Option.bind_some, vc_k hk1, C_cost hC hiN, Option.bind_some]
            show ∃ m2 m3, ((gR (mk S m) 6 (some 18) 0).bind _) = _ ∧ _
            rw [gR_k hk, rk18_0 hS, Option.bind_some, vc_k hk1, e1, Option.bind_some, vc_k hk, show nI t + (1 : Int32) = nI (t + 1) from nI_add t 1, e2, Option.bind_some, gR_k hk, rk18_0 hS, Option.bind_some, vc_k hk1, e3, Option.bind_some, gR_k hk, rk18_1 hS, Option.bind_some, rR22 hS (by omega), Option.bind_some, rI_n (sk2x hS _ (by omega)) (by omega) (by decide), Option.bind_some, Option.bind_some, rR22 hS (by omega), Option.bind_some, rI_n (sk2x hS _ (by omega)) (by omega) (by decide), Option.bind_some, hE3 u huP, hEa3 u huP]
            by_cases z : a.1 u < x.1 u - (cstS E i : Int)
            · rw [if_pos (hcmp.2 z), if_pos z]
              obtain ⟨m5, e5, hE5, h305, h305', ag5⟩ := C_choose hS hP h63 hn (by omega) hE3 h303 (by rw [hxb.1]; omega) huP (dg := i + 1) (c := cstS E i)
              have a5 : ∀ b, b ≠ 23 + t → b ≠ 30 → m5 b = m3 b := fun b h h' => ag5 b (by omega)
              have hC5 := hC3.ag ag5 (ZOK.of (fun b hb => Or.inr (Or.inl (by omega)))) (by omega) (by omega)
              obtain ⟨m6, m7, e6, hC6, h66, hInv6, hE6, h306, k236, k306, ag6, e67⟩ := ihr f' (i + 1) m5 (tkS u (cstS E i) (i + 1) x) (by omega) (by omega) hC5 (by rw [a5 18 (by omega) (by omega)]; exact h63) (hInv3.e (a5 13 (by omega) (by omega)) (a5 31 (by omega) (by omega)) (a5 32 (by omega) (by omega))) (hxb.tk hcs (by omega)) hE5 h305
              refine ⟨m6, m7, ?_, hC6, h66, hInv6, hE6, h306, ?_, ?_, ?_, e67⟩
              · show (vc (mk S m3) 6 (some 18) (f_X6_choose (mk S m3) (some 18) (nI t) (nI u) (nI i + 1) (nI (cstS E i)))).bind _ = _
                rw [vc_k hk, show nI i + (1 : Int32) = nI (i + 1) from nI_add i 1, e5, Option.bind_some, e284]
                exact e6
              · intro j hj
                rw [k236 j hj, a5 _ (by omega) (by omega), row j (by omega)]
              · intro j hj
                rw [k306 j hj, h305' j (by omega), row30 j (by omega)]
              · exact (agm.tr (ag5.mono (fun b hb => Or.inr (Or.inr (Or.inr (Or.inl (by omega))))))).tr ag6
            · rw [if_neg (fun y => z (hcmp.1 y)), if_neg z, e284]
              obtain ⟨m6, m7, e6, hC6, h66, hInv6, hE6, h306, k236, k306, ag6, e67⟩ := ihr f' (i + 1) m3 a (by omega) (by omega) hC3 h63 hInv3 hRB hEa3 (by rw [row30 t (by omega)]; exact hLa)
              refine ⟨m6, m7, e6, hC6, h66, hInv6, hE6, h306, ?_, ?_, agm.tr ag6, e67⟩
              · intro j hj
                rw [k236 j hj, row j (by omega)]
              · intro j hj
                rw [k306 j hj, row30 j (by omega)]
          · have hmb' : may.testBit i = false := by simpa using hmb
            rw [hmb', if_pos (show nI (if false = true then 1 else 0) = (0 : Int32) from rfl), e284]
            have ew : slS E (solS E k (t + 1)) q u (eN E - i) i a = slS E (solS E k (t + 1)) q u (eN E - (i + 1)) (i + 1) a := by
              by_cases hi7 : i < eN E
              · obtain ⟨s, hs⟩ : ∃ s, eN E - i = s + 1 := ⟨eN E - i - 1, by omega⟩
                have hs2 : eN E - (i + 1) = s := by omega
                rw [hs, hs2]
                show slS E (solS E k (t + 1)) q u s (i + 1) (if eW E i = u ∧ canS E q i = true then _ else a) = _
                rw [if_neg (fun z => hmb ((hmay2 i).2 ⟨hi7, z.1, z.2⟩))]
              · have e1 : eN E - i = 0 := by omega
                have e2 : eN E - (i + 1) = 0 := by omega
                rw [e1, e2]
                rfl
            rw [ew]
            exact ihr f' (i + 1) m a (by omega) (by omega) hC h6 hInv hRB hEa hLa
      have h64 : m4 18 6 = nI n := by
        rw [a4 18 (by decide), a3 18 (by omega) (by omega)]
        exact h62
      have hInv4 := (hInv2.e (a3 13 (by omega) (by omega)) (a3 31 (by omega) (by omega)) (a3 32 (by omega) (by omega))).e (a4 13 (by decide)) (a4 31 (by decide)) (a4 32 (by decide))
      have hE4 : EndC m4 t (eP E) ((solS E k (t + 1) (waitS q)).1, 0 :: (solS E k (t + 1) (waitS q)).2).1 := fun p hp => by
        rw [a4 _ (by omega), hE3 p hp]
        congr 1
        show (if p = u then (solS E k (t + 1) (waitS q)).1 p - ((0 : Nat) : Int) else (solS E k (t + 1) (waitS q)).1 p) = (solS E k (t + 1) (waitS q)).1 p
        split <;> omega
      obtain ⟨m5, m5', e5, hC5, h65, hInv5, hE5, h305, k235, k305, ag5, _⟩ := loop 7 FU 0 m4 ((solS E k (t + 1) (waitS q)).1, 0 :: (solS E k (t + 1) (waitS q)).2) (by omega) (by unfold FU; omega) hC4 h64 hInv4 hrb.w hE4 (by rw [a4 30 (by decide)]; exact h303)
      have es : solS E (k + 1) t q = slS E (solS E k (t + 1)) q u (eN E - 0) 0 ((solS E k (t + 1) (waitS q)).1, 0 :: (solS E k (t + 1) (waitS q)).2) := by
        show slS E (solS E k (t + 1)) q (t % eP E) (eN E) 0 _ = _
        rw [hu]
        rfl
      rw [← es] at hE5 h305
      -- noted and kept
      obtain ⟨m6, hm6⟩ : ∃ m6, m6 = w2 m5 13 (slN (nI (kyT t q))) (nI (kyT t q)) := ⟨_, rfl⟩
      have a6 : ∀ b, b ≠ 13 → m6 b = m5 b := fun b h => by
        rw [hm6]
        exact w2_ne h
      obtain ⟨m7, e7, r1, r2, r3, r4, ag7⟩ := C_keep (m := m6) hS (t := t) (s := slN (nI (kyT t q))) (by omega) (sl_lt _)
      have a7 : ∀ b, b ≠ 31 → b ≠ 32 → m7 b = m6 b := fun b h h' => ag7 b (by omega)
      have ag67 : Ag (fun b => b = 13 ∨ b = 31 ∨ b = 32) m5 m7 := fun b hb => by rw [a7 b (by omega) (by omega), a6 b (by omega)]
      refine ⟨m7, ?_, ?_, ?_, ?_, ?_, ?_, ?_, ?_⟩
      · rw [gR_k hk, rk18_0 hS, Option.bind_some, gI_k hk1, g.2.1, Option.bind_some, Option.bind_some, gI_k hk1, g.2.2.1, Option.bind_some, Option.bind_some, gI_k hk1, g.2.2.2.2.1, Option.bind_some, Option.bind_some, gI_k hk1, g.2.2.2.2.2.2.1, Option.bind_some, Option.bind_some, gI_k hk1, g.2.2.2.1, Option.bind_some, irem_n (by omega) (by omega) (by omega), hu, Option.bind_some, Option.bind_some, vc_k hk1, show (1 : Int32) <<< (nI u &&& 31) = nI (2 ^ u) from shl1 (by omega), hmv, Option.bind_some]
        show (gR (mk S m) 6 (some 18) 0).bind _ = _
        rw [gR_k hk, rk18_0 hS, Option.bind_some, vc_k hk1, e1, Option.bind_some, vc_k hk, show nI t + (1 : Int32) = nI (t + 1) from nI_add t 1, e2, Option.bind_some, vc_k hk]
        show (f_X6_choose (mk S m2) (some 18) (nI t) (nI u) (nI 0) (nI 0)).bind _ = _
        rw [e3, Option.bind_some, gR_k hk, rk18_0 hS, Option.bind_some, vc_k hk1, e4, Option.bind_some]
        show f_X6_solve_183 (f_X6_solve f) FU (mk S m4) (some 18) (nI t) (nI (kyT t q)) (nI q.1) (nI q.2.1) (nI q.2.2.1) (nI q.2.2.2) (nI u) (nI may) (nI 0) = _
        rw [e5]
        show fb_X6_solve_183 (f_X6_solve f) (f_X6_solve_183 (f_X6_solve f) (FU - 7 - 1)) (mk S m5) (some 18) (nI t) (nI (kyT t q)) (nI q.1) (nI q.2.1) (nI q.2.2.1) (nI q.2.2.2) (nI u) (nI may) (nI 7) = _
        unfold fb_X6_solve_183
        rw [if_neg (show ¬ nI 7 < (7 : Int32) by decide), gR_k hk, rk18_3 hS, Option.bind_some, vc_k hk2, X2_note hS, Option.bind_some, ← hm6, gR_k hk, rk18_3 hS, Option.bind_some, vc_k hk2, X2_slot, Option.bind_some, vc_k hk, e7, Option.bind_some]
      · exact hC5.ag ag67 (ZOK.of (fun b hb => Or.inr (Or.inl (by omega)))) (by omega) (by omega)
      · intro p hp
        rw [ag67 _ (by omega)]
        exact hE5 p hp
      · rw [ag67 30 (by omega)]
        exact h305
      · intro t2 r1' hr hwr ht2 hkn2
        rw [a7 13 (by decide) (by decide), hm6, w2_ap] at hkn2
        by_cases zs : slN (nI (kyT t2 r1')) = slN (nI (kyT t q))
        · rw [if_pos ⟨rfl, zs⟩] at hkn2
          obtain ⟨et, eq⟩ := kt_inj hE hq hr (by omega) (by omega) hw hwr hkn2
          subst et eq
          rw [hnt]
          constructor
          · intro p hp
            rw [r1 p (by omega), a6 _ (by omega)]
            exact hE5 p hp
          · rw [r3, a6 30 (by decide)]
            exact h305
        · rw [if_neg (fun y => zs y.2)] at hkn2
          obtain ⟨i1, i2⟩ := hInv5 t2 r1' hr hwr ht2 hkn2
          constructor
          · intro p hp
            rw [r2 _ (by omega), a6 31 (by decide)]
            exact i1 p hp
          · rw [r4 _ zs, a6 32 (by decide)]
            exact i2
      · intro j hj
        rw [ag67 _ (by omega), k235 j hj, a4 _ (by omega), a3 _ (by omega) (by omega), k23 j (by omega), a1 _ (by omega)]
      · intro j hj
        rw [ag67 30 (by omega), k305 j hj, a4 30 (by decide), h303' j (by omega), k30 j (by omega), a1 30 (by decide)]
      · exact (((((ag1.mono (fun b hb => Or.inr (Or.inl hb))).tr ag2).tr (ag3.mono (fun b hb => Or.inr (Or.inr (Or.inr (Or.inl (by omega))))))).tr (ag4.mono (fun b hb => Or.inr (Or.inl hb)))).tr ag5).tr (ag67.mono (fun b hb => by
          rcases hb with z | z | z
          · exact Or.inl z
          · exact Or.inr (Or.inr (Or.inr (Or.inl (by omega))))
          · exact Or.inr (Or.inr (Or.inr (Or.inl (by omega))))))
