/-! PURE: the ways in, as the class walks them: it forgets, and prunes, but never errs -/
def wghS (f : Nat → Nat) (x : Nat) : Nat → Nat
  | 0 => 0
  | n + 1 => wghS f x n + if x.testBit n = true then f n else 0
theorem wgh_cong {f : Nat → Nat} {x y : Nat} : ∀ n, (∀ k, k < n → x.testBit k = y.testBit k) → wghS f x n = wghS f y n
  | 0, _ => rfl
  | n + 1, h => by
    unfold wghS
    rw [wgh_cong n (fun k hk => h k (by omega)), h n (by omega)]
theorem wgh_set {f : Nat → Nat} {x c : Nat} (hx : x.testBit c = false) : ∀ n, c < n → wghS f (x ||| 2 ^ c) n = wghS f x n + f c
  | 0, h => absurd h (Nat.not_lt_zero c)
  | n + 1, h => by
    unfold wghS
    rw [tb_set]
    by_cases e : c = n
    · subst e
      have e1 : wghS f (x ||| 2 ^ c) c = wghS f x c := wgh_cong c (fun k hk => by
        rw [tb_set]
        have : decide (c = k) = false := by simp; omega
        rw [this, Bool.or_false])
      rw [e1, hx]
      simp
    · have ih := wgh_set (f := f) hx n (by omega)
      have : decide (c = n) = false := by simp [e]
      rw [ih, this, Bool.or_false]
      omega
theorem wgh_le {f : Nat → Nat} {x B : Nat} : ∀ n, (∀ k, k < n → f k ≤ B) → wghS f x n ≤ B * n
  | 0, _ => Nat.zero_le _
  | n + 1, h => by
    have ih := wgh_le (x := x) n (fun k hk => h k (by omega))
    have hn := h n (by omega)
    unfold wghS
    rw [Nat.mul_succ]
    split <;> omega
/-- how one came from q0 to q: behind d coins that cost so much together -/
def rqS (E : EN) (q0 q : QS) (d co : Nat) : Prop := QOK E q ∧ q.2.1 = min (q0.2.1 + d) 99 ∧ d + wghS (fun _ => 1) q0.2.2.2 (eN E) = wghS (fun _ => 1) q.2.2.2 (eN E) ∧ co + wghS (cstS E) q0.2.2.2 (eN E) = wghS (cstS E) q.2.2.2 (eN E)
theorem rq_0 {E : EN} {q : QS} (h : QOK E q) : rqS E q q 0 0 := ⟨h, by have := h.2.1; omega, by omega, by omega⟩
theorem rq_put {E : EN} {q0 q : QS} {d co c : Nat} (hE : EOK E) (h : rqS E q0 q d co) (hc : c < eN E) (hcan : canS E q c = true) : rqS E q0 (putS E q c) (d + 1) (co + cstS E c) := by
  obtain ⟨h1, h2, h3, h4⟩ := h
  have hx := (can_iff.1 hcan).1
  refine ⟨h1.put hE hc, ?_, ?_, ?_⟩
  · show min (q.2.1 + 1) 99 = _
    rw [h2]
    omega
  · show _ = wghS (fun _ => 1) (q.2.2.2 ||| 2 ^ c) (eN E)
    rw [wgh_set hx (eN E) hc]
    omega
  · show _ = wghS (cstS E) (q.2.2.2 ||| 2 ^ c) (eN E)
    rw [wgh_set hx (eN E) hc]
    omega
theorem rq_bd {E : EN} {q0 q : QS} {d co : Nat} (hE : EOK E) (h : rqS E q0 q d co) : d ≤ 7 ∧ co ≤ 420 := by
  obtain ⟨h1, h2, h3, h4⟩ := h
  have hN := hE.2.2.1
  have l1 := wgh_le (f := fun _ => 1) (x := q.2.2.2) (B := 1) (eN E) (fun _ _ => Nat.le_refl _)
  have l2 := wgh_le (f := cstS E) (x := q.2.2.2) (B := 60) (eN E) (fun k hk => cst_le hE hk)
  constructor <;> omega
def keyN (q : QS) : Nat := (q.2.2.2 * 16 + q.2.2.1) * 16384 + q.1
theorem key_lt {E : EN} {q : QS} (hE : EOK E) (h : QOK E q) : keyN q < 2 ^ 25 := by
  have z1 := p16 hE.2.1 h.2.2.1
  have z2 := p128 hE.2.2.1 h.2.2.2
  have := h.1
  unfold keyN
  omega
theorem rq_key {E : EN} {q0 q r : QS} {d co d2 co2 : Nat} (hE : EOK E) (h : rqS E q0 q d co) (h2 : rqS E q0 r d2 co2) (e : keyN q = keyN r) : q = r ∧ d = d2 ∧ co = co2 := by
  obtain ⟨a1, a2, a3, a4⟩ := h
  obtain ⟨b1, b2, b3, b4⟩ := h2
  have z1 := p16 hE.2.1 a1.2.2.1
  have z2 := p128 hE.2.2.1 a1.2.2.2
  have z3 := p16 hE.2.1 b1.2.2.1
  have z4 := p128 hE.2.2.1 b1.2.2.2
  have y1 := a1.1
  have y2 := b1.1
  unfold keyN at e
  have ex : q.2.2.2 = r.2.2.2 := by omega
  have ei : q.2.2.1 = r.2.2.1 := by omega
  have es : q.1 = r.1 := by omega
  rw [ex] at a3 a4
  have ed : d = d2 := by omega
  have ew : q.2.1 = r.2.1 := by rw [a2, b2, ed]
  exact ⟨Prod.ext es (Prod.ext ew (Prod.ext ei ex)), ed, by omega⟩
theorem key_i {E : EN} {q : QS} (hE : EOK E) (h : QOK E q) : (((nI q.2.2.2 <<< (((4 : Int32)) &&& 31)) ||| nI q.2.2.1) <<< (((14 : Int32)) &&& 31)) ||| nI q.1 = nI (keyN q) := by
  have z1 := p16 hE.2.1 h.2.2.1
  have z2 := p128 hE.2.2.1 h.2.2.2
  have y1 := h.1
  have e1 : nI q.2.2.2 <<< (((4 : Int32)) &&& 31) = nI (2 ^ 4 * q.2.2.2) := by
    rw [pk_shlN (n := q.2.2.2) ((4 : Int32) &&& 31) 4 (s_l 4 (by decide)) (by omega), Nat.mul_comm]
  have e2 : nI (2 ^ 4 * q.2.2.2 + q.2.2.1) <<< (((14 : Int32)) &&& 31) = nI (2 ^ 14 * (2 ^ 4 * q.2.2.2 + q.2.2.1)) := by
    rw [pk_shlN (n := 2 ^ 4 * q.2.2.2 + q.2.2.1) ((14 : Int32) &&& 31) 14 (s_l 14 (by decide)) (by omega), Nat.mul_comm]
  rw [e1, fa_or_sum q.2.2.2 (by omega), e2, fa_or_sum _ (by omega)]
  unfold keyN
  congr 1
  omega
def InvW (E : EN) (set : Nat) (q0 : QS) (d : Nat) (b : BW) (M : Nat → Int32) : Prop := ∀ r d2 co2, rqS E q0 r d2 co2 → d ≤ d2 → M (slN (nI (keyN r))) = nI (keyN r) → ∀ dg, waysS E set (12 - d2) r d2 co2 dg b = b
def NewW (E : EN) (q0 : QS) (d : Nat) (M M2 : Nat → Int32) : Prop := ∀ i, i < 1024 → M2 i = M i ∨ ∃ r d2 co2, rqS E q0 r d2 co2 ∧ d ≤ d2 ∧ M2 i = nI (keyN r)
theorem NewW.tr {E : EN} {q0 : QS} {d : Nat} {M M2 M3 : Nat → Int32} (h : NewW E q0 d M M2) (h2 : NewW E q0 d M2 M3) : NewW E q0 d M M3 := by
  intro i hi
  rcases h2 i hi with e | e
  · rcases h i hi with e2 | ⟨r, d2, co2, r1, r2, r3⟩
    · exact Or.inl (e.trans e2)
    · exact Or.inr ⟨r, d2, co2, r1, r2, e.trans r3⟩
  · exact Or.inr e
theorem NewW.le {E : EN} {q0 : QS} {d d3 : Nat} {M M2 : Nat → Int32} (h : NewW E q0 d M M2) (hd : d3 ≤ d) : NewW E q0 d3 M M2 := by
  intro i hi
  rcases h i hi with e | ⟨r, d2, co2, r1, r2, r3⟩
  · exact Or.inl e
  · exact Or.inr ⟨r, d2, co2, r1, by omega, r3⟩
theorem InvW.bl {E : EN} {set : Nat} {q0 : QS} {d : Nat} {b c : BW} {M : Nat → Int32} (h : InvW E set q0 d b M) (hc : blS b c) : InvW E set q0 d c M := fun r d2 co2 h1 h2 h3 dg => ways_mono (h r d2 co2 h1 h2 h3 dg) hc
def BC (m : Nat → Nat → Int32) (b : BW) : Prop := m 14 3 = bO (fun x => x.1) b ∧ ∀ x, b = some x → m 14 5 = nI x.2.2
def ZW (S : SK) (b : Nat) : Prop := b = 13 ∨ b = 14 ∨ b = 15 ∨ b = 17 ∨ Stk S b
theorem BC.e {m m2 : Nat → Nat → Int32} {b : BW} (h : BC m b) (e : m2 14 = m 14) : BC m2 b := by
  unfold BC
  rw [e]
  exact h
theorem bl_ways (E : EN) (set n : Nat) (q : QS) (d co dg : Nat) (b : BW) : blS b (waysS E set n q d co dg b) := by
  rw [ways_cmb]
  exact bl_cmb _ _
theorem bl_tr {a b c : BW} (h : blS a b) (h2 : blS b c) : blS a c := by
  rcases h with rfl | ⟨x, y, rfl, rfl, h1⟩
  · exact Or.inl rfl
  · rcases h2 with h2 | ⟨z, w, h2, rfl, h3⟩
    · cases h2
    · cases h2
      exact Or.inr ⟨x, w, rfl, rfl, by omega⟩
theorem no14 {S : SK} {g : Nat} (hg : g = 15) : ¬ ZG S g 14 := by
  subst hg
  rintro (e | e | e)
  · omega
  · omega
  · have := e.ge
    omega
theorem no13 {S : SK} {g : Nat} (hg : g = 15) : ¬ ZG S g 13 := by
  subst hg
  rintro (e | e | e)
  · omega
  · omega
  · have := e.ge
    omega
theorem ZG.w {S : SK} {b : Nat} (h : ZG S 15 b) : ZW S b := by
  rcases h with e | e | e
  · exact Or.inr (Or.inr (Or.inl e))
  · exact Or.inr (Or.inr (Or.inr (Or.inl e)))
  · exact Or.inr (Or.inr (Or.inr (Or.inr e)))
theorem C_ways {S : SK} {E : EN} {l set : Nat} {q0 : QS} (hset : set < 2 ^ 31) : ∀ (n : Nat) (m : Nat → Nat → Int32) (q : QS) (d co dg : Nat) (b : BW), n + d = 12 → CI S m 15 E l q → m 14 2 = nI set → BC m b → BOK b → rqS E q0 q d co → (∀ x, b = some x → co < x.1) → InvW E set q0 d b (m 13) →
    ∃ m2, f_X7_goOn n (mk S m) (some 14) (nI d) (nI co) (nI dg) = some (mk S m2) ∧ CI S m2 15 E l q ∧ m2 14 2 = nI set ∧ BC m2 (waysS E set n q d co dg b) ∧ BOK (waysS E set n q d co dg b) ∧ InvW E set q0 d (waysS E set n q d co dg b) (m2 13) ∧ NewW E q0 d (m 13) (m2 13) ∧ Ag (ZW S) m m2 := by
  intro n
  induction n with
  | zero =>
    intro m q d co dg b hn hC h2 hB hb hR hpre hInv
    have := (rq_bd hC.1.2.1 hR).1
    omega
  | succ n ih =>
    intro m q d co dg b hn hC h2 hB hb hR hpre hInv
    have hS := hC.1.1
    have hE := hC.1.2.1
    have hN := hE.2.2.1
    have hk7 : (sh S 14).1 = 7 := by rw [sk14 hS]
    have hk1 : (sh S 15).1 = 1 := by rw [sk15 hS]
    have hk2 : (sh S 12).1 = 2 := by rw [sk12 hS]
    have g := hC.2.2.1
    have hq := hC.2.2.2
    have z1 := p16 hE.2.1 hq.2.2.1
    have hbd := rq_bd hE hR
    have hand : (nI q.2.2.1 &&& nI set = nI set) ↔ q.2.2.1 &&& set = set := by
      rw [fa_and, nI_eq (Nat.lt_of_le_of_lt Nat.and_le_left (show q.2.2.1 < 2 ^ 31 by omega)) hset]
    show ∃ m2, fe_X7_goOn (f_X7_goOn n) (mk S m) (some 14) (nI d) (nI co) (nI dg) = _ ∧ _
    unfold fe_X7_goOn
    rw [gR_k hk7, rk14_0 hS, Option.bind_some, gI_k hk1, g.2.2.2.2.1, Option.bind_some, gI_k hk7, h2, Option.bind_some, Option.bind_some]
    by_cases ha : q.2.2.1 &&& set = set
    · rw [if_pos (hand.2 ha)]
      have ew : waysS E set (n + 1) q d co dg b = some (co, d, dg) := by
        show (if allIn set q = true then updS b (co, d, dg) else _) = _
        rw [if_pos (by unfold allIn; simpa using ha)]
        cases b with
        | none => rfl
        | some x => exact upd_lt (hpre x rfl)
      rw [ew]
      have agz : Ag (ZW S) m (w2 (w2 m 14 3 (nI co)) 14 5 (nI dg)) := (Ag.rf.w2 (Or.inr (Or.inl rfl))).w2 (Or.inr (Or.inl rfl))
      have ag14 : Ag (fun b => b = 14) m (w2 (w2 m 14 3 (nI co)) 14 5 (nI dg)) := (Ag.w2 (Z := fun b => b = 14) Ag.rf rfl).w2 rfl
      refine ⟨w2 (w2 m 14 3 (nI co)) 14 5 (nI dg), ?_, ?_, ?_, ⟨?_, ?_⟩, ?_, ?_, ?_, agz⟩
      · rw [pI_k hk7, Option.bind_some, pI_k hk7, Option.bind_some]
      · exact hC.ag ag14 (ZOK.of (fun b hb => Or.inr (Or.inl (by omega)))) (by omega) (by omega)
      · rw [w2_ap, if_neg (by simp), w2_ap, if_neg (by simp)]
        exact h2
      · rw [w2_ap, if_neg (by simp), w2_ap, if_pos ⟨rfl, rfl⟩]
        rfl
      · intro x hx
        cases hx
        rw [w2_ap, if_pos ⟨rfl, rfl⟩]
      · intro x hx
        cases hx
        exact hbd.2
      · rw [ag14 13 (by omega)]
        refine hInv.bl ?_
        cases b with
        | none => exact Or.inl rfl
        | some x => exact Or.inr ⟨x, _, rfl, rfl, by have := hpre x rfl; show co ≤ x.1; omega⟩
      · rw [ag14 13 (by omega)]
        exact fun i _ => Or.inl rfl
    · rw [if_neg (fun z => ha (hand.1 z))]
      have ew : waysS E set (n + 1) q d co dg b = wlS E set (waysS E set n) q d co dg (eN E) 0 b := by
        show (if allIn set q = true then _ else _) = _
        rw [if_neg (by unfold allIn; simpa using ha)]
      have hn12 : 12 - d = n + 1 := by omega
      rw [Option.bind_some, gI_k hk1, g.2.2.2.2.2.2.1, Option.bind_some, Option.bind_some, gI_k hk1, g.2.2.2.2.1, Option.bind_some, Option.bind_some, gI_k hk1, g.2.1, Option.bind_some, bnd_eq, key_i hE hq]
      by_cases hd7 : d = 7
      · -- all coins are in
        subst hd7
        rw [if_neg (show ¬ nI 7 < (7 : Int32) by decide)]
        have hno : ∀ c, c < eN E → q.2.2.2.testBit c = true := by
          intro c hc
          cases z : q.2.2.2.testBit c
          · exfalso
            have h3 := hR.2.2.1
            have e1 := wgh_set (f := fun _ => 1) z (eN E) hc
            have l1 := wgh_le (f := fun _ => 1) (x := q.2.2.2 ||| 2 ^ c) (B := 1) (eN E) (fun _ _ => Nat.le_refl _)
            omega
          · rfl
        have hwl : ∀ r i, i + r = eN E → wlS E set (waysS E set n) q 7 co dg r i b = b := by
          intro r
          induction r with
          | zero => intro i _; rfl
          | succ r ihr =>
            intro i hi
            show wlS E set (waysS E set n) q 7 co dg r (i + 1) (if canS E q i = true ∧ set.testBit (eW E i) = true then _ else b) = b
            rw [if_neg (fun z => by
              have := (can_iff.1 z.1).1
              rw [hno i (by omega)] at this
              cases this)]
            exact ihr (i + 1) (by omega)
        rw [ew, hwl (eN E) 0 (by omega)]
        exact ⟨m, rfl, hC, h2, hB, hb, hInv, fun i _ => Or.inl rfl, Ag.rf⟩
      · rw [if_pos (show nI d < (7 : Int32) from (nI_ltI (b := 7) (by omega) (by omega)).2 (by omega)), gR_k hk7, rk14_1 hS, Option.bind_some, vc_k hk2, X2_knows hS, Option.bind_some]
        by_cases hkn : m 13 (slN (nI (keyN q))) = nI (keyN q)
        · rw [if_pos hkn, if_neg (show ¬ (1 : Int32) = 0 by decide)]
          have e := hInv q d co hR (Nat.le_refl _) hkn dg
          rw [hn12] at e
          rw [e]
          exact ⟨m, rfl, hC, h2, hB, hb, hInv, fun i _ => Or.inl rfl, Ag.rf⟩
        · rw [if_neg hkn, if_pos (show (0 : Int32) = 0 from rfl), gR_k hk7, rk14_1 hS, Option.bind_some, vc_k hk2, X2_note hS, Option.bind_some]
          generalize hm1 : w2 m 13 (slN (nI (keyN q))) (nI (keyN q)) = m1
          have ag1 : Ag (fun b => b = 13) m m1 := by
            rw [← hm1]
            exact Ag.w2 (Z := fun b => b = 13) Ag.rf rfl
          have hC1 : CI S m1 15 E l q := hC.ag ag1 (ZOK.of (fun b hb => Or.inr (Or.inl (by omega)))) (by omega) (by omega)
          have g1 := hC1.2.2.1
          have e14 : m1 14 = m 14 := ag1 14 (by omega)
          have hst : ∀ p, p < 4 → ((nI set >>> (nI p &&& nI 31)) &&& nI 1) = nI (if set.testBit p = true then 1 else 0) := fun p hp => bitI hset (by omega)
          have hmv := C_movable hC1 hst
          have hmvb := fun c => mv_bit E q (fun p => set.testBit p) (eP E) c
          have hmvl := mv_lt E q (fun p => set.testBit p) (eP E) hN
          rw [gR_k hk7, rk14_0 hS, Option.bind_some, gI_k hk1, g1.2.1, Option.bind_some, Option.bind_some, gI_k hk1, g1.2.2.1, Option.bind_some, Option.bind_some, gI_k hk1, g1.2.2.2.2.1, Option.bind_some, Option.bind_some, gI_k hk1, g1.2.2.2.2.2.2.1, Option.bind_some, Option.bind_some, gI_k hk7, e14, h2, Option.bind_some, vc_k hk1, hmv, Option.bind_some]
          generalize hmay : mvS E q (fun p => set.testBit p) (eP E) = may at hmvb hmvl
          have loop : ∀ (r f i : Nat) (m : Nat → Nat → Int32) (b : BW), i + r = 7 → r < f → CI S m 15 E l q → m 14 2 = nI set → BC m b → BOK b → InvW E set q0 (d + 1) b (m 13) →
              ∃ m2, f_X7_goOn_140 (f_X7_goOn n) f (mk S m) (some 14) (nI d) (nI co) (nI dg) (nI q.1) (nI q.2.1) (nI q.2.2.1) (nI q.2.2.2) (nI may) (nI i) = some (mk S m2) ∧ CI S m2 15 E l q ∧ m2 14 2 = nI set ∧ BC m2 (wlS E set (waysS E set n) q d co dg (eN E - i) i b) ∧ BOK (wlS E set (waysS E set n) q d co dg (eN E - i) i b) ∧ InvW E set q0 (d + 1) (wlS E set (waysS E set n) q d co dg (eN E - i) i b) (m2 13) ∧ NewW E q0 (d + 1) (m 13) (m2 13) ∧ Ag (ZW S) m m2 := by
            intro r
            induction r with
            | zero =>
              intro f i m b hi hf hC h2 hB hb hInv
              obtain ⟨f, rfl⟩ : ∃ k, f = k + 1 := ⟨f - 1, by omega⟩
              have hi : i = 7 := by omega
              subst hi
              have e0 : eN E - 7 = 0 := by omega
              rw [e0]
              exact ⟨m, rfl, hC, h2, hB, hb, hInv, fun i _ => Or.inl rfl, Ag.rf⟩
            | succ r ihr =>
              intro f i m b hi hf hC h2 hB hb hInv
              obtain ⟨f, rfl⟩ : ∃ k, f = k + 1 := ⟨f - 1, by omega⟩
              have hbit : ((nI may >>> (nI i &&& 31)) &&& 1) = nI (if may.testBit i = true then 1 else 0) := bitI (by omega) (by omega)
              have e236 : ∀ (h : XM) (f' : Nat), f_X7_goOn_236 (f_X7_goOn n) (f_X7_goOn_140 (f_X7_goOn n) f') h (some 14) (nI d) (nI co) (nI dg) (nI q.1) (nI q.2.1) (nI q.2.2.1) (nI q.2.2.2) (nI may) (nI i) = f_X7_goOn_140 (f_X7_goOn n) f' h (some 14) (nI d) (nI co) (nI dg) (nI q.1) (nI q.2.1) (nI q.2.2.1) (nI q.2.2.2) (nI may) (nI (i + 1)) := by
                intro h f'
                unfold f_X7_goOn_236
                rw [bnd_eq, show nI i + (1 : Int32) = nI (i + 1) from nI_add i 1]
              have skip : wlS E set (waysS E set n) q d co dg (eN E - i) i b = wlS E set (waysS E set n) q d co dg (eN E - (i + 1)) (i + 1) b → ∃ m2, f_X7_goOn_140 (f_X7_goOn n) f (mk S m) (some 14) (nI d) (nI co) (nI dg) (nI q.1) (nI q.2.1) (nI q.2.2.1) (nI q.2.2.2) (nI may) (nI (i + 1)) = some (mk S m2) ∧ CI S m2 15 E l q ∧ m2 14 2 = nI set ∧ BC m2 (wlS E set (waysS E set n) q d co dg (eN E - i) i b) ∧ BOK (wlS E set (waysS E set n) q d co dg (eN E - i) i b) ∧ InvW E set q0 (d + 1) (wlS E set (waysS E set n) q d co dg (eN E - i) i b) (m2 13) ∧ NewW E q0 (d + 1) (m 13) (m2 13) ∧ Ag (ZW S) m m2 := by
                intro e
                rw [e]
                exact ihr f (i + 1) m b (by omega) (by omega) hC h2 hB hb hInv
              show ∃ m2, fb_X7_goOn_140 (f_X7_goOn n) (f_X7_goOn_140 (f_X7_goOn n) f) (mk S m) (some 14) (nI d) (nI co) (nI dg) (nI q.1) (nI q.2.1) (nI q.2.2.1) (nI q.2.2.2) (nI may) (nI i) = _ ∧ _
              unfold fb_X7_goOn_140
              rw [if_pos (show nI i < (7 : Int32) from (nI_ltI (b := 7) (by omega) (by omega)).2 (by omega)), hbit]
              by_cases hmb : may.testBit i = true
              · obtain ⟨hi7, hiP, hist, hican⟩ := (hmvb i).1 hmb
                have hcond : canS E q i = true ∧ set.testBit (eW E i) = true := ⟨hican, hist⟩
                obtain ⟨s, hs⟩ : ∃ s, eN E - i = s + 1 := ⟨eN E - i - 1, by omega⟩
                have hs2 : eN E - (i + 1) = s := by omega
                have ew2 : wlS E set (waysS E set n) q d co dg (eN E - i) i b = wlS E set (waysS E set n) q d co dg (eN E - (i + 1)) (i + 1) (waysS E set n (putS E q i) (d + 1) (co + cstS E i) (10 * dg + i + 1) b) := by
                  rw [hs, hs2]
                  show wlS E set (waysS E set n) q d co dg s (i + 1) (if canS E q i = true ∧ set.testBit (eW E i) = true then _ else b) = _
                  rw [if_pos hcond]
                have hcs := cst_le hE hi7
                have hR2 := rq_put hE hR hi7 hican
                rw [hmb, if_neg (show ¬ nI (if true = true then 1 else 0) = (0 : Int32) by decide), gR_k hk7, rk14_0 hS, Option.bind_some, vc_k hk1, C_cost hC hi7, Option.bind_some, bnd_eq, gI_k hk7, hB.1, Option.bind_some]
                have go : (∀ x, b = some x → co + cstS E i < x.1) → ∃ m2, f_X7_goOn_193 (f_X7_goOn n) (f_X7_goOn_140 (f_X7_goOn n) f) (mk S m) (some 14) (nI d) (nI co) (nI dg) (nI q.1) (nI q.2.1) (nI q.2.2.1) (nI q.2.2.2) (nI may) (nI i) (nI co + nI (cstS E i)) = some (mk S m2) ∧ CI S m2 15 E l q ∧ m2 14 2 = nI set ∧ BC m2 (wlS E set (waysS E set n) q d co dg (eN E - i) i b) ∧ BOK (wlS E set (waysS E set n) q d co dg (eN E - i) i b) ∧ InvW E set q0 (d + 1) (wlS E set (waysS E set n) q d co dg (eN E - i) i b) (m2 13) ∧ NewW E q0 (d + 1) (m 13) (m2 13) ∧ Ag (ZW S) m m2 := by
                  intro hpr
                  obtain ⟨m2, e2, hC2, ag2⟩ := C_put hC hi7
                  have e2_14 : m2 14 = m 14 := ag2 14 (no14 rfl)
                  have e2_13 : m2 13 = m 13 := ag2 13 (no13 rfl)
                  obtain ⟨m3, e3, hC3, h23, hB3, hb3, hInv3, hNew3, ag3⟩ := ih m2 (putS E q i) (d + 1) (co + cstS E i) (10 * dg + i + 1) b (by omega) hC2 (by rw [e2_14]; exact h2) (hB.e e2_14) hb hR2 hpr (by rw [e2_13]; exact hInv)
                  obtain ⟨m4, e4, hC4, ag4⟩ := C_undo hC3 hq
                  have e4_14 : m4 14 = m3 14 := ag4 14 (by omega)
                  have e4_13 : m4 13 = m3 13 := ag4 13 (by omega)
                  obtain ⟨m5, e5, hC5, h25, hB5, hb5, hInv5, hNew5, ag5⟩ := ihr f (i + 1) m4 _ (by omega) (by omega) hC4 (by rw [e4_14]; exact h23) (hB3.e e4_14) hb3 (by rw [e4_13]; exact hInv3)
                  rw [← ew2] at hB5 hb5 hInv5
                  refine ⟨m5, ?_, hC5, h25, hB5, hb5, hInv5, ?_, ?_⟩
                  · unfold f_X7_goOn_193
                    rw [gR_k hk7, rk14_0 hS, Option.bind_some, vc_k hk1, e2, Option.bind_some, nI_add, show nI d + (1 : Int32) = nI (d + 1) from nI_add d 1, show nI dg * (10 : Int32) = nI (10 * dg) from by rw [Nat.mul_comm 10 dg]; exact pk_mul dg 10, nI_add, show nI (10 * dg + i) + (1 : Int32) = nI (10 * dg + i + 1) from nI_add _ 1, vc_k hk7, e3, Option.bind_some, gR_k hk7, rk14_0 hS, Option.bind_some, vc_k hk1, e4, Option.bind_some, e236]
                    exact e5
                  · rw [e2_13] at hNew3
                    rw [e4_13] at hNew5
                    exact hNew3.tr hNew5
                  · exact ((ag2.mono (fun b hb => hb.w)).tr ag3).tr ((ag4.mono (fun b hb => Or.inr (Or.inr (Or.inl hb)))).tr ag5)
                cases hbb : b with
                | none =>
                  rw [if_pos (show bO (fun x => x.1) none = (-1 : Int32) from rfl)]
                  rw [← hbb]
                  exact go (fun x hx => by rw [hbb] at hx; cases hx)
                | some x =>
                  have hx := hb x hbb
                  have hlt : (nI co + nI (cstS E i) < bO (fun x => x.1) (some x)) ↔ co + cstS E i < x.1 := by
                    rw [nI_add]
                    exact nI_ltI (b := x.1) (by omega) (by omega)
                  rw [if_neg (show ¬ bO (fun x => x.1) (some x) = (-1 : Int32) from n_m1 x.1 (by omega)), Option.bind_some]
                  by_cases z : co + cstS E i < x.1
                  · rw [if_pos (hlt.2 z), ← hbb]
                    exact go (fun y hy => by
                      rw [hbb] at hy
                      cases hy
                      exact z)
                  · rw [if_neg (fun w => z (hlt.1 w)), e236, ← hbb]
                    refine skip ?_
                    rw [ew2, hbb, ways_dear (by omega)]
              · have hmb' : may.testBit i = false := by simpa using hmb
                rw [hmb', if_pos (show nI (if false = true then 1 else 0) = (0 : Int32) from rfl), e236]
                refine skip ?_
                by_cases hi7 : i < eN E
                · obtain ⟨s, hs⟩ : ∃ s, eN E - i = s + 1 := ⟨eN E - i - 1, by omega⟩
                  have hs2 : eN E - (i + 1) = s := by omega
                  rw [hs, hs2]
                  show wlS E set (waysS E set n) q d co dg s (i + 1) (if canS E q i = true ∧ set.testBit (eW E i) = true then _ else b) = _
                  rw [if_neg (fun z => hmb ((hmvb i).2 ⟨hi7, (hE.2.2.2 i hi7).1, z.2, z.1⟩))]
                · have e1 : eN E - i = 0 := by omega
                  have e2 : eN E - (i + 1) = 0 := by omega
                  rw [e1, e2]
                  rfl
          have hInv1 : InvW E set q0 (d + 1) b (m1 13) := by
            intro r d2 co2 r1 r2 r3 dg2
            rw [← hm1, w2_ap] at r3
            by_cases z : slN (nI (keyN r)) = slN (nI (keyN q))
            · rw [if_pos ⟨rfl, z⟩] at r3
              have l1 := key_lt hE hq
              have l2 := key_lt hE r1.1
              have := (nI_eq (by omega) (by omega)).1 r3
              have := (rq_key hE hR r1 this).2.1
              omega
            · rw [if_neg (fun y => z y.2)] at r3
              exact hInv r d2 co2 r1 (by omega) r3 dg2
          obtain ⟨m2, e2, hC2, h22, hB2, hb2, hInv2, hNew2, ag2⟩ := loop 7 FU 0 m1 b (by omega) (by unfold FU; omega) hC1 (by rw [e14]; exact h2) (hB.e e14) hb hInv1
          have ew3 : waysS E set (n + 1) q d co dg b = wlS E set (waysS E set n) q d co dg (eN E - 0) 0 b := ew
          rw [← ew3] at hB2 hb2 hInv2
          have hbl := bl_ways E set (n + 1) q d co dg b
          refine ⟨m2, e2, hC2, h22, hB2, hb2, ?_, ?_, (ag1.mono (fun b hb => Or.inl hb)).tr ag2⟩
          · intro r d2 co2 r1 r2 r3 dg2
            by_cases hdd : d + 1 ≤ d2
            · exact hInv2 r d2 co2 r1 hdd r3 dg2
            · have hdd : d2 = d := by omega
              rcases hNew2 (slN (nI (keyN r))) (sl_lt _) with e | ⟨r', d', co', s1, s2, s3⟩
              · rw [r3, ← hm1, w2_ap] at e
                by_cases z : slN (nI (keyN r)) = slN (nI (keyN q))
                · rw [if_pos ⟨rfl, z⟩] at e
                  have l1 := key_lt hE hq
                  have l2 := key_lt hE r1.1
                  have ek := (nI_eq (by omega) (by omega)).1 e
                  obtain ⟨f1, f2, f3⟩ := rq_key hE r1 hR ek
                  rw [f1, f2, f3, hn12]
                  exact ways_again E set (n + 1) q d co dg dg2 b
                · rw [if_neg (fun y => z y.2)] at e
                  exact ways_mono (hInv r d2 co2 r1 (by omega) e.symm dg2) hbl
              · rw [r3] at s3
                have l1 := key_lt hE s1.1
                have l2 := key_lt hE r1.1
                have ek := (nI_eq (by omega) (by omega)).1 s3
                have := (rq_key hE r1 s1 ek).2.1
                omega
          · have h0 : NewW E q0 d (m 13) (m1 13) := by
              intro i hi
              rw [← hm1, w2_ap]
              by_cases z : i = slN (nI (keyN q))
              · rw [if_pos ⟨rfl, z⟩]
                exact Or.inr ⟨q, d, co, hR, Nat.le_refl _, rfl⟩
              · rw [if_neg (fun y => z y.2)]
                exact Or.inl rfl
            exact h0.tr (hNew2.le (by omega))
