/-! PURE: the ways in, as the reference walks them -/
def frS (E : EN) (q : QS) : Nat := fa_cnt (fun c => !q.2.2.2.testBit c) (eN E)
theorem cnt_mono {p r : Nat → Bool} (h : ∀ k, r k = true → p k = true) : ∀ n, fa_cnt r n ≤ fa_cnt p n
  | 0 => Nat.le_refl _
  | n + 1 => by
    have ih := cnt_mono h n
    unfold fa_cnt
    by_cases z : r n = true
    · rw [if_pos z, if_pos (h n z)]
      omega
    · rw [if_neg z]
      split <;> omega
theorem cnt_lt {p r : Nat → Bool} {c : Nat} (h : ∀ k, r k = true → p k = true) (h1 : p c = true) (h2 : r c = false) : ∀ n, c < n → fa_cnt r n < fa_cnt p n
  | 0, hc => absurd hc (Nat.not_lt_zero c)
  | n + 1, hc => by
    have im := cnt_mono h n
    unfold fa_cnt
    by_cases e : c = n
    · subst e
      rw [if_pos h1, if_neg (by rw [h2]; decide)]
      omega
    · have ih := cnt_lt h h1 h2 n (by omega)
      by_cases z : r n = true
      · rw [if_pos z, if_pos (h n z)]
        omega
      · rw [if_neg z]
        split <;> omega
theorem can_iff {E : EN} {q : QS} {c : Nat} : canS E q c = true ↔ q.2.2.2.testBit c = false ∧ q.2.2.1.testBit (eW E c) = false := by
  unfold canS
  cases q.2.2.2.testBit c <;> cases q.2.2.1.testBit (eW E c) <;> simp
theorem fr_lt {E : EN} {q : QS} {c : Nat} (hc : c < eN E) (hx : q.2.2.2.testBit c = false) {s w i : Nat} : frS E (s, w, i, q.2.2.2 ||| 2 ^ c) < frS E q := by
  refine cnt_lt (c := c) (fun k hk => ?_) ?_ ?_ (eN E) hc
  · have hk' : (q.2.2.2 ||| 2 ^ c).testBit k = false := by simpa using hk
    rw [tb_set] at hk'
    cases z : q.2.2.2.testBit k
    · rfl
    · rw [z] at hk'
      simp at hk'
  · show (!q.2.2.2.testBit c) = true
    rw [hx]
    rfl
  · show (!(q.2.2.2 ||| 2 ^ c).testBit c) = false
    rw [tb_set]
    simp
theorem fr_put {E : EN} {q : QS} {c : Nat} (hc : c < eN E) (h : canS E q c = true) : frS E (putS E q c) < frS E q := fr_lt hc (can_iff.1 h).1
theorem fr_le (E : EN) (q : QS) : frS E q ≤ eN E := fa_cnt_le _ _
/-- the best that is known: its costs, how many, its digits -/
abbrev BW : Type := Option (Nat × Nat × Nat)
def updS (b : BW) (x : Nat × Nat × Nat) : BW := match b with
  | none => some x
  | some y => if x.1 < y.1 then some x else some y
def allIn (set : Nat) (q : QS) : Bool := decide (q.2.2.1 &&& set = set)
def wlS (E : EN) (set : Nat) (rec : QS → Nat → Nat → Nat → BW → BW) (q : QS) (d co dg : Nat) : Nat → Nat → BW → BW
  | 0, _, b => b
  | r + 1, i, b => wlS E set rec q d co dg r (i + 1) (if canS E q i = true ∧ set.testBit (eW E i) = true then rec (putS E q i) (d + 1) (co + cstS E i) (10 * dg + i + 1) b else b)
def waysS (E : EN) (set : Nat) : Nat → QS → Nat → Nat → Nat → BW → BW
  | 0, _, _, _, _, b => b
  | n + 1, q, d, co, dg, b => if allIn set q = true then updS b (co, d, dg) else wlS E set (waysS E set n) q d co dg (eN E) 0 b
def bO (f : Nat × Nat × Nat → Nat) (b : BW) : Int32 := match b with
  | none => -1
  | some x => nI (f x)
def BM (m : Nat → Nat → Int32) (b : BW) : Prop := m 50 39 = bO (fun x => x.1) b ∧ m 50 40 = bO (fun x => x.2.1) b ∧ m 50 41 = bO (fun x => x.2.2) b
def BOK (b : BW) : Prop := ∀ x, b = some x → x.1 ≤ 420
def ZB (b : Nat) : Prop := b = 66 ∨ b = 67 ∨ b = 69 ∨ b = 70
def JW (j : Nat) : Prop := j = 1 ∨ j = 2 ∨ j = 4 ∨ j = 10 ∨ j = 39 ∨ j = 40 ∨ j = 41
theorem BM.ag {m m2 : Nat → Nat → Int32} {b : BW} {Z J : Nat → Prop} (h : BM m b) (ha : AgM Z J m m2) (hj : ∀ j, j = 39 ∨ j = 40 ∨ j = 41 → ¬ J j) : BM m2 b := by
  unfold BM
  rw [ha.2 39 (hj 39 (by decide)), ha.2 40 (hj 40 (by decide)), ha.2 41 (hj 41 (by decide))]
  exact h
theorem cst_le {E : EN} {c : Nat} (hE : EOK E) (hc : c < eN E) : cstS E c ≤ 60 := csS_le (hE.2.2.2 c hc).2.2.1
theorem all_in {set i : Nat} (h1 : set < 2 ^ 31) (h2 : i < 2 ^ 31) : (nI set &&& (nI i ^^^ (-1)) = 0) ↔ i &&& set = set := by
  rw [compl_n h1]
  have hl : set ^^^ (set &&& i) < 2 ^ 31 := Nat.xor_lt_two_pow h1 (Nat.lt_of_le_of_lt Nat.and_le_left h1)
  rw [n0 hl]
  constructor
  · intro h
    apply Nat.eq_of_testBit_eq
    intro k
    have := congrArg (fun x => Nat.testBit x k) h
    simp only [tb_diff, Nat.zero_testBit] at this
    rw [Nat.testBit_and]
    cases hi : i.testBit k <;> cases hs : set.testBit k <;> simp_all
  · intro h
    apply Nat.eq_of_testBit_eq
    intro k
    have := congrArg (fun x => Nat.testBit x k) h
    simp only [Nat.testBit_and] at this
    rw [tb_diff, Nat.zero_testBit]
    cases hi : i.testBit k <;> cases hs : set.testBit k <;> simp_all
theorem BOK.upd {b : BW} {x : Nat × Nat × Nat} (h : BOK b) (hx : x.1 ≤ 420) : BOK (updS b x) := by
  intro y hy
  unfold updS at hy
  split at hy
  · cases hy
    exact hx
  · split at hy
    · cases hy
      exact hx
    · cases hy
      exact h _ rfl
theorem M_ways {E : EN} {l set : Nat} (hset : set < 2 ^ 31) : ∀ (n : Nat) (S : SK) (m : Nat → Nat → Int32) (q : QS) (d co dg : Nat) (b : BW), MV S m E l q → BM m b → BOK b → frS E q < n → d + frS E q ≤ 7 → co ≤ 60 * d →
    ∃ L m2, f_X9_waysIn n (mk S m) (some 50) (nI set) (nI d) (nI co) (nI dg) = some (mk (sLg S L) m2) ∧ MV (sLg S L) m2 E l q ∧ BM m2 (waysS E set n q d co dg b) ∧ BOK (waysS E set n q d co dg b) ∧ AgM ZB JW m m2 ∧ ∀ j, j < 4 * d ∨ 32 ≤ j → m2 70 j = m 70 j := by
  intro n
  induction n with
  | zero =>
    intro S m q d co dg b _ _ _ h
    exact absurd h (Nat.not_lt_zero _)
  | succ n ih =>
    intro S m q d co dg b hM hB hb hn hd hco
    have hS := hM.1
    have hE := hM.2.1
    have hN := hE.2.2.1
    have hk : (sh S 50).1 = 9 := by rw [sk50 hS]
    have g := hM.2.2.2.1
    have hq := hM.2.2.2.2.1
    have z1 := p16 hE.2.1 hq.2.2.1
    have hall := all_in (set := set) (i := q.2.2.1) hset (by omega)
    show ∃ L m2, fe_X9_waysIn (f_X9_waysIn n) (mk S m) (some 50) (nI set) (nI d) (nI co) (nI dg) = _ ∧ _
    unfold fe_X9_waysIn
    rw [gI_k hk, g.2.2.2.2.1, Option.bind_some]
    by_cases ha : q.2.2.1 &&& set = set
    · rw [if_pos (hall.2 ha)]
      have ew : waysS E set (n + 1) q d co dg b = updS b (co, d, dg) := by
        show (if allIn set q = true then _ else _) = _
        rw [if_pos (by unfold allIn; simpa using ha)]
      rw [ew]
      have hset2 : ∃ m2, f_X9_waysIn_27 (f_X9_waysIn n) (mk S m) (some 50) (nI d) (nI co) (nI dg) = some (mk S m2) ∧ MV S m2 E l q ∧ BM m2 (some (co, d, dg)) ∧ AgM ZB JW m m2 ∧ m2 70 = m 70 := by
        have agz : AgM (fun _ => False) (fun j => j = 39 ∨ j = 40 ∨ j = 41) m (w2 (w2 (w2 m 50 39 (nI co)) 50 40 (nI d)) 50 41 (nI dg)) := (((AgM.rf.w50 (by omega)).w50 (by omega)).w50 (by omega))
        refine ⟨w2 (w2 (w2 m 50 39 (nI co)) 50 40 (nI d)) 50 41 (nI dg), ?_, ?_, ⟨rfl, rfl, rfl⟩, agz.mono (fun _ z => z.elim) (fun j hj => by unfold JW; omega), ?_⟩
        · unfold f_X9_waysIn_27
          rw [pI_k hk, Option.bind_some, pI_k hk, Option.bind_some, pI_k hk]
          rfl
        · exact hM.ag agz (fun _ _ => id) (fun j hj => by omega)
        · exact agz.1 70 (by decide) id
      obtain ⟨m2, e2, hI2, hB2, ag2, e70⟩ := hset2
      rw [gI_k hk, hB.1, Option.bind_some]
      cases hbb : b with
      | none =>
        rw [if_pos (show bO (fun x => x.1) none = (-1 : Int32) from rfl)]
        exact ⟨lg S, m2, e2, hI2, hB2, fun x hx => by cases hx; omega, ag2, fun j _ => by rw [e70]⟩
      | some y =>
        have hy := hb y hbb
        rw [if_neg (show ¬ bO (fun x => x.1) (some y) = (-1 : Int32) from n_m1 y.1 (by omega)), Option.bind_some]
        have hlt : (nI co < bO (fun x => x.1) (some y)) ↔ co < y.1 := nI_ltI (b := y.1) (by omega) (by omega)
        by_cases z : co < y.1
        · rw [if_pos (hlt.2 z)]
          have eu : updS (some y) (co, d, dg) = some (co, d, dg) := if_pos z
          rw [eu]
          exact ⟨lg S, m2, e2, hI2, hB2, fun x hx => by cases hx; omega, ag2, fun j _ => by rw [e70]⟩
        · rw [if_neg (fun w => z (hlt.1 w))]
          have eu : updS (some y) (co, d, dg) = some y := if_neg z
          rw [eu]
          exact ⟨lg S, m, rfl, hM, by rw [← hbb]; exact hB, by rw [← hbb]; exact hb, AgM.rf, fun j _ => rfl⟩
    · rw [if_neg (fun z => ha (hall.1 z))]
      have ew : waysS E set (n + 1) q d co dg b = wlS E set (waysS E set n) q d co dg (eN E) 0 b := by
        show (if allIn set q = true then _ else _) = _
        rw [if_neg (by unfold allIn; simpa using ha)]
      rw [ew]
      obtain ⟨m1, e1, hI1, hK1, ag1, hlo1⟩ := M_keeps hM (d := d) (by omega)
      have loop : ∀ (r f i : Nat) (S : SK) (m : Nat → Nat → Int32) (b : BW), i + r = eN E → r < f → MV S m E l q → BM m b → BOK b → KP m d q →
          ∃ L m2, f_X9_waysIn_52 (f_X9_waysIn n) f (mk S m) (some 50) (nI set) (nI d) (nI co) (nI dg) (nI i) = some (mk (sLg S L) m2) ∧ MV (sLg S L) m2 E l q ∧ BM m2 (wlS E set (waysS E set n) q d co dg r i b) ∧ BOK (wlS E set (waysS E set n) q d co dg r i b) ∧ AgM ZB JW m m2 ∧ ∀ j, j < 4 * d ∨ 32 ≤ j → m2 70 j = m 70 j := by
        intro r
        induction r with
        | zero =>
          intro f i S m b hi hr hM hB hb hK
          obtain ⟨f, rfl⟩ : ∃ k, f = k + 1 := ⟨f - 1, by omega⟩
          have hk : (sh S 50).1 = 9 := by rw [sk50 hM.1]
          refine ⟨lg S, m, ?_, hM, hB, hb, AgM.rf, fun j _ => rfl⟩
          show fb_X9_waysIn_52 (f_X9_waysIn n) (f_X9_waysIn_52 (f_X9_waysIn n) f) _ _ _ _ _ _ _ = _
          unfold fb_X9_waysIn_52
          rw [gI_k hk, hM.2.2.2.1.2.2.2.2.2.1, Option.bind_some, if_neg (by rw [nI_ltI (by omega) (by omega)]; omega)]
          rfl
        | succ r ihr =>
          intro f i S m b hi hr hM hB hb hK
          obtain ⟨f, rfl⟩ : ∃ k, f = k + 1 := ⟨f - 1, by omega⟩
          have hk : (sh S 50).1 = 9 := by rw [sk50 hM.1]
          have hwh := M_whose hM (c := i) (by omega)
          have hEi := hE.2.2.2 i (by omega)
          have hP := hE.2.1
          have hbit : ((nI set >>> (nI (eW E i) &&& 31)) &&& 1) = nI (if set.testBit (eW E i) = true then 1 else 0) := bitI hset (by omega)
          have e123 : ∀ (h : XM) (f' : Nat), f_X9_waysIn_123 (f_X9_waysIn n) (f_X9_waysIn_52 (f_X9_waysIn n) f') h (some 50) (nI set) (nI d) (nI co) (nI dg) (nI i) = f_X9_waysIn_52 (f_X9_waysIn n) f' h (some 50) (nI set) (nI d) (nI co) (nI dg) (nI (i + 1)) := by
            intro h f'
            unfold f_X9_waysIn_123
            rw [bnd_eq, show nI i + (1 : Int32) = nI (i + 1) from nI_add i 1]
          show ∃ L m2, fb_X9_waysIn_52 (f_X9_waysIn n) (f_X9_waysIn_52 (f_X9_waysIn n) f) (mk S m) (some 50) (nI set) (nI d) (nI co) (nI dg) (nI i) = _ ∧ _
          unfold fb_X9_waysIn_52
          rw [gI_k hk, hM.2.2.2.1.2.2.2.2.2.1, Option.bind_some, if_pos (by rw [nI_ltI (by omega) (by omega)]; omega), vc_k hk, M_canPut hM (by omega), Option.bind_some]
          have skip : ¬ (canS E q i = true ∧ set.testBit (eW E i) = true) → ∃ L m2, f_X9_waysIn_52 (f_X9_waysIn n) f (mk S m) (some 50) (nI set) (nI d) (nI co) (nI dg) (nI (i + 1)) = some (mk (sLg S L) m2) ∧ MV (sLg S L) m2 E l q ∧ BM m2 (wlS E set (waysS E set n) q d co dg (r + 1) i b) ∧ BOK (wlS E set (waysS E set n) q d co dg (r + 1) i b) ∧ AgM ZB JW m m2 ∧ ∀ j, j < 4 * d ∨ 32 ≤ j → m2 70 j = m 70 j := by
            intro hno
            have ew2 : wlS E set (waysS E set n) q d co dg (r + 1) i b = wlS E set (waysS E set n) q d co dg r (i + 1) b := by
              show wlS E set (waysS E set n) q d co dg r (i + 1) (if canS E q i = true ∧ set.testBit (eW E i) = true then _ else b) = _
              rw [if_neg hno]
            rw [ew2]
            exact ihr f (i + 1) S m b (by omega) (by omega) hM hB hb hK
          by_cases hcan : canS E q i = true
          · rw [hcan, if_neg (show ¬ nI (if true = true then 1 else 0) = (0 : Int32) by decide), hwh.1, Option.bind_some, hwh.2, Option.bind_some, hbit]
            by_cases hst : set.testBit (eW E i) = true
            · rw [hst, if_pos (show nI (if true = true then 1 else 0) = (1 : Int32) from rfl)]
              have ew2 : wlS E set (waysS E set n) q d co dg (r + 1) i b = wlS E set (waysS E set n) q d co dg r (i + 1) (waysS E set n (putS E q i) (d + 1) (co + cstS E i) (10 * dg + i + 1) b) := by
                show wlS E set (waysS E set n) q d co dg r (i + 1) (if canS E q i = true ∧ set.testBit (eW E i) = true then _ else b) = _
                rw [if_pos ⟨hcan, hst⟩]
              rw [ew2]
              have hfr := fr_put (E := E) (q := q) (c := i) (by omega) hcan
              have hcs := cst_le hE (c := i) (by omega)
              obtain ⟨L1, m1, e1, hI1, ag1⟩ := M_put hM (c := i) (by omega)
              have hB1 : BM m1 b := hB.ag ag1 (fun j hj => by unfold JQ; omega)
              have hk1 : (sh (sLg S L1) 50).1 = 9 := by rw [sk50 hI1.1]
              obtain ⟨L3, m3, e3, hI3, hB3, hb3, ag3, hlo3⟩ := ih (sLg S L1) m1 (putS E q i) (d + 1) (co + cstS E i) (10 * dg + i + 1) b hI1 hB1 hb (by omega) (by omega) (by omega)
              have hk3 : (sh (sLg (sLg S L1) L3) 50).1 = 9 := by rw [sk50 hI3.1]
              have hK3 : KP m3 d q := by
                have e70 : ∀ j, j < 4 * d + 4 → m3 70 j = m 70 j := fun j hj => by
                  rw [hlo3 j (by omega), ag1.1 70 (by decide) (by unfold ZA; omega)]
                unfold KP
                rw [e70 _ (by omega), e70 _ (by omega), e70 _ (by omega), e70 _ (by omega)]
                exact hK
              obtain ⟨m4, e4, hI4, ag4⟩ := M_lays hI3 (d := d) (by omega) hK3 hq
              have hB4 := hB3.ag ag4 (fun j hj => by unfold JQ; omega)
              have hK4 : KP m4 d q := by
                unfold KP
                rw [ag4.1 70 (by decide) id]
                exact hK3
              obtain ⟨L5, m5, e5, hI5, hB5, hb5, ag5, hlo5⟩ := ihr f (i + 1) (sLg (sLg S L1) L3) m4 _ (by omega) (by omega) hI4 hB4 hb3 hK4
              refine ⟨L5, m5, ?_, hI5, hB5, hb5, ?_, ?_⟩
              · rw [vc_k hk, e1, Option.bind_some]
                show (vc (mk (sLg S L1) m1) 9 (some 50) (f_X9_costsOf (mk (sLg S L1) m1) (some 50) (nI i))).bind _ = _
                rw [vc_k hk1, M_costs hI1 (by omega), Option.bind_some]
                show (vc (mk (sLg S L1) m1) 9 (some 50) (f_X9_waysIn n (mk (sLg S L1) m1) (some 50) (nI set) (nI d + 1) (nI co + nI (cstS E i)) (10 * nI dg + nI i + 1))).bind _ = _
                rw [show nI d + (1 : Int32) = nI (d + 1) from nI_add d 1, nI_add, show (10 : Int32) * nI dg = nI (10 * dg) from pk_mul 10 dg, nI_add, show nI (10 * dg + i) + (1 : Int32) = nI (10 * dg + i + 1) from nI_add _ 1, vc_k hk1, e3, Option.bind_some, vc_k hk3, e4, Option.bind_some, e123]
                exact e5
              · refine ((ag1.mono (fun a ha => by unfold ZA at ha; unfold ZB; omega) (fun j hj => by unfold JQ at hj; unfold JW; omega)).tr ag3).tr ((ag4.mono (fun _ z => z.elim) (fun j hj => by unfold JQ at hj; unfold JW; omega)).tr ag5)
              · intro j hj
                rw [hlo5 j hj, ag4.1 70 (by decide) id, hlo3 j (by omega), ag1.1 70 (by decide) (by unfold ZA; omega)]
            · have hst' : set.testBit (eW E i) = false := by simpa using hst
              rw [hst', if_neg (show ¬ nI (if false = true then 1 else 0) = (1 : Int32) by decide)]
              rw [e123]
              exact skip (fun z => hst z.2)
          · have hcan' : canS E q i = false := by simpa using hcan
            rw [hcan', if_pos (show nI (if false = true then 1 else 0) = (0 : Int32) from rfl)]
            rw [e123]
            exact skip (fun z => hcan z.1)
      have hB1 := hB.ag ag1 (fun j _ => id)
      obtain ⟨L2, m2, e2, hI2, hB2, hb2, ag2, hlo2⟩ := loop (eN E) FU 0 S m1 b (by omega) (by unfold FU; omega) hI1 hB1 hb hK1
      refine ⟨L2, m2, ?_, hI2, hB2, hb2, ?_, ?_⟩
      · rw [vc_k hk, e1, Option.bind_some]
        exact e2
      · exact (ag1.mono (fun a ha => by unfold Z70 at ha; unfold ZB; omega) (fun _ z => z.elim)).tr ag2
      · intro j hj
        rw [hlo2 j hj, hlo1 j (by omega)]
