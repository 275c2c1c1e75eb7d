/-! PURE: the class's gate: worth, what may be put in, becoming another, undoing, waiting, costs -/
theorem C_worth {S : SK} {m : Nat → Nat → Int32} {g : Nat} {E : EN} {l : Nat} {q : QS} (h : CI S m g E l q) {p : Nat} (hp : p < 4) :
    ∃ m2 : Nat → Nat → Int32, f_X1_worthOf (mk S m) (some g) (nI p) = some (wthS E q p, mk S m2) ∧ CI S m2 g E l q ∧ Ag (fun b => b = g + 2 ∨ Stk S b) m m2 := by
  have hS := h.1.1
  have hE := h.1.2.1
  have hG := GS_of hS h.2.1
  have hk : (sh S g).1 = 1 := by rw [hG.1]
  have hq := h.2.2.2
  have z1 := p16 hE.2.1 hq.2.2.1
  have tail : ∀ (m1 : Nat → Nat → Int32) (v : Int32), CI S m1 g E l q → ∃ m2 : Nat → Nat → Int32, f_X1_worthOf_37 (mk S m1) (some g) (nI p) (nI (lfS (eW E) q.2.2.2 p (eN E))) v = some (v - lawS E 2 q.1 0 q.2.1 (lfS (eW E) q.2.2.2 p (eN E)) p, mk S m2) ∧ CI S m2 g E l q ∧ Ag (fun b => b = g + 2 ∨ Stk S b) m1 m2 := by
    intro m1 v h1
    obtain ⟨m2, e, hI, ag⟩ := C_law h1 (p := 2) (a := q.1) (v := 0) (w := q.2.1) (n := lfS (eW E) q.2.2.2 p (eN E)) (u := p) (by decide) hq.1
    refine ⟨m2, ?_, hI, ag⟩
    unfold f_X1_worthOf_37
    rw [gI_k hk, h1.2.2.1.2.1]
    simp only [Option.bind_some]
    rw [gI_k hk, h1.2.2.1.2.2.1]
    simp only [Option.bind_some]
    rw [vc_k hk]
    have e' : f_X1_lawSays (mk S m1) (some g) 2 (nI q.1) 0 (nI q.2.1) (nI (lfS (eW E) q.2.2.2 p (eN E))) (nI p) = _ := e
    rw [e']
    rfl
  have em := fun (F : Int32 × XM → Option (Int32 × XM)) => C_many (S := S) (m := m) (g := g) (E := E) (x := q.2.2.2) (p := p) hG hE.2.2.1 (h.own p hp).1 h.2.2.1.2.2.2.2.2.2.1 hp F
  have ei := X1_isInside (S := S) (m := m) (p := p) hG.1 h.2.2.1.2.2.2.2.1 (by omega) (by omega)
  unfold f_X1_worthOf
  rw [vc_k hk, em, vc_k hk, ei]
  simp only [Option.bind_some]
  cases hb : q.2.2.1.testBit p
  · rw [if_pos (show nI (if false = true then 1 else 0) = (0 : Int32) from rfl)]
    obtain ⟨m2, e, hI, ag⟩ := tail m 0 h
    refine ⟨m2, ?_, hI, ag⟩
    rw [e]
    unfold wthS
    rw [hb]
    rfl
  · rw [if_neg (by decide)]
    obtain ⟨m1, e1, hI1, ag1⟩ := C_law h (p := 1) (a := q.1) (v := 0) (w := q.2.1) (n := lfS (eW E) q.2.2.2 p (eN E)) (u := p) (by decide) hq.1
    obtain ⟨m2, e, hI, ag⟩ := tail m1 (lawS E 1 q.1 0 q.2.1 (lfS (eW E) q.2.2.2 p (eN E)) p) hI1
    refine ⟨m2, ?_, hI, ag1.tr ag⟩
    rw [gI_k hk, h.2.2.1.2.1]
    simp only [Option.bind_some]
    rw [gI_k hk, h.2.2.1.2.2.1]
    simp only [Option.bind_some]
    rw [vc_k hk]
    have e1' : f_X1_lawSays (mk S m) (some g) 1 (nI q.1) 0 (nI q.2.1) (nI (lfS (eW E) q.2.2.2 p (eN E))) (nI p) = _ := e1
    rw [e1']
    simp only [Option.bind_some]
    rw [e]
    unfold wthS
    rw [hb]
    rfl
def mvS (E : EN) (q : QS) (st : Nat → Bool) : Nat → Nat
  | 0 => 0
  | n + 1 => if st n = true ∧ q.2.2.1.testBit n = false then mvS E q st n ||| (omS (eW E) n (eN E) ^^^ (omS (eW E) n (eN E) &&& q.2.2.2)) else mvS E q st n
theorem mv_bit (E : EN) (q : QS) (st : Nat → Bool) : ∀ n c, (mvS E q st n).testBit c = true ↔ (c < eN E ∧ eW E c < n ∧ st (eW E c) = true ∧ canS E q c = true)
  | 0, c => by simp [mvS]
  | n + 1, c => by
    have ih := mv_bit E q st n c
    have hcan : canS E q c = true ↔ q.2.2.2.testBit c = false ∧ q.2.2.1.testBit (eW E c) = false := by
      unfold canS
      cases q.2.2.2.testBit c <;> cases q.2.2.1.testBit (eW E c) <;> simp
    have hom := om_bit (eW E) n (eN E) c
    rw [hcan] at ih ⊢
    unfold mvS
    split
    · rename_i hc
      rw [Nat.testBit_or, tb_diff]
      constructor
      · intro z
        rcases Bool.or_eq_true _ _ ▸ z with y | y
        · obtain ⟨y1, y2, y3⟩ := ih.1 y
          exact ⟨y1, by omega, y3⟩
        · have y' : (omS (eW E) n (eN E)).testBit c = true ∧ q.2.2.2.testBit c = false := by simpa using y
          obtain ⟨y1, y2⟩ := hom.1 y'.1
          rw [y2]
          exact ⟨y1, by omega, hc.1, y'.2, hc.2⟩
      · rintro ⟨z1, z2, z3, z4, z5⟩
        by_cases e : eW E c = n
        · have := hom.2 ⟨z1, e⟩
          simp [this, z4]
        · have := ih.2 ⟨z1, by omega, z3, z4, z5⟩
          simp [this]
    · rename_i hc
      rw [ih]
      constructor
      · rintro ⟨z1, z2, z3⟩
        exact ⟨z1, by omega, z3⟩
      · rintro ⟨z1, z2, z3, z4, z5⟩
        refine ⟨z1, ?_, z3, z4, z5⟩
        by_cases e : eW E c = n
        · rw [e] at z3 z5
          exact absurd ⟨z3, z5⟩ hc
        · omega
theorem mv_lt (E : EN) (q : QS) (st : Nat → Bool) (n : Nat) (hN : eN E ≤ 7) : mvS E q st n < 128 := by
  refine p128 hN (bits_lt (fun i hi => ?_))
  cases z : (mvS E q st n).testBit i
  · rfl
  · have := ((mv_bit E q st n i).1 z).1
    omega
theorem C_movable {S : SK} {m : Nat → Nat → Int32} {g : Nat} {E : EN} {l : Nat} {q : QS} (h : CI S m g E l q) {set : Int32} {st : Nat → Bool} (hs : ∀ p, p < 4 → ((set >>> (nI p &&& nI 31)) &&& nI 1) = nI (if st p = true then 1 else 0)) : f_X1_movable (mk S m) (some g) set = some (nI (mvS E q st (eP E)), mk S m) := by
  have hS := h.1.1
  have hE := h.1.2.1
  have hP := hE.2.1
  have hG := GS_of hS h.2.1
  have hk : (sh S g).1 = 1 := by rw [hG.1]
  have hq := h.2.2.2
  have z1 := p16 hE.2.1 hq.2.2.1
  have loop : ∀ r n i, i + r = eP E → r < n → f_X1_movable_4 n (mk S m) (some g) set (nI (mvS E q st i)) (nI i) = some (nI (mvS E q st (eP E)), mk S m) := by
    intro r
    induction r with
    | zero =>
      intro n i hi hr
      obtain ⟨n, rfl⟩ : ∃ k, n = k + 1 := ⟨n - 1, by omega⟩
      show fb_X1_movable_4 (f_X1_movable_4 n) _ _ _ _ _ = _
      have hi : i = eP E := by omega
      subst hi
      unfold fb_X1_movable_4
      rw [gI_k hk, h.2.2.1.2.2.2.1]
      simp only [Option.bind_some]
      rw [if_neg (by rw [nI_ltI (by omega) (by omega)]; omega)]
    | succ r ih =>
      intro n i hi hr
      obtain ⟨n, rfl⟩ : ∃ k, n = k + 1 := ⟨n - 1, by omega⟩
      show fb_X1_movable_4 (f_X1_movable_4 n) _ _ _ _ _ = _
      have hs' := hs i (by omega)
      have hs2 : ((set >>> (nI i &&& 31)) &&& 1) = nI (if st i = true then 1 else 0) := hs'
      have ei := X1_isInside (S := S) (m := m) (p := i) hG.1 h.2.2.1.2.2.2.2.1 (by omega) (by omega)
      have el := X1_leftOf (S := S) (m := m) (p := i) hG (h.own i (by omega)).1 h.2.2.1.2.2.2.2.2.2.1 (h.own i (by omega)).2 (by omega)
      have nx := ih n (i + 1) (by omega) (by omega)
      have e1 : nI i + (1 : Int32) = nI (i + 1) := nI_add i 1
      unfold fb_X1_movable_4
      rw [gI_k hk, h.2.2.1.2.2.2.1]
      simp only [Option.bind_some]
      rw [if_pos (by rw [nI_ltI (by omega) (by omega)]; omega), hs2]
      cases hst : st i
      · rw [if_pos (show nI (if false = true then 1 else 0) = (0 : Int32) from rfl)]
        unfold f_X1_movable_36
        rw [bnd_eq, e1]
        have e2 : mvS E q st (i + 1) = mvS E q st i := by
          show (if st i = true ∧ q.2.2.1.testBit i = false then _ else _) = _
          rw [if_neg (by rw [hst]; simp)]
        rw [e2] at nx
        exact nx
      · rw [if_neg (by decide), vc_k hk, ei]
        simp only [Option.bind_some]
        cases hb : q.2.2.1.testBit i
        · rw [if_pos (show nI (if false = true then 1 else 0) = (0 : Int32) from rfl), vc_k hk, el]
          simp only [Option.bind_some]
          unfold f_X1_movable_36
          rw [bnd_eq, bnd_eq, e1, fa_or]
          have e2 : mvS E q st (i + 1) = mvS E q st i ||| (omS (eW E) i (eN E) ^^^ (omS (eW E) i (eN E) &&& q.2.2.2)) := by
            show (if st i = true ∧ q.2.2.1.testBit i = false then _ else _) = _
            rw [if_pos ⟨hst, hb⟩]
          rw [e2] at nx
          exact nx
        · rw [if_neg (by decide)]
          unfold f_X1_movable_36
          rw [bnd_eq, e1]
          have e2 : mvS E q st (i + 1) = mvS E q st i := by
            show (if st i = true ∧ q.2.2.1.testBit i = false then _ else _) = _
            rw [if_neg (by rw [hb]; simp)]
          rw [e2] at nx
          exact nx
  exact loop (eP E) FU 0 (by omega) (by unfold FU; omega)
theorem C_become {S : SK} {m : Nat → Nat → Int32} {g g2 : Nat} {E : EN} {l : Nat} {q : QS} (h : CI S m g2 E l q) (hg : isG g) (hne : g ≠ g2) :
    ∃ m2 : Nat → Nat → Int32, f_X1_become (mk S m) (some g) (some g2) = some (mk S m2) ∧ CI S m2 g E l q ∧ Ag (fun b => b = g ∨ b = g + 1) m m2 := by
  have h0 := h
  obtain ⟨⟨hS, hE, hl6, hco, ht⟩, hg2, ⟨d4, d5, d6, d7, d8, d9, d10, d11, ho⟩, hq⟩ := h
  have hG := GS_of hS hg
  have hG2 := GS_of hS hg2
  have hk : (sh S g).1 = 1 := by rw [hG.1]
  have hk2 : (sh S g2).1 = 1 := by rw [hG2.1]
  have hle := hg.le
  have hle2 := hg2.le
  have nw : ∀ (f : Nat → Nat → Int32) (j k : Nat) (v : Int32), w2 f g j v g2 k = f g2 k := fun f j k v => by rw [w2_ap, if_neg (fun z => hne z.1.symm)]
  let m1 := w2 (w2 (w2 (w2 (w2 (w2 (w2 (w2 m g 4 (nI (eD E))) g 5 (nI q.1)) g 6 (nI q.2.1)) g 7 (nI (eP E))) g 8 (nI q.2.2.1)) g 9 (nI (eN E))) g 10 (nI q.2.2.2)) g 11 (nI l)
  have ag1 : Ag (fun b => b = g ∨ b = g + 1) m m1 := (((((((Ag.rf.w2 (Or.inl rfl)).w2 (Or.inl rfl)).w2 (Or.inl rfl)).w2 (Or.inl rfl)).w2 (Or.inl rfl)).w2 (Or.inl rfl)).w2 (Or.inl rfl)).w2 (Or.inl rfl)
  have step1 : f_X1_become (mk S m) (some g) (some g2) = f_X1_become_66 FU (mk S m1) (some g) (some g2) (nI 0) := by
    unfold f_X1_become
    simp only [gI_k hk2, pI_k hk, Option.bind_some, nw, d4, d5, d6, d7, d8, d9, d10, d11]
    rfl
  have estep : ∀ (m3 : Nat → Nat → Int32) (n p : Nat), p < 4 → f_X1_become_66 (n + 1) (mk S m3) (some g) (some g2) (nI p) = f_X1_become_66 n (mk S (w2 m3 (g + 1) p (m3 (g2 + 1) p))) (some g) (some g2) (nI (p + 1)) := by
    intro m3 n p hp
    show fb_X1_become_66 (f_X1_become_66 n) _ _ _ _ = _
    unfold fb_X1_become_66
    rw [if_pos (show nI p < (4 : Int32) from (nI_ltI (b := 4) (by omega) (by omega)).2 hp), gR_k hk, hG.2.2.2.2.2.1]
    simp only [Option.bind_some]
    rw [gR_k hk2, hG2.2.2.2.2.2.1]
    simp only [Option.bind_some]
    rw [rI_n hG2.2.1 hp (by decide)]
    simp only [Option.bind_some]
    rw [sI_n hG.2.1 hp (by decide)]
    simp only [Option.bind_some]
    rw [bnd_eq, show nI p + (1 : Int32) = nI (p + 1) from nI_add p 1]
  have eend : ∀ (m3 : Nat → Nat → Int32) (n : Nat), f_X1_become_66 (n + 1) (mk S m3) (some g) (some g2) (nI 4) = some (mk S m3) := fun _ _ => rfl
  have eo : ∀ p, p < 4 → m1 (g2 + 1) p = nI (omS (eW E) p (eN E)) := by
    intro p hp
    rw [ag1 (g2 + 1) (by omega)]
    exact ho p hp
  have no2 : ∀ (f : Nat → Nat → Int32) (j k : Nat) (v : Int32), w2 f (g + 1) j v (g2 + 1) k = f (g2 + 1) k := fun f j k v => by rw [w2_ap, if_neg (fun z => hne (by omega))]
  let m2 := w2 (w2 (w2 (w2 m1 (g + 1) 0 (nI (omS (eW E) 0 (eN E)))) (g + 1) 1 (nI (omS (eW E) 1 (eN E)))) (g + 1) 2 (nI (omS (eW E) 2 (eN E)))) (g + 1) 3 (nI (omS (eW E) 3 (eN E)))
  have ag2 : Ag (fun b => b = g ∨ b = g + 1) m m2 := (((ag1.w2 (Or.inr rfl)).w2 (Or.inr rfl)).w2 (Or.inr rfl)).w2 (Or.inr rfl)
  have hg1 : m2 g = m1 g := by
    show w2 (w2 (w2 (w2 m1 (g + 1) 0 _) (g + 1) 1 _) (g + 1) 2 _) (g + 1) 3 _ g = _
    rw [w2_ne (by omega), w2_ne (by omega), w2_ne (by omega), w2_ne (by omega)]
  have st : CStat S m2 E l := h0.1.ag ag2 (ZOK.of (fun b hb => Or.inr (Or.inl (by omega))))
  refine ⟨m2, ?_, ⟨st, hg, ⟨?_, ?_, ?_, ?_, ?_, ?_, ?_, ?_, ?_⟩, hq⟩, ag2⟩
  · rw [step1]
    show f_X1_become_66 (4995 + 1 + 1 + 1 + 1 + 1) (mk S m1) (some g) (some g2) (nI 0) = _
    rw [estep _ _ 0 (by decide), estep _ _ 1 (by decide), estep _ _ 2 (by decide), estep _ _ 3 (by decide), eend]
    simp only [no2, eo 0 (by decide), eo 1 (by decide), eo 2 (by decide), eo 3 (by decide)]
    rfl
  · rw [hg1]; simp [m1, w2_ap]
  · rw [hg1]; simp [m1, w2_ap]
  · rw [hg1]; simp [m1, w2_ap]
  · rw [hg1]; simp [m1, w2_ap]
  · rw [hg1]; simp [m1, w2_ap]
  · rw [hg1]; simp [m1, w2_ap]
  · rw [hg1]; simp [m1, w2_ap]
  · rw [hg1]; simp [m1, w2_ap]
  · intro p hp
    rcases (show p = 0 ∨ p = 1 ∨ p = 2 ∨ p = 3 by omega) with e | e | e | e <;> subst e <;> simp [m2, w2_ap]
theorem C_cost {S : SK} {m : Nat → Nat → Int32} {g : Nat} {E : EN} {l : Nat} {q : QS} (h : CI S m g E l q) {c : Nat} (hc : c < eN E) : f_X1_costOf (mk S m) (some g) (nI c) = some (nI (cstS E c), mk S m) := by
  obtain ⟨⟨hS, hE, hl6, hco, ht⟩, hg, ⟨d4, d5, d6, d7, d8, d9, d10, d11, ho⟩, hq⟩ := h
  obtain ⟨A, a1, a2, a3, a4, a5, a6⟩ := hco c hc
  have hEc := hE.2.2.2 c hc
  exact X1_costOf hS (GS_of hS hg) d9 hE.2.2.1 a1 hc (by rw [a2]) a4 a5 hEc.2.1 hEc.2.2.1
theorem C_undo {S : SK} {m : Nat → Nat → Int32} {g : Nat} {E : EN} {l : Nat} {q r : QS} (h : CI S m g E l q) (hr : QOK E r) :
    ∃ m2 : Nat → Nat → Int32, f_X1_undo (mk S m) (some g) (nI r.1) (nI r.2.1) (nI r.2.2.1) (nI r.2.2.2) = some (mk S m2) ∧ CI S m2 g E l r ∧ Ag (fun b => b = g) m m2 := by
  have hG := GS_of h.1.1 h.2.1
  refine ⟨_, X1_undo hG, ?_, ((((Ag.rf (Z := fun b => b = g)).w2 rfl).w2 rfl).w2 rfl).w2 rfl⟩
  refine h.set hr ((((Ag.rf.w2 (Or.inl rfl)).w2 (Or.inl rfl)).w2 (Or.inl rfl)).w2 (Or.inl rfl)) (fun j j1 j2 j3 j4 => ?_) ?_ ?_ ?_ ?_
  · rw [w2_ap, if_neg (fun z => j4 z.2), w2_ap, if_neg (fun z => j3 z.2), w2_ap, if_neg (fun z => j2 z.2), w2_ap, if_neg (fun z => j1 z.2)]
  · simp [w2_ap]
  · simp [w2_ap]
  · simp [w2_ap]
  · simp [w2_ap]
theorem C_wait {S : SK} {m : Nat → Nat → Int32} {g : Nat} {E : EN} {l : Nat} {q : QS} (h : CI S m g E l q) :
    ∃ m2 : Nat → Nat → Int32, f_X1_waitOn (mk S m) (some g) = some (mk S m2) ∧ CI S m2 g E l (waitS q) ∧ Ag (fun b => b = g) m m2 := by
  have hG := GS_of h.1.1 h.2.1
  have f := h.2.2.1
  refine ⟨_, X1_waitOn hG f.2.2.1 h.2.2.2.2.1, ?_, (Ag.rf (Z := fun b => b = g)).w2 rfl⟩
  refine h.set h.2.2.2.wait (Ag.rf.w2 (Or.inl rfl)) (fun j j1 j2 j3 j4 => ?_) ?_ ?_ ?_ ?_
  · rw [w2_ap, if_neg (fun z => j2 z.2)]
  · rw [w2_ap, if_neg (by simp)]
    exact f.2.1
  · rw [w2_ap, if_pos ⟨rfl, rfl⟩]
    rfl
  · rw [w2_ap, if_neg (by simp)]
    exact f.2.2.2.2.1
  · rw [w2_ap, if_neg (by simp)]
    exact f.2.2.2.2.2.2.1
