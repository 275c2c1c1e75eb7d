/-! PURE: the class's gate in a morning -/
theorem CI.own {S : SK} {m : Nat → Nat → Int32} {g : Nat} {E : EN} {l : Nat} {q : QS} (h : CI S m g E l q) : ∀ p, p < 4 → m (g + 1) p = nI (omS (eW E) p (eN E)) ∧ omS (eW E) p (eN E) < 2 ^ 31 := fun p hp => ⟨h.2.2.1.2.2.2.2.2.2.2.2 p hp, Nat.lt_trans (om_128 h.1.2.1.2.2.1) (by decide)⟩
theorem CI.owS {S : SK} {m : Nat → Nat → Int32} {g : Nat} {E : EN} {l : Nat} {q : QS} (h : CI S m g E l q) {c : Nat} (hc : c < eN E) : owS (fun p => omS (eW E) p (eN E)) c = eW E c := by
  have hE := h.1.2.1
  exact owS_wh (N := eN E) (fun p _ c _ => om_bit (eW E) p (eN E) c) hc hE.2.2.1 (Nat.lt_of_lt_of_le (hE.2.2.2 c hc).1 hE.2.1)
theorem C_law {S : SK} {m : Nat → Nat → Int32} {g : Nat} {E : EN} {l : Nat} {q : QS} (h : CI S m g E l q) {p a v w n u : Nat} (hp : p < 3) (ha : a ≤ 9999) :
    ∃ m2 : Nat → Nat → Int32, f_X1_lawSays (mk S m) (some g) (nI p) (nI a) (nI v) (nI w) (nI n) (nI u) = some (lawS E p a v w n u, mk S m2) ∧ CI S m2 g E l q ∧ Ag (fun b => b = g + 2 ∨ Stk S b) m m2 := by
  have h0 := h
  obtain ⟨⟨hS, hE, hl6, hco, A, N, fr, t1, t2, t3, t4⟩, hg, ⟨d4, d5, d6, d7, d8, d9, d10, d11, ho⟩, hq⟩ := h
  have hG := GS_of hS hg
  have hg' := hg.le
  have hd := hE.1
  obtain ⟨m2, e, ag⟩ := X1_law (v := nI v) (w := nI w) (n := nI n) (q := nI u) hS hG d11 hl6 t1 t2 (by omega) d4 (by omega) (by omega) (a := a) (by omega) hp t4
  have ag2 : Ag (fun b => b = g + 2 ∨ Stk S b) m m2 := ag.mono (fun b hb => by
    rcases hb with e | e
    · exact Or.inr ⟨A, N, t2, t3, e⟩
    · exact Or.inl e)
  refine ⟨m2, e, ?_, ag2⟩
  refine h0.ag ag2 (ZOK.of (fun b hb => ?_)) ?_ ?_
  · rcases hb with e | e
    · omega
    · exact Or.inl e
  · rintro (e | e)
    · omega
    · have := e.ge
      omega
  · rintro (e | e)
    · omega
    · have := e.ge
      omega
theorem C_many {S : SK} {m : Nat → Nat → Int32} {g : Nat} {E : EN} {x p : Nat} (hG : GS S g) (hN : eN E ≤ 7) (ho : m (g + 1) p = nI (omS (eW E) p (eN E))) (hx : m g 10 = nI x) (hp : p < 4) {α : Type} (F : Int32 × XM → Option α) : (f_X1_leftOf (mk S m) (some g) (nI p)).bind (fun q => (f_J6_bitCount q.2 q.1).bind F) = F (nI (lfS (eW E) x p (eN E)), mk S m) :=
  X1_many hG ho hx (om_128 hN) hp hN (fun c _ => om_bit (eW E) p (eN E) c) F
theorem C_coinAt {S : SK} {m : Nat → Nat → Int32} {g : Nat} {E : EN} {l : Nat} {q : QS} (h : CI S m g E l q) {c : Nat} (hc : c < eN E) : ∃ A, f_X1_coinAt (mk S m) (some g) (nI c) = some (some A, mk S m) ∧ sh S A = (0, 3) ∧ 76 ≤ A ∧ m A 0 = nI (eK E c) ∧ m A 1 = nI (eT E c) ∧ m A 2 = nI (eM E c) := by
  obtain ⟨⟨hS, hE, hl6, hco, ht⟩, hg, ⟨d4, d5, d6, d7, d8, d9, d10, d11, ho⟩, hq⟩ := h
  obtain ⟨A, a1, a2, a3, a4, a5, a6⟩ := hco c hc
  exact ⟨A, X1_coinAt hS (GS_of hS hg) d9 hE.2.2.1 a1 hc, a2, a3, a4, a5, a6⟩
theorem C_mayPut {S : SK} {m : Nat → Nat → Int32} {g : Nat} {E : EN} {l : Nat} {q : QS} (h : CI S m g E l q) {c : Nat} (hc : c < eN E) : f_X1_mayPut (mk S m) (some g) (nI c) = some (nI (if canS E q c = true then 1 else 0), mk S m) := by
  have ow := h.own
  have ow2 := h.owS hc
  obtain ⟨⟨hS, hE, hl6, hco, ht⟩, hg, ⟨d4, d5, d6, d7, d8, d9, d10, d11, ho⟩, hq⟩ := h
  obtain ⟨A, a1, a2, a3, a4, a5, a6⟩ := hco c hc
  have z1 := p16 hE.2.1 hq.2.2.1
  have z2 := p128 hE.2.2.1 hq.2.2.2
  rw [X1_mayPut hS (GS_of hS hg) d9 hE.2.2.1 a1 hc d10 d8 (by omega) (by omega) ow, ow2]
  unfold canS
  cases q.2.2.2.testBit c <;> cases q.2.2.1.testBit (eW E c) <;> rfl
theorem C_mayPut_no {S : SK} {m : Nat → Nat → Int32} {g : Nat} {E : EN} {l : Nat} {q : QS} (h : CI S m g E l q) {c : Int32} (hc : c < 0 ∨ ¬ c < nI (eN E)) : f_X1_mayPut (mk S m) (some g) c = some (nI 0, mk S m) := by
  obtain ⟨⟨hS, hE, hl6, hco, ht⟩, hg, ⟨d4, d5, d6, d7, d8, d9, d10, d11, ho⟩, hq⟩ := h
  have hG := GS_of hS hg
  have hk : (sh S g).1 = 1 := by rw [hG.1]
  unfold f_X1_mayPut
  rw [vc_k hk, X1_coinAt_no hG d9 hc]
  rfl
theorem C_put {S : SK} {m : Nat → Nat → Int32} {g : Nat} {E : EN} {l : Nat} {q : QS} (h : CI S m g E l q) {c : Nat} (hc : c < eN E) :
    ∃ m2 : Nat → Nat → Int32, f_X1_putIn (mk S m) (some g) (nI c) = some (nI (if opS E q c = true then 1 else 0), mk S m2) ∧ CI S m2 g E l (putS E q c) ∧ Ag (ZG S g) m m2 := by
  have h0 := h
  have ow := h.own
  have ow2 := h.owS hc
  obtain ⟨A, c1, c2, c3, c4, c5, c6⟩ := C_coinAt h hc
  obtain ⟨⟨hS, hE, hl6, hco, ht⟩, hg, ⟨d4, d5, d6, d7, d8, d9, d10, d11, ho⟩, hq⟩ := h
  have hG := GS_of hS hg
  have hg' := hg.le
  have hk : (sh S g).1 = 1 := by rw [hG.1]
  have hA : (sh S A).1 = 0 := by rw [c2]
  have hEc := hE.2.2.2 c hc
  have hP := hE.2.1
  have hN := hE.2.2.1
  have hcnt := cntS_le (q := q) hE hc
  have z1 := p16 hE.2.1 hq.2.2.1
  have z2 := p128 hE.2.2.1 hq.2.2.2
  have eown := X1_ownerOf (S := S) (m := m) (c := c) hG ow (by omega)
  rw [ow2] at eown
  have ecnt := X0_countsBy (S := S) (m := m) (s := q.1) hA c4 c5 c6 hEc.2.1 hEc.2.2.1 hEc.2.2.2 hq.1
  have emin := min9999 (s := q.1) (v := cntS E q c) hq.1 hcnt
  let m1 := w2 (w2 m g 5 (nI (sumS E q c))) g 10 (nI (q.2.2.2 ||| 2 ^ c))
  have ag1 : Ag (ZG S g) m m1 := (Ag.rf.w2 (Or.inl rfl)).w2 (Or.inl rfl)
  have r10 : m1 g 10 = nI (q.2.2.2 ||| 2 ^ c) := by
    show w2 _ g 10 _ g 10 = _
    rw [w2_ap, if_pos ⟨rfl, rfl⟩]
  have r5 : m1 g 5 = nI (sumS E q c) := by
    show w2 _ g 10 _ g 5 = _
    rw [w2_ap, if_neg (by simp), w2_ap, if_pos ⟨rfl, rfl⟩]
  have rj : ∀ j, j ≠ 5 → j ≠ 10 → m1 g j = m g j := by
    intro j j1 j2
    show w2 _ g 10 _ g j = _
    rw [w2_ap, if_neg (fun z => j2 z.2), w2_ap, if_neg (fun z => j1 z.2)]
  have hI1 : CI S m1 g E l (sumS E q c, q.2.1, q.2.2.1, q.2.2.2 ||| 2 ^ c) := h0.set ⟨Nat.min_le_right _ _, hq.2.1, hq.2.2.1, Nat.or_lt_two_pow hq.2.2.2 (Nat.pow_lt_pow_right (by decide) hc)⟩ ag1 (fun j j1 j2 j3 j4 => rj j j1 j4) r5 (by rw [rj 6 (by decide) (by decide)]; exact d6) (by rw [rj 8 (by decide) (by decide)]; exact d8) r10
  have hwp := hEc.1
  obtain ⟨m2, e2, hI2, ag2⟩ := C_law hI1 (p := 0) (a := sumS E q c) (v := cntS E q c) (w := q.2.1) (n := lfS (eW E) (q.2.2.2 ||| 2 ^ c) (eW E c) (eN E)) (u := eW E c) (by decide) (Nat.min_le_right _ _)
  have ag2' : Ag (ZG S g) m m2 := ag1.tr (ag2.mono (fun b hb => Or.inr hb))
  have emany := fun (F : Int32 × XM → Option (Int32 × XM)) => C_many (S := S) (m := m1) (g := g) (E := E) (x := q.2.2.2 ||| 2 ^ c) (p := eW E c) hG hN (hI1.own _ (by omega)).1 r10 (by omega) F
  have step : f_X1_putIn (mk S m) (some g) (nI c) = if opS E q c = true then f_X1_putIn_89 (mk S m2) (some g) (nI (eW E c)) (nI 1) else f_X1_putIn_89 (mk S m2) (some g) (nI (eW E c)) (nI 0) := by
    unfold f_X1_putIn
    rw [vc_k hk, c1]
    simp only [Option.bind_some]
    rw [if_neg (by simp), vc_k hk, eown]
    simp only [Option.bind_some]
    rw [gI_k hk, d5]
    simp only [Option.bind_some]
    rw [vc_k hA, ecnt]
    simp only [Option.bind_some]
    rw [gI_k hk, d5]
    simp only [Option.bind_some, bnd_eq]
    rw [show (if nI q.1 + nI (cnS (eK E c) (eT E c) (eM E c) q.1) < (9999 : Int32) then nI q.1 + nI (cnS (eK E c) (eT E c) (eM E c) q.1) else (9999 : Int32)) = nI (sumS E q c) from emin, pI_k hk]
    simp only [Option.bind_some]
    rw [gI_k hk, w2_ap, if_neg (by simp), d10]
    simp only [Option.bind_some]
    rw [pI_k hk, show (1 : Int32) <<< (nI c &&& 31) = nI (2 ^ c) from shl1 (by omega), fa_or]
    simp only [Option.bind_some]
    rw [gI_k hk]
    simp only [Option.bind_some]
    rw [gI_k hk]
    simp only [Option.bind_some]
    rw [vc_k hk]
    show (f_X1_leftOf (mk S m1) (some g) (nI (eW E c))).bind _ = _
    rw [emany]
    simp only [Option.bind_some]
    rw [vc_k hk]
    have e6 : m1 g 6 = nI q.2.1 := by rw [rj 6 (by decide) (by decide)]; exact d6
    show (f_X1_lawSays (mk S m1) (some g) 0 (m1 g 5) (nI (cntS E q c)) (m1 g 6) _ _).bind _ = _
    rw [r5, e6]
    have e2' : f_X1_lawSays (mk S m1) (some g) 0 (nI (sumS E q c)) (nI (cntS E q c)) (nI q.2.1) (nI (lfS (eW E) (q.2.2.2 ||| 2 ^ c) (eW E c) (eN E))) (nI (eW E c)) = _ := e2
    rw [e2']
    simp only [Option.bind_some]
    by_cases z : lawS E 0 (sumS E q c) (cntS E q c) q.2.1 (lfS (eW E) (q.2.2.2 ||| 2 ^ c) (eW E c) (eN E)) (eW E c) = 0
    · rw [if_pos z, if_neg (by unfold opS; simp [z])]
      rfl
    · rw [if_neg z, if_pos (by unfold opS; simp [z])]
      rfl
  rw [step]
  have f := hI2.2.2.1
  by_cases z : opS E q c = true
  · rw [if_pos z]
    have e3 := X1_put1 (S := S) (m := m2) (g := g) hG f.2.2.1 hq.2.1 f.2.2.2.2.1 (p := eW E c) (by omega)
    rw [e3, fa_or, z]
    refine ⟨_, rfl, ?_, (ag2'.w2 (Or.inl rfl)).w2 (Or.inl rfl)⟩
    have hq2 := QOK.put hE hq hc
    unfold putS at hq2 ⊢
    rw [if_pos z] at hq2 ⊢
    refine hI2.set hq2 ((Ag.rf.w2 (Or.inl rfl)).w2 (Or.inl rfl)) (fun j j1 j2 j3 j4 => ?_) ?_ ?_ ?_ ?_
    · rw [w2_ap, if_neg (fun y => j3 y.2), w2_ap, if_neg (fun y => j2 y.2)]
    · rw [w2_ap, if_neg (by simp), w2_ap, if_neg (by simp)]
      exact f.2.1
    · rw [w2_ap, if_neg (by simp), w2_ap, if_pos ⟨rfl, rfl⟩]
    · rw [w2_ap, if_pos ⟨rfl, rfl⟩]
    · rw [w2_ap, if_neg (by simp), w2_ap, if_neg (by simp)]
      exact f.2.2.2.2.2.2.1
  · rw [if_neg z]
    have e3 := X1_put0 (S := S) (m := m2) (g := g) (p := nI (eW E c)) hG f.2.2.1 hq.2.1
    have z' : opS E q c = false := by simpa using z
    rw [e3, z']
    refine ⟨_, rfl, ?_, ag2'.w2 (Or.inl rfl)⟩
    have hq2 := QOK.put hE hq hc
    unfold putS at hq2 ⊢
    rw [if_neg z] at hq2 ⊢
    refine hI2.set hq2 (Ag.rf.w2 (Or.inl rfl)) (fun j j1 j2 j3 j4 => ?_) ?_ ?_ ?_ ?_
    · rw [w2_ap, if_neg (fun y => j2 y.2)]
    · rw [w2_ap, if_neg (by simp)]
      exact f.2.1
    · rw [w2_ap, if_pos ⟨rfl, rfl⟩]
    · rw [w2_ap, if_neg (by simp)]
      exact f.2.2.2.2.1
    · rw [w2_ap, if_neg (by simp)]
      exact f.2.2.2.2.2.2.1
