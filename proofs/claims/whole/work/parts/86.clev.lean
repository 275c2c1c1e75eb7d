/-! PURE: the class reads a phrase: what each level must give -/
theorem CdC.app {m : Nat → Nat → Int32} {C : Nat} : ∀ {a b : List Nat} {i : Nat}, CdC m C i (a ++ b) ↔ CdC m C i a ∧ CdC m C (i + a.length) b
  | [], b, i => by
    show CdC m C i b ↔ True ∧ CdC m C (i + 0) b
    rw [Nat.add_zero, true_and]
  | c :: a, b, i => by
    show (_ ∧ CdC m C (i + 1) (a ++ b)) ↔ (_ ∧ CdC m C (i + 1) a) ∧ _
    rw [CdC.app, show i + (c :: a).length = i + 1 + a.length by simp only [List.length_cons]; omega, and_assoc]
theorem CdM.app {m : Nat → Nat → Int32} {C : Nat} : ∀ {a b : List Nat} {i : Nat}, CdM m C i (a ++ b) ↔ CdM m C i a ∧ CdM m C (i + a.length) b
  | [], b, i => by
    show CdM m C i b ↔ True ∧ CdM m C (i + 0) b
    rw [Nat.add_zero, true_and]
  | c :: a, b, i => by
    show (_ ∧ CdM m C (i + 1) (a ++ b)) ↔ (_ ∧ CdM m C (i + 1) a) ∧ _
    rw [CdM.app, show i + (c :: a).length = i + 1 + a.length by simp only [List.length_cons]; omega, and_assoc]
theorem CdC.w {m : Nat → Nat → Int32} {C : Nat} {v : Int32} : ∀ {a : List Nat} {i j : Nat}, CdC m C i a → i + a.length ≤ j → CdC (w2 m C j v) C i a
  | [], _, _, _, _ => trivial
  | c :: a, i, j, h, hj => by
    have h2 : i + 1 + a.length ≤ j := by simp only [List.length_cons] at hj; omega
    exact ⟨by rw [w2_ap, if_neg (by omega)]; exact h.1, CdC.w h.2 h2⟩
theorem CdM.w {m : Nat → Nat → Int32} {C : Nat} {v : Int32} : ∀ {a : List Nat} {i j : Nat}, CdM m C i a → i + a.length ≤ j → CdM (w2 m C j v) C i a
  | [], _, _, _, _ => trivial
  | c :: a, i, j, h, hj => by
    have h2 : i + 1 + a.length ≤ j := by simp only [List.length_cons] at hj; omega
    exact ⟨by rw [w2_ap, if_neg (by omega)]; exact h.1, CdM.w h.2 h2⟩
/-- the class has looked at the token behind p; o is what it is in, w what it has put -/
def VC (m0 : Nat → Nat → Int32) (n : Nat) (tp : Nat → Nat) (p o : Nat) (w : List Nat) (m : Nat → Nat → Int32) : Prop :=
  TPc m n tp ∧ m 33 5 = nI (tkT tp n p).2.2 ∧ m 33 6 = nI (tpP tp n p) ∧ m 33 7 = nI (tkT tp n p).1 ∧ ((tkT tp n p).1 = 256 → m 33 8 = nI (tkT tp n p).2.1 ∧ (tkT tp n p).2.1 < 10000) ∧ m 33 9 = nI o ∧ m 33 10 = nI w.length ∧ CdC m 35 0 w ∧ (∀ b j, b ≠ 33 → b ≠ 35 → m b j = m0 b j) ∧ p ≤ n ∧ o ≤ 5
def VF (m0 : Nat → Nat → Int32) (n : Nat) (tp : Nat → Nat) (p : Nat) (m : Nat → Nat → Int32) : Prop :=
  TPc m n tp ∧ m 33 6 = nI (tpP tp n p) ∧ (∀ b j, b ≠ 33 → b ≠ 35 → m b j = m0 b j)
theorem VC.f {m0 : Nat → Nat → Int32} {n : Nat} {tp : Nat → Nat} {p o : Nat} {w : List Nat} {m : Nat → Nat → Int32} (h : VC m0 n tp p o w m) : VF m0 n tp p m := ⟨h.1, h.2.2.1, h.2.2.2.2.2.2.2.2.1⟩
theorem VC.tk {m0 : Nat → Nat → Int32} {n : Nat} {tp : Nat → Nat} {p o : Nat} {w : List Nat} {m : Nat → Nat → Int32} (h : VC m0 n tp p o w m) : (tkT tp n p).1 ≤ 258 := (tk_next h.2.2.2.2.2.2.2.2.2.1).2.2.2 (fun k hk => (h.1.2.2 k hk).2)
theorem VC.n {m0 : Nat → Nat → Int32} {n : Nat} {tp : Nat → Nat} {p o : Nat} {w : List Nat} {m : Nat → Nat → Int32} (h : VC m0 n tp p o w m) : (tkT tp n p).2.2 ≤ n ∧ n ≤ 160 ∧ p ≤ n ∧ p ≤ (tkT tp n p).2.2 ∧ ((tkT tp n p).1 ≠ 257 → p < (tkT tp n p).2.2) := ⟨(tk_next h.2.2.2.2.2.2.2.2.2.1).1, h.1.2.1, h.2.2.2.2.2.2.2.2.2.1, (tk_next h.2.2.2.2.2.2.2.2.2.1).2.1, (tk_next h.2.2.2.2.2.2.2.2.2.1).2.2.1⟩
theorem VC.adv {S : SK} {m0 : Nat → Nat → Int32} {n : Nat} {tp : Nat → Nat} {p o : Nat} {w : List Nat} {m : Nat → Nat → Int32} (hS : RdOK S) (h : VC m0 n tp p o w m) : ∃ m2, VC m0 n tp (tkT tp n p).2.2 o w m2 ∧ f_X3_advance (mk S m) (some 33) = some (mk S m2) := by
  have hn := h.n
  obtain ⟨a1, a2, a3, a4, a5, a6, a7, a8, a9, a10, a11⟩ := h
  obtain ⟨m2, b1, b2, b3, b4, b5, b6⟩ := C_adv hS a1 a2 hn.1
  refine ⟨m2, ⟨a1.fr b1, b2, b3, b4, b5, ?_, ?_, ?_, ?_, hn.1, a11⟩, b6⟩
  · rw [b1 33 9 (by omega)]; exact a6
  · rw [b1 33 10 (by omega)]; exact a7
  · exact a8.ag (funext fun j => b1 35 j (by omega))
  · intro b j h1 h2
    rw [b1 b j (by omega)]
    exact a9 b j h1 h2
theorem VC.step {S : SK} {m0 : Nat → Nat → Int32} {n : Nat} {tp : Nat → Nat} {p o : Nat} {w : List Nat} {m : Nat → Nat → Int32} (hS : RdOK S) (h : VC m0 n tp p o w m) (hw : w.length < 160) {c : Nat} : ∃ m2, VC m0 n tp p o (w ++ [c]) m2 ∧ f_X3_addStep (mk S m) (some 33) (enS c) = some (mk S m2) := by
  have hk : (sh S 33).1 = 3 := by rw [rd33 hS]
  obtain ⟨a1, a2, a3, a4, a5, a6, a7, a8, a9, a10, a11⟩ := h
  refine ⟨w2 (w2 m 35 w.length (enS c)) 33 10 (nI (w.length + 1)), ⟨?_, ?_, ?_, ?_, ?_, ?_, ?_, ?_, ?_, a10, a11⟩, ?_⟩
  · obtain ⟨t1, t2, t3⟩ := a1
    refine ⟨?_, t2, fun k hk => ?_⟩
    · rw [w2_ap, if_neg (by omega), w2_ap, if_neg (by omega)]; exact t1
    · rw [w2_ap, if_neg (by omega), w2_ap, if_neg (by omega)]; exact t3 k hk
  · rw [w2_ap, if_neg (by omega), w2_ap, if_neg (by omega)]; exact a2
  · rw [w2_ap, if_neg (by omega), w2_ap, if_neg (by omega)]; exact a3
  · rw [w2_ap, if_neg (by omega), w2_ap, if_neg (by omega)]; exact a4
  · rw [w2_ap, if_neg (by omega), w2_ap, if_neg (by omega)]; exact a5
  · rw [w2_ap, if_neg (by omega), w2_ap, if_neg (by omega)]; exact a6
  · rw [w2_ap, if_pos ⟨rfl, rfl⟩, List.length_append]; rfl
  · apply CdC.ag (m := w2 m 35 w.length (enS c)) (funext fun j => by rw [w2_ap, if_neg (by omega)])
    refine CdC.app.2 ⟨a8.w (by omega), ?_, trivial⟩
    rw [w2_ap, if_pos ⟨rfl, by omega⟩]
  · intro b j h1 h2
    rw [w2_ap, if_neg (by omega), w2_ap, if_neg (by omega)]
    exact a9 b j h1 h2
  · unfold f_X3_addStep
    rw [gI_k hk, Option.bind_some, gR_k hk, Option.bind_some, rr33_1 hS, ln_mk, rd35 hS, if_pos ⟨by decide, by decide⟩, Option.bind_some, a7, if_pos (show nI w.length < Int32.ofNat ((10, 160) : Nat × Nat).2 from nI_lt (b := 160) hw (by decide)), Option.bind_some, Option.bind_some, sI_n (rd35 hS) hw (by decide), Option.bind_some, gI_k hk, Option.bind_some, w2_ap, if_neg (by omega), a7, pI_k hk, Option.bind_some, show nI w.length + (1 : Int32) = nI (w.length + 1) from nI_add _ 1]
theorem VC.opn {m0 : Nat → Nat → Int32} {n : Nat} {tp : Nat → Nat} {p o o2 : Nat} {w : List Nat} {m : Nat → Nat → Int32} (h : VC m0 n tp p o w m) (ho : o2 ≤ 5) : VC m0 n tp p o2 w (w2 m 33 9 (nI o2)) := by
  obtain ⟨a1, a2, a3, a4, a5, a6, a7, a8, a9, a10, a11⟩ := h
  refine ⟨?_, ?_, ?_, ?_, ?_, ?_, ?_, ?_, ?_, a10, ho⟩
  · obtain ⟨t1, t2, t3⟩ := a1
    refine ⟨?_, t2, fun k hk => ?_⟩
    · rw [w2_ap, if_neg (by omega)]; exact t1
    · rw [w2_ap, if_neg (by omega)]; exact t3 k hk
  · rw [w2_ap, if_neg (by omega)]; exact a2
  · rw [w2_ap, if_neg (by omega)]; exact a3
  · rw [w2_ap, if_neg (by omega)]; exact a4
  · rw [w2_ap, if_neg (by omega)]; exact a5
  · rw [w2_ap, if_pos ⟨rfl, rfl⟩]
  · rw [w2_ap, if_neg (by omega)]; exact a7
  · exact a8.ag (funext fun j => by rw [w2_ap, if_neg (by omega)])
  · intro b j h1 h2
    rw [w2_ap, if_neg (by omega)]
    exact a9 b j h1 h2
/-- a phrase's codes put one value -/
def wfP (cs : List Nat) : Prop := ∀ d rest, wfS (cs ++ rest) d = wfS rest (d + 1)
theorem wfP.two {cs cs2 : List Nat} {x : Nat} (h : wfP cs) (h2 : wfP cs2) (hx : x = 11 ∨ x = 12 ∨ x = 14 ∨ x = 15 ∨ x = 16 ∨ x = 17 ∨ x = 18) : wfP (cs ++ cs2 ++ [x]) := by
  intro d rest
  rw [List.append_assoc, List.append_assoc, h, h2]
  have e : ∀ y : Nat, cokS y = true → dpS y (d + 1 + 1) = some (d + 1) → wfS ([y] ++ rest) (d + 1 + 1) = wfS rest (d + 1) := fun y e1 e2 => by
    show (if cokS y = true then (dpS y (d + 1 + 1)).bind (wfS rest) else none) = _
    rw [if_pos e1, e2, Option.bind_some]
  have e3 : ∀ y : Nat, 11 ≤ y ∧ y < 100000 → y ≠ 13 → y ≠ 19 → dpS y (d + 1 + 1) = some (d + 1) := fun y h1 h2 h3 => by
    unfold dpS
    rw [if_neg (by omega), if_neg (by omega), if_pos (by omega)]
    rfl
  rcases hx with rfl | rfl | rfl | rfl | rfl | rfl | rfl <;> exact e _ (by decide) (e3 _ (by omega) (by decide) (by decide))
theorem wfP.one {cs : List Nat} {x : Nat} (h : wfP cs) (hx : x = 13 ∨ x = 19) : wfP (cs ++ [x]) := by
  intro d rest
  rw [List.append_assoc, h]
  have e : ∀ y : Nat, cokS y = true → dpS y (d + 1) = some (d + 1) → wfS ([y] ++ rest) (d + 1) = wfS rest (d + 1) := fun y e1 e2 => by
    show (if cokS y = true then (dpS y (d + 1)).bind (wfS rest) else none) = _
    rw [if_pos e1, e2, Option.bind_some]
  have e3 : ∀ y : Nat, 11 ≤ y ∧ y < 100000 → y = 13 ∨ y = 19 → dpS y (d + 1) = some (d + 1) := fun y h1 h2 => by
    unfold dpS
    rw [if_neg (by omega), if_pos h2, if_pos (by omega)]
  rcases hx with rfl | rfl
  · exact e _ (by decide) (e3 _ (by omega) (Or.inl rfl))
  · exact e _ (by decide) (e3 _ (by omega) (Or.inr rfl))
theorem wfP.val {c : Nat} (h : c < 6 ∨ (100000 ≤ c ∧ c < 110000)) : wfP [c] := by
  intro d rest
  show (if cokS c = true then (dpS c d).bind (wfS rest) else none) = _
  rw [if_pos (by unfold cokS; simp; omega)]
  unfold dpS
  rw [if_pos (by omega), Option.bind_some]
def OUTC (S : SK) (m0 : Nat → Nat → Int32) (n : Nat) (tp : Nat → Nat) (r c : Nat) (z : Bool) (p o : Nat) (w : List Nat) (res : Option (Int32 × XM)) : Prop :=
  ∃ m2 p2, p ≤ p2 ∧ p2 ≤ n ∧ ((∃ cs, res = some (1, mk S m2) ∧ VC m0 n tp p2 o (w ++ cs) m2 ∧ cs.length ≤ p2 - p ∧ ((RLS (tkT tp n) r c z p p2 o cs ∧ wfP cs ∧ rkS (sgS (tkT tp n p2).1) < r) ∨ (r ≤ 4 ∧ FLS (tkT tp n) c z p p2 o ∧ rkS (sgS (tkT tp n p2).1) = 4))) ∨ (res = some (0, mk S m2) ∧ VF m0 n tp p2 m2 ∧ FLS (tkT tp n) c z p p2 o))
theorem rz1 {h : XM} : rz h (1 : Int32) = some (1, h) := by
  unfold rz
  rw [if_pos (Or.inr rfl)]
theorem rz0 {h : XM} : rz h (0 : Int32) = some (0, h) := by
  unfold rz
  rw [if_pos (Or.inl rfl)]
/-- a loop over one kind of sign -/
theorem C_loop {S : SK} {m0 : Nat → Nat → Int32} {n : Nat} {tp : Nat → Nat} {r c c2 : Nat} {z z2 : Bool} {p o : Nat} {w : List Nat} {sub : XM → Option Nat → Option (Int32 × XM)} {lp : Nat → XM → Option Nat → Int32 → Option (Int32 × XM)} (hS : RdOK S) (hr : r ≠ 0 ∧ r ≠ 4) (hc : c ≤ r) (hc2 : r < c2) (hz : ∀ x, rkS x = r → sgS 0 = 0 → (z2 = true ↔ x ≤ 12) ∨ ∀ t, sgS t ≠ x)
    (hsub : ∀ p w m, VC m0 n tp p o w m → w.length ≤ p → OUTC S m0 n tp (r + 1) c2 z2 p o w (sub (mk S m) (some 33)))
    (hno : ∀ f k p1 w m, VC m0 n tp p1 o w m → rkS (sgS (tkT tp n p1).1) ≠ r → lp (f + 1) (mk S m) (some 33) (nI k) = some (1, mk S m))
    (hyes : ∀ f k p1 w m, VC m0 n tp p1 o w m → rkS (sgS (tkT tp n p1).1) = r → k < 160 → lp (f + 1) (mk S m) (some 33) (nI k) = (vc (mk S m) 3 (some 33) (f_X3_advance (mk S m) (some 33))).bind fun q2 => (vc q2 3 (some 33) (sub q2 (some 33))).bind fun q3 => if q3.1 = 0 then (rz q3.2 ((0 : Int32))) else ((vc q3.2 3 (some 33) (f_X3_addStep q3.2 (some 33) (enS (sgS (tkT tp n p1).1)))).bind fun q4 => bnd (nI k + (1 : Int32)) fun v5 => lp f q4 (some 33) v5)) :
    ∀ (f k p1 : Nat) (cs : List Nat) (m : Nat → Nat → Int32), p ≤ p1 → VC m0 n tp p1 o (w ++ cs) m → w.length ≤ p → cs.length ≤ p1 - p → k ≤ p1 → n - p1 < f → ((RLS (tkT tp n) r c z p p1 o cs ∧ wfP cs ∧ rkS (sgS (tkT tp n p1).1) < r + 1) ∨ (r ≤ 4 ∧ FLS (tkT tp n) c z p p1 o ∧ rkS (sgS (tkT tp n p1).1) = 4)) → OUTC S m0 n tp r c z p o w (lp f (mk S m) (some 33) (nI k)) := by
  have hk3 : (sh S 33).1 = 3 := by rw [rd33 hS]
  intro f
  induction f with
  | zero => intro k p1 cs m _ _ _ _ _ h; omega
  | succ f ih =>
    intro k p1 cs m hp hV hw hcs hk hf hh
    have hn := hV.n
    by_cases c1 : rkS (sgS (tkT tp n p1).1) = r
    · obtain ⟨g1, g2, g3⟩ : RLS (tkT tp n) r c z p p1 o cs ∧ wfP cs ∧ rkS (sgS (tkT tp n p1).1) < r + 1 := by
        rcases hh with y | ⟨_, _, y⟩
        · exact y
        · exact absurd (c1.symm.trans y) hr.2
      have hx0 : sgS (tkT tp n p1).1 ≠ 0 := fun y => by
        rw [y] at c1
        exact hr.1 c1.symm
      have h257 : (tkT tp n p1).1 ≠ 257 := fun y => hx0 (by rw [y]; decide)
      have hnx := hn.2.2.2.2 h257
      have hq : lqS (sgS (tkT tp n p1).1) ≤ r := by
        unfold lqS
        rw [if_neg (by omega), c1]
        exact Nat.le_refl _
      have hz3 : z2 = true ↔ sgS (tkT tp n p1).1 ≤ 12 := by
        rcases hz _ c1 rfl with y | y
        · exact y
        · exact absurd rfl (y _)
      obtain ⟨m2, b1, b2⟩ := hV.adv hS
      rw [hyes f k p1 _ m hV c1 (by omega), vc_k hk3, b2, Option.bind_some, vc_k hk3]
      have hlen : (w ++ cs).length ≤ p1 := by rw [List.length_append]; omega
      obtain ⟨m3, p2, d1, d2, d3⟩ := hsub _ _ m2 b1 (by omega)
      rcases d3 with ⟨cs2, e1, e2, e3, e4⟩ | ⟨e1, e2, e3⟩
      · rw [e1, Option.bind_some, if_neg (show ¬ (1 : Int32) = 0 by decide)]
        show OUTC S m0 n tp r c z p o w ((vc (mk S m3) 3 (some 33) (f_X3_addStep (mk S m3) (some 33) (enS (sgS (tkT tp n p1).1)))).bind fun q4 => bnd (nI k + (1 : Int32)) fun v5 => lp f q4 (some 33) v5)
        have hl2 : (w ++ cs ++ cs2).length < 160 := by rw [List.length_append]; omega
        obtain ⟨m4, u1, u2⟩ := e2.step hS hl2 (c := sgS (tkT tp n p1).1)
        rw [vc_k hk3, u2, Option.bind_some, bnd_eq, show nI k + (1 : Int32) = nI (k + 1) from nI_add k 1]
        refine ih (k + 1) p2 (cs ++ cs2 ++ [sgS (tkT tp n p1).1]) m4 (by omega) ?_ hw ?_ (by omega) (by omega) ?_
        · rw [show w ++ (cs ++ cs2 ++ [sgS (tkT tp n p1).1]) = w ++ cs ++ cs2 ++ [sgS (tkT tp n p1).1] by simp only [List.append_assoc]]
          exact u1
        · simp only [List.length_append, List.length_cons, List.length_nil]
          omega
        · rcases e4 with ⟨v1, v2, v3⟩ | ⟨v0, v1, v2⟩
          · refine Or.inl ⟨g1.sign v1 rfl hx0 c1 hq hc (by omega) hc2 hz3 hp hnx d1, g2.two v2 ?_, v3⟩
            rcases sg_im (tkT tp n p1).1 with y | y | y | y | y | y | y | y
            · exact absurd y hx0
            all_goals (rw [y]; decide)
          · exact Or.inr ⟨by omega, FLS.sign g1 v1 rfl hx0 hq (by omega) (by omega) hz3 hp hnx d1, v2⟩
      · rw [e1, Option.bind_some, if_pos rfl]
        refine ⟨m3, p2, by omega, d2, Or.inr ⟨rz0, e2, ?_⟩⟩
        exact FLS.sign g1 e3 rfl hx0 hq (by omega) (by omega) hz3 hp hnx d1
    · rw [hno f k p1 _ m hV c1]
      refine ⟨m, p1, hp, hn.2.2.1, Or.inl ⟨cs, rfl, hV, hcs, ?_⟩⟩
      rcases hh with ⟨g1, g2, g3⟩ | y
      · exact Or.inl ⟨g1, g2, by omega⟩
      · exact Or.inr y
/-- a level that is a loop, whole -/
theorem C_lvl {S : SK} {m0 : Nat → Nat → Int32} {n : Nat} {tp : Nat → Nat} {r c c2 : Nat} {z : Bool} {p o : Nat} {w : List Nat} {m : Nat → Nat → Int32} {sub : XM → Option Nat → Option (Int32 × XM)} {lp : Nat → XM → Option Nat → Int32 → Option (Int32 × XM)} (hS : RdOK S) (hr : r ≠ 0 ∧ r ≠ 4) (hc : c ≤ r) (hc2 : r < c2) (hz : ∀ x, rkS x = r → sgS 0 = 0 → (z = true ↔ x ≤ 12) ∨ ∀ t, sgS t ≠ x)
    (hsub : ∀ p w m, VC m0 n tp p o w m → w.length ≤ p → OUTC S m0 n tp (r + 1) c2 z p o w (sub (mk S m) (some 33)))
    (hno : ∀ f k p1 w m, VC m0 n tp p1 o w m → rkS (sgS (tkT tp n p1).1) ≠ r → lp (f + 1) (mk S m) (some 33) (nI k) = some (1, mk S m))
    (hyes : ∀ f k p1 w m, VC m0 n tp p1 o w m → rkS (sgS (tkT tp n p1).1) = r → k < 160 → lp (f + 1) (mk S m) (some 33) (nI k) = (vc (mk S m) 3 (some 33) (f_X3_advance (mk S m) (some 33))).bind fun q2 => (vc q2 3 (some 33) (sub q2 (some 33))).bind fun q3 => if q3.1 = 0 then (rz q3.2 ((0 : Int32))) else ((vc q3.2 3 (some 33) (f_X3_addStep q3.2 (some 33) (enS (sgS (tkT tp n p1).1)))).bind fun q4 => bnd (nI k + (1 : Int32)) fun v5 => lp f q4 (some 33) v5))
    (hV : VC m0 n tp p o w m) (hw : w.length ≤ p) : OUTC S m0 n tp r c z p o w ((vc (mk S m) 3 (some 33) (sub (mk S m) (some 33))).bind fun q6 => if q6.1 = 0 then (rz q6.2 ((0 : Int32))) else (lp FU q6.2 (some 33) ((0 : Int32)))) := by
  have hk3 : (sh S 33).1 = 3 := by rw [rd33 hS]
  have hn := hV.n
  obtain ⟨m2, p2, d1, d2, d3⟩ := hsub p w m hV hw
  rw [vc_k hk3]
  rcases d3 with ⟨cs, e1, e2, e3, e4⟩ | ⟨e1, e2, e3⟩
  · rw [e1, Option.bind_some, if_neg (show ¬ (1 : Int32) = 0 by decide)]
    refine C_loop hS hr hc hc2 hz hsub hno hyes FU 0 p2 cs m2 d1 e2 hw e3 (by omega) (by unfold FU; omega) ?_
    rcases e4 with ⟨v1, v2, v3⟩ | ⟨v0, v1, v2⟩
    · exact Or.inl ⟨v1.mono (by omega) (by omega) (Or.inl rfl), v2, v3⟩
    · exact Or.inr ⟨by omega, v1.mono (by omega) (Or.inl rfl), v2⟩
  · rw [e1, Option.bind_some, if_pos rfl]
    exact ⟨m2, p2, d1, d2, Or.inr ⟨rz0, e2, e3.mono (by omega) (Or.inl rfl)⟩⟩
theorem tok_rk (t : Nat) : (t = 9 ∧ sgS t = 11 ∧ rkS (sgS t) = 1) ∨ (t = 10 ∧ sgS t = 12 ∧ rkS (sgS t) = 2) ∨ (t = 60 ∧ sgS t = 14 ∧ rkS (sgS t) = 4) ∨ (t = 61 ∧ sgS t = 15 ∧ rkS (sgS t) = 4) ∨ (t = 43 ∧ sgS t = 16 ∧ rkS (sgS t) = 5) ∨ (t = 45 ∧ sgS t = 17 ∧ rkS (sgS t) = 5) ∨ (t = 42 ∧ sgS t = 18 ∧ rkS (sgS t) = 6) ∨ ((t ≠ 9 ∧ t ≠ 10 ∧ t ≠ 60 ∧ t ≠ 61 ∧ t ≠ 43 ∧ t ≠ 45 ∧ t ≠ 42) ∧ sgS t = 0 ∧ rkS (sgS t) = 0) := by
  by_cases c1 : t = 9
  · subst c1; decide
  by_cases c2 : t = 10
  · subst c2; decide
  by_cases c3 : t = 60
  · subst c3; decide
  by_cases c4 : t = 61
  · subst c4; decide
  by_cases c5 : t = 43
  · subst c5; decide
  by_cases c6 : t = 45
  · subst c6; decide
  by_cases c7 : t = 42
  · subst c7; decide
  have e : sgS t = 0 := by
    unfold sgS
    rw [if_neg c1, if_neg c2, if_neg c3, if_neg c4, if_neg c5, if_neg c6, if_neg c7]
  refine Or.inr (Or.inr (Or.inr (Or.inr (Or.inr (Or.inr (Or.inr ⟨⟨c1, c2, c3, c4, c5, c6, c7⟩, e, ?_⟩))))))
  rw [e]
  decide
theorem rk_of {x : Nat} : (rkS x = 6 → x = 18) ∧ (rkS x = 5 → x = 16 ∨ x = 17) ∧ (rkS x = 2 → x = 12) ∧ (rkS x = 1 → x = 11) := by
  unfold rkS
  refine ⟨?_, ?_, ?_, ?_⟩
  all_goals
    repeat' split
    all_goals omega
theorem VC.is {m0 : Nat → Nat → Int32} {n : Nat} {tp : Nat → Nat} {p o : Nat} {w : List Nat} {m : Nat → Nat → Int32} (h : VC m0 n tp p o w m) : m 33 7 = nI (tkT tp n p).1 ∧ ∀ t, t < 2 ^ 31 → (nI (tkT tp n p).1 = nI t ↔ (tkT tp n p).1 = t) := ⟨h.2.2.2.1, fun t ht => nI_eq (by have := h.tk; omega) ht⟩
theorem L_term {S : SK} {m0 : Nat → Nat → Int32} {n : Nat} {tp : Nat → Nat} {p o : Nat} {w : List Nat} {m : Nat → Nat → Int32} {sub : XM → Option Nat → Option (Int32 × XM)} (hS : RdOK S) (hsub : ∀ p w m, VC m0 n tp p o w m → w.length ≤ p → OUTC S m0 n tp 7 8 false p o w (sub (mk S m) (some 33))) (hV : VC m0 n tp p o w m) (hw : w.length ≤ p) : OUTC S m0 n tp 6 6 false p o w (fe_X3_readTerm sub (mk S m) (some 33)) := by
  have hk3 : (sh S 33).1 = 3 := by rw [rd33 hS]
  refine C_lvl (lp := f_X3_readTerm_11 sub) hS (by decide) (by decide) (c2 := 8) (by decide) (fun x hx _ => ?_) hsub ?_ ?_ hV hw
  · rw [rk_of.1 hx]
    exact Or.inl (by decide)
  · intro f k p1 w m hV hne
    show fb_X3_readTerm_11 sub (f_X3_readTerm_11 sub f) (mk S m) (some 33) (nI k) = _
    unfold fb_X3_readTerm_11 f_X3_readTerm_52
    rw [gI_k hk3, Option.bind_some, hV.is.1, if_neg (show ¬ nI (tkT tp n p1).1 = (42 : Int32) from fun y => by
      have := (hV.is.2 42 (by decide)).1 y
      rw [this] at hne
      exact hne (by decide)), rz1]
    split <;> rfl
  · intro f k p1 w m hV hne hk
    have e : (tkT tp n p1).1 = 42 := by
      have := tok_rk (tkT tp n p1).1
      omega
    show fb_X3_readTerm_11 sub (f_X3_readTerm_11 sub f) (mk S m) (some 33) (nI k) = _
    unfold fb_X3_readTerm_11
    rw [if_pos (show nI k < (160 : Int32) from nI_lt (b := 160) hk (by decide)), gI_k hk3, Option.bind_some, hV.is.1, e, if_pos (show nI 42 = (42 : Int32) from rfl)]
    rfl
theorem L_sum {S : SK} {m0 : Nat → Nat → Int32} {n : Nat} {tp : Nat → Nat} {p o : Nat} {w : List Nat} {m : Nat → Nat → Int32} {sub : XM → Option Nat → Option (Int32 × XM)} (hS : RdOK S) (hsub : ∀ p w m, VC m0 n tp p o w m → w.length ≤ p → OUTC S m0 n tp 6 6 false p o w (sub (mk S m) (some 33))) (hV : VC m0 n tp p o w m) (hw : w.length ≤ p) : OUTC S m0 n tp 5 5 false p o w (fe_X3_readSum sub (mk S m) (some 33)) := by
  have hk3 : (sh S 33).1 = 3 := by rw [rd33 hS]
  refine C_lvl (lp := f_X3_readSum_11 sub) hS (by decide) (by decide) (c2 := 6) (by decide) (fun x hx _ => ?_) hsub ?_ ?_ hV hw
  · rcases rk_of.2.1 hx with y | y
    · rw [y]
      exact Or.inl (by decide)
    · rw [y]
      exact Or.inl (by decide)
  · intro f k p1 w m hV hne
    show fb_X3_readSum_11 sub (f_X3_readSum_11 sub f) (mk S m) (some 33) (nI k) = _
    unfold fb_X3_readSum_11 f_X3_readSum_77
    rw [gI_k hk3, Option.bind_some, Option.bind_some, hV.is.1, if_neg (show ¬ nI (tkT tp n p1).1 = (43 : Int32) from fun y => by
      have := (hV.is.2 43 (by decide)).1 y
      rw [this] at hne
      exact hne (by decide)), if_neg (show ¬ nI (tkT tp n p1).1 = (45 : Int32) from fun y => by
      have := (hV.is.2 45 (by decide)).1 y
      rw [this] at hne
      exact hne (by decide)), rz1]
    split <;> rfl
  · intro f k p1 w m hV hne hk
    have e : (tkT tp n p1).1 = 43 ∨ (tkT tp n p1).1 = 45 := by
      have := tok_rk (tkT tp n p1).1
      omega
    show fb_X3_readSum_11 sub (f_X3_readSum_11 sub f) (mk S m) (some 33) (nI k) = _
    unfold fb_X3_readSum_11 f_X3_readSum_36 f_X3_readSum_52
    rcases e with e | e
    · rw [if_pos (show nI k < (160 : Int32) from nI_lt (b := 160) hk (by decide)), gI_k hk3, Option.bind_some, hV.is.1, e, if_pos (show nI 43 = (43 : Int32) from rfl), Option.bind_some, if_pos (show nI 43 = (43 : Int32) from rfl)]
      rfl
    · rw [if_pos (show nI k < (160 : Int32) from nI_lt (b := 160) hk (by decide)), gI_k hk3, Option.bind_some, hV.is.1, e, if_neg (show ¬ nI 45 = (43 : Int32) by decide), Option.bind_some, if_pos (show nI 45 = (45 : Int32) from rfl), Option.bind_some, if_neg (show ¬ nI 45 = (43 : Int32) by decide)]
      rfl
theorem L_both {S : SK} {m0 : Nat → Nat → Int32} {n : Nat} {tp : Nat → Nat} {p o : Nat} {w : List Nat} {m : Nat → Nat → Int32} {sub : XM → Option Nat → Option (Int32 × XM)} (hS : RdOK S) (hsub : ∀ p w m, VC m0 n tp p o w m → w.length ≤ p → OUTC S m0 n tp 3 4 true p o w (sub (mk S m) (some 33))) (hV : VC m0 n tp p o w m) (hw : w.length ≤ p) : OUTC S m0 n tp 2 2 true p o w (fe_X3_readBoth sub (mk S m) (some 33)) := by
  have hk3 : (sh S 33).1 = 3 := by rw [rd33 hS]
  refine C_lvl (lp := f_X3_readBoth_11 sub) hS (by decide) (by decide) (c2 := 4) (by decide) (fun x hx _ => ?_) hsub ?_ ?_ hV hw
  · rw [rk_of.2.2.1 hx]
    exact Or.inl (by decide)
  · intro f k p1 w m hV hne
    show fb_X3_readBoth_11 sub (f_X3_readBoth_11 sub f) (mk S m) (some 33) (nI k) = _
    unfold fb_X3_readBoth_11 f_X3_readBoth_52
    rw [gI_k hk3, Option.bind_some, hV.is.1, if_neg (show ¬ nI (tkT tp n p1).1 = (10 : Int32) from fun y => by
      have := (hV.is.2 10 (by decide)).1 y
      rw [this] at hne
      exact hne (by decide)), rz1]
    split <;> rfl
  · intro f k p1 w m hV hne hk
    have e : (tkT tp n p1).1 = 10 := by
      have := tok_rk (tkT tp n p1).1
      omega
    show fb_X3_readBoth_11 sub (f_X3_readBoth_11 sub f) (mk S m) (some 33) (nI k) = _
    unfold fb_X3_readBoth_11
    rw [if_pos (show nI k < (160 : Int32) from nI_lt (b := 160) hk (by decide)), gI_k hk3, Option.bind_some, hV.is.1, e, if_pos (show nI 10 = (10 : Int32) from rfl)]
    rfl
theorem L_either {S : SK} {m0 : Nat → Nat → Int32} {n : Nat} {tp : Nat → Nat} {p o : Nat} {w : List Nat} {m : Nat → Nat → Int32} {sub : XM → Option Nat → Option (Int32 × XM)} (hS : RdOK S) (hsub : ∀ p w m, VC m0 n tp p o w m → w.length ≤ p → OUTC S m0 n tp 2 2 true p o w (sub (mk S m) (some 33))) (hV : VC m0 n tp p o w m) (hw : w.length ≤ p) : OUTC S m0 n tp 1 1 true p o w (fe_X3_readEither sub (mk S m) (some 33)) := by
  have hk3 : (sh S 33).1 = 3 := by rw [rd33 hS]
  refine C_lvl (lp := f_X3_readEither_11 sub) hS (by decide) (by decide) (c2 := 2) (by decide) (fun x hx _ => ?_) hsub ?_ ?_ hV hw
  · rw [rk_of.2.2.2 hx]
    exact Or.inl (by decide)
  · intro f k p1 w m hV hne
    show fb_X3_readEither_11 sub (f_X3_readEither_11 sub f) (mk S m) (some 33) (nI k) = _
    unfold fb_X3_readEither_11 f_X3_readEither_52
    rw [gI_k hk3, Option.bind_some, hV.is.1, if_neg (show ¬ nI (tkT tp n p1).1 = (9 : Int32) from fun y => by
      have := (hV.is.2 9 (by decide)).1 y
      rw [this] at hne
      exact hne (by decide)), rz1]
    split <;> rfl
  · intro f k p1 w m hV hne hk
    have e : (tkT tp n p1).1 = 9 := by
      have := tok_rk (tkT tp n p1).1
      omega
    show fb_X3_readEither_11 sub (f_X3_readEither_11 sub f) (mk S m) (some 33) (nI k) = _
    unfold fb_X3_readEither_11
    rw [if_pos (show nI k < (160 : Int32) from nI_lt (b := 160) hk (by decide)), gI_k hk3, Option.bind_some, hV.is.1, e, if_pos (show nI 9 = (9 : Int32) from rfl)]
    rfl
