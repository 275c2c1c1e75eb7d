/-! PURE: the class reads a phrase: the other levels, all together -/
theorem L_cmpS {S : SK} {m0 : Nat → Nat → Int32} {n : Nat} {tp : Nat → Nat} {p p1 o : Nat} {w cs : List Nat} {m : Nat → Nat → Int32} {sub : XM → Option Nat → Option (Int32 × XM)} (hS : RdOK S) (hsub : ∀ p w m, VC m0 n tp p o w m → w.length ≤ p → OUTC S m0 n tp 5 5 false p o w (sub (mk S m) (some 33))) (hp : p ≤ p1) (hV : VC m0 n tp p1 o (w ++ cs) m) (hw : w.length ≤ p) (hcs : cs.length ≤ p1 - p) (h1 : RLS (tkT tp n) 5 4 false p p1 o cs) (h2 : wfP cs) (h4 : rkS (sgS (tkT tp n p1).1) = 4) : OUTC S m0 n tp 4 4 false p o w (f_X3_readCompared_45 sub (mk S m) (some 33) (enS (sgS (tkT tp n p1).1))) := by
  have hk3 : (sh S 33).1 = 3 := by rw [rd33 hS]
  have hn := hV.n
  have hx : sgS (tkT tp n p1).1 = 14 ∨ sgS (tkT tp n p1).1 = 15 := by
    have := tok_rk (tkT tp n p1).1
    omega
  have hx0 : sgS (tkT tp n p1).1 ≠ 0 := by omega
  have h257 : (tkT tp n p1).1 ≠ 257 := fun y => hx0 (by rw [y]; decide)
  have hnx := hn.2.2.2.2 h257
  have hq : lqS (sgS (tkT tp n p1).1) ≤ 5 := by
    unfold lqS
    rw [if_pos h4]
    exact Nat.le_refl _
  have hz3 : false = true ↔ sgS (tkT tp n p1).1 ≤ 12 := ⟨fun y => absurd y (by decide), fun y => by omega⟩
  have hlen : (w ++ cs).length ≤ p1 := by rw [List.length_append]; omega
  unfold f_X3_readCompared_45
  obtain ⟨m2, b1, b2⟩ := hV.adv hS
  rw [vc_k hk3, b2, Option.bind_some, vc_k hk3]
  obtain ⟨m3, p2, d1, d2, d3⟩ := hsub _ _ m2 b1 (by omega)
  rcases d3 with ⟨cs2, e1, e2, e3, e4⟩ | ⟨e1, e2, e3⟩
  · rw [e1, Option.bind_some, if_neg (show ¬ (1 : Int32) = 0 by decide)]
    show OUTC S m0 n tp 4 4 false p o w ((vc (mk S m3) 3 (some 33) (f_X3_addStep (mk S m3) (some 33) (enS (sgS (tkT tp n p1).1)))).bind fun q3 => rz q3 ((1 : Int32)))
    have hl2 : (w ++ cs ++ cs2).length < 160 := by rw [List.length_append]; omega
    obtain ⟨m4, u1, u2⟩ := e2.step hS hl2 (c := sgS (tkT tp n p1).1)
    rw [vc_k hk3, u2, Option.bind_some, rz1]
    refine ⟨m4, p2, by omega, d2, Or.inl ⟨cs ++ cs2 ++ [sgS (tkT tp n p1).1], rfl, ?_, ?_, ?_⟩⟩
    · rw [show w ++ (cs ++ cs2 ++ [sgS (tkT tp n p1).1]) = w ++ cs ++ cs2 ++ [sgS (tkT tp n p1).1] by simp only [List.append_assoc]]
      exact u1
    · simp only [List.length_append, List.length_cons, List.length_nil]
      omega
    · rcases e4 with ⟨v1, v2, v3⟩ | ⟨v0, v1, v2⟩
      · by_cases c4 : rkS (sgS (tkT tp n p2).1) = 4
        · exact Or.inr ⟨by omega, FLS.twice h1 v1 rfl h4 (Nat.le_refl _) rfl hp hnx d1 c4, c4⟩
        · refine Or.inl ⟨h1.sign v1 rfl hx0 h4 hq (Nat.le_refl _) (by omega) (by omega) hz3 hp hnx d1, h2.two v2 (by omega), by omega⟩
      · omega
  · rw [e1, Option.bind_some, if_pos rfl]
    exact ⟨m3, p2, by omega, d2, Or.inr ⟨rz0, e2, FLS.sign h1 e3 rfl hx0 hq (by omega) (by omega) hz3 hp hnx d1⟩⟩
theorem L_cmp {S : SK} {m0 : Nat → Nat → Int32} {n : Nat} {tp : Nat → Nat} {p o : Nat} {w : List Nat} {m : Nat → Nat → Int32} {sub : XM → Option Nat → Option (Int32 × XM)} (hS : RdOK S) (hsub : ∀ p w m, VC m0 n tp p o w m → w.length ≤ p → OUTC S m0 n tp 5 5 false p o w (sub (mk S m) (some 33))) (hV : VC m0 n tp p o w m) (hw : w.length ≤ p) : OUTC S m0 n tp 4 4 false p o w (fe_X3_readCompared sub (mk S m) (some 33)) := by
  have hk3 : (sh S 33).1 = 3 := by rw [rd33 hS]
  obtain ⟨m2, p2, d1, d2, d3⟩ := hsub p w m hV hw
  unfold fe_X3_readCompared
  rw [vc_k hk3]
  rcases d3 with ⟨cs, e1, e2, e3, e4⟩ | ⟨e1, e2, e3⟩
  · rw [e1, Option.bind_some, if_neg (show ¬ (1 : Int32) = 0 by decide)]
    obtain ⟨v1, v2, v3⟩ : RLS (tkT tp n) 5 5 false p p2 o cs ∧ wfP cs ∧ rkS (sgS (tkT tp n p2).1) < 5 := by
      rcases e4 with y | ⟨y, _⟩
      · exact y
      · omega
    show OUTC S m0 n tp 4 4 false p o w ((gI (mk S m2) 3 (some 33) 7).bind fun v6 => if v6 = ((60 : Int32)) then (f_X3_readCompared_29 sub (mk S m2) (some 33)) else ((gI (mk S m2) 3 (some 33) 7).bind fun v7 => if v7 = ((61 : Int32)) then (f_X3_readCompared_29 sub (mk S m2) (some 33)) else (rz (mk S m2) ((1 : Int32)))))
    rw [gI_k hk3, Option.bind_some, Option.bind_some, e2.is.1]
    have key := L_cmpS hS hsub d1 e2 hw e3 (v1.mono (Nat.le_refl _) (by omega) (Or.inl rfl)) v2
    by_cases c1 : (tkT tp n p2).1 = 60
    · rw [if_pos (show nI (tkT tp n p2).1 = (60 : Int32) by rw [c1]; rfl)]
      unfold f_X3_readCompared_29
      rw [gI_k hk3, Option.bind_some, e2.is.1, if_pos (show nI (tkT tp n p2).1 = (60 : Int32) by rw [c1]; rfl)]
      rw [c1] at key
      exact key (by decide)
    · rw [if_neg (show ¬ nI (tkT tp n p2).1 = (60 : Int32) from fun y => c1 ((e2.is.2 60 (by decide)).1 y))]
      by_cases c2 : (tkT tp n p2).1 = 61
      · rw [if_pos (show nI (tkT tp n p2).1 = (61 : Int32) by rw [c2]; rfl)]
        unfold f_X3_readCompared_29
        rw [gI_k hk3, Option.bind_some, e2.is.1, if_neg (show ¬ nI (tkT tp n p2).1 = (60 : Int32) from fun y => c1 ((e2.is.2 60 (by decide)).1 y))]
        rw [c2] at key
        exact key (by decide)
      · rw [if_neg (show ¬ nI (tkT tp n p2).1 = (61 : Int32) from fun y => c2 ((e2.is.2 61 (by decide)).1 y)), rz1]
        refine ⟨m2, p2, d1, d2, Or.inl ⟨cs, rfl, e2, e3, Or.inl ⟨v1.mono (by omega) (by omega) (Or.inl rfl), v2, ?_⟩⟩⟩
        have := tok_rk (tkT tp n p2).1
        omega
  · rw [e1, Option.bind_some, if_pos rfl]
    exact ⟨m2, p2, d1, d2, Or.inr ⟨rz0, e2, e3.mono (by omega) (Or.inl rfl)⟩⟩
theorem C_enter {S : SK} {m0 : Nat → Nat → Int32} {n : Nat} {tp : Nat → Nat} {p o : Nat} {w : List Nat} {m : Nat → Nat → Int32} (hS : RdOK S) (hV : VC m0 n tp p o w m) : (o = 5 ∧ f_X3_enter (mk S m) (some 33) = some (0, mk S m)) ∨ (o < 5 ∧ ∃ m2, VC m0 n tp (tkT tp n p).2.2 (o + 1) w m2 ∧ f_X3_enter (mk S m) (some 33) = some (1, mk S m2)) := by
  have hk3 : (sh S 33).1 = 3 := by rw [rd33 hS]
  have h9 : m 33 9 = nI o := hV.2.2.2.2.2.1
  have ho : o ≤ 5 := hV.2.2.2.2.2.2.2.2.2.2
  unfold f_X3_enter
  rw [gI_k hk3, Option.bind_some, Option.bind_some, h9]
  by_cases c : o < 5
  · refine Or.inr ⟨c, ?_⟩
    obtain ⟨m2, b1, b2⟩ := (hV.opn (o2 := o + 1) (by omega)).adv hS
    refine ⟨m2, b1, ?_⟩
    rw [if_pos (show nI o < (5 : Int32) from nI_lt (b := 5) c (by decide)), pI_k hk3, Option.bind_some, show nI o + (1 : Int32) = nI (o + 1) from nI_add o 1, vc_k hk3, b2, Option.bind_some, rz1]
  · refine Or.inl ⟨by omega, ?_⟩
    rw [if_neg (show ¬ nI o < (5 : Int32) from nI_nlt (b := 5) (by omega) (by omega)), rz0]
theorem C_close {S : SK} {m0 : Nat → Nat → Int32} {n : Nat} {tp : Nat → Nat} {p o c : Nat} {w : List Nat} {m : Nat → Nat → Int32} {v : Int32} (hS : RdOK S) (hV : VC m0 n tp p (o + 1) w m) (hw : w.length < 160) (hv : v = enS c) : ∃ m2, VC m0 n tp p o (w ++ [c]) m2 ∧ ((gI (mk S m) 3 (some 33) 9).bind fun v4 => (pI (mk S m) 3 (some 33) 9 (v4 - ((1 : Int32)))).bind fun h5 => (vc h5 3 (some 33) (f_X3_addStep h5 (some 33) v)).bind fun q6 => rz q6 ((1 : Int32))) = some (1, mk S m2) := by
  have hk3 : (sh S 33).1 = 3 := by rw [rd33 hS]
  have h9 : m 33 9 = nI (o + 1) := hV.2.2.2.2.2.1
  have ho : o + 1 ≤ 5 := hV.2.2.2.2.2.2.2.2.2.2
  obtain ⟨m2, b1, b2⟩ := (hV.opn (o2 := o) (by omega)).step hS hw (c := c)
  refine ⟨m2, b1, ?_⟩
  rw [gI_k hk3, Option.bind_some, h9, show nI (o + 1) - (1 : Int32) = nI o from by
    rw [show (1 : Int32) = nI 1 from rfl, pk_sub (by omega)]
    rfl, pI_k hk3, Option.bind_some, vc_k hk3, hv, b2, Option.bind_some, rz1]
theorem L_not {S : SK} {m0 : Nat → Nat → Int32} {n : Nat} {tp : Nat → Nat} {p o : Nat} {w : List Nat} {m : Nat → Nat → Int32} {subN subC : XM → Option Nat → Option (Int32 × XM)} (hS : RdOK S) (hN : o < 5 → ∀ p w m, VC m0 n tp p (o + 1) w m → w.length ≤ p → OUTC S m0 n tp 3 4 true p (o + 1) w (subN (mk S m) (some 33))) (hC : ∀ p w m, VC m0 n tp p o w m → w.length ≤ p → OUTC S m0 n tp 4 4 false p o w (subC (mk S m) (some 33))) (hV : VC m0 n tp p o w m) (hw : w.length ≤ p) : OUTC S m0 n tp 3 4 true p o w (fe_X3_readNot subN subC (mk S m) (some 33)) := by
  have hk3 : (sh S 33).1 = 3 := by rw [rd33 hS]
  have hn := hV.n
  unfold fe_X3_readNot f_X3_readNot_28
  rw [gI_k hk3, Option.bind_some, hV.is.1]
  by_cases c1 : (tkT tp n p).1 = 11
  · rw [if_pos (show nI (tkT tp n p).1 = (11 : Int32) by rw [c1]; rfl), vc_k hk3]
    have hnx := hn.2.2.2.2 (by omega)
    rcases C_enter hS hV with ⟨ho, e⟩ | ⟨ho, m2, b1, b2⟩
    · rw [e, Option.bind_some, if_pos rfl]
      exact ⟨m, p, Nat.le_refl _, hn.2.2.1, Or.inr ⟨rz0, hV.f, FLS.noNot c1 ho⟩⟩
    · rw [b2, Option.bind_some, if_neg (show ¬ (1 : Int32) = 0 by decide)]
      show OUTC S m0 n tp 3 4 true p o w ((vc (mk S m2) 3 (some 33) (subN (mk S m2) (some 33))).bind fun q3 => if q3.1 = 0 then (rz q3.2 0) else ((gI q3.2 3 (some 33) 9).bind fun v4 => (pI q3.2 3 (some 33) 9 (v4 - ((1 : Int32)))).bind fun h5 => (vc h5 3 (some 33) (f_X3_addStep h5 (some 33) ((-8 : Int32)))).bind fun q6 => rz q6 ((1 : Int32))))
      rw [vc_k hk3]
      obtain ⟨m3, p2, d1, d2, d3⟩ := hN ho _ _ m2 b1 (by omega)
      rcases d3 with ⟨cs, e1, e2, e3, e4⟩ | ⟨e1, e2, e3⟩
      · rw [e1, Option.bind_some, if_neg (show ¬ (1 : Int32) = 0 by decide)]
        obtain ⟨m4, u1, u2⟩ := C_close (c := 13) (v := -8) hS e2 (by rw [List.length_append]; omega) (by decide)
        refine ⟨m4, p2, by omega, d2, Or.inl ⟨cs ++ [13], u2, ?_, ?_, ?_⟩⟩
        · rw [← List.append_assoc]
          exact u1
        · simp only [List.length_append, List.length_cons, List.length_nil]
          omega
        · rcases e4 with ⟨v1, v2, v3⟩ | ⟨v0, v1, v2⟩
          · exact Or.inl ⟨RLS.not c1 (by omega) hnx d1 v1, v2.one (Or.inl rfl), v3⟩
          · exact Or.inr ⟨by omega, FLS.not c1 (by omega) hnx d1 v1, v2⟩
      · rw [e1, Option.bind_some, if_pos rfl]
        exact ⟨m3, p2, by omega, d2, Or.inr ⟨rz0, e2, FLS.not c1 (by omega) hnx d1 e3⟩⟩
  · rw [if_neg (show ¬ nI (tkT tp n p).1 = (11 : Int32) from fun y => c1 ((hV.is.2 11 (by decide)).1 y)), vc_k hk3]
    obtain ⟨m3, p2, d1, d2, d3⟩ := hC _ _ m hV hw
    rcases d3 with ⟨cs, e1, e2, e3, e4⟩ | ⟨e1, e2, e3⟩
    · rw [e1, Option.bind_some]
      refine ⟨m3, p2, d1, d2, Or.inl ⟨cs, rz1, e2, e3, ?_⟩⟩
      rcases e4 with ⟨v1, v2, v3⟩ | ⟨v0, v1, v2⟩
      · refine Or.inl ⟨v1.mono (by omega) (by omega) (Or.inr ⟨c1, rfl⟩), v2, ?_⟩
        have := tok_rk (tkT tp n p2).1
        omega
      · exact Or.inr ⟨by omega, v1.mono (by omega) (Or.inr ⟨c1, rfl⟩), v2⟩
    · rw [e1, Option.bind_some]
      exact ⟨m3, p2, d1, d2, Or.inr ⟨rz0, e2, e3.mono (by omega) (Or.inr ⟨c1, rfl⟩)⟩⟩
theorem C_pass {S : SK} {m0 : Nat → Nat → Int32} {n : Nat} {tp : Nat → Nat} {p o t : Nat} {w : List Nat} {m : Nat → Nat → Int32} (hS : RdOK S) (hV : VC m0 n tp p o w m) (ht : t < 300) : ((tkT tp n p).1 = t ∧ ∃ m2, VC m0 n tp (tkT tp n p).2.2 o w m2 ∧ f_X3_pass (mk S m) (some 33) (nI t) = some (1, mk S m2)) ∨ ((tkT tp n p).1 ≠ t ∧ f_X3_pass (mk S m) (some 33) (nI t) = some (0, mk S m)) := by
  have hk3 : (sh S 33).1 = 3 := by rw [rd33 hS]
  unfold f_X3_pass
  rw [gI_k hk3, Option.bind_some, hV.is.1]
  by_cases c : (tkT tp n p).1 = t
  · obtain ⟨m2, b1, b2⟩ := hV.adv hS
    refine Or.inl ⟨c, m2, b1, ?_⟩
    rw [if_pos (by rw [c]), vc_k hk3, b2, Option.bind_some, rz1]
  · refine Or.inr ⟨c, ?_⟩
    rw [if_neg (fun y => c ((hV.is.2 t (by omega)).1 y)), rz0]
theorem rk7 (t : Nat) : rkS (sgS t) < 7 := by
  have := tok_rk t
  omega
theorem L_one {S : SK} {m0 : Nat → Nat → Int32} {n : Nat} {tp : Nat → Nat} {p o : Nat} {w : List Nat} {m : Nat → Nat → Int32} {subE subO : XM → Option Nat → Option (Int32 × XM)} (hS : RdOK S) (hE : o < 5 → ∀ p w m, VC m0 n tp p (o + 1) w m → w.length ≤ p → OUTC S m0 n tp 1 1 true p (o + 1) w (subE (mk S m) (some 33))) (hO : o < 5 → ∀ p w m, VC m0 n tp p (o + 1) w m → w.length ≤ p → OUTC S m0 n tp 7 8 false p (o + 1) w (subO (mk S m) (some 33))) (hV : VC m0 n tp p o w m) (hw : w.length ≤ p) : OUTC S m0 n tp 7 8 false p o w (fe_X3_readOne subE subO (mk S m) (some 33)) := by
  have hk3 : (sh S 33).1 = 3 := by rw [rd33 hS]
  have hn := hV.n
  have ht := hV.tk
  by_cases c1 : (tkT tp n p).1 = 256 ∨ (tkT tp n p).1 < 6
  · have hnx := hn.2.2.2.2 (by omega)
    have h50 : ∀ v c, v = enS c → c = (if (tkT tp n p).1 = 256 then 100000 + (tkT tp n p).2.1 else (tkT tp n p).1) → OUTC S m0 n tp 7 8 false p o w (f_X3_readOne_50 subE subO (mk S m) (some 33) v (some 33)) := by
      intro v c hv hc
      unfold f_X3_readOne_50
      obtain ⟨m2, b1, b2⟩ := hV.step hS (by omega) (c := c)
      obtain ⟨m3, d1, d2⟩ := b1.adv hS
      rw [vc_k hk3, hv, b2, Option.bind_some, vc_k hk3, d2, Option.bind_some, rz1]
      refine ⟨m3, _, by omega, hn.1, Or.inl ⟨[c], rfl, d1, by simp only [List.length_cons, List.length_nil]; omega, Or.inl ⟨?_, wfP.val ?_, rk7 _⟩⟩⟩
      · rw [hc]
        exact RLS.one c1 hnx
      · rw [hc]
        by_cases c2 : (tkT tp n p).1 = 256
        · have := hV.2.2.2.2.1 c2
          rw [if_pos c2]
          omega
        · rw [if_neg c2]
          omega
    have h26 : OUTC S m0 n tp 7 8 false p o w (f_X3_readOne_26 subE subO (mk S m) (some 33)) := by
      unfold f_X3_readOne_26
      rw [gI_k hk3, Option.bind_some, Option.bind_some, hV.is.1]
      by_cases c2 : (tkT tp n p).1 = 256
      · have h8 := hV.2.2.2.2.1 c2
        rw [if_pos (show nI (tkT tp n p).1 = (256 : Int32) by rw [c2]; rfl), gI_k hk3, Option.bind_some, h8.1]
        refine h50 _ (100000 + (tkT tp n p).2.1) ?_ (by rw [if_pos c2])
        unfold enS
        rw [if_pos (by omega), Nat.add_sub_cancel_left]
      · rw [if_neg (show ¬ nI (tkT tp n p).1 = (256 : Int32) from fun y => c2 ((hV.is.2 256 (by decide)).1 y))]
        refine h50 _ (tkT tp n p).1 ?_ (by rw [if_neg c2])
        unfold enS
        rw [if_neg (by omega), if_pos (by omega)]
    unfold fe_X3_readOne
    rw [gI_k hk3, Option.bind_some, Option.bind_some, Option.bind_some, hV.is.1]
    by_cases c2 : (tkT tp n p).1 = 256
    · rw [if_pos (show nI (tkT tp n p).1 = (256 : Int32) by rw [c2]; rfl)]
      exact h26
    · rw [if_neg (show ¬ nI (tkT tp n p).1 = (256 : Int32) from fun y => c2 ((hV.is.2 256 (by decide)).1 y)), if_neg (nI_pos (by omega)), if_pos (show nI (tkT tp n p).1 < (6 : Int32) from nI_lt (b := 6) (by omega) (by decide))]
      exact h26
  · have h59 : fe_X3_readOne subE subO (mk S m) (some 33) = f_X3_readOne_59 subE subO (mk S m) (some 33) := by
      unfold fe_X3_readOne
      rw [gI_k hk3, Option.bind_some, Option.bind_some, Option.bind_some, hV.is.1, if_neg (show ¬ nI (tkT tp n p).1 = (256 : Int32) from fun y => c1 (Or.inl ((hV.is.2 256 (by decide)).1 y))), if_neg (nI_pos (by omega)), if_neg (show ¬ nI (tkT tp n p).1 < (6 : Int32) from nI_nlt (b := 6) (by omega) (by omega))]
    rw [h59]
    unfold f_X3_readOne_59 f_X3_readOne_82 f_X3_readOne_134
    rw [gI_k hk3, Option.bind_some, Option.bind_some, hV.is.1]
    by_cases c2 : (tkT tp n p).1 = 45
    · have hnx := hn.2.2.2.2 (by omega)
      rw [if_pos (show nI (tkT tp n p).1 = (45 : Int32) by rw [c2]; rfl), vc_k hk3]
      rcases C_enter hS hV with ⟨ho, e⟩ | ⟨ho, m2, b1, b2⟩
      · rw [e, Option.bind_some, if_pos rfl]
        exact ⟨m, p, Nat.le_refl _, hn.2.2.1, Or.inr ⟨rz0, hV.f, FLS.no c1 (Or.inr ho) (Or.inr ho)⟩⟩
      · rw [b2, Option.bind_some, if_neg (show ¬ (1 : Int32) = 0 by decide)]
        show OUTC S m0 n tp 7 8 false p o w ((vc (mk S m2) 3 (some 33) (subO (mk S m2) (some 33))).bind fun q3 => if q3.1 = 0 then (rz q3.2 0) else ((gI q3.2 3 (some 33) 9).bind fun v4 => (pI q3.2 3 (some 33) 9 (v4 - ((1 : Int32)))).bind fun h5 => (vc h5 3 (some 33) (f_X3_addStep h5 (some 33) ((-7 : Int32)))).bind fun q6 => rz q6 ((1 : Int32))))
        rw [vc_k hk3]
        obtain ⟨m3, p2, d1, d2, d3⟩ := hO ho _ _ m2 b1 (by omega)
        rcases d3 with ⟨cs, e1, e2, e3, e4⟩ | ⟨e1, e2, e3⟩
        · rw [e1, Option.bind_some, if_neg (show ¬ (1 : Int32) = 0 by decide)]
          obtain ⟨m4, u1, u2⟩ := C_close (c := 19) (v := -7) hS e2 (by rw [List.length_append]; omega) (by decide)
          obtain ⟨v1, v2, v3⟩ : RLS (tkT tp n) 7 8 false (tkT tp n p).2.2 p2 (o + 1) cs ∧ wfP cs ∧ rkS (sgS (tkT tp n p2).1) < 7 := by
            rcases e4 with y | ⟨y, _⟩
            · exact y
            · omega
          refine ⟨m4, p2, by omega, d2, Or.inl ⟨cs ++ [19], u2, ?_, ?_, Or.inl ⟨RLS.neg c2 (by omega) hnx d1 v1, v2.one (Or.inr rfl), v3⟩⟩⟩
          · rw [← List.append_assoc]
            exact u1
          · simp only [List.length_append, List.length_cons, List.length_nil]
            omega
        · rw [e1, Option.bind_some, if_pos rfl]
          exact ⟨m3, p2, by omega, d2, Or.inr ⟨rz0, e2, FLS.neg c2 (by omega) hnx d1 e3⟩⟩
    · rw [if_neg (show ¬ nI (tkT tp n p).1 = (45 : Int32) from fun y => c2 ((hV.is.2 45 (by decide)).1 y))]
      by_cases c3 : (tkT tp n p).1 = 40
      · have hnx := hn.2.2.2.2 (by omega)
        rw [if_pos (show nI (tkT tp n p).1 = (40 : Int32) by rw [c3]; rfl), vc_k hk3]
        rcases C_enter hS hV with ⟨ho, e⟩ | ⟨ho, m2, b1, b2⟩
        · rw [e, Option.bind_some, if_pos rfl]
          exact ⟨m, p, Nat.le_refl _, hn.2.2.1, Or.inr ⟨rz0, hV.f, FLS.no c1 (Or.inr ho) (Or.inr ho)⟩⟩
        · rw [b2, Option.bind_some, if_neg (show ¬ (1 : Int32) = 0 by decide)]
          show OUTC S m0 n tp 7 8 false p o w ((vc (mk S m2) 3 (some 33) (subE (mk S m2) (some 33))).bind fun q14 => if q14.1 = 0 then (rz q14.2 0) else ((vc q14.2 3 (some 33) (f_X3_pass q14.2 (some 33) ((41 : Int32)))).bind fun q15 => if q15.1 = 0 then (rz q15.2 0) else ((gI q15.2 3 (some 33) 9).bind fun v16 => (pI q15.2 3 (some 33) 9 (v16 - ((1 : Int32)))).bind fun h17 => rz h17 ((1 : Int32)))))
          rw [vc_k hk3]
          obtain ⟨m3, p2, d1, d2, d3⟩ := hE ho _ _ m2 b1 (by omega)
          rcases d3 with ⟨cs, e1, e2, e3, e4⟩ | ⟨e1, e2, e3⟩
          · rw [e1, Option.bind_some, if_neg (show ¬ (1 : Int32) = 0 by decide)]
            show OUTC S m0 n tp 7 8 false p o w ((vc (mk S m3) 3 (some 33) (f_X3_pass (mk S m3) (some 33) (nI 41))).bind fun q15 => if q15.1 = 0 then (rz q15.2 0) else ((gI q15.2 3 (some 33) 9).bind fun v16 => (pI q15.2 3 (some 33) 9 (v16 - ((1 : Int32)))).bind fun h17 => rz h17 ((1 : Int32))))
            rw [vc_k hk3]
            have hn2 := e2.n
            rcases C_pass hS e2 (t := 41) (by decide) with ⟨g1, m4, g2, g3⟩ | ⟨g1, g2⟩
            · have hnx2 := hn2.2.2.2.2 (by omega)
              obtain ⟨v1, v2, v3⟩ : RLS (tkT tp n) 1 1 true (tkT tp n p).2.2 p2 (o + 1) cs ∧ wfP cs ∧ rkS (sgS (tkT tp n p2).1) < 1 := by
                rcases e4 with y | ⟨_, _, y⟩
                · exact y
                · rw [g1] at y
                  exact absurd y (by decide)
              rw [g3, Option.bind_some, if_neg (show ¬ (1 : Int32) = 0 by decide)]
              show OUTC S m0 n tp 7 8 false p o w ((gI (mk S m4) 3 (some 33) 9).bind fun v16 => (pI (mk S m4) 3 (some 33) 9 (v16 - ((1 : Int32)))).bind fun h17 => rz h17 ((1 : Int32)))
              have h9 : m4 33 9 = nI (o + 1) := g2.2.2.2.2.2.1
              rw [gI_k hk3, Option.bind_some, h9, show nI (o + 1) - (1 : Int32) = nI o from by
                rw [show (1 : Int32) = nI 1 from rfl, pk_sub (by omega)]
                rfl, pI_k hk3, Option.bind_some, rz1]
              refine ⟨_, _, by omega, hn2.1, Or.inl ⟨cs, rfl, g2.opn (by omega), by omega, Or.inl ⟨RLS.par c3 (by omega) hnx d1 v1 g1 hnx2, v2, rk7 _⟩⟩⟩
            · rw [g2, Option.bind_some, if_pos rfl]
              refine ⟨m3, p2, by omega, d2, Or.inr ⟨rz0, e2.f, ?_⟩⟩
              rcases e4 with ⟨v1, v2, v3⟩ | ⟨v0, v1, v2⟩
              · exact FLS.unc c3 (by omega) hnx d1 v1 g1 v3
              · exact FLS.par c3 (by omega) hnx d1 v1
          · rw [e1, Option.bind_some, if_pos rfl]
            exact ⟨m3, p2, by omega, d2, Or.inr ⟨rz0, e2, FLS.par c3 (by omega) hnx d1 e3⟩⟩
      · rw [if_neg (show ¬ nI (tkT tp n p).1 = (40 : Int32) from fun y => c3 ((hV.is.2 40 (by decide)).1 y))]
        exact ⟨m, p, Nat.le_refl _, hn.2.2.1, Or.inr ⟨rz0, hV.f, FLS.no c1 (Or.inl c2) (Or.inl c3)⟩⟩
/-- all levels, by how deep they may go -/
theorem C_group {S : SK} {m0 : Nat → Nat → Int32} {n : Nat} {tp : Nat → Nat} (hS : RdOK S) : ∀ d o, o ≤ 5 →
    (7 + 7 * (5 - o) ≤ d → ∀ p w m, VC m0 n tp p o w m → w.length ≤ p → OUTC S m0 n tp 1 1 true p o w (f_X3_readEither d (mk S m) (some 33))) ∧
    (6 + 7 * (5 - o) ≤ d → ∀ p w m, VC m0 n tp p o w m → w.length ≤ p → OUTC S m0 n tp 2 2 true p o w (f_X3_readBoth d (mk S m) (some 33))) ∧
    (5 + 7 * (5 - o) ≤ d → ∀ p w m, VC m0 n tp p o w m → w.length ≤ p → OUTC S m0 n tp 3 4 true p o w (f_X3_readNot d (mk S m) (some 33))) ∧
    (4 + 7 * (5 - o) ≤ d → ∀ p w m, VC m0 n tp p o w m → w.length ≤ p → OUTC S m0 n tp 4 4 false p o w (f_X3_readCompared d (mk S m) (some 33))) ∧
    (3 + 7 * (5 - o) ≤ d → ∀ p w m, VC m0 n tp p o w m → w.length ≤ p → OUTC S m0 n tp 5 5 false p o w (f_X3_readSum d (mk S m) (some 33))) ∧
    (2 + 7 * (5 - o) ≤ d → ∀ p w m, VC m0 n tp p o w m → w.length ≤ p → OUTC S m0 n tp 6 6 false p o w (f_X3_readTerm d (mk S m) (some 33))) ∧
    (1 + 7 * (5 - o) ≤ d → ∀ p w m, VC m0 n tp p o w m → w.length ≤ p → OUTC S m0 n tp 7 8 false p o w (f_X3_readOne d (mk S m) (some 33))) := by
  intro d
  induction d with
  | zero => exact fun o ho => ⟨fun h => by omega, fun h => by omega, fun h => by omega, fun h => by omega, fun h => by omega, fun h => by omega, fun h => by omega⟩
  | succ d ih =>
    intro o ho
    obtain ⟨i1, i2, i3, i4, i5, i6, i7⟩ := ih o ho
    have hup : o < 5 → _ := fun h => ih (o + 1) (by omega)
    refine ⟨fun h p w m hV hw => ?_, fun h p w m hV hw => ?_, fun h p w m hV hw => ?_, fun h p w m hV hw => ?_, fun h p w m hV hw => ?_, fun h p w m hV hw => ?_, fun h p w m hV hw => ?_⟩
    · exact L_either (sub := f_X3_readBoth d) hS (i2 (by omega)) hV hw
    · exact L_both (sub := f_X3_readNot d) hS (i3 (by omega)) hV hw
    · exact L_not (subN := f_X3_readNot d) (subC := f_X3_readCompared d) hS (fun h5 => (hup h5).2.2.1 (by omega)) (i4 (by omega)) hV hw
    · exact L_cmp (sub := f_X3_readSum d) hS (i5 (by omega)) hV hw
    · exact L_sum (sub := f_X3_readTerm d) hS (i6 (by omega)) hV hw
    · exact L_term (sub := f_X3_readOne d) hS (i7 (by omega)) hV hw
    · exact L_one (subE := f_X3_readEither d) (subO := f_X3_readOne d) hS (fun h5 => (hup h5).1 (by omega)) (fun h5 => (hup h5).2.2.2.2.2.2 (by omega)) hV hw
