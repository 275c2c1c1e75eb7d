/-! PURE: the class reads a text -/
def rpS (K : TK) (k p : Nat) (w : List Nat) : Option (Option (List Nat) × Nat) := if (K p).1 = 6 + k then mcS K FU (K p).2.2 [] 0 w true true else some (none, p)
theorem C_part {S : SK} {m0 : Nat → Nat → Int32} {n : Nat} {tp : Nat → Nat} {p k : Nat} {w : List Nat} {m : Nat → Nat → Int32} (hS : RdOK S) (hV : VC m0 n tp p 0 w m) (hw : w.length ≤ p) (hk : k < 3) : ∃ m2, (∃ cs p2, rpS (tkT tp n) k p w = some (some (w ++ cs), p2) ∧ wfP cs ∧ (w ++ cs).length ≤ p2 ∧ VC (w2 m0 36 (k + 1) (nI (w ++ cs).length)) n tp p2 0 (w ++ cs) m2 ∧ f_X3_readPart (mk S m) (some 33) (nI k) (nI (6 + k)) = some (1, mk S m2)) ∨ (∃ p2, rpS (tkT tp n) k p w = some (none, p2) ∧ VF m0 n tp p2 m2 ∧ f_X3_readPart (mk S m) (some 33) (nI k) (nI (6 + k)) = some (0, mk S m2)) := by
  have hk3 : (sh S 33).1 = 3 := by rw [rd33 hS]
  have hn := hV.n
  unfold f_X3_readPart f_X3_readPart_24 rpS
  rw [vc_k hk3]
  rcases C_pass hS hV (t := 6 + k) (by omega) with ⟨g1, m1, g2, g3⟩ | ⟨g1, g2⟩
  · have hnx := hn.2.2.2.2 (by omega)
    rw [g3, Option.bind_some, if_neg (show ¬ (1 : Int32) = 0 by decide), if_pos g1]
    obtain ⟨m3, p2, d1, d2, d3⟩ := (C_group (m0 := m0) (n := n) (tp := tp) hS 80 0 (by omega)).1 (by omega) _ w m1 g2 (by omega)
    show ∃ m2, _ ∨ (∃ p2, _ ∧ _ ∧ _ = _)
    have hfl : ∀ p2, FLS (tkT tp n) 1 true (tkT tp n p).2.2 p2 0 → p2 ≤ n → mcS (tkT tp n) FU (tkT tp n p).2.2 [] 0 w true true = some (none, p2) := fun p2 h h2 => by
      obtain ⟨k, a1, a2⟩ := h [] w true (by decide) rfl
      have := a2 (FU - k - 1)
      rw [show FU - k - 1 + k + 1 = FU by unfold FU; omega] at this
      exact this
    rcases d3 with ⟨cs, e1, e2, e3, e4⟩ | ⟨e1, e2, e3⟩
    · have hn2 := e2.n
      have er : (vc (mk S m1) 3 (some 33) (f_X3_readEither 80 (mk S m1) (some 33))) = some (1, mk S m3) := by
        rw [vc_k hk3, e1]
      rcases C_pass hS e2 (t := 59) (by omega) with ⟨u1, m4, u2, u3⟩ | ⟨u1, u2⟩
      · obtain ⟨v1, v2, v3⟩ : RLS (tkT tp n) 1 1 true (tkT tp n p).2.2 p2 0 cs ∧ wfP cs ∧ rkS (sgS (tkT tp n p2).1) < 1 := by
          rcases e4 with y | ⟨_, _, y⟩
          · exact y
          · rw [u1] at y
            exact absurd y (by decide)
        have hnx2 := hn2.2.2.2.2 (by omega)
        obtain ⟨j, j1, j2⟩ := mc_end v1 v3 (w := w)
        have j3 := j2 (FU - j - 1)
        rw [show FU - j - 1 + j + 1 = FU by unfold FU; omega, if_pos u1] at j3
        have hl : (w ++ cs).length = w.length + cs.length := List.length_append
        have hm36 : ∀ b j, w2 m4 36 (k + 1) (nI (w ++ cs).length) b j = if b = 36 ∧ j = k + 1 then nI (w ++ cs).length else m4 b j := fun b j => w2_ap
        refine ⟨w2 m4 36 (k + 1) (nI (w ++ cs).length), Or.inl ⟨cs, _, j3, v2, by omega, ?_, ?_⟩⟩
        · obtain ⟨a1, a2, a3, a4, a5, a6, a7, a8, a9, a10, a11⟩ := u2
          refine ⟨?_, ?_, ?_, ?_, ?_, ?_, ?_, ?_, ?_, a10, a11⟩
          · obtain ⟨t1, t2, t3⟩ := a1
            refine ⟨?_, t2, fun k hk => ?_⟩
            · rw [w2_ap, if_neg (by omega)]; exact t1
            · rw [w2_ap, if_neg (by omega)]; exact t3 k hk
          · rw [w2_ap, if_neg (by omega)]; exact a2
          · rw [w2_ap, if_neg (by omega)]; exact a3
          · rw [w2_ap, if_neg (by omega)]; exact a4
          · rw [w2_ap, if_neg (by omega)]; exact a5
          · rw [w2_ap, if_neg (by omega)]; exact a6
          · rw [w2_ap, if_neg (by omega)]; exact a7
          · exact a8.ag (funext fun j => by rw [w2_ap, if_neg (by omega)])
          · intro b j h1 h2
            rw [w2_ap, w2_ap, a9 b j h1 h2]
        · rw [er, Option.bind_some, if_neg (show ¬ (1 : Int32) = 0 by decide)]
          show ((vc (mk S m3) 3 (some 33) (f_X3_pass (mk S m3) (some 33) (nI 59))).bind fun q3 => if q3.1 = 0 then (rz q3.2 0) else ((gR q3.2 3 (some 33) 2).bind fun v4 => (gI q3.2 3 (some 33) 10).bind fun v5 => (sI q3.2 v4 (nI k + ((1 : Int32))) v5).bind fun h6 => rz h6 ((1 : Int32)))) = _
          rw [vc_k hk3, u3, Option.bind_some, if_neg (show ¬ (1 : Int32) = 0 by decide)]
          show ((gR (mk S m4) 3 (some 33) 2).bind fun v4 => (gI (mk S m4) 3 (some 33) 10).bind fun v5 => (sI (mk S m4) v4 (nI k + ((1 : Int32))) v5).bind fun h6 => rz h6 ((1 : Int32))) = _
          have h10 : m4 33 10 = nI (w ++ cs).length := u2.2.2.2.2.2.2.1
          rw [gR_k hk3, Option.bind_some, rr33_2 hS, gI_k hk3, Option.bind_some, h10, show nI k + (1 : Int32) = nI (k + 1) from nI_add k 1, sI_n (rd36 hS) (show k + 1 < 4 by omega) (by decide), Option.bind_some, rz1]
      · refine ⟨m3, Or.inr ⟨p2, ?_, e2.f, ?_⟩⟩
        · rcases e4 with ⟨v1, v2, v3⟩ | ⟨v0, v1, v2⟩
          · obtain ⟨j, j1, j2⟩ := mc_end v1 v3 (w := w)
            have j3 := j2 (FU - j - 1)
            rw [show FU - j - 1 + j + 1 = FU by unfold FU; omega, if_neg u1] at j3
            exact j3
          · exact hfl _ v1 d2
        · rw [er, Option.bind_some, if_neg (show ¬ (1 : Int32) = 0 by decide)]
          show ((vc (mk S m3) 3 (some 33) (f_X3_pass (mk S m3) (some 33) (nI 59))).bind fun q3 => if q3.1 = 0 then (rz q3.2 0) else ((gR q3.2 3 (some 33) 2).bind fun v4 => (gI q3.2 3 (some 33) 10).bind fun v5 => (sI q3.2 v4 (nI k + ((1 : Int32))) v5).bind fun h6 => rz h6 ((1 : Int32)))) = _
          rw [vc_k hk3, u2, Option.bind_some, if_pos rfl, rz0]
    · refine ⟨m3, Or.inr ⟨p2, hfl _ e3 d2, e2, ?_⟩⟩
      show ((vc (mk S m1) 3 (some 33) (f_X3_readEither 80 (mk S m1) (some 33))).bind _) = _
      rw [vc_k hk3, e1, Option.bind_some, if_pos rfl, rz0]
  · rw [g2, Option.bind_some, if_pos rfl, if_neg g1]
    exact ⟨m, Or.inr ⟨p, rfl, hV.f, rz0⟩⟩
/-- what both make of the tape: the codes' ends, or where it is wrong -/
def txS (K : TK) : Option ((List Nat × List Nat × List Nat) ⊕ Nat) := match rpS K 0 0 [] with
  | none => none
  | some (none, p) => some (Sum.inr p)
  | some (some x1, p1) => match rpS K 1 p1 x1 with
    | none => none
    | some (none, p) => some (Sum.inr p)
    | some (some x2, p2) => match rpS K 2 p2 x2 with
      | none => none
      | some (none, p) => some (Sum.inr p)
      | some (some x3, p3) => if (K p3).1 = 257 then some (Sum.inl (x1, x2, x3)) else some (Sum.inr p3)
def CFr (m m2 : Nat → Nat → Int32) : Prop := ∀ b j, b ≠ 33 → b ≠ 35 → (b ≠ 36 ∨ j = 0) → m2 b j = m b j
theorem C_read {S : SK} {n : Nat} {tp : Nat → Nat} {m : Nat → Nat → Int32} (hS : RdOK S) (hT : TPc m n tp) : ∃ m2, CFr m m2 ∧ TPc m2 n tp ∧ ((∃ cs1 cs2 cs3, txS (tkT tp n) = some (Sum.inl (cs1, cs1 ++ cs2, cs1 ++ cs2 ++ cs3)) ∧ wfP cs1 ∧ wfP cs2 ∧ wfP cs3 ∧ (cs1 ++ cs2 ++ cs3).length ≤ n ∧ CdC m2 35 0 (cs1 ++ cs2 ++ cs3) ∧ m2 33 10 = nI (cs1 ++ cs2 ++ cs3).length ∧ m2 36 1 = nI cs1.length ∧ m2 36 2 = nI (cs1 ++ cs2).length ∧ m2 36 3 = nI (cs1 ++ cs2 ++ cs3).length ∧ f_X3_readText (mk S m) (some 33) = f_X3_readText_64 (mk S m2) (some 33) 1) ∨ (∃ p, txS (tkT tp n) = some (Sum.inr p) ∧ m2 33 6 = nI (tpP tp n p) ∧ f_X3_readText (mk S m) (some 33) = f_X3_readText_64 (mk S m2) (some 33) 0)) := by
  have hk3 : (sh S 33).1 = 3 := by rw [rd33 hS]
  have hT1 : TPc (w2 (w2 (w2 m 33 5 0) 33 9 0) 33 10 0) n tp := by
    obtain ⟨t1, t2, t3⟩ := hT
    refine ⟨?_, t2, fun k hk => ?_⟩
    · rw [w2_ap, if_neg (by omega), w2_ap, if_neg (by omega), w2_ap, if_neg (by omega)]; exact t1
    · rw [w2_ap, if_neg (by omega), w2_ap, if_neg (by omega), w2_ap, if_neg (by omega)]; exact t3 k hk
  obtain ⟨m1, b1, b2, b3, b4, b5, b6⟩ := C_adv (p := 0) hS hT1 (by rw [w2_ap, if_neg (by omega), w2_ap, if_neg (by omega), w2_ap, if_pos ⟨rfl, rfl⟩]; rfl) (by omega)
  have hV : VC m n tp 0 0 [] m1 := by
    refine ⟨hT1.fr b1, b2, b3, b4, b5, ?_, ?_, trivial, ?_, by omega, by omega⟩
    · rw [b1 33 9 (by omega), w2_ap, if_neg (by omega), w2_ap, if_pos ⟨rfl, rfl⟩]; rfl
    · rw [b1 33 10 (by omega), w2_ap, if_pos ⟨rfl, rfl⟩]; rfl
    · intro b j h1 h2
      rw [b1 b j (by omega), w2_ap, if_neg (by omega), w2_ap, if_neg (by omega), w2_ap, if_neg (by omega)]
  unfold f_X3_readText f_X3_readText_63
  rw [pI_k hk3, Option.bind_some, pI_k hk3, Option.bind_some, pI_k hk3, Option.bind_some, vc_k hk3, b6, Option.bind_some, vc_k hk3]
  have c1 := C_part hS hV (Nat.le_refl 0) (k := 0) (by decide)
  rcases c1 with ⟨m2, ⟨cs1, p1, d1, d2, d3, d4, d5⟩ | ⟨p1, d1, d2, d3⟩⟩
  rotate_left
  · refine ⟨m2, fun b j h1 h2 _ => d2.2.2 b j h1 h2, d2.1, Or.inr ⟨p1, ?_, d2.2.1, ?_⟩⟩
    · unfold txS
      rw [d1]
    · rw [show f_X3_readPart (mk S m1) (some 33) 0 6 = some (0, mk S m2) from d3, Option.bind_some, if_pos rfl]
  rw [show f_X3_readPart (mk S m1) (some 33) 0 6 = some (1, mk S m2) from d5, Option.bind_some, if_neg (show ¬ (1 : Int32) = 0 by decide)]
  rw [List.nil_append] at d1 d3 d4
  show ∃ m3, _ ∧ _ ∧ ((∃ cs1 cs2 cs3, _ ∧ _ ∧ _ ∧ _ ∧ _ ∧ _ ∧ _ ∧ _ ∧ _ ∧ _ ∧ ((vc (mk S m2) 3 (some 33) (f_X3_readPart (mk S m2) (some 33) (nI 1) (nI 7))).bind fun q16 => if q16.1 = 0 then (f_X3_readText_64 q16.2 (some 33) 0) else ((vc q16.2 3 (some 33) (f_X3_readPart q16.2 (some 33) (nI 2) (nI 8))).bind fun q17 => if q17.1 = 0 then (f_X3_readText_64 q17.2 (some 33) 0) else ((gI q17.2 3 (some 33) 7).bind fun v18 => if v18 = (nI 257) then (f_X3_readText_64 q17.2 (some 33) ((1 : Int32))) else (f_X3_readText_64 q17.2 (some 33) 0)))) = _) ∨ (∃ p, _ ∧ _ ∧ ((vc (mk S m2) 3 (some 33) (f_X3_readPart (mk S m2) (some 33) (nI 1) (nI 7))).bind fun q16 => if q16.1 = 0 then (f_X3_readText_64 q16.2 (some 33) 0) else ((vc q16.2 3 (some 33) (f_X3_readPart q16.2 (some 33) (nI 2) (nI 8))).bind fun q17 => if q17.1 = 0 then (f_X3_readText_64 q17.2 (some 33) 0) else ((gI q17.2 3 (some 33) 7).bind fun v18 => if v18 = (nI 257) then (f_X3_readText_64 q17.2 (some 33) ((1 : Int32))) else (f_X3_readText_64 q17.2 (some 33) 0)))) = _))
  rw [vc_k hk3]
  have c2 := C_part hS d4 d3 (k := 1) (by decide)
  rcases c2 with ⟨m3, ⟨cs2, p2, e1, e2, e3, e4, e5⟩ | ⟨p2, e1, e2, e3⟩⟩
  rotate_left
  · refine ⟨m3, fun b j h1 h2 h3 => ?_, e2.1, Or.inr ⟨p2, ?_, e2.2.1, ?_⟩⟩
    · rw [e2.2.2 b j h1 h2, w2_ap, if_neg (by omega)]
    · unfold txS
      rw [d1]
      show (match rpS (tkT tp n) 1 p1 cs1 with | none => none | some (none, p) => some (Sum.inr p) | some (some x2, p2) => _) = _
      rw [e1]
    · rw [show f_X3_readPart (mk S m2) (some 33) (nI 1) (nI 7) = some (0, mk S m3) from e3, Option.bind_some, if_pos rfl]
  rw [show f_X3_readPart (mk S m2) (some 33) (nI 1) (nI 7) = some (1, mk S m3) from e5, Option.bind_some, if_neg (show ¬ (1 : Int32) = 0 by decide), vc_k hk3]
  have c3 := C_part hS e4 e3 (k := 2) (by decide)
  rcases c3 with ⟨m4, ⟨cs3, p3, g1, g2, g3, g4, g5⟩ | ⟨p3, g1, g2, g3⟩⟩
  rotate_left
  · refine ⟨m4, fun b j h1 h2 h3 => ?_, g2.1, Or.inr ⟨p3, ?_, g2.2.1, ?_⟩⟩
    · rw [g2.2.2 b j h1 h2, w2_ap, if_neg (by omega), w2_ap, if_neg (by omega)]
    · unfold txS
      rw [d1]
      show (match rpS (tkT tp n) 1 p1 cs1 with | none => none | some (none, p) => some (Sum.inr p) | some (some x2, p2) => _) = _
      rw [e1]
      show (match rpS (tkT tp n) 2 p2 (cs1 ++ cs2) with | none => none | some (none, p) => some (Sum.inr p) | some (some x3, p3) => _) = _
      rw [g1]
    · rw [show f_X3_readPart (mk S m3) (some 33) (nI 2) (nI 8) = some (0, mk S m4) from g3, Option.bind_some, if_pos rfl]
  have htx : txS (tkT tp n) = if (tkT tp n p3).1 = 257 then some (Sum.inl (cs1, cs1 ++ cs2, cs1 ++ cs2 ++ cs3)) else some (Sum.inr p3) := by
    unfold txS
    rw [d1]
    show (match rpS (tkT tp n) 1 p1 cs1 with | none => none | some (none, p) => some (Sum.inr p) | some (some x2, p2) => _) = _
    rw [e1]
    show (match rpS (tkT tp n) 2 p2 (cs1 ++ cs2) with | none => none | some (none, p) => some (Sum.inr p) | some (some x3, p3) => _) = _
    rw [g1]
  have hm : ∀ b j, b ≠ 33 → b ≠ 35 → m4 b j = w2 (w2 (w2 m 36 1 (nI cs1.length)) 36 2 (nI (cs1 ++ cs2).length)) 36 3 (nI (cs1 ++ cs2 ++ cs3).length) b j := g4.2.2.2.2.2.2.2.2.1
  rw [show f_X3_readPart (mk S m3) (some 33) (nI 2) (nI 8) = some (1, mk S m4) from g5, Option.bind_some, if_neg (show ¬ (1 : Int32) = 0 by decide), gI_k hk3, Option.bind_some, g4.is.1]
  refine ⟨m4, fun b j h1 h2 h3 => ?_, g4.1, ?_⟩
  · rw [hm b j h1 h2, w2_ap, if_neg (by omega), w2_ap, if_neg (by omega), w2_ap, if_neg (by omega)]
  by_cases c : (tkT tp n p3).1 = 257
  · rw [if_pos c] at htx
    refine Or.inl ⟨cs1, cs2, cs3, htx, d2, e2, g2, by have := g4.n; omega, g4.2.2.2.2.2.2.2.1, g4.2.2.2.2.2.2.1, ?_, ?_, ?_, ?_⟩
    · rw [hm 36 1 (by decide) (by decide), w2_ap, if_neg (by omega), w2_ap, if_neg (by omega), w2_ap, if_pos ⟨rfl, rfl⟩]
    · rw [hm 36 2 (by decide) (by decide), w2_ap, if_neg (by omega), w2_ap, if_pos ⟨rfl, rfl⟩]
    · rw [hm 36 3 (by decide) (by decide), w2_ap, if_pos ⟨rfl, rfl⟩]
    · rw [if_pos (by rw [c])]
  · rw [if_neg c] at htx
    refine Or.inr ⟨p3, htx, g4.2.2.1, ?_⟩
    rw [if_neg (fun y => c ((g4.is.2 257 (by decide)).1 y))]
