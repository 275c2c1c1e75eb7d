/-! PURE: the class's gate, one question at a time -/
/-- the names a law sees -/
def nmS (a r v w n q : Int32) : Nat → Int32 := fun j => if j = 0 then a else if j = 1 then r else if j = 2 then v else if j = 3 then w else if j = 4 then n else q
/-- what a part of a law says, out of the codes' value -/
def lwS (p : Nat) (e : Int32) : Int32 := if p = 0 then (if e = 0 then 0 else 1) else (if 0 < (if e < 99 then e else 99) then (if e < 99 then e else 99) else 0)
def vlS (nm : Nat → Int32) (cs : List Nat) : Int32 := (evS nm cs []).headD 0
theorem X1_restOf {S : SK} {m : Nat → Nat → Int32} {g d a : Nat} (hg : sh S g = (1, 12)) (hd : m g 4 = nI d) (h0 : 0 < d) (h1 : d < 2 ^ 31) (ha : a < 2 ^ 31) : f_X1_restOf (mk S m) (some g) (nI a) = some (nI (a % d), mk S m) := by
  have q : nI 0 < nI d := nI_lt (by omega) (by omega)
  have hk : (sh S g).1 = 1 := by rw [hg]
  simp only [f_X1_restOf, f_X1_restOf_17, gI_k hk, Option.bind_some, hd, n_lit, q, if_true, irem_n ha h0 h1]
theorem X1_isInside {S : SK} {m : Nat → Nat → Int32} {g i p : Nat} (hg : sh S g = (1, 12)) (hi : m g 8 = nI i) (h1 : i < 2 ^ 31) (hp : p < 31) : f_X1_isInside (mk S m) (some g) (nI p) = some (nI (if i.testBit p then 1 else 0), mk S m) := by
  have hk : (sh S g).1 = 1 := by rw [hg]
  have hb := bitI (n := i) (c := p) h1 (by omega)
  simp only [f_X1_isInside, gI_k hk, Option.bind_some, hi, n_lit, hb]
  cases i.testBit p <;> rfl
theorem X1_isSpent {S : SK} {m : Nat → Nat → Int32} {g i p : Nat} (hg : sh S g = (1, 12)) (hi : m g 10 = nI i) (h1 : i < 2 ^ 31) (hp : p < 31) : f_X1_isSpent (mk S m) (some g) (nI p) = some (nI (if i.testBit p then 1 else 0), mk S m) := by
  have hk : (sh S g).1 = 1 := by rw [hg]
  have hb := bitI (n := i) (c := p) h1 (by omega)
  simp only [f_X1_isSpent, gI_k hk, Option.bind_some, hi, n_lit, hb]
  cases i.testBit p <;> rfl
theorem X1_leftOf {S : SK} {m : Nat → Nat → Int32} {g o s p : Nat} (hG : GS S g) (ho : m (g + 1) p = nI o) (hs : m g 10 = nI s) (h1 : o < 2 ^ 31) (hp : p < 4) : f_X1_leftOf (mk S m) (some g) (nI p) = some (nI (o ^^^ (o &&& s)), mk S m) := by
  obtain ⟨g1, g2, g3, g4, g5, g6, g7⟩ := hG
  have hk : (sh S g).1 = 1 := by rw [g1]
  have q1 : ¬ nI p < 0 := nI_pos (by omega)
  have q2 : nI p < (4 : Int32) := nI_lt (b := 4) (by omega) (by omega)
  have hr := rI_n (S := S) (m := m) g2 hp (by decide)
  have hc := compl_n (o := o) (s := s) h1
  unfold f_X1_leftOf f_X1_leftOf_26
  rw [if_neg q1, if_pos q2, gR_k hk, g6]
  simp only [Option.bind_some]
  rw [hr, gI_k hk]
  simp only [Option.bind_some]
  rw [ho, hs, hc]
theorem X1_lawSays {S : SK} {m : Nat → Nat → Int32} {g l A N s0 p d a : Nat} {v w n q : Int32} {cs : List Nat} (hS : SkOK S) (hG : GS S g) (hl : m g 11 = nI l) (hl6 : l < 6) (hA : rf S 2 l = some A) (hT : TxS S A N) (hgA : g < A) (hg2 : g + 2 < A) (hd : m g 4 = nI d) (h0 : 0 < d) (h1 : d < 2 ^ 31) (ha : a < 2 ^ 31) (hp : p < 3) (he : s0 + cs.length ≤ N) (hw : wfS cs 0 = some 1) (hc : CdC m (A + 1) s0 cs) (hs0 : m (A + 2) p = nI s0) (hen : m (A + 2) (p + 1) = nI (s0 + cs.length)) :
    ∃ m2 : Nat → Nat → Int32, f_X1_lawSays (mk S m) (some g) (nI p) (nI a) v w n q = some (lwS p (vlS (nmS (nI a) (nI (a % d)) v w n q) cs), mk S m2) ∧ Ag (fun b => b = A + 3 ∨ b = g + 2) m m2 := by
  have hG2 := hG
  obtain ⟨g1, g2, g3, g4, g5, g6, g7⟩ := hG2
  have hk : (sh S g).1 = 1 := by rw [g1]
  have q1 : ¬ nI l < 0 := nI_pos (by omega)
  have q2 : nI l < nI 6 := nI_lt (by omega) (by omega)
  let m1 := w2 (w2 (w2 (w2 (w2 (w2 m (g + 2) 0 (nI a)) (g + 2) 1 (nI (a % d))) (g + 2) 2 v) (g + 2) 3 w) (g + 2) 4 n) (g + 2) 5 q
  have hk1 : ∀ b, b ≠ g + 2 → m1 b = m b := fun b hb => by
    funext j
    show w2 (w2 (w2 (w2 (w2 (w2 m (g + 2) 0 (nI a)) (g + 2) 1 (nI (a % d))) (g + 2) 2 v) (g + 2) 3 w) (g + 2) 4 n) (g + 2) 5 q b j = m b j
    simp only [w2_ap, hb, false_and, if_false]
  have hag : Ag (fun b => b = A + 3 ∨ b = g + 2) m m1 := fun b hb => hk1 b (fun e => hb (Or.inr e))
  have hnm : ∀ j, j < 6 → m1 (g + 2) j = nmS (nI a) (nI (a % d)) v w n q j := by
    intro j hj
    show w2 (w2 (w2 (w2 (w2 (w2 m (g + 2) 0 (nI a)) (g + 2) 1 (nI (a % d))) (g + 2) 2 v) (g + 2) 3 w) (g + 2) 4 n) (g + 2) 5 q (g + 2) j = _
    rcases (show j = 0 ∨ j = 1 ∨ j = 2 ∨ j = 3 ∨ j = 4 ∨ j = 5 by omega) with e | e | e | e | e | e <;> subst e <;> simp [w2_ap, nmS]
  obtain ⟨m2, e2, ag2⟩ := X5_says (S := S) (A := A) (N := N) (B := g + 2) (p := p) (s0 := s0) hT g3 (by omega) hp (nm := nmS (nI a) (nI (a % d)) v w n q) (cs := cs) (m := m1) he hw (hc.ag (hk1 (A + 1) (by omega))) (by rw [hk1 (A + 2) (by omega)]; exact hs0) (by rw [hk1 (A + 2) (by omega)]; exact hen) hnm
  refine ⟨m2, ?_, hag.tr (ag2.mono (fun b hb => Or.inl hb))⟩
  have hr := X1_restOf (S := S) (m := w2 m (g + 2) 0 (nI a)) (g := g) (d := d) (a := a) g1 (by rw [w2_ap, if_neg (by omega)]; exact hd) h0 h1 ha
  have hv : (sh S A).1 = 5 := by rw [hT.1]
  have h32 : f_X1_lawSays_32 (mk S m) (some g) (nI p) (nI a) v w n q (some A) = some (lwS p (vlS (nmS (nI a) (nI (a % d)) v w n q) cs), mk S m2) := by
    unfold f_X1_lawSays_32
    rw [if_neg (by simp)]
    simp only [gR_k hk, g7, Option.bind_some, n_lit, sI_n g3 (show 0 < 6 by decide) (by decide), sI_n g3 (show 1 < 6 by decide) (by decide), sI_n g3 (show 2 < 6 by decide) (by decide), sI_n g3 (show 3 < 6 by decide) (by decide), sI_n g3 (show 4 < 6 by decide) (by decide), sI_n g3 (show 5 < 6 by decide) (by decide), vc_k hk, hr, vc_k hv]
    have e2 : f_X5_says (mk S (w2 (w2 (w2 (w2 (w2 (w2 m (g + 2) 0 (nI a)) (g + 2) 1 (nI (a % d))) (g + 2) 2 v) (g + 2) 3 w) (g + 2) 4 n) (g + 2) 5 q)) (some A) (nI p) (some (g + 2)) = _ := e2
    rw [e2]
    simp only [Option.bind_some, bnd_eq, f_X1_lawSays_116]
    unfold lwS vlS
    generalize (evS (nmS (nI a) (nI (a % d)) v w n q) cs []).headD 0 = e
    by_cases hp0 : p = 0
    · subst hp0
      by_cases z : e = nI 0
      · have z2 : e = 0 := z
        simp only [eq_self, if_true, z]
        rfl
      · have z2 : ¬ e = 0 := z
        simp only [eq_self, if_true, z, z2, if_false]
        rfl
    · have z : ¬ nI p = nI 0 := fun z => hp0 ((nI_eq (by omega) (by omega)).1 z)
      simp only [z, hp0, if_false]
      rfl
  unfold f_X1_lawSays
  rw [gI_k hk, hl]
  simp only [Option.bind_some]
  rw [if_neg q1, gR_k hk, g5]
  simp only [Option.bind_some]
  rw [ln_mk, sk2 hS, if_pos (by decide)]
  simp only [Option.bind_some, nI_ofNat]
  rw [if_pos q2, rR_n (sk2 hS) hl6 (by decide), hA]
  exact h32
