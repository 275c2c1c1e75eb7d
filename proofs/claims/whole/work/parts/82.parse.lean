/-! PURE: a text read by a machine with held signs, and what a descent gives of it. Tokens: a sign's byte, words 0 .. 11, 256 a number, 257 the end, 258 wrong -/
abbrev TK : Type := Nat → Nat × Nat × Nat
def rkS (x : Nat) : Nat := if x = 0 then 0 else if x = 11 then 1 else if x = 12 then 2 else if x = 13 then 3 else if x ≤ 15 then 4 else if x ≤ 17 then 5 else if x = 18 then 6 else 7
def sgS (t : Nat) : Nat := if t = 9 then 11 else if t = 10 then 12 else if t = 60 then 14 else if t = 61 then 15 else if t = 43 then 16 else if t = 45 then 17 else if t = 42 then 18 else 0
def unS (r : Nat) : List Nat → Nat → List Nat → List Nat × Nat × List Nat
  | [], o, w => ([], o, w)
  | x :: H, o, w => if r ≤ rkS x then unS r H (o - if x = 13 ∨ x = 19 then 1 else 0) (w ++ [x]) else (x :: H, o, w)
def trS : List Nat → Nat
  | [] => 0
  | x :: _ => rkS x
def lqS (x : Nat) : Nat := if rkS x = 4 then 5 else rkS x
def mcS (K : TK) : Nat → Nat → List Nat → Nat → List Nat → Bool → Bool → Option (Option (List Nat) × Nat)
  | 0, _, _, _, _, _, _ => none
  | f + 1, p, H, o, w, true, mn =>
    if (K p).1 = 256 ∨ (K p).1 < 6 then
      mcS K f (K p).2.2 (unS 7 H o (w ++ [if (K p).1 = 256 then 100000 + (K p).2.1 else (K p).1])).1 (unS 7 H o (w ++ [if (K p).1 = 256 then 100000 + (K p).2.1 else (K p).1])).2.1 (unS 7 H o (w ++ [if (K p).1 = 256 then 100000 + (K p).2.1 else (K p).1])).2.2 false mn
    else if (K p).1 = 11 ∧ mn = true then (if o = 5 then some (none, p) else mcS K f (K p).2.2 (13 :: H) (o + 1) w true mn)
    else if (K p).1 = 45 then (if o = 5 then some (none, p) else mcS K f (K p).2.2 (19 :: H) (o + 1) w true false)
    else if (K p).1 = 40 then (if o = 5 then some (none, p) else mcS K f (K p).2.2 (0 :: H) (o + 1) w true true)
    else some (none, p)
  | f + 1, p, H, o, w, false, mn =>
    if (K p).1 = 59 then (if (unS 1 H o w).1 = [] then some (some (unS 1 H o w).2.2, (K p).2.2) else some (none, p))
    else if (K p).1 = 41 then (match (unS 1 H o w).1 with
      | [] => some (none, p)
      | _ :: H2 => mcS K f (K p).2.2 (unS 7 H2 ((unS 1 H o w).2.1 - 1) (unS 1 H o w).2.2).1 (unS 7 H2 ((unS 1 H o w).2.1 - 1) (unS 1 H o w).2.2).2.1 (unS 7 H2 ((unS 1 H o w).2.1 - 1) (unS 1 H o w).2.2).2.2 false mn)
    else if sgS (K p).1 = 0 then some (none, p)
    else if rkS (sgS (K p).1) = 4 ∧ trS (unS (lqS (sgS (K p).1)) H o w).1 = 4 then some (none, p)
    else mcS K f (K p).2.2 (sgS (K p).1 :: (unS (lqS (sgS (K p).1)) H o w).1) (unS (lqS (sgS (K p).1)) H o w).2.1 (unS (lqS (sgS (K p).1)) H o w).2.2 true (decide (sgS (K p).1 ≤ 12))
theorem unS_no {r : Nat} {H : List Nat} {o : Nat} {w : List Nat} (h : trS H < r) : unS r H o w = (H, o, w) := by
  cases H with
  | nil => rfl
  | cons x H =>
    unfold unS
    have h2 : rkS x < r := h
    rw [if_neg (by omega)]
theorem unS_un {q r : Nat} (hq : q ≤ r) : ∀ (H : List Nat) (o : Nat) (w : List Nat), unS q (unS r H o w).1 (unS r H o w).2.1 (unS r H o w).2.2 = unS q H o w := by
  intro H
  induction H with
  | nil => intro o w; rfl
  | cons x H ih =>
    intro o w
    by_cases c : r ≤ rkS x
    · have e : unS r (x :: H) o w = unS r H (o - if x = 13 ∨ x = 19 then 1 else 0) (w ++ [x]) := by
        show (if r ≤ rkS x then _ else _) = _
        rw [if_pos c]
      have e2 : unS q (x :: H) o w = unS q H (o - if x = 13 ∨ x = 19 then 1 else 0) (w ++ [x]) := by
        show (if q ≤ rkS x then _ else _) = _
        rw [if_pos (by omega)]
      rw [e, e2, ih]
    · have e : unS r (x :: H) o w = (x :: H, o, w) := by
        show (if r ≤ rkS x then _ else _) = _
        rw [if_neg c]
      rw [e]
theorem sg_im (t : Nat) : sgS t = 0 ∨ sgS t = 11 ∨ sgS t = 12 ∨ sgS t = 14 ∨ sgS t = 15 ∨ sgS t = 16 ∨ sgS t = 17 ∨ sgS t = 18 := by
  unfold sgS
  repeat' split
  all_goals decide
/-- two states that a sign that binds so brings to one -/
def LQ (r : Nat) (H : List Nat) (o : Nat) (w : List Nat) (H2 : List Nat) (o2 : Nat) (w2 : List Nat) : Prop := unS r H o w = unS r H2 o2 w2
theorem LQ.mono {q r : Nat} {H : List Nat} {o : Nat} {w : List Nat} {H2 : List Nat} {o2 : Nat} {w2 : List Nat} (h : LQ r H o w H2 o2 w2) (hq : q ≤ r) : LQ q H o w H2 o2 w2 := by
  unfold LQ at h ⊢
  rw [← unS_un hq H o w, h, unS_un hq]
/-- what a phrase must be for the machine: from p with opens o it comes to p2 and has put cs -/
def mnK (K : TK) (z : Bool) (p : Nat) (mn : Bool) : Prop := if z = true then mn = true else (mn = false ∨ (K p).1 ≠ 11)
def RLS (K : TK) (r c : Nat) (z : Bool) (p p2 o : Nat) (cs : List Nat) : Prop := ∀ H w mn, trS H < c → mnK K z p mn → ∃ k H2 o2 w2 mn2, k ≤ p2 - p ∧ (∀ f, mcS K (f + k) p H o w true mn = mcS K f p2 H2 o2 w2 false mn2) ∧ LQ r H2 o2 w2 H o (w ++ cs)
def FLS (K : TK) (c : Nat) (z : Bool) (p p2 o : Nat) : Prop := ∀ H w mn, trS H < c → mnK K z p mn → ∃ k, k ≤ p2 - p ∧ ∀ f, mcS K (f + k + 1) p H o w true mn = some (none, p2)
theorem RLS.mono {K : TK} {r c r2 c2 : Nat} {z z2 : Bool} {p p2 o : Nat} {cs : List Nat} (h : RLS K r c z p p2 o cs) (hr : r2 ≤ r) (hc : c2 ≤ c) (hz : z2 = z ∨ (K p).1 ≠ 11 ∧ z = false) : RLS K r2 c2 z2 p p2 o cs := by
  intro H w mn h1 h2
  have h3 : mnK K z p mn := by
    rcases hz with e | ⟨e, e2⟩
    · rw [← e]; exact h2
    · unfold mnK
      rw [e2, if_neg (by decide)]
      exact Or.inr e
  obtain ⟨k, H2, o2, w2, mn2, a1, a2, a3⟩ := h H w mn (by omega) h3
  exact ⟨k, H2, o2, w2, mn2, a1, a2, a3.mono hr⟩
theorem FLS.mono {K : TK} {c c2 : Nat} {z z2 : Bool} {p p2 o : Nat} (h : FLS K c z p p2 o) (hc : c2 ≤ c) (hz : z2 = z ∨ (K p).1 ≠ 11 ∧ z = false) : FLS K c2 z2 p p2 o := by
  intro H w mn h1 h2
  have h3 : mnK K z p mn := by
    rcases hz with e | ⟨e, e2⟩
    · rw [← e]; exact h2
    · unfold mnK
      rw [e2, if_neg (by decide)]
      exact Or.inr e
  exact h H w mn (by omega) h3
theorem mcS_infix {K : TK} {f p : Nat} {H : List Nat} {o : Nat} {w : List Nat} {mn : Bool} (h : sgS (K p).1 ≠ 0) : mcS K (f + 1) p H o w false mn = if rkS (sgS (K p).1) = 4 ∧ trS (unS (lqS (sgS (K p).1)) H o w).1 = 4 then some (none, p) else mcS K f (K p).2.2 (sgS (K p).1 :: (unS (lqS (sgS (K p).1)) H o w).1) (unS (lqS (sgS (K p).1)) H o w).2.1 (unS (lqS (sgS (K p).1)) H o w).2.2 true (decide (sgS (K p).1 ≤ 12)) := by
  have h1 : (K p).1 ≠ 59 := fun e => h (by rw [e]; decide)
  have h2 : (K p).1 ≠ 41 := fun e => h (by rw [e]; decide)
  show (if (K p).1 = 59 then _ else _) = _
  rw [if_neg h1, if_neg h2, if_neg h]
/-- a sign between two phrases: the second begins -/
theorem mc_sign {K : TK} {r1 c p p1 o : Nat} {z : Bool} {cs : List Nat} {x : Nat} (h : RLS K r1 c z p p1 o cs) (hx : sgS (K p1).1 = x) (hx0 : x ≠ 0) (hq : lqS x ≤ r1) (hc : c ≤ rkS x) (hp : p ≤ p1) (hn : p1 < (K p1).2.2) : ∀ H w mn, trS H < c → mnK K z p mn → ∃ k, k + 1 ≤ (K p1).2.2 - p ∧ ∀ f, mcS K (f + (k + 1)) p H o w true mn = mcS K f (K p1).2.2 (x :: H) o (w ++ cs) true (decide (x ≤ 12)) := by
  intro H w mn h1 h2
  obtain ⟨k, H2, o2, w2, mn2, a1, a2, a3⟩ := h H w mn h1 h2
  have a4 := a3.mono hq
  unfold LQ at a4
  have hlq : rkS x ≤ lqS x := by unfold lqS; split <;> omega
  rw [unS_no (H := H) (by omega)] at a4
  refine ⟨k, by omega, fun f => ?_⟩
  have e : f + (k + 1) = (f + 1) + k := by omega
  rw [e, a2, mcS_infix (by rw [hx]; exact hx0), hx, a4, if_neg (fun y => ?_)]
  have y2 : trS H = 4 := y.2
  omega
theorem RLS.sign {K : TK} {r r1 r2 c c2 p p1 p2 o : Nat} {z z2 : Bool} {cs cs2 : List Nat} {x : Nat} (h : RLS K r1 c z p p1 o cs) (h2 : RLS K r2 c2 z2 (K p1).2.2 p2 o cs2) (hx : sgS (K p1).1 = x) (hx0 : x ≠ 0) (hr : rkS x = r) (hq : lqS x ≤ r1) (hc : c ≤ r) (hr2 : r ≤ r2) (hc2 : r < c2) (hz : z2 = true ↔ x ≤ 12) (hp : p ≤ p1) (hn : p1 < (K p1).2.2) (hp2 : (K p1).2.2 ≤ p2) : RLS K r c z p p2 o (cs ++ cs2 ++ [x]) := by
  intro H w mn g1 g2
  obtain ⟨k, a1, a2⟩ := mc_sign h hx hx0 hq (by omega) hp hn H w mn g1 g2
  have hmn : mnK K z2 (K p1).2.2 (decide (x ≤ 12)) := by
    unfold mnK
    by_cases e : z2 = true
    · rw [if_pos e]
      exact decide_eq_true (hz.1 e)
    · rw [if_neg e]
      exact Or.inl (decide_eq_false (fun y => e (hz.2 y)))
  obtain ⟨k2, H2, o2, w2, mn2, b1, b2, b3⟩ := h2 (x :: H) (w ++ cs) (decide (x ≤ 12)) (show rkS x < c2 by omega) hmn
  refine ⟨k + 1 + k2, H2, o2, w2, mn2, by omega, fun f => ?_, ?_⟩
  · have e : f + (k + 1 + k2) = (f + k2) + (k + 1) := by omega
    rw [e, a2, b2]
  · have b4 := b3.mono hr2
    unfold LQ at b4 ⊢
    rw [b4]
    have hx13 : ¬ (x = 13 ∨ x = 19) := by
      rintro (rfl | rfl)
      · unfold sgS at hx; repeat' split at hx
        all_goals omega
      · unfold sgS at hx; repeat' split at hx
        all_goals omega
    show (if r ≤ rkS x then unS r H (o - if x = 13 ∨ x = 19 then 1 else 0) (w ++ cs ++ cs2 ++ [x]) else _) = _
    rw [if_pos (by omega), if_neg hx13, Nat.sub_zero]
    simp only [List.append_assoc]
theorem FLS.sign {K : TK} {r1 c c2 p p1 p2 o : Nat} {z z2 : Bool} {cs : List Nat} {x : Nat} (h : RLS K r1 c z p p1 o cs) (h2 : FLS K c2 z2 (K p1).2.2 p2 o) (hx : sgS (K p1).1 = x) (hx0 : x ≠ 0) (hq : lqS x ≤ r1) (hc : c ≤ rkS x) (hc2 : rkS x < c2) (hz : z2 = true ↔ x ≤ 12) (hp : p ≤ p1) (hn : p1 < (K p1).2.2) (hp2 : (K p1).2.2 ≤ p2) : FLS K c z p p2 o := by
  intro H w mn g1 g2
  obtain ⟨k, a1, a2⟩ := mc_sign h hx hx0 hq hc hp hn H w mn g1 g2
  have hmn : mnK K z2 (K p1).2.2 (decide (x ≤ 12)) := by
    unfold mnK
    by_cases e : z2 = true
    · rw [if_pos e]
      exact decide_eq_true (hz.1 e)
    · rw [if_neg e]
      exact Or.inl (decide_eq_false (fun y => e (hz.2 y)))
  obtain ⟨k2, b1, b2⟩ := h2 (x :: H) (w ++ cs) (decide (x ≤ 12)) (show rkS x < c2 by omega) hmn
  refine ⟨k + 1 + k2, by omega, fun f => ?_⟩
  have e : f + (k + 1 + k2) + 1 = (f + k2 + 1) + (k + 1) := by omega
  rw [e, a2, b2]
/-- a second sign that compares can't stand -/
theorem FLS.twice {K : TK} {p p1 p2 o c : Nat} {z z2 : Bool} {cs cs2 : List Nat} {x : Nat} (h : RLS K 5 c z p p1 o cs) (h2 : RLS K 5 5 z2 (K p1).2.2 p2 o cs2) (hx : sgS (K p1).1 = x) (hr : rkS x = 4) (hc : c ≤ 4) (hz2 : z2 = false) (hp : p ≤ p1) (hn : p1 < (K p1).2.2) (hp2 : (K p1).2.2 ≤ p2) (h4 : rkS (sgS (K p2).1) = 4) : FLS K c z p p2 o := by
  have hx0 : x ≠ 0 := by
    rintro rfl
    revert hr
    decide
  have hlq : lqS x = 5 := by unfold lqS; rw [if_pos hr]
  have hx12 : ¬ x ≤ 12 := by
    intro y
    rcases sg_im (K p1).1 with e | e | e | e | e | e | e | e
    all_goals (rw [hx] at e; subst e; revert y hr; decide)
  intro H w mn g1 g2
  obtain ⟨k, a1, a2⟩ := mc_sign h hx hx0 (by omega) (by omega) hp hn H w mn g1 g2
  have hmn : mnK K z2 (K p1).2.2 (decide (x ≤ 12)) := by
    unfold mnK
    rw [hz2, if_neg (by decide)]
    exact Or.inl (decide_eq_false hx12)
  obtain ⟨k2, H2, o2, w2, mn2, b1, b2, b3⟩ := h2 (x :: H) (w ++ cs) (decide (x ≤ 12)) (show rkS x < 5 by omega) hmn
  refine ⟨k + 1 + k2, by omega, fun f => ?_⟩
  have e : f + (k + 1 + k2) + 1 = (f + 1 + k2) + (k + 1) := by omega
  have s0 : sgS (K p2).1 ≠ 0 := by
    intro y
    rw [y] at h4
    revert h4
    decide
  unfold LQ at b3
  rw [unS_no (r := 5) (H := x :: H) (show rkS x < 5 by omega)] at b3
  have l5 : lqS (sgS (K p2).1) = 5 := by unfold lqS; rw [if_pos h4]
  rw [e, a2, b2, mcS_infix s0, l5, b3, if_pos ⟨h4, hr⟩]
theorem RLS.one {K : TK} {p o : Nat} (h : (K p).1 = 256 ∨ (K p).1 < 6) (hn : p < (K p).2.2) : RLS K 7 8 false p (K p).2.2 o [if (K p).1 = 256 then 100000 + (K p).2.1 else (K p).1] := by
  intro H w mn g1 g2
  refine ⟨1, _, _, _, mn, by omega, fun f => ?_, unS_un (Nat.le_refl _) _ _ _⟩
  show (if (K p).1 = 256 ∨ (K p).1 < 6 then _ else _) = _
  rw [if_pos h]
theorem mc_neg {K : TK} {f p o : Nat} {H w : List Nat} {mn : Bool} (h : (K p).1 = 45) : mcS K (f + 1) p H o w true mn = if o = 5 then some (none, p) else mcS K f (K p).2.2 (19 :: H) (o + 1) w true false := by
  show (if (K p).1 = 256 ∨ (K p).1 < 6 then _ else _) = _
  rw [if_neg (by omega), if_neg (by omega), if_pos h]
theorem mc_par {K : TK} {f p o : Nat} {H w : List Nat} {mn : Bool} (h : (K p).1 = 40) : mcS K (f + 1) p H o w true mn = if o = 5 then some (none, p) else mcS K f (K p).2.2 (0 :: H) (o + 1) w true true := by
  show (if (K p).1 = 256 ∨ (K p).1 < 6 then _ else _) = _
  rw [if_neg (by omega), if_neg (by omega), if_neg (by omega), if_pos h]
theorem mc_not {K : TK} {f p o : Nat} {H w : List Nat} (h : (K p).1 = 11) : mcS K (f + 1) p H o w true true = if o = 5 then some (none, p) else mcS K f (K p).2.2 (13 :: H) (o + 1) w true true := by
  show (if (K p).1 = 256 ∨ (K p).1 < 6 then _ else _) = _
  rw [if_neg (by omega), if_pos ⟨h, rfl⟩]
theorem tr8 (H : List Nat) : trS H < 8 := by
  cases H with
  | nil => decide
  | cons x H =>
    show rkS x < 8
    unfold rkS
    repeat' split
    all_goals omega
theorem FLS.no {K : TK} {p o c : Nat} (h1 : ¬ ((K p).1 = 256 ∨ (K p).1 < 6)) (h2 : (K p).1 ≠ 45 ∨ o = 5) (h3 : (K p).1 ≠ 40 ∨ o = 5) : FLS K c false p p o := by
  intro H w mn g1 g2
  refine ⟨0, by omega, fun f => ?_⟩
  show (if (K p).1 = 256 ∨ (K p).1 < 6 then _ else _) = _
  unfold mnK at g2
  rw [if_neg (by decide)] at g2
  rw [if_neg h1, if_neg (fun y => by
    rcases g2 with e | e
    · rw [e] at y; exact absurd y.2 (by decide)
    · exact e y.1)]
  by_cases c1 : (K p).1 = 45
  · rw [if_pos c1, if_pos (by omega)]
  · rw [if_neg c1]
    by_cases c2 : (K p).1 = 40
    · rw [if_pos c2, if_pos (by omega)]
    · rw [if_neg c2]
theorem FLS.noNot {K : TK} {p o c : Nat} (h1 : (K p).1 = 11) (h2 : o = 5) : FLS K c true p p o := by
  intro H w mn g1 g2
  refine ⟨0, by omega, fun f => ?_⟩
  have g3 : mn = true := g2
  rw [g3]
  show mcS K (f + 0 + 1) p H o w true true = _
  rw [mc_not h1, if_pos h2]
theorem RLS.neg {K : TK} {p p2 o : Nat} {cs : List Nat} (h1 : (K p).1 = 45) (ho : o ≠ 5) (hn : p < (K p).2.2) (hp2 : (K p).2.2 ≤ p2) (h : RLS K 7 8 false (K p).2.2 p2 (o + 1) cs) : RLS K 7 8 false p p2 o (cs ++ [19]) := by
  intro H w mn g1 g2
  obtain ⟨k, H2, o2, w2, mn2, a1, a2, a3⟩ := h (19 :: H) w false (tr8 _) (by unfold mnK; rw [if_neg (by decide)]; exact Or.inl rfl)
  refine ⟨k + 1, H2, o2, w2, mn2, by omega, fun f => ?_, ?_⟩
  · have e : f + (k + 1) = (f + k) + 1 := by omega
    rw [e, mc_neg h1, if_neg ho, a2]
  · unfold LQ at a3 ⊢
    rw [a3]
    show (if 7 ≤ rkS 19 then unS 7 H (o + 1 - 1) (w ++ cs ++ [19]) else _) = _
    rw [if_pos (by decide), Nat.add_sub_cancel, List.append_assoc]
theorem FLS.neg {K : TK} {p p2 o : Nat} (h1 : (K p).1 = 45) (ho : o ≠ 5) (hn : p < (K p).2.2) (hp2 : (K p).2.2 ≤ p2) (h : FLS K 8 false (K p).2.2 p2 (o + 1)) : FLS K 8 false p p2 o := by
  intro H w mn g1 g2
  obtain ⟨k, a1, a2⟩ := h (19 :: H) w false (tr8 _) (by unfold mnK; rw [if_neg (by decide)]; exact Or.inl rfl)
  refine ⟨k + 1, by omega, fun f => ?_⟩
  have e : f + (k + 1) + 1 = (f + k + 1) + 1 := by omega
  rw [e, mc_neg h1, if_neg ho, a2]
theorem RLS.not {K : TK} {p p2 o : Nat} {cs : List Nat} (h1 : (K p).1 = 11) (ho : o ≠ 5) (hn : p < (K p).2.2) (hp2 : (K p).2.2 ≤ p2) (h : RLS K 3 4 true (K p).2.2 p2 (o + 1) cs) : RLS K 3 4 true p p2 o (cs ++ [13]) := by
  intro H w mn g1 g2
  have g3 : mn = true := g2
  obtain ⟨k, H2, o2, w2, mn2, a1, a2, a3⟩ := h (13 :: H) w true (show rkS 13 < 4 by decide) rfl
  refine ⟨k + 1, H2, o2, w2, mn2, by omega, fun f => ?_, ?_⟩
  · have e : f + (k + 1) = (f + k) + 1 := by omega
    rw [e, g3, mc_not h1, if_neg ho, a2]
  · unfold LQ at a3 ⊢
    rw [a3]
    show (if 3 ≤ rkS 13 then unS 3 H (o + 1 - 1) (w ++ cs ++ [13]) else _) = _
    rw [if_pos (by decide), Nat.add_sub_cancel, List.append_assoc]
theorem FLS.not {K : TK} {p p2 o : Nat} (h1 : (K p).1 = 11) (ho : o ≠ 5) (hn : p < (K p).2.2) (hp2 : (K p).2.2 ≤ p2) (h : FLS K 4 true (K p).2.2 p2 (o + 1)) : FLS K 4 true p p2 o := by
  intro H w mn g1 g2
  have g3 : mn = true := g2
  obtain ⟨k, a1, a2⟩ := h (13 :: H) w true (show rkS 13 < 4 by decide) rfl
  refine ⟨k + 1, by omega, fun f => ?_⟩
  have e : f + (k + 1) + 1 = (f + k + 1) + 1 := by omega
  rw [e, g3, mc_not h1, if_neg ho, a2]
theorem RLS.par {K : TK} {p p1 o : Nat} {cs : List Nat} (h1 : (K p).1 = 40) (ho : o ≠ 5) (hn : p < (K p).2.2) (hp1 : (K p).2.2 ≤ p1) (h : RLS K 1 1 true (K p).2.2 p1 (o + 1) cs) (h2 : (K p1).1 = 41) (hn1 : p1 < (K p1).2.2) : RLS K 7 8 false p (K p1).2.2 o cs := by
  intro H w mn g1 g2
  obtain ⟨k, H2, o2, w2, mn2, a1, a2, a3⟩ := h (0 :: H) w true (show rkS 0 < 1 by decide) rfl
  unfold LQ at a3
  rw [unS_no (H := 0 :: H) (show rkS 0 < 1 by decide)] at a3
  refine ⟨k + 2, (unS 7 H (o + 1 - 1) (w ++ cs)).1, (unS 7 H (o + 1 - 1) (w ++ cs)).2.1, (unS 7 H (o + 1 - 1) (w ++ cs)).2.2, mn2, by omega, fun f => ?_, ?_⟩
  · have e : f + (k + 2) = (f + 1 + k) + 1 := by omega
    rw [e, mc_par h1, if_neg ho, a2]
    show (if (K p1).1 = 59 then _ else _) = _
    rw [if_neg (by omega), if_pos h2, a3]
  · show unS 7 (unS 7 H (o + 1 - 1) (w ++ cs)).1 (unS 7 H (o + 1 - 1) (w ++ cs)).2.1 (unS 7 H (o + 1 - 1) (w ++ cs)).2.2 = _
    rw [Nat.add_sub_cancel]
    exact unS_un (Nat.le_refl _) _ _ _
theorem FLS.par {K : TK} {p p2 o : Nat} (h1 : (K p).1 = 40) (ho : o ≠ 5) (hn : p < (K p).2.2) (hp2 : (K p).2.2 ≤ p2) (h : FLS K 1 true (K p).2.2 p2 (o + 1)) : FLS K 8 false p p2 o := by
  intro H w mn g1 g2
  obtain ⟨k, a1, a2⟩ := h (0 :: H) w true (show rkS 0 < 1 by decide) rfl
  refine ⟨k + 1, by omega, fun f => ?_⟩
  have e : f + (k + 1) + 1 = (f + k + 1) + 1 := by omega
  rw [e, mc_par h1, if_neg ho, a2]
theorem sg1 {x : Nat} (h : rkS (sgS x) < 1) : sgS x = 0 := by
  revert h
  unfold sgS
  repeat' split
  all_goals first | (intro h; rfl) | (intro h; exact absurd h (by decide))
/-- a phrase in ( ) that no ) ends -/
theorem FLS.unc {K : TK} {p p1 o : Nat} {cs : List Nat} (h1 : (K p).1 = 40) (ho : o ≠ 5) (hn : p < (K p).2.2) (hp1 : (K p).2.2 ≤ p1) (h : RLS K 1 1 true (K p).2.2 p1 (o + 1) cs) (h2 : (K p1).1 ≠ 41) (h3 : rkS (sgS (K p1).1) < 1) : FLS K 8 false p p1 o := by
  intro H w mn g1 g2
  obtain ⟨k, H2, o2, w2, mn2, a1, a2, a3⟩ := h (0 :: H) w true (show rkS 0 < 1 by decide) rfl
  unfold LQ at a3
  rw [unS_no (H := 0 :: H) (show rkS 0 < 1 by decide)] at a3
  refine ⟨k + 1, by omega, fun f => ?_⟩
  have e : f + (k + 1) + 1 = (f + 1 + k) + 1 := by omega
  rw [e, mc_par h1, if_neg ho, a2]
  show (if (K p1).1 = 59 then _ else _) = _
  rw [a3]
  by_cases c : (K p1).1 = 59
  · rw [if_pos c, if_neg (by intro y; cases y)]
  · rw [if_neg c, if_neg h2, if_pos (sg1 h3)]
/-- a part's end -/
theorem mc_end {K : TK} {p p1 : Nat} {cs w : List Nat} (h : RLS K 1 1 true p p1 0 cs) (h3 : rkS (sgS (K p1).1) < 1) : ∃ k, k ≤ p1 - p ∧ ∀ f, mcS K (f + k + 1) p [] 0 w true true = if (K p1).1 = 59 then some (some (w ++ cs), (K p1).2.2) else some (none, p1) := by
  obtain ⟨k, H2, o2, w2, mn2, a1, a2, a3⟩ := h [] w true (show 0 < 1 by decide) rfl
  unfold LQ at a3
  rw [unS_no (H := []) (show 0 < 1 by decide)] at a3
  refine ⟨k, a1, fun f => ?_⟩
  have e : f + k + 1 = (f + 1) + k := by omega
  rw [e, a2]
  show (if (K p1).1 = 59 then _ else _) = _
  rw [a3]
  by_cases c : (K p1).1 = 59
  · rw [if_pos c, if_pos c, if_pos rfl]
  · rw [if_neg c, if_neg c]
    by_cases c2 : (K p1).1 = 41
    · rw [if_pos c2]
    · rw [if_neg c2, if_pos (sg1 h3)]
