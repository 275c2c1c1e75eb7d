/-! PURE: the reference reads a part -/
def bI (b : Bool) : Int32 := if b = true then 1 else 0
theorem unS_co {r : Nat} (hr : 1 ≤ r) : ∀ (H : List Nat) (o : Nat) (w : List Nat), o = coS H → (unS r H o w).2.1 = coS (unS r H o w).1 := by
  intro H
  induction H with
  | nil => intro o w h; exact h
  | cons x H ih =>
    intro o w h
    by_cases c : r ≤ rkS x
    · have e1 : unS r (x :: H) o w = unS r H (o - if x = 13 ∨ x = 19 then 1 else 0) (w ++ [x]) := by
        show (if r ≤ rkS x then _ else _) = _
        rw [if_pos c]
      have hx0 : x ≠ 0 := fun y => by
        rw [y] at c
        have : rkS 0 = 0 := rfl
        omega
      have hoc : coS (x :: H) = (if x = 0 ∨ x = 13 ∨ x = 19 then 1 else 0) + coS H := rfl
      rw [e1]
      apply ih
      rw [h, hoc]
      by_cases c2 : x = 13 ∨ x = 19
      · rw [if_pos c2, if_pos (by omega)]
        omega
      · rw [if_neg c2, if_neg (by omega)]
        omega
    · have e1 : unS r (x :: H) o w = (x :: H, o, w) := by
        show (if r ≤ rkS x then _ else _) = _
        rw [if_neg c]
      rw [e1]
      exact h
theorem unS_tr {r : Nat} : ∀ (H : List Nat) (o : Nat) (w : List Nat), (unS r H o w).1 = [] ∨ trS (unS r H o w).1 < r := by
  intro H
  induction H with
  | nil => intro o w; exact Or.inl rfl
  | cons x H ih =>
    intro o w
    by_cases c : r ≤ rkS x
    · have e1 : unS r (x :: H) o w = unS r H (o - if x = 13 ∨ x = 19 then 1 else 0) (w ++ [x]) := by
        show (if r ≤ rkS x then _ else _) = _
        rw [if_pos c]
      rw [e1]
      exact ih _ _
    · have e1 : unS r (x :: H) o w = (x :: H, o, w) := by
        show (if r ≤ rkS x then _ else _) = _
        rw [if_neg c]
      rw [e1]
      exact Or.inr (Nat.lt_of_not_le c)
theorem rk_0 {x : Nat} (h : rkS x < 1) : x = 0 := by
  unfold rkS at h
  by_cases c : x = 0
  · exact c
  · rw [if_neg c] at h
    repeat' split at h
    all_goals omega
theorem M_opens {S : SK} {T n : Nat} {tp : Nat → Nat} {H : List Nat} {o : Nat} {w : List Nat} {m : Nat → Nat → Int32} {x : Nat} (hS : SkOK S) (h : VM T n tp H o w m) (hx : x = 0 ∨ x = 13 ∨ x = 19) : (o = 5 ∧ f_X9_opensOne (mk S m) (some 50) (nI x) = some (0, mk S m)) ∨ (o ≠ 5 ∧ (w.length + 1 + H.length ≤ 160 → ∃ m2, VM T n tp (x :: H) (o + 1) w m2 ∧ MFr T m m2 ∧ m2 50 24 = m 50 24 ∧ m2 50 25 = m 50 25 ∧ f_X9_opensOne (mk S m) (some 50) (nI x) = some (1, mk S m2))) := by
  have hk : (sh S 50).1 = 9 := by rw [sk50 hS]
  have h31 : m 50 31 = nI o := h.2.2.2.1
  have hco : o = coS H := h.2.2.2.2.2.2.2.2.1
  have hcl : ∀ L : List Nat, coS L ≤ L.length := fun L => by
    induction L with
    | nil => exact Nat.le_refl _
    | cons y L ih =>
      show (if y = 0 ∨ y = 13 ∨ y = 19 then 1 else 0) + coS L ≤ L.length + 1
      split <;> omega
  have ho : o ≤ 160 := by
    have := hcl H
    have := h.2.2.2.2.2.2.2.2.2
    omega
  unfold f_X9_opensOne
  rw [gI_k hk, Option.bind_some, Option.bind_some, h31]
  by_cases c : o = 5
  · refine Or.inl ⟨c, ?_⟩
    rw [if_pos (by rw [c]; rfl), rz0]
  · refine Or.inr ⟨c, fun hw => ?_⟩
    have hV1 : VM T n tp H o w m := h
    have e : coS (x :: H) = o + 1 := by
      show (if x = 0 ∨ x = 13 ∨ x = 19 then 1 else 0) + coS H = o + 1
      rw [if_pos hx]
      omega
    have hx19 : x ≤ 19 := by omega
    have hfr : MFr T m (w2 m 50 31 (nI (o + 1))) := fun b j b1 b2 b3 => by
      rw [w2_ap, if_neg (by omega)]
    obtain ⟨⟨t1, t2, t3, t4⟩, a2, a3, a4, a5, a6, a7, a8, a9, a10⟩ := h
    refine ⟨w2 (w2 (w2 m 50 31 (nI (o + 1))) 65 H.length (nI x)) 50 30 (nI (H.length + 1)), ⟨⟨?_, t2, fun k hk => ?_, fun k hk => ?_⟩, ?_, ⟨?_, hx19, a3.ag (fun j hj => ?_)⟩, ?_, ?_, ?_, ?_, a8, e.symm, ?_⟩, fun b j b1 b2 b3 => ?_, ?_, ?_, ?_⟩
    · rw [w2_ap, if_neg (by omega), w2_ap, if_neg (by omega), w2_ap, if_neg (by omega)]; exact t1
    · rw [w2_ap, if_neg (by omega), w2_ap, if_neg (by omega), w2_ap, if_neg (by omega)]; exact t3 k hk
    · rw [w2_ap, if_neg (by omega), w2_ap, if_neg (by omega), w2_ap, if_neg (by omega)]; exact t4 k hk
    · rw [w2_ap, if_pos ⟨rfl, rfl⟩]; rfl
    · rw [w2_ap, if_neg (by omega), w2_ap, if_pos ⟨rfl, rfl⟩]
    · rw [w2_ap, if_neg (by omega), w2_ap, if_neg (by omega), w2_ap, if_neg (by omega)]
    · rw [w2_ap, if_neg (by omega), w2_ap, if_neg (by omega), w2_ap, if_pos ⟨rfl, rfl⟩]
    · rw [w2_ap, if_neg (by omega), w2_ap, if_neg (by omega), w2_ap, if_neg (by omega)]; exact a5
    · exact a6.ag (funext fun j => by rw [w2_ap, if_neg (by omega), w2_ap, if_neg (by omega), w2_ap, if_neg (by omega)])
    · rw [w2_ap, if_neg (by omega), w2_ap, if_neg (by omega), w2_ap, if_neg (by omega)]; exact a7
    · show w.length + (H.length + 1) ≤ 160
      omega
    · rw [w2_ap, if_neg (by omega), w2_ap, if_neg (by omega), w2_ap, if_neg (by omega)]
    · rw [w2_ap, if_neg (by omega), w2_ap, if_neg (by omega), w2_ap, if_neg (by omega)]
    · rw [w2_ap, if_neg (by omega), w2_ap, if_neg (by omega), w2_ap, if_neg (by omega)]
    · rw [if_neg (show ¬ nI o = (5 : Int32) from fun y => c ((nI_eq (b := 5) (by omega) (by decide)).1 y)), pI_k hk, Option.bind_some, show nI o + (1 : Int32) = nI (o + 1) from nI_add o 1, vc_k hk]
      unfold f_X9_holds
      rw [gR_k hk, Option.bind_some, rk50_29 hS, gI_k hk, Option.bind_some, w2_ap, if_neg (by omega), a2, sI_n (sk65 hS) (show H.length < 200 by omega) (by decide), Option.bind_some, gI_k hk, Option.bind_some, w2_ap, if_neg (by omega), w2_ap, if_neg (by omega), a2, pI_k hk, Option.bind_some, show nI H.length + (1 : Int32) = nI (H.length + 1) from nI_add _ 1, Option.bind_some, rz1]
theorem M_sgn {S : SK} {m : Nat → Nat → Int32} {t : Nat} (hS : SkOK S) (h : m 50 26 = rtI t) (ht : t ≤ 258) : f_X9_signOf (mk S m) (some 50) = some (if sgS t = 0 then -1 else nI (sgS t), mk S m) := by
  have hk : (sh S 50).1 = 9 := by rw [sk50 hS]
  have e : ∀ c : Nat, c ≤ 255 → (rtI t = nI c ↔ rtN t = c) := fun c hc => rt_eq ht hc
  have q : ∀ c : Nat, 12 ≤ c → c ≤ 255 → (rtN t = c ↔ t = c) := fun c h1 h2 => by
    unfold rtN
    repeat' split
    all_goals omega
  have q4 : rtN t = 4 ↔ t = 9 := by
    unfold rtN
    repeat' split
    all_goals omega
  have q5 : rtN t = 5 ↔ t = 10 := by
    unfold rtN
    repeat' split
    all_goals omega
  unfold f_X9_signOf f_X9_signOf_97 sgS
  simp only [gI_k hk]
  rw [h, Option.bind_some]
  by_cases c1 : t = 9
  · rw [if_pos (show rtI t = (4 : Int32) from (e 4 (by decide)).2 (q4.2 c1)), if_pos c1]; rfl
  rw [if_neg (show ¬ rtI t = (4 : Int32) from fun y => c1 (q4.1 ((e 4 (by decide)).1 y))), if_neg c1, Option.bind_some]
  by_cases c2 : t = 10
  · rw [if_pos (show rtI t = (5 : Int32) from (e 5 (by decide)).2 (q5.2 c2)), if_pos c2]; rfl
  rw [if_neg (show ¬ rtI t = (5 : Int32) from fun y => c2 (q5.1 ((e 5 (by decide)).1 y))), if_neg c2, Option.bind_some]
  by_cases c3 : t = 60
  · rw [if_pos (show rtI t = (60 : Int32) from (e 60 (by decide)).2 ((q 60 (by decide) (by decide)).2 c3)), if_pos c3]; rfl
  rw [if_neg (show ¬ rtI t = (60 : Int32) from fun y => c3 ((q 60 (by decide) (by decide)).1 ((e 60 (by decide)).1 y))), if_neg c3, Option.bind_some]
  by_cases c4 : t = 61
  · rw [if_pos (show rtI t = (61 : Int32) from (e 61 (by decide)).2 ((q 61 (by decide) (by decide)).2 c4)), if_pos c4]; rfl
  rw [if_neg (show ¬ rtI t = (61 : Int32) from fun y => c4 ((q 61 (by decide) (by decide)).1 ((e 61 (by decide)).1 y))), if_neg c4, Option.bind_some]
  by_cases c5 : t = 43
  · rw [if_pos (show rtI t = (43 : Int32) from (e 43 (by decide)).2 ((q 43 (by decide) (by decide)).2 c5)), if_pos c5]; rfl
  rw [if_neg (show ¬ rtI t = (43 : Int32) from fun y => c5 ((q 43 (by decide) (by decide)).1 ((e 43 (by decide)).1 y))), if_neg c5, Option.bind_some]
  by_cases c6 : t = 45
  · rw [if_pos (show rtI t = (45 : Int32) from (e 45 (by decide)).2 ((q 45 (by decide) (by decide)).2 c6)), if_pos c6]; rfl
  rw [if_neg (show ¬ rtI t = (45 : Int32) from fun y => c6 ((q 45 (by decide) (by decide)).1 ((e 45 (by decide)).1 y))), if_neg c6, Option.bind_some]
  by_cases c7 : t = 42
  · rw [if_pos (show rtI t = (42 : Int32) from (e 42 (by decide)).2 ((q 42 (by decide) (by decide)).2 c7)), if_pos c7]; rfl
  rw [if_neg (show ¬ rtI t = (42 : Int32) from fun y => c7 ((q 42 (by decide) (by decide)).1 ((e 42 (by decide)).1 y))), if_neg c7]
  rfl
theorem M_btw {S : SK} {T n : Nat} {tp : Nat → Nat} {H : List Nat} {o : Nat} {w : List Nat} {m : Nat → Nat → Int32} {x : Nat} (hS : SkOK S) (h : VM T n tp H o w m) (hx : x = 11 ∨ x = 12 ∨ x = 14 ∨ x = 15 ∨ x = 16 ∨ x = 17 ∨ x = 18) (hw : w.length + 1 + H.length ≤ 160) : ∃ m2, MFr T m m2 ∧ m2 50 24 = m 50 24 ∧ m2 50 25 = m 50 25 ∧ (unS (lqS x) H o w).2.2.length + (unS (lqS x) H o w).1.length = w.length + H.length ∧ ((rkS x = 4 ∧ trS (unS (lqS x) H o w).1 = 4 ∧ TPm m2 n tp ∧ f_X9_between (mk S m) (some 50) (nI x) = some (0, mk S m2)) ∨ (¬ (rkS x = 4 ∧ trS (unS (lqS x) H o w).1 = 4) ∧ VM T n tp (x :: (unS (lqS x) H o w).1) (unS (lqS x) H o w).2.1 (unS (lqS x) H o w).2.2 m2 ∧ f_X9_between (mk S m) (some 50) (nI x) = some (1, mk S m2))) := by
  have hk : (sh S 50).1 = 9 := by rw [sk50 hS]
  have hx31 : x < 2 ^ 31 := by omega
  have hrk := tr8 [x]
  have hrk : rkS x < 8 := hrk
  have hl : 1 ≤ lqS x ∧ lqS x ≤ 7 := by
    rcases hx with rfl | rfl | rfl | rfl | rfl | rfl | rfl <;> decide
  obtain ⟨m2, a1, a2, a3, a4, a5, a6⟩ := M_unw1 (r := lqS x) hS hl h
  have eb : f_X9_between (mk S m) (some 50) (nI x) = f_X9_between_17 (mk S m) (some 50) (nI x) (nI (lqS x)) (some 50) := by
    unfold f_X9_between lqS
    rw [X9_rank hx31, Option.bind_some]
    by_cases c : rkS x = 4
    · rw [if_pos (show nI (rkS x) = (4 : Int32) by rw [c]; rfl), if_pos c]
      rfl
    · rw [if_neg (show ¬ nI (rkS x) = (4 : Int32) from fun y => c ((nI_eq (b := 4) (by omega) (by decide)).1 y)), if_neg c]
      show ((f_X9_rank (mk S m) (nI x)).bind fun q10 => f_X9_between_17 q10.2 (some 50) (nI x) q10.1 (some 50)) = _
      rw [X9_rank hx31, Option.bind_some]
  have hco : (unS (lqS x) H o w).2.1 = coS (x :: (unS (lqS x) H o w).1) := by
    rw [unS_co hl.1 H o w h.2.2.2.2.2.2.2.2.1]
    show _ = (if x = 0 ∨ x = 13 ∨ x = 19 then 1 else 0) + coS (unS (lqS x) H o w).1
    rw [if_neg (by omega), Nat.zero_add]
  obtain ⟨m3, b1, b2, b3, b4, b5, b6⟩ := M_holds hS a1 (x := x) (by omega) (by omega) hco
  have h31 : m3 50 31 = nI (unS (lqS x) H o w).2.1 := by rw [b5]; exact a1.2.2.2.1
  have e55 : f_X9_between_55 (mk S m2) (some 50) (nI x) = some (1, mk S m3) := by
    unfold f_X9_between_55
    rw [vc_k hk, b6, Option.bind_some, rz1]
  rw [eb]
  unfold f_X9_between_17
  rw [vc_k hk, a6, Option.bind_some, X9_rank hx31, Option.bind_some]
  have good : ¬ (rkS x = 4 ∧ trS (unS (lqS x) H o w).1 = 4) → ∀ y, y = some ((1 : Int32), mk S m3) → ∃ m2, MFr T m m2 ∧ m2 50 24 = m 50 24 ∧ m2 50 25 = m 50 25 ∧ (unS (lqS x) H o w).2.2.length + (unS (lqS x) H o w).1.length = w.length + H.length ∧ ((rkS x = 4 ∧ trS (unS (lqS x) H o w).1 = 4 ∧ TPm m2 n tp ∧ y = some (0, mk S m2)) ∨ (¬ (rkS x = 4 ∧ trS (unS (lqS x) H o w).1 = 4) ∧ VM T n tp (x :: (unS (lqS x) H o w).1) (unS (lqS x) H o w).2.1 (unS (lqS x) H o w).2.2 m2 ∧ y = some (1, mk S m2))) := fun hn y hy =>
    ⟨m3, a2.tr b2, by rw [b3, a3], by rw [b4, a4], a5, Or.inr ⟨hn, b1.o31 h31, hy⟩⟩
  by_cases c : rkS x = 4
  · rw [if_pos (show nI (rkS x) = (4 : Int32) by rw [c]; rfl)]
    show ∃ m4, _ ∧ _ ∧ _ ∧ _ ∧ ((_ ∧ _ ∧ _ ∧ ((gI (mk S m2) 9 (some 50) 30).bind fun v4 => if 0 < v4 then ((gR (mk S m2) 9 (some 50) 29).bind fun v5 => (gI (mk S m2) 9 (some 50) 30).bind fun v6 => (rI (mk S m2) v5 (v6 - ((1 : Int32)))).bind fun v7 => (f_X9_rank (mk S m2) v7).bind fun q8 => if q8.1 = ((4 : Int32)) then (rz q8.2 ((0 : Int32))) else (f_X9_between_55 q8.2 (some 50) (nI x))) else (f_X9_between_55 (mk S m2) (some 50) (nI x))) = _) ∨ (_ ∧ _ ∧ ((gI (mk S m2) 9 (some 50) 30).bind fun v4 => if 0 < v4 then ((gR (mk S m2) 9 (some 50) 29).bind fun v5 => (gI (mk S m2) 9 (some 50) 30).bind fun v6 => (rI (mk S m2) v5 (v6 - ((1 : Int32)))).bind fun v7 => (f_X9_rank (mk S m2) v7).bind fun q8 => if q8.1 = ((4 : Int32)) then (rz q8.2 ((0 : Int32))) else (f_X9_between_55 q8.2 (some 50) (nI x))) else (f_X9_between_55 (mk S m2) (some 50) (nI x))) = _))
    cases hu : (unS (lqS x) H o w).1 with
    | nil =>
      have h30 : m2 50 30 = nI 0 := by
        have := a1.2.1
        rw [hu] at this
        exact this
      rw [hu] at good
      rw [gI_k hk, Option.bind_some, h30, if_neg (show ¬ (0 : Int32) < nI 0 by decide), e55]
      exact good (fun y => absurd y.2 (by decide)) _ rfl
    | cons y H2 =>
      have h30 : m2 50 30 = nI (H2.length + 1) := by
        have := a1.2.1
        rw [hu] at this
        exact this
      have h65 : m2 65 H2.length = nI y ∧ y ≤ 19 := by
        have := a1.2.2.1
        rw [hu] at this
        exact ⟨this.1, this.2.1⟩
      have hl2 : H2.length + 1 ≤ 160 := by
        have := a1.2.2.2.2.2.2.2.2.2
        rw [hu] at this
        have t2 : (y :: H2).length = H2.length + 1 := rfl
        omega
      rw [hu] at good
      have hry : rkS y < 8 := tr8 [y]
      rw [gI_k hk, Option.bind_some, h30, if_pos (show (0 : Int32) < nI (H2.length + 1) from nI_lt (a := 0) (by omega) (by omega)), gR_k hk, Option.bind_some, rk50_29 hS, Option.bind_some, show nI (H2.length + 1) - (1 : Int32) = nI H2.length from by
        rw [show (1 : Int32) = nI 1 from rfl, pk_sub (by omega)]
        rfl, rI_n (sk65 hS) (show H2.length < 200 by omega) (by decide), Option.bind_some, h65.1, X9_rank (by omega), Option.bind_some]
      by_cases c4 : rkS y = 4
      · rw [if_pos (show nI (rkS y) = (4 : Int32) by rw [c4]; rfl), rz0]
        refine ⟨m2, a2, a3, a4, ?_, Or.inl ⟨c, c4, a1.1, rfl⟩⟩
        rw [hu] at a5
        exact a5
      · rw [if_neg (show ¬ nI (rkS y) = (4 : Int32) from fun z => c4 ((nI_eq (b := 4) (by omega) (by decide)).1 z))]
        show ∃ m4, _ ∧ _ ∧ _ ∧ _ ∧ ((_ ∧ _ ∧ _ ∧ f_X9_between_55 (mk S m2) (some 50) (nI x) = _) ∨ (_ ∧ _ ∧ f_X9_between_55 (mk S m2) (some 50) (nI x) = _))
        rw [e55]
        exact good (fun z => c4 z.2) _ rfl
  · rw [if_neg (show ¬ nI (rkS x) = (4 : Int32) from fun y => c ((nI_eq (b := 4) (by omega) (by decide)).1 y))]
    show ∃ m4, _ ∧ _ ∧ _ ∧ _ ∧ ((_ ∧ _ ∧ _ ∧ f_X9_between_55 (mk S m2) (some 50) (nI x) = _) ∨ (_ ∧ _ ∧ f_X9_between_55 (mk S m2) (some 50) (nI x) = _))
    rw [e55]
    exact good (fun y => c y.1) _ rfl
