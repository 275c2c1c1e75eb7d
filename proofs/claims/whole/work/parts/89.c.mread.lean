/-! PURE: the reference's held signs -/
def rtN (t : Nat) : Nat := if t < 6 then 2 else if t < 9 then 3 else if t < 12 then t - 5 else if t = 256 then 1 else if t = 257 then 0 else t
theorem rt_eq {t c : Nat} (ht : t ≤ 258) (hc : c ≤ 255) : rtI t = nI c ↔ rtN t = c := by
  unfold rtI rtN
  by_cases c1 : t < 6
  · rw [if_pos c1, if_pos c1]
    exact nI_eq (a := 2) (by decide) (by omega)
  rw [if_neg c1, if_neg c1]
  by_cases c2 : t < 9
  · rw [if_pos c2, if_pos c2]
    exact nI_eq (a := 3) (by decide) (by omega)
  rw [if_neg c2, if_neg c2]
  by_cases c3 : t < 12
  · rw [if_pos c3, if_pos c3]
    exact nI_eq (by omega) (by omega)
  rw [if_neg c3, if_neg c3]
  by_cases c4 : t = 256
  · rw [if_pos c4, if_pos c4]
    exact nI_eq (a := 1) (by decide) (by omega)
  rw [if_neg c4, if_neg c4]
  by_cases c5 : t = 257
  · rw [if_pos c5, if_pos c5]
    exact nI_eq (a := 0) (by decide) (by omega)
  rw [if_neg c5, if_neg c5]
  by_cases c6 : t = 258
  · rw [if_pos c6]
    constructor
    · intro y
      exact absurd y.symm (n_m1 c (by omega))
    · intro y
      omega
  · rw [if_neg c6]
    exact nI_eq (by omega) (by omega)
def coS : List Nat → Nat
  | [] => 0
  | x :: H => (if x = 0 ∨ x = 13 ∨ x = 19 then 1 else 0) + coS H
def HdM (m : Nat → Nat → Int32) : List Nat → Prop
  | [] => True
  | x :: H => m 65 H.length = nI x ∧ x ≤ 19 ∧ HdM m H
theorem HdM.ag {m m2 : Nat → Nat → Int32} : ∀ {H : List Nat}, HdM m H → (∀ j, j < H.length → m2 65 j = m 65 j) → HdM m2 H
  | [], _, _ => trivial
  | x :: H, h, e => ⟨by rw [e _ (Nat.lt_succ_self _)]; exact h.1, h.2.1, h.2.2.ag (fun j hj => e j (Nat.lt_succ_of_lt hj))⟩
def MFr (T : Nat) (m m2 : Nat → Nat → Int32) : Prop := ∀ b j, b ≠ 65 → (b ≠ 50 ∨ ¬ ((24 ≤ j ∧ j ≤ 27) ∨ (30 ≤ j ∧ j ≤ 32))) → (b ≠ 56 ∨ j < 200 * T) → m2 b j = m b j
theorem MFr.tr {T : Nat} {m m2 m3 : Nat → Nat → Int32} (h : MFr T m m2) (h2 : MFr T m2 m3) : MFr T m m3 := fun b j a1 a2 a3 => by rw [h2 b j a1 a2 a3, h b j a1 a2 a3]
theorem FrM.mf {T : Nat} {m m2 : Nat → Nat → Int32} (h : FrM m m2) : MFr T m m2 := fun b j a1 a2 a3 => h b j (by omega)
/-- the reference between two calls of next -/
def VM (T n : Nat) (tp : Nat → Nat) (H : List Nat) (o : Nat) (w : List Nat) (m : Nat → Nat → Int32) : Prop :=
  TPm m n tp ∧ m 50 30 = nI H.length ∧ HdM m H ∧ m 50 31 = nI o ∧ m 50 32 = nI w.length ∧ CdM m 56 (200 * T) w ∧ m 50 15 = nI T ∧ T < 6 ∧ o = coS H ∧ w.length + H.length ≤ 160
theorem VM.fr {T n : Nat} {tp : Nat → Nat} {H : List Nat} {o : Nat} {w : List Nat} {m m2 : Nat → Nat → Int32} (h : VM T n tp H o w m) (hf : FrM m m2) : VM T n tp H o w m2 := by
  obtain ⟨a1, a2, a3, a4, a5, a6, a7, a8, a9, a10⟩ := h
  refine ⟨a1.fr hf, ?_, a3.ag (fun j _ => hf 65 j (by omega)), ?_, ?_, a6.ag (funext fun j => hf 56 j (by omega)), ?_, a8, a9, a10⟩
  · rw [hf 50 30 (by omega)]; exact a2
  · rw [hf 50 31 (by omega)]; exact a4
  · rw [hf 50 32 (by omega)]; exact a5
  · rw [hf 50 15 (by omega)]; exact a7
theorem X9_rank {h : XM} {x : Nat} (hx : x < 2 ^ 31) : f_X9_rank h (nI x) = some (nI (rkS x), h) := by
  have e : ∀ c : Nat, c < 2 ^ 31 → (nI x = nI c ↔ x = c) := fun c hc => nI_eq hx hc
  unfold f_X9_rank rkS f_X9_rank_71
  by_cases c1 : x = 0
  · rw [if_pos (by rw [c1]; rfl), if_pos c1]; rfl
  rw [if_neg (fun y => c1 ((n0 hx).1 y)), if_neg c1]
  by_cases c2 : x = 11
  · rw [if_pos (by rw [c2]; rfl), if_pos c2]; rfl
  rw [if_neg (show ¬ nI x = (11 : Int32) from fun y => c2 ((e 11 (by decide)).1 y)), if_neg c2]
  by_cases c3 : x = 12
  · rw [if_pos (by rw [c3]; rfl), if_pos c3]; rfl
  rw [if_neg (show ¬ nI x = (12 : Int32) from fun y => c3 ((e 12 (by decide)).1 y)), if_neg c3]
  by_cases c4 : x = 13
  · rw [if_pos (by rw [c4]; rfl), if_pos c4]; rfl
  rw [if_neg (show ¬ nI x = (13 : Int32) from fun y => c4 ((e 13 (by decide)).1 y)), if_neg c4]
  by_cases c5 : x ≤ 15
  · rw [if_neg (show ¬ (15 : Int32) < nI x from nI_nlt (a := 15) c5 (by decide)), if_pos c5]; rfl
  rw [if_pos (show (15 : Int32) < nI x from nI_lt (a := 15) (by omega) hx), if_neg c5]
  by_cases c6 : x ≤ 17
  · rw [if_neg (show ¬ (17 : Int32) < nI x from nI_nlt (a := 17) c6 (by decide)), if_pos c6]; rfl
  rw [if_pos (show (17 : Int32) < nI x from nI_lt (a := 17) (by omega) hx), if_neg c6]
  by_cases c7 : x = 18
  · rw [if_pos (by rw [c7]; rfl), if_pos c7]; rfl
  · rw [if_neg (show ¬ nI x = (18 : Int32) from fun y => c7 ((e 18 (by decide)).1 y)), if_neg c7]; rfl
theorem M_puts {S : SK} {T n : Nat} {tp : Nat → Nat} {H : List Nat} {o : Nat} {w : List Nat} {m : Nat → Nat → Int32} {c : Nat} (hS : SkOK S) (h : VM T n tp H o w m) (hw : w.length + 1 + H.length ≤ 160) : ∃ m2, VM T n tp H o (w ++ [c]) m2 ∧ MFr T m m2 ∧ m2 50 24 = m 50 24 ∧ m2 50 25 = m 50 25 ∧ f_X9_puts (mk S m) (some 50) (nI c) = some (mk S m2) := by
  have hk : (sh S 50).1 = 9 := by rw [sk50 hS]
  obtain ⟨⟨t1, t2, t3, t4⟩, a2, a3, a4, a5, a6, a7, a8, a9, a10⟩ := h
  refine ⟨w2 (w2 m 56 (200 * T + w.length) (nI c)) 50 32 (nI (w.length + 1)), ⟨⟨?_, t2, fun k hk => ?_, fun k hk => ?_⟩, ?_, a3.ag (fun j _ => ?_), ?_, ?_, ?_, ?_, a8, a9, ?_⟩, fun b j b1 b2 b3 => ?_, ?_, ?_, ?_⟩
  · rw [w2_ap, if_neg (by omega), w2_ap, if_neg (by omega)]; exact t1
  · rw [w2_ap, if_neg (by omega), w2_ap, if_neg (by omega)]; exact t3 k hk
  · rw [w2_ap, if_neg (by omega), w2_ap, if_neg (by omega)]; exact t4 k hk
  · rw [w2_ap, if_neg (by omega), w2_ap, if_neg (by omega)]; exact a2
  · rw [w2_ap, if_neg (by omega), w2_ap, if_neg (by omega)]
  · rw [w2_ap, if_neg (by omega), w2_ap, if_neg (by omega)]; exact a4
  · rw [w2_ap, if_pos ⟨rfl, rfl⟩, List.length_append]; rfl
  · apply CdM.ag (m := w2 m 56 (200 * T + w.length) (nI c)) (funext fun j => by rw [w2_ap, if_neg (by omega)])
    refine CdM.app.2 ⟨a6.w (Nat.le_refl _), ?_, trivial⟩
    rw [w2_ap, if_pos ⟨rfl, rfl⟩]
  · rw [w2_ap, if_neg (by omega), w2_ap, if_neg (by omega)]; exact a7
  · rw [List.length_append]
    exact hw
  · rw [w2_ap, if_neg (by omega), w2_ap, if_neg (by omega)]
  · rw [w2_ap, if_neg (by omega), w2_ap, if_neg (by omega)]
  · rw [w2_ap, if_neg (by omega), w2_ap, if_neg (by omega)]
  · unfold f_X9_puts
    rw [gR_k hk, Option.bind_some, rk50_13 hS, gI_k hk, Option.bind_some, a7, gI_k hk, Option.bind_some, a5, show (200 : Int32) * nI T + nI w.length = nI (200 * T + w.length) from by
      rw [show (200 : Int32) * nI T = nI (200 * T) from pk_mul 200 T, nI_add], sI_n (sk56 hS) (show 200 * T + w.length < 1200 by omega) (by decide), Option.bind_some, gI_k hk, Option.bind_some, w2_ap, if_neg (by omega), a5, pI_k hk, Option.bind_some, show nI w.length + (1 : Int32) = nI (w.length + 1) from nI_add _ 1]
theorem M_holds {S : SK} {T n : Nat} {tp : Nat → Nat} {H : List Nat} {o o2 : Nat} {w : List Nat} {m : Nat → Nat → Int32} {x : Nat} (hS : SkOK S) (h : VM T n tp H o w m) (hw : w.length + 1 + H.length ≤ 160) (hx : x ≤ 19) (ho2 : o2 = coS (x :: H)) : ∃ m2, VM T n tp (x :: H) o2 w (w2 m2 50 31 (nI o2)) ∧ MFr T m m2 ∧ m2 50 24 = m 50 24 ∧ m2 50 25 = m 50 25 ∧ m2 50 31 = m 50 31 ∧ f_X9_holds (mk S m) (some 50) (nI x) = some (mk S m2) := by
  have hk : (sh S 50).1 = 9 := by rw [sk50 hS]
  obtain ⟨⟨t1, t2, t3, t4⟩, a2, a3, a4, a5, a6, a7, a8, a9, a10⟩ := h
  refine ⟨w2 (w2 m 65 H.length (nI x)) 50 30 (nI (H.length + 1)), ⟨⟨?_, t2, fun k hk => ?_, fun k hk => ?_⟩, ?_, ⟨?_, hx, a3.ag (fun j hj => ?_)⟩, ?_, ?_, ?_, ?_, a8, ho2, ?_⟩, fun b j b1 b2 b3 => ?_, ?_, ?_, ?_, ?_⟩
  · rw [w2_ap, if_neg (by omega), w2_ap, if_neg (by omega), w2_ap, if_neg (by omega)]; exact t1
  · rw [w2_ap, if_neg (by omega), w2_ap, if_neg (by omega), w2_ap, if_neg (by omega)]; exact t3 k hk
  · rw [w2_ap, if_neg (by omega), w2_ap, if_neg (by omega), w2_ap, if_neg (by omega)]; exact t4 k hk
  · rw [w2_ap, if_neg (by omega), w2_ap, if_pos ⟨rfl, rfl⟩]; rfl
  · rw [w2_ap, if_neg (by omega), w2_ap, if_neg (by omega), w2_ap, if_pos ⟨rfl, rfl⟩]
  · rw [w2_ap, if_neg (by omega), w2_ap, if_neg (by omega), w2_ap, if_neg (by omega)]
  · rw [w2_ap, if_pos ⟨rfl, rfl⟩]
  · rw [w2_ap, if_neg (by omega), w2_ap, if_neg (by omega), w2_ap, if_neg (by omega)]; exact a5
  · exact a6.ag (funext fun j => by rw [w2_ap, if_neg (by omega), w2_ap, if_neg (by omega), w2_ap, if_neg (by omega)])
  · rw [w2_ap, if_neg (by omega), w2_ap, if_neg (by omega), w2_ap, if_neg (by omega)]; exact a7
  · show w.length + (H.length + 1) ≤ 160
    omega
  · rw [w2_ap, if_neg (by omega), w2_ap, if_neg (by omega)]
  · rw [w2_ap, if_neg (by omega), w2_ap, if_neg (by omega)]
  · rw [w2_ap, if_neg (by omega), w2_ap, if_neg (by omega)]
  · rw [w2_ap, if_neg (by omega), w2_ap, if_neg (by omega)]
  · unfold f_X9_holds
    rw [gR_k hk, Option.bind_some, rk50_29 hS, gI_k hk, Option.bind_some, a2, sI_n (sk65 hS) (show H.length < 200 by omega) (by decide), Option.bind_some, gI_k hk, Option.bind_some, w2_ap, if_neg (by omega), a2, pI_k hk, Option.bind_some, show nI H.length + (1 : Int32) = nI (H.length + 1) from nI_add _ 1]
theorem VM.o31 {T n : Nat} {tp : Nat → Nat} {H : List Nat} {o : Nat} {w : List Nat} {m : Nat → Nat → Int32} (h : VM T n tp H o w (w2 m 50 31 (nI o))) (e : m 50 31 = nI o) : VM T n tp H o w m := by
  have : w2 m 50 31 (nI o) = m := by
    rw [← e]
    exact w2_id
  rw [this] at h
  exact h
theorem M_unw {S : SK} {T n : Nat} {tp : Nat → Nat} (hS : SkOK S) {r : Nat} (hr : 1 ≤ r ∧ r ≤ 7) : ∀ (H : List Nat) (f o : Nat) (w : List Nat) (m : Nat → Nat → Int32), VM T n tp H o w m → H.length < f → ∃ m2, VM T n tp (unS r H o w).1 (unS r H o w).2.1 (unS r H o w).2.2 m2 ∧ MFr T m m2 ∧ m2 50 24 = m 50 24 ∧ m2 50 25 = m 50 25 ∧ (unS r H o w).2.2.length + (unS r H o w).1.length = w.length + H.length ∧ f_X9_unwinds_0 f (mk S m) (some 50) (nI r) = some (mk S m2) := by
  have hk : (sh S 50).1 = 9 := by rw [sk50 hS]
  intro H
  induction H with
  | nil =>
    intro f o w m hV hf
    obtain ⟨f, rfl⟩ : ∃ k, f = k + 1 := ⟨f - 1, by omega⟩
    refine ⟨m, hV, fun _ _ _ _ _ => rfl, rfl, rfl, rfl, ?_⟩
    show fb_X9_unwinds_0 (f_X9_unwinds_0 f) (mk S m) (some 50) (nI r) = _
    unfold fb_X9_unwinds_0 f_X9_unwinds_79
    rw [gI_k hk, Option.bind_some, hV.2.1]
    rfl
  | cons x H ih =>
    intro f o w m hV hf
    obtain ⟨f, rfl⟩ : ∃ k, f = k + 1 := ⟨f - 1, by omega⟩
    have hV0 := hV
    obtain ⟨⟨t1, t2, t3, t4⟩, a2, ⟨a31, a32, a33⟩, a4, a5, a6, a7, a8, a9, a10⟩ := hV
    have a2 : m 50 30 = nI (H.length + 1) := a2
    have a10 : w.length + (H.length + 1) ≤ 160 := a10
    have hf : H.length + 1 < f + 1 := hf
    have em1 : nI (H.length + 1) - (1 : Int32) = nI H.length := by
      rw [show (1 : Int32) = nI 1 from rfl, pk_sub (by omega)]
      rfl
    show ∃ m2, _ ∧ _ ∧ _ ∧ _ ∧ _ ∧ fb_X9_unwinds_0 (f_X9_unwinds_0 f) (mk S m) (some 50) (nI r) = _
    unfold fb_X9_unwinds_0
    rw [gI_k hk, Option.bind_some, a2, if_pos (show (0 : Int32) < nI (H.length + 1) from nI_lt (a := 0) (by omega) (by omega)), gR_k hk, Option.bind_some, Option.bind_some, rk50_29 hS, em1, rI_n (sk65 hS) (show H.length < 200 by omega) (by decide), Option.bind_some, a31, X9_rank (by omega), Option.bind_some]
    have hrk : rkS x ≤ 7 := by have := tr8 (x :: H); exact Nat.lt_succ_iff.1 this
    by_cases c : r ≤ rkS x
    · have e1 : unS r (x :: H) o w = unS r H (o - if x = 13 ∨ x = 19 then 1 else 0) (w ++ [x]) := by
        show (if r ≤ rkS x then _ else _) = _
        rw [if_pos c]
      have hx0 : x ≠ 0 := fun y => by
        rw [y] at c
        have : rkS 0 = 0 := rfl
        omega
      have hoc : coS (x :: H) = (if x = 0 ∨ x = 13 ∨ x = 19 then 1 else 0) + coS H := rfl
      rw [e1, if_neg (show ¬ nI (rkS x) < nI r from nI_nlt c (by omega))]
      show ∃ m2, _ ∧ _ ∧ _ ∧ _ ∧ _ ∧ ((gI (mk S m) 9 (some 50) 30).bind fun v8 => (pI (mk S m) 9 (some 50) 30 (v8 - ((1 : Int32)))).bind fun h9 => (gR h9 9 (some 50) 29).bind fun v10 => (gI h9 9 (some 50) 30).bind fun v11 => (rI h9 v10 v11).bind fun v12 => (gI h9 9 (some 50) 31).bind fun v13 => if v12 = ((13 : Int32)) then (f_X9_unwinds_62 (f_X9_unwinds_0 f) h9 (some 50) (nI r) v12 v13 (some 50)) else (if v12 = ((19 : Int32)) then (f_X9_unwinds_62 (f_X9_unwinds_0 f) h9 (some 50) (nI r) v12 v13 (some 50)) else (f_X9_unwinds_67 (f_X9_unwinds_0 f) h9 (some 50) (nI r) v12 ((0 : Int32)) v13 (some 50)))) = _
      have r30 : w2 m 50 30 (nI H.length) 50 30 = nI H.length := by rw [w2_ap, if_pos ⟨rfl, rfl⟩]
      have r65 : w2 m 50 30 (nI H.length) 65 H.length = nI x := by rw [w2_ap, if_neg (by omega)]; exact a31
      have r31 : w2 m 50 30 (nI H.length) 50 31 = nI o := by rw [w2_ap, if_neg (by omega)]; exact a4
      rw [gI_k hk, Option.bind_some, a2, em1, pI_k hk, Option.bind_some, gR_k hk, Option.bind_some, rk50_29 hS, gI_k hk, Option.bind_some, r30, rI_n (sk65 hS) (show H.length < 200 by omega) (by decide), Option.bind_some, r65, gI_k hk, Option.bind_some, r31]
      have e67 : ∀ d : Nat, d ≤ o → (o - d = coS H) → ∃ m2, VM T n tp (unS r H (o - d) (w ++ [x])).1 (unS r H (o - d) (w ++ [x])).2.1 (unS r H (o - d) (w ++ [x])).2.2 m2 ∧ MFr T m m2 ∧ m2 50 24 = m 50 24 ∧ m2 50 25 = m 50 25 ∧ (unS r H (o - d) (w ++ [x])).2.2.length + (unS r H (o - d) (w ++ [x])).1.length = w.length + (x :: H).length ∧ f_X9_unwinds_67 (f_X9_unwinds_0 f) (mk S (w2 m 50 30 (nI H.length))) (some 50) (nI r) (nI x) (nI d) (nI o) (some 50) = some (mk S m2) := by
        intro d hd hco
        have hV1 : VM T n tp H (o - d) w (w2 (w2 m 50 30 (nI H.length)) 50 31 (nI (o - d))) := by
          refine ⟨⟨?_, t2, fun k hk => ?_, fun k hk => ?_⟩, ?_, a33.ag (fun j _ => ?_), ?_, ?_, ?_, ?_, a8, hco, by omega⟩
          · rw [w2_ap, if_neg (by omega), w2_ap, if_neg (by omega)]; exact t1
          · rw [w2_ap, if_neg (by omega), w2_ap, if_neg (by omega)]; exact t3 k hk
          · rw [w2_ap, if_neg (by omega), w2_ap, if_neg (by omega)]; exact t4 k hk
          · rw [w2_ap, if_neg (by omega), w2_ap, if_pos ⟨rfl, rfl⟩]
          · rw [w2_ap, if_neg (by omega), w2_ap, if_neg (by omega)]
          · rw [w2_ap, if_pos ⟨rfl, rfl⟩]
          · rw [w2_ap, if_neg (by omega), w2_ap, if_neg (by omega)]; exact a5
          · exact a6.ag (funext fun j => by rw [w2_ap, if_neg (by omega), w2_ap, if_neg (by omega)])
          · rw [w2_ap, if_neg (by omega), w2_ap, if_neg (by omega)]; exact a7
        obtain ⟨m2, b1, b2, b3, b4, b5⟩ := M_puts (c := x) hS hV1 (by omega)
        obtain ⟨m3, d1, d2, d3, d4, d5, d6⟩ := ih f (o - d) (w ++ [x]) m2 b1 (by omega)
        have hfr : MFr T m (w2 (w2 m 50 30 (nI H.length)) 50 31 (nI (o - d))) := fun b j b1 b2 b3 => by
          rw [w2_ap, if_neg (by omega), w2_ap, if_neg (by omega)]
        refine ⟨m3, d1, (hfr.tr b2).tr d2, ?_, ?_, ?_, ?_⟩
        · rw [d3, b3, w2_ap, if_neg (by omega), w2_ap, if_neg (by omega)]
        · rw [d4, b4, w2_ap, if_neg (by omega), w2_ap, if_neg (by omega)]
        · rw [d5, List.length_append]
          show w.length + 1 + H.length = w.length + (H.length + 1)
          omega
        · unfold f_X9_unwinds_67
          rw [pk_sub hd, pI_k hk, Option.bind_some, vc_k hk, b5, Option.bind_some]
          exact d6
      by_cases c13 : x = 13
      · rw [if_pos (show x = 13 ∨ x = 19 from Or.inl c13), if_pos (show nI x = (13 : Int32) by rw [c13]; rfl)]
        rw [if_pos (show x = 0 ∨ x = 13 ∨ x = 19 from Or.inr (Or.inl c13))] at hoc
        exact e67 1 (by omega) (by omega)
      · rw [if_neg (show ¬ nI x = (13 : Int32) from fun y => c13 ((nI_eq (b := 13) (by omega) (by decide)).1 y))]
        by_cases c19 : x = 19
        · rw [if_pos (show x = 13 ∨ x = 19 from Or.inr c19), if_pos (show nI x = (19 : Int32) by rw [c19]; rfl)]
          rw [if_pos (show x = 0 ∨ x = 13 ∨ x = 19 from Or.inr (Or.inr c19))] at hoc
          exact e67 1 (by omega) (by omega)
        · rw [if_neg (show ¬ (x = 13 ∨ x = 19) by omega), if_neg (show ¬ nI x = (19 : Int32) from fun y => c19 ((nI_eq (b := 19) (by omega) (by decide)).1 y))]
          rw [if_neg (show ¬ (x = 0 ∨ x = 13 ∨ x = 19) by omega)] at hoc
          exact e67 0 (by omega) (by omega)
    · have e1 : unS r (x :: H) o w = (x :: H, o, w) := by
        show (if r ≤ rkS x then _ else _) = _
        rw [if_neg c]
      rw [e1, if_pos (show nI (rkS x) < nI r from nI_lt (by omega) (by omega))]
      exact ⟨m, hV0, fun _ _ _ _ _ => rfl, rfl, rfl, rfl, rfl⟩
theorem M_unw1 {S : SK} {T n : Nat} {tp : Nat → Nat} (hS : SkOK S) {r : Nat} (hr : 1 ≤ r ∧ r ≤ 7) {H : List Nat} {o : Nat} {w : List Nat} {m : Nat → Nat → Int32} (hV : VM T n tp H o w m) : ∃ m2, VM T n tp (unS r H o w).1 (unS r H o w).2.1 (unS r H o w).2.2 m2 ∧ MFr T m m2 ∧ m2 50 24 = m 50 24 ∧ m2 50 25 = m 50 25 ∧ (unS r H o w).2.2.length + (unS r H o w).1.length = w.length + H.length ∧ f_X9_unwinds (mk S m) (some 50) (nI r) = some (mk S m2) := by
  have := hV.2.2.2.2.2.2.2.2.2
  exact M_unw hS hr H FU o w m hV (by unfold FU; omega)
