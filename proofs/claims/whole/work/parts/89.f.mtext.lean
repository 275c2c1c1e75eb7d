/-! PURE: the reference reads a text -/
def HSm (T n : Nat) (tp : Nat → Nat) (p : Nat) (w : List Nat) (m : Nat → Nat → Int32) : Prop := TPm m n tp ∧ m 50 32 = nI w.length ∧ CdM m 56 (200 * T) w ∧ m 50 15 = nI T ∧ m 50 24 = nI p ∧ p ≤ n ∧ w.length ≤ p
def PFr (T k : Nat) (m m2 : Nat → Nat → Int32) : Prop := ∀ b j, b ≠ 65 → (b ≠ 50 ∨ ¬ ((24 ≤ j ∧ j ≤ 27) ∨ (30 ≤ j ∧ j ≤ 32))) → (b ≠ 56 ∨ j < 200 * T) → (b ≠ 57 ∨ j ≠ 4 * T + k) → m2 b j = m b j
theorem M_part {S : SK} {T n : Nat} {tp : Nat → Nat} (hS : SkOK S) {f p k : Nat} {w : List Nat} {m : Nat → Nat → Int32} {R : Option (List Nat) × Nat} (hH : HSm T n tp p w m) (hT6 : T < 6) (hk3 : k < 3) (h : rpS (tkT tp n) k p w = some R) : ∃ m2, PFr T k m m2 ∧ m2 57 (4 * T + k) = nI w.length ∧ TPm m2 n tp ∧ m2 50 15 = nI T ∧ ((∃ p2, R = (none, p2) ∧ m2 50 25 = nI (tpP tp n p2) ∧ f_X9_text_26 (f + 1) (mk S m) (some 50) 1 (nI k) = f_X9_text_26 f (mk S m2) (some 50) 0 (nI (k + 1))) ∨ (∃ w2 p2, R = (some w2, p2) ∧ HSm T n tp p2 w2 m2 ∧ f_X9_text_26 (f + 1) (mk S m) (some 50) 1 (nI k) = f_X9_text_26 f (mk S m2) (some 50) 1 (nI (k + 1)))) := by
  have hk : (sh S 50).1 = 9 := by rw [sk50 hS]
  obtain ⟨hT, h32, hC, h15, h24, hp, hw⟩ := hH
  have hn := hT.2.1
  have hnx := tk_next (tp := tp) hp
  have ht : (tkT tp n p).1 ≤ 258 := hnx.2.2.2 (fun k hk => (hT.2.2.1 k hk).2)
  obtain ⟨m1, a1, a2, a3, a4, a5, a6⟩ := M_tok hS hT h24 hp
  have q15 : m1 50 15 = nI T := by rw [a1 50 15 (by omega)]; exact h15
  have q32 : m1 50 32 = nI w.length := by rw [a1 50 32 (by omega)]; exact h32
  have F1 : PFr T k m (w2 m1 57 (4 * T + k) (nI w.length)) := fun b j b1 b2 b3 b4 => by
    rw [w2_ap, if_neg (by omega), a1 b j (by omega)]
  have T1 : TPm (w2 m1 57 (4 * T + k) (nI w.length)) n tp := by
    obtain ⟨t1, t2, t3, t4⟩ := hT.fr a1
    refine ⟨?_, t2, fun k hk => ?_, fun k hk => ?_⟩
    · rw [w2_ap, if_neg (by omega)]; exact t1
    · rw [w2_ap, if_neg (by omega)]; exact t3 k hk
    · rw [w2_ap, if_neg (by omega)]; exact t4 k hk
  have e57 : sI (mk S m1) (some 57) ((((4 : Int32)) * nI T) + nI k) (nI w.length) = some (mk S (w2 m1 57 (4 * T + k) (nI w.length))) := by
    rw [show (4 : Int32) * nI T + nI k = nI (4 * T + k) from by
      rw [show (4 : Int32) * nI T = nI (4 * T) from pk_mul 4 T, nI_add], sI_n (sk57 hS) (show 4 * T + k < 24 by omega) (by decide)]
  have q57 : w2 m1 57 (4 * T + k) (nI w.length) 57 (4 * T + k) = nI w.length := by rw [w2_ap, if_pos ⟨rfl, rfl⟩]
  have e60 : ∀ s0 : Int32, f_X9_text_60 (f_X9_text_26 f) (mk S m1) (some 50) (nI k) s0 = if s0 = 0 then (f_X9_text_93 (f_X9_text_26 f) (mk S (w2 m1 57 (4 * T + k) (nI w.length))) (some 50) (nI k)) else ((vc (mk S (w2 m1 57 (4 * T + k) (nI w.length))) 9 (some 50) (f_X9_eRead (mk S (w2 m1 57 (4 * T + k) (nI w.length))) (some 50))).bind fun q6 => if q6.1 = 0 then (f_X9_text_93 (f_X9_text_26 f) q6.2 (some 50) (nI k)) else (f_X9_text_94 (f_X9_text_26 f) q6.2 (some 50) (nI k) ((1 : Int32)))) := fun s0 => by
    unfold f_X9_text_60
    rw [gR_k hk, Option.bind_some, rk50_14 hS, gI_k hk, Option.bind_some, q15, gI_k hk, Option.bind_some, q32, e57, Option.bind_some]
  have e94 : ∀ (m' : Nat → Nat → Int32) (s0 : Int32), f_X9_text_94 (f_X9_text_26 f) (mk S m') (some 50) (nI k) s0 = f_X9_text_26 f (mk S m') (some 50) s0 (nI (k + 1)) := fun m' s0 => by
    unfold f_X9_text_94
    rw [bnd_eq, show nI k + (1 : Int32) = nI (k + 1) from nI_add k 1]
  have e0 : f_X9_text_26 (f + 1) (mk S m) (some 50) 1 (nI k) = fb_X9_text_26 (f_X9_text_26 f) (mk S m) (some 50) 1 (nI k) := rfl
  have rt3 : m1 50 26 = (3 : Int32) ↔ (6 ≤ (tkT tp n p).1 ∧ (tkT tp n p).1 < 9) := by
    rw [a4]
    refine (rt_eq (c := 3) ht (by decide)).trans ?_
    unfold rtN
    repeat' split
    all_goals omega
  rw [e0]
  unfold fb_X9_text_26
  rw [if_pos (show nI k < (3 : Int32) from nI_lt (b := 3) hk3 (by decide)), if_neg (show ¬ (1 : Int32) = 0 by decide), vc_k hk, a6, Option.bind_some, gI_k hk, Option.bind_some]
  unfold rpS at h
  by_cases c : (tkT tp n p).1 = 6 + k
  · rw [if_pos c] at h
    have rv : rvT (tkT tp n p).1 (tkT tp n p).2.1 = k := by
      unfold rvT
      rw [if_neg (by omega), if_pos (by omega)]
      omega
    rw [if_pos (rt3.2 (by omega)), gI_k hk, Option.bind_some, a5 (by omega), rv, if_pos rfl, e60, if_neg (show ¬ (1 : Int32) = 0 by decide), vc_k hk]
    unfold f_X9_eRead
    rw [pI_k hk, Option.bind_some, pI_k hk, Option.bind_some]
    have hV : VM T n tp [] 0 w (w2 (w2 (w2 m1 57 (4 * T + k) (nI w.length)) 50 30 0) 50 31 0) := by
      obtain ⟨t1, t2, t3, t4⟩ := T1
      refine ⟨⟨?_, t2, fun k hk => ?_, fun k hk => ?_⟩, ?_, trivial, ?_, ?_, ?_, ?_, hT6, rfl, ?_⟩
      · rw [w2_ap, if_neg (by omega), w2_ap, if_neg (by omega)]; exact t1
      · rw [w2_ap, if_neg (by omega), w2_ap, if_neg (by omega)]; exact t3 k hk
      · rw [w2_ap, if_neg (by omega), w2_ap, if_neg (by omega)]; exact t4 k hk
      · rw [w2_ap, if_neg (by omega), w2_ap, if_pos ⟨rfl, rfl⟩]; rfl
      · rw [w2_ap, if_pos ⟨rfl, rfl⟩]; rfl
      · rw [w2_ap, if_neg (by omega), w2_ap, if_neg (by omega), w2_ap, if_neg (by omega)]; exact q32
      · exact hC.ag (funext fun j => by rw [w2_ap, if_neg (by omega), w2_ap, if_neg (by omega), w2_ap, if_neg (by omega), a1 56 j (by omega)])
      · rw [w2_ap, if_neg (by omega), w2_ap, if_neg (by omega), w2_ap, if_neg (by omega)]; exact q15
      · show w.length + 0 ≤ 160
        omega
    have hnx1 := hnx.2.2.1 (by omega)
    obtain ⟨m2, d1, d2, d3, d4⟩ := M_eLoop hS FU FU _ [] 0 w _ true true R h (Nat.le_refl _) hV (by rw [w2_ap, if_neg (by omega), w2_ap, if_neg (by omega), w2_ap, if_neg (by omega)]; exact a2) hnx.1 (by
      show w.length + 0 ≤ _
      omega)
    have F2 : PFr T k m m2 := fun b j b1 b2 b3 b4 => by
      rw [d1 b j b1 b2 b3, w2_ap, if_neg (by omega), w2_ap, if_neg (by omega)]
      exact F1 b j b1 b2 b3 b4
    have g57 : m2 57 (4 * T + k) = nI w.length := by
      rw [d1 57 _ (by omega) (by omega) (by omega), w2_ap, if_neg (by omega), w2_ap, if_neg (by omega)]
      exact q57
    refine ⟨m2, F2, g57, d2, d3, ?_⟩
    rcases d4 with ⟨p2, e1, e2, e3⟩ | ⟨w2', p2, o2, e1, e2, e3, e4, e5, e6⟩
    · refine Or.inl ⟨p2, e1, e2, ?_⟩
      rw [show f_X9_eRead_14 FU (mk S (w2 (w2 (w2 m1 57 (4 * T + k) (nI w.length)) 50 30 0) 50 31 0)) (some 50) 1 1 = some (0, mk S m2) from e3, Option.bind_some, if_pos rfl]
      exact e94 m2 0
    · refine Or.inr ⟨w2', p2, e1, ⟨d2, e2.2.2.2.2.1, e2.2.2.2.2.2.1, d3, e3, e4, e5⟩, ?_⟩
      rw [show f_X9_eRead_14 FU (mk S (w2 (w2 (w2 m1 57 (4 * T + k) (nI w.length)) 50 30 0) 50 31 0)) (some 50) 1 1 = some (1, mk S m2) from e6, Option.bind_some, if_neg (show ¬ (1 : Int32) = 0 by decide)]
      exact e94 m2 1
  · rw [if_neg c] at h
    have e59 : f_X9_text_59 (f_X9_text_26 f) (mk S m1) (some 50) (nI k) = f_X9_text_26 f (mk S (w2 m1 57 (4 * T + k) (nI w.length))) (some 50) 0 (nI (k + 1)) := by
      unfold f_X9_text_59
      rw [e60, if_pos rfl]
      exact e94 _ 0
    have fin : ∀ y, y = f_X9_text_26 f (mk S (w2 m1 57 (4 * T + k) (nI w.length))) (some 50) 0 (nI (k + 1)) → ∃ m2, PFr T k m m2 ∧ m2 57 (4 * T + k) = nI w.length ∧ TPm m2 n tp ∧ m2 50 15 = nI T ∧ ((∃ p2, R = (none, p2) ∧ m2 50 25 = nI (tpP tp n p2) ∧ y = f_X9_text_26 f (mk S m2) (some 50) 0 (nI (k + 1))) ∨ (∃ w2 p2, R = (some w2, p2) ∧ HSm T n tp p2 w2 m2 ∧ y = f_X9_text_26 f (mk S m2) (some 50) 1 (nI (k + 1)))) := fun y hy => by
      refine ⟨_, F1, q57, T1, ?_, Or.inl ⟨p, (Option.some.inj h).symm, ?_, hy⟩⟩
      · rw [w2_ap, if_neg (by omega)]; exact q15
      · rw [w2_ap, if_neg (by omega)]; exact a3
    by_cases c2 : 6 ≤ (tkT tp n p).1 ∧ (tkT tp n p).1 < 9
    · have rv : rvT (tkT tp n p).1 (tkT tp n p).2.1 = (tkT tp n p).1 - 6 := by
        unfold rvT
        rw [if_neg (by omega), if_pos (by omega)]
      rw [if_pos (rt3.2 c2), gI_k hk, Option.bind_some, a5 (by omega), rv, if_neg (fun y => c (by
        have := (nI_eq (a := (tkT tp n p).1 - 6) (b := k) (by omega) (by omega)).1 y
        omega)), e59]
      exact fin _ rfl
    · rw [if_neg (fun y => c2 (rt3.1 y)), e59]
      exact fin _ rfl
def TFr (T : Nat) (m m2 : Nat → Nat → Int32) : Prop := ∀ b j, b ≠ 65 → (b ≠ 50 ∨ ¬ (j = 12 ∨ j = 15 ∨ (24 ≤ j ∧ j ≤ 27) ∨ (30 ≤ j ∧ j ≤ 32))) → (b ≠ 56 ∨ j < 200 * T) → (b ≠ 57 ∨ j < 4 * T) → m2 b j = m b j
theorem PFr.t {T k : Nat} {m m2 : Nat → Nat → Int32} (h : PFr T k m m2) : TFr T m m2 := fun b j b1 b2 b3 b4 => h b j b1 (by omega) b3 (by omega)
theorem TFr.tr {T : Nat} {m m2 m3 : Nat → Nat → Int32} (h : TFr T m m2) (h2 : TFr T m2 m3) : TFr T m m3 := fun b j b1 b2 b3 b4 => by rw [h2 b j b1 b2 b3 b4, h b j b1 b2 b3 b4]
theorem M_bad {S : SK} {T n : Nat} {tp : Nat → Nat} (hS : SkOK S) {f p k : Nat} {m : Nat → Nat → Int32} (hT6 : T < 6) (h15 : m 50 15 = nI T) (h25 : m 50 25 = nI (tpP tp n p)) : ∃ m2, TFr T m m2 ∧ m2 50 12 = nI 0 ∧ m2 50 15 = nI T ∧ f_X9_text_26 (f + 1) (mk S m) (some 50) 0 (nI k) = some ((-100 : Int32) - nI (tpP tp n p), mk S m2) := by
  have hk : (sh S 50).1 = 9 := by rw [sk50 hS]
  have e101 : f_X9_text_26 (f + 1) (mk S m) (some 50) 0 (nI k) = f_X9_text_122 (mk S m) (some 50) 0 := by
    show fb_X9_text_26 (f_X9_text_26 f) (mk S m) (some 50) 0 (nI k) = _
    unfold fb_X9_text_26 f_X9_text_101
    split
    · rw [if_pos rfl, if_pos rfl]
    · rw [if_pos rfl]
  rw [e101]
  unfold f_X9_text_122
  refine ⟨w2 (w2 m 57 (4 * T + 3) (m 50 32)) 50 12 0, fun b j b1 b2 b3 b4 => ?_, ?_, ?_, ?_⟩
  · rw [w2_ap, if_neg (by omega), w2_ap, if_neg (by omega)]
  · rw [w2_ap, if_pos ⟨rfl, rfl⟩]; rfl
  · rw [w2_ap, if_neg (by omega), w2_ap, if_neg (by omega)]; exact h15
  · rw [gR_k hk, Option.bind_some, rk50_14 hS, gI_k hk, Option.bind_some, h15, gI_k hk, Option.bind_some, show (4 : Int32) * nI T + (3 : Int32) = nI (4 * T + 3) from by
      rw [show (4 : Int32) * nI T = nI (4 * T) from pk_mul 4 T]
      exact nI_add _ 3, sI_n (sk57 hS) (show 4 * T + 3 < 24 by omega) (by decide), Option.bind_some, pI_k hk, Option.bind_some, if_pos rfl, gI_k hk, Option.bind_some, w2_ap, if_neg (by omega), w2_ap, if_neg (by omega), h25]
theorem M_text {S : SK} {T n : Nat} {tp : Nat → Nat} (hS : SkOK S) {m : Nat → Nat → Int32} {r : (List Nat × List Nat × List Nat) ⊕ Nat} (hT : TPm m n tp) (h15 : m 50 15 = nI T) (hT6 : T < 6) (h : txS (tkT tp n) = some r) : ∃ m2, TFr T m m2 ∧ m2 50 12 = nI 0 ∧ ((∃ p, r = Sum.inr p ∧ m2 50 15 = nI T ∧ f_X9_text (mk S m) (some 50) = some ((-100 : Int32) - nI (tpP tp n p), mk S m2)) ∨ (∃ x1 x2 x3, r = Sum.inl (x1, x2, x3) ∧ m2 50 15 = nI (T + 1) ∧ CdM m2 56 (200 * T) x3 ∧ m2 57 (4 * T) = nI 0 ∧ m2 57 (4 * T + 1) = nI x1.length ∧ m2 57 (4 * T + 2) = nI x2.length ∧ m2 57 (4 * T + 3) = nI x3.length ∧ x3.length ≤ 160 ∧ f_X9_text (mk S m) (some 50) = some (nI T, mk S m2))) := by
  have hk : (sh S 50).1 = 9 := by rw [sk50 hS]
  have hn := hT.2.1
  have ef : f_X9_text (mk S m) (some 50) = f_X9_text_26 (4996 + 1 + 1 + 1 + 1) (mk S (w2 (w2 m 50 24 0) 50 32 0)) (some 50) 1 (nI 0) := by
    unfold f_X9_text
    rw [gI_k hk, Option.bind_some, h15, if_neg (show ¬ nI T = (6 : Int32) from fun y => by
      have := (nI_eq (b := 6) (by omega) (by decide)).1 y
      omega), pI_k hk, Option.bind_some, pI_k hk, Option.bind_some]
    rfl
  have F0 : TFr T m (w2 (w2 m 50 24 0) 50 32 0) := fun b j b1 b2 b3 b4 => by
    rw [w2_ap, if_neg (by omega), w2_ap, if_neg (by omega)]
  have H0 : HSm T n tp 0 [] (w2 (w2 m 50 24 0) 50 32 0) := by
    obtain ⟨t1, t2, t3, t4⟩ := hT
    refine ⟨⟨?_, t2, fun k hk => ?_, fun k hk => ?_⟩, ?_, trivial, ?_, ?_, by omega, Nat.le_refl _⟩
    · rw [w2_ap, if_neg (by omega), w2_ap, if_neg (by omega)]; exact t1
    · rw [w2_ap, if_neg (by omega), w2_ap, if_neg (by omega)]; exact t3 k hk
    · rw [w2_ap, if_neg (by omega), w2_ap, if_neg (by omega)]; exact t4 k hk
    · rw [w2_ap, if_pos ⟨rfl, rfl⟩]; rfl
    · rw [w2_ap, if_neg (by omega), w2_ap, if_neg (by omega)]; exact h15
    · rw [w2_ap, if_neg (by omega), w2_ap, if_pos ⟨rfl, rfl⟩]; rfl
  rw [ef]
  generalize w2 (w2 m 50 24 0) 50 32 0 = m0 at *
  unfold txS at h
  cases h1 : rpS (tkT tp n) 0 0 [] with
  | none => rw [h1] at h; cases h
  | some R1 =>
    rw [h1] at h
    obtain ⟨m1, a1, a2, a3, a4, a5⟩ := M_part (f := 4996 + 1 + 1 + 1) hS H0 hT6 (by decide) h1
    rcases a5 with ⟨p1, b1, b2, b3⟩ | ⟨x1, p1, b1, b2, b3⟩
    · subst b1
      obtain ⟨m2, d1, d2, d3, d4⟩ := M_bad (f := 4996 + 1 + 1) (k := 1) hS hT6 a4 b2
      rw [b3]
      exact ⟨m2, (F0.tr a1.t).tr d1, d2, Or.inl ⟨p1, (Option.some.inj h).symm, d3, d4⟩⟩
    · subst b1
      rw [b3]
      change (match rpS (tkT tp n) 1 p1 x1 with | none => none | some (none, p) => some (Sum.inr p) | some (some x2, p2) => _) = some r at h
      cases h2 : rpS (tkT tp n) 1 p1 x1 with
      | none => rw [h2] at h; cases h
      | some R2 =>
        rw [h2] at h
        obtain ⟨m2, g1, g2, g3, g4, g5⟩ := M_part (f := 4996 + 1 + 1) hS b2 hT6 (by decide) h2
        rcases g5 with ⟨p2, i1, i2, i3⟩ | ⟨x2, p2, i1, i2, i3⟩
        · subst i1
          obtain ⟨m3, d1, d2, d3, d4⟩ := M_bad (f := 4996 + 1) (k := 2) hS hT6 g4 i2
          rw [i3]
          exact ⟨m3, ((F0.tr a1.t).tr g1.t).tr d1, d2, Or.inl ⟨p2, (Option.some.inj h).symm, d3, d4⟩⟩
        · subst i1
          rw [i3]
          change (match rpS (tkT tp n) 2 p2 x2 with | none => none | some (none, p) => some (Sum.inr p) | some (some x3, p3) => _) = some r at h
          cases h3 : rpS (tkT tp n) 2 p2 x2 with
          | none => rw [h3] at h; cases h
          | some R3 =>
            rw [h3] at h
            obtain ⟨m3, j1, j2, j3, j4, j5⟩ := M_part (f := 4996 + 1) hS i2 hT6 (by decide) h3
            rcases j5 with ⟨p3, u1, u2, u3⟩ | ⟨x3, p3, u1, u2, u3⟩
            · subst u1
              obtain ⟨m4, d1, d2, d3, d4⟩ := M_bad (f := 4996) (k := 3) hS hT6 j4 u2
              rw [u3]
              exact ⟨m4, (((F0.tr a1.t).tr g1.t).tr j1.t).tr d1, d2, Or.inl ⟨p3, (Option.some.inj h).symm, d3, d4⟩⟩
            · subst u1
              rw [u3]
              change (if (tkT tp n p3).1 = 257 then _ else _) = some r at h
              obtain ⟨v1, v2, v3, v4, v5, v6, v7⟩ := u2
              have hnx := tk_next (tp := tp) v6
              have ht : (tkT tp n p3).1 ≤ 258 := hnx.2.2.2 (fun k hk => (v1.2.2.1 k hk).2)
              obtain ⟨m4, y1, y2, y3, y4, y5, y6⟩ := M_tok hS v1 v5 v6
              have q15 : m4 50 15 = nI T := by rw [y1 50 15 (by omega)]; exact v4
              have q32 : m4 50 32 = nI x3.length := by rw [y1 50 32 (by omega)]; exact v2
              have F4 : TFr T m m4 := (((F0.tr a1.t).tr g1.t).tr j1.t).tr (fun b j b1 b2 b3 b4 => y1 b j (by omega))
              have rt0 : m4 50 26 = 0 ↔ (tkT tp n p3).1 = 257 := by
                rw [y4]
                refine (rt_eq (c := 0) ht (by decide)).trans ?_
                unfold rtN
                repeat' split
                all_goals omega
              have e122 : ∀ l1 : Int32, f_X9_text_122 (mk S m4) (some 50) l1 = if l1 = 0 then some ((-100 : Int32) - nI (tpP tp n p3), mk S (w2 (w2 m4 57 (4 * T + 3) (nI x3.length)) 50 12 0)) else some (nI T, mk S (w2 (w2 (w2 m4 57 (4 * T + 3) (nI x3.length)) 50 12 0) 50 15 (nI (T + 1)))) := fun l1 => by
                unfold f_X9_text_122
                rw [gR_k hk, Option.bind_some, rk50_14 hS, gI_k hk, Option.bind_some, q15, gI_k hk, Option.bind_some, q32, show (4 : Int32) * nI T + (3 : Int32) = nI (4 * T + 3) from by
                  rw [show (4 : Int32) * nI T = nI (4 * T) from pk_mul 4 T]
                  exact nI_add _ 3, sI_n (sk57 hS) (show 4 * T + 3 < 24 by omega) (by decide), Option.bind_some, pI_k hk, Option.bind_some]
                by_cases cl : l1 = 0
                · rw [if_pos cl, if_pos cl, gI_k hk, Option.bind_some, w2_ap, if_neg (by omega), w2_ap, if_neg (by omega), y3]
                · rw [if_neg cl, if_neg cl, gI_k hk, Option.bind_some, w2_ap, if_neg (by omega), w2_ap, if_neg (by omega), q15, pI_k hk, Option.bind_some, gI_k hk, Option.bind_some, w2_ap, if_pos ⟨rfl, rfl⟩, show nI T + (1 : Int32) = nI (T + 1) from nI_add T 1, show nI (T + 1) - (1 : Int32) = nI T from by
                    rw [show (1 : Int32) = nI 1 from rfl, pk_sub (by omega)]
                    rfl]
              have e101 : f_X9_text_26 (4996 + 1) (mk S m3) (some 50) 1 (nI (2 + 1)) = f_X9_text_122 (mk S m4) (some 50) (if (tkT tp n p3).1 = 257 then 1 else 0) := by
                show fb_X9_text_26 (f_X9_text_26 4996) (mk S m3) (some 50) 1 (nI 3) = _
                unfold fb_X9_text_26 f_X9_text_101 f_X9_text_121
                rw [if_neg (show ¬ nI 3 < (3 : Int32) by decide), if_neg (show ¬ (1 : Int32) = 0 by decide), vc_k hk, y6, Option.bind_some, gI_k hk, Option.bind_some]
                by_cases c : (tkT tp n p3).1 = 257
                · rw [if_pos (rt0.2 c), if_pos c]
                · rw [if_neg (fun y => c (rt0.1 y)), if_neg c]
              rw [e101, e122]
              have Ff : TFr T m (w2 (w2 m4 57 (4 * T + 3) (nI x3.length)) 50 12 0) := F4.tr (fun b j b1 b2 b3 b4 => by rw [w2_ap, if_neg (by omega), w2_ap, if_neg (by omega)])
              by_cases c : (tkT tp n p3).1 = 257
              · rw [if_pos c] at h
                rw [if_pos c, if_neg (show ¬ (1 : Int32) = 0 by decide)]
                have k57 : ∀ j, j ≠ 4 * T + 3 → w2 (w2 (w2 m4 57 (4 * T + 3) (nI x3.length)) 50 12 0) 50 15 (nI (T + 1)) 57 j = m3 57 j := fun j hj => by
                  rw [w2_ap, if_neg (by omega), w2_ap, if_neg (by omega), w2_ap, if_neg (by omega), y1 57 j (by omega)]
                refine ⟨_, Ff.tr (fun b j b1 b2 b3 b4 => by rw [w2_ap, if_neg (by omega)]), ?_, Or.inr ⟨x1, x2, x3, (Option.some.inj h).symm, ?_, ?_, ?_, ?_, ?_, ?_, by omega, rfl⟩⟩
                · rw [w2_ap, if_neg (by omega), w2_ap, if_pos ⟨rfl, rfl⟩]; rfl
                · rw [w2_ap, if_pos ⟨rfl, rfl⟩]
                · exact v3.ag (funext fun j => by rw [w2_ap, if_neg (by omega), w2_ap, if_neg (by omega), w2_ap, if_neg (by omega), y1 56 j (by omega)])
                · rw [k57 _ (by omega), j1 57 _ (by omega) (by omega) (by omega) (by omega), g1 57 _ (by omega) (by omega) (by omega) (by omega)]
                  exact a2
                · rw [k57 _ (by omega), j1 57 _ (by omega) (by omega) (by omega) (by omega)]
                  exact g2
                · rw [k57 _ (by omega)]
                  exact j2
                · rw [w2_ap, if_neg (by omega), w2_ap, if_neg (by omega), w2_ap, if_pos ⟨rfl, rfl⟩]
              · rw [if_neg c] at h
                rw [if_neg c, if_pos rfl]
                refine ⟨_, Ff, ?_, Or.inl ⟨p3, (Option.some.inj h).symm, ?_, rfl⟩⟩
                · rw [w2_ap, if_pos ⟨rfl, rfl⟩]; rfl
                · rw [w2_ap, if_neg (by omega), w2_ap, if_neg (by omega)]; exact q15
