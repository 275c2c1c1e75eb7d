/-! PURE: calls: copy -/
theorem X4_has {S : SK} {m : Nat → Nat → Int32} (hS : SkOK S) {s z p c : Nat} (hs : s < 4) (hz : z ≤ 40) (h2 : m (38 + 2 * s) 2 = nI z) (hp : p < 2 ^ 31) (hc : c < 2 ^ 31) : f_X4_hasRow (mk S m) (some (38 + 2 * s)) (nI p) (nI c) = some (if p + c ≤ z then 1 else 0, mk S m) := by
  obtain ⟨b1, b2, b3, b4⟩ := shS hS s hs
  have hk4 : (sh S (38 + 2 * s)).1 = 4 := by rw [b1]
  have z0 : f_X4_hasRow_30 (mk S m) = some (0, mk S m) := rfl
  have z1 : f_X4_hasRow_31 (mk S m) ((1 : Int32)) = some (1, mk S m) := rfl
  unfold f_X4_hasRow
  rw [if_neg (nI_pos hp), if_neg (nI_pos hc), gI_k hk4, h2, Option.bind_some, Option.bind_some]
  by_cases a : z < c
  · rw [if_pos (nI_lt a hc), if_neg (show ¬ p + c ≤ z by omega), z0]
  · rw [if_neg (nI_nlt (by omega) (by omega)), pk_sub (show c ≤ z by omega)]
    by_cases b : z - c < p
    · rw [if_pos (nI_lt b hp), if_neg (show ¬ p + c ≤ z by omega), z0]
    · rw [if_neg (nI_nlt (by omega) (by omega)), if_pos (show p + c ≤ z by omega), z1]
theorem X4_has_no {S : SK} {m : Nat → Nat → Int32} (hS : SkOK S) {s : Nat} {x y : Int32} (hs : s < 4) (h : x < 0 ∨ y < 0) : f_X4_hasRow (mk S m) (some (38 + 2 * s)) x y = some (0, mk S m) := by
  have z0 : f_X4_hasRow_30 (mk S m) = some (0, mk S m) := rfl
  unfold f_X4_hasRow
  by_cases a : x < 0
  · rw [if_pos a, z0]
  · rw [if_neg a, if_pos (h.resolve_left a), z0]
theorem M_cpf {S : SK} (hS : SkOK S) {a b c : Nat} (ha : a + c ≤ 160) (hb : b + c ≤ 160) (hab : b ≤ a) : ∀ (r f i : Nat) (m : Nat → Nat → Int32), i + r = c → r < f → ∃ m2, f_X9_copy_147 f (mk S m) (some 50) (nI c) (nI a) (nI b) (nI i) = some (nI c, mk S m2) ∧ (∀ k, i ≤ k → k < c → m2 62 (b + k) = m 62 (a + k)) ∧ (∀ j, j < b + i ∨ b + c ≤ j → m2 62 j = m 62 j) ∧ Ag (fun b => b = 62) m m2 := by
  have hk : (sh S 50).1 = 9 := by rw [sk50 hS]
  intro r
  induction r with
  | zero =>
    intro f i m hi hf
    obtain ⟨f, rfl⟩ : ∃ k, f = k + 1 := ⟨f - 1, by omega⟩
    have hi : i = c := by omega
    subst hi
    refine ⟨m, ?_, fun k _ _ => by omega, fun _ _ => rfl, Ag.rf⟩
    show fb_X9_copy_147 (f_X9_copy_147 f) (mk S m) (some 50) (nI i) (nI a) (nI b) (nI i) = _
    unfold fb_X9_copy_147
    rw [if_neg (nI_nlt (Nat.le_refl _) (by omega))]
  | succ r ih =>
    intro f i m hi hf
    obtain ⟨f, rfl⟩ : ∃ k, f = k + 1 := ⟨f - 1, by omega⟩
    obtain ⟨m2, e, h1, h2, ag⟩ := ih f (i + 1) (w2 m 62 (b + i) (m 62 (a + i))) (by omega) (by omega)
    refine ⟨m2, ?_, ?_, ?_, (Ag.w2 (Z := fun b => b = 62) Ag.rf rfl).tr ag⟩
    · show fb_X9_copy_147 (f_X9_copy_147 f) (mk S m) (some 50) (nI c) (nI a) (nI b) (nI i) = _
      unfold fb_X9_copy_147
      rw [if_pos (nI_lt (show i < c by omega) (by omega)), if_neg (nI_nlt hab (by omega))]
      unfold f_X9_copy_173
      rw [gR_k hk, rk50_22 hS, Option.bind_some, Option.bind_some, nI_add, rI_n (sk62 hS) (by omega) (by decide), Option.bind_some, nI_add, sI_n (sk62 hS) (by omega) (by decide), Option.bind_some, bnd_eq, show nI i + (1 : Int32) = nI (i + 1) from nI_add i 1]
      exact e
    · intro k k1 k2
      by_cases z : k = i
      · subst z
        rw [h2 _ (by omega), w2_ap, if_pos ⟨rfl, rfl⟩]
      · rw [h1 k (by omega) k2, w2_ap, if_neg (by omega)]
    · intro j hj
      rw [h2 j (by omega), w2_ap, if_neg (by omega)]
theorem M_cpb {S : SK} (hS : SkOK S) {a b c : Nat} (ha : a + c ≤ 160) (hb : b + c ≤ 160) (hab : a < b) : ∀ (r f i : Nat) (m : Nat → Nat → Int32), i + r = c → r < f → ∃ m2, f_X9_copy_147 f (mk S m) (some 50) (nI c) (nI a) (nI b) (nI i) = some (nI c, mk S m2) ∧ (∀ k, k < r → m2 62 (b + k) = m 62 (a + k)) ∧ (∀ j, j < b ∨ b + r ≤ j → m2 62 j = m 62 j) ∧ Ag (fun b => b = 62) m m2 := by
  have hk : (sh S 50).1 = 9 := by rw [sk50 hS]
  intro r
  induction r with
  | zero =>
    intro f i m hi hf
    obtain ⟨f, rfl⟩ : ∃ k, f = k + 1 := ⟨f - 1, by omega⟩
    have hi : i = c := by omega
    subst hi
    refine ⟨m, ?_, fun k _ => by omega, fun _ _ => rfl, Ag.rf⟩
    show fb_X9_copy_147 (f_X9_copy_147 f) (mk S m) (some 50) (nI i) (nI a) (nI b) (nI i) = _
    unfold fb_X9_copy_147
    rw [if_neg (nI_nlt (Nat.le_refl _) (by omega))]
  | succ r ih =>
    intro f i m hi hf
    obtain ⟨f, rfl⟩ : ∃ k, f = k + 1 := ⟨f - 1, by omega⟩
    obtain ⟨m2, e, h1, h2, ag⟩ := ih f (i + 1) (w2 m 62 (b + r) (m 62 (a + r))) (by omega) (by omega)
    refine ⟨m2, ?_, ?_, ?_, (Ag.w2 (Z := fun b => b = 62) Ag.rf rfl).tr ag⟩
    · show fb_X9_copy_147 (f_X9_copy_147 f) (mk S m) (some 50) (nI c) (nI a) (nI b) (nI i) = _
      unfold fb_X9_copy_147
      rw [if_pos (nI_lt (show i < c by omega) (by omega)), if_pos (nI_lt hab (by omega)), show nI c - ((1 : Int32)) = nI (c - 1) from pk_sub (show 1 ≤ c by omega), pk_sub (show i ≤ c - 1 by omega), show c - 1 - i = r by omega]
      unfold f_X9_copy_173
      rw [gR_k hk, rk50_22 hS, Option.bind_some, Option.bind_some, nI_add, rI_n (sk62 hS) (by omega) (by decide), Option.bind_some, nI_add, sI_n (sk62 hS) (by omega) (by decide), Option.bind_some, bnd_eq, show nI i + (1 : Int32) = nI (i + 1) from nI_add i 1]
      exact e
    · intro k k1
      by_cases z : k = r
      · subst z
        rw [h2 _ (by omega), w2_ap, if_pos ⟨rfl, rfl⟩]
      · rw [h1 k (by omega), w2_ap, if_neg (by omega)]
    · intro j hj
      rw [h2 j (by omega), w2_ap, if_neg (by omega)]
theorem M_cp {S : SK} (hS : SkOK S) {a b c : Nat} (ha : a + c ≤ 160) (hb : b + c ≤ 160) (m : Nat → Nat → Int32) : ∃ m2, f_X9_copy_147 FU (mk S m) (some 50) (nI c) (nI a) (nI b) (nI 0) = some (nI c, mk S m2) ∧ (∀ k, k < c → m2 62 (b + k) = m 62 (a + k)) ∧ (∀ j, j < b ∨ b + c ≤ j → m2 62 j = m 62 j) ∧ Ag (fun b => b = 62) m m2 := by
  by_cases h : a < b
  · exact M_cpb hS ha hb h c FU 0 m (by omega) (by unfold FU; omega)
  · obtain ⟨m2, e, h1, h2, ag⟩ := M_cpf hS ha hb (by omega) c FU 0 m (by omega) (by unfold FU; omega)
    exact ⟨m2, e, fun k hk => h1 k (Nat.zero_le _) hk, h2, ag⟩
theorem cp_n {S : SK} {m : Nat → Nat → Int32} {a b A B p r c : Nat} (ha : sh S a = (10, A)) (hb : sh S b = (10, B)) (hp : p + c ≤ A) (hr : r + c ≤ B) (hA : A < 2 ^ 31) (hB : B < 2 ^ 31) : cp (mk S m) (some a) (nI p) (some b) (nI r) (nI c) = some (mk S (fun x => if x = b then va_cpy (m a) (m b) p r c else m x)) := by
  unfold cp
  have c1 := nI_clamp (show p < 2 ^ 31 by omega)
  have c2 := nI_clamp (show r < 2 ^ 31 by omega)
  have c3 := nI_clamp (show c < 2 ^ 31 by omega)
  rw [Option.bind_some, Option.bind_some, c1, c2, c3]
  have e1 : xs (mk S m) a = (10, A) := ha
  have e2 : xs (mk S m) b = (10, B) := hb
  rw [if_pos ⟨⟨by rw [e1], by rw [e2]⟩, ⟨nI_pos (by omega), nI_pos (by omega), nI_pos (by omega)⟩, by rw [e1]; exact hp, by rw [e2]; exact hr⟩]
  rfl
theorem op_copy {S : SK} {m : Nat → Nat → Int32} (hR : RR S m) (x y z u v : Int32) : RES (f_X8_copy (mk S m) (some 0) x y z u v) (fun S1 m1 => f_X9_copy (mk S1 m1) (some 50) x y z u v) := by
  have hR0 := hR
  have hS := hR.ok
  have hk8 : (sh S 0).1 = 8 := by rw [sk0 hS]
  have hk1 : (sh S 3).1 = 1 := by rw [sk3 hS]
  have hk : (sh S 50).1 = 9 := by rw [sk50 hS]
  obtain ⟨d, P, N, l, T, wh, kd, td, mo, prs, q, h⟩ := hR
  obtain ⟨hl, ⟨g1, g2, g3⟩, hO⟩ := h
  rcases i_in x (n := 4) (by decide) with ⟨s, hs, rfl⟩ | hno
  rotate_left
  · have x1 := one_n hno
    refine op_same (a := -2) hR0 ?_ ?_
    · unfold f_X8_copy
      rw [X8_isSheet, x1, Option.bind_some, if_pos rfl]
      rfl
    · show f_X9_copy (mk S m) (some 50) x y z u v = _
      unfold f_X9_copy
      rw [X9_in4, x1, Option.bind_some, if_pos rfl]
      rfl
  have x1 := one_y hs (show (4 : Nat) < 2 ^ 31 by decide)
  rcases i_in z (n := 4) (by decide) with ⟨t, ht, rfl⟩ | hno
  rotate_left
  · have x2 := one_n hno
    refine op_same (a := -2) hR0 ?_ ?_
    · unfold f_X8_copy
      rw [X8_isSheet, x1, Option.bind_some, if_neg (show ¬ (1 : Int32) = 0 by decide), X8_isSheet, x2, Option.bind_some, if_pos rfl]
      rfl
    · show f_X9_copy (mk S m) (some 50) (nI s) y z u v = _
      unfold f_X9_copy
      rw [X9_in4, x1, Option.bind_some, if_neg (show ¬ (1 : Int32) = 0 by decide), X9_in4, x2, Option.bind_some, if_pos rfl]
      rfl
  have x2 := one_y ht (show (4 : Nat) < 2 ^ 31 by decide)
  obtain ⟨b1, b2, b3, b4⟩ := shS hS s hs
  obtain ⟨d1, d2, d3, d4⟩ := shS hS t ht
  have hks : (sh S (38 + 2 * s)).1 = 4 := by rw [b1]
  have hkt : (sh S (38 + 2 * t)).1 = 4 := by rw [d1]
  obtain ⟨q1, q2, q3, q4, n, hn, q5⟩ := hO.2.2.1 s hs
  obtain ⟨t1, t2, t3, t4, o, ho, t5⟩ := hO.2.2.1 t ht
  have hx : f_X8_copy (mk S m) (some 0) (nI s) y (nI t) u v = if m (38 + 2 * s) 1 = (-1 : Int32) then some (-11, mk S m) else if m (38 + 2 * t) 1 = (-1 : Int32) then some (-11, mk S m) else if m (38 + 2 * s) 1 = m (38 + 2 * t) 1 then ((f_X4_hasRow (mk S m) (some (38 + 2 * s)) y v).bind fun q11 => if q11.1 = 0 then (f_X8_copy_93 q11.2) else ((vc q11.2 4 (some (38 + 2 * t)) (f_X4_hasRow q11.2 (some (38 + 2 * t)) u v)).bind fun q12 => if q12.1 = 0 then (f_X8_copy_93 q12.2) else ((gR q12.2 4 (some (38 + 2 * s)) 0).bind fun v13 => (gR q12.2 4 (some (38 + 2 * t)) 0).bind fun v14 => (cp q12.2 v13 y v14 u v).bind fun h15 => some (v, h15)))) else (some ((-13 : Int32), mk S m)) := by
    unfold f_X8_copy
    rw [X8_isSheet, x1, Option.bind_some, if_neg (show ¬ (1 : Int32) = 0 by decide), X8_isSheet, x2, Option.bind_some, if_neg (show ¬ (1 : Int32) = 0 by decide), r0_8 hS, Option.bind_some, rR37 hS hs, Option.bind_some, Option.bind_some, rR37 hS ht, Option.bind_some, gI_k hks, Option.bind_some, gI_k hkt, Option.bind_some, Option.bind_some, Option.bind_some, vc_k hks]
    rfl
  have hy : ∀ m', m' 60 = m 60 → m' 61 = m 61 → f_X9_copy (mk S m') (some 50) (nI s) y (nI t) u v = if m (38 + 2 * s) 1 = (-1 : Int32) then some (-11, mk S m') else if m (38 + 2 * t) 1 = (-1 : Int32) then some (-11, mk S m') else if m (38 + 2 * s) 1 = m (38 + 2 * t) 1 then (if v < 0 then some (-12, mk S m') else if y < 0 then some (-12, mk S m') else if u < 0 then some (-12, mk S m') else if nI n < y then some (-12, mk S m') else if nI o < u then some (-12, mk S m') else if nI n - y < v then some (-12, mk S m') else if nI o - u < v then some (-12, mk S m') else f_X9_copy_147 FU (mk S m') (some 50) v (nI (40 * s) + y) (nI (40 * t) + u) (nI 0)) else some (-13, mk S m') := by
    intro m' e60 e61
    unfold f_X9_copy
    rw [X9_in4, x1, Option.bind_some, if_neg (show ¬ (1 : Int32) = 0 by decide), X9_in4, x2, Option.bind_some, if_neg (show ¬ (1 : Int32) = 0 by decide), gR_k hk, rk50_20 hS, gR_k hk, rk50_21 hS]
    repeat rw [Option.bind_some]
    rw [rI_n (sk60 hS) hs (by decide), e60, q1]
    repeat rw [Option.bind_some]
    rw [rI_n (sk60 hS) ht (by decide), e60, t1]
    repeat rw [Option.bind_some]
    rw [rI_n (sk61 hS) hs (by decide), e61, q2, q5]
    repeat rw [Option.bind_some]
    rw [rI_n (sk61 hS) ht (by decide), e61, t2, t5]
    repeat rw [Option.bind_some]
    rw [bnd_eq, bnd_eq, show (40 : Int32) * nI s = nI (40 * s) from pk_mul 40 s, show (40 : Int32) * nI t = nI (40 * t) from pk_mul 40 t]
    rfl
  have hy0 := hy m rfl rfl
  by_cases w1 : m (38 + 2 * s) 1 = -1
  · refine op_same (a := -11) hR0 ?_ ?_
    · rw [hx, if_pos w1]
    · show f_X9_copy (mk S m) (some 50) (nI s) y (nI t) u v = _
      rw [hy0, if_pos w1]
  by_cases w2' : m (38 + 2 * t) 1 = -1
  · refine op_same (a := -11) hR0 ?_ ?_
    · rw [hx, if_neg w1, if_pos w2']
    · show f_X9_copy (mk S m) (some 50) (nI s) y (nI t) u v = _
      rw [hy0, if_neg w1, if_pos w2']
  by_cases w3 : m (38 + 2 * s) 1 = m (38 + 2 * t) 1
  rotate_left
  · refine op_same (a := -13) hR0 ?_ ?_
    · rw [hx, if_neg w1, if_neg w2', if_neg w3]
    · show f_X9_copy (mk S m) (some 50) (nI s) y (nI t) u v = _
      rw [hy0, if_neg w1, if_neg w2', if_neg w3]
  rw [if_neg w1, if_neg w2', if_pos w3] at hx hy0
  have f93 : f_X8_copy_93 (mk S m) = some (-12, mk S m) := rfl
  by_cases k1 : v < 0
  · refine op_same (a := -12) hR0 ?_ ?_
    · rw [hx, X4_has_no hS hs (Or.inr k1), Option.bind_some, if_pos rfl, f93]
    · show f_X9_copy (mk S m) (some 50) (nI s) y (nI t) u v = _
      rw [hy0, if_pos k1]
  by_cases k2 : y < 0
  · refine op_same (a := -12) hR0 ?_ ?_
    · rw [hx, X4_has_no hS hs (Or.inl k2), Option.bind_some, if_pos rfl, f93]
    · show f_X9_copy (mk S m) (some 50) (nI s) y (nI t) u v = _
      rw [hy0, if_neg k1, if_pos k2]
  obtain ⟨c, hc, rfl⟩ := i_of k1
  obtain ⟨p, hp, rfl⟩ := i_of k2
  rw [X4_has hS hs hn q5 hp hc, Option.bind_some] at hx
  by_cases k3 : u < 0
  · refine op_same (a := -12) hR0 ?_ ?_
    · rw [hx]
      by_cases g : p + c ≤ n
      · rw [if_pos g, if_neg (show ¬ (1 : Int32) = 0 by decide), vc_k hkt, X4_has_no hS ht (Or.inl k3), Option.bind_some, if_pos rfl, f93]
      · rw [if_neg g, if_pos rfl, f93]
    · show f_X9_copy (mk S m) (some 50) (nI s) _ (nI t) u _ = _
      rw [hy0, if_neg k1, if_neg k2, if_pos k3]
  obtain ⟨r, hr, rfl⟩ := i_of k3
  rw [vc_k hkt, X4_has hS ht ho t5 hr hc, Option.bind_some] at hx
  by_cases g : p + c ≤ n ∧ r + c ≤ o
  · obtain ⟨j1, j2⟩ := g
    have hxx : f_X8_copy (mk S m) (some 0) (nI s) (nI p) (nI t) (nI r) (nI c) = some (nI c, mk S (fun x => if x = 39 + 2 * t then va_cpy (m (39 + 2 * s)) (m (39 + 2 * t)) p r c else m x)) := by
      rw [hx, if_pos j1, if_neg (show ¬ (1 : Int32) = 0 by decide), if_pos j2, if_neg (show ¬ (1 : Int32) = 0 by decide), gR_k hks, b3, Option.bind_some, gR_k hkt, d3, Option.bind_some, cp_n b2 d2 (by omega) (by omega) (by decide) (by decide), Option.bind_some]
    obtain ⟨m1, hm1⟩ : ∃ m1, m1 = (fun x => if x = 39 + 2 * t then va_cpy (m (39 + 2 * s)) (m (39 + 2 * t)) p r c else m x) := ⟨_, rfl⟩
    rw [← hm1] at hxx
    have a1 : ∀ b, b ≠ 39 + 2 * t → m1 b = m b := fun b hb => by rw [hm1]; exact if_neg hb
    have a2 : m1 (39 + 2 * t) = va_cpy (m (39 + 2 * s)) (m (39 + 2 * t)) p r c := by rw [hm1]; exact if_pos rfl
    have ag1 : Ag (fun b => b = 39 + 2 * t) m m1 := fun b hb => a1 b hb
    obtain ⟨m2, i1, i2, i3, ag2⟩ := M_cp hS (a := 40 * s + p) (b := 40 * t + r) (c := c) (by omega) (by omega) m1
    have agc : Ag (ZJS S) m m1 := ag1.mono (fun b hb => Or.inr (by omega))
    have hM1 := g2.ofC ag1 (fun b hb => by omega)
    have agm : AgM (fun b => b = 62) J0 m1 m2 := AgM.of ag2 (by omega)
    have hM2 := hM1.ag agm (fun b hb => by omega) (fun j _ => id)
    have nc : ∀ b, b ≠ 62 → m2 b = m1 b := fun b hb => ag2 b hb
    have hsh : RSh m2 := by
      refine hO.2.2.1.set ht (fun j hj => ?_) (fun j hj => ?_) (fun j hj => ?_) (fun b hb h1 h2 => ?_) ⟨?_, ?_, ?_, ?_, o, ho, ?_⟩
      · rw [nc 60 (by omega), a1 60 (by omega)]
      · rw [nc 61 (by omega), a1 61 (by omega)]
      · rw [i3 j (by omega), a1 62 (by omega)]
      · rw [nc b (by omega), a1 b h2]
      · rw [nc 60 (by omega), a1 60 (by omega), nc _ (by omega), a1 _ (by omega), t1]
      · rw [nc 61 (by omega), a1 61 (by omega), nc _ (by omega), a1 _ (by omega), t2]
      · intro k hk40
        rw [nc (39 + 2 * t) (by omega), a2]
        unfold va_cpy
        by_cases w : r ≤ k ∧ k < r + c
        · rw [if_pos w, show 40 * t + k = 40 * t + r + (k - r) by omega, i2 (k - r) (by omega), a1 62 (by omega), show 40 * s + p + (k - r) = 40 * s + (p + (k - r)) by omega]
          exact q3 _ (by omega)
        · rw [if_neg w, i3 _ (by omega), a1 62 (by omega)]
          exact t3 k hk40
      · rw [nc _ (by omega), a1 _ (by omega)]
        exact t4
      · rw [nc _ (by omega), a1 _ (by omega)]
        exact t5
    refine op_mk (a := nI c) (S1 := S) (m1 := m1) (S2 := S) (m2 := m2) hxx ?_ ⟨d, P, N, l, T, wh, kd, td, mo, prs, q, RP.sheet (L := lg S) ⟨hl, ⟨g1, g2, g3⟩, hO⟩ agc (agm.mono (fun b hb => by unfold ZMS; omega) (fun _ u => u.elim)) hM2 ?_ hsh⟩
    · show f_X9_copy (mk S m1) (some 50) (nI s) (nI p) (nI t) (nI r) (nI c) = _
      rw [hy m1 (a1 60 (by omega)) (a1 61 (by omega)), if_neg w1, if_neg w2', if_pos w3, if_neg k1, if_neg k2, if_neg k3, if_neg (nI_nlt (show p ≤ n by omega) (by omega)), if_neg (nI_nlt (show r ≤ o by omega) (by omega)), pk_sub (show p ≤ n by omega), pk_sub (show r ≤ o by omega), if_neg (nI_nlt (show c ≤ n - p by omega) (by omega)), if_neg (nI_nlt (show c ≤ o - r by omega) (by omega)), nI_add, nI_add]
      exact i1
    · rw [agm.2 37 id, a1 50 (by omega)]
      exact g3
  · refine op_same (a := -12) hR0 ?_ ?_
    · rw [hx]
      by_cases g1' : p + c ≤ n
      · rw [if_pos g1', if_neg (show ¬ (1 : Int32) = 0 by decide), if_neg (fun g2' => g ⟨g1', g2'⟩), if_pos rfl, f93]
      · rw [if_neg g1', if_pos rfl, f93]
    · show f_X9_copy (mk S m) (some 50) (nI s) (nI p) (nI t) (nI r) (nI c) = _
      rw [hy0, if_neg k1, if_neg k2, if_neg k3]
      by_cases e1 : n < p
      · rw [if_pos (nI_lt e1 hp)]
      rw [if_neg (nI_nlt (by omega) (by omega))]
      by_cases e2 : o < r
      · rw [if_pos (nI_lt e2 hr)]
      rw [if_neg (nI_nlt (by omega) (by omega)), pk_sub (show p ≤ n by omega), pk_sub (show r ≤ o by omega)]
      by_cases e3 : n - p < c
      · rw [if_pos (nI_lt e3 hc)]
      rw [if_neg (nI_nlt (by omega) (by omega)), if_pos (nI_lt (show o - r < c by omega) hc)]
