/-! PURE: the class's constructor reads the law it begins with -/
def lw0 (k : Nat) : Nat := (wT.getD 0 []).getD k 0
theorem tx0 : txS (tkT lw0 42) = some (Sum.inl ([1, 100000, 15], [1, 100000, 15] ++ [100020], [1, 100000, 15] ++ [100020] ++ [3])) := by decide +kernel
theorem W_add {S : SK} {m : Nat → Nat → Int32} {z : Nat} {v : Int32} (hS : RdOK S) (h : m 33 3 = nI z) (hz : z < 160) : f_X3_add (mk S m) (some 33) v = some (mk S (w2 (w2 m 34 z v) 33 3 (nI (z + 1)))) := by
  have hk3 : (sh S 33).1 = 3 := by rw [rd33 hS]
  unfold f_X3_add
  rw [gI_k hk3, h, Option.bind_some, if_pos (show nI z < (160 : Int32) from nI_lt (b := 160) hz (by decide)), gR_k hk3, rr33_0 hS, Option.bind_some, Option.bind_some, sI_n (rd34 hS) hz (by decide), Option.bind_some, gI_k hk3, w2_ap, if_neg (by omega), h, Option.bind_some, pI_k hk3, Option.bind_some, show nI z + (1 : Int32) = nI (z + 1) from nI_add _ 1]
theorem W_loop {S : SK} (hS : RdOK S) : ∀ (r f i : Nat) (m : Nat → Nat → Int32), i + r = 42 → r < f → m 33 3 = nI i → (∀ k, k < i → m 34 k = nI (lw0 k)) → ∃ m2, f_X3_write_2 f (mk S m) (some 33) 0 (nI i) = some (mk S m2) ∧ m2 33 3 = nI 42 ∧ (∀ k, k < 42 → m2 34 k = nI (lw0 k)) ∧ ∀ b j, b ≠ 34 → ¬ (b = 33 ∧ j = 3) → m2 b j = m b j := by
  have hk3 : (sh S 33).1 = 3 := by rw [rd33 hS]
  have hl : (wT.getD 0 []).length = 42 := by decide +kernel
  intro r
  induction r with
  | zero =>
    intro f i m hi hf h3 ha
    obtain ⟨f, rfl⟩ : ∃ k, f = k + 1 := ⟨f - 1, by omega⟩
    have hi : i = 42 := by omega
    subst hi
    refine ⟨m, ?_, h3, ha, fun _ _ _ _ => rfl⟩
    show fb_X3_write_2 (f_X3_write_2 f) (mk S m) (some 33) 0 (nI 42) = _
    unfold fb_X3_write_2
    rw [show vk 0 (f_J0_length (mk S m) 0) = _ from J0_len (h := mk S m) (k := 0) (by decide), Option.bind_some, hl, if_neg (show ¬ nI 42 < nI 42 by decide)]
  | succ r ih =>
    intro f i m hi hf h3 ha
    obtain ⟨f, rfl⟩ : ∃ k, f = k + 1 := ⟨f - 1, by omega⟩
    obtain ⟨m2, a1, a2, a3, a4⟩ := ih f (i + 1) (w2 (w2 m 34 i (nI (lw0 i))) 33 3 (nI (i + 1))) (by omega) (by omega) (by rw [w2_ap, if_pos ⟨rfl, rfl⟩]) (fun k hk => by
      rw [w2_ap, if_neg (by omega), w2_ap]
      by_cases c : k = i
      · rw [if_pos ⟨rfl, c⟩, c]
      · rw [if_neg (by omega)]
        exact ha k (by omega))
    refine ⟨m2, ?_, a2, a3, fun b j h1 h2 => ?_⟩
    · show fb_X3_write_2 (f_X3_write_2 f) (mk S m) (some 33) 0 (nI i) = _
      unfold fb_X3_write_2
      rw [show vk 0 (f_J0_length (mk S m) 0) = _ from J0_len (h := mk S m) (k := 0) (by decide), Option.bind_some, hl, if_pos (show nI i < nI 42 from nI_lt (by omega) (by decide))]
      show ((vk 0 (f_J0_charAt (mk S m) 0 (nI i))).bind fun q2 => (vc q2.2 3 (some 33) (f_X3_add q2.2 (some 33) q2.1)).bind fun q3 => bnd (nI i + (1 : Int32)) fun v4 => f_X3_write_2 f q3 (some 33) 0 v4) = _
      rw [show vk 0 (f_J0_charAt (mk S m) 0 (nI i)) = _ from J0_char (h := mk S m) (k := 0) (by decide) (show i < (wT.getD 0 []).length by omega), Option.bind_some]
      show ((vc (mk S m) 3 (some 33) (f_X3_add (mk S m) (some 33) (nI (lw0 i)))).bind fun q3 => bnd (nI i + (1 : Int32)) fun v4 => f_X3_write_2 f q3 (some 33) 0 v4) = _
      rw [vc_k hk3, W_add hS h3 (by omega), Option.bind_some, bnd_eq, show nI i + (1 : Int32) = nI (i + 1) from nI_add i 1]
      exact a1
    · rw [a4 b j h1 h2, w2_ap, if_neg (by omega), w2_ap, if_neg (by omega)]
theorem lw0_b : ∀ k, k < 42 → lw0 k ≤ 255 := by decide +kernel
def pr0 : Nat → List Nat := prT [1, 100000, 15] [100020] [3]
def fr0 : Nat → Nat := frT [1, 100000, 15] [100020]
theorem X8_T8 {S : SK} {m : Nat → Nat → Int32} (hS : RdOK S) (h46 : S.1 = 46) (h0 : sh S 0 = (8, 11)) (h2 : sh S 2 = (13, 6)) (r07 : rf S 0 7 = some 33) (h3 : m 33 3 = nI 0) (h36 : m 36 0 = nI 0) : ∃ S2 m2, T8 (mk S m) (some 0) (some 2) = some (mk S2 m2) ∧ S2.1 = 50 ∧ (∀ b, b < 46 → sh S2 b = sh S b) ∧ (∀ b j, b < 46 → b ≠ 2 ∨ j ≠ 0 → rf S2 b j = rf S b j) ∧ rf S2 2 0 = some 46 ∧ TxS S2 46 5 ∧ TxC m2 46 5 pr0 fr0 ∧ (∀ b, b < 46 → ¬ (b = 0 ∨ b = 33 ∨ b = 34 ∨ b = 35 ∨ b = 36) → m2 b = m b) ∧ m2 0 9 = nI 1 ∧ (∀ j, j ≠ 9 → m2 0 j = m 0 j) ∧ m2 33 3 = nI 0 ∧ m2 36 0 = nI 0 := by
  have hk3 : (sh S 33).1 = 3 := by rw [rd33 hS]
  have hk8 : (sh S 0).1 = 8 := by rw [h0]
  obtain ⟨m1, a1, a2, a3, a4⟩ := W_loop hS 42 FU 0 m rfl (by unfold FU; omega) h3 (fun k hk => by omega)
  have hT : TPc m1 42 lw0 := ⟨a2, by decide, fun k hk => ⟨a3 k hk, lw0_b k hk⟩⟩
  obtain ⟨m2, f1, f2, f3⟩ := C_read hS hT
  rcases f3 with ⟨cs1, cs2, cs3, u1, w1, w2', w3, ul, u2, u3, u4, u5, u6, u7⟩ | ⟨p, u1, u2, u3⟩
  rotate_left
  · rw [tx0] at u1
    cases u1
  rw [tx0] at u1
  have hx := Sum.inl.inj (Option.some.inj u1)
  have hx1 : cs1 = [1, 100000, 15] := (congrArg Prod.fst hx).symm
  have hx2 : cs1 ++ cs2 = [1, 100000, 15] ++ [100020] := (congrArg (fun z => z.2.1) hx).symm
  have hx3 : cs1 ++ cs2 ++ cs3 = [1, 100000, 15] ++ [100020] ++ [3] := (congrArg (fun z => z.2.2) hx).symm
  rw [hx2] at hx3
  rw [hx1] at hx2
  have hy2 : cs2 = [100020] := List.append_cancel_left hx2
  have hy3 : cs3 = [3] := List.append_cancel_left hx3
  subst hx1 hy2 hy3
  obtain ⟨S2, m3, v1, v2, v3, v4, v5, v6, v7, v8⟩ := C_make (N := 5) hS u3 (by decide)
  have m30 : m3 0 = m 0 := by
    rw [v5 0 (by omega) (by decide)]
    exact funext fun j => by rw [f1 0 j (by decide) (by decide) (Or.inl (by decide)), a4 0 j (by decide) (by omega)]
  have hA5 : (sh S2 46).1 = 5 := by rw [← h46, v4.1]
  have hs2 : sh S2 2 = (13, 6) := by rw [(v3 2 (by omega)).1]; exact h2
  have hsr : sR 13 5 (mk S2 m3) (some 2) (0 : Int32) (some 46) = some (mk (S2.1, S2.2.1, S2.2.2.1, w2 S2.2.2.2 2 0 (some 46)) m3) := by
    unfold sR
    rw [Option.bind_some, Option.bind_some, xs_mk, hs2, if_pos ⟨⟨rfl, hA5⟩, ixN (n := 0) (N := 6) (by decide) (by decide)⟩]
    rfl
  have hk83 : (sh (S2.1, S2.2.1, S2.2.2.1, w2 S2.2.2.2 2 0 (some 46)) 0).1 = 8 := by
    show (sh S2 0).1 = 8
    rw [(v3 0 (by omega)).1]
    exact hk8
  have rf3 : ∀ b j, b ≠ 2 ∨ j ≠ 0 → rf (S2.1, S2.2.1, S2.2.2.1, w2 S2.2.2.2 2 0 (some 46)) b j = rf S2 b j := fun b j hb => by
    show w2 S2.2.2.2 2 0 (some 46) b j = _
    rw [w2_ap, if_neg (by omega)]
    rfl
  refine ⟨(S2.1, S2.2.1, S2.2.2.1, w2 S2.2.2.2 2 0 (some 46)), w2 m3 0 9 1, ?_, by show S2.1 = 50; omega, fun b hb => ?_, fun b j hb hj => ?_, ?_, ?_, ?_, fun b hb hne => ?_, ?_, fun j hj => ?_, ?_, ?_⟩
  · unfold T8
    rw [gR_k hk8, Option.bind_some, r07, vc_k hk3, show f_X3_write (mk S m) (some 33) 0 = some (mk S m1) from a1, Option.bind_some, gR_k hk8, Option.bind_some, r07, vc_k hk3, u7, v1, Option.bind_some, h46]
    show ((sR 13 5 (mk S2 m3) (some 2) (0 : Int32) (some 46)).bind fun h10 => (pI h10 8 (some 0) 9 ((1 : Int32))).bind fun h11 => some h11) = _
    rw [hsr, Option.bind_some, pI_k hk83, Option.bind_some]
  · exact (v3 b (by omega)).1
  · exact (rf3 b j hj).trans ((v3 b (by omega)).2 j)
  · show w2 S2.2.2.2 2 0 (some 46) 2 0 = _
    rw [w2_ap, if_pos ⟨rfl, rfl⟩]
  · rw [h46] at v4
    obtain ⟨x1, x2, x3, x4, x5, x6, x7, x8⟩ := v4
    exact ⟨x1, (rf3 46 0 (Or.inl (by decide))).trans x2, (rf3 46 1 (Or.inl (by decide))).trans x3, (rf3 46 2 (Or.inl (by decide))).trans x4, x5, x6, x7, x8⟩
  · rw [h46] at v7 v8
    have e : ∀ b, b ≠ 0 → w2 m3 0 9 1 b = m3 b := fun b hb => w2_ne hb
    refine TxC.of (A := 46) w1 w2' w3 (u2.cpy (fun j _ hj => ?_)) ?_ ?_ ?_ ?_
    · rw [e _ (by decide), v7 j hj]
    · rw [e _ (by decide), v8 0 (by decide), f1 36 0 (by decide) (by decide) (Or.inr rfl), a4 36 0 (by decide) (by omega)]
      exact h36
    · rw [e _ (by decide), v8 1 (by decide)]; exact u4
    · rw [e _ (by decide), v8 2 (by decide)]; exact u5
    · rw [e _ (by decide), v8 3 (by decide)]; exact u6
  · rw [w2_ne (by omega), v5 b (by omega) (by omega)]
    exact funext fun j => by rw [f1 b j (by omega) (by omega) (Or.inl (by omega)), a4 b j (by omega) (by omega)]
  · rw [w2_ap, if_pos ⟨rfl, rfl⟩]; rfl
  · rw [w2_ap, if_neg (by omega), m30]
  · rw [w2_ne (by decide)]; exact v6
  · rw [w2_ne (by decide), v5 36 (by omega) (by decide), f1 36 0 (by decide) (by decide) (Or.inr rfl), a4 36 0 (by decide) (by omega)]
    exact h36
