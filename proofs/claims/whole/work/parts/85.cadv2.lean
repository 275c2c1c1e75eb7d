/-! PURE: the class's advance, whole -/
theorem o_id {α : Type} (x : Option α) : (x.bind fun q => some q) = x := by cases x <;> rfl
theorem nv_lt {tp : Nat → Nat} {s : Nat} : ∀ j, (∀ i, i < j → isD (tp (s + i)) = true) → nvS tp s j < 10 ^ j := by
  intro j
  induction j with
  | zero => intro _; exact Nat.one_pos
  | succ j ih =>
    intro h
    have h1 := ih (fun i hi => h i (by omega))
    have h2 := h j (by omega)
    unfold isD at h2
    have h3 : 48 ≤ tp (s + j) ∧ tp (s + j) ≤ 57 := by simpa using h2
    show 10 * nvS tp s j + (tp (s + j) - 48) < 10 ^ (j + 1)
    rw [Nat.pow_succ]
    omega
theorem nv_lt4 {tp : Nat → Nat} {s j : Nat} (hj : j ≤ 4) (h : ∀ i, i < j → isD (tp (s + i)) = true) : nvS tp s j < 10000 := by
  have h1 := nv_lt j h
  have h2 : 10 ^ j ≤ 10 ^ 4 := Nat.pow_le_pow_right (by decide) hj
  omega
theorem nv_step {v t : Nat} (hv : v < 10000) (ht : 48 ≤ t ∧ t ≤ 57) : (((10 : Int32) * nI v) + nI t) - (48 : Int32) = nI (10 * v + (t - 48)) := by
  rw [show (10 : Int32) * nI v = nI (10 * v) from pk_mul 10 v, nI_add]
  show nI (10 * v + t) - nI 48 = _
  rw [pk_sub (by omega)]
  congr 1
  omega
theorem C_numE {S : SK} {tp : Nat → Nat} {m : Nat → Nat → Int32} {s j : Nat} (hS : RdOK S) (hj : s + j ≤ 160) (h5 : m 33 5 = nI (s + j)) (h6 : m 33 6 = nI s) (h8 : j ≤ 4 → m 33 8 = nI (nvS tp s j)) : ∃ m2, FrC m m2 ∧ m2 33 5 = nI (s + j) ∧ m2 33 6 = nI s ∧ m2 33 7 = nI (if 4 < j then 258 else 256) ∧ (j ≤ 4 → m2 33 8 = nI (nvS tp s j)) ∧ f_X3_takeNumber_81 (mk S m) (some 33) = some (mk S m2) := by
  have hk : (sh S 33).1 = 3 := by rw [rd33 hS]
  refine ⟨w2 m 33 7 (nI (if 4 < j then 258 else 256)), FrC.w (by omega), ?_, ?_, ?_, ?_, ?_⟩
  · rw [w2_ap, if_neg (by omega)]; exact h5
  · rw [w2_ap, if_neg (by omega)]; exact h6
  · rw [w2_ap, if_pos ⟨rfl, rfl⟩]
  · intro hj4
    rw [w2_ap, if_neg (by omega)]; exact h8 hj4
  · unfold f_X3_takeNumber_81 f_X3_takeNumber_104
    rw [gI_k hk, Option.bind_some, gI_k hk, Option.bind_some, h5, h6, pk_sub (by omega), show s + j - s = j by omega]
    by_cases c : 4 < j
    · rw [if_pos (show (4 : Int32) < nI j from nI_lt (a := 4) c (by omega)), if_pos c, pI_k hk, Option.bind_some]
      rfl
    · rw [if_neg (show ¬ (4 : Int32) < nI j from nI_nlt (a := 4) (by omega) (by decide)), if_neg c, pI_k hk, Option.bind_some]
      rfl
theorem C_num {S : SK} {n : Nat} {tp : Nat → Nat} (hS : RdOK S) {s : Nat} : ∀ (r f j : Nat) (m : Nat → Nat → Int32), s + j + r = n → r < f → TPc m n tp → m 33 5 = nI (s + j) → m 33 6 = nI s → (j ≤ 4 → m 33 8 = nI (nvS tp s j)) → (∀ i, i < j → isD (tp (s + i)) = true) → ∃ m2, FrC m m2 ∧ m2 33 5 = nI (ruS isD tp r (s + j)) ∧ m2 33 6 = nI s ∧ m2 33 7 = nI (if 4 < ruS isD tp r (s + j) - s then 258 else 256) ∧ (ruS isD tp r (s + j) - s ≤ 4 → m2 33 8 = nI (nvS tp s (ruS isD tp r (s + j) - s)) ∧ nvS tp s (ruS isD tp r (s + j) - s) < 10000) ∧ f_X3_takeNumber_5 f (mk S m) (some 33) = some (mk S m2) := by
  have hk : (sh S 33).1 = 3 := by rw [rd33 hS]
  intro r
  induction r with
  | zero =>
    intro f j m hp hf hT h5 h6 h8 hd
    obtain ⟨f, rfl⟩ : ∃ k, f = k + 1 := ⟨f - 1, by omega⟩
    have hn := hT.2.1
    obtain ⟨m2, a1, a2, a3, a4, a5, a6⟩ := C_numE (tp := tp) hS (by omega) h5 h6 h8
    have e : ruS isD tp 0 (s + j) = s + j := rfl
    refine ⟨m2, a1, by rw [e]; exact a2, a3, ?_, ?_, ?_⟩
    · rw [e, show s + j - s = j by omega]; exact a4
    · rw [e, show s + j - s = j by omega]
      exact fun y => ⟨a5 y, nv_lt4 y hd⟩
    · show fb_X3_takeNumber_5 (f_X3_takeNumber_5 f) (mk S m) (some 33) = _
      unfold fb_X3_takeNumber_5
      rw [gI_k hk, gI_k hk, h5, hT.1, Option.bind_some, Option.bind_some, if_neg (nI_nlt (by omega) (by omega))]
      exact a6
  | succ r ih =>
    intro f j m hp hf hT h5 h6 h8 hd
    obtain ⟨f, rfl⟩ : ∃ k, f = k + 1 := ⟨f - 1, by omega⟩
    have hn := hT.2.1
    obtain ⟨t1, t2⟩ := hT.2.2 (s + j) (by omega)
    have eb : fb_X3_takeNumber_5 (f_X3_takeNumber_5 f) (mk S m) (some 33) = if (if isD (tp (s + j)) = true then (1 : Int32) else 0) = 0 then (f_X3_takeNumber_81 (mk S m) (some 33)) else if j < 4 then f_X3_takeNumber_68 (f_X3_takeNumber_5 f) (mk S (w2 m 33 8 ((((10 : Int32) * m 33 8) + nI (tp (s + j))) - (48 : Int32)))) (some 33) else f_X3_takeNumber_68 (f_X3_takeNumber_5 f) (mk S m) (some 33) := by
      unfold fb_X3_takeNumber_5
      rw [gI_k hk, gI_k hk, Option.bind_some, Option.bind_some, h5, hT.1, if_pos (nI_lt (by omega) (by omega)), gR_k hk, Option.bind_some, Option.bind_some, rr33_0 hS, rI_n (rd34 hS) (show s + j < 160 by omega) (by decide), Option.bind_some, t1, X3_isD t2, Option.bind_some]
      by_cases c1 : isD (tp (s + j)) = true
      · rw [if_pos c1, if_neg (show ¬ (1 : Int32) = 0 by decide), if_neg (show ¬ (1 : Int32) = 0 by decide)]
        show ((gI (mk S m) 3 (some 33) 5).bind fun v12 => (gI (mk S m) 3 (some 33) 6).bind fun v13 => if (v12 - v13) < ((4 : Int32)) then ((gI (mk S m) 3 (some 33) 8).bind fun v14 => (gR (mk S m) 3 (some 33) 0).bind fun v15 => (gI (mk S m) 3 (some 33) 5).bind fun v16 => (rI (mk S m) v15 v16).bind fun v17 => (pI (mk S m) 3 (some 33) 8 (((((10 : Int32)) * v14) + v17) - ((48 : Int32)))).bind fun h18 => f_X3_takeNumber_68 (f_X3_takeNumber_5 f) h18 (some 33)) else (f_X3_takeNumber_68 (f_X3_takeNumber_5 f) (mk S m) (some 33))) = _
        rw [gI_k hk, Option.bind_some, gI_k hk, Option.bind_some, h5, h6, pk_sub (by omega), show s + j - s = j by omega]
        by_cases c2 : j < 4
        · rw [if_pos (show nI j < (4 : Int32) from nI_lt (b := 4) c2 (by decide)), if_pos c2, gI_k hk, Option.bind_some, gR_k hk, Option.bind_some, rr33_0 hS, Option.bind_some, rI_n (rd34 hS) (show s + j < 160 by omega) (by decide), Option.bind_some, t1, pI_k hk, Option.bind_some]
        · rw [if_neg (show ¬ nI j < (4 : Int32) from nI_nlt (b := 4) (by omega) (by omega)), if_neg c2]
      · rw [if_neg c1, if_pos rfl, if_pos rfl]
    show ∃ m2, FrC m m2 ∧ _ ∧ _ ∧ _ ∧ _ ∧ fb_X3_takeNumber_5 (f_X3_takeNumber_5 f) (mk S m) (some 33) = _
    rw [eb]
    by_cases c1 : isD (tp (s + j)) = true
    · have e : ruS isD tp (r + 1) (s + j) = ruS isD tp r (s + (j + 1)) := by
        show (if isD (tp (s + j)) = true then _ else _) = _
        rw [if_pos c1]
        rfl
      rw [e, if_pos c1, if_neg (show ¬ (1 : Int32) = 0 by decide)]
      have c3 : 48 ≤ tp (s + j) ∧ tp (s + j) ≤ 57 := by
        unfold isD at c1
        simpa using c1
      have hd2 : ∀ i, i < j + 1 → isD (tp (s + i)) = true := fun i hi => by
        by_cases c4 : i = j
        · rw [c4]; exact c1
        · exact hd i (by omega)
      by_cases c2 : j < 4
      · rw [if_pos c2]
        have hF : FrC m (w2 (w2 m 33 8 (nI (nvS tp s (j + 1)))) 33 5 (nI (s + j + 1))) := (FrC.w (by omega)).tr (FrC.w (by omega))
        obtain ⟨m2, a1, a2, a3, a4, a5, a6⟩ := ih f (j + 1) (w2 (w2 m 33 8 (nI (nvS tp s (j + 1)))) 33 5 (nI (s + j + 1))) (by omega) (by omega) (hT.fr hF) (by rw [w2_ap, if_pos ⟨rfl, rfl⟩]; rfl) (by rw [w2_ap, if_neg (by omega), w2_ap, if_neg (by omega)]; exact h6) (fun _ => by rw [w2_ap, if_neg (by omega), w2_ap, if_pos ⟨rfl, rfl⟩]) hd2
        refine ⟨m2, hF.tr a1, a2, a3, a4, a5, ?_⟩
        unfold f_X3_takeNumber_68
        rw [h8 (by omega), nv_step (nv_lt4 (by omega) hd) c3, gI_k hk, Option.bind_some, w2_ap, if_neg (by omega), h5, pI_k hk, Option.bind_some, show nI (s + j) + (1 : Int32) = nI (s + j + 1) from nI_add _ 1]
        exact a6
      · rw [if_neg c2]
        have hF : FrC m (w2 m 33 5 (nI (s + j + 1))) := FrC.w (by omega)
        obtain ⟨m2, a1, a2, a3, a4, a5, a6⟩ := ih f (j + 1) (w2 m 33 5 (nI (s + j + 1))) (by omega) (by omega) (hT.fr hF) (by rw [w2_ap, if_pos ⟨rfl, rfl⟩]; rfl) (by rw [w2_ap, if_neg (by omega)]; exact h6) (fun y => by omega) hd2
        refine ⟨m2, hF.tr a1, a2, a3, a4, a5, ?_⟩
        unfold f_X3_takeNumber_68
        rw [gI_k hk, Option.bind_some, h5, pI_k hk, Option.bind_some, show nI (s + j) + (1 : Int32) = nI (s + j + 1) from nI_add _ 1]
        exact a6
    · have e : ruS isD tp (r + 1) (s + j) = s + j := by
        show (if isD (tp (s + j)) = true then _ else _) = _
        rw [if_neg c1]
      obtain ⟨m2, a1, a2, a3, a4, a5, a6⟩ := C_numE (tp := tp) hS (by omega) h5 h6 h8
      rw [e, if_neg c1, if_pos rfl]
      refine ⟨m2, a1, a2, a3, ?_, ?_, a6⟩
      · rw [show s + j - s = j by omega]; exact a4
      · rw [show s + j - s = j by omega]
        exact fun y => ⟨a5 y, nv_lt4 y hd⟩
theorem C_sign {S : SK} {m : Nat → Nat → Int32} {p b : Nat} (hS : RdOK S) (hb : b ≤ 255) (h5 : m 33 5 = nI p) : f_X3_takeSign (mk S m) (some 33) (nI b) = some (mk S (w2 (w2 m 33 7 (nI (if isSg b = true then b else 258))) 33 5 (nI (p + 1)))) := by
  have hk : (sh S 33).1 = 3 := by rw [rd33 hS]
  have e119 : ∀ v, f_X3_takeSign_119 (mk S (w2 m 33 7 v)) (some 33) = some (mk S (w2 (w2 m 33 7 v) 33 5 (nI (p + 1)))) := fun v => by
    unfold f_X3_takeSign_119
    rw [gI_k hk, Option.bind_some, w2_ap, if_neg (by omega), h5, pI_k hk, Option.bind_some, show nI p + (1 : Int32) = nI (p + 1) from nI_add p 1]
  have e104 : f_X3_takeSign_104 (mk S m) (some 33) (nI b) = some (mk S (w2 (w2 m 33 7 (nI b)) 33 5 (nI (p + 1)))) := by
    unfold f_X3_takeSign_104
    rw [pI_k hk, Option.bind_some, e119]
  have e112 : f_X3_takeSign_112 (mk S m) (some 33) = some (mk S (w2 (w2 m 33 7 (nI 258)) 33 5 (nI (p + 1)))) := by
    unfold f_X3_takeSign_112
    rw [pI_k hk, Option.bind_some]
    exact e119 _
  have ne : ∀ c : Nat, c ≤ 255 → b ≠ c → ¬ nI b = nI c := fun c hc h y => h ((nI_eq (by omega) (by omega)).1 y)
  have key : ∀ c : Nat, isSg b = true → f_X3_takeSign_104 (mk S m) (some 33) (nI b) = some (mk S (w2 (w2 m 33 7 (nI (if isSg b = true then b else 258))) 33 5 (nI (p + 1)))) := fun _ h => by
    rw [e104, if_pos h]
  unfold f_X3_takeSign
  by_cases c1 : b = 40
  · rw [if_pos (by rw [c1]; rfl)]; exact key 0 (by rw [c1]; rfl)
  rw [if_neg (show ¬ nI b = (40 : Int32) from ne 40 (by omega) c1)]
  by_cases c2 : b = 41
  · rw [if_pos (by rw [c2]; rfl)]; exact key 0 (by rw [c2]; rfl)
  rw [if_neg (show ¬ nI b = (41 : Int32) from ne 41 (by omega) c2)]
  by_cases c3 : b = 42
  · rw [if_pos (by rw [c3]; rfl)]; exact key 0 (by rw [c3]; rfl)
  rw [if_neg (show ¬ nI b = (42 : Int32) from ne 42 (by omega) c3)]
  by_cases c4 : b = 43
  · rw [if_pos (by rw [c4]; rfl)]; exact key 0 (by rw [c4]; rfl)
  rw [if_neg (show ¬ nI b = (43 : Int32) from ne 43 (by omega) c4)]
  by_cases c5 : b = 45
  · rw [if_pos (by rw [c5]; rfl)]; exact key 0 (by rw [c5]; rfl)
  rw [if_neg (show ¬ nI b = (45 : Int32) from ne 45 (by omega) c5)]
  by_cases c6 : b = 59
  · rw [if_pos (by rw [c6]; rfl)]; exact key 0 (by rw [c6]; rfl)
  rw [if_neg (show ¬ nI b = (59 : Int32) from ne 59 (by omega) c6)]
  by_cases c7 : b = 60
  · rw [if_pos (by rw [c7]; rfl)]; exact key 0 (by rw [c7]; rfl)
  rw [if_neg (show ¬ nI b = (60 : Int32) from ne 60 (by omega) c7)]
  by_cases c8 : b = 61
  · rw [if_pos (by rw [c8]; rfl)]; exact key 0 (by rw [c8]; rfl)
  rw [if_neg (show ¬ nI b = (61 : Int32) from ne 61 (by omega) c8), e112, if_neg (by unfold isSg; simp [c1, c2, c3, c4, c5, c6, c7, c8])]
theorem C_52 {S : SK} {m : Nat → Nat → Int32} {n s : Nat} {tp : Nat → Nat} (hS : RdOK S) (hT : TPc m n tp) (h5 : m 33 5 = nI s) (hsn : s ≤ n) : f_X3_advance_52 (mk S m) (some 33) = if n ≤ s then some (mk S (w2 (w2 m 33 6 (nI s)) 33 7 (nI 257))) else if isL (tp s) = true then f_X3_takeWord (mk S (w2 m 33 6 (nI s))) (some 33) else if isD (tp s) = true then f_X3_takeNumber (mk S (w2 m 33 6 (nI s))) (some 33) else f_X3_takeSign (mk S (w2 m 33 6 (nI s))) (some 33) (nI (tp s)) := by
  have hk : (sh S 33).1 = 3 := by rw [rd33 hS]
  have hn := hT.2.1
  have hT1 : TPc (w2 m 33 6 (nI s)) n tp := hT.fr (FrC.w (by omega))
  have g5 : w2 m 33 6 (nI s) 33 5 = nI s := by rw [w2_ap, if_neg (by omega)]; exact h5
  unfold f_X3_advance_52 f_X3_advance_138
  rw [gI_k hk, Option.bind_some, h5, pI_k hk, Option.bind_some]
  generalize w2 m 33 6 (nI s) = m3 at *
  rw [gI_k hk, Option.bind_some, g5, gI_k hk, Option.bind_some, hT1.1]
  by_cases c1 : n ≤ s
  · rw [if_neg (nI_nlt c1 (by omega)), if_pos c1, pI_k hk, Option.bind_some]
    rfl
  obtain ⟨t1, t2⟩ := hT1.2.2 s (by omega)
  rw [if_pos (nI_lt (by omega) (by omega)), if_neg c1, gR_k hk, Option.bind_some, Option.bind_some, rr33_0 hS, rI_n (rd34 hS) (show s < 160 by omega) (by decide), Option.bind_some, t1, X3_isL t2, Option.bind_some]
  by_cases c2 : isL (tp s) = true
  · rw [if_pos c2, if_pos c2, if_neg (show ¬ (1 : Int32) = 0 by decide)]
    show ((vc (mk S m3) 3 (some 33) (f_X3_takeWord (mk S m3) (some 33))).bind fun q20 => some q20) = _
    rw [vc_k hk, o_id]
  rw [if_neg c2, if_neg c2, if_pos rfl]
  show ((gR (mk S m3) 3 (some 33) 0).bind fun v11 => (gI (mk S m3) 3 (some 33) 5).bind fun v12 => (rI (mk S m3) v11 v12).bind fun v13 => (f_X3_isDigit (mk S m3) v13).bind fun q14 => if q14.1 = 0 then ((gR q14.2 3 (some 33) 0).bind fun v15 => (gI q14.2 3 (some 33) 5).bind fun v16 => (rI q14.2 v15 v16).bind fun v17 => (vc q14.2 3 (some 33) (f_X3_takeSign q14.2 (some 33) v17)).bind fun q18 => some q18) else ((vc q14.2 3 (some 33) (f_X3_takeNumber q14.2 (some 33))).bind fun q19 => some q19)) = _
  rw [gR_k hk, Option.bind_some, rr33_0 hS, gI_k hk, Option.bind_some, g5, rI_n (rd34 hS) (show s < 160 by omega) (by decide), Option.bind_some, t1, X3_isD t2, Option.bind_some]
  by_cases c3 : isD (tp s) = true
  · rw [if_pos c3, if_pos c3, if_neg (show ¬ (1 : Int32) = 0 by decide)]
    show ((vc (mk S m3) 3 (some 33) (f_X3_takeNumber (mk S m3) (some 33))).bind fun q19 => some q19) = _
    rw [vc_k hk, o_id]
  · rw [if_neg c3, if_neg c3, if_pos rfl]
    show ((gR (mk S m3) 3 (some 33) 0).bind fun v15 => (gI (mk S m3) 3 (some 33) 5).bind fun v16 => (rI (mk S m3) v15 v16).bind fun v17 => (vc (mk S m3) 3 (some 33) (f_X3_takeSign (mk S m3) (some 33) v17)).bind fun q18 => some q18) = _
    rw [gR_k hk, Option.bind_some, rr33_0 hS, gI_k hk, Option.bind_some, g5, rI_n (rd34 hS) (show s < 160 by omega) (by decide), Option.bind_some, t1, vc_k hk, o_id]
theorem C_adv {S : SK} {m : Nat → Nat → Int32} {n p : Nat} {tp : Nat → Nat} (hS : RdOK S) (hT : TPc m n tp) (h5 : m 33 5 = nI p) (hp : p ≤ n) : ∃ m2, FrC m m2 ∧ m2 33 5 = nI (tkT tp n p).2.2 ∧ m2 33 6 = nI (tpP tp n p) ∧ m2 33 7 = nI (tkT tp n p).1 ∧ ((tkT tp n p).1 = 256 → m2 33 8 = nI (tkT tp n p).2.1 ∧ (tkT tp n p).2.1 < 10000) ∧ f_X3_advance (mk S m) (some 33) = some (mk S m2) := by
  have hk : (sh S 33).1 = 3 := by rw [rd33 hS]
  have hn := hT.2.1
  obtain ⟨m1, a1, a2, a3⟩ := C_skip hS (n - p) FU p m (by omega) (by unfold FU; omega) hT h5
  have a2 : m1 33 5 = nI (tpP tp n p) := a2
  have hs := ruS_ge (c := isBl) (tp := tp) (n - p) p
  have hs2 : p ≤ tpP tp n p ∧ tpP tp n p ≤ n := ⟨hs.1, by unfold tpP; omega⟩
  unfold f_X3_advance
  rw [a3, C_52 hS (hT.fr a1.c) a2 hs2.2]
  have F1 : FrC m (w2 m1 33 6 (nI (tpP tp n p))) := a1.c.tr (FrC.w (by omega))
  have hT1 := hT.fr F1
  unfold tkT
  clear hs
  generalize tpP tp n p = s at *
  have g5 : w2 m1 33 6 (nI s) 33 5 = nI s := by rw [w2_ap, if_neg (by omega)]; exact a2
  have g6 : w2 m1 33 6 (nI s) 33 6 = nI s := by rw [w2_ap, if_pos ⟨rfl, rfl⟩]
  generalize w2 m1 33 6 (nI s) = m3 at *
  by_cases c1 : n ≤ s
  · rw [if_pos c1, if_pos c1]
    refine ⟨_, F1.tr (FrC.w (j := 7) (by omega)), ?_, ?_, ?_, fun y => ?_, rfl⟩
    · rw [w2_ap, if_neg (by omega)]; exact g5
    · rw [w2_ap, if_neg (by omega)]; exact g6
    · rw [w2_ap, if_pos ⟨rfl, rfl⟩]
    · exact absurd y (show ¬ (257 : Nat) = 256 by decide)
  have hsn : s < n := by omega
  obtain ⟨t1, t2⟩ := hT1.2.2 s hsn
  rw [if_neg c1, if_neg c1]
  by_cases c2 : isL (tp s) = true
  · have hg := ruS_gt (c := isL) hsn c2
    have hg2 := (ruS_ge (c := isL) (tp := tp) (n - s) s).2
    obtain ⟨m4, b1, b2, b3⟩ := C_run hS (n - s) FU s m3 (by omega) (by unfold FU; omega) hT1 g5
    rw [if_pos c2, if_pos c2]
    unfold f_X3_takeWord
    rw [b3]
    unfold f_X3_takeWord_39
    rw [pI_k hk, Option.bind_some]
    generalize ruS isL tp (n - s) s = e at *
    have F4 : FrC m3 (w2 m4 33 7 (nI 258)) := b1.c.tr (FrC.w (by omega))
    obtain ⟨m5, d1, d2, d3, d4, d5⟩ := C_words hS (tp := tp) (n := n) (s := s) (e := e) (by omega) (by omega) 12 FU 0 (w2 m4 33 7 (nI 258)) rfl (by unfold FU; omega) (hT1.fr F4) (by rw [w2_ap, if_neg (by omega)]; exact b2) (by rw [w2_ap, if_neg (by omega), b1 33 6 (by omega)]; exact g6) (by rw [w2_ap, if_pos ⟨rfl, rfl⟩, if_neg (by omega)])
    refine ⟨m5, (F1.tr F4).tr d1, d2, d3, d4, fun y => ?_, d5⟩
    exfalso
    have := (wdK_le (tlS tp s (e - s))).1
    revert y
    show (if wdK (tlS tp s (e - s)) = 12 then 258 else wdK (tlS tp s (e - s))) = 256 → False
    split <;> omega
  rw [if_neg c2, if_neg c2]
  by_cases c3 : isD (tp s) = true
  · have hg := ruS_gt (c := isD) hsn c3
    have hg2 := (ruS_ge (c := isD) (tp := tp) (n - s) s).2
    rw [if_pos c3, if_pos c3]
    unfold f_X3_takeNumber
    rw [pI_k hk, Option.bind_some]
    have F4 : FrC m3 (w2 m3 33 8 (nI 0)) := FrC.w (by omega)
    obtain ⟨m5, d1, d2, d3, d4, d5, d6⟩ := C_num (tp := tp) (n := n) (s := s) hS (n - s) FU 0 (w2 m3 33 8 (nI 0)) (by omega) (by unfold FU; omega) (hT1.fr F4) (by rw [w2_ap, if_neg (by omega)]; exact g5) (by rw [w2_ap, if_neg (by omega)]; exact g6) (fun _ => by rw [w2_ap, if_pos ⟨rfl, rfl⟩]; rfl) (fun i hi => by omega)
    refine ⟨m5, (F1.tr F4).tr d1, d2, d3, d4, fun y => ?_, d6⟩
    apply d5
    revert y
    show (if 4 < ruS isD tp (n - s) s - s then 258 else 256) = 256 → _
    intro y
    by_cases c4 : 4 < ruS isD tp (n - s) s - s
    · rw [if_pos c4] at y
      exact absurd y (by decide)
    · show ruS isD tp (n - s) s - s ≤ 4
      omega
  · rw [if_neg c3, if_neg c3, C_sign hS t2 g5]
    refine ⟨_, (F1.tr (FrC.w (j := 7) (by omega))).tr (FrC.w (j := 5) (by omega)), ?_, ?_, ?_, fun y => ?_, rfl⟩
    · rw [w2_ap, if_pos ⟨rfl, rfl⟩]
    · rw [w2_ap, if_neg (by omega), w2_ap, if_neg (by omega)]; exact g6
    · rw [w2_ap, if_neg (by omega), w2_ap, if_pos ⟨rfl, rfl⟩]
    · exfalso
      revert y
      show (if isSg (tp s) = true then tp s else 258) = 256 → False
      split <;> omega
theorem tk_next {n p : Nat} {tp : Nat → Nat} (hp : p ≤ n) : (tkT tp n p).2.2 ≤ n ∧ p ≤ (tkT tp n p).2.2 ∧ ((tkT tp n p).1 ≠ 257 → p < (tkT tp n p).2.2) ∧ ((∀ k, k < n → tp k ≤ 255) → (tkT tp n p).1 ≤ 258) := by
  have hs := ruS_ge (c := isBl) (tp := tp) (n - p) p
  have hs2 : p ≤ tpP tp n p ∧ tpP tp n p ≤ n := ⟨hs.1, by unfold tpP; omega⟩
  unfold tkT
  clear hs
  generalize tpP tp n p = s at *
  by_cases c1 : n ≤ s
  · rw [if_pos c1]
    exact ⟨hs2.2, hs2.1, fun y => absurd rfl y, fun _ => show 257 ≤ 258 by decide⟩
  rw [if_neg c1]
  by_cases c2 : isL (tp s) = true
  · have hg := ruS_gt (c := isL) (n := n) (by omega) c2
    have hg2 := (ruS_ge (c := isL) (tp := tp) (n - s) s).2
    rw [if_pos c2]
    refine ⟨by show ruS isL tp (n - s) s ≤ n; omega, by show p ≤ ruS isL tp (n - s) s; omega, fun _ => by show p < ruS isL tp (n - s) s; omega, fun _ => ?_⟩
    have := (wdK_le (tlS tp s (ruS isL tp (n - s) s - s))).1
    show (if wdK (tlS tp s (ruS isL tp (n - s) s - s)) = 12 then 258 else wdK (tlS tp s (ruS isL tp (n - s) s - s))) ≤ 258
    split <;> omega
  rw [if_neg c2]
  by_cases c3 : isD (tp s) = true
  · have hg := ruS_gt (c := isD) (n := n) (by omega) c3
    have hg2 := (ruS_ge (c := isD) (tp := tp) (n - s) s).2
    rw [if_pos c3]
    refine ⟨by show ruS isD tp (n - s) s ≤ n; omega, by show p ≤ ruS isD tp (n - s) s; omega, fun _ => by show p < ruS isD tp (n - s) s; omega, fun _ => ?_⟩
    show (if 4 < ruS isD tp (n - s) s - s then 258 else 256) ≤ 258
    split <;> omega
  · rw [if_neg c3]
    refine ⟨by show s + 1 ≤ n; omega, by show p ≤ s + 1; omega, fun _ => by show p < s + 1; omega, fun h => ?_⟩
    show (if isSg (tp s) = true then tp s else 258) ≤ 258
    have := h s (by omega)
    split <;> omega
