/-! PURE: by turns, the class: its copies -/
theorem rT_n : ∀ k, k < 7 → rT (nI k) = some (nI (10 ^ k)) := by decide +kernel
theorem rk22 {S : SK} (h : SkOK S) : ∀ k, k < 7 → rf S 22 k = some (23 + k) := by
  intro k hk
  rcases (show k = 0 ∨ k = 1 ∨ k = 2 ∨ k = 3 ∨ k = 4 ∨ k = 5 ∨ k = 6 by omega) with e | e | e | e | e | e | e <;> subst e
  · exact rk22_0 h
  · exact rk22_1 h
  · exact rk22_2 h
  · exact rk22_3 h
  · exact rk22_4 h
  · exact rk22_5 h
  · exact rk22_6 h
theorem sk2x {S : SK} (h : SkOK S) : ∀ k, k < 7 → sh S (23 + k) = (10, 4) := by
  intro k hk
  rcases (show k = 0 ∨ k = 1 ∨ k = 2 ∨ k = 3 ∨ k = 4 ∨ k = 5 ∨ k = 6 by omega) with e | e | e | e | e | e | e <;> subst e
  · exact sk23 h
  · exact sk24 h
  · exact sk25 h
  · exact sk26 h
  · exact sk27 h
  · exact sk28 h
  · exact sk29 h
theorem rR22 {S : SK} {m : Nat → Nat → Int32} (h : SkOK S) {k : Nat} (hk : k < 7) : rR 15 (mk S m) (some 22) (nI k) = some (some (23 + k)) := by
  rw [rR_n (sk22 h) hk (by decide), rk22 h k hk]
def dgv : List Nat → Nat
  | [] => 0
  | a :: L => a * 10 ^ L.length + dgv L
def EndC (m : Nat → Nat → Int32) (t P : Nat) (f : Nat → Int) : Prop := ∀ p, p < P → m (23 + t) p = Int32.ofInt (f p)
theorem lt4 {i : Nat} (h : i < 4) : nI i < (4 : Int32) := (nI_ltI (b := 4) (by omega) (by omega)).2 h
theorem nlt4 : ¬ nI 4 < (4 : Int32) := by decide
theorem C_choose {S : SK} {m : Nat → Nat → Int32} {P t n u dg c : Nat} {F : Nat → Int} {Ls : List Nat} (hS : SkOK S) (hP : P ≤ 4) (h6 : m 18 6 = nI n) (hn : n ≤ 6) (ht : t < n) (hF : EndC m (t + 1) P F) (hL : m 30 (t + 1) = nI (dgv Ls)) (hlen : Ls.length + (t + 1) = n) (hu : u < P) :
    ∃ m2, f_X6_choose (mk S m) (some 18) (nI t) (nI u) (nI dg) (nI c) = some (mk S m2) ∧ EndC m2 t P (fun p => if p = u then F p - (c : Int) else F p) ∧ m2 30 t = nI (dgv (dg :: Ls)) ∧ (∀ j, j ≠ t → m2 30 j = m 30 j) ∧ Ag (fun b => b = 23 + t ∨ b = 30) m m2 := by
  have hk : (sh S 18).1 = 6 := by rw [sk18 hS]
  have et : nI t + (1 : Int32) = nI (t + 1) := nI_add t 1
  have loop : ∀ (r f i : Nat) (m : Nat → Nat → Int32), i + r = 4 → r < f → ∃ m2, f_X6_choose_3 f (mk S m) (some 18) (nI t) (nI u) (nI dg) (nI c) (nI i) = f_X6_choose_3 (f - r) (mk S m2) (some 18) (nI t) (nI u) (nI dg) (nI c) (nI 4) ∧ (∀ p, i ≤ p → p < 4 → m2 (23 + t) p = m (23 + (t + 1)) p) ∧ (∀ p, p < i → m2 (23 + t) p = m (23 + t) p) ∧ Ag (fun b => b = 23 + t) m m2 := by
    intro r
    induction r with
    | zero =>
      intro f i m hi hf
      have hi : i = 4 := by omega
      subst hi
      exact ⟨m, rfl, fun p _ _ => by omega, fun _ _ => rfl, Ag.rf⟩
    | succ r ih =>
      intro f i m hi hf
      obtain ⟨f, rfl⟩ : ∃ k, f = k + 1 := ⟨f - 1, by omega⟩
      obtain ⟨m2, e, h1, h2, ag⟩ := ih f (i + 1) (w2 m (23 + t) i (m (23 + (t + 1)) i)) (by omega) (by omega)
      refine ⟨m2, ?_, ?_, ?_, (Ag.w2 (Z := fun b => b = 23 + t) Ag.rf rfl).tr ag⟩
      · rw [show f + 1 - (r + 1) = f - r by omega, ← e]
        show fb_X6_choose_3 (f_X6_choose_3 f) (mk S m) (some 18) (nI t) (nI u) (nI dg) (nI c) (nI i) = _
        unfold fb_X6_choose_3
        rw [if_pos (lt4 (by omega)), gR_k hk, rk18_1 hS, Option.bind_some, rR22 hS (by omega), Option.bind_some, Option.bind_some, et, rR22 hS (by omega), Option.bind_some, rI_n (sk2x hS _ (by omega)) (by omega) (by decide), Option.bind_some, sI_n (sk2x hS _ (by omega)) (by omega) (by decide), Option.bind_some, bnd_eq, show nI i + (1 : Int32) = nI (i + 1) from nI_add i 1]
      · intro k k1 k2
        by_cases z : k = i
        · subst z
          rw [h2 _ (by omega), w2_ap, if_pos ⟨rfl, rfl⟩]
        · rw [h1 k (by omega) k2, w2_ap, if_neg (by omega)]
      · intro k hk
        rw [h2 k (by omega), w2_ap, if_neg (by omega)]
  obtain ⟨m1, e1, h1, _, ag1⟩ := loop 4 FU 0 m (by omega) (by unfold FU; omega)
  have eu : m1 (23 + t) u = Int32.ofInt (F u) := by
    rw [h1 u (by omega) (by omega)]
    exact hF u hu
  refine ⟨w2 (w2 m1 (23 + t) u (Int32.ofInt (F u - (c : Int)))) 30 t (nI (dgv (dg :: Ls))), ?_, ?_, ?_, ?_, ?_⟩
  · show f_X6_choose_3 FU (mk S m) (some 18) (nI t) (nI u) (nI dg) (nI c) (nI 0) = _
    rw [e1]
    show fb_X6_choose_3 (f_X6_choose_3 (FU - 4 - 1)) (mk S m1) (some 18) (nI t) (nI u) (nI dg) (nI c) (nI 4) = _
    unfold fb_X6_choose_3
    have a18 : m1 18 6 = nI n := by
      rw [ag1 18 (by omega)]
      exact h6
    have a30 : m1 30 (t + 1) = nI (dgv Ls) := by
      rw [ag1 30 (by omega)]
      exact hL
    rw [if_neg nlt4, gR_k hk, rk18_1 hS, Option.bind_some, rR22 hS (by omega), Option.bind_some, rI_n (sk2x hS _ (by omega)) (by omega) (by decide), Option.bind_some, eu, oI_sub2, sI_n (sk2x hS _ (by omega)) (by omega) (by decide), Option.bind_some, gR_k hk, rk18_2 hS, Option.bind_some, gI_k hk, w2_ap, if_neg (by omega), a18, Option.bind_some, pk_sub (by omega), show nI (n - t) - (1 : Int32) = nI (n - t - 1) from pk_sub (b := 1) (by omega), rT_n _ (by omega), Option.bind_some, Option.bind_some, et, rI_n (sk30 hS) (by omega) (by decide), Option.bind_some, w2_ap, if_neg (by omega), a30, pk_mul, nI_add, sI_n (sk30 hS) (by omega) (by decide), Option.bind_some]
    show some (mk S (w2 _ 30 t (nI (dg * 10 ^ (n - t - 1) + dgv Ls)))) = some (mk S (w2 _ 30 t (nI (dg * 10 ^ Ls.length + dgv Ls))))
    rw [show n - t - 1 = Ls.length by omega]
  · intro p hp
    rw [w2_ap, if_neg (by omega), w2_ap]
    show _ = Int32.ofInt (if p = u then F p - (c : Int) else F p)
    by_cases z : p = u
    · rw [if_pos ⟨rfl, z⟩, if_pos z, z]
    · rw [if_neg (fun y => z y.2), if_neg z, h1 p (by omega) (by omega)]
      exact hF p hp
  · rw [w2_ap, if_pos ⟨rfl, rfl⟩]
  · intro j hj
    rw [w2_ap, if_neg (fun y => hj y.2), w2_ap, if_neg (by omega), ag1 30 (by omega)]
  · exact ((Ag.mono (Z2 := fun b => b = 23 + t ∨ b = 30) ag1 (fun b hb => Or.inl hb)).w2 (Or.inl rfl)).w2 (Or.inr rfl)
theorem C_keep {S : SK} {m : Nat → Nat → Int32} {t s : Nat} (hS : SkOK S) (ht : t ≤ 6) (hs : s < 1024) :
    ∃ m2, f_X6_keep (mk S m) (some 18) (nI t) (nI s) = some (mk S m2) ∧ (∀ p, p < 4 → m2 31 (s * 4 + p) = m (23 + t) p) ∧ (∀ j, j < s * 4 ∨ s * 4 + 4 ≤ j → m2 31 j = m 31 j) ∧ m2 32 s = m 30 t ∧ (∀ j, j ≠ s → m2 32 j = m 32 j) ∧ Ag (fun b => b = 31 ∨ b = 32) m m2 := by
  have hk : (sh S 18).1 = 6 := by rw [sk18 hS]
  have e4 : nI s * (4 : Int32) = nI (s * 4) := pk_mul s 4
  have loop : ∀ (r f i : Nat) (m : Nat → Nat → Int32), i + r = 4 → r < f → ∃ m2, f_X6_keep_2 f (mk S m) (some 18) (nI t) (nI s) (nI i) = f_X6_keep_2 (f - r) (mk S m2) (some 18) (nI t) (nI s) (nI 4) ∧ (∀ p, i ≤ p → p < 4 → m2 31 (s * 4 + p) = m (23 + t) p) ∧ (∀ j, j < s * 4 + i ∨ s * 4 + 4 ≤ j → m2 31 j = m 31 j) ∧ Ag (fun b => b = 31) m m2 := by
    intro r
    induction r with
    | zero =>
      intro f i m hi hf
      have hi : i = 4 := by omega
      subst hi
      exact ⟨m, rfl, fun p _ _ => by omega, fun _ _ => rfl, Ag.rf⟩
    | succ r ih =>
      intro f i m hi hf
      obtain ⟨f, rfl⟩ : ∃ k, f = k + 1 := ⟨f - 1, by omega⟩
      obtain ⟨m2, e, h1, h2, ag⟩ := ih f (i + 1) (w2 m 31 (s * 4 + i) (m (23 + t) i)) (by omega) (by omega)
      refine ⟨m2, ?_, ?_, ?_, (Ag.w2 (Z := fun b => b = 31) Ag.rf rfl).tr ag⟩
      · rw [show f + 1 - (r + 1) = f - r by omega, ← e]
        show fb_X6_keep_2 (f_X6_keep_2 f) (mk S m) (some 18) (nI t) (nI s) (nI i) = _
        unfold fb_X6_keep_2
        rw [if_pos (lt4 (by omega)), gR_k hk, rk18_4 hS, Option.bind_some, gR_k hk, rk18_1 hS, Option.bind_some, rR22 hS (by omega), Option.bind_some, rI_n (sk2x hS _ (by omega)) (by omega) (by decide), Option.bind_some, e4, nI_add, sI_n (sk31 hS) (by omega) (by decide), Option.bind_some, bnd_eq, show nI i + (1 : Int32) = nI (i + 1) from nI_add i 1]
      · intro k k1 k2
        by_cases z : k = i
        · subst z
          rw [h2 _ (by omega), w2_ap, if_pos ⟨rfl, rfl⟩]
        · rw [h1 k (by omega) k2, w2_ap, if_neg (by omega)]
      · intro k hk
        rw [h2 k (by omega), w2_ap, if_neg (by omega)]
  obtain ⟨m1, e1, h1, h2, ag1⟩ := loop 4 FU 0 m (by omega) (by unfold FU; omega)
  refine ⟨w2 m1 32 s (m 30 t), ?_, ?_, ?_, ?_, ?_, ?_⟩
  · show f_X6_keep_2 FU (mk S m) (some 18) (nI t) (nI s) (nI 0) = _
    rw [e1]
    show fb_X6_keep_2 (f_X6_keep_2 (FU - 4 - 1)) (mk S m1) (some 18) (nI t) (nI s) (nI 4) = _
    unfold fb_X6_keep_2
    rw [if_neg nlt4, gR_k hk, rk18_5 hS, Option.bind_some, gR_k hk, rk18_2 hS, Option.bind_some, rI_n (sk30 hS) (by omega) (by decide), Option.bind_some, sI_n (sk32 hS) hs (by decide), Option.bind_some, ag1 30 (by omega)]
  · intro p hp
    rw [w2_ap, if_neg (by simp)]
    exact h1 p (Nat.zero_le _) hp
  · intro j hj
    rw [w2_ap, if_neg (by simp)]
    exact h2 j (by omega)
  · rw [w2_ap, if_pos ⟨rfl, rfl⟩]
  · intro j hj
    rw [w2_ap, if_neg (fun y => hj y.2), ag1 32 (by omega)]
  · exact (Ag.mono (Z2 := fun b => b = 31 ∨ b = 32) ag1 (fun b hb => Or.inl hb)).w2 (Or.inr rfl)
theorem C_recall {S : SK} {m : Nat → Nat → Int32} {t s : Nat} (hS : SkOK S) (ht : t ≤ 6) (hs : s < 1024) :
    ∃ m2, f_X6_recall (mk S m) (some 18) (nI t) (nI s) = some (mk S m2) ∧ (∀ p, p < 4 → m2 (23 + t) p = m 31 (s * 4 + p)) ∧ m2 30 t = m 32 s ∧ (∀ j, j ≠ t → m2 30 j = m 30 j) ∧ Ag (fun b => b = 23 + t ∨ b = 30) m m2 := by
  have hk : (sh S 18).1 = 6 := by rw [sk18 hS]
  have e4 : nI s * (4 : Int32) = nI (s * 4) := pk_mul s 4
  have loop : ∀ (r f i : Nat) (m : Nat → Nat → Int32), i + r = 4 → r < f → ∃ m2, f_X6_recall_2 f (mk S m) (some 18) (nI t) (nI s) (nI i) = f_X6_recall_2 (f - r) (mk S m2) (some 18) (nI t) (nI s) (nI 4) ∧ (∀ p, i ≤ p → p < 4 → m2 (23 + t) p = m 31 (s * 4 + p)) ∧ (∀ p, p < i → m2 (23 + t) p = m (23 + t) p) ∧ Ag (fun b => b = 23 + t) m m2 := by
    intro r
    induction r with
    | zero =>
      intro f i m hi hf
      have hi : i = 4 := by omega
      subst hi
      exact ⟨m, rfl, fun p _ _ => by omega, fun _ _ => rfl, Ag.rf⟩
    | succ r ih =>
      intro f i m hi hf
      obtain ⟨f, rfl⟩ : ∃ k, f = k + 1 := ⟨f - 1, by omega⟩
      obtain ⟨m2, e, h1, h2, ag⟩ := ih f (i + 1) (w2 m (23 + t) i (m 31 (s * 4 + i))) (by omega) (by omega)
      refine ⟨m2, ?_, ?_, ?_, (Ag.w2 (Z := fun b => b = 23 + t) Ag.rf rfl).tr ag⟩
      · rw [show f + 1 - (r + 1) = f - r by omega, ← e]
        show fb_X6_recall_2 (f_X6_recall_2 f) (mk S m) (some 18) (nI t) (nI s) (nI i) = _
        unfold fb_X6_recall_2
        rw [if_pos (lt4 (by omega)), gR_k hk, rk18_1 hS, Option.bind_some, rR22 hS (by omega), Option.bind_some, gR_k hk, rk18_4 hS, Option.bind_some, e4, nI_add, rI_n (sk31 hS) (by omega) (by decide), Option.bind_some, sI_n (sk2x hS _ (by omega)) (by omega) (by decide), Option.bind_some, bnd_eq, show nI i + (1 : Int32) = nI (i + 1) from nI_add i 1]
      · intro k k1 k2
        by_cases z : k = i
        · subst z
          rw [h2 _ (by omega), w2_ap, if_pos ⟨rfl, rfl⟩]
        · rw [h1 k (by omega) k2, w2_ap, if_neg (by omega)]
      · intro k hk
        rw [h2 k (by omega), w2_ap, if_neg (by omega)]
  obtain ⟨m1, e1, h1, h2, ag1⟩ := loop 4 FU 0 m (by omega) (by unfold FU; omega)
  refine ⟨w2 m1 30 t (m 32 s), ?_, ?_, ?_, ?_, ?_⟩
  · show f_X6_recall_2 FU (mk S m) (some 18) (nI t) (nI s) (nI 0) = _
    rw [e1]
    show fb_X6_recall_2 (f_X6_recall_2 (FU - 4 - 1)) (mk S m1) (some 18) (nI t) (nI s) (nI 4) = _
    unfold fb_X6_recall_2
    rw [if_neg nlt4, gR_k hk, rk18_2 hS, Option.bind_some, gR_k hk, rk18_5 hS, Option.bind_some, rI_n (sk32 hS) hs (by decide), Option.bind_some, sI_n (sk30 hS) (by omega) (by decide), Option.bind_some, ag1 32 (by omega)]
  · intro p hp
    rw [w2_ap, if_neg (by omega)]
    exact h1 p (Nat.zero_le _) hp
  · rw [w2_ap, if_pos ⟨rfl, rfl⟩]
  · intro j hj
    rw [w2_ap, if_neg (fun y => hj y.2), ag1 30 (by omega)]
  · exact (Ag.mono (Z2 := fun b => b = 23 + t ∨ b = 30) ag1 (fun b hb => Or.inl hb)).w2 (Or.inr rfl)
theorem C_settle {S : SK} {m : Nat → Nat → Int32} {E : EN} {l : Nat} {q : QS} (h : CI S m 19 E l q) {t : Nat} (ht : t ≤ 6) :
    ∃ m2, f_X6_settle (mk S m) (some 18) (nI t) = some (mk S m2) ∧ CI S m2 19 E l q ∧ EndC m2 t (eP E) (fun p => (wthS E q p).toInt) ∧ m2 30 t = nI 0 ∧ (∀ j, j ≠ t → m2 30 j = m 30 j) ∧ Ag (fun b => b = 21 ∨ Stk S b ∨ b = 23 + t ∨ b = 30) m m2 := by
  have hS := h.1.1
  have hP := h.1.2.1.2.1
  have hk : (sh S 18).1 = 6 := by rw [sk18 hS]
  have hk1 : (sh S 19).1 = 1 := by rw [sk19 hS]
  have loop : ∀ (r f i : Nat) (m : Nat → Nat → Int32), i + r = eP E → r < f → CI S m 19 E l q → ∃ m2, f_X6_settle_2 f (mk S m) (some 18) (nI t) (nI i) = f_X6_settle_2 (f - r) (mk S m2) (some 18) (nI t) (nI (eP E)) ∧ CI S m2 19 E l q ∧ (∀ p, i ≤ p → p < eP E → m2 (23 + t) p = Int32.ofInt ((wthS E q p).toInt)) ∧ (∀ p, p < i → m2 (23 + t) p = m (23 + t) p) ∧ Ag (fun b => b = 21 ∨ Stk S b ∨ b = 23 + t) m m2 := by
    intro r
    induction r with
    | zero =>
      intro f i m hi hf hC
      have hi : i = eP E := by omega
      subst hi
      exact ⟨m, rfl, hC, fun p _ _ => by omega, fun _ _ => rfl, Ag.rf⟩
    | succ r ih =>
      intro f i m hi hf hC
      obtain ⟨f, rfl⟩ : ∃ k, f = k + 1 := ⟨f - 1, by omega⟩
      obtain ⟨m1, e1, hC1, ag1⟩ := C_worth hC (p := i) (by omega)
      have agw : Ag (fun b => b = 23 + t) m1 (w2 m1 (23 + t) i (wthS E q i)) := Ag.w2 (Z := fun b => b = 23 + t) Ag.rf rfl
      have hC1' := hC1.ag agw (ZOK.of (fun b hb => Or.inr (Or.inl (by omega)))) (by omega) (by omega)
      obtain ⟨m2, e, hC2, h1, h2, ag⟩ := ih f (i + 1) (w2 m1 (23 + t) i (wthS E q i)) (by omega) (by omega) hC1'
      refine ⟨m2, ?_, hC2, ?_, ?_, ?_⟩
      · rw [show f + 1 - (r + 1) = f - r by omega, ← e]
        show fb_X6_settle_2 (f_X6_settle_2 f) (mk S m) (some 18) (nI t) (nI i) = _
        unfold fb_X6_settle_2
        rw [gR_k hk, rk18_0 hS, Option.bind_some, gI_k hk1, hC.2.2.1.2.2.2.1, Option.bind_some, if_pos (by rw [nI_ltI (by omega) (by omega)]; omega), gR_k hk, rk18_1 hS, Option.bind_some, rR22 hS (by omega), Option.bind_some, Option.bind_some, vc_k hk1, e1, Option.bind_some]
        show (sI (mk S m1) (some (23 + t)) (nI i) (wthS E q i)).bind _ = _
        rw [sI_n (sk2x hS _ (by omega)) (by omega) (by decide), Option.bind_some, bnd_eq, show nI i + (1 : Int32) = nI (i + 1) from nI_add i 1]
      · intro k k1 k2
        by_cases z : k = i
        · subst z
          rw [h2 _ (by omega), w2_ap, if_pos ⟨rfl, rfl⟩, Int32.ofInt_toInt]
        · exact h1 k (by omega) k2
      · intro k hk
        rw [h2 k (by omega), w2_ap, if_neg (by omega), ag1 (23 + t) (by
          rintro (z | z)
          · omega
          · have := z.ge
            omega)]
      · exact ((ag1.mono (fun b hb => by
          rcases hb with z | z
          · exact Or.inl (by omega)
          · exact Or.inr (Or.inl z))).tr (agw.mono (fun b hb => Or.inr (Or.inr hb)))).tr ag
  obtain ⟨m1, e1, hC1, h1, _, ag1⟩ := loop (eP E) FU 0 m (by omega) (by unfold FU; omega) h
  have agw : Ag (fun b => b = 30) m1 (w2 m1 30 t (nI 0)) := Ag.w2 (Z := fun b => b = 30) Ag.rf rfl
  obtain ⟨f, hf⟩ : ∃ f, FU - eP E = f + 1 := ⟨FU - eP E - 1, by unfold FU; omega⟩
  refine ⟨w2 m1 30 t (nI 0), ?_, ?_, ?_, ?_, ?_, ?_⟩
  · show f_X6_settle_2 FU (mk S m) (some 18) (nI t) (nI 0) = _
    rw [e1, hf]
    show fb_X6_settle_2 (f_X6_settle_2 f) (mk S m1) (some 18) (nI t) (nI (eP E)) = _
    unfold fb_X6_settle_2
    rw [gR_k hk, rk18_0 hS, Option.bind_some, gI_k hk1, hC1.2.2.1.2.2.2.1, Option.bind_some, if_neg (by rw [nI_ltI (by omega) (by omega)]; omega), gR_k hk, rk18_2 hS, Option.bind_some, sI_n (sk30 hS) (by omega) (by decide), Option.bind_some]
    rfl
  · exact hC1.ag agw (ZOK.of (fun b hb => Or.inr (Or.inl (by omega)))) (by omega) (by omega)
  · intro p hp
    rw [w2_ap, if_neg (by omega)]
    exact h1 p (Nat.zero_le _) hp
  · rw [w2_ap, if_pos ⟨rfl, rfl⟩]
  · intro j hj
    rw [w2_ap, if_neg (fun y => hj y.2), ag1 30 (by
      rintro (z | z | z)
      · omega
      · have := z.ge
        omega
      · omega)]
  · exact (Ag.mono (Z2 := fun b => b = 21 ∨ Stk S b ∨ b = 23 + t ∨ b = 30) ag1 (fun b hb => by
      rcases hb with z | z | z
      · exact Or.inl z
      · exact Or.inr (Or.inl z)
      · exact Or.inr (Or.inr (Or.inl z)))).w2 (Or.inr (Or.inr (Or.inr rfl)))
