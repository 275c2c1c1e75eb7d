/-! PURE: by turns, the reference: its copies (written by wip/whole/pure/gen49.py), its takings, its walk -/
theorem M_cp33 {S : SK} (hS : SkOK S) {t n P : Nat} {mv : Int32} (hP : P ≤ 4) (ht : t < 6) : ∀ (r f i : Nat) (m : Nat → Nat → Int32), i + r = P → r < f → m 50 3 = nI P → ∃ m2, f_X9_takes_33 f (mk S m) (some 50) (nI t) (nI n) mv (nI i) = ((gR (mk S m2) 9 (some 50) 46).bind fun v12 => (sI (mk S m2) v12 (((7 : Int32) * nI t) + nI t) mv).bind fun h13 => bnd (nI (t + 1)) fun v14 => f_X9_takes_90 FU h13 (some 50) (nI t) (nI n) v14) ∧ (∀ k, i ≤ k → k < P → m2 73 (4 * t + k) = m 71 (4 * (t + 1) + k)) ∧ (∀ j, j < 4 * t + i ∨ 4 * t + P ≤ j → m2 73 j = m 73 j) ∧ Ag (fun b => b = 73) m m2 := by
  have hk : (sh S 50).1 = 9 := by rw [sk50 hS]
  intro r
  induction r with
  | zero =>
    intro f i m hi hf h3
    obtain ⟨f, rfl⟩ : ∃ k, f = k + 1 := ⟨f - 1, by omega⟩
    refine ⟨m, ?_, fun k _ _ => by omega, fun _ _ => rfl, Ag.rf⟩
    show fb_X9_takes_33 (f_X9_takes_33 f) (mk S m) (some 50) (nI t) (nI n) mv (nI i) = _
    unfold fb_X9_takes_33
    rw [gI_k hk, h3, Option.bind_some, if_neg (by rw [nI_ltI (by omega) (by omega)]; omega), show nI t + (1 : Int32) = nI (t + 1) from nI_add t 1]
  | succ r ih =>
    intro f i m hi hf h3
    obtain ⟨f, rfl⟩ : ∃ k, f = k + 1 := ⟨f - 1, by omega⟩
    obtain ⟨m2, e, h1, h2, ag⟩ := ih f (i + 1) (w2 m 73 (4 * t + i) (m 71 (4 * (t + 1) + i))) (by omega) (by omega) (by rw [w2_ap, if_neg (by simp)]; exact h3)
    refine ⟨m2, ?_, ?_, ?_, (Ag.w2 (Z := fun b => b = 73) Ag.rf rfl).tr ag⟩
    · show fb_X9_takes_33 (f_X9_takes_33 f) (mk S m) (some 50) (nI t) (nI n) mv (nI i) = _
      unfold fb_X9_takes_33
      rw [gI_k hk, h3, Option.bind_some, if_pos (by rw [nI_ltI (by omega) (by omega)]; omega), gR_k hk, rk50_45 hS, Option.bind_some, gR_k hk, rk50_43 hS, Option.bind_some, show nI t + (1 : Int32) = nI (t + 1) from nI_add t 1, show (4 : Int32) * nI (t + 1) = nI (4 * (t + 1)) from pk_mul 4 (t + 1), show nI (4 * (t + 1)) + nI i = nI (4 * (t + 1) + i) from nI_add _ i, rI_n (sk71 hS) (by omega) (by decide), Option.bind_some, show (4 : Int32) * nI t = nI (4 * t) from pk_mul 4 t, show nI (4 * t) + nI i = nI (4 * t + i) from nI_add _ i, sI_n (sk73 hS) (by omega) (by decide), Option.bind_some, bnd_eq, show nI i + (1 : Int32) = nI (i + 1) from nI_add i 1]
      exact e
    · intro k k1 k2
      by_cases z : k = i
      · subst z
        rw [h2 _ (by omega), w2_ap, if_pos ⟨rfl, rfl⟩]
      · rw [h1 k (by omega) k2, w2_ap, if_neg (by omega)]
    · intro j hj
      rw [h2 j (by omega), w2_ap, if_neg (by omega)]
theorem M_cp90 {S : SK} (hS : SkOK S) {t n P : Nat} (hn : n ≤ 6) (ht : t < n) : ∀ (r f i : Nat) (m : Nat → Nat → Int32), i + r = n → r < f → ∃ m2, f_X9_takes_90 f (mk S m) (some 50) (nI t) (nI n) (nI i) = some (mk S m2) ∧ (∀ k, i ≤ k → k < n → m2 74 (7 * t + k) = m 72 (7 * (t + 1) + k)) ∧ (∀ j, j < 7 * t + i ∨ 7 * t + n ≤ j → m2 74 j = m 74 j) ∧ Ag (fun b => b = 74) m m2 := by
  have hk : (sh S 50).1 = 9 := by rw [sk50 hS]
  intro r
  induction r with
  | zero =>
    intro f i m hi hf
    obtain ⟨f, rfl⟩ : ∃ k, f = k + 1 := ⟨f - 1, by omega⟩
    refine ⟨m, ?_, fun k _ _ => by omega, fun _ _ => rfl, Ag.rf⟩
    show fb_X9_takes_90 (f_X9_takes_90 f) (mk S m) (some 50) (nI t) (nI n) (nI i) = _
    unfold fb_X9_takes_90
    rw [if_neg (by rw [nI_ltI (by omega) (by omega)]; omega)]
    rfl
  | succ r ih =>
    intro f i m hi hf
    obtain ⟨f, rfl⟩ : ∃ k, f = k + 1 := ⟨f - 1, by omega⟩
    obtain ⟨m2, e, h1, h2, ag⟩ := ih f (i + 1) (w2 m 74 (7 * t + i) (m 72 (7 * (t + 1) + i))) (by omega) (by omega) 
    refine ⟨m2, ?_, ?_, ?_, (Ag.w2 (Z := fun b => b = 74) Ag.rf rfl).tr ag⟩
    · show fb_X9_takes_90 (f_X9_takes_90 f) (mk S m) (some 50) (nI t) (nI n) (nI i) = _
      unfold fb_X9_takes_90
      rw [if_pos (by rw [nI_ltI (by omega) (by omega)]; omega), gR_k hk, rk50_46 hS, Option.bind_some, gR_k hk, rk50_44 hS, Option.bind_some, show nI t + (1 : Int32) = nI (t + 1) from nI_add t 1, show (7 : Int32) * nI (t + 1) = nI (7 * (t + 1)) from pk_mul 7 (t + 1), show nI (7 * (t + 1)) + nI i = nI (7 * (t + 1) + i) from nI_add _ i, rI_n (sk72 hS) (by omega) (by decide), Option.bind_some, show (7 : Int32) * nI t = nI (7 * t) from pk_mul 7 t, show nI (7 * t) + nI i = nI (7 * t + i) from nI_add _ i, sI_n (sk74 hS) (by omega) (by decide), Option.bind_some, bnd_eq, show nI i + (1 : Int32) = nI (i + 1) from nI_add i 1]
      exact e
    · intro k k1 k2
      by_cases z : k = i
      · subst z
        rw [h2 _ (by omega), w2_ap, if_pos ⟨rfl, rfl⟩]
      · rw [h1 k (by omega) k2, w2_ap, if_neg (by omega)]
    · intro j hj
      rw [h2 j (by omega), w2_ap, if_neg (by omega)]
theorem M_cp164 {S : SK} (hS : SkOK S) {rr : XM → Option Nat → Int32 → Int32 → Option (XM)} {t n P : Nat} (hP : P ≤ 4) (ht : t < 6) : ∀ (r f i : Nat) (m : Nat → Nat → Int32), i + r = P → r < f → m 50 3 = nI P → ∃ m2, f_X9_turns_164 (rr) f (mk S m) (some 50) (nI t) (nI n) (nI i) = f_X9_turns_204 rr FU (mk S m2) (some 50) (nI t) (nI n) (nI t) ∧ (∀ k, i ≤ k → k < P → m2 71 (4 * t + k) = m 73 (4 * t + k)) ∧ (∀ j, j < 4 * t + i ∨ 4 * t + P ≤ j → m2 71 j = m 71 j) ∧ Ag (fun b => b = 71) m m2 := by
  have hk : (sh S 50).1 = 9 := by rw [sk50 hS]
  intro r
  induction r with
  | zero =>
    intro f i m hi hf h3
    obtain ⟨f, rfl⟩ : ∃ k, f = k + 1 := ⟨f - 1, by omega⟩
    refine ⟨m, ?_, fun k _ _ => by omega, fun _ _ => rfl, Ag.rf⟩
    show fb_X9_turns_164 (rr) (f_X9_turns_164 (rr) f) (mk S m) (some 50) (nI t) (nI n) (nI i) = _
    unfold fb_X9_turns_164
    rw [gI_k hk, h3, Option.bind_some, if_neg (by rw [nI_ltI (by omega) (by omega)]; omega)]
  | succ r ih =>
    intro f i m hi hf h3
    obtain ⟨f, rfl⟩ : ∃ k, f = k + 1 := ⟨f - 1, by omega⟩
    obtain ⟨m2, e, h1, h2, ag⟩ := ih f (i + 1) (w2 m 71 (4 * t + i) (m 73 (4 * t + i))) (by omega) (by omega) (by rw [w2_ap, if_neg (by simp)]; exact h3)
    refine ⟨m2, ?_, ?_, ?_, (Ag.w2 (Z := fun b => b = 71) Ag.rf rfl).tr ag⟩
    · show fb_X9_turns_164 (rr) (f_X9_turns_164 (rr) f) (mk S m) (some 50) (nI t) (nI n) (nI i) = _
      unfold fb_X9_turns_164
      rw [gI_k hk, h3, Option.bind_some, if_pos (by rw [nI_ltI (by omega) (by omega)]; omega), gR_k hk, rk50_43 hS, Option.bind_some, gR_k hk, rk50_45 hS, Option.bind_some, show (4 : Int32) * nI t = nI (4 * t) from pk_mul 4 t, show nI (4 * t) + nI i = nI (4 * t + i) from nI_add _ i, rI_n (sk73 hS) (by omega) (by decide), Option.bind_some, sI_n (sk71 hS) (by omega) (by decide), Option.bind_some, bnd_eq, show nI i + (1 : Int32) = nI (i + 1) from nI_add i 1]
      exact e
    · intro k k1 k2
      by_cases z : k = i
      · subst z
        rw [h2 _ (by omega), w2_ap, if_pos ⟨rfl, rfl⟩]
      · rw [h1 k (by omega) k2, w2_ap, if_neg (by omega)]
    · intro j hj
      rw [h2 j (by omega), w2_ap, if_neg (by omega)]
theorem M_cp204 {S : SK} (hS : SkOK S) {rr : XM → Option Nat → Int32 → Int32 → Option (XM)} {t n P : Nat} (hn : n ≤ 6) (ht : t < n) : ∀ (r f i : Nat) (m : Nat → Nat → Int32), i + r = n → r < f → ∃ m2, f_X9_turns_204 (rr) f (mk S m) (some 50) (nI t) (nI n) (nI i) = some (mk S m2) ∧ (∀ k, i ≤ k → k < n → m2 72 (7 * t + k) = m 74 (7 * t + k)) ∧ (∀ j, j < 7 * t + i ∨ 7 * t + n ≤ j → m2 72 j = m 72 j) ∧ Ag (fun b => b = 72) m m2 := by
  have hk : (sh S 50).1 = 9 := by rw [sk50 hS]
  intro r
  induction r with
  | zero =>
    intro f i m hi hf
    obtain ⟨f, rfl⟩ : ∃ k, f = k + 1 := ⟨f - 1, by omega⟩
    refine ⟨m, ?_, fun k _ _ => by omega, fun _ _ => rfl, Ag.rf⟩
    show fb_X9_turns_204 (rr) (f_X9_turns_204 (rr) f) (mk S m) (some 50) (nI t) (nI n) (nI i) = _
    unfold fb_X9_turns_204
    rw [if_neg (by rw [nI_ltI (by omega) (by omega)]; omega)]
  | succ r ih =>
    intro f i m hi hf
    obtain ⟨f, rfl⟩ : ∃ k, f = k + 1 := ⟨f - 1, by omega⟩
    obtain ⟨m2, e, h1, h2, ag⟩ := ih f (i + 1) (w2 m 72 (7 * t + i) (m 74 (7 * t + i))) (by omega) (by omega) 
    refine ⟨m2, ?_, ?_, ?_, (Ag.w2 (Z := fun b => b = 72) Ag.rf rfl).tr ag⟩
    · show fb_X9_turns_204 (rr) (f_X9_turns_204 (rr) f) (mk S m) (some 50) (nI t) (nI n) (nI i) = _
      unfold fb_X9_turns_204
      rw [if_pos (by rw [nI_ltI (by omega) (by omega)]; omega), gR_k hk, rk50_44 hS, Option.bind_some, gR_k hk, rk50_46 hS, Option.bind_some, show (7 : Int32) * nI t = nI (7 * t) from pk_mul 7 t, show nI (7 * t) + nI i = nI (7 * t + i) from nI_add _ i, rI_n (sk74 hS) (by omega) (by decide), Option.bind_some, sI_n (sk72 hS) (by omega) (by decide), Option.bind_some, bnd_eq, show nI i + (1 : Int32) = nI (i + 1) from nI_add i 1]
      exact e
    · intro k k1 k2
      by_cases z : k = i
      · subst z
        rw [h2 _ (by omega), w2_ap, if_pos ⟨rfl, rfl⟩]
      · rw [h1 k (by omega) k2, w2_ap, if_neg (by omega)]
    · intro j hj
      rw [h2 j (by omega), w2_ap, if_neg (by omega)]
