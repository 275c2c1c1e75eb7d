/-! PURE: the reference's next, whole -/
def rtI (t : Nat) : Int32 := if t < 6 then 2 else if t < 9 then 3 else if t < 12 then nI (t - 5) else if t = 256 then 1 else if t = 257 then 0 else if t = 258 then -1 else nI t
def rvT (t v : Nat) : Nat := if t < 6 then t else if t < 9 then t - 6 else v
theorem M_numE {S : SK} {m : Nat → Nat → Int32} {j : Nat} (hS : SkOK S) (hj : j ≤ 160) : f_X9_next_309 (mk S m) (some 50) (nI j) = some (mk S (w2 m 50 26 (rtI (if 4 < j then 258 else 256)))) := by
  have hk : (sh S 50).1 = 9 := by rw [sk50 hS]
  unfold f_X9_next_309 f_X9_next_320 f_X9_next_403
  by_cases c : 4 < j
  · rw [if_pos (show (4 : Int32) < nI j from nI_lt (a := 4) c (by omega)), if_pos c, pI_k hk, Option.bind_some]
    rfl
  · rw [if_neg (show ¬ (4 : Int32) < nI j from nI_nlt (a := 4) (by omega) (by decide)), if_neg c, pI_k hk, Option.bind_some]
    rfl
theorem M_num {S : SK} {n : Nat} {tp : Nat → Nat} (hS : SkOK S) {s : Nat} : ∀ (r f j : Nat) (m : Nat → Nat → Int32), s + j + r = n → r < f → TPm m n tp → m 50 24 = nI (s + j) → (j ≤ 4 → m 50 27 = nI (nvS tp s j)) → (∀ i, i < j → isD (tp (s + i)) = true) → ∃ m2, FrM m m2 ∧ m2 50 24 = nI (ruS isD tp r (s + j)) ∧ m2 50 25 = m 50 25 ∧ m2 50 26 = rtI (if 4 < ruS isD tp r (s + j) - s then 258 else 256) ∧ (ruS isD tp r (s + j) - s ≤ 4 → m2 50 27 = nI (nvS tp s (ruS isD tp r (s + j) - s))) ∧ f_X9_next_230 f (mk S m) (some 50) (nI j) = some (mk S m2) := by
  have hk : (sh S 50).1 = 9 := by rw [sk50 hS]
  have hend : ∀ (j : Nat) (m : Nat → Nat → Int32), s + j ≤ 160 → m 50 24 = nI (s + j) → (j ≤ 4 → m 50 27 = nI (nvS tp s j)) → ∃ m2, FrM m m2 ∧ m2 50 24 = nI (s + j) ∧ m2 50 25 = m 50 25 ∧ m2 50 26 = rtI (if 4 < s + j - s then 258 else 256) ∧ (s + j - s ≤ 4 → m2 50 27 = nI (nvS tp s (s + j - s))) ∧ f_X9_next_309 (mk S m) (some 50) (nI j) = some (mk S m2) := by
    intro j m hj h24 h27
    refine ⟨_, FrM.w (j := 26) (by omega), ?_, ?_, ?_, ?_, M_numE hS (by omega)⟩
    · rw [w2_ap, if_neg (by omega)]; exact h24
    · rw [w2_ap, if_neg (by omega)]
    · rw [w2_ap, if_pos ⟨rfl, rfl⟩, show s + j - s = j by omega]
    · rw [show s + j - s = j by omega]
      intro y
      rw [w2_ap, if_neg (by omega)]
      exact h27 y
  intro r
  induction r with
  | zero =>
    intro f j m hp hf hT h5 h8 hd
    obtain ⟨f, rfl⟩ : ∃ k, f = k + 1 := ⟨f - 1, by omega⟩
    have hn := hT.2.1
    show ∃ m2, FrM m m2 ∧ _ ∧ _ ∧ _ ∧ _ ∧ fb_X9_next_230 (f_X9_next_230 f) (mk S m) (some 50) (nI j) = _
    unfold fb_X9_next_230
    rw [gI_k hk, gI_k hk, h5, hT.1, Option.bind_some, Option.bind_some, if_neg (nI_nlt (by omega) (by omega))]
    exact hend j m (by omega) h5 h8
  | succ r ih =>
    intro f j m hp hf hT h5 h8 hd
    obtain ⟨f, rfl⟩ : ∃ k, f = k + 1 := ⟨f - 1, by omega⟩
    have hn := hT.2.1
    obtain ⟨t1, t2⟩ := hT.2.2.1 (s + j) (by omega)
    have eb : fb_X9_next_230 (f_X9_next_230 f) (mk S m) (some 50) (nI j) = if (if isD (tp (s + j)) = true then (1 : Int32) else 0) = 0 then (f_X9_next_309 (mk S m) (some 50) (nI j)) else if j < 4 then f_X9_next_290 (f_X9_next_230 f) (mk S m) (some 50) (nI j) ((((10 : Int32) * m 50 27) + nI (tp (s + j))) - (48 : Int32)) (some 50) else f_X9_next_290 (f_X9_next_230 f) (mk S m) (some 50) (nI j) 0 (some 50) := by
      unfold fb_X9_next_230
      rw [gI_k hk, gI_k hk, Option.bind_some, Option.bind_some, h5, hT.1, if_pos (nI_lt (by omega) (by omega)), gR_k hk, Option.bind_some, Option.bind_some, rk50_11 hS, rI_n (sk55 hS) (show s + j < 160 by omega) (by decide), Option.bind_some, t1, X9_isD t2, Option.bind_some]
      by_cases c1 : isD (tp (s + j)) = true
      · rw [if_pos c1, if_neg (show ¬ (1 : Int32) = 0 by decide), if_neg (show ¬ (1 : Int32) = 0 by decide)]
        by_cases c2 : j < 4
        · rw [if_pos (show nI j < (4 : Int32) from nI_lt (b := 4) c2 (by decide)), if_pos c2]
          show ((gI (mk S m) 9 (some 50) 27).bind fun v27 => (gR (mk S m) 9 (some 50) 11).bind fun v28 => (gI (mk S m) 9 (some 50) 24).bind fun v29 => (rI (mk S m) v28 v29).bind fun v30 => f_X9_next_290 (f_X9_next_230 f) (mk S m) (some 50) (nI j) (((((10 : Int32)) * v27) + v30) - ((48 : Int32))) (some 50)) = _
          rw [gI_k hk, Option.bind_some, gR_k hk, Option.bind_some, rk50_11 hS, gI_k hk, Option.bind_some, h5, rI_n (sk55 hS) (show s + j < 160 by omega) (by decide), Option.bind_some, t1]
        · rw [if_neg (show ¬ nI j < (4 : Int32) from nI_nlt (b := 4) (by omega) (by omega)), if_neg c2]
      · rw [if_neg c1, if_pos rfl, if_pos rfl]
    have e290 : ∀ v : Int32, f_X9_next_290 (f_X9_next_230 f) (mk S m) (some 50) (nI j) v (some 50) = f_X9_next_230 f (mk S (w2 (w2 m 50 27 v) 50 24 (nI (s + j + 1)))) (some 50) (nI (j + 1)) := fun v => by
      unfold f_X9_next_290
      rw [pI_k hk, Option.bind_some, bnd_eq, gI_k hk, Option.bind_some, w2_ap, if_neg (by omega), h5, pI_k hk, Option.bind_some, show nI (s + j) + (1 : Int32) = nI (s + j + 1) from nI_add _ 1, show nI j + (1 : Int32) = nI (j + 1) from nI_add j 1]
    show ∃ m2, FrM m m2 ∧ _ ∧ _ ∧ _ ∧ _ ∧ fb_X9_next_230 (f_X9_next_230 f) (mk S m) (some 50) (nI j) = _
    rw [eb]
    by_cases c1 : isD (tp (s + j)) = true
    · have e : ruS isD tp (r + 1) (s + j) = ruS isD tp r (s + (j + 1)) := by
        show (if isD (tp (s + j)) = true then _ else _) = _
        rw [if_pos c1]
        rfl
      rw [e, if_pos c1, if_neg (show ¬ (1 : Int32) = 0 by decide), e290, e290]
      have c3 : 48 ≤ tp (s + j) ∧ tp (s + j) ≤ 57 := by
        unfold isD at c1
        simpa using c1
      have hd2 : ∀ i, i < j + 1 → isD (tp (s + i)) = true := fun i hi => by
        by_cases c4 : i = j
        · rw [c4]; exact c1
        · exact hd i (by omega)
      have step : ∀ v : Int32, (j + 1 ≤ 4 → v = nI (nvS tp s (j + 1))) → ∃ m2, FrM m m2 ∧ m2 50 24 = nI (ruS isD tp r (s + (j + 1))) ∧ m2 50 25 = m 50 25 ∧ m2 50 26 = rtI (if 4 < ruS isD tp r (s + (j + 1)) - s then 258 else 256) ∧ (ruS isD tp r (s + (j + 1)) - s ≤ 4 → m2 50 27 = nI (nvS tp s (ruS isD tp r (s + (j + 1)) - s))) ∧ f_X9_next_230 f (mk S (w2 (w2 m 50 27 v) 50 24 (nI (s + j + 1)))) (some 50) (nI (j + 1)) = some (mk S m2) := by
        intro v hv
        have hF : FrM m (w2 (w2 m 50 27 v) 50 24 (nI (s + j + 1))) := (FrM.w (by omega)).tr (FrM.w (by omega))
        obtain ⟨m2, a1, a2, a3, a4, a5, a6⟩ := ih f (j + 1) (w2 (w2 m 50 27 v) 50 24 (nI (s + j + 1))) (by omega) (by omega) (hT.fr hF) (by rw [w2_ap, if_pos ⟨rfl, rfl⟩]; rfl) (fun y => by rw [w2_ap, if_neg (by omega), w2_ap, if_pos ⟨rfl, rfl⟩]; exact hv y) hd2
        refine ⟨m2, hF.tr a1, a2, ?_, a4, a5, a6⟩
        rw [a3, w2_ap, if_neg (by omega), w2_ap, if_neg (by omega)]
      by_cases c2 : j < 4
      · rw [if_pos c2, h8 (by omega), nv_step (nv_lt4 (by omega) hd) c3]
        exact step _ (fun _ => rfl)
      · rw [if_neg c2]
        exact step _ (fun y => by omega)
    · have e : ruS isD tp (r + 1) (s + j) = s + j := by
        show (if isD (tp (s + j)) = true then _ else _) = _
        rw [if_neg c1]
      rw [e, if_neg c1, if_pos rfl]
      exact hend j m (by omega) h5 h8
theorem M_52 {S : SK} {m : Nat → Nat → Int32} {n s : Nat} {tp : Nat → Nat} (hS : SkOK S) (hT : TPm m n tp) (h5 : m 50 24 = nI s) (hsn : s ≤ n) : f_X9_next_52 (mk S m) (some 50) = if n ≤ s then some (mk S (w2 (w2 (w2 m 50 25 (nI s)) 50 26 0) 50 27 0)) else if isL (tp s) = true then f_X9_next_103 FU (mk S (w2 (w2 (w2 m 50 25 (nI s)) 50 26 0) 50 27 0)) (some 50) else if isD (tp s) = true then f_X9_next_230 FU (mk S (w2 (w2 (w2 m 50 25 (nI s)) 50 26 0) 50 27 0)) (some 50) (nI 0) else some (mk S (w2 (w2 (w2 (w2 (w2 m 50 25 (nI s)) 50 26 0) 50 27 0) 50 26 (if isSg (tp s) = true then nI (tp s) else -1)) 50 24 (nI (s + 1)))) := by
  have hk : (sh S 50).1 = 9 := by rw [sk50 hS]
  have hn := hT.2.1
  have hT1 : TPm (w2 (w2 (w2 m 50 25 (nI s)) 50 26 0) 50 27 0) n tp := hT.fr (((FrM.w (by omega)).tr (FrM.w (by omega))).tr (FrM.w (by omega)))
  have g5 : w2 (w2 (w2 m 50 25 (nI s)) 50 26 0) 50 27 0 50 24 = nI s := by rw [w2_ap, if_neg (by omega), w2_ap, if_neg (by omega), w2_ap, if_neg (by omega)]; exact h5
  unfold f_X9_next_52
  rw [gI_k hk, Option.bind_some, h5, pI_k hk, Option.bind_some, pI_k hk, Option.bind_some, pI_k hk, Option.bind_some]
  generalize w2 (w2 (w2 m 50 25 (nI s)) 50 26 0) 50 27 0 = m3 at *
  rw [gI_k hk, Option.bind_some, g5, gI_k hk, Option.bind_some, hT1.1]
  by_cases c1 : n ≤ s
  · rw [if_pos (by rw [show s = n by omega]), if_pos c1]
  obtain ⟨t1, t2⟩ := hT1.2.2.1 s (by omega)
  rw [if_neg (fun y => c1 (Nat.le_of_eq ((nI_eq (by omega) (by omega)).1 y).symm)), if_neg c1, gR_k hk, Option.bind_some, Option.bind_some, rk50_11 hS, rI_n (sk55 hS) (show s < 160 by omega) (by decide), Option.bind_some, t1, X9_isL t2, Option.bind_some]
  by_cases c2 : isL (tp s) = true
  · rw [if_pos c2, if_pos c2, if_neg (show ¬ (1 : Int32) = 0 by decide)]
  rw [if_neg c2, if_neg c2, if_pos rfl, X9_isD t2, Option.bind_some]
  by_cases c3 : isD (tp s) = true
  · rw [if_pos c3, if_pos c3, if_neg (show ¬ (1 : Int32) = 0 by decide)]
    rfl
  rw [if_neg c3, if_neg c3, if_pos rfl]
  have e390 : ∀ v : Int32, f_X9_next_390 (mk S m3) (some 50) v (some 50) = some (mk S (w2 (w2 m3 50 26 v) 50 24 (nI (s + 1)))) := fun v => by
    unfold f_X9_next_390 f_X9_next_403
    rw [pI_k hk, Option.bind_some, gI_k hk, Option.bind_some, w2_ap, if_neg (by omega), g5, pI_k hk, Option.bind_some, show nI s + (1 : Int32) = nI (s + 1) from nI_add s 1]
  have key : isSg (tp s) = true → f_X9_next_374 (mk S m3) (some 50) (nI (tp s)) = some (mk S (w2 (w2 m3 50 26 (if isSg (tp s) = true then nI (tp s) else -1)) 50 24 (nI (s + 1)))) := fun h => by
    unfold f_X9_next_374 f_X9_next_379
    rw [if_neg (show ¬ (1 : Int32) = 0 by decide), e390, if_pos h]
  have ne : ∀ c : Nat, c ≤ 255 → tp s ≠ c → ¬ nI (tp s) = nI c := fun c hc h y => h ((nI_eq (by omega) (by omega)).1 y)
  show (if nI (tp s) = ((40 : Int32)) then (f_X9_next_374 (mk S m3) (some 50) (nI (tp s))) else (if nI (tp s) = ((41 : Int32)) then (f_X9_next_374 (mk S m3) (some 50) (nI (tp s))) else (if nI (tp s) = ((59 : Int32)) then (f_X9_next_374 (mk S m3) (some 50) (nI (tp s))) else (if nI (tp s) = ((43 : Int32)) then (f_X9_next_374 (mk S m3) (some 50) (nI (tp s))) else (if nI (tp s) = ((45 : Int32)) then (f_X9_next_374 (mk S m3) (some 50) (nI (tp s))) else (if nI (tp s) = ((42 : Int32)) then (f_X9_next_374 (mk S m3) (some 50) (nI (tp s))) else (if nI (tp s) = ((60 : Int32)) then (f_X9_next_374 (mk S m3) (some 50) (nI (tp s))) else (if nI (tp s) = ((61 : Int32)) then (f_X9_next_374 (mk S m3) (some 50) (nI (tp s))) else (f_X9_next_379 (mk S m3) (some 50) (nI (tp s)) ((0 : Int32)))))))))))  = _
  by_cases d1 : tp s = 40
  · rw [if_pos (by rw [d1]; rfl)]; exact key (by rw [d1]; rfl)
  rw [if_neg (show ¬ nI (tp s) = (40 : Int32) from ne 40 (by omega) d1)]
  by_cases d2 : tp s = 41
  · rw [if_pos (by rw [d2]; rfl)]; exact key (by rw [d2]; rfl)
  rw [if_neg (show ¬ nI (tp s) = (41 : Int32) from ne 41 (by omega) d2)]
  by_cases d3 : tp s = 59
  · rw [if_pos (by rw [d3]; rfl)]; exact key (by rw [d3]; rfl)
  rw [if_neg (show ¬ nI (tp s) = (59 : Int32) from ne 59 (by omega) d3)]
  by_cases d4 : tp s = 43
  · rw [if_pos (by rw [d4]; rfl)]; exact key (by rw [d4]; rfl)
  rw [if_neg (show ¬ nI (tp s) = (43 : Int32) from ne 43 (by omega) d4)]
  by_cases d5 : tp s = 45
  · rw [if_pos (by rw [d5]; rfl)]; exact key (by rw [d5]; rfl)
  rw [if_neg (show ¬ nI (tp s) = (45 : Int32) from ne 45 (by omega) d5)]
  by_cases d6 : tp s = 42
  · rw [if_pos (by rw [d6]; rfl)]; exact key (by rw [d6]; rfl)
  rw [if_neg (show ¬ nI (tp s) = (42 : Int32) from ne 42 (by omega) d6)]
  by_cases d7 : tp s = 60
  · rw [if_pos (by rw [d7]; rfl)]; exact key (by rw [d7]; rfl)
  rw [if_neg (show ¬ nI (tp s) = (60 : Int32) from ne 60 (by omega) d7)]
  by_cases d8 : tp s = 61
  · rw [if_pos (by rw [d8]; rfl)]; exact key (by rw [d8]; rfl)
  rw [if_neg (show ¬ nI (tp s) = (61 : Int32) from ne 61 (by omega) d8)]
  unfold f_X9_next_379
  rw [if_pos rfl, e390, if_neg (by unfold isSg; simp [d1, d2, d3, d4, d5, d6, d7, d8])]
theorem M_word {S : SK} {m : Nat → Nat → Int32} {n s e : Nat} {tp : Nat → Nat} (hS : SkOK S) (hT : TPm m n tp) (h24 : m 50 24 = nI e) (h25 : m 50 25 = nI s) (hse : s ≤ e) (he : e ≤ n) (ha : ∀ j, s ≤ j → j < e → isL (tp j) = true) : ∃ m2, FrM m m2 ∧ m2 50 24 = nI e ∧ m2 50 25 = nI s ∧ m2 50 26 = rtI (if wdK (tlS tp s (e - s)) = 12 then 258 else wdK (tlS tp s (e - s))) ∧ (wdK (tlS tp s (e - s)) < 9 → m2 50 27 = nI (rvT (wdK (tlS tp s (e - s))) 0)) ∧ f_X9_next_146 (mk S m) (some 50) = some (mk S m2) := by
  have hk : (sh S 50).1 = 9 := by rw [sk50 hS]
  obtain ⟨k, a1, a2, a3, a4⟩ := M_wordL hS hT hse he ha 12 FU 0 rfl (by unfold FU; omega) (fun j hj => by omega)
  have ew : f_X9_wordFrom (mk S m) (some 50) (nI s) (nI e) = some (nI k, mk S m) := a4
  have e195 : ∀ (v : Int32) (u : Nat), (u = if k < 3 then k else k - 3) → f_X9_next_195 (mk S m) (some 50) (nI k) v (some 50) = some (mk S (w2 (w2 m 50 26 v) 50 27 (nI u))) := fun v u hu => by
    unfold f_X9_next_195 f_X9_next_211 f_X9_next_403
    rw [pI_k hk, Option.bind_some]
    by_cases c : k < 3
    · rw [if_pos (show nI k < (3 : Int32) from nI_lt (b := 3) c (by decide)), pI_k hk, Option.bind_some, hu, if_pos c]
    · rw [if_neg (show ¬ nI k < (3 : Int32) from nI_nlt (b := 3) (by omega) (by omega)), show nI k - (3 : Int32) = nI (k - 3) from pk_sub (b := 3) (by omega), pI_k hk, Option.bind_some, hu, if_neg c]
  have fin : ∀ (v : Int32) (u : Nat), v = rtI (if wdK (tlS tp s (e - s)) = 12 then 258 else wdK (tlS tp s (e - s))) → (wdK (tlS tp s (e - s)) < 9 → u = rvT (wdK (tlS tp s (e - s))) 0) → ∃ m2, FrM m m2 ∧ m2 50 24 = nI e ∧ m2 50 25 = nI s ∧ m2 50 26 = rtI (if wdK (tlS tp s (e - s)) = 12 then 258 else wdK (tlS tp s (e - s))) ∧ (wdK (tlS tp s (e - s)) < 9 → m2 50 27 = nI (rvT (wdK (tlS tp s (e - s))) 0)) ∧ some (mk S (w2 (w2 m 50 26 v) 50 27 (nI u))) = some (mk S m2) := fun v u hv hu => by
    refine ⟨_, (FrM.w (by omega)).tr (FrM.w (by omega)), ?_, ?_, ?_, ?_, rfl⟩
    · rw [w2_ap, if_neg (by omega), w2_ap, if_neg (by omega)]; exact h24
    · rw [w2_ap, if_neg (by omega), w2_ap, if_neg (by omega)]; exact h25
    · rw [w2_ap, if_neg (by omega), w2_ap, if_pos ⟨rfl, rfl⟩, hv]
    · intro y
      rw [w2_ap, if_pos ⟨rfl, rfl⟩, hu y]
  unfold f_X9_next_146
  rw [gI_k hk, Option.bind_some, gI_k hk, Option.bind_some, h24, h25, vc_k hk, ew, Option.bind_some]
  by_cases c12 : k = 12
  · have h1 := a3 c12
    have h2 : wdK (tlS tp s (e - s)) = 12 := wdK_no (fun k hk y => by
      obtain ⟨q, q1, q2⟩ := rw_in k hk
      exact h1 q q1 (by rw [q2]; exact y))
    subst c12
    rw [if_neg (show ¬ nI 12 < (3 : Int32) by decide), if_neg (show ¬ nI 12 < (9 : Int32) by decide), if_pos (show nI 12 = (12 : Int32) from rfl), e195 (-1) 9 rfl]
    exact fin (-1) 9 (by rw [h2]; rfl) (fun y => by rw [h2] at y; exact absurd y (by decide))
  · have hk12 : k < 12 := by omega
    have h2 : wdK (tlS tp s (e - s)) = rwS k := wdK_of (rw_ok k hk12).1 (a2 hk12)
    rw [h2] at fin ⊢
    by_cases c3 : k < 3
    · rw [if_pos (show nI k < (3 : Int32) from nI_lt (b := 3) c3 (by decide)), e195 3 k (by rw [if_pos c3])]
      have er : rwS k = k + 6 := by unfold rwS; rw [if_pos c3]
      rw [er] at fin ⊢
      refine fin 3 k ?_ ?_
      · rw [if_neg (by omega)]
        unfold rtI
        rw [if_neg (by omega), if_pos (by omega)]
      · intro _
        unfold rvT
        rw [if_neg (by omega), if_pos (by omega)]
        omega
    · rw [if_neg (show ¬ nI k < (3 : Int32) from nI_nlt (b := 3) (by omega) (by omega))]
      by_cases c9 : k < 9
      · rw [if_pos (show nI k < (9 : Int32) from nI_lt (b := 9) c9 (by decide)), e195 2 (k - 3) (by rw [if_neg c3])]
        have er : rwS k = k - 3 := by unfold rwS; rw [if_neg c3, if_pos c9]
        rw [er] at fin ⊢
        refine fin 2 (k - 3) ?_ ?_
        · rw [if_neg (by omega)]
          unfold rtI
          rw [if_pos (by omega)]
        · intro _
          unfold rvT
          rw [if_pos (by omega)]
      · rw [if_neg (show ¬ nI k < (9 : Int32) from nI_nlt (b := 9) (by omega) (by omega)), if_neg (show ¬ nI k = (12 : Int32) from fun y => c12 ((nI_eq (b := 12) (by omega) (by decide)).1 y)), e195 _ (k - 3) (by rw [if_neg c3])]
        have er : rwS k = k := by unfold rwS; rw [if_neg c3, if_neg c9]
        rw [er] at fin ⊢
        refine fin _ (k - 3) ?_ (fun y => by omega)
        rw [if_neg (by omega)]
        unfold rtI
        rw [if_neg (by omega), if_neg (by omega), if_pos (by omega), show (4 : Int32) + nI k = nI (4 + k) from nI_add 4 k, show nI (4 + k) - (9 : Int32) = nI (4 + k - 9) from pk_sub (b := 9) (by omega), show 4 + k - 9 = k - 5 by omega]
theorem M_tok {S : SK} {m : Nat → Nat → Int32} {n p : Nat} {tp : Nat → Nat} (hS : SkOK S) (hT : TPm m n tp) (h5 : m 50 24 = nI p) (hp : p ≤ n) : ∃ m2, FrM m m2 ∧ m2 50 24 = nI (tkT tp n p).2.2 ∧ m2 50 25 = nI (tpP tp n p) ∧ m2 50 26 = rtI (tkT tp n p).1 ∧ ((tkT tp n p).1 < 9 ∨ (tkT tp n p).1 = 256 → m2 50 27 = nI (rvT (tkT tp n p).1 (tkT tp n p).2.1)) ∧ f_X9_next (mk S m) (some 50) = some (mk S m2) := by
  have hk : (sh S 50).1 = 9 := by rw [sk50 hS]
  have hn := hT.2.1
  obtain ⟨m1, a1, a2, a3⟩ := M_skip hS (n - p) FU p m (by omega) (by unfold FU; omega) hT h5
  have a2 : m1 50 24 = nI (tpP tp n p) := a2
  have hs := ruS_ge (c := isBl) (tp := tp) (n - p) p
  have hs2 : p ≤ tpP tp n p ∧ tpP tp n p ≤ n := ⟨hs.1, by unfold tpP; omega⟩
  have e0 : f_X9_next (mk S m) (some 50) = f_X9_next_0 FU (mk S m) (some 50) := rfl
  rw [e0, a3, M_52 hS (hT.fr a1.c) a2 hs2.2]
  have F1 : FrM m (w2 (w2 (w2 m1 50 25 (nI (tpP tp n p))) 50 26 0) 50 27 0) := ((a1.c.tr (FrM.w (by omega))).tr (FrM.w (by omega))).tr (FrM.w (by omega))
  have hT1 := hT.fr F1
  unfold tkT
  clear hs
  generalize tpP tp n p = s at *
  have g5 : w2 (w2 (w2 m1 50 25 (nI s)) 50 26 0) 50 27 0 50 24 = nI s := by rw [w2_ap, if_neg (by omega), w2_ap, if_neg (by omega), w2_ap, if_neg (by omega)]; exact a2
  have g6 : w2 (w2 (w2 m1 50 25 (nI s)) 50 26 0) 50 27 0 50 25 = nI s := by rw [w2_ap, if_neg (by omega), w2_ap, if_neg (by omega), w2_ap, if_pos ⟨rfl, rfl⟩]
  have g7 : w2 (w2 (w2 m1 50 25 (nI s)) 50 26 0) 50 27 0 50 26 = 0 := by rw [w2_ap, if_neg (by omega), w2_ap, if_pos ⟨rfl, rfl⟩]
  have g8 : w2 (w2 (w2 m1 50 25 (nI s)) 50 26 0) 50 27 0 50 27 = nI 0 := by rw [w2_ap, if_pos ⟨rfl, rfl⟩]; rfl
  generalize w2 (w2 (w2 m1 50 25 (nI s)) 50 26 0) 50 27 0 = m3 at *
  by_cases c1 : n ≤ s
  · rw [if_pos c1, if_pos c1]
    exact ⟨m3, F1, g5, g6, g7, fun y => absurd y (show ¬ (257 < 9 ∨ 257 = 256) by decide), rfl⟩
  have hsn : s < n := by omega
  obtain ⟨t1, t2⟩ := hT1.2.2.1 s hsn
  rw [if_neg c1, if_neg c1]
  by_cases c2 : isL (tp s) = true
  · have hg := ruS_gt (c := isL) hsn c2
    have hg2 := (ruS_ge (c := isL) (tp := tp) (n - s) s).2
    have hg3 := ruS_all (c := isL) (tp := tp) (n - s) s
    obtain ⟨m4, b1, b2, b3⟩ := M_run hS (n - s) FU s m3 (by omega) (by unfold FU; omega) hT1 g5
    rw [if_pos c2, if_pos c2, b3]
    generalize ruS isL tp (n - s) s = e at *
    obtain ⟨m5, d1, d2, d3, d4, d5, d6⟩ := M_word hS (hT1.fr b1.c) b2 (by rw [b1 50 25 (by omega)]; exact g6) (by omega) (by omega) hg3
    refine ⟨m5, (F1.tr b1.c).tr d1, d2, d3, d4, ?_, d6⟩
    have hw := (wdK_le (tlS tp s (e - s))).1
    show ((if wdK (tlS tp s (e - s)) = 12 then 258 else wdK (tlS tp s (e - s))) < 9 ∨ (if wdK (tlS tp s (e - s)) = 12 then 258 else wdK (tlS tp s (e - s))) = 256) → m5 50 27 = nI (rvT (if wdK (tlS tp s (e - s)) = 12 then 258 else wdK (tlS tp s (e - s))) 0)
    by_cases c12 : wdK (tlS tp s (e - s)) = 12
    · rw [if_pos c12]
      intro y
      exact absurd y (by decide)
    · rw [if_neg c12]
      intro y
      exact d5 (by omega)
  rw [if_neg c2, if_neg c2]
  by_cases c3 : isD (tp s) = true
  · have hg := ruS_gt (c := isD) hsn c3
    have hg2 := (ruS_ge (c := isD) (tp := tp) (n - s) s).2
    rw [if_pos c3, if_pos c3]
    obtain ⟨m5, d1, d2, d3, d4, d5, d6⟩ := M_num (tp := tp) (n := n) (s := s) hS (n - s) FU 0 m3 (by omega) (by unfold FU; omega) hT1 g5 (fun _ => g8) (fun i hi => by omega)
    refine ⟨m5, F1.tr d1, d2, by rw [d3]; exact g6, d4, ?_, d6⟩
    show ((if 4 < ruS isD tp (n - s) s - s then 258 else 256) < 9 ∨ (if 4 < ruS isD tp (n - s) s - s then 258 else 256) = 256) → m5 50 27 = nI (rvT (if 4 < ruS isD tp (n - s) s - s then 258 else 256) (nvS tp s (ruS isD tp (n - s) s - s)))
    by_cases c4 : 4 < ruS isD tp (n - s) s - s
    · rw [if_pos c4]
      intro y
      exact absurd y (by decide)
    · rw [if_neg c4]
      intro y
      exact d5 (show ruS isD tp (n - s) s - s ≤ 4 by omega)
  · rw [if_neg c3, if_neg c3]
    refine ⟨_, (F1.tr (FrM.w (j := 26) (by omega))).tr (FrM.w (j := 24) (by omega)), ?_, ?_, ?_, ?_, rfl⟩
    · rw [w2_ap, if_pos ⟨rfl, rfl⟩]
    · rw [w2_ap, if_neg (by omega), w2_ap, if_neg (by omega)]; exact g6
    · rw [w2_ap, if_neg (by omega), w2_ap, if_pos ⟨rfl, rfl⟩]
      show (if isSg (tp s) = true then nI (tp s) else -1) = rtI (if isSg (tp s) = true then tp s else 258)
      by_cases c4 : isSg (tp s) = true
      · rw [if_pos c4, if_pos c4]
        have c5 : tp s = 40 ∨ tp s = 41 ∨ tp s = 42 ∨ tp s = 43 ∨ tp s = 45 ∨ tp s = 59 ∨ tp s = 60 ∨ tp s = 61 := by
          unfold isSg at c4
          simpa [or_assoc] using c4
        unfold rtI
        rw [if_neg (by omega), if_neg (by omega), if_neg (by omega), if_neg (by omega), if_neg (by omega), if_neg (by omega)]
      · rw [if_neg c4, if_neg c4]
        rfl
    · show ((if isSg (tp s) = true then tp s else 258) < 9 ∨ (if isSg (tp s) = true then tp s else 258) = 256) → _
      by_cases c4 : isSg (tp s) = true
      · have c5 : tp s = 40 ∨ tp s = 41 ∨ tp s = 42 ∨ tp s = 43 ∨ tp s = 45 ∨ tp s = 59 ∨ tp s = 60 ∨ tp s = 61 := by
          unfold isSg at c4
          simpa [or_assoc] using c4
        rw [if_pos c4]
        intro y
        omega
      · rw [if_neg c4]
        intro y
        omega
