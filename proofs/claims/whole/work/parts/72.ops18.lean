/-! PURE: calls: film -/
def upF (F : Nat → Int32) (k : Nat) (v : Int32) : Nat → Int32 := fun j => if j = k then v else F j
def fmS (E : EN) : Nat → Nat → QS → Nat → (Nat → Int32) → Nat × (Nat → Int32)
  | 0, _, _, n, F => (n, F)
  | r + 1, i, q, n, F => if canS E q i = true then fmS E r (i + 1) (putS E q i) (n + 1) (upF (upF F (2 * n) (nI i)) (2 * n + 1) (nI (if opS E q i = true then 1 else 0))) else fmS E r (i + 1) q n F
theorem fmS_le {E : EN} : ∀ (r i : Nat) (q : QS) (n : Nat) (F : Nat → Int32), (fmS E r i q n F).1 ≤ n + r := by
  intro r
  induction r with
  | zero =>
    intro i q n F
    exact Nat.le_refl _
  | succ r ih =>
    intro i q n F
    unfold fmS
    by_cases h : canS E q i = true
    · rw [if_pos h]
      have := ih (i + 1) (putS E q i) (n + 1) (upF (upF F (2 * n) (nI i)) (2 * n + 1) (nI (if opS E q i = true then 1 else 0)))
      omega
    · rw [if_neg h]
      have := ih (i + 1) q n F
      omega
def ZF (S : SK) (s b : Nat) : Prop := ZJ S b ∨ b = 38 + 2 * s ∨ b = 39 + 2 * s
theorem C_filmT {S : SK} {E : EN} {l s n : Nat} {q : QS} (hs : s < 4) : ∀ (t f i : Nat) (m : Nat → Nat → Int32), i + t = 7 → eN E ≤ i → t < f → CI S m 9 E l q → f_X8_film_40 f (mk S m) (some 0) (some (38 + 2 * s)) (nI n) (nI i) = some (nI n, mk S (w2 m (38 + 2 * s) 2 (nI (2 * n)))) := by
  intro t
  induction t with
  | zero =>
    intro f i m hi hN hf hC
    obtain ⟨f, rfl⟩ : ∃ k, f = k + 1 := ⟨f - 1, by omega⟩
    have hi : i = 7 := by omega
    subst hi
    have hS := hC.1.1
    obtain ⟨b1, b2, b3, b4⟩ := shS hS s hs
    have hk4 : (sh S (38 + 2 * s)).1 = 4 := by rw [b1]
    show fb_X8_film_40 (f_X8_film_40 f) (mk S m) (some 0) (some (38 + 2 * s)) (nI n) (nI 7) = _
    unfold fb_X8_film_40
    rw [if_neg (show ¬ nI 7 < ((7 : Int32)) by decide), pI_k hk4, Option.bind_some, show (2 : Int32) * nI n = nI (2 * n) from pk_mul 2 n]
  | succ t ih =>
    intro f i m hi hN hf hC
    obtain ⟨f, rfl⟩ : ∃ k, f = k + 1 := ⟨f - 1, by omega⟩
    have hS := hC.1.1
    have hk8 : (sh S 0).1 = 8 := by rw [sk0 hS]
    have hk9 : (sh S 9).1 = 1 := by rw [sk9 hS]
    show fb_X8_film_40 (f_X8_film_40 f) (mk S m) (some 0) (some (38 + 2 * s)) (nI n) (nI i) = _
    unfold fb_X8_film_40
    rw [if_pos (show nI i < (7 : Int32) from (nI_ltI (b := 7) (by omega) (by omega)).2 (by omega)), gR_k hk8, rk0_4 hS, Option.bind_some, vc_k hk9, C_mayPut_no hC (Or.inr (nI_nlt hN (by omega))), Option.bind_some, if_pos (show nI 0 = (0 : Int32) from rfl)]
    unfold f_X8_film_100
    rw [bnd_eq, show nI i + (1 : Int32) = nI (i + 1) from nI_add i 1]
    exact ih f (i + 1) m (by omega) (by omega) (by omega) hC
theorem C_filmL {S : SK} {E : EN} {l s : Nat} (hs : s < 4) : ∀ (r f i : Nat) (m : Nat → Nat → Int32) (q : QS) (n : Nat) (F : Nat → Int32), i + r = eN E → 8 + r < f → n ≤ i → CI S m 9 E l q → m (38 + 2 * s) 1 = nI 2 → m (38 + 2 * s) 2 = nI 14 → (∀ k, k < 40 → m (39 + 2 * s) k = F k) →
    ∃ m2, f_X8_film_40 f (mk S m) (some 0) (some (38 + 2 * s)) (nI n) (nI i) = some (nI (fmS E r i q n F).1, mk S m2) ∧ (∀ k, k < 40 → m2 (39 + 2 * s) k = (fmS E r i q n F).2 k) ∧ m2 (38 + 2 * s) 1 = nI 2 ∧ m2 (38 + 2 * s) 2 = nI (2 * (fmS E r i q n F).1) ∧ Ag (ZF S s) m m2 := by
  intro r
  induction r with
  | zero =>
    intro f i m q n F hi hf hn hC h1 h2 h3
    have hN := hC.1.2.1.2.2.1
    refine ⟨_, C_filmT hs (7 - i) f i m (by omega) (by omega) (by omega) hC, ?_, ?_, ?_, Ag.w2 Ag.rf (Or.inr (Or.inl rfl))⟩
    · intro k hk
      rw [w2_ap, if_neg (by omega)]
      exact h3 k hk
    · rw [w2_ap, if_neg (by simp), h1]
    · rw [w2_ap, if_pos ⟨rfl, rfl⟩]
      rfl
  | succ r ih =>
    intro f i m q n F hi hf hn hC h1 h2 h3
    obtain ⟨f, rfl⟩ : ∃ k, f = k + 1 := ⟨f - 1, by omega⟩
    have hS := hC.1.1
    have hN := hC.1.2.1.2.2.1
    have hk8 : (sh S 0).1 = 8 := by rw [sk0 hS]
    have hk9 : (sh S 9).1 = 1 := by rw [sk9 hS]
    obtain ⟨b1, b2, b3, b4⟩ := shS hS s hs
    have hk4 : (sh S (38 + 2 * s)).1 = 4 := by rw [b1]
    have r04 : ∀ m', gR (mk S m') 8 (some 0) 4 = some (some 9) := fun m' => by rw [gR_k hk8, rk0_4 hS]
    have hc : i < eN E := by omega
    have e100 : ∀ h (n : Nat), f_X8_film_100 (f_X8_film_40 f) h (some 0) (some (38 + 2 * s)) (nI n) (nI i) = f_X8_film_40 f h (some 0) (some (38 + 2 * s)) (nI n) (nI (i + 1)) := fun h n => by
      unfold f_X8_film_100
      rw [bnd_eq, show nI i + (1 : Int32) = nI (i + 1) from nI_add i 1]
    show ∃ m2, fb_X8_film_40 (f_X8_film_40 f) (mk S m) (some 0) (some (38 + 2 * s)) (nI n) (nI i) = _ ∧ _
    unfold fb_X8_film_40
    rw [if_pos (show nI i < (7 : Int32) from (nI_ltI (b := 7) (by omega) (by omega)).2 (by omega)), r04, Option.bind_some, vc_k hk9, C_mayPut hC hc, Option.bind_some]
    by_cases hcan : canS E q i = true
    · have ef : fmS E (r + 1) i q n F = fmS E r (i + 1) (putS E q i) (n + 1) (upF (upF F (2 * n) (nI i)) (2 * n + 1) (nI (if opS E q i = true then 1 else 0))) := if_pos hcan
      rw [ef]
      have hC0 : CI S (w2 m (39 + 2 * s) (2 * n) (nI i)) 9 E l q := hC.ag (Ag.w2 (Z := fun b => b = 39 + 2 * s) Ag.rf rfl) (ZOK.of (fun b hb => Or.inr (Or.inl (by omega)))) (by omega) (by omega)
      obtain ⟨m1, e1, hC1, ag1⟩ := C_put hC0 hc
      have nz : ∀ b, 38 ≤ b → b ≤ 45 → m1 b = w2 m (39 + 2 * s) (2 * n) (nI i) b := fun b x y => ag1 b (fun z => by
        have := (zg9_zj z).no
        omega)
      have g1 : m1 (38 + 2 * s) 1 = nI 2 := by rw [nz _ (by omega) (by omega), w2_ap, if_neg (by omega), h1]
      have g2 : m1 (38 + 2 * s) 2 = nI 14 := by rw [nz _ (by omega) (by omega), w2_ap, if_neg (by omega), h2]
      have hC2 : ∀ v, CI S (w2 m1 (39 + 2 * s) (2 * n + 1) v) 9 E l (putS E q i) := fun v => hC1.ag (Ag.w2 (Z := fun b => b = 39 + 2 * s) Ag.rf rfl) (ZOK.of (fun b hb => Or.inr (Or.inl (by omega)))) (by omega) (by omega)
      have wr : ∀ (m' : Nat → Nat → Int32) (k : Nat) (v : Int32), k < 14 → m' (38 + 2 * s) 1 = nI 2 → m' (38 + 2 * s) 2 = nI 14 → f_X4_write (mk S m') (some (38 + 2 * s)) (nI k) v = some (mk S (w2 m' (39 + 2 * s) k v)) := fun m' k v hk y1 y2 => by
        rw [X4_write hS hs (z := 14) (by decide) y2 hk, y1, if_neg (show ¬ nI 2 = (0 : Int32) by decide), if_neg (show ¬ nI 2 = (1 : Int32) by decide)]
      obtain ⟨m2, e2, c1, c2, c3, ag2⟩ := ih f (i + 1) (w2 m1 (39 + 2 * s) (2 * n + 1) (nI (if opS E q i = true then 1 else 0))) (putS E q i) (n + 1) (upF (upF F (2 * n) (nI i)) (2 * n + 1) (nI (if opS E q i = true then 1 else 0))) (by omega) (by omega) (by omega) (hC2 _) (by rw [w2_ap, if_neg (by omega), g1]) (by rw [w2_ap, if_neg (by omega), g2]) (fun k hk => by
        unfold upF
        rw [w2_ap]
        by_cases z : k = 2 * n + 1
        · rw [if_pos ⟨rfl, z⟩, if_pos z]
        · rw [if_neg (fun y => z y.2), if_neg z, nz _ (by omega) (by omega), w2_ap]
          by_cases z2 : k = 2 * n
          · rw [if_pos ⟨rfl, z2⟩, if_pos z2]
          · rw [if_neg (fun y => z2 y.2), if_neg z2]
            exact h3 k hk)
      refine ⟨m2, ?_, c1, c2, c3, ((((Ag.w2 (Z := ZF S s) Ag.rf (Or.inr (Or.inr rfl))).tr (ag1.mono (fun b hb => Or.inl (zg9_zj hb)))).w2 (Or.inr (Or.inr rfl)))).tr ag2⟩
      rw [hcan, if_neg (show ¬ nI (if true = true then 1 else 0) = (0 : Int32) by decide), show (2 : Int32) * nI n = nI (2 * n) from pk_mul 2 n, vc_k hk4, wr m (2 * n) (nI i) (by omega) h1 h2, Option.bind_some, r04, Option.bind_some, vc_k hk9, e1, Option.bind_some]
      have e94 : ∀ v : Int32, f_X8_film_94 (f_X8_film_40 f) (mk S m1) (some 0) (some (38 + 2 * s)) (nI n) (nI i) v (nI (2 * n) + ((1 : Int32))) (some (38 + 2 * s)) = f_X8_film_40 f (mk S (w2 m1 (39 + 2 * s) (2 * n + 1) v)) (some 0) (some (38 + 2 * s)) (nI (n + 1)) (nI (i + 1)) := fun v => by
        unfold f_X8_film_94
        rw [show nI (2 * n) + (1 : Int32) = nI (2 * n + 1) from nI_add (2 * n) 1, vc_k hk4, wr m1 (2 * n + 1) v (by omega) g1 g2, Option.bind_some, bnd_eq, show nI n + (1 : Int32) = nI (n + 1) from nI_add n 1, e100]
      by_cases ho : opS E q i = true
      · rw [ho] at e2 ⊢
        rw [if_neg (show ¬ nI (if true = true then 1 else 0) = (0 : Int32) by decide), show (1 : Int32) = nI (if true = true then 1 else 0) from rfl]
        exact (e94 _).trans e2
      · have ho' : opS E q i = false := by simpa using ho
        rw [ho'] at e2 ⊢
        rw [if_pos (show nI (if false = true then 1 else 0) = (0 : Int32) from rfl)]
        exact (e94 _).trans e2
    · have hcan' : canS E q i = false := by simpa using hcan
      have ef : fmS E (r + 1) i q n F = fmS E r (i + 1) q n F := if_neg hcan
      rw [ef, hcan', if_pos (show nI (if false = true then 1 else 0) = (0 : Int32) from rfl), e100]
      exact ih f (i + 1) m q n F (by omega) (by omega) (by omega) hC h1 h2 h3
