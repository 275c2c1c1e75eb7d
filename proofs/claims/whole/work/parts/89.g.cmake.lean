/-! PURE: the class makes a Text -/
theorem C_copyOf {S : SK} {m : Nat → Nat → Int32} {a L n : Nat} (ha : sh S a = (10, L)) (haS : a < S.1) (hn : n ≤ L) (hL : L ≤ 200) : ∃ S2 m2, f_J7_copyOf (mk S m) (some a) (nI n) = some (some S.1, mk S2 m2) ∧ S2.1 = S.1 + 1 ∧ (∀ b, b ≠ S.1 → sh S2 b = sh S b ∧ (∀ j, rf S2 b j = rf S b j) ∧ m2 b = m b) ∧ sh S2 S.1 = (10, n) ∧ ∀ j, j < n → m2 S.1 j = m a j := by
  unfold f_J7_copyOf
  rw [ln_mk, ha, if_pos (show 10 ≤ 10 ∧ 10 ≤ 15 by decide), Option.bind_some]
  by_cases c : n = L
  · have e1 : nC (mk S m) 200 (some a) = some (mk (S.1 + 1, (fun b => if b = S.1 then (10, (sh S a).2) else S.2.1 b), (fun b => if b = S.1 then fun _ => 0 else S.2.2.1 b), (fun b => if b = S.1 then fun _ => none else S.2.2.2 b)) (fun b => if b = S.1 then m a else m b)) := by
      unfold nC
      have e2 : xs (mk S m) a = (10, L) := ha
      rw [Option.bind_some, if_pos ⟨by rw [e2], by rw [e2]; exact hL⟩]
      rfl
    rw [if_pos (show nI n = Int32.ofNat ((10, L) : Nat × Nat).2 by rw [c]; rfl), e1, Option.bind_some, xc_mk, vc_k (by show (if S.1 = S.1 then (10, (sh S a).2) else _).1 = 10; rw [if_pos rfl])]
    refine ⟨_, _, rfl, rfl, fun b hb => ⟨?_, fun j => ?_, ?_⟩, ?_, fun j _ => ?_⟩
    · exact if_neg hb
    · show (if b = S.1 then (fun _ => none) else S.2.2.2 b) j = _
      rw [if_neg hb]
      rfl
    · exact if_neg hb
    · show (if S.1 = S.1 then (10, (sh S a).2) else _) = _
      rw [if_pos rfl, ha, c]
    · show (if S.1 = S.1 then m a else _) j = _
      rw [if_pos rfl]
  · have e1 : nA (mk S m) 10 200 (nI n) = some (mk (S.1 + 1, (fun b => if b = S.1 then (10, n) else S.2.1 b), (fun b => if b = S.1 then fun _ => 0 else S.2.2.1 b), (fun b => if b = S.1 then fun _ => none else S.2.2.2 b)) (fun b => if b = S.1 then fun _ => 0 else m b)) := by
      unfold nA
      rw [nI_clamp (by omega), if_neg (by
        rintro (y | y)
        · exact nI_pos (by omega) y
        · omega)]
      unfold nw
      rfl
    have hs1 : sh (S.1 + 1, (fun b => if b = S.1 then (10, n) else S.2.1 b), (fun b => if b = S.1 then fun _ => 0 else S.2.2.1 b), (fun b => if b = S.1 then fun _ => none else S.2.2.2 b)) a = (10, L) := (if_neg (by omega)).trans ha
    have hs2 : sh (S.1 + 1, (fun b => if b = S.1 then (10, n) else S.2.1 b), (fun b => if b = S.1 then fun _ => 0 else S.2.2.1 b), (fun b => if b = S.1 then fun _ => none else S.2.2.2 b)) S.1 = (10, n) := if_pos rfl
    rw [if_neg (show ¬ nI n = Int32.ofNat ((10, L) : Nat × Nat).2 from fun y => c ((nI_eq (b := L) (by omega) (by omega)).1 y)), e1, Option.bind_some, ln_mk, hs1, if_pos (show 10 ≤ 10 ∧ 10 ≤ 15 by decide), Option.bind_some, bnd_eq, if_pos (show nI n < Int32.ofNat ((10, L) : Nat × Nat).2 from nI_lt (b := L) (by omega) (by omega)), xc_mk, show cp _ (some a) (0 : Int32) (some S.1) (0 : Int32) (nI n) = _ from cp_n (p := 0) (r := 0) (c := n) hs1 hs2 (by omega) (by omega) (by omega) (by omega), Option.bind_some]
    refine ⟨_, _, rfl, rfl, fun b hb => ⟨?_, fun j => ?_, ?_⟩, ?_, fun j hj => ?_⟩
    · exact if_neg hb
    · show (if b = S.1 then (fun _ => none) else S.2.2.2 b) j = _
      rw [if_neg hb]
      rfl
    · show (if b = S.1 then _ else (if b = S.1 then fun _ => 0 else m b)) = _
      rw [if_neg hb, if_neg hb]
    · exact hs2
    · show (if S.1 = S.1 then va_cpy (if a = S.1 then fun _ => 0 else m a) (if S.1 = S.1 then fun _ => 0 else m S.1) 0 0 n else _) j = _
      rw [if_pos rfl, if_pos rfl, if_neg (by omega)]
      unfold va_cpy
      rw [if_pos (by omega)]
      congr 1
      omega
theorem C_make {S : SK} {m : Nat → Nat → Int32} {N : Nat} (hS : RdOK S) (h10 : m 33 10 = nI N) (hN : N ≤ 160) : ∃ S2 m2, f_X3_readText_64 (mk S m) (some 33) 1 = some (some S.1, mk S2 m2) ∧ S2.1 = S.1 + 4 ∧ (∀ b, b < S.1 → sh S2 b = sh S b ∧ ∀ j, rf S2 b j = rf S b j) ∧ TxS S2 S.1 N ∧ (∀ b, b < S.1 → b ≠ 33 → m2 b = m b) ∧ m2 33 3 = nI 0 ∧ (∀ j, j < N → m2 (S.1 + 1) j = m 35 j) ∧ ∀ j, j < 4 → m2 (S.1 + 2) j = m 36 j := by
  have hk : (sh S 33).1 = 3 := by rw [rd33 hS]
  have h37 : 37 ≤ S.1 := hS.2.2.2.2.2.2.2
  unfold f_X3_readText_64
  rw [gI_k hk, Option.bind_some, pI_k hk, Option.bind_some, pI_k hk, Option.bind_some, if_neg (show ¬ (1 : Int32) = 0 by decide)]
  have q10 : w2 (w2 m 33 4 (m 33 6)) 33 3 0 33 10 = nI N := by rw [w2_ap, if_neg (by omega), w2_ap, if_neg (by omega)]; exact h10
  have q33 : ∀ b, b ≠ 33 → w2 (w2 m 33 4 (m 33 6)) 33 3 0 b = m b := fun b hb => by
    rw [w2_ne (by omega), w2_ne (by omega)]
  have q3 : w2 (w2 m 33 4 (m 33 6)) 33 3 0 33 3 = nI 0 := by rw [w2_ap, if_pos ⟨rfl, rfl⟩]; rfl
  generalize w2 (w2 m 33 4 (m 33 6)) 33 3 0 = m3 at *
  have e1 : nO (mk S m3) 5 3 = some (mk (S.1 + 1, (fun b => if b = S.1 then (5, 3) else S.2.1 b), (fun b => if b = S.1 then fun _ => 0 else S.2.2.1 b), (fun b => if b = S.1 then fun _ => none else S.2.2.2 b)) (fun b => if b = S.1 then fun _ => 0 else m3 b)) := rfl
  obtain ⟨Sa, hSa⟩ : ∃ Sa : SK, Sa = (S.1 + 1, (fun b => if b = S.1 then (5, 3) else S.2.1 b), (fun b => if b = S.1 then fun _ => 0 else S.2.2.1 b), (fun b => if b = S.1 then fun _ => none else S.2.2.2 b)) := ⟨_, rfl⟩
  obtain ⟨ma, hma⟩ : ∃ ma : Nat → Nat → Int32, ma = (fun b => if b = S.1 then fun _ => 0 else m3 b) := ⟨_, rfl⟩
  rw [← hSa, ← hma] at e1
  have a1 : Sa.1 = S.1 + 1 := by rw [hSa]
  have a2 : ∀ b, b ≠ S.1 → sh Sa b = sh S b := fun b hb => by rw [hSa]; exact if_neg hb
  have a3 : ∀ b j, b ≠ S.1 → rf Sa b j = rf S b j := fun b j hb => by
    rw [hSa]
    show (if b = S.1 then (fun _ => none) else S.2.2.2 b) j = _
    rw [if_neg hb]
    rfl
  have a4 : sh Sa S.1 = (5, 3) := by rw [hSa]; exact if_pos rfl
  have a5 : ∀ b, b ≠ S.1 → ma b = m3 b := fun b hb => by rw [hma]; exact if_neg hb
  clear hSa hma
  have hka : (sh Sa 33).1 = 3 := by rw [a2 33 (by omega)]; exact hk
  rw [e1, Option.bind_some, gR_k hka, Option.bind_some, a3 33 1 (by omega), rr33_1 hS, gI_k hka, Option.bind_some, a5 33 (by omega), q10]
  obtain ⟨Sb, mb, b1, b2, b3, b4, b5⟩ := C_copyOf (S := Sa) (m := ma) (a := 35) (L := 160) (n := N) (by rw [a2 35 (by omega)]; exact rd35 hS) (by omega) hN (by decide)
  have hkb : (sh Sb 33).1 = 3 := by rw [(b3 33 (by omega)).1]; exact hka
  rw [b1, Option.bind_some]
  show ∃ S2 m2, ((gR (mk Sb mb) 3 (some 33) 2).bind fun v8 => (f_J7_copyOf (mk Sb mb) v8 ((4 : Int32))).bind fun q9 => (((some (xc (mk S m3)))).bind fun _ => f_X5_init q9.2 (some (xc (mk S m3))) (some Sa.1) q9.1).bind fun q10 => f_X3_readText_112 q10 (some (xc (mk S m3)))) = _ ∧ _
  rw [gR_k hkb, Option.bind_some, (b3 33 (by omega)).2.1 2, a3 33 2 (by omega), rr33_2 hS]
  obtain ⟨Sc, mc, c1, c2, c3, c4, c5⟩ := C_copyOf (S := Sb) (m := mb) (a := 36) (L := 4) (n := 4) (by rw [(b3 36 (by omega)).1, a2 36 (by omega)]; exact rd36 hS) (by omega) (Nat.le_refl 4) (by decide)
  rw [show f_J7_copyOf (mk Sb mb) (some 36) (4 : Int32) = _ from c1, Option.bind_some]
  show ∃ S2 m2, (((some S.1)).bind fun _ => f_X5_init (mk Sc mc) (some S.1) (some Sa.1) (some Sb.1)).bind _ = _ ∧ _
  rw [Option.bind_some]
  have hAc : sh Sc S.1 = (5, 3) := by rw [(c3 S.1 (by omega)).1, (b3 S.1 (by omega)).1]; exact a4
  have hBc : sh Sc Sa.1 = (10, N) := by rw [(c3 Sa.1 (by omega)).1]; exact b4
  unfold f_X5_init f_X3_readText_112
  have r1 : pR (mk Sc mc) 5 (some S.1) 0 (some Sa.1) = some (mk (Sc.1, Sc.2.1, Sc.2.2.1, w2 Sc.2.2.2 S.1 0 (some Sa.1)) mc) := by
    unfold pR
    rw [Option.bind_some, if_pos (show (xs (mk Sc mc) S.1).1 = 5 by rw [xs_mk, hAc])]
    rfl
  have r2 : pR (mk (Sc.1, Sc.2.1, Sc.2.2.1, w2 Sc.2.2.2 S.1 0 (some Sa.1)) mc) 5 (some S.1) 1 (some Sb.1) = some (mk (Sc.1, Sc.2.1, Sc.2.2.1, w2 (w2 Sc.2.2.2 S.1 0 (some Sa.1)) S.1 1 (some Sb.1)) mc) := by
    unfold pR
    rw [Option.bind_some, if_pos (show (xs (mk (Sc.1, Sc.2.1, Sc.2.2.1, w2 Sc.2.2.2 S.1 0 (some Sa.1)) mc) S.1).1 = 5 from congrArg Prod.fst hAc)]
    rfl
  have r3 : ln (mk (Sc.1, Sc.2.1, Sc.2.2.1, w2 (w2 Sc.2.2.2 S.1 0 (some Sa.1)) S.1 1 (some Sb.1)) mc) (some Sa.1) = some (nI N) := by
    rw [ln_mk, show sh (Sc.1, Sc.2.1, Sc.2.2.1, w2 (w2 Sc.2.2.2 S.1 0 (some Sa.1)) S.1 1 (some Sb.1)) Sa.1 = (10, N) from hBc, if_pos (show 10 ≤ 10 ∧ 10 ≤ 15 by decide)]
    rfl
  have r4 : nA (mk (Sc.1, Sc.2.1, Sc.2.2.1, w2 (w2 Sc.2.2.2 S.1 0 (some Sa.1)) S.1 1 (some Sb.1)) mc) 10 200 (nI N) = some (mk (Sc.1 + 1, (fun b => if b = Sc.1 then (10, N) else Sc.2.1 b), (fun b => if b = Sc.1 then fun _ => 0 else Sc.2.2.1 b), (fun b => if b = Sc.1 then fun _ => none else w2 (w2 Sc.2.2.2 S.1 0 (some Sa.1)) S.1 1 (some Sb.1) b)) (fun b => if b = Sc.1 then fun _ => 0 else mc b)) := by
    unfold nA
    rw [nI_clamp (by omega), if_neg (by
      rintro (y | y)
      · exact nI_pos (by omega) y
      · omega)]
    unfold nw
    rfl
  have r5 : pR (mk (Sc.1 + 1, (fun b => if b = Sc.1 then (10, N) else Sc.2.1 b), (fun b => if b = Sc.1 then fun _ => 0 else Sc.2.2.1 b), (fun b => if b = Sc.1 then fun _ => none else w2 (w2 Sc.2.2.2 S.1 0 (some Sa.1)) S.1 1 (some Sb.1) b)) (fun b => if b = Sc.1 then fun _ => 0 else mc b)) 5 (some S.1) 2 (some Sc.1) = some (mk (Sc.1 + 1, (fun b => if b = Sc.1 then (10, N) else Sc.2.1 b), (fun b => if b = Sc.1 then fun _ => 0 else Sc.2.2.1 b), w2 (fun b => if b = Sc.1 then fun _ => none else w2 (w2 Sc.2.2.2 S.1 0 (some Sa.1)) S.1 1 (some Sb.1) b) S.1 2 (some Sc.1)) (fun b => if b = Sc.1 then fun _ => 0 else mc b)) := by
    unfold pR
    rw [Option.bind_some, if_pos (show (xs (mk (Sc.1 + 1, (fun b => if b = Sc.1 then (10, N) else Sc.2.1 b), (fun b => if b = Sc.1 then fun _ => 0 else Sc.2.2.1 b), (fun b => if b = Sc.1 then fun _ => none else w2 (w2 Sc.2.2.2 S.1 0 (some Sa.1)) S.1 1 (some Sb.1) b)) (fun b => if b = Sc.1 then fun _ => 0 else mc b)) S.1).1 = 5 by
      rw [xs_mk]
      show (if S.1 = Sc.1 then (10, N) else Sc.2.1 S.1).1 = 5
      rw [if_neg (by omega)]
      exact congrArg Prod.fst hAc)]
    rfl
  rw [Option.bind_some, r1, Option.bind_some, r2, Option.bind_some, r3, Option.bind_some, r4, Option.bind_some, show xc (mk (Sc.1, Sc.2.1, Sc.2.2.1, w2 (w2 Sc.2.2.2 S.1 0 (some Sa.1)) S.1 1 (some Sb.1)) mc) = Sc.1 from rfl, r5, Option.bind_some, Option.bind_some]
  have hrf : ∀ b j, b ≠ Sc.1 → b ≠ S.1 → w2 (fun b => if b = Sc.1 then fun _ => none else w2 (w2 Sc.2.2.2 S.1 0 (some Sa.1)) S.1 1 (some Sb.1) b) S.1 2 (some Sc.1) b j = Sc.2.2.2 b j := fun b j h1 h2 => by
    rw [w2_ap, if_neg (by omega), if_neg h1, w2_ap, if_neg (by omega), w2_ap, if_neg (by omega)]
  have hsh : ∀ b, b ≠ Sc.1 → (fun b => if b = Sc.1 then (10, N) else Sc.2.1 b) b = sh Sc b := fun b hb => if_neg hb
  refine ⟨_, _, rfl, by show Sc.1 + 1 = S.1 + 4; omega, fun b hb => ⟨?_, fun j => ?_⟩, ⟨?_, ?_, ?_, ?_, ?_, ?_, ?_, by omega⟩, fun b hb h33 => ?_, ?_, fun j hj => ?_, fun j hj => ?_⟩
  · exact (hsh b (by omega)).trans (by rw [(c3 b (by omega)).1, (b3 b (by omega)).1, a2 b (by omega)])
  · exact (hrf b j (by omega) (by omega)).trans (by
      have := (c3 b (by omega)).2.1 j
      have h2 := (b3 b (by omega)).2.1 j
      exact this.trans (h2.trans (a3 b j (by omega))))
  · exact (hsh S.1 (by omega)).trans hAc
  · show w2 (fun b => if b = Sc.1 then fun _ => none else w2 (w2 Sc.2.2.2 S.1 0 (some Sa.1)) S.1 1 (some Sb.1) b) S.1 2 (some Sc.1) S.1 0 = some (S.1 + 1)
    rw [w2_ap, if_neg (by omega), if_neg (by omega), w2_ap, if_neg (by omega), w2_ap, if_pos ⟨rfl, rfl⟩, a1]
  · show w2 (fun b => if b = Sc.1 then fun _ => none else w2 (w2 Sc.2.2.2 S.1 0 (some Sa.1)) S.1 1 (some Sb.1) b) S.1 2 (some Sc.1) S.1 1 = some (S.1 + 2)
    rw [w2_ap, if_neg (by omega), if_neg (by omega), w2_ap, if_pos ⟨rfl, rfl⟩, b2, a1]
  · show w2 (fun b => if b = Sc.1 then fun _ => none else w2 (w2 Sc.2.2.2 S.1 0 (some Sa.1)) S.1 1 (some Sb.1) b) S.1 2 (some Sc.1) S.1 2 = some (S.1 + 3)
    rw [w2_ap, if_pos ⟨rfl, rfl⟩, c2, b2, a1]
  · refine (hsh (S.1 + 1) (by omega)).trans ?_
    rw [← a1]
    exact hBc
  · refine (hsh (S.1 + 2) (by omega)).trans ?_
    rw [show S.1 + 2 = Sb.1 by omega]
    exact c4
  · show (if S.1 + 3 = Sc.1 then (10, N) else _) = _
    rw [if_pos (by omega)]
  · show (if b = Sc.1 then fun _ => 0 else mc b) = m b
    rw [if_neg (by omega), (c3 b (by omega)).2.2, (b3 b (by omega)).2.2, a5 b (by omega), q33 b h33]
  · show (if 33 = Sc.1 then fun _ => 0 else mc 33) 3 = nI 0
    rw [if_neg (by omega), (c3 33 (by omega)).2.2, (b3 33 (by omega)).2.2, a5 33 (by omega)]
    exact q3
  · show (if S.1 + 1 = Sc.1 then fun _ => 0 else mc (S.1 + 1)) j = _
    rw [if_neg (by omega), (c3 (S.1 + 1) (by omega)).2.2, ← a1, b5 j hj, a5 35 (by omega), q33 35 (by omega)]
  · show (if S.1 + 2 = Sc.1 then fun _ => 0 else mc (S.1 + 2)) j = _
    rw [if_neg (by omega), show S.1 + 2 = Sb.1 by omega, c5 j hj, (b3 36 (by omega)).2.2, a5 36 (by omega), q33 36 (by omega)]
