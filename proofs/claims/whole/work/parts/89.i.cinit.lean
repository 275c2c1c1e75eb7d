/-! PURE: the class's constructor up to its first text -/
noncomputable def P8 (h : XM) (a0 : Option Nat) : Option (XM × Option Nat) := (a0).bind fun _ => (nA h 12 7 ((7 : Int32))).bind fun h12 => (nA h12 13 6 ((6 : Int32))).bind fun h13 => (pR h13 8 a0 0 (some (xc h))).bind fun h14 => (pR h14 8 a0 1 (some (xc h12))).bind fun h15 => (nO h15 1 12).bind fun h16 => (((some (xc h15))).bind fun _ => f_X1_init h16 (some (xc h15)) (some (xc h)) (some (xc h12))).bind fun q17 => (pR q17 8 a0 2 (some (xc h15))).bind fun h18 => (nO h18 1 12).bind fun h19 => (((some (xc h18))).bind fun _ => f_X1_init h19 (some (xc h18)) (some (xc h)) (some (xc h12))).bind fun q20 => (pR q20 8 a0 3 (some (xc h18))).bind fun h21 => (nO h21 1 12).bind fun h22 => (((some (xc h21))).bind fun _ => f_X1_init h22 (some (xc h21)) (some (xc h)) (some (xc h12))).bind fun q23 => (pR q23 8 a0 4 (some (xc h21))).bind fun h24 => (nO h24 2 1).bind fun h25 => (((some (xc h24))).bind fun _ => f_X2_init h25 (some (xc h24))).bind fun q26 => (nO q26 7 6).bind fun h27 => (nO h27 1 12).bind fun h28 => (((some (xc h27))).bind fun _ => f_X1_init h28 (some (xc h27)) (some (xc h)) (some (xc h12))).bind fun q29 => (((some (xc q26))).bind fun _ => f_X7_init q29 (some (xc q26)) (some (xc h27)) (some (xc h24))).bind fun q30 => (pR q30 8 a0 5 (some (xc q26))).bind fun h31 => (nO h31 6 7).bind fun h32 => (nO h32 1 12).bind fun h33 => (((some (xc h32))).bind fun _ => f_X1_init h33 (some (xc h32)) (some (xc h)) (some (xc h12))).bind fun q34 => (((some (xc h31))).bind fun _ => f_X6_init q34 (some (xc h31)) (some (xc h32)) (some (xc h24))).bind fun q35 => (pR q35 8 a0 6 (some (xc h31))).bind fun h36 => (nO h36 3 11).bind fun h37 => (((some (xc h36))).bind fun _ => f_X3_init h37 (some (xc h36))).bind fun q38 => (pR q38 8 a0 7 (some (xc h36))).bind fun h39 => (nA h39 14 4 ((4 : Int32))).bind fun h40 => (pR h40 8 a0 8 (some (xc h39))).bind fun h41 => some (h41, some (xc h12))
noncomputable def It8 (h : XM) (l0 : Option Nat) (l4 : Int32) : Option XM := (gR h 8 l0 8).bind fun v1 => (nO h 4 3).bind fun h2 => (((some (xc h))).bind fun _ => f_X4_init h2 (some (xc h))).bind fun q3 => sR 14 4 q3 v1 l4 (some (xc h))
noncomputable def T8 (h : XM) (l0 l2 : Option Nat) : Option XM := (gR h 8 l0 7).bind fun v6 => (vc h 3 v6 (f_X3_write h v6 0)).bind fun q7 => (gR q7 8 l0 7).bind fun v8 => (vc q7 3 v8 (f_X3_readText q7 v8)).bind fun q9 => (sR 13 5 q9.2 l2 ((0 : Int32)) q9.1).bind fun h10 => (pI h10 8 l0 9 ((1 : Int32))).bind fun h11 => some h11
theorem X8_split (h : XM) (a0 : Option Nat) : f_X8_init h a0 = (P8 h a0).bind fun q => f_X8_init_137 5 q.1 a0 q.2 0 := by
  unfold f_X8_init P8
  simp only [Option.bind_assoc, Option.bind_some]
theorem X8_it (k : XM → Option Nat → Option Nat → Int32 → Option XM) (h : XM) (l0 l2 : Option Nat) (l4 : Int32) : fb_X8_init_137 k h l0 l2 l4 = if l4 < ((4 : Int32)) then ((It8 h l0 l4).bind fun h4 => k h4 l0 l2 (l4 + (1 : Int32))) else T8 h l0 l2 := by
  unfold fb_X8_init_137 It8 T8
  split
  · simp only [Option.bind_assoc, bnd_eq]
  · rfl
noncomputable def Pre8 : Option (XM × Option Nat) := (P8 (nw x0 8 11) (some 0)).bind fun q => (It8 q.1 (some 0) 0).bind fun h => (It8 h (some 0) 1).bind fun h => (It8 h (some 0) 2).bind fun h => (It8 h (some 0) 3).bind fun h => some (h, q.2)
theorem X8_pre : f_X8_init (nw x0 8 11) (some 0) = Pre8.bind fun q => T8 q.1 (some 0) q.2 := by
  rw [X8_split]
  unfold Pre8
  rw [Option.bind_assoc]
  congr 1
  funext q
  show fb_X8_init_137 (f_X8_init_137 4) q.1 (some 0) q.2 0 = _
  rw [X8_it, if_pos (by decide), Option.bind_assoc]
  congr 1
  funext h
  show fb_X8_init_137 (f_X8_init_137 3) h (some 0) q.2 1 = _
  rw [X8_it, if_pos (by decide), Option.bind_assoc]
  congr 1
  funext h
  show fb_X8_init_137 (f_X8_init_137 2) h (some 0) q.2 2 = _
  rw [X8_it, if_pos (by decide), Option.bind_assoc]
  congr 1
  funext h
  show fb_X8_init_137 (f_X8_init_137 1) h (some 0) q.2 3 = _
  rw [X8_it, if_pos (by decide), Option.bind_assoc]
  congr 1
/-- the ints that both sides must begin with: cell, place, value -/
def i8T : List (Nat × Nat × Int32) := [(0, 9, 0), (0, 10, 0), (3, 4, 9), (3, 5, 0), (3, 6, 0), (3, 7, 0), (3, 8, 0), (3, 9, 0), (3, 10, 0), (3, 11, 0), (4, 0, 0), (4, 1, 0), (4, 2, 0), (4, 3, 0), (33, 3, 0), (36, 0, 0), (38, 1, -1), (38, 2, 0), (40, 1, -1), (40, 2, 0), (42, 1, -1), (42, 2, 0), (44, 1, -1), (44, 2, 0)]
def chk8 (q : XM × Option Nat) : Bool := decide (q.1.1 = 46) && (decide (q.2 = some 2) && (shT.all (fun z => decide (z.1 < 46 → xs q.1 z.1 = z.2)) && (rfT.all (fun z => decide (z.1 < 46 → xr q.1 z.1 z.2.1 = some z.2.2)) && (i8T.all (fun z => decide (xi q.1 z.1 z.2.1 = z.2.2)) && (List.range 4).all (fun s => (List.range 40).all (fun k => decide (xi q.1 (39 + 2 * s) k = 0)))))))
theorem Pre8_ok : Pre8.map chk8 = some true := by decide +kernel
theorem Pre8_is : ∃ S : SK, ∃ m : Nat → Nat → Int32, Pre8 = some (mk S m, some 2) ∧ S.1 = 46 ∧ (∀ z ∈ shT, z.1 < 46 → sh S z.1 = z.2) ∧ (∀ z ∈ rfT, z.1 < 46 → rf S z.1 z.2.1 = some z.2.2) ∧ (∀ z ∈ i8T, m z.1 z.2.1 = z.2.2) ∧ ∀ s, s < 4 → ∀ k, k < 40 → m (39 + 2 * s) k = 0 := by
  have h := Pre8_ok
  cases e : Pre8 with
  | none => rw [e] at h; cases h
  | some q =>
    rw [e] at h
    have h2 : chk8 q = true := Option.some.inj h
    unfold chk8 at h2
    rw [Bool.and_eq_true, Bool.and_eq_true, Bool.and_eq_true, Bool.and_eq_true, Bool.and_eq_true] at h2
    obtain ⟨a1, a2, a3, a4, a5, a6⟩ := h2
    have a2' := of_decide_eq_true a2
    rw [List.all_eq_true] at a3 a4 a5 a6
    refine ⟨(q.1.1, q.1.2.1, q.1.2.2.2.1, q.1.2.2.2.2), q.1.2.2.1, ?_, of_decide_eq_true a1, fun z hz => of_decide_eq_true (a3 z hz), fun z hz => of_decide_eq_true (a4 z hz), fun z hz => of_decide_eq_true (a5 z hz), fun s hs k hk => ?_⟩
    · rw [← a2', ← mk_of q.1]
    · have := a6 s (List.mem_range.2 hs)
      rw [List.all_eq_true] at this
      exact of_decide_eq_true (this k (List.mem_range.2 hk))
