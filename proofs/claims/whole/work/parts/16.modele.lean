/-! 16.model: the methods as functions, and that the bytecode does so (written by wip/whole/gen/gen_parts.py) -/
def y_X9_back : MethodName := ⟨"OpensAtNineModel", "back", "()I"⟩
def T_X9_back : List (Nat × Instr × Nat × Nat) := [(0, .aload_n 0, 1, 1), (1, .getfield 337, 3, 4), (4, .ifCond .ne 6, 3, 7), (7, .bipush (-3), 2, 9), (9, .ireturn, 1, 10), (10, .aload_n 0, 1, 11), (11, .aload_n 0, 1, 12), (12, .getfield 35, 3, 15), (15, .iconst 0, 1, 16), (16, .iaload, 1, 17), (17, .putfield 7, 3, 20), (20, .aload_n 0, 1, 21), (21, .aload_n 0, 1, 22), (22, .getfield 35, 3, 25), (25, .iconst 1, 1, 26), (26, .iaload, 1, 27), (27, .putfield 113, 3, 30), (30, .aload_n 0, 1, 31), (31, .aload_n 0, 1, 32), (32, .getfield 35, 3, 35), (35, .iconst 2, 1, 36), (36, .iaload, 1, 37), (37, .putfield 116, 3, 40), (40, .aload_n 0, 1, 41), (41, .aload_n 0, 1, 42), (42, .getfield 35, 3, 45), (45, .iconst 3, 1, 46), (46, .iaload, 1, 47), (47, .putfield 97, 3, 50), (50, .aload_n 0, 1, 51), (51, .aload_n 0, 1, 52), (52, .getfield 35, 3, 55), (55, .iconst 4, 1, 56), (56, .iaload, 1, 57), (57, .putfield 107, 3, 60), (60, .aload_n 0, 1, 61), (61, .aload_n 0, 1, 62), (62, .getfield 35, 3, 65), (65, .iconst 5, 1, 66), (66, .iaload, 1, 67), (67, .putfield 104, 3, 70), (70, .aload_n 0, 1, 71), (71, .aload_n 0, 1, 72), (72, .getfield 35, 3, 75), (75, .bipush 6, 2, 77), (77, .iaload, 1, 78), (78, .putfield 110, 3, 81), (81, .aload_n 0, 1, 82), (82, .aload_n 0, 1, 83), (83, .getfield 35, 3, 86), (86, .bipush 7, 2, 88), (88, .iaload, 1, 89), (89, .putfield 126, 3, 92), (92, .iconst 0, 1, 93), (93, .istore_n 1, 1, 94), (94, .iload_n 1, 1, 95), (95, .bipush 7, 2, 97), (97, .if_icmp .ge 21, 3, 100), (100, .aload_n 0, 1, 101), (101, .getfield 13, 3, 104), (104, .iload_n 1, 1, 105), (105, .aload_n 0, 1, 106), (106, .getfield 38, 3, 109), (109, .iload_n 1, 1, 110), (110, .iaload, 1, 111), (111, .iastore, 1, 112), (112, .iinc 1 1, 3, 115), (115, .goto (-21), 3, 118), (118, .aload_n 0, 1, 119), (119, .getfield 104, 3, 122), (122, .ireturn, 1, 123)]
def I_X9_back : MI := (prog_11_method_79_code, 2, (some .int), "OpensAtNineModel", "back", T_X9_back, 0, 0, 1, 60)
theorem dT_X9_back : ∀ q ∈ T_X9_back, decode prog_11_method_79_code q.1 = .ok (q.2.1, q.2.2.1) ∧ q.2.2.2 = q.1 + q.2.2.1 := by decide +kernel
theorem xm_X9_back : xCM y_X9_back I_X9_back 9 0 := ⟨⟨tw1427, tw1428⟩, tw84, tw1429, ⟨xT9, 49, rfl⟩, ⟨by decide +kernel, by decide +kernel, by decide +kernel⟩⟩
noncomputable def fb_X9_back_94 (k_94 : XM → Option Nat → Int32 → Option (Int32 × XM)) (h : XM) (l0 : Option Nat) (l1 : Int32) : Option (Int32 × XM) := if l1 < ((7 : Int32)) then ((gR h 9 l0 6).bind fun v1 => (gR h 9 l0 19).bind fun v2 => (rI h v2 l1).bind fun v3 => (sI h v1 l1 v3).bind fun h4 => bnd (l1 + (1 : Int32)) fun v5 => k_94 h4 l0 v5) else ((gI h 9 l0 5).bind fun v6 => some (v6, h))
noncomputable def f_X9_back_94 (n : Nat) : XM → Option Nat → Int32 → Option (Int32 × XM) := Nat.rec (motive := fun _ => XM → Option Nat → Int32 → Option (Int32 × XM)) (fun _ _ _ => none) (fun _ ih h l0 l1 => fb_X9_back_94 ih h l0 l1) n
noncomputable def f_X9_back (h : XM) (a0 : Option Nat) : Option (Int32 × XM) := (gI h 9 a0 17).bind fun v7 => if v7 = 0 then (some ((-3 : Int32), h)) else ((gR h 9 a0 18).bind fun v8 => (rI h v8 ((0 : Int32))).bind fun v9 => (pI h 9 a0 0 v9).bind fun h10 => (gR h10 9 a0 18).bind fun v11 => (rI h10 v11 ((1 : Int32))).bind fun v12 => (pI h10 9 a0 1 v12).bind fun h13 => (gR h13 9 a0 18).bind fun v14 => (rI h13 v14 ((2 : Int32))).bind fun v15 => (pI h13 9 a0 2 v15).bind fun h16 => (gR h16 9 a0 18).bind fun v17 => (rI h16 v17 ((3 : Int32))).bind fun v18 => (pI h16 9 a0 3 v18).bind fun h19 => (gR h19 9 a0 18).bind fun v20 => (rI h19 v20 ((4 : Int32))).bind fun v21 => (pI h19 9 a0 4 v21).bind fun h22 => (gR h22 9 a0 18).bind fun v23 => (rI h22 v23 ((5 : Int32))).bind fun v24 => (pI h22 9 a0 5 v24).bind fun h25 => (gR h25 9 a0 18).bind fun v26 => (rI h25 v26 ((6 : Int32))).bind fun v27 => (pI h25 9 a0 10 v27).bind fun h28 => (gR h28 9 a0 18).bind fun v29 => (rI h28 v29 ((7 : Int32))).bind fun v30 => (pI h28 9 a0 16 v30).bind fun h31 => f_X9_back_94 FU h31 a0 ((0 : Int32)))
theorem bb_X9_back_94 (X : XX) (k_94 : XM → Option Nat → Int32 → Option (Int32 × XM)) (hk_94 : ∀ h l0 l1, SW X I_X9_back ρi 94 [(0, tA l0), (1, tI l1)] [] h 0 0 (k_94 h l0 l1)) (h : XM) (l0 : Option Nat) (l1 : Int32) : SW X I_X9_back ρi 94 [(0, tA l0), (1, tI l1)] [] h 0 0 (fb_X9_back_94 k_94 h l0 l1) := by
  unfold fb_X9_back_94
  refine s_iload_n (i := 55) rfl 1 rfl ?_
  refine s_bipush (i := 56) rfl (v := (7 : Int32)) (by decide) ?_
  refine s_icmpge (i := 57) rfl (tgt := 118) (by decide) (fun z97 => ?_) (fun z97 => ?_)
  · refine s_aload_n (i := 58) rfl 0 rfl ?_
    refine s_getR (i := 59) rfl xf_9_13.r rfl (fun v1 => ?_)
    refine s_iload_n (i := 60) rfl 1 rfl ?_
    refine s_aload_n (i := 61) rfl 0 rfl ?_
    refine s_getR (i := 62) rfl xf_9_38.r rfl (fun v2 => ?_)
    refine s_iload_n (i := 63) rfl 1 rfl ?_
    refine s_iaload (i := 64) rfl (fun v3 => ?_)
    refine s_iastore (i := 65) rfl (fun h4 => ?_)
    refine s_inc (i := 66) rfl 1 rfl (c9 := (1 : Int32)) (by decide) (Nat.le_of_ble_eq_true rfl) (fun v5 => ?_)
    refine s_ls (ls2 := [(1, tI v5), (0, tA l0)]) rfl ?_
    refine s_goto (i := 67) rfl (tgt := 94) (by decide) ?_
    exact s_sub [1, 0] rfl (hk_94 h4 l0 v5)
  · refine s_aload_n (i := 68) rfl 0 rfl ?_
    refine s_getI (i := 69) rfl xf_9_104.r rfl (fun v6 => ?_)
    exact s_iret (i := 70) rfl rfl
theorem b_X9_back_94 (X : XX) : ∀ (n : Nat) (h : XM) (l0 : Option Nat) (l1 : Int32), SW X I_X9_back ρi 94 [(0, tA l0), (1, tI l1)] [] h 0 0 (f_X9_back_94 n h l0 l1) := by
  intro n
  induction n with
  | zero =>
    intro h l0 l1
    exact s_none
  | succ n ih =>
    intro h l0 l1
    exact bb_X9_back_94 X (f_X9_back_94 n) ih h l0 l1
theorem c_X9_back (h : XM) (a0 : Option Nat) : MC I_X9_back y_X9_back [tA a0] h ρi (f_X9_back h a0) := by
  refine MC_of ⟨by decide +kernel, rfl, rfl, Nat.le_of_ble_eq_true rfl⟩ dT_X9_back (fun X => ?_)
  show SW X I_X9_back ρi 0 [(0, tA a0)] [] h 0 0 (f_X9_back h a0)
  unfold f_X9_back
  refine s_aload_n (i := 0) rfl 0 rfl ?_
  refine s_getI (i := 1) rfl xf_9_337.r rfl (fun v7 => ?_)
  refine s_ifne (i := 2) rfl (tgt := 10) (by decide) (fun z4 => ?_) (fun z4 => ?_)
  · refine s_bipush (i := 3) rfl (v := (-3 : Int32)) (by decide) ?_
    exact s_iret (i := 4) rfl rfl
  · refine s_aload_n (i := 5) rfl 0 rfl ?_
    refine s_aload_n (i := 6) rfl 0 rfl ?_
    refine s_getR (i := 7) rfl xf_9_35.r rfl (fun v8 => ?_)
    refine s_iconst (i := 8) rfl (v := (0 : Int32)) (by decide) ?_
    refine s_iaload (i := 9) rfl (fun v9 => ?_)
    refine s_putI (i := 10) rfl xf_9_7 (fun q => by cases q) rfl rfl (fun h10 => ?_)
    refine s_aload_n (i := 11) rfl 0 rfl ?_
    refine s_aload_n (i := 12) rfl 0 rfl ?_
    refine s_getR (i := 13) rfl xf_9_35.r rfl (fun v11 => ?_)
    refine s_iconst (i := 14) rfl (v := (1 : Int32)) (by decide) ?_
    refine s_iaload (i := 15) rfl (fun v12 => ?_)
    refine s_putI (i := 16) rfl xf_9_113 (fun q => by cases q) rfl rfl (fun h13 => ?_)
    refine s_aload_n (i := 17) rfl 0 rfl ?_
    refine s_aload_n (i := 18) rfl 0 rfl ?_
    refine s_getR (i := 19) rfl xf_9_35.r rfl (fun v14 => ?_)
    refine s_iconst (i := 20) rfl (v := (2 : Int32)) (by decide) ?_
    refine s_iaload (i := 21) rfl (fun v15 => ?_)
    refine s_putI (i := 22) rfl xf_9_116 (fun q => by cases q) rfl rfl (fun h16 => ?_)
    refine s_aload_n (i := 23) rfl 0 rfl ?_
    refine s_aload_n (i := 24) rfl 0 rfl ?_
    refine s_getR (i := 25) rfl xf_9_35.r rfl (fun v17 => ?_)
    refine s_iconst (i := 26) rfl (v := (3 : Int32)) (by decide) ?_
    refine s_iaload (i := 27) rfl (fun v18 => ?_)
    refine s_putI (i := 28) rfl xf_9_97 (fun q => by cases q) rfl rfl (fun h19 => ?_)
    refine s_aload_n (i := 29) rfl 0 rfl ?_
    refine s_aload_n (i := 30) rfl 0 rfl ?_
    refine s_getR (i := 31) rfl xf_9_35.r rfl (fun v20 => ?_)
    refine s_iconst (i := 32) rfl (v := (4 : Int32)) (by decide) ?_
    refine s_iaload (i := 33) rfl (fun v21 => ?_)
    refine s_putI (i := 34) rfl xf_9_107 (fun q => by cases q) rfl rfl (fun h22 => ?_)
    refine s_aload_n (i := 35) rfl 0 rfl ?_
    refine s_aload_n (i := 36) rfl 0 rfl ?_
    refine s_getR (i := 37) rfl xf_9_35.r rfl (fun v23 => ?_)
    refine s_iconst (i := 38) rfl (v := (5 : Int32)) (by decide) ?_
    refine s_iaload (i := 39) rfl (fun v24 => ?_)
    refine s_putI (i := 40) rfl xf_9_104 (fun q => by cases q) rfl rfl (fun h25 => ?_)
    refine s_aload_n (i := 41) rfl 0 rfl ?_
    refine s_aload_n (i := 42) rfl 0 rfl ?_
    refine s_getR (i := 43) rfl xf_9_35.r rfl (fun v26 => ?_)
    refine s_bipush (i := 44) rfl (v := (6 : Int32)) (by decide) ?_
    refine s_iaload (i := 45) rfl (fun v27 => ?_)
    refine s_putI (i := 46) rfl xf_9_110 (fun q => by cases q) rfl rfl (fun h28 => ?_)
    refine s_aload_n (i := 47) rfl 0 rfl ?_
    refine s_aload_n (i := 48) rfl 0 rfl ?_
    refine s_getR (i := 49) rfl xf_9_35.r rfl (fun v29 => ?_)
    refine s_bipush (i := 50) rfl (v := (7 : Int32)) (by decide) ?_
    refine s_iaload (i := 51) rfl (fun v30 => ?_)
    refine s_putI (i := 52) rfl xf_9_126 (fun q => by cases q) rfl rfl (fun h31 => ?_)
    refine s_iconst (i := 53) rfl (v := (0 : Int32)) (by decide) ?_
    refine s_istore_n (i := 54) rfl (Nat.le_of_ble_eq_true rfl) (ls2 := [(1, tI ((0 : Int32))), (0, tA a0)]) rfl ?_
    exact s_sub [1, 0] rfl (b_X9_back_94 X FU h31 a0 ((0 : Int32)))
def y_X9_sheet : MethodName := ⟨"OpensAtNineModel", "sheet", "(III)I"⟩
def T_X9_sheet : List (Nat × Instr × Nat × Nat) := [(0, .iload_n 1, 1, 1), (1, .iconst 0, 1, 2), (2, .iconst 3, 1, 3), (3, .invokestatic 100, 3, 6), (6, .ifCond .eq 23, 3, 9), (9, .iload_n 2, 1, 10), (10, .iconst (-1), 1, 11), (11, .iconst 2, 1, 12), (12, .invokestatic 100, 3, 15), (15, .ifCond .eq 14, 3, 18), (18, .iload_n 2, 1, 19), (19, .iconst (-1), 1, 20), (20, .if_icmp .eq 12, 3, 23), (23, .iload_n 3, 1, 24), (24, .bipush 40, 2, 26), (26, .if_icmp .le 6, 3, 29), (29, .bipush (-2), 2, 31), (31, .ireturn, 1, 32), (32, .iload_n 2, 1, 33), (33, .iconst (-1), 1, 34), (34, .if_icmp .eq 10, 3, 37), (37, .iload_n 3, 1, 38), (38, .ifCond .ge 6, 3, 41), (41, .bipush (-14), 2, 43), (43, .ireturn, 1, 44), (44, .aload_n 0, 1, 45), (45, .getfield 41, 3, 48), (48, .iload_n 1, 1, 49), (49, .iload_n 2, 1, 50), (50, .iastore, 1, 51), (51, .aload_n 0, 1, 52), (52, .getfield 44, 3, 55), (55, .iload_n 1, 1, 56), (56, .iload_n 2, 1, 57), (57, .iconst (-1), 1, 58), (58, .if_icmp .ne 7, 3, 61), (61, .iconst 0, 1, 62), (62, .goto 4, 3, 65), (65, .iload_n 3, 1, 66), (66, .iastore, 1, 67), (67, .iconst 0, 1, 68), (68, .istore 4, 2, 70), (70, .iload 4, 2, 72), (72, .bipush 40, 2, 74), (74, .if_icmp .ge 22, 3, 77), (77, .aload_n 0, 1, 78), (78, .getfield 47, 3, 81), (81, .bipush 40, 2, 83), (83, .iload_n 1, 1, 84), (84, .imul, 1, 85), (85, .iload 4, 2, 87), (87, .iadd, 1, 88), (88, .iconst 0, 1, 89), (89, .iastore, 1, 90), (90, .iinc 4 1, 3, 93), (93, .goto (-23), 3, 96), (96, .iconst 1, 1, 97), (97, .ireturn, 1, 98)]
def I_X9_sheet : MI := (prog_11_method_80_code, 5, (some .int), "OpensAtNineModel", "sheet", T_X9_sheet, 0, 0, 2, 82)
theorem dT_X9_sheet : ∀ q ∈ T_X9_sheet, decode prog_11_method_80_code q.1 = .ok (q.2.1, q.2.2.1) ∧ q.2.2.2 = q.1 + q.2.2.1 := by decide +kernel
theorem xm_X9_sheet : xCM y_X9_sheet I_X9_sheet 9 3 := ⟨⟨tw1431, tw1432⟩, tw84, tw1433, ⟨xT9, 49, rfl⟩, ⟨by decide +kernel, by decide +kernel, by decide +kernel⟩⟩
noncomputable def f_X9_sheet_29 (h : XM) : Option (Int32 × XM) := some ((-2 : Int32), h)
noncomputable def fb_X9_sheet_70 (k_70 : XM → Option Nat → Int32 → Int32 → Option (Int32 × XM)) (h : XM) (l0 : Option Nat) (l1 : Int32) (l4 : Int32) : Option (Int32 × XM) := if l4 < ((40 : Int32)) then ((gR h 9 l0 22).bind fun v1 => (sI h v1 ((((40 : Int32)) * l1) + l4) ((0 : Int32))).bind fun h2 => bnd (l4 + (1 : Int32)) fun v3 => k_70 h2 l0 l1 v3) else (some ((1 : Int32), h))
noncomputable def f_X9_sheet_70 (n : Nat) : XM → Option Nat → Int32 → Int32 → Option (Int32 × XM) := Nat.rec (motive := fun _ => XM → Option Nat → Int32 → Int32 → Option (Int32 × XM)) (fun _ _ _ _ => none) (fun _ ih h l0 l1 l4 => fb_X9_sheet_70 ih h l0 l1 l4) n
noncomputable def f_X9_sheet_66 (h : XM) (l0 : Option Nat) (l1 : Int32) (s0 : Int32) (s1 : Int32) (s2 : Option Nat) : Option (Int32 × XM) := (sI h s2 s1 s0).bind fun h4 => f_X9_sheet_70 FU h4 l0 l1 ((0 : Int32))
noncomputable def f_X9_sheet_44 (h : XM) (l0 : Option Nat) (l1 : Int32) (l2 : Int32) (l3 : Int32) : Option (Int32 × XM) := (gR h 9 l0 20).bind fun v5 => (sI h v5 l1 l2).bind fun h6 => (gR h6 9 l0 21).bind fun v7 => if l2 = ((-1 : Int32)) then (f_X9_sheet_66 h6 l0 l1 ((0 : Int32)) l1 v7) else (f_X9_sheet_66 h6 l0 l1 l3 l1 v7)
noncomputable def f_X9_sheet_32 (h : XM) (l0 : Option Nat) (l1 : Int32) (l2 : Int32) (l3 : Int32) : Option (Int32 × XM) := if l2 = ((-1 : Int32)) then (f_X9_sheet_44 h l0 l1 l2 l3) else (if l3 < 0 then (some ((-14 : Int32), h)) else (f_X9_sheet_44 h l0 l1 l2 l3))
noncomputable def f_X9_sheet (h : XM) (a0 : Option Nat) (a1 : Int32) (a2 : Int32) (a3 : Int32) : Option (Int32 × XM) := (f_X9_in h a1 ((0 : Int32)) ((3 : Int32))).bind fun q8 => if q8.1 = 0 then (f_X9_sheet_29 q8.2) else ((f_X9_in q8.2 a2 ((-1 : Int32)) ((2 : Int32))).bind fun q9 => if q9.1 = 0 then (f_X9_sheet_29 q9.2) else (if a2 = ((-1 : Int32)) then (f_X9_sheet_32 q9.2 a0 a1 a2 a3) else (if ((40 : Int32)) < a3 then (f_X9_sheet_29 q9.2) else (f_X9_sheet_32 q9.2 a0 a1 a2 a3))))
theorem b_X9_sheet_29 (X : XX) (h : XM) : SW X I_X9_sheet ρi 29 [] [] h 0 0 (f_X9_sheet_29 h) := by
  unfold f_X9_sheet_29
  refine s_bipush (i := 16) rfl (v := (-2 : Int32)) (by decide) ?_
  exact s_iret (i := 17) rfl rfl
theorem bb_X9_sheet_70 (X : XX) (k_70 : XM → Option Nat → Int32 → Int32 → Option (Int32 × XM)) (hk_70 : ∀ h l0 l1 l4, SW X I_X9_sheet ρi 70 [(0, tA l0), (1, tI l1), (4, tI l4)] [] h 0 0 (k_70 h l0 l1 l4)) (h : XM) (l0 : Option Nat) (l1 : Int32) (l4 : Int32) : SW X I_X9_sheet ρi 70 [(0, tA l0), (1, tI l1), (4, tI l4)] [] h 0 0 (fb_X9_sheet_70 k_70 h l0 l1 l4) := by
  unfold fb_X9_sheet_70
  refine s_iload (i := 42) rfl 2 rfl ?_
  refine s_bipush (i := 43) rfl (v := (40 : Int32)) (by decide) ?_
  refine s_icmpge (i := 44) rfl (tgt := 96) (by decide) (fun z74 => ?_) (fun z74 => ?_)
  · refine s_aload_n (i := 45) rfl 0 rfl ?_
    refine s_getR (i := 46) rfl xf_9_47.r rfl (fun v1 => ?_)
    refine s_bipush (i := 47) rfl (v := (40 : Int32)) (by decide) ?_
    refine s_iload_n (i := 48) rfl 1 rfl ?_
    refine s_imul (i := 49) rfl ?_
    refine s_iload (i := 50) rfl 2 rfl ?_
    refine s_iadd (i := 51) rfl ?_
    refine s_iconst (i := 52) rfl (v := (0 : Int32)) (by decide) ?_
    refine s_iastore (i := 53) rfl (fun h2 => ?_)
    refine s_inc (i := 54) rfl 2 rfl (c9 := (1 : Int32)) (by decide) (Nat.le_of_ble_eq_true rfl) (fun v3 => ?_)
    refine s_ls (ls2 := [(4, tI v3), (0, tA l0), (1, tI l1)]) rfl ?_
    refine s_goto (i := 55) rfl (tgt := 70) (by decide) ?_
    exact s_sub [1, 2, 0] rfl (hk_70 h2 l0 l1 v3)
  · refine s_iconst (i := 56) rfl (v := (1 : Int32)) (by decide) ?_
    exact s_iret (i := 57) rfl rfl
theorem b_X9_sheet_70 (X : XX) : ∀ (n : Nat) (h : XM) (l0 : Option Nat) (l1 : Int32) (l4 : Int32), SW X I_X9_sheet ρi 70 [(0, tA l0), (1, tI l1), (4, tI l4)] [] h 0 0 (f_X9_sheet_70 n h l0 l1 l4) := by
  intro n
  induction n with
  | zero =>
    intro h l0 l1 l4
    exact s_none
  | succ n ih =>
    intro h l0 l1 l4
    exact bb_X9_sheet_70 X (f_X9_sheet_70 n) ih h l0 l1 l4
theorem b_X9_sheet_66 (X : XX) (h : XM) (l0 : Option Nat) (l1 : Int32) (s0 : Int32) (s1 : Int32) (s2 : Option Nat) : SW X I_X9_sheet ρi 66 [(0, tA l0), (1, tI l1)] [tI s0, tI s1, tA s2] h 0 0 (f_X9_sheet_66 h l0 l1 s0 s1 s2) := by
  unfold f_X9_sheet_66
  refine s_iastore (i := 39) rfl (fun h4 => ?_)
  refine s_iconst (i := 40) rfl (v := (0 : Int32)) (by decide) ?_
  refine s_istore (i := 41) rfl (Nat.le_of_ble_eq_true rfl) (ls2 := [(4, tI ((0 : Int32))), (0, tA l0), (1, tI l1)]) rfl ?_
  exact s_sub [1, 2, 0] rfl (b_X9_sheet_70 X FU h4 l0 l1 ((0 : Int32)))
theorem b_X9_sheet_44 (X : XX) (h : XM) (l0 : Option Nat) (l1 : Int32) (l2 : Int32) (l3 : Int32) : SW X I_X9_sheet ρi 44 [(0, tA l0), (1, tI l1), (2, tI l2), (3, tI l3)] [] h 0 0 (f_X9_sheet_44 h l0 l1 l2 l3) := by
  unfold f_X9_sheet_44
  refine s_aload_n (i := 25) rfl 0 rfl ?_
  refine s_getR (i := 26) rfl xf_9_41.r rfl (fun v5 => ?_)
  refine s_iload_n (i := 27) rfl 1 rfl ?_
  refine s_iload_n (i := 28) rfl 2 rfl ?_
  refine s_iastore (i := 29) rfl (fun h6 => ?_)
  refine s_aload_n (i := 30) rfl 0 rfl ?_
  refine s_getR (i := 31) rfl xf_9_44.r rfl (fun v7 => ?_)
  refine s_iload_n (i := 32) rfl 1 rfl ?_
  refine s_iload_n (i := 33) rfl 2 rfl ?_
  refine s_iconst (i := 34) rfl (v := (-1 : Int32)) (by decide) ?_
  refine s_icmpne (i := 35) rfl (tgt := 65) (by decide) (fun z58 => ?_) (fun z58 => ?_)
  · refine s_iconst (i := 36) rfl (v := (0 : Int32)) (by decide) ?_
    refine s_goto (i := 37) rfl (tgt := 66) (by decide) ?_
    exact s_sub [0, 1] rfl (b_X9_sheet_66 X h6 l0 l1 ((0 : Int32)) l1 v7)
  · refine s_iload_n (i := 38) rfl 3 rfl ?_
    exact s_sub [0, 1] rfl (b_X9_sheet_66 X h6 l0 l1 l3 l1 v7)
theorem b_X9_sheet_32 (X : XX) (h : XM) (l0 : Option Nat) (l1 : Int32) (l2 : Int32) (l3 : Int32) : SW X I_X9_sheet ρi 32 [(0, tA l0), (1, tI l1), (2, tI l2), (3, tI l3)] [] h 0 0 (f_X9_sheet_32 h l0 l1 l2 l3) := by
  unfold f_X9_sheet_32
  refine s_iload_n (i := 18) rfl 2 rfl ?_
  refine s_iconst (i := 19) rfl (v := (-1 : Int32)) (by decide) ?_
  refine s_icmpeq (i := 20) rfl (tgt := 44) (by decide) (fun z34 => ?_) (fun z34 => ?_)
  · exact s_sub [0, 1, 2, 3] rfl (b_X9_sheet_44 X h l0 l1 l2 l3)
  · refine s_iload_n (i := 21) rfl 3 rfl ?_
    refine s_ifge (i := 22) rfl (tgt := 44) (by decide) (fun z38 => ?_) (fun z38 => ?_)
    · refine s_bipush (i := 23) rfl (v := (-14 : Int32)) (by decide) ?_
      exact s_iret (i := 24) rfl rfl
    · exact s_sub [0, 1, 2, 3] rfl (b_X9_sheet_44 X h l0 l1 l2 l3)
theorem c_X9_sheet (h : XM) (a0 : Option Nat) (a1 : Int32) (a2 : Int32) (a3 : Int32) : MC I_X9_sheet y_X9_sheet [tA a0, tI a1, tI a2, tI a3] h ρi (f_X9_sheet h a0 a1 a2 a3) := by
  refine MC_of ⟨by decide +kernel, rfl, rfl, Nat.le_of_ble_eq_true rfl⟩ dT_X9_sheet (fun X => ?_)
  show SW X I_X9_sheet ρi 0 [(0, tA a0), (1, tI a1), (2, tI a2), (3, tI a3)] [] h 0 0 (f_X9_sheet h a0 a1 a2 a3)
  unfold f_X9_sheet
  refine s_iload_n (i := 0) rfl 1 rfl ?_
  refine s_iconst (i := 1) rfl (v := (0 : Int32)) (by decide) ?_
  refine s_iconst (i := 2) rfl (v := (3 : Int32)) (by decide) ?_
  refine u_callSi [tI a1, tI ((0 : Int32)), tI ((3 : Int32))] [] rfl (i := 3) rfl (c_X9_in h a1 ((0 : Int32)) ((3 : Int32))) xm_X9_in (tw974) rfl (Nat.le_of_ble_eq_true rfl) (xRm.of rfl) ⟨rfl, rfl⟩ (fun q8 => ?_)
  refine s_ifeq (i := 4) rfl (tgt := 29) (by decide) (fun z6 => ?_) (fun z6 => ?_)
  · exact s_sub [] rfl (b_X9_sheet_29 X q8.2)
  · refine s_iload_n (i := 5) rfl 2 rfl ?_
    refine s_iconst (i := 6) rfl (v := (-1 : Int32)) (by decide) ?_
    refine s_iconst (i := 7) rfl (v := (2 : Int32)) (by decide) ?_
    refine u_callSi [tI a2, tI ((-1 : Int32)), tI ((2 : Int32))] [] rfl (i := 8) rfl (c_X9_in q8.2 a2 ((-1 : Int32)) ((2 : Int32))) xm_X9_in (tw974) rfl (Nat.le_of_ble_eq_true rfl) (xRm.of rfl) ⟨rfl, rfl⟩ (fun q9 => ?_)
    refine s_ifeq (i := 9) rfl (tgt := 29) (by decide) (fun z15 => ?_) (fun z15 => ?_)
    · exact s_sub [] rfl (b_X9_sheet_29 X q9.2)
    · refine s_iload_n (i := 10) rfl 2 rfl ?_
      refine s_iconst (i := 11) rfl (v := (-1 : Int32)) (by decide) ?_
      refine s_icmpeq (i := 12) rfl (tgt := 32) (by decide) (fun z20 => ?_) (fun z20 => ?_)
      · exact s_sub [0, 1, 2, 3] rfl (b_X9_sheet_32 X q9.2 a0 a1 a2 a3)
      · refine s_iload_n (i := 13) rfl 3 rfl ?_
        refine s_bipush (i := 14) rfl (v := (40 : Int32)) (by decide) ?_
        refine s_icmple (i := 15) rfl (tgt := 32) (by decide) (fun z26 => ?_) (fun z26 => ?_)
        · exact s_sub [] rfl (b_X9_sheet_29 X q9.2)
        · exact s_sub [0, 1, 2, 3] rfl (b_X9_sheet_32 X q9.2 a0 a1 a2 a3)
def y_X9_cell : MethodName := ⟨"OpensAtNineModel", "cell", "(III)I"⟩
def T_X9_cell : List (Nat × Instr × Nat × Nat) := [(0, .iload_n 1, 1, 1), (1, .iconst 0, 1, 2), (2, .iconst 3, 1, 3), (3, .invokestatic 100, 3, 6), (6, .ifCond .ne 6, 3, 9), (9, .bipush (-2), 2, 11), (11, .ireturn, 1, 12), (12, .aload_n 0, 1, 13), (13, .getfield 41, 3, 16), (16, .iload_n 1, 1, 17), (17, .iaload, 1, 18), (18, .iconst (-1), 1, 19), (19, .if_icmp .ne 6, 3, 22), (22, .bipush (-11), 2, 24), (24, .ireturn, 1, 25), (25, .iload_n 2, 1, 26), (26, .iconst 0, 1, 27), (27, .aload_n 0, 1, 28), (28, .getfield 44, 3, 31), (31, .iload_n 1, 1, 32), (32, .iaload, 1, 33), (33, .iconst 1, 1, 34), (34, .isub, 1, 35), (35, .invokestatic 100, 3, 38), (38, .ifCond .ne 6, 3, 41), (41, .bipush (-12), 2, 43), (43, .ireturn, 1, 44), (44, .aload_n 0, 1, 45), (45, .getfield 47, 3, 48), (48, .bipush 40, 2, 50), (50, .iload_n 1, 1, 51), (51, .imul, 1, 52), (52, .iload_n 2, 1, 53), (53, .iadd, 1, 54), (54, .aload_n 0, 1, 55), (55, .getfield 41, 3, 58), (58, .iload_n 1, 1, 59), (59, .iaload, 1, 60), (60, .ifCond .ne 8, 3, 63), (63, .iload_n 3, 1, 64), (64, .i2b, 1, 65), (65, .goto 19, 3, 68), (68, .aload_n 0, 1, 69), (69, .getfield 41, 3, 72), (72, .iload_n 1, 1, 73), (73, .iaload, 1, 74), (74, .iconst 1, 1, 75), (75, .if_icmp .ne 8, 3, 78), (78, .iload_n 3, 1, 79), (79, .i2s, 1, 80), (80, .goto 4, 3, 83), (83, .iload_n 3, 1, 84), (84, .iastore, 1, 85), (85, .iconst 1, 1, 86), (86, .ireturn, 1, 87)]
def I_X9_cell : MI := (prog_11_method_81_code, 4, (some .int), "OpensAtNineModel", "cell", T_X9_cell, 0, 0, 2, 82)
theorem dT_X9_cell : ∀ q ∈ T_X9_cell, decode prog_11_method_81_code q.1 = .ok (q.2.1, q.2.2.1) ∧ q.2.2.2 = q.1 + q.2.2.1 := by decide +kernel
theorem xm_X9_cell : xCM y_X9_cell I_X9_cell 9 3 := ⟨⟨tw1435, tw1436⟩, tw84, tw1437, ⟨xT9, 49, rfl⟩, ⟨by decide +kernel, by decide +kernel, by decide +kernel⟩⟩
noncomputable def f_X9_cell_84 (h : XM) (s0 : Int32) (s1 : Int32) (s2 : Option Nat) : Option (Int32 × XM) := (sI h s2 s1 s0).bind fun h1 => some ((1 : Int32), h1)
noncomputable def f_X9_cell (h : XM) (a0 : Option Nat) (a1 : Int32) (a2 : Int32) (a3 : Int32) : Option (Int32 × XM) := (f_X9_in h a1 ((0 : Int32)) ((3 : Int32))).bind fun q2 => if q2.1 = 0 then (some ((-2 : Int32), q2.2)) else ((gR q2.2 9 a0 20).bind fun v3 => (rI q2.2 v3 a1).bind fun v4 => if v4 = ((-1 : Int32)) then (some ((-11 : Int32), q2.2)) else ((gR q2.2 9 a0 21).bind fun v5 => (rI q2.2 v5 a1).bind fun v6 => (f_X9_in q2.2 a2 ((0 : Int32)) (v6 - ((1 : Int32)))).bind fun q7 => if q7.1 = 0 then (some ((-12 : Int32), q7.2)) else ((gR q7.2 9 a0 22).bind fun v8 => (gR q7.2 9 a0 20).bind fun v9 => (rI q7.2 v9 a1).bind fun v10 => if v10 = 0 then (f_X9_cell_84 q7.2 a3.toInt8.toInt32 ((((40 : Int32)) * a1) + a2) v8) else ((gR q7.2 9 a0 20).bind fun v11 => (rI q7.2 v11 a1).bind fun v12 => if v12 = ((1 : Int32)) then (f_X9_cell_84 q7.2 a3.toInt16.toInt32 ((((40 : Int32)) * a1) + a2) v8) else (f_X9_cell_84 q7.2 a3 ((((40 : Int32)) * a1) + a2) v8)))))
theorem b_X9_cell_84 (X : XX) (h : XM) (s0 : Int32) (s1 : Int32) (s2 : Option Nat) : SW X I_X9_cell ρi 84 [] [tI s0, tI s1, tA s2] h 0 0 (f_X9_cell_84 h s0 s1 s2) := by
  unfold f_X9_cell_84
  refine s_iastore (i := 52) rfl (fun h1 => ?_)
  refine s_iconst (i := 53) rfl (v := (1 : Int32)) (by decide) ?_
  exact s_iret (i := 54) rfl rfl
theorem c_X9_cell (h : XM) (a0 : Option Nat) (a1 : Int32) (a2 : Int32) (a3 : Int32) : MC I_X9_cell y_X9_cell [tA a0, tI a1, tI a2, tI a3] h ρi (f_X9_cell h a0 a1 a2 a3) := by
  refine MC_of ⟨by decide +kernel, rfl, rfl, Nat.le_of_ble_eq_true rfl⟩ dT_X9_cell (fun X => ?_)
  show SW X I_X9_cell ρi 0 [(0, tA a0), (1, tI a1), (2, tI a2), (3, tI a3)] [] h 0 0 (f_X9_cell h a0 a1 a2 a3)
  unfold f_X9_cell
  refine s_iload_n (i := 0) rfl 1 rfl ?_
  refine s_iconst (i := 1) rfl (v := (0 : Int32)) (by decide) ?_
  refine s_iconst (i := 2) rfl (v := (3 : Int32)) (by decide) ?_
  refine u_callSi [tI a1, tI ((0 : Int32)), tI ((3 : Int32))] [] rfl (i := 3) rfl (c_X9_in h a1 ((0 : Int32)) ((3 : Int32))) xm_X9_in (tw974) rfl (Nat.le_of_ble_eq_true rfl) (xRm.of rfl) ⟨rfl, rfl⟩ (fun q2 => ?_)
  refine s_ifne (i := 4) rfl (tgt := 12) (by decide) (fun z6 => ?_) (fun z6 => ?_)
  · refine s_bipush (i := 5) rfl (v := (-2 : Int32)) (by decide) ?_
    exact s_iret (i := 6) rfl rfl
  · refine s_aload_n (i := 7) rfl 0 rfl ?_
    refine s_getR (i := 8) rfl xf_9_41.r rfl (fun v3 => ?_)
    refine s_iload_n (i := 9) rfl 1 rfl ?_
    refine s_iaload (i := 10) rfl (fun v4 => ?_)
    refine s_iconst (i := 11) rfl (v := (-1 : Int32)) (by decide) ?_
    refine s_icmpne (i := 12) rfl (tgt := 25) (by decide) (fun z19 => ?_) (fun z19 => ?_)
    · refine s_bipush (i := 13) rfl (v := (-11 : Int32)) (by decide) ?_
      exact s_iret (i := 14) rfl rfl
    · refine s_iload_n (i := 15) rfl 2 rfl ?_
      refine s_iconst (i := 16) rfl (v := (0 : Int32)) (by decide) ?_
      refine s_aload_n (i := 17) rfl 0 rfl ?_
      refine s_getR (i := 18) rfl xf_9_44.r rfl (fun v5 => ?_)
      refine s_iload_n (i := 19) rfl 1 rfl ?_
      refine s_iaload (i := 20) rfl (fun v6 => ?_)
      refine s_iconst (i := 21) rfl (v := (1 : Int32)) (by decide) ?_
      refine s_isub (i := 22) rfl ?_
      refine u_callSi [tI a2, tI ((0 : Int32)), tI (v6 - ((1 : Int32)))] [] rfl (i := 23) rfl (c_X9_in q2.2 a2 ((0 : Int32)) (v6 - ((1 : Int32)))) xm_X9_in (tw974) rfl (Nat.le_of_ble_eq_true rfl) (xRm.of rfl) ⟨rfl, rfl⟩ (fun q7 => ?_)
      refine s_ifne (i := 24) rfl (tgt := 44) (by decide) (fun z38 => ?_) (fun z38 => ?_)
      · refine s_bipush (i := 25) rfl (v := (-12 : Int32)) (by decide) ?_
        exact s_iret (i := 26) rfl rfl
      · refine s_aload_n (i := 27) rfl 0 rfl ?_
        refine s_getR (i := 28) rfl xf_9_47.r rfl (fun v8 => ?_)
        refine s_bipush (i := 29) rfl (v := (40 : Int32)) (by decide) ?_
        refine s_iload_n (i := 30) rfl 1 rfl ?_
        refine s_imul (i := 31) rfl ?_
        refine s_iload_n (i := 32) rfl 2 rfl ?_
        refine s_iadd (i := 33) rfl ?_
        refine s_aload_n (i := 34) rfl 0 rfl ?_
        refine s_getR (i := 35) rfl xf_9_41.r rfl (fun v9 => ?_)
        refine s_iload_n (i := 36) rfl 1 rfl ?_
        refine s_iaload (i := 37) rfl (fun v10 => ?_)
        refine s_ifne (i := 38) rfl (tgt := 68) (by decide) (fun z60 => ?_) (fun z60 => ?_)
        · refine s_iload_n (i := 39) rfl 3 rfl ?_
          refine s_i2b (i := 40) rfl ?_
          refine s_goto (i := 41) rfl (tgt := 84) (by decide) ?_
          exact s_sub [] rfl (b_X9_cell_84 X q7.2 a3.toInt8.toInt32 ((((40 : Int32)) * a1) + a2) v8)
        · refine s_aload_n (i := 42) rfl 0 rfl ?_
          refine s_getR (i := 43) rfl xf_9_41.r rfl (fun v11 => ?_)
          refine s_iload_n (i := 44) rfl 1 rfl ?_
          refine s_iaload (i := 45) rfl (fun v12 => ?_)
          refine s_iconst (i := 46) rfl (v := (1 : Int32)) (by decide) ?_
          refine s_icmpne (i := 47) rfl (tgt := 83) (by decide) (fun z75 => ?_) (fun z75 => ?_)
          · refine s_iload_n (i := 48) rfl 3 rfl ?_
            refine s_i2s (i := 49) rfl ?_
            refine s_goto (i := 50) rfl (tgt := 84) (by decide) ?_
            exact s_sub [] rfl (b_X9_cell_84 X q7.2 a3.toInt16.toInt32 ((((40 : Int32)) * a1) + a2) v8)
          · refine s_iload_n (i := 51) rfl 3 rfl ?_
            exact s_sub [] rfl (b_X9_cell_84 X q7.2 a3 ((((40 : Int32)) * a1) + a2) v8)
def y_X9_copy : MethodName := ⟨"OpensAtNineModel", "copy", "(IIIII)I"⟩
def T_X9_copy : List (Nat × Instr × Nat × Nat) := [(0, .iload_n 1, 1, 1), (1, .iconst 0, 1, 2), (2, .iconst 3, 1, 3), (3, .invokestatic 100, 3, 6), (6, .ifCond .eq 12, 3, 9), (9, .iload_n 3, 1, 10), (10, .iconst 0, 1, 11), (11, .iconst 3, 1, 12), (12, .invokestatic 100, 3, 15), (15, .ifCond .ne 6, 3, 18), (18, .bipush (-2), 2, 20), (20, .ireturn, 1, 21), (21, .aload_n 0, 1, 22), (22, .getfield 41, 3, 25), (25, .iload_n 1, 1, 26), (26, .iaload, 1, 27), (27, .iconst (-1), 1, 28), (28, .if_icmp .eq 13, 3, 31), (31, .aload_n 0, 1, 32), (32, .getfield 41, 3, 35), (35, .iload_n 3, 1, 36), (36, .iaload, 1, 37), (37, .iconst (-1), 1, 38), (38, .if_icmp .ne 6, 3, 41), (41, .bipush (-11), 2, 43), (43, .ireturn, 1, 44), (44, .aload_n 0, 1, 45), (45, .getfield 41, 3, 48), (48, .iload_n 1, 1, 49), (49, .iaload, 1, 50), (50, .aload_n 0, 1, 51), (51, .getfield 41, 3, 54), (54, .iload_n 3, 1, 55), (55, .iaload, 1, 56), (56, .if_icmp .eq 6, 3, 59), (59, .bipush (-13), 2, 61), (61, .ireturn, 1, 62), (62, .iload 5, 2, 64), (64, .ifCond .lt 60, 3, 67), (67, .iload_n 2, 1, 68), (68, .ifCond .lt 56, 3, 71), (71, .iload 4, 2, 73), (73, .ifCond .lt 51, 3, 76), (76, .iload_n 2, 1, 77), (77, .aload_n 0, 1, 78), (78, .getfield 44, 3, 81), (81, .iload_n 1, 1, 82), (82, .iaload, 1, 83), (83, .if_icmp .gt 41, 3, 86), (86, .iload 4, 2, 88), (88, .aload_n 0, 1, 89), (89, .getfield 44, 3, 92), (92, .iload_n 3, 1, 93), (93, .iaload, 1, 94), (94, .if_icmp .gt 30, 3, 97), (97, .iload 5, 2, 99), (99, .aload_n 0, 1, 100), (100, .getfield 44, 3, 103), (103, .iload_n 1, 1, 104), (104, .iaload, 1, 105), (105, .iload_n 2, 1, 106), (106, .isub, 1, 107), (107, .if_icmp .gt 17, 3, 110), (110, .iload 5, 2, 112), (112, .aload_n 0, 1, 113), (113, .getfield 44, 3, 116), (116, .iload_n 3, 1, 117), (117, .iaload, 1, 118), (118, .iload 4, 2, 120), (120, .isub, 1, 121), (121, .if_icmp .le 6, 3, 124), (124, .bipush (-12), 2, 126), (126, .ireturn, 1, 127), (127, .bipush 40, 2, 129), (129, .iload_n 1, 1, 130), (130, .imul, 1, 131), (131, .iload_n 2, 1, 132), (132, .iadd, 1, 133), (133, .istore 6, 2, 135), (135, .bipush 40, 2, 137), (137, .iload_n 3, 1, 138), (138, .imul, 1, 139), (139, .iload 4, 2, 141), (141, .iadd, 1, 142), (142, .istore 7, 2, 144), (144, .iconst 0, 1, 145), (145, .istore 8, 2, 147), (147, .iload 8, 2, 149), (149, .iload 5, 2, 151), (151, .if_icmp .ge 50, 3, 154), (154, .iload 6, 2, 156), (156, .iload 7, 2, 158), (158, .if_icmp .ge 13, 3, 161), (161, .iload 5, 2, 163), (163, .iconst 1, 1, 164), (164, .isub, 1, 165), (165, .iload 8, 2, 167), (167, .isub, 1, 168), (168, .goto 5, 3, 171), (171, .iload 8, 2, 173), (173, .istore 9, 2, 175), (175, .aload_n 0, 1, 176), (176, .getfield 47, 3, 179), (179, .iload 7, 2, 181), (181, .iload 9, 2, 183), (183, .iadd, 1, 184), (184, .aload_n 0, 1, 185), (185, .getfield 47, 3, 188), (188, .iload 6, 2, 190), (190, .iload 9, 2, 192), (192, .iadd, 1, 193), (193, .iaload, 1, 194), (194, .iastore, 1, 195), (195, .iinc 8 1, 3, 198), (198, .goto (-51), 3, 201), (201, .iload 5, 2, 203), (203, .ireturn, 1, 204)]
def I_X9_copy : MI := (prog_11_method_82_code, 10, (some .int), "OpensAtNineModel", "copy", T_X9_copy, 0, 0, 2, 82)
theorem dT_X9_copy : ∀ q ∈ T_X9_copy, decode prog_11_method_82_code q.1 = .ok (q.2.1, q.2.2.1) ∧ q.2.2.2 = q.1 + q.2.2.1 := by decide +kernel
theorem xm_X9_copy : xCM y_X9_copy I_X9_copy 9 5 := ⟨⟨tw1439, tw1440⟩, tw84, tw1441, ⟨xT9, 49, rfl⟩, ⟨by decide +kernel, by decide +kernel, by decide +kernel⟩⟩
noncomputable def f_X9_copy_18 (h : XM) : Option (Int32 × XM) := some ((-2 : Int32), h)
noncomputable def f_X9_copy_41 (h : XM) : Option (Int32 × XM) := some ((-11 : Int32), h)
noncomputable def f_X9_copy_124 (h : XM) : Option (Int32 × XM) := some ((-12 : Int32), h)
noncomputable def f_X9_copy_173 (k_147 : XM → Option Nat → Int32 → Int32 → Int32 → Int32 → Option (Int32 × XM)) (h : XM) (l0 : Option Nat) (l5 : Int32) (l6 : Int32) (l7 : Int32) (l8 : Int32) (s0 : Int32) : Option (Int32 × XM) := (gR h 9 l0 22).bind fun v1 => (gR h 9 l0 22).bind fun v2 => (rI h v2 (l6 + s0)).bind fun v3 => (sI h v1 (l7 + s0) v3).bind fun h4 => bnd (l8 + (1 : Int32)) fun v5 => k_147 h4 l0 l5 l6 l7 v5
noncomputable def fb_X9_copy_147 (k_147 : XM → Option Nat → Int32 → Int32 → Int32 → Int32 → Option (Int32 × XM)) (h : XM) (l0 : Option Nat) (l5 : Int32) (l6 : Int32) (l7 : Int32) (l8 : Int32) : Option (Int32 × XM) := if l8 < l5 then (if l6 < l7 then (f_X9_copy_173 k_147 h l0 l5 l6 l7 l8 ((l5 - ((1 : Int32))) - l8)) else (f_X9_copy_173 k_147 h l0 l5 l6 l7 l8 l8)) else (some (l5, h))
noncomputable def f_X9_copy_147 (n : Nat) : XM → Option Nat → Int32 → Int32 → Int32 → Int32 → Option (Int32 × XM) := Nat.rec (motive := fun _ => XM → Option Nat → Int32 → Int32 → Int32 → Int32 → Option (Int32 × XM)) (fun _ _ _ _ _ _ => none) (fun _ ih h l0 l5 l6 l7 l8 => fb_X9_copy_147 ih h l0 l5 l6 l7 l8) n
noncomputable def f_X9_copy (h : XM) (a0 : Option Nat) (a1 : Int32) (a2 : Int32) (a3 : Int32) (a4 : Int32) (a5 : Int32) : Option (Int32 × XM) := (f_X9_in h a1 ((0 : Int32)) ((3 : Int32))).bind fun q6 => if q6.1 = 0 then (f_X9_copy_18 q6.2) else ((f_X9_in q6.2 a3 ((0 : Int32)) ((3 : Int32))).bind fun q7 => if q7.1 = 0 then (f_X9_copy_18 q7.2) else ((gR q7.2 9 a0 20).bind fun v8 => (rI q7.2 v8 a1).bind fun v9 => if v9 = ((-1 : Int32)) then (f_X9_copy_41 q7.2) else ((gR q7.2 9 a0 20).bind fun v10 => (rI q7.2 v10 a3).bind fun v11 => if v11 = ((-1 : Int32)) then (f_X9_copy_41 q7.2) else ((gR q7.2 9 a0 20).bind fun v12 => (rI q7.2 v12 a1).bind fun v13 => (gR q7.2 9 a0 20).bind fun v14 => (rI q7.2 v14 a3).bind fun v15 => if v13 = v15 then (if a5 < 0 then (f_X9_copy_124 q7.2) else (if a2 < 0 then (f_X9_copy_124 q7.2) else (if a4 < 0 then (f_X9_copy_124 q7.2) else ((gR q7.2 9 a0 21).bind fun v16 => (rI q7.2 v16 a1).bind fun v17 => if v17 < a2 then (f_X9_copy_124 q7.2) else ((gR q7.2 9 a0 21).bind fun v18 => (rI q7.2 v18 a3).bind fun v19 => if v19 < a4 then (f_X9_copy_124 q7.2) else ((gR q7.2 9 a0 21).bind fun v20 => (rI q7.2 v20 a1).bind fun v21 => if (v21 - a2) < a5 then (f_X9_copy_124 q7.2) else ((gR q7.2 9 a0 21).bind fun v22 => (rI q7.2 v22 a3).bind fun v23 => if (v23 - a4) < a5 then (f_X9_copy_124 q7.2) else (bnd ((((40 : Int32)) * a1) + a2) fun v24 => bnd ((((40 : Int32)) * a3) + a4) fun v25 => f_X9_copy_147 FU q7.2 a0 a5 v24 v25 ((0 : Int32)))))))))) else (some ((-13 : Int32), q7.2))))))
theorem b_X9_copy_18 (X : XX) (h : XM) : SW X I_X9_copy ρi 18 [] [] h 0 0 (f_X9_copy_18 h) := by
  unfold f_X9_copy_18
  refine s_bipush (i := 10) rfl (v := (-2 : Int32)) (by decide) ?_
  exact s_iret (i := 11) rfl rfl
theorem b_X9_copy_41 (X : XX) (h : XM) : SW X I_X9_copy ρi 41 [] [] h 0 0 (f_X9_copy_41 h) := by
  unfold f_X9_copy_41
  refine s_bipush (i := 24) rfl (v := (-11 : Int32)) (by decide) ?_
  exact s_iret (i := 25) rfl rfl
theorem b_X9_copy_124 (X : XX) (h : XM) : SW X I_X9_copy ρi 124 [] [] h 0 0 (f_X9_copy_124 h) := by
  unfold f_X9_copy_124
  refine s_bipush (i := 71) rfl (v := (-12 : Int32)) (by decide) ?_
  exact s_iret (i := 72) rfl rfl
theorem b_X9_copy_173 (X : XX) (k_147 : XM → Option Nat → Int32 → Int32 → Int32 → Int32 → Option (Int32 × XM)) (hk_147 : ∀ h l0 l5 l6 l7 l8, SW X I_X9_copy ρi 147 [(0, tA l0), (5, tI l5), (6, tI l6), (7, tI l7), (8, tI l8)] [] h 0 0 (k_147 h l0 l5 l6 l7 l8)) (h : XM) (l0 : Option Nat) (l5 : Int32) (l6 : Int32) (l7 : Int32) (l8 : Int32) (s0 : Int32) : SW X I_X9_copy ρi 173 [(0, tA l0), (5, tI l5), (6, tI l6), (7, tI l7), (8, tI l8)] [tI s0] h 0 0 (f_X9_copy_173 k_147 h l0 l5 l6 l7 l8 s0) := by
  unfold f_X9_copy_173
  refine s_istore (i := 100) rfl (Nat.le_of_ble_eq_true rfl) (ls2 := [(9, tI s0), (0, tA l0), (5, tI l5), (6, tI l6), (7, tI l7), (8, tI l8)]) rfl ?_
  refine s_aload_n (i := 101) rfl 1 rfl ?_
  refine s_getR (i := 102) rfl xf_9_47.r rfl (fun v1 => ?_)
  refine s_iload (i := 103) rfl 4 rfl ?_
  refine s_iload (i := 104) rfl 0 rfl ?_
  refine s_iadd (i := 105) rfl ?_
  refine s_aload_n (i := 106) rfl 1 rfl ?_
  refine s_getR (i := 107) rfl xf_9_47.r rfl (fun v2 => ?_)
  refine s_iload (i := 108) rfl 3 rfl ?_
  refine s_iload (i := 109) rfl 0 rfl ?_
  refine s_iadd (i := 110) rfl ?_
  refine s_iaload (i := 111) rfl (fun v3 => ?_)
  refine s_iastore (i := 112) rfl (fun h4 => ?_)
  refine s_inc (i := 113) rfl 5 rfl (c9 := (1 : Int32)) (by decide) (Nat.le_of_ble_eq_true rfl) (fun v5 => ?_)
  refine s_ls (ls2 := [(8, tI v5), (9, tI s0), (0, tA l0), (5, tI l5), (6, tI l6), (7, tI l7)]) rfl ?_
  refine s_goto (i := 114) rfl (tgt := 147) (by decide) ?_
  exact s_sub [2, 3, 4, 5, 0] rfl (hk_147 h4 l0 l5 l6 l7 v5)
theorem bb_X9_copy_147 (X : XX) (k_147 : XM → Option Nat → Int32 → Int32 → Int32 → Int32 → Option (Int32 × XM)) (hk_147 : ∀ h l0 l5 l6 l7 l8, SW X I_X9_copy ρi 147 [(0, tA l0), (5, tI l5), (6, tI l6), (7, tI l7), (8, tI l8)] [] h 0 0 (k_147 h l0 l5 l6 l7 l8)) (h : XM) (l0 : Option Nat) (l5 : Int32) (l6 : Int32) (l7 : Int32) (l8 : Int32) : SW X I_X9_copy ρi 147 [(0, tA l0), (5, tI l5), (6, tI l6), (7, tI l7), (8, tI l8)] [] h 0 0 (fb_X9_copy_147 k_147 h l0 l5 l6 l7 l8) := by
  unfold fb_X9_copy_147
  refine s_iload (i := 87) rfl 4 rfl ?_
  refine s_iload (i := 88) rfl 1 rfl ?_
  refine s_icmpge (i := 89) rfl (tgt := 201) (by decide) (fun z151 => ?_) (fun z151 => ?_)
  · refine s_iload (i := 90) rfl 2 rfl ?_
    refine s_iload (i := 91) rfl 3 rfl ?_
    refine s_icmpge (i := 92) rfl (tgt := 171) (by decide) (fun z158 => ?_) (fun z158 => ?_)
    · refine s_iload (i := 93) rfl 1 rfl ?_
      refine s_iconst (i := 94) rfl (v := (1 : Int32)) (by decide) ?_
      refine s_isub (i := 95) rfl ?_
      refine s_iload (i := 96) rfl 4 rfl ?_
      refine s_isub (i := 97) rfl ?_
      refine s_goto (i := 98) rfl (tgt := 173) (by decide) ?_
      exact s_sub [0, 1, 2, 3, 4] rfl (b_X9_copy_173 X k_147 hk_147 h l0 l5 l6 l7 l8 ((l5 - ((1 : Int32))) - l8))
    · refine s_iload (i := 99) rfl 4 rfl ?_
      exact s_sub [0, 1, 2, 3, 4] rfl (b_X9_copy_173 X k_147 hk_147 h l0 l5 l6 l7 l8 l8)
  · refine s_iload (i := 115) rfl 1 rfl ?_
    exact s_iret (i := 116) rfl rfl
theorem b_X9_copy_147 (X : XX) : ∀ (n : Nat) (h : XM) (l0 : Option Nat) (l5 : Int32) (l6 : Int32) (l7 : Int32) (l8 : Int32), SW X I_X9_copy ρi 147 [(0, tA l0), (5, tI l5), (6, tI l6), (7, tI l7), (8, tI l8)] [] h 0 0 (f_X9_copy_147 n h l0 l5 l6 l7 l8) := by
  intro n
  induction n with
  | zero =>
    intro h l0 l5 l6 l7 l8
    exact s_none
  | succ n ih =>
    intro h l0 l5 l6 l7 l8
    exact bb_X9_copy_147 X (f_X9_copy_147 n) ih h l0 l5 l6 l7 l8
theorem c_X9_copy (h : XM) (a0 : Option Nat) (a1 : Int32) (a2 : Int32) (a3 : Int32) (a4 : Int32) (a5 : Int32) : MC I_X9_copy y_X9_copy [tA a0, tI a1, tI a2, tI a3, tI a4, tI a5] h ρi (f_X9_copy h a0 a1 a2 a3 a4 a5) := by
  refine MC_of ⟨by decide +kernel, rfl, rfl, Nat.le_of_ble_eq_true rfl⟩ dT_X9_copy (fun X => ?_)
  show SW X I_X9_copy ρi 0 [(0, tA a0), (1, tI a1), (2, tI a2), (3, tI a3), (4, tI a4), (5, tI a5)] [] h 0 0 (f_X9_copy h a0 a1 a2 a3 a4 a5)
  unfold f_X9_copy
  refine s_iload_n (i := 0) rfl 1 rfl ?_
  refine s_iconst (i := 1) rfl (v := (0 : Int32)) (by decide) ?_
  refine s_iconst (i := 2) rfl (v := (3 : Int32)) (by decide) ?_
  refine u_callSi [tI a1, tI ((0 : Int32)), tI ((3 : Int32))] [] rfl (i := 3) rfl (c_X9_in h a1 ((0 : Int32)) ((3 : Int32))) xm_X9_in (tw974) rfl (Nat.le_of_ble_eq_true rfl) (xRm.of rfl) ⟨rfl, rfl⟩ (fun q6 => ?_)
  refine s_ifeq (i := 4) rfl (tgt := 18) (by decide) (fun z6 => ?_) (fun z6 => ?_)
  · exact s_sub [] rfl (b_X9_copy_18 X q6.2)
  · refine s_iload_n (i := 5) rfl 3 rfl ?_
    refine s_iconst (i := 6) rfl (v := (0 : Int32)) (by decide) ?_
    refine s_iconst (i := 7) rfl (v := (3 : Int32)) (by decide) ?_
    refine u_callSi [tI a3, tI ((0 : Int32)), tI ((3 : Int32))] [] rfl (i := 8) rfl (c_X9_in q6.2 a3 ((0 : Int32)) ((3 : Int32))) xm_X9_in (tw974) rfl (Nat.le_of_ble_eq_true rfl) (xRm.of rfl) ⟨rfl, rfl⟩ (fun q7 => ?_)
    refine s_ifne (i := 9) rfl (tgt := 21) (by decide) (fun z15 => ?_) (fun z15 => ?_)
    · exact s_sub [] rfl (b_X9_copy_18 X q7.2)
    · refine s_aload_n (i := 12) rfl 0 rfl ?_
      refine s_getR (i := 13) rfl xf_9_41.r rfl (fun v8 => ?_)
      refine s_iload_n (i := 14) rfl 1 rfl ?_
      refine s_iaload (i := 15) rfl (fun v9 => ?_)
      refine s_iconst (i := 16) rfl (v := (-1 : Int32)) (by decide) ?_
      refine s_icmpeq (i := 17) rfl (tgt := 41) (by decide) (fun z28 => ?_) (fun z28 => ?_)
      · exact s_sub [] rfl (b_X9_copy_41 X q7.2)
      · refine s_aload_n (i := 18) rfl 0 rfl ?_
        refine s_getR (i := 19) rfl xf_9_41.r rfl (fun v10 => ?_)
        refine s_iload_n (i := 20) rfl 3 rfl ?_
        refine s_iaload (i := 21) rfl (fun v11 => ?_)
        refine s_iconst (i := 22) rfl (v := (-1 : Int32)) (by decide) ?_
        refine s_icmpne (i := 23) rfl (tgt := 44) (by decide) (fun z38 => ?_) (fun z38 => ?_)
        · exact s_sub [] rfl (b_X9_copy_41 X q7.2)
        · refine s_aload_n (i := 26) rfl 0 rfl ?_
          refine s_getR (i := 27) rfl xf_9_41.r rfl (fun v12 => ?_)
          refine s_iload_n (i := 28) rfl 1 rfl ?_
          refine s_iaload (i := 29) rfl (fun v13 => ?_)
          refine s_aload_n (i := 30) rfl 0 rfl ?_
          refine s_getR (i := 31) rfl xf_9_41.r rfl (fun v14 => ?_)
          refine s_iload_n (i := 32) rfl 3 rfl ?_
          refine s_iaload (i := 33) rfl (fun v15 => ?_)
          refine s_icmpeq (i := 34) rfl (tgt := 62) (by decide) (fun z56 => ?_) (fun z56 => ?_)
          · refine s_iload (i := 37) rfl 5 rfl ?_
            refine s_iflt (i := 38) rfl (tgt := 124) (by decide) (fun z64 => ?_) (fun z64 => ?_)
            · exact s_sub [] rfl (b_X9_copy_124 X q7.2)
            · refine s_iload_n (i := 39) rfl 2 rfl ?_
              refine s_iflt (i := 40) rfl (tgt := 124) (by decide) (fun z68 => ?_) (fun z68 => ?_)
              · exact s_sub [] rfl (b_X9_copy_124 X q7.2)
              · refine s_iload (i := 41) rfl 4 rfl ?_
                refine s_iflt (i := 42) rfl (tgt := 124) (by decide) (fun z73 => ?_) (fun z73 => ?_)
                · exact s_sub [] rfl (b_X9_copy_124 X q7.2)
                · refine s_iload_n (i := 43) rfl 2 rfl ?_
                  refine s_aload_n (i := 44) rfl 0 rfl ?_
                  refine s_getR (i := 45) rfl xf_9_44.r rfl (fun v16 => ?_)
                  refine s_iload_n (i := 46) rfl 1 rfl ?_
                  refine s_iaload (i := 47) rfl (fun v17 => ?_)
                  refine s_icmpgt (i := 48) rfl (tgt := 124) (by decide) (fun z83 => ?_) (fun z83 => ?_)
                  · exact s_sub [] rfl (b_X9_copy_124 X q7.2)
                  · refine s_iload (i := 49) rfl 4 rfl ?_
                    refine s_aload_n (i := 50) rfl 0 rfl ?_
                    refine s_getR (i := 51) rfl xf_9_44.r rfl (fun v18 => ?_)
                    refine s_iload_n (i := 52) rfl 3 rfl ?_
                    refine s_iaload (i := 53) rfl (fun v19 => ?_)
                    refine s_icmpgt (i := 54) rfl (tgt := 124) (by decide) (fun z94 => ?_) (fun z94 => ?_)
                    · exact s_sub [] rfl (b_X9_copy_124 X q7.2)
                    · refine s_iload (i := 55) rfl 5 rfl ?_
                      refine s_aload_n (i := 56) rfl 0 rfl ?_
                      refine s_getR (i := 57) rfl xf_9_44.r rfl (fun v20 => ?_)
                      refine s_iload_n (i := 58) rfl 1 rfl ?_
                      refine s_iaload (i := 59) rfl (fun v21 => ?_)
                      refine s_iload_n (i := 60) rfl 2 rfl ?_
                      refine s_isub (i := 61) rfl ?_
                      refine s_icmpgt (i := 62) rfl (tgt := 124) (by decide) (fun z107 => ?_) (fun z107 => ?_)
                      · exact s_sub [] rfl (b_X9_copy_124 X q7.2)
                      · refine s_iload (i := 63) rfl 5 rfl ?_
                        refine s_aload_n (i := 64) rfl 0 rfl ?_
                        refine s_getR (i := 65) rfl xf_9_44.r rfl (fun v22 => ?_)
                        refine s_iload_n (i := 66) rfl 3 rfl ?_
                        refine s_iaload (i := 67) rfl (fun v23 => ?_)
                        refine s_iload (i := 68) rfl 4 rfl ?_
                        refine s_isub (i := 69) rfl ?_
                        refine s_icmple (i := 70) rfl (tgt := 127) (by decide) (fun z121 => ?_) (fun z121 => ?_)
                        · exact s_sub [] rfl (b_X9_copy_124 X q7.2)
                        · refine s_bipush (i := 73) rfl (v := (40 : Int32)) (by decide) ?_
                          refine s_iload_n (i := 74) rfl 1 rfl ?_
                          refine s_imul (i := 75) rfl ?_
                          refine s_iload_n (i := 76) rfl 2 rfl ?_
                          refine s_iadd (i := 77) rfl ?_
                          refine s_bnd (fun v24 => ?_)
                          refine s_istore (i := 78) rfl (Nat.le_of_ble_eq_true rfl) (ls2 := [(6, tI v24), (0, tA a0), (1, tI a1), (2, tI a2), (3, tI a3), (4, tI a4), (5, tI a5)]) rfl ?_
                          refine s_bipush (i := 79) rfl (v := (40 : Int32)) (by decide) ?_
                          refine s_iload_n (i := 80) rfl 4 rfl ?_
                          refine s_imul (i := 81) rfl ?_
                          refine s_iload (i := 82) rfl 5 rfl ?_
                          refine s_iadd (i := 83) rfl ?_
                          refine s_bnd (fun v25 => ?_)
                          refine s_istore (i := 84) rfl (Nat.le_of_ble_eq_true rfl) (ls2 := [(7, tI v25), (6, tI v24), (0, tA a0), (1, tI a1), (2, tI a2), (3, tI a3), (4, tI a4), (5, tI a5)]) rfl ?_
                          refine s_iconst (i := 85) rfl (v := (0 : Int32)) (by decide) ?_
                          refine s_istore (i := 86) rfl (Nat.le_of_ble_eq_true rfl) (ls2 := [(8, tI ((0 : Int32))), (7, tI v25), (6, tI v24), (0, tA a0), (1, tI a1), (2, tI a2), (3, tI a3), (4, tI a4), (5, tI a5)]) rfl ?_
                          exact s_sub [3, 8, 2, 1, 0] rfl (b_X9_copy_147 X FU q7.2 a0 a5 v24 v25 ((0 : Int32)))
          · refine s_bipush (i := 35) rfl (v := (-13 : Int32)) (by decide) ?_
            exact s_iret (i := 36) rfl rfl
def y_X9_coinsBy : MethodName := ⟨"OpensAtNineModel", "coinsBy", "(IIII)I"⟩
def T_X9_coinsBy : List (Nat × Instr × Nat × Nat) := [(0, .iload_n 1, 1, 1), (1, .iconst 0, 1, 2), (2, .iconst 3, 1, 3), (3, .invokestatic 100, 3, 6), (6, .ifCond .eq 23, 3, 9), (9, .iload_n 2, 1, 10), (10, .iconst 0, 1, 11), (11, .iconst 2, 1, 12), (12, .invokestatic 100, 3, 15), (15, .ifCond .eq 14, 3, 18), (18, .iload 4, 2, 20), (20, .iconst 0, 1, 21), (21, .bipush 7, 2, 23), (23, .invokestatic 100, 3, 26), (26, .ifCond .ne 6, 3, 29), (29, .bipush (-2), 2, 31), (31, .ireturn, 1, 32), (32, .aload_n 0, 1, 33), (33, .getfield 41, 3, 36), (36, .iload_n 1, 1, 37), (37, .iaload, 1, 38), (38, .iconst (-1), 1, 39), (39, .if_icmp .ne 6, 3, 42), (42, .bipush (-11), 2, 44), (44, .ireturn, 1, 45), (45, .aload_n 0, 1, 46), (46, .getfield 41, 3, 49), (49, .iload_n 1, 1, 50), (50, .iaload, 1, 51), (51, .iload_n 2, 1, 52), (52, .if_icmp .eq 6, 3, 55), (55, .bipush (-13), 2, 57), (57, .ireturn, 1, 58), (58, .iconst 0, 1, 59), (59, .istore 5, 2, 61), (61, .iconst 0, 1, 62), (62, .istore 6, 2, 64), (64, .iload 6, 2, 66), (66, .iload 4, 2, 68), (68, .if_icmp .ge 103, 3, 71), (71, .iload_n 3, 1, 72), (72, .iconst 4, 1, 73), (73, .iload 6, 2, 75), (75, .imul, 1, 76), (76, .iadd, 1, 77), (77, .istore 7, 2, 79), (79, .iload_n 3, 1, 80), (80, .ifCond .lt 22, 3, 83), (83, .iload 7, 2, 85), (85, .iload_n 3, 1, 86), (86, .if_icmp .lt 16, 3, 89), (89, .iload 7, 2, 91), (91, .aload_n 0, 1, 92), (92, .getfield 44, 3, 95), (95, .iload_n 1, 1, 96), (96, .iaload, 1, 97), (97, .iconst 4, 1, 98), (98, .isub, 1, 99), (99, .if_icmp .le 6, 3, 102), (102, .bipush (-12), 2, 104), (104, .ireturn, 1, 105), (105, .bipush 40, 2, 107), (107, .iload_n 1, 1, 108), (108, .imul, 1, 109), (109, .iload 7, 2, 111), (111, .iadd, 1, 112), (112, .istore 8, 2, 114), (114, .iload 5, 2, 116), (116, .aload_n 0, 1, 117), (117, .aload_n 0, 1, 118), (118, .getfield 47, 3, 121), (121, .iload 8, 2, 123), (123, .iaload, 1, 124), (124, .aload_n 0, 1, 125), (125, .getfield 47, 3, 128), (128, .iload 8, 2, 130), (130, .iconst 1, 1, 131), (131, .iadd, 1, 132), (132, .iaload, 1, 133), (133, .aload_n 0, 1, 134), (134, .getfield 47, 3, 137), (137, .iload 8, 2, 139), (139, .iconst 2, 1, 140), (140, .iadd, 1, 141), (141, .iaload, 1, 142), (142, .aload_n 0, 1, 143), (143, .getfield 47, 3, 146), (146, .iload 8, 2, 148), (148, .iconst 3, 1, 149), (149, .iadd, 1, 150), (150, .iaload, 1, 151), (151, .invokevirtual 340, 3, 154), (154, .ifCond .lt 7, 3, 157), (157, .iconst 1, 1, 158), (158, .goto 4, 3, 161), (161, .iconst 0, 1, 162), (162, .iadd, 1, 163), (163, .istore 5, 2, 165), (165, .iinc 6 1, 3, 168), (168, .goto (-104), 3, 171), (171, .iload 5, 2, 173), (173, .ireturn, 1, 174)]
def I_X9_coinsBy : MI := (prog_11_method_83_code, 9, (some .int), "OpensAtNineModel", "coinsBy", T_X9_coinsBy, 0, 0, 4, 127)
theorem dT_X9_coinsBy : ∀ q ∈ T_X9_coinsBy, decode prog_11_method_83_code q.1 = .ok (q.2.1, q.2.2.1) ∧ q.2.2.2 = q.1 + q.2.2.1 := by decide +kernel
theorem xm_X9_coinsBy : xCM y_X9_coinsBy I_X9_coinsBy 9 4 := ⟨⟨tw1443, tw1444⟩, tw84, tw1445, ⟨xT9, 49, rfl⟩, ⟨by decide +kernel, by decide +kernel, by decide +kernel⟩⟩
noncomputable def f_X9_coinsBy_29 (h : XM) : Option (Int32 × XM) := some ((-2 : Int32), h)
noncomputable def f_X9_coinsBy_102 (h : XM) : Option (Int32 × XM) := some ((-12 : Int32), h)
noncomputable def f_X9_coinsBy_162 (k_64 : XM → Option Nat → Int32 → Int32 → Int32 → Int32 → Int32 → Option (Int32 × XM)) (h : XM) (l0 : Option Nat) (l1 : Int32) (l3 : Int32) (l4 : Int32) (l6 : Int32) (s0 : Int32) (s1 : Int32) : Option (Int32 × XM) := bnd (s1 + s0) fun v1 => bnd (l6 + (1 : Int32)) fun v2 => k_64 h l0 l1 l3 l4 v1 v2
noncomputable def fb_X9_coinsBy_64 (k_64 : XM → Option Nat → Int32 → Int32 → Int32 → Int32 → Int32 → Option (Int32 × XM)) (h : XM) (l0 : Option Nat) (l1 : Int32) (l3 : Int32) (l4 : Int32) (l5 : Int32) (l6 : Int32) : Option (Int32 × XM) := if l6 < l4 then (bnd (l3 + (((4 : Int32)) * l6)) fun v3 => if l3 < 0 then (f_X9_coinsBy_102 h) else (if v3 < l3 then (f_X9_coinsBy_102 h) else ((gR h 9 l0 21).bind fun v4 => (rI h v4 l1).bind fun v5 => if (v5 - ((4 : Int32))) < v3 then (f_X9_coinsBy_102 h) else (bnd ((((40 : Int32)) * l1) + v3) fun v6 => (gR h 9 l0 22).bind fun v7 => (rI h v7 v6).bind fun v8 => (gR h 9 l0 22).bind fun v9 => (rI h v9 (v6 + ((1 : Int32)))).bind fun v10 => (gR h 9 l0 22).bind fun v11 => (rI h v11 (v6 + ((2 : Int32)))).bind fun v12 => (gR h 9 l0 22).bind fun v13 => (rI h v13 (v6 + ((3 : Int32)))).bind fun v14 => (vc h 9 l0 (f_X9_coin h l0 v8 v10 v12 v14)).bind fun q15 => if q15.1 < 0 then (f_X9_coinsBy_162 k_64 q15.2 l0 l1 l3 l4 l6 ((0 : Int32)) l5) else (f_X9_coinsBy_162 k_64 q15.2 l0 l1 l3 l4 l6 ((1 : Int32)) l5))))) else (some (l5, h))
noncomputable def f_X9_coinsBy_64 (n : Nat) : XM → Option Nat → Int32 → Int32 → Int32 → Int32 → Int32 → Option (Int32 × XM) := Nat.rec (motive := fun _ => XM → Option Nat → Int32 → Int32 → Int32 → Int32 → Int32 → Option (Int32 × XM)) (fun _ _ _ _ _ _ _ => none) (fun _ ih h l0 l1 l3 l4 l5 l6 => fb_X9_coinsBy_64 ih h l0 l1 l3 l4 l5 l6) n
noncomputable def f_X9_coinsBy (h : XM) (a0 : Option Nat) (a1 : Int32) (a2 : Int32) (a3 : Int32) (a4 : Int32) : Option (Int32 × XM) := (f_X9_in h a1 ((0 : Int32)) ((3 : Int32))).bind fun q16 => if q16.1 = 0 then (f_X9_coinsBy_29 q16.2) else ((f_X9_in q16.2 a2 ((0 : Int32)) ((2 : Int32))).bind fun q17 => if q17.1 = 0 then (f_X9_coinsBy_29 q17.2) else ((f_X9_in q17.2 a4 ((0 : Int32)) ((7 : Int32))).bind fun q18 => if q18.1 = 0 then (f_X9_coinsBy_29 q18.2) else ((gR q18.2 9 a0 20).bind fun v19 => (rI q18.2 v19 a1).bind fun v20 => if v20 = ((-1 : Int32)) then (some ((-11 : Int32), q18.2)) else ((gR q18.2 9 a0 20).bind fun v21 => (rI q18.2 v21 a1).bind fun v22 => if v22 = a2 then (f_X9_coinsBy_64 FU q18.2 a0 a1 a3 a4 ((0 : Int32)) ((0 : Int32))) else (some ((-13 : Int32), q18.2))))))
theorem b_X9_coinsBy_29 (X : XX) (h : XM) : SW X I_X9_coinsBy ρi 29 [] [] h 0 0 (f_X9_coinsBy_29 h) := by
  unfold f_X9_coinsBy_29
  refine s_bipush (i := 15) rfl (v := (-2 : Int32)) (by decide) ?_
  exact s_iret (i := 16) rfl rfl
theorem b_X9_coinsBy_102 (X : XX) (h : XM) : SW X I_X9_coinsBy ρi 102 [] [] h 0 0 (f_X9_coinsBy_102 h) := by
  unfold f_X9_coinsBy_102
  refine s_bipush (i := 59) rfl (v := (-12 : Int32)) (by decide) ?_
  exact s_iret (i := 60) rfl rfl
theorem b_X9_coinsBy_162 (X : XX) (k_64 : XM → Option Nat → Int32 → Int32 → Int32 → Int32 → Int32 → Option (Int32 × XM)) (hk_64 : ∀ h l0 l1 l3 l4 l5 l6, SW X I_X9_coinsBy ρi 64 [(0, tA l0), (1, tI l1), (3, tI l3), (4, tI l4), (5, tI l5), (6, tI l6)] [] h 0 0 (k_64 h l0 l1 l3 l4 l5 l6)) (h : XM) (l0 : Option Nat) (l1 : Int32) (l3 : Int32) (l4 : Int32) (l6 : Int32) (s0 : Int32) (s1 : Int32) : SW X I_X9_coinsBy ρi 162 [(0, tA l0), (1, tI l1), (3, tI l3), (4, tI l4), (6, tI l6)] [tI s0, tI s1] h 0 0 (f_X9_coinsBy_162 k_64 h l0 l1 l3 l4 l6 s0 s1) := by
  unfold f_X9_coinsBy_162
  refine s_iadd (i := 96) rfl ?_
  refine s_bnd (fun v1 => ?_)
  refine s_istore (i := 97) rfl (Nat.le_of_ble_eq_true rfl) (ls2 := [(5, tI v1), (0, tA l0), (1, tI l1), (3, tI l3), (4, tI l4), (6, tI l6)]) rfl ?_
  refine s_inc (i := 98) rfl 5 rfl (c9 := (1 : Int32)) (by decide) (Nat.le_of_ble_eq_true rfl) (fun v2 => ?_)
  refine s_ls (ls2 := [(6, tI v2), (5, tI v1), (0, tA l0), (1, tI l1), (3, tI l3), (4, tI l4)]) rfl ?_
  refine s_goto (i := 99) rfl (tgt := 64) (by decide) ?_
  exact s_sub [2, 3, 4, 5, 1, 0] rfl (hk_64 h l0 l1 l3 l4 v1 v2)
theorem bb_X9_coinsBy_64 (X : XX) (k_64 : XM → Option Nat → Int32 → Int32 → Int32 → Int32 → Int32 → Option (Int32 × XM)) (hk_64 : ∀ h l0 l1 l3 l4 l5 l6, SW X I_X9_coinsBy ρi 64 [(0, tA l0), (1, tI l1), (3, tI l3), (4, tI l4), (5, tI l5), (6, tI l6)] [] h 0 0 (k_64 h l0 l1 l3 l4 l5 l6)) (h : XM) (l0 : Option Nat) (l1 : Int32) (l3 : Int32) (l4 : Int32) (l5 : Int32) (l6 : Int32) : SW X I_X9_coinsBy ρi 64 [(0, tA l0), (1, tI l1), (3, tI l3), (4, tI l4), (5, tI l5), (6, tI l6)] [] h 0 0 (fb_X9_coinsBy_64 k_64 h l0 l1 l3 l4 l5 l6) := by
  unfold fb_X9_coinsBy_64
  refine s_iload (i := 37) rfl 5 rfl ?_
  refine s_iload (i := 38) rfl 3 rfl ?_
  refine s_icmpge (i := 39) rfl (tgt := 171) (by decide) (fun z68 => ?_) (fun z68 => ?_)
  · refine s_iload_n (i := 40) rfl 2 rfl ?_
    refine s_iconst (i := 41) rfl (v := (4 : Int32)) (by decide) ?_
    refine s_iload (i := 42) rfl 5 rfl ?_
    refine s_imul (i := 43) rfl ?_
    refine s_iadd (i := 44) rfl ?_
    refine s_bnd (fun v3 => ?_)
    refine s_istore (i := 45) rfl (Nat.le_of_ble_eq_true rfl) (ls2 := [(7, tI v3), (0, tA l0), (1, tI l1), (3, tI l3), (4, tI l4), (5, tI l5), (6, tI l6)]) rfl ?_
    refine s_iload_n (i := 46) rfl 3 rfl ?_
    refine s_iflt (i := 47) rfl (tgt := 102) (by decide) (fun z80 => ?_) (fun z80 => ?_)
    · exact s_sub [] rfl (b_X9_coinsBy_102 X h)
    · refine s_iload (i := 48) rfl 0 rfl ?_
      refine s_iload_n (i := 49) rfl 3 rfl ?_
      refine s_icmplt (i := 50) rfl (tgt := 102) (by decide) (fun z86 => ?_) (fun z86 => ?_)
      · exact s_sub [] rfl (b_X9_coinsBy_102 X h)
      · refine s_iload (i := 51) rfl 0 rfl ?_
        refine s_aload_n (i := 52) rfl 1 rfl ?_
        refine s_getR (i := 53) rfl xf_9_44.r rfl (fun v4 => ?_)
        refine s_iload_n (i := 54) rfl 2 rfl ?_
        refine s_iaload (i := 55) rfl (fun v5 => ?_)
        refine s_iconst (i := 56) rfl (v := (4 : Int32)) (by decide) ?_
        refine s_isub (i := 57) rfl ?_
        refine s_icmple (i := 58) rfl (tgt := 105) (by decide) (fun z99 => ?_) (fun z99 => ?_)
        · exact s_sub [] rfl (b_X9_coinsBy_102 X h)
        · refine s_bipush (i := 61) rfl (v := (40 : Int32)) (by decide) ?_
          refine s_iload_n (i := 62) rfl 2 rfl ?_
          refine s_imul (i := 63) rfl ?_
          refine s_iload (i := 64) rfl 0 rfl ?_
          refine s_iadd (i := 65) rfl ?_
          refine s_bnd (fun v6 => ?_)
          refine s_istore (i := 66) rfl (Nat.le_of_ble_eq_true rfl) (ls2 := [(8, tI v6), (7, tI v3), (0, tA l0), (1, tI l1), (3, tI l3), (4, tI l4), (5, tI l5), (6, tI l6)]) rfl ?_
          refine s_iload (i := 67) rfl 6 rfl ?_
          refine s_aload_n (i := 68) rfl 2 rfl ?_
          refine s_aload_n (i := 69) rfl 2 rfl ?_
          refine s_getR (i := 70) rfl xf_9_47.r rfl (fun v7 => ?_)
          refine s_iload (i := 71) rfl 0 rfl ?_
          refine s_iaload (i := 72) rfl (fun v8 => ?_)
          refine s_aload_n (i := 73) rfl 2 rfl ?_
          refine s_getR (i := 74) rfl xf_9_47.r rfl (fun v9 => ?_)
          refine s_iload (i := 75) rfl 0 rfl ?_
          refine s_iconst (i := 76) rfl (v := (1 : Int32)) (by decide) ?_
          refine s_iadd (i := 77) rfl ?_
          refine s_iaload (i := 78) rfl (fun v10 => ?_)
          refine s_aload_n (i := 79) rfl 2 rfl ?_
          refine s_getR (i := 80) rfl xf_9_47.r rfl (fun v11 => ?_)
          refine s_iload (i := 81) rfl 0 rfl ?_
          refine s_iconst (i := 82) rfl (v := (2 : Int32)) (by decide) ?_
          refine s_iadd (i := 83) rfl ?_
          refine s_iaload (i := 84) rfl (fun v12 => ?_)
          refine s_aload_n (i := 85) rfl 2 rfl ?_
          refine s_getR (i := 86) rfl xf_9_47.r rfl (fun v13 => ?_)
          refine s_iload (i := 87) rfl 0 rfl ?_
          refine s_iconst (i := 88) rfl (v := (3 : Int32)) (by decide) ?_
          refine s_iadd (i := 89) rfl ?_
          refine s_iaload (i := 90) rfl (fun v14 => ?_)
          refine u_callVi (kk := 9) [tI v8, tI v10, tI v12, tI v14] l0 [tI l5] rfl (i := 91) rfl (c_X9_coin h l0 v8 v10 v12 v14) xm_X9_coin (tw1446) rfl (Nat.le_of_ble_eq_true rfl) (xRm.of rfl) ⟨rfl, rfl⟩ (fun q15 => ?_)
          refine s_iflt (i := 92) rfl (tgt := 161) (by decide) (fun z154 => ?_) (fun z154 => ?_)
          · refine s_iconst (i := 95) rfl (v := (0 : Int32)) (by decide) ?_
            exact s_sub [2, 3, 4, 5, 7] rfl (b_X9_coinsBy_162 X k_64 hk_64 q15.2 l0 l1 l3 l4 l6 ((0 : Int32)) l5)
          · refine s_iconst (i := 93) rfl (v := (1 : Int32)) (by decide) ?_
            refine s_goto (i := 94) rfl (tgt := 162) (by decide) ?_
            exact s_sub [2, 3, 4, 5, 7] rfl (b_X9_coinsBy_162 X k_64 hk_64 q15.2 l0 l1 l3 l4 l6 ((1 : Int32)) l5)
  · refine s_iload (i := 100) rfl 4 rfl ?_
    exact s_iret (i := 101) rfl rfl
theorem b_X9_coinsBy_64 (X : XX) : ∀ (n : Nat) (h : XM) (l0 : Option Nat) (l1 : Int32) (l3 : Int32) (l4 : Int32) (l5 : Int32) (l6 : Int32), SW X I_X9_coinsBy ρi 64 [(0, tA l0), (1, tI l1), (3, tI l3), (4, tI l4), (5, tI l5), (6, tI l6)] [] h 0 0 (f_X9_coinsBy_64 n h l0 l1 l3 l4 l5 l6) := by
  intro n
  induction n with
  | zero =>
    intro h l0 l1 l3 l4 l5 l6
    exact s_none
  | succ n ih =>
    intro h l0 l1 l3 l4 l5 l6
    exact bb_X9_coinsBy_64 X (f_X9_coinsBy_64 n) ih h l0 l1 l3 l4 l5 l6
theorem c_X9_coinsBy (h : XM) (a0 : Option Nat) (a1 : Int32) (a2 : Int32) (a3 : Int32) (a4 : Int32) : MC I_X9_coinsBy y_X9_coinsBy [tA a0, tI a1, tI a2, tI a3, tI a4] h ρi (f_X9_coinsBy h a0 a1 a2 a3 a4) := by
  refine MC_of ⟨by decide +kernel, rfl, rfl, Nat.le_of_ble_eq_true rfl⟩ dT_X9_coinsBy (fun X => ?_)
  show SW X I_X9_coinsBy ρi 0 [(0, tA a0), (1, tI a1), (2, tI a2), (3, tI a3), (4, tI a4)] [] h 0 0 (f_X9_coinsBy h a0 a1 a2 a3 a4)
  unfold f_X9_coinsBy
  refine s_iload_n (i := 0) rfl 1 rfl ?_
  refine s_iconst (i := 1) rfl (v := (0 : Int32)) (by decide) ?_
  refine s_iconst (i := 2) rfl (v := (3 : Int32)) (by decide) ?_
  refine u_callSi [tI a1, tI ((0 : Int32)), tI ((3 : Int32))] [] rfl (i := 3) rfl (c_X9_in h a1 ((0 : Int32)) ((3 : Int32))) xm_X9_in (tw974) rfl (Nat.le_of_ble_eq_true rfl) (xRm.of rfl) ⟨rfl, rfl⟩ (fun q16 => ?_)
  refine s_ifeq (i := 4) rfl (tgt := 29) (by decide) (fun z6 => ?_) (fun z6 => ?_)
  · exact s_sub [] rfl (b_X9_coinsBy_29 X q16.2)
  · refine s_iload_n (i := 5) rfl 2 rfl ?_
    refine s_iconst (i := 6) rfl (v := (0 : Int32)) (by decide) ?_
    refine s_iconst (i := 7) rfl (v := (2 : Int32)) (by decide) ?_
    refine u_callSi [tI a2, tI ((0 : Int32)), tI ((2 : Int32))] [] rfl (i := 8) rfl (c_X9_in q16.2 a2 ((0 : Int32)) ((2 : Int32))) xm_X9_in (tw974) rfl (Nat.le_of_ble_eq_true rfl) (xRm.of rfl) ⟨rfl, rfl⟩ (fun q17 => ?_)
    refine s_ifeq (i := 9) rfl (tgt := 29) (by decide) (fun z15 => ?_) (fun z15 => ?_)
    · exact s_sub [] rfl (b_X9_coinsBy_29 X q17.2)
    · refine s_iload (i := 10) rfl 4 rfl ?_
      refine s_iconst (i := 11) rfl (v := (0 : Int32)) (by decide) ?_
      refine s_bipush (i := 12) rfl (v := (7 : Int32)) (by decide) ?_
      refine u_callSi [tI a4, tI ((0 : Int32)), tI ((7 : Int32))] [] rfl (i := 13) rfl (c_X9_in q17.2 a4 ((0 : Int32)) ((7 : Int32))) xm_X9_in (tw974) rfl (Nat.le_of_ble_eq_true rfl) (xRm.of rfl) ⟨rfl, rfl⟩ (fun q18 => ?_)
      refine s_ifne (i := 14) rfl (tgt := 32) (by decide) (fun z26 => ?_) (fun z26 => ?_)
      · exact s_sub [] rfl (b_X9_coinsBy_29 X q18.2)
      · refine s_aload_n (i := 17) rfl 0 rfl ?_
        refine s_getR (i := 18) rfl xf_9_41.r rfl (fun v19 => ?_)
        refine s_iload_n (i := 19) rfl 1 rfl ?_
        refine s_iaload (i := 20) rfl (fun v20 => ?_)
        refine s_iconst (i := 21) rfl (v := (-1 : Int32)) (by decide) ?_
        refine s_icmpne (i := 22) rfl (tgt := 45) (by decide) (fun z39 => ?_) (fun z39 => ?_)
        · refine s_bipush (i := 23) rfl (v := (-11 : Int32)) (by decide) ?_
          exact s_iret (i := 24) rfl rfl
        · refine s_aload_n (i := 25) rfl 0 rfl ?_
          refine s_getR (i := 26) rfl xf_9_41.r rfl (fun v21 => ?_)
          refine s_iload_n (i := 27) rfl 1 rfl ?_
          refine s_iaload (i := 28) rfl (fun v22 => ?_)
          refine s_iload_n (i := 29) rfl 2 rfl ?_
          refine s_icmpeq (i := 30) rfl (tgt := 58) (by decide) (fun z52 => ?_) (fun z52 => ?_)
          · refine s_iconst (i := 33) rfl (v := (0 : Int32)) (by decide) ?_
            refine s_istore (i := 34) rfl (Nat.le_of_ble_eq_true rfl) (ls2 := [(5, tI ((0 : Int32))), (0, tA a0), (1, tI a1), (2, tI a2), (3, tI a3), (4, tI a4)]) rfl ?_
            refine s_iconst (i := 35) rfl (v := (0 : Int32)) (by decide) ?_
            refine s_istore (i := 36) rfl (Nat.le_of_ble_eq_true rfl) (ls2 := [(6, tI ((0 : Int32))), (5, tI ((0 : Int32))), (0, tA a0), (1, tI a1), (2, tI a2), (3, tI a3), (4, tI a4)]) rfl ?_
            exact s_sub [2, 3, 5, 6, 1, 0] rfl (b_X9_coinsBy_64 X FU q18.2 a0 a1 a3 a4 ((0 : Int32)) ((0 : Int32)))
          · refine s_bipush (i := 31) rfl (v := (-13 : Int32)) (by decide) ?_
            exact s_iret (i := 32) rfl rfl
def y_X9_isUnder : MethodName := ⟨"OpensAtNineModel", "isUnder", "(II)Z"⟩
def T_X9_isUnder : List (Nat × Instr × Nat × Nat) := [(0, .iload_n 1, 1, 1), (1, .ifCond .eq 28, 3, 4), (4, .iload_n 0, 1, 5), (5, .iload_n 1, 1, 6), (6, .if_icmp .eq 23, 3, 9), (9, .iload_n 1, 1, 10), (10, .iconst 1, 1, 11), (11, .if_icmp .ne 8, 3, 14), (14, .iload_n 0, 1, 15), (15, .iconst 4, 1, 16), (16, .if_icmp .eq 13, 3, 19), (19, .iload_n 1, 1, 20), (20, .iconst 2, 1, 21), (21, .if_icmp .ne 12, 3, 24), (24, .iload_n 0, 1, 25), (25, .iconst 3, 1, 26), (26, .if_icmp .ne 7, 3, 29), (29, .iconst 1, 1, 30), (30, .goto 4, 3, 33), (33, .iconst 0, 1, 34), (34, .ireturn, 1, 35)]
def I_X9_isUnder : MI := (prog_11_method_84_code, 2, (some .boolean), "OpensAtNineModel", "isUnder", T_X9_isUnder, 0, 0, 1, 60)
theorem dT_X9_isUnder : ∀ q ∈ T_X9_isUnder, decode prog_11_method_84_code q.1 = .ok (q.2.1, q.2.2.1) ∧ q.2.2.2 = q.1 + q.2.2.1 := by decide +kernel
theorem xm_X9_isUnder : xCS y_X9_isUnder I_X9_isUnder 2 := ⟨tw1452, tw84, tw1453, ⟨by decide +kernel, by decide +kernel, by decide +kernel⟩⟩
noncomputable def f_X9_isUnder_34 (h : XM) (s0 : Int32) : Option (Int32 × XM) := rz h s0
noncomputable def f_X9_isUnder_29 (h : XM) : Option (Int32 × XM) := f_X9_isUnder_34 h ((1 : Int32))
noncomputable def f_X9_isUnder_33 (h : XM) : Option (Int32 × XM) := f_X9_isUnder_34 h ((0 : Int32))
noncomputable def f_X9_isUnder_19 (h : XM) (l0 : Int32) (l1 : Int32) : Option (Int32 × XM) := if l1 = ((2 : Int32)) then (if l0 = ((3 : Int32)) then (f_X9_isUnder_29 h) else (f_X9_isUnder_33 h)) else (f_X9_isUnder_33 h)
noncomputable def f_X9_isUnder (h : XM) (a0 : Int32) (a1 : Int32) : Option (Int32 × XM) := if a1 = 0 then (f_X9_isUnder_29 h) else (if a0 = a1 then (f_X9_isUnder_29 h) else (if a1 = ((1 : Int32)) then (if a0 = ((4 : Int32)) then (f_X9_isUnder_29 h) else (f_X9_isUnder_19 h a0 a1)) else (f_X9_isUnder_19 h a0 a1)))
theorem b_X9_isUnder_34 (X : XX) (h : XM) (s0 : Int32) : SW X I_X9_isUnder ρi 34 [] [tI s0] h 0 0 (f_X9_isUnder_34 h s0) := by
  unfold f_X9_isUnder_34
  exact s_zret (i := 20) rfl rfl
theorem b_X9_isUnder_29 (X : XX) (h : XM) : SW X I_X9_isUnder ρi 29 [] [] h 0 0 (f_X9_isUnder_29 h) := by
  unfold f_X9_isUnder_29
  refine s_iconst (i := 17) rfl (v := (1 : Int32)) (by decide) ?_
  refine s_goto (i := 18) rfl (tgt := 34) (by decide) ?_
  exact s_sub [] rfl (b_X9_isUnder_34 X h ((1 : Int32)))
theorem b_X9_isUnder_33 (X : XX) (h : XM) : SW X I_X9_isUnder ρi 33 [] [] h 0 0 (f_X9_isUnder_33 h) := by
  unfold f_X9_isUnder_33
  refine s_iconst (i := 19) rfl (v := (0 : Int32)) (by decide) ?_
  exact s_sub [] rfl (b_X9_isUnder_34 X h ((0 : Int32)))
theorem b_X9_isUnder_19 (X : XX) (h : XM) (l0 : Int32) (l1 : Int32) : SW X I_X9_isUnder ρi 19 [(0, tI l0), (1, tI l1)] [] h 0 0 (f_X9_isUnder_19 h l0 l1) := by
  unfold f_X9_isUnder_19
  refine s_iload_n (i := 11) rfl 1 rfl ?_
  refine s_iconst (i := 12) rfl (v := (2 : Int32)) (by decide) ?_
  refine s_icmpne (i := 13) rfl (tgt := 33) (by decide) (fun z21 => ?_) (fun z21 => ?_)
  · refine s_iload_n (i := 14) rfl 0 rfl ?_
    refine s_iconst (i := 15) rfl (v := (3 : Int32)) (by decide) ?_
    refine s_icmpne (i := 16) rfl (tgt := 33) (by decide) (fun z26 => ?_) (fun z26 => ?_)
    · exact s_sub [] rfl (b_X9_isUnder_29 X h)
    · exact s_sub [] rfl (b_X9_isUnder_33 X h)
  · exact s_sub [] rfl (b_X9_isUnder_33 X h)
theorem c_X9_isUnder (h : XM) (a0 : Int32) (a1 : Int32) : MC I_X9_isUnder y_X9_isUnder [tI a0, tI a1] h ρi (f_X9_isUnder h a0 a1) := by
  refine MC_of ⟨by decide +kernel, rfl, rfl, Nat.le_of_ble_eq_true rfl⟩ dT_X9_isUnder (fun X => ?_)
  show SW X I_X9_isUnder ρi 0 [(0, tI a0), (1, tI a1)] [] h 0 0 (f_X9_isUnder h a0 a1)
  unfold f_X9_isUnder
  refine s_iload_n (i := 0) rfl 1 rfl ?_
  refine s_ifeq (i := 1) rfl (tgt := 29) (by decide) (fun z1 => ?_) (fun z1 => ?_)
  · exact s_sub [] rfl (b_X9_isUnder_29 X h)
  · refine s_iload_n (i := 2) rfl 0 rfl ?_
    refine s_iload_n (i := 3) rfl 1 rfl ?_
    refine s_icmpeq (i := 4) rfl (tgt := 29) (by decide) (fun z6 => ?_) (fun z6 => ?_)
    · exact s_sub [] rfl (b_X9_isUnder_29 X h)
    · refine s_iload_n (i := 5) rfl 1 rfl ?_
      refine s_iconst (i := 6) rfl (v := (1 : Int32)) (by decide) ?_
      refine s_icmpne (i := 7) rfl (tgt := 19) (by decide) (fun z11 => ?_) (fun z11 => ?_)
      · refine s_iload_n (i := 8) rfl 0 rfl ?_
        refine s_iconst (i := 9) rfl (v := (4 : Int32)) (by decide) ?_
        refine s_icmpeq (i := 10) rfl (tgt := 29) (by decide) (fun z16 => ?_) (fun z16 => ?_)
        · exact s_sub [] rfl (b_X9_isUnder_29 X h)
        · exact s_sub [0, 1] rfl (b_X9_isUnder_19 X h a0 a1)
      · exact s_sub [0, 1] rfl (b_X9_isUnder_19 X h a0 a1)
def y_X9_taken : MethodName := ⟨"OpensAtNineModel", "taken", "(II)I"⟩
def T_X9_taken : List (Nat × Instr × Nat × Nat) := [(0, .iload_n 2, 1, 1), (1, .iconst 0, 1, 2), (2, .bipush 6, 2, 4), (4, .invokestatic 100, 3, 7), (7, .ifCond .ne 6, 3, 10), (10, .bipush (-2), 2, 12), (12, .ireturn, 1, 13), (13, .iload_n 1, 1, 14), (14, .iconst 0, 1, 15), (15, .bipush 10, 2, 17), (17, .invokestatic 100, 3, 20), (20, .ifCond .ne 6, 3, 23), (23, .bipush (-12), 2, 25), (25, .ireturn, 1, 26), (26, .iload_n 1, 1, 27), (27, .iconst 4, 1, 28), (28, .if_icmp .ge 51, 3, 31), (31, .iload_n 1, 1, 32), (32, .aload_n 0, 1, 33), (33, .getfield 97, 3, 36), (36, .if_icmp .ge 15, 3, 39), (39, .aload_n 0, 1, 40), (40, .iload_n 1, 1, 41), (41, .invokevirtual 235, 3, 44), (44, .ifCond .eq 7, 3, 47), (47, .iconst 1, 1, 48), (48, .goto 4, 3, 51), (51, .iconst 0, 1, 52), (52, .istore_n 3, 1, 53), (53, .iload_n 3, 1, 54), (54, .ifCond .ne 8, 3, 57), (57, .bipush (-11), 2, 59), (59, .goto 19, 3, 62), (62, .iload_n 2, 1, 63), (63, .bipush 6, 2, 65), (65, .if_icmp .ne 11, 3, 68), (68, .aload_n 0, 1, 69), (69, .iload_n 1, 1, 70), (70, .invokevirtual 238, 3, 73), (73, .goto 5, 3, 76), (76, .bipush (-13), 2, 78), (78, .ireturn, 1, 79), (79, .iload_n 1, 1, 80), (80, .iconst 4, 1, 81), (81, .isub, 1, 82), (82, .aload_n 0, 1, 83), (83, .getfield 104, 3, 86), (86, .if_icmp .ge 17, 3, 89), (89, .aload_n 0, 1, 90), (90, .iload_n 1, 1, 91), (91, .iconst 4, 1, 92), (92, .isub, 1, 93), (93, .invokevirtual 226, 3, 96), (96, .ifCond .eq 7, 3, 99), (99, .iconst 1, 1, 100), (100, .goto 4, 3, 103), (103, .iconst 0, 1, 104), (104, .istore_n 3, 1, 105), (105, .iload_n 3, 1, 106), (106, .ifCond .ne 8, 3, 109), (109, .bipush (-11), 2, 111), (111, .goto 32, 3, 114), (114, .iload_n 2, 1, 115), (115, .bipush 6, 2, 117), (117, .if_icmp .ge 24, 3, 120), (120, .aload_n 0, 1, 121), (121, .getfield 17, 3, 124), (124, .iload_n 1, 1, 125), (125, .iconst 4, 1, 126), (126, .isub, 1, 127), (127, .iaload, 1, 128), (128, .iload_n 2, 1, 129), (129, .invokestatic 344, 3, 132), (132, .ifCond .eq 9, 3, 135), (135, .iload_n 1, 1, 136), (136, .iconst 4, 1, 137), (137, .isub, 1, 138), (138, .goto 5, 3, 141), (141, .bipush (-13), 2, 143), (143, .ireturn, 1, 144)]
def I_X9_taken : MI := (prog_11_method_85_code, 4, (some .int), "OpensAtNineModel", "taken", T_X9_taken, 0, 0, 3, 104)
theorem dT_X9_taken : ∀ q ∈ T_X9_taken, decode prog_11_method_85_code q.1 = .ok (q.2.1, q.2.2.1) ∧ q.2.2.2 = q.1 + q.2.2.1 := by decide +kernel
theorem xm_X9_taken : xCM y_X9_taken I_X9_taken 9 2 := ⟨⟨tw1448, tw1449⟩, tw84, tw1450, ⟨xT9, 49, rfl⟩, ⟨by decide +kernel, by decide +kernel, by decide +kernel⟩⟩
noncomputable def f_X9_taken_78 (h : XM) (s0 : Int32) : Option (Int32 × XM) := some (s0, h)
noncomputable def f_X9_taken_52 (h : XM) (l0 : Option Nat) (l1 : Int32) (l2 : Int32) (s0 : Int32) : Option (Int32 × XM) := if s0 = 0 then (f_X9_taken_78 h ((-11 : Int32))) else (if l2 = ((6 : Int32)) then ((vc h 9 l0 (f_X9_leftOf h l0 l1)).bind fun q1 => f_X9_taken_78 q1.2 q1.1) else (f_X9_taken_78 h ((-13 : Int32))))
noncomputable def f_X9_taken_51 (h : XM) (l0 : Option Nat) (l1 : Int32) (l2 : Int32) : Option (Int32 × XM) := f_X9_taken_52 h l0 l1 l2 ((0 : Int32))
noncomputable def f_X9_taken_143 (h : XM) (s0 : Int32) : Option (Int32 × XM) := some (s0, h)
noncomputable def f_X9_taken_141 (h : XM) : Option (Int32 × XM) := f_X9_taken_143 h ((-13 : Int32))
noncomputable def f_X9_taken_104 (h : XM) (l0 : Option Nat) (l1 : Int32) (l2 : Int32) (s0 : Int32) : Option (Int32 × XM) := if s0 = 0 then (f_X9_taken_143 h ((-11 : Int32))) else (if l2 < ((6 : Int32)) then ((gR h 9 l0 7).bind fun v2 => (rI h v2 (l1 - ((4 : Int32)))).bind fun v3 => (f_X9_isUnder h v3 l2).bind fun q4 => if q4.1 = 0 then (f_X9_taken_141 q4.2) else (f_X9_taken_143 q4.2 (l1 - ((4 : Int32))))) else (f_X9_taken_141 h))
noncomputable def f_X9_taken_103 (h : XM) (l0 : Option Nat) (l1 : Int32) (l2 : Int32) : Option (Int32 × XM) := f_X9_taken_104 h l0 l1 l2 ((0 : Int32))
noncomputable def f_X9_taken (h : XM) (a0 : Option Nat) (a1 : Int32) (a2 : Int32) : Option (Int32 × XM) := (f_X9_in h a2 ((0 : Int32)) ((6 : Int32))).bind fun q5 => if q5.1 = 0 then (some ((-2 : Int32), q5.2)) else ((f_X9_in q5.2 a1 ((0 : Int32)) ((10 : Int32))).bind fun q6 => if q6.1 = 0 then (some ((-12 : Int32), q6.2)) else (if a1 < ((4 : Int32)) then ((gI q6.2 9 a0 3).bind fun v7 => if a1 < v7 then ((vc q6.2 9 a0 (f_X9_isInside q6.2 a0 a1)).bind fun q8 => if q8.1 = 0 then (f_X9_taken_51 q8.2 a0 a1 a2) else (f_X9_taken_52 q8.2 a0 a1 a2 ((1 : Int32)))) else (f_X9_taken_51 q6.2 a0 a1 a2)) else ((gI q6.2 9 a0 5).bind fun v9 => if (a1 - ((4 : Int32))) < v9 then ((vc q6.2 9 a0 (f_X9_isLeft q6.2 a0 (a1 - ((4 : Int32))))).bind fun q10 => if q10.1 = 0 then (f_X9_taken_103 q10.2 a0 a1 a2) else (f_X9_taken_104 q10.2 a0 a1 a2 ((1 : Int32)))) else (f_X9_taken_103 q6.2 a0 a1 a2))))
theorem b_X9_taken_78 (X : XX) (h : XM) (s0 : Int32) : SW X I_X9_taken ρi 78 [] [tI s0] h 0 0 (f_X9_taken_78 h s0) := by
  unfold f_X9_taken_78
  exact s_iret (i := 41) rfl rfl
theorem b_X9_taken_52 (X : XX) (h : XM) (l0 : Option Nat) (l1 : Int32) (l2 : Int32) (s0 : Int32) : SW X I_X9_taken ρi 52 [(0, tA l0), (1, tI l1), (2, tI l2)] [tI s0] h 0 0 (f_X9_taken_52 h l0 l1 l2 s0) := by
  unfold f_X9_taken_52
  refine s_istore_n (i := 28) rfl (Nat.le_of_ble_eq_true rfl) (ls2 := [(3, tI s0), (0, tA l0), (1, tI l1), (2, tI l2)]) rfl ?_
  refine s_iload_n (i := 29) rfl 0 rfl ?_
  refine s_ifne (i := 30) rfl (tgt := 62) (by decide) (fun z54 => ?_) (fun z54 => ?_)
  · refine s_bipush (i := 31) rfl (v := (-11 : Int32)) (by decide) ?_
    refine s_goto (i := 32) rfl (tgt := 78) (by decide) ?_
    exact s_sub [] rfl (b_X9_taken_78 X h ((-11 : Int32)))
  · refine s_iload_n (i := 33) rfl 3 rfl ?_
    refine s_bipush (i := 34) rfl (v := (6 : Int32)) (by decide) ?_
    refine s_icmpne (i := 35) rfl (tgt := 76) (by decide) (fun z65 => ?_) (fun z65 => ?_)
    · refine s_aload_n (i := 36) rfl 1 rfl ?_
      refine s_iload_n (i := 37) rfl 2 rfl ?_
      refine u_callVi (kk := 9) [tI l1] l0 [] rfl (i := 38) rfl (c_X9_leftOf h l0 l1) xm_X9_leftOf (tw1267) rfl (Nat.le_of_ble_eq_true rfl) (xRm.of rfl) ⟨rfl, rfl⟩ (fun q1 => ?_)
      refine s_goto (i := 39) rfl (tgt := 78) (by decide) ?_
      exact s_sub [] rfl (b_X9_taken_78 X q1.2 q1.1)
    · refine s_bipush (i := 40) rfl (v := (-13 : Int32)) (by decide) ?_
      exact s_sub [] rfl (b_X9_taken_78 X h ((-13 : Int32)))
theorem b_X9_taken_51 (X : XX) (h : XM) (l0 : Option Nat) (l1 : Int32) (l2 : Int32) : SW X I_X9_taken ρi 51 [(0, tA l0), (1, tI l1), (2, tI l2)] [] h 0 0 (f_X9_taken_51 h l0 l1 l2) := by
  unfold f_X9_taken_51
  refine s_iconst (i := 27) rfl (v := (0 : Int32)) (by decide) ?_
  exact s_sub [0, 1, 2] rfl (b_X9_taken_52 X h l0 l1 l2 ((0 : Int32)))
theorem b_X9_taken_143 (X : XX) (h : XM) (s0 : Int32) : SW X I_X9_taken ρi 143 [] [tI s0] h 0 0 (f_X9_taken_143 h s0) := by
  unfold f_X9_taken_143
  exact s_iret (i := 79) rfl rfl
theorem b_X9_taken_141 (X : XX) (h : XM) : SW X I_X9_taken ρi 141 [] [] h 0 0 (f_X9_taken_141 h) := by
  unfold f_X9_taken_141
  refine s_bipush (i := 78) rfl (v := (-13 : Int32)) (by decide) ?_
  exact s_sub [] rfl (b_X9_taken_143 X h ((-13 : Int32)))
theorem b_X9_taken_104 (X : XX) (h : XM) (l0 : Option Nat) (l1 : Int32) (l2 : Int32) (s0 : Int32) : SW X I_X9_taken ρi 104 [(0, tA l0), (1, tI l1), (2, tI l2)] [tI s0] h 0 0 (f_X9_taken_104 h l0 l1 l2 s0) := by
  unfold f_X9_taken_104
  refine s_istore_n (i := 57) rfl (Nat.le_of_ble_eq_true rfl) (ls2 := [(3, tI s0), (0, tA l0), (1, tI l1), (2, tI l2)]) rfl ?_
  refine s_iload_n (i := 58) rfl 0 rfl ?_
  refine s_ifne (i := 59) rfl (tgt := 114) (by decide) (fun z106 => ?_) (fun z106 => ?_)
  · refine s_bipush (i := 60) rfl (v := (-11 : Int32)) (by decide) ?_
    refine s_goto (i := 61) rfl (tgt := 143) (by decide) ?_
    exact s_sub [] rfl (b_X9_taken_143 X h ((-11 : Int32)))
  · refine s_iload_n (i := 62) rfl 3 rfl ?_
    refine s_bipush (i := 63) rfl (v := (6 : Int32)) (by decide) ?_
    refine s_icmpge (i := 64) rfl (tgt := 141) (by decide) (fun z117 => ?_) (fun z117 => ?_)
    · refine s_aload_n (i := 65) rfl 1 rfl ?_
      refine s_getR (i := 66) rfl xf_9_17.r rfl (fun v2 => ?_)
      refine s_iload_n (i := 67) rfl 2 rfl ?_
      refine s_iconst (i := 68) rfl (v := (4 : Int32)) (by decide) ?_
      refine s_isub (i := 69) rfl ?_
      refine s_iaload (i := 70) rfl (fun v3 => ?_)
      refine s_iload_n (i := 71) rfl 3 rfl ?_
      refine u_callSi [tI v3, tI l2] [] rfl (i := 72) rfl (c_X9_isUnder h v3 l2) xm_X9_isUnder (tw1451) rfl (Nat.le_of_ble_eq_true rfl) (xRm.of rfl) ⟨rfl, rfl⟩ (fun q4 => ?_)
      refine s_ifeq (i := 73) rfl (tgt := 141) (by decide) (fun z132 => ?_) (fun z132 => ?_)
      · exact s_sub [] rfl (b_X9_taken_141 X q4.2)
      · refine s_iload_n (i := 74) rfl 2 rfl ?_
        refine s_iconst (i := 75) rfl (v := (4 : Int32)) (by decide) ?_
        refine s_isub (i := 76) rfl ?_
        refine s_goto (i := 77) rfl (tgt := 143) (by decide) ?_
        exact s_sub [] rfl (b_X9_taken_143 X q4.2 (l1 - ((4 : Int32))))
    · exact s_sub [] rfl (b_X9_taken_141 X h)
theorem b_X9_taken_103 (X : XX) (h : XM) (l0 : Option Nat) (l1 : Int32) (l2 : Int32) : SW X I_X9_taken ρi 103 [(0, tA l0), (1, tI l1), (2, tI l2)] [] h 0 0 (f_X9_taken_103 h l0 l1 l2) := by
  unfold f_X9_taken_103
  refine s_iconst (i := 56) rfl (v := (0 : Int32)) (by decide) ?_
  exact s_sub [0, 1, 2] rfl (b_X9_taken_104 X h l0 l1 l2 ((0 : Int32)))
theorem c_X9_taken (h : XM) (a0 : Option Nat) (a1 : Int32) (a2 : Int32) : MC I_X9_taken y_X9_taken [tA a0, tI a1, tI a2] h ρi (f_X9_taken h a0 a1 a2) := by
  refine MC_of ⟨by decide +kernel, rfl, rfl, Nat.le_of_ble_eq_true rfl⟩ dT_X9_taken (fun X => ?_)
  show SW X I_X9_taken ρi 0 [(0, tA a0), (1, tI a1), (2, tI a2)] [] h 0 0 (f_X9_taken h a0 a1 a2)
  unfold f_X9_taken
  refine s_iload_n (i := 0) rfl 2 rfl ?_
  refine s_iconst (i := 1) rfl (v := (0 : Int32)) (by decide) ?_
  refine s_bipush (i := 2) rfl (v := (6 : Int32)) (by decide) ?_
  refine u_callSi [tI a2, tI ((0 : Int32)), tI ((6 : Int32))] [] rfl (i := 3) rfl (c_X9_in h a2 ((0 : Int32)) ((6 : Int32))) xm_X9_in (tw974) rfl (Nat.le_of_ble_eq_true rfl) (xRm.of rfl) ⟨rfl, rfl⟩ (fun q5 => ?_)
  refine s_ifne (i := 4) rfl (tgt := 13) (by decide) (fun z7 => ?_) (fun z7 => ?_)
  · refine s_bipush (i := 5) rfl (v := (-2 : Int32)) (by decide) ?_
    exact s_iret (i := 6) rfl rfl
  · refine s_iload_n (i := 7) rfl 1 rfl ?_
    refine s_iconst (i := 8) rfl (v := (0 : Int32)) (by decide) ?_
    refine s_bipush (i := 9) rfl (v := (10 : Int32)) (by decide) ?_
    refine u_callSi [tI a1, tI ((0 : Int32)), tI ((10 : Int32))] [] rfl (i := 10) rfl (c_X9_in q5.2 a1 ((0 : Int32)) ((10 : Int32))) xm_X9_in (tw974) rfl (Nat.le_of_ble_eq_true rfl) (xRm.of rfl) ⟨rfl, rfl⟩ (fun q6 => ?_)
    refine s_ifne (i := 11) rfl (tgt := 26) (by decide) (fun z20 => ?_) (fun z20 => ?_)
    · refine s_bipush (i := 12) rfl (v := (-12 : Int32)) (by decide) ?_
      exact s_iret (i := 13) rfl rfl
    · refine s_iload_n (i := 14) rfl 1 rfl ?_
      refine s_iconst (i := 15) rfl (v := (4 : Int32)) (by decide) ?_
      refine s_icmpge (i := 16) rfl (tgt := 79) (by decide) (fun z28 => ?_) (fun z28 => ?_)
      · refine s_iload_n (i := 17) rfl 1 rfl ?_
        refine s_aload_n (i := 18) rfl 0 rfl ?_
        refine s_getI (i := 19) rfl xf_9_97.r rfl (fun v7 => ?_)
        refine s_icmpge (i := 20) rfl (tgt := 51) (by decide) (fun z36 => ?_) (fun z36 => ?_)
        · refine s_aload_n (i := 21) rfl 0 rfl ?_
          refine s_iload_n (i := 22) rfl 1 rfl ?_
          refine u_callVi (kk := 9) [tI a1] a0 [] rfl (i := 23) rfl (c_X9_isInside q6.2 a0 a1) xm_X9_isInside (tw1259) rfl (Nat.le_of_ble_eq_true rfl) (xRm.of rfl) ⟨rfl, rfl⟩ (fun q8 => ?_)
          refine s_ifeq (i := 24) rfl (tgt := 51) (by decide) (fun z44 => ?_) (fun z44 => ?_)
          · exact s_sub [0, 1, 2] rfl (b_X9_taken_51 X q8.2 a0 a1 a2)
          · refine s_iconst (i := 25) rfl (v := (1 : Int32)) (by decide) ?_
            refine s_goto (i := 26) rfl (tgt := 52) (by decide) ?_
            exact s_sub [0, 1, 2] rfl (b_X9_taken_52 X q8.2 a0 a1 a2 ((1 : Int32)))
        · exact s_sub [0, 1, 2] rfl (b_X9_taken_51 X q6.2 a0 a1 a2)
      · refine s_iload_n (i := 42) rfl 1 rfl ?_
        refine s_iconst (i := 43) rfl (v := (4 : Int32)) (by decide) ?_
        refine s_isub (i := 44) rfl ?_
        refine s_aload_n (i := 45) rfl 0 rfl ?_
        refine s_getI (i := 46) rfl xf_9_104.r rfl (fun v9 => ?_)
        refine s_icmpge (i := 47) rfl (tgt := 103) (by decide) (fun z86 => ?_) (fun z86 => ?_)
        · refine s_aload_n (i := 48) rfl 0 rfl ?_
          refine s_iload_n (i := 49) rfl 1 rfl ?_
          refine s_iconst (i := 50) rfl (v := (4 : Int32)) (by decide) ?_
          refine s_isub (i := 51) rfl ?_
          refine u_callVi (kk := 9) [tI (a1 - ((4 : Int32)))] a0 [] rfl (i := 52) rfl (c_X9_isLeft q6.2 a0 (a1 - ((4 : Int32)))) xm_X9_isLeft (tw1235) rfl (Nat.le_of_ble_eq_true rfl) (xRm.of rfl) ⟨rfl, rfl⟩ (fun q10 => ?_)
          refine s_ifeq (i := 53) rfl (tgt := 103) (by decide) (fun z96 => ?_) (fun z96 => ?_)
          · exact s_sub [0, 1, 2] rfl (b_X9_taken_103 X q10.2 a0 a1 a2)
          · refine s_iconst (i := 54) rfl (v := (1 : Int32)) (by decide) ?_
            refine s_goto (i := 55) rfl (tgt := 104) (by decide) ?_
            exact s_sub [0, 1, 2] rfl (b_X9_taken_104 X q10.2 a0 a1 a2 ((1 : Int32)))
        · exact s_sub [0, 1, 2] rfl (b_X9_taken_103 X q6.2 a0 a1 a2)
