/-! 15.nine: the methods as functions, and that the bytecode does so (written by wip/whole/gen/gen_parts.py) -/
def y_X8_init : MethodName := ⟨"OpensAtNine", "<init>", "()V"⟩
def T_X8_init : List (Nat × Instr × Nat × Nat) := [(0, .aload_n 0, 1, 1), (1, .invokespecial 1, 3, 4), (4, .bipush 7, 2, 6), (6, .anewarray 9, 3, 9), (9, .astore_n 1, 1, 10), (10, .bipush 6, 2, 12), (12, .anewarray 11, 3, 15), (15, .astore_n 2, 1, 16), (16, .aload_n 0, 1, 17), (17, .aload_n 1, 1, 18), (18, .putfield 13, 3, 21), (21, .aload_n 0, 1, 22), (22, .aload_n 2, 1, 23), (23, .putfield 17, 3, 26), (26, .aload_n 0, 1, 27), (27, .new 21, 3, 30), (30, .dup, 1, 31), (31, .aload_n 1, 1, 32), (32, .aload_n 2, 1, 33), (33, .invokespecial 23, 3, 36), (36, .putfield 26, 3, 39), (39, .aload_n 0, 1, 40), (40, .new 21, 3, 43), (43, .dup, 1, 44), (44, .aload_n 1, 1, 45), (45, .aload_n 2, 1, 46), (46, .invokespecial 23, 3, 49), (49, .putfield 30, 3, 52), (52, .aload_n 0, 1, 53), (53, .new 21, 3, 56), (56, .dup, 1, 57), (57, .aload_n 1, 1, 58), (58, .aload_n 2, 1, 59), (59, .invokespecial 23, 3, 62), (62, .putfield 33, 3, 65), (65, .new 36, 3, 68), (68, .dup, 1, 69), (69, .invokespecial 38, 3, 72), (72, .astore_n 3, 1, 73), (73, .aload_n 0, 1, 74), (74, .new 39, 3, 77), (77, .dup, 1, 78), (78, .new 21, 3, 81), (81, .dup, 1, 82), (82, .aload_n 1, 1, 83), (83, .aload_n 2, 1, 84), (84, .invokespecial 23, 3, 87), (87, .aload_n 3, 1, 88), (88, .invokespecial 41, 3, 91), (91, .putfield 44, 3, 94), (94, .aload_n 0, 1, 95), (95, .new 48, 3, 98), (98, .dup, 1, 99), (99, .new 21, 3, 102), (102, .dup, 1, 103), (103, .aload_n 1, 1, 104), (104, .aload_n 2, 1, 105), (105, .invokespecial 23, 3, 108), (108, .aload_n 3, 1, 109), (109, .invokespecial 50, 3, 112), (112, .putfield 51, 3, 115), (115, .aload_n 0, 1, 116), (116, .new 55, 3, 119), (119, .dup, 1, 120), (120, .invokespecial 57, 3, 123), (123, .putfield 58, 3, 126), (126, .aload_n 0, 1, 127), (127, .iconst 4, 1, 128), (128, .anewarray 62, 3, 131), (131, .putfield 64, 3, 134), (134, .iconst 0, 1, 135), (135, .istore 4, 2, 137), (137, .iload 4, 2, 139), (139, .iconst 4, 1, 140), (140, .if_icmp .ge 23, 3, 143), (143, .aload_n 0, 1, 144), (144, .getfield 64, 3, 147), (147, .iload 4, 2, 149), (149, .new 62, 3, 152), (152, .dup, 1, 153), (153, .invokespecial 68, 3, 156), (156, .aastore, 1, 157), (157, .iinc 4 1, 3, 160), (160, .goto (-23), 3, 163), (163, .aload_n 0, 1, 164), (164, .getfield 58, 3, 167), (167, .ldc 69, 2, 169), (169, .invokevirtual 71, 3, 172), (172, .aload_n 2, 1, 173), (173, .iconst 0, 1, 174), (174, .aload_n 0, 1, 175), (175, .getfield 58, 3, 178), (178, .invokevirtual 75, 3, 181), (181, .aastore, 1, 182), (182, .aload_n 0, 1, 183), (183, .iconst 1, 1, 184), (184, .putfield 79, 3, 187), (187, .return_, 1, 188)]
def I_X8_init : MI := (prog_1_method_1_code, 5, none, "OpensAtNine", "<init>", T_X8_init, 54, 7555, 92, 2053)
theorem dT_X8_init : ∀ q ∈ T_X8_init, decode prog_1_method_1_code q.1 = .ok (q.2.1, q.2.2.1) ∧ q.2.2.2 = q.1 + q.2.2.1 := by decide +kernel
theorem xm_X8_init : xCI y_X8_init I_X8_init 0 := ⟨⟨rfl, rfl⟩, tw90, tw69, tw91, ⟨by decide +kernel, by decide +kernel, by decide +kernel⟩⟩
noncomputable def fb_X8_init_137 (k_137 : XM → Option Nat → Option Nat → Int32 → Option (XM)) (h : XM) (l0 : Option Nat) (l2 : Option Nat) (l4 : Int32) : Option (XM) := if l4 < ((4 : Int32)) then ((gR h 8 l0 8).bind fun v1 => (nO h 4 3).bind fun h2 => (((some (xc h))).bind fun _ => f_X4_init h2 (some (xc h))).bind fun q3 => (sR 14 4 q3 v1 l4 (some (xc h))).bind fun h4 => bnd (l4 + (1 : Int32)) fun v5 => k_137 h4 l0 l2 v5) else ((gR h 8 l0 7).bind fun v6 => (vc h 3 v6 (f_X3_write h v6 0)).bind fun q7 => (gR q7 8 l0 7).bind fun v8 => (vc q7 3 v8 (f_X3_readText q7 v8)).bind fun q9 => (sR 13 5 q9.2 l2 ((0 : Int32)) q9.1).bind fun h10 => (pI h10 8 l0 9 ((1 : Int32))).bind fun h11 => some h11)
noncomputable def f_X8_init_137 (n : Nat) : XM → Option Nat → Option Nat → Int32 → Option (XM) := Nat.rec (motive := fun _ => XM → Option Nat → Option Nat → Int32 → Option (XM)) (fun _ _ _ _ => none) (fun _ ih h l0 l2 l4 => fb_X8_init_137 ih h l0 l2 l4) n
noncomputable def f_X8_init (h : XM) (a0 : Option Nat) : Option (XM) := (a0).bind fun _ => (nA h 12 7 ((7 : Int32))).bind fun h12 => (nA h12 13 6 ((6 : Int32))).bind fun h13 => (pR h13 8 a0 0 (some (xc h))).bind fun h14 => (pR h14 8 a0 1 (some (xc h12))).bind fun h15 => (nO h15 1 12).bind fun h16 => (((some (xc h15))).bind fun _ => f_X1_init h16 (some (xc h15)) (some (xc h)) (some (xc h12))).bind fun q17 => (pR q17 8 a0 2 (some (xc h15))).bind fun h18 => (nO h18 1 12).bind fun h19 => (((some (xc h18))).bind fun _ => f_X1_init h19 (some (xc h18)) (some (xc h)) (some (xc h12))).bind fun q20 => (pR q20 8 a0 3 (some (xc h18))).bind fun h21 => (nO h21 1 12).bind fun h22 => (((some (xc h21))).bind fun _ => f_X1_init h22 (some (xc h21)) (some (xc h)) (some (xc h12))).bind fun q23 => (pR q23 8 a0 4 (some (xc h21))).bind fun h24 => (nO h24 2 1).bind fun h25 => (((some (xc h24))).bind fun _ => f_X2_init h25 (some (xc h24))).bind fun q26 => (nO q26 7 6).bind fun h27 => (nO h27 1 12).bind fun h28 => (((some (xc h27))).bind fun _ => f_X1_init h28 (some (xc h27)) (some (xc h)) (some (xc h12))).bind fun q29 => (((some (xc q26))).bind fun _ => f_X7_init q29 (some (xc q26)) (some (xc h27)) (some (xc h24))).bind fun q30 => (pR q30 8 a0 5 (some (xc q26))).bind fun h31 => (nO h31 6 7).bind fun h32 => (nO h32 1 12).bind fun h33 => (((some (xc h32))).bind fun _ => f_X1_init h33 (some (xc h32)) (some (xc h)) (some (xc h12))).bind fun q34 => (((some (xc h31))).bind fun _ => f_X6_init q34 (some (xc h31)) (some (xc h32)) (some (xc h24))).bind fun q35 => (pR q35 8 a0 6 (some (xc h31))).bind fun h36 => (nO h36 3 11).bind fun h37 => (((some (xc h36))).bind fun _ => f_X3_init h37 (some (xc h36))).bind fun q38 => (pR q38 8 a0 7 (some (xc h36))).bind fun h39 => (nA h39 14 4 ((4 : Int32))).bind fun h40 => (pR h40 8 a0 8 (some (xc h39))).bind fun h41 => f_X8_init_137 5 h41 a0 (some (xc h12)) ((0 : Int32))
theorem bb_X8_init_137 (X : XX) (k_137 : XM → Option Nat → Option Nat → Int32 → Option (XM)) (bc bs : Nat) (hb : 4 ≤ bc ∧ 603 ≤ bs) (hk_137 : ∀ h l0 l2 l4, SW X I_X8_init ρv 137 [(0, tA l0), (2, tA l2), (4, tI l4)] [] h bc bs (k_137 h l0 l2 l4)) (h : XM) (l0 : Option Nat) (l2 : Option Nat) (l4 : Int32) : SW X I_X8_init ρv 137 [(0, tA l0), (2, tA l2), (4, tI l4)] [] h (2 + bc) (43 + bs) (fb_X8_init_137 k_137 h l0 l2 l4) := by
  unfold fb_X8_init_137
  refine s_iload (i := 72) rfl 2 rfl ?_
  refine s_bud (2 + bc) (43 + bs) (by omega) (by omega) ?_
  refine s_iconst (i := 73) rfl (v := (4 : Int32)) (by decide) ?_
  refine s_bud (2 + bc) (43 + bs) (by omega) (by omega) ?_
  refine s_icmpge (i := 74) rfl (tgt := 163) (by decide) (fun z140 => ?_) (fun z140 => ?_)
  · refine s_bud (2 + bc) (43 + bs) (by omega) (by omega) ?_
    refine s_aload_n (i := 75) rfl 0 rfl ?_
    refine s_bud (2 + bc) (43 + bs) (by omega) (by omega) ?_
    refine s_getR (i := 76) rfl xf_8_64.r rfl (fun v1 => ?_)
    refine s_bud (2 + bc) (43 + bs) (by omega) (by omega) ?_
    refine s_iload (i := 77) rfl 2 rfl ?_
    refine s_bud (2 + bc) (43 + bs) (by omega) (by omega) ?_
    refine s_bud (1 + (1 + bc)) (3 + (40 + bs)) (by omega) (by omega) ?_
    refine s_new (i := 78) rfl xkc4 (by decide +kernel) ⟨tw267, tw269, tw75⟩ (fun h2 => ?_)
    refine s_bud (1 + bc) (40 + bs) (by omega) (by omega) ?_
    refine s_dup (i := 79) rfl rfl ?_
    refine s_bud (1 + bc) (40 + bs) (by omega) (by omega) ?_
    refine s_bud (1 + (0 + bc)) (40 + (0 + bs)) (by omega) (by omega) ?_
    refine t_callNv [] (some (xc h)) [tA (some (xc h)), tI l4, tA v1] rfl (i := 80) rfl (c_X4_init h2 (some (xc h))) xm_X4_init (fun G s hG => hG.2.2.2.2.2.2.2.2.2.2.1) rfl (Nat.le_of_ble_eq_true rfl) (xRm.of rfl) (fun q3 => ?_)
    refine s_bud (0 + bc) (0 + bs) (by omega) (by omega) ?_
    refine s_aastore (i := 81) rfl (kk := 14) (kv := 4) (t9 := 4) (by decide) (fun h4 => ?_)
    refine s_bud (0 + bc) (0 + bs) (by omega) (by omega) ?_
    refine s_inc (i := 82) rfl 2 rfl (c9 := (1 : Int32)) (by decide) (Nat.le_of_ble_eq_true rfl) (fun v5 => ?_)
    refine s_ls (ls2 := [(4, tI v5), (0, tA l0), (2, tA l2)]) rfl ?_
    refine s_bud (0 + bc) (0 + bs) (by omega) (by omega) ?_
    refine s_goto (i := 83) rfl (tgt := 137) (by decide) ?_
    refine s_bud bc bs (by omega) (by omega) ?_
    exact s_sub [1, 2, 0] rfl (hk_137 h4 l0 l2 v5)
  · refine s_bud 4 603 (by omega) (by omega) ?_
    refine s_aload_n (i := 84) rfl 0 rfl ?_
    refine s_bud 4 603 (by omega) (by omega) ?_
    refine s_getR (i := 85) rfl xf_8_58.r rfl (fun v6 => ?_)
    refine s_bud 4 603 (by omega) (by omega) ?_
    refine s_ldcS (i := 86) rfl (j := 0) (by decide) rfl ?_
    refine s_bud 4 603 (by omega) (by omega) ?_
    refine u_callVv (kk := 3) [tK 0] v6 [] rfl (i := 87) rfl (c_X3_write h v6 0) xm_X3_write (tw288) rfl (Nat.le_of_ble_eq_true rfl) (xRm.of rfl) ⟨rfl, rfl⟩ (fun q7 => ?_)
    refine s_bud 4 603 (by omega) (by omega) ?_
    refine s_aload_n (i := 88) rfl 1 rfl ?_
    refine s_bud 4 603 (by omega) (by omega) ?_
    refine s_iconst (i := 89) rfl (v := (0 : Int32)) (by decide) ?_
    refine s_bud 4 603 (by omega) (by omega) ?_
    refine s_aload_n (i := 90) rfl 0 rfl ?_
    refine s_bud 4 603 (by omega) (by omega) ?_
    refine s_getR (i := 91) rfl xf_8_58.r rfl (fun v8 => ?_)
    refine s_bud 4 603 (by omega) (by omega) ?_
    refine s_bud (4 + 0) (603 + 0) (by omega) (by omega) ?_
    refine t_callVa (kk := 3) [] v8 [tI ((0 : Int32)), tA l2] rfl (i := 92) rfl (c_X3_readText q7 v8) xm_X3_readText (tw344) rfl (Nat.le_of_ble_eq_true rfl) (xRm.of rfl) (fun q9 => ?_)
    refine s_bud 0 0 (by omega) (by omega) ?_
    refine s_aastore (i := 93) rfl (kk := 13) (kv := 5) (t9 := 3) (by decide) (fun h10 => ?_)
    refine s_bud 0 0 (by omega) (by omega) ?_
    refine s_aload_n (i := 94) rfl 0 rfl ?_
    refine s_bud 0 0 (by omega) (by omega) ?_
    refine s_iconst (i := 95) rfl (v := (1 : Int32)) (by decide) ?_
    refine s_bud 0 0 (by omega) (by omega) ?_
    refine s_putI (i := 96) rfl xf_8_79 (fun q => by cases q) rfl rfl (fun h11 => ?_)
    refine s_bud 0 0 (by omega) (by omega) ?_
    exact s_vret (i := 97) rfl rfl
theorem b_X8_init_137 (X : XX) : ∀ (n : Nat) (h : XM) (l0 : Option Nat) (l2 : Option Nat) (l4 : Int32), SW X I_X8_init ρv 137 [(0, tA l0), (2, tA l2), (4, tI l4)] [] h (n * 2 + 4) (n * 43 + 603) (f_X8_init_137 n h l0 l2 l4) := by
  intro n
  induction n with
  | zero =>
    intro h l0 l2 l4
    exact s_none
  | succ n ih =>
    intro h l0 l2 l4
    refine s_bud (2 + (n * 2 + 4)) (43 + (n * 43 + 603)) (by rw [Nat.succ_mul]; omega) (by rw [Nat.succ_mul]; omega) ?_
    exact bb_X8_init_137 X (f_X8_init_137 n) (n * 2 + 4) (n * 43 + 603) ⟨by omega, by omega⟩ ih h l0 l2 l4
theorem c_X8_init (h : XM) (a0 : Option Nat) : MC I_X8_init y_X8_init [tA a0] h ρv (f_X8_init h a0) := by
  refine MC_of ⟨by decide +kernel, rfl, rfl, Nat.le_of_ble_eq_true rfl⟩ dT_X8_init (fun X => ?_)
  show SW X I_X8_init ρv 0 [(0, tA a0)] [] h 54 7555 (f_X8_init h a0)
  unfold f_X8_init
  refine s_aload_n (i := 0) rfl 0 rfl ?_
  refine s_bud 54 7555 (by omega) (by omega) ?_
  refine s_objInit (i := 1) rfl ⟨tw92, tw93, tw94⟩ ⟨by decide, by decide⟩ rfl ?_
  refine s_bud 54 7555 (by omega) (by omega) ?_
  refine s_bipush (i := 2) rfl (v := (7 : Int32)) (by decide) ?_
  refine s_bud 54 7555 (by omega) (by omega) ?_
  refine s_bud (1 + 53) (7 + 7548) (by omega) (by omega) ?_
  refine s_anew (i := 3) rfl (lim := 7) (Or.inl ⟨rfl, rfl, rfl⟩) (by decide) (tw95) (fun h12 => ?_)
  refine s_bud 53 7548 (by omega) (by omega) ?_
  refine s_astore_n (i := 4) rfl (Nat.le_of_ble_eq_true rfl) (ls2 := [(1, tA (some (xc h))), (0, tA a0)]) rfl ?_
  refine s_bud 53 7548 (by omega) (by omega) ?_
  refine s_bipush (i := 5) rfl (v := (6 : Int32)) (by decide) ?_
  refine s_bud 53 7548 (by omega) (by omega) ?_
  refine s_bud (1 + 52) (6 + 7542) (by omega) (by omega) ?_
  refine s_anew (i := 6) rfl (lim := 6) (Or.inr (Or.inl ⟨rfl, rfl, rfl⟩)) (by decide) (tw97) (fun h13 => ?_)
  refine s_bud 52 7542 (by omega) (by omega) ?_
  refine s_astore_n (i := 7) rfl (Nat.le_of_ble_eq_true rfl) (ls2 := [(2, tA (some (xc h12))), (1, tA (some (xc h))), (0, tA a0)]) rfl ?_
  refine s_bud 52 7542 (by omega) (by omega) ?_
  refine s_aload_n (i := 8) rfl 2 rfl ?_
  refine s_bud 52 7542 (by omega) (by omega) ?_
  refine s_aload_n (i := 9) rfl 1 rfl ?_
  refine s_bud 52 7542 (by omega) (by omega) ?_
  refine s_putR (i := 10) rfl xf_8_13 (fun _ => rfl) rfl (Or.inr ⟨_, rfl⟩) (fun h14 => ?_)
  refine s_bud 52 7542 (by omega) (by omega) ?_
  refine s_aload_n (i := 11) rfl 2 rfl ?_
  refine s_bud 52 7542 (by omega) (by omega) ?_
  refine s_aload_n (i := 12) rfl 0 rfl ?_
  refine s_bud 52 7542 (by omega) (by omega) ?_
  refine s_putR (i := 13) rfl xf_8_17 (fun _ => rfl) rfl (Or.inr ⟨_, rfl⟩) (fun h15 => ?_)
  refine s_bud 52 7542 (by omega) (by omega) ?_
  refine s_aload_n (i := 14) rfl 2 rfl ?_
  refine s_bud 52 7542 (by omega) (by omega) ?_
  refine s_bud (1 + 51) (12 + 7530) (by omega) (by omega) ?_
  refine s_new (i := 15) rfl xkc1 (by decide +kernel) ⟨tw99, tw100, tw70⟩ (fun h16 => ?_)
  refine s_bud 51 7530 (by omega) (by omega) ?_
  refine s_dup (i := 16) rfl rfl ?_
  refine s_bud 51 7530 (by omega) (by omega) ?_
  refine s_aload_n (i := 17) rfl 1 rfl ?_
  refine s_bud 51 7530 (by omega) (by omega) ?_
  refine s_aload_n (i := 18) rfl 0 rfl ?_
  refine s_bud 51 7530 (by omega) (by omega) ?_
  refine s_bud (2 + 49) (10 + 7520) (by omega) (by omega) ?_
  refine t_callIv [tA (some (xc h)), tA (some (xc h12))] (some (xc h15)) [tA (some (xc h15)), tA a0] rfl (i := 19) rfl (c_X1_init h16 (some (xc h15)) (some (xc h)) (some (xc h12))) xm_X1_init (tw101) rfl (Nat.le_of_ble_eq_true rfl) (xRm.of rfl) (fun q17 => ?_)
  refine s_bud 49 7520 (by omega) (by omega) ?_
  refine s_putR (i := 20) rfl xf_8_26 (fun _ => rfl) rfl (Or.inl ⟨_, rfl⟩) (fun h18 => ?_)
  refine s_bud 49 7520 (by omega) (by omega) ?_
  refine s_aload_n (i := 21) rfl 2 rfl ?_
  refine s_bud 49 7520 (by omega) (by omega) ?_
  refine s_bud (1 + 48) (12 + 7508) (by omega) (by omega) ?_
  refine s_new (i := 22) rfl xkc1 (by decide +kernel) ⟨tw99, tw100, tw70⟩ (fun h19 => ?_)
  refine s_bud 48 7508 (by omega) (by omega) ?_
  refine s_dup (i := 23) rfl rfl ?_
  refine s_bud 48 7508 (by omega) (by omega) ?_
  refine s_aload_n (i := 24) rfl 1 rfl ?_
  refine s_bud 48 7508 (by omega) (by omega) ?_
  refine s_aload_n (i := 25) rfl 0 rfl ?_
  refine s_bud 48 7508 (by omega) (by omega) ?_
  refine s_bud (2 + 46) (10 + 7498) (by omega) (by omega) ?_
  refine t_callIv [tA (some (xc h)), tA (some (xc h12))] (some (xc h18)) [tA (some (xc h18)), tA a0] rfl (i := 26) rfl (c_X1_init h19 (some (xc h18)) (some (xc h)) (some (xc h12))) xm_X1_init (tw101) rfl (Nat.le_of_ble_eq_true rfl) (xRm.of rfl) (fun q20 => ?_)
  refine s_bud 46 7498 (by omega) (by omega) ?_
  refine s_putR (i := 27) rfl xf_8_30 (fun _ => rfl) rfl (Or.inl ⟨_, rfl⟩) (fun h21 => ?_)
  refine s_bud 46 7498 (by omega) (by omega) ?_
  refine s_aload_n (i := 28) rfl 2 rfl ?_
  refine s_bud 46 7498 (by omega) (by omega) ?_
  refine s_bud (1 + 45) (12 + 7486) (by omega) (by omega) ?_
  refine s_new (i := 29) rfl xkc1 (by decide +kernel) ⟨tw99, tw100, tw70⟩ (fun h22 => ?_)
  refine s_bud 45 7486 (by omega) (by omega) ?_
  refine s_dup (i := 30) rfl rfl ?_
  refine s_bud 45 7486 (by omega) (by omega) ?_
  refine s_aload_n (i := 31) rfl 1 rfl ?_
  refine s_bud 45 7486 (by omega) (by omega) ?_
  refine s_aload_n (i := 32) rfl 0 rfl ?_
  refine s_bud 45 7486 (by omega) (by omega) ?_
  refine s_bud (2 + 43) (10 + 7476) (by omega) (by omega) ?_
  refine t_callIv [tA (some (xc h)), tA (some (xc h12))] (some (xc h21)) [tA (some (xc h21)), tA a0] rfl (i := 33) rfl (c_X1_init h22 (some (xc h21)) (some (xc h)) (some (xc h12))) xm_X1_init (tw101) rfl (Nat.le_of_ble_eq_true rfl) (xRm.of rfl) (fun q23 => ?_)
  refine s_bud 43 7476 (by omega) (by omega) ?_
  refine s_putR (i := 34) rfl xf_8_33 (fun _ => rfl) rfl (Or.inl ⟨_, rfl⟩) (fun h24 => ?_)
  refine s_bud 43 7476 (by omega) (by omega) ?_
  refine s_bud (1 + 42) (1 + 7475) (by omega) (by omega) ?_
  refine s_new (i := 35) rfl xkc2 (by decide +kernel) ⟨tw159, tw160, tw71⟩ (fun h25 => ?_)
  refine s_bud 42 7475 (by omega) (by omega) ?_
  refine s_dup (i := 36) rfl rfl ?_
  refine s_bud 42 7475 (by omega) (by omega) ?_
  refine s_bud (1 + 41) (1024 + 6451) (by omega) (by omega) ?_
  refine t_callNv [] (some (xc h24)) [tA (some (xc h24))] rfl (i := 37) rfl (c_X2_init h25 (some (xc h24))) xm_X2_init (fun G s hG => hG.2.2.2.2.2.2.2.2.1) rfl (Nat.le_of_ble_eq_true rfl) (xRm.of rfl) (fun q26 => ?_)
  refine s_bud 41 6451 (by omega) (by omega) ?_
  refine s_astore_n (i := 38) rfl (Nat.le_of_ble_eq_true rfl) (ls2 := [(3, tA (some (xc h24))), (2, tA (some (xc h12))), (1, tA (some (xc h))), (0, tA a0)]) rfl ?_
  refine s_bud 41 6451 (by omega) (by omega) ?_
  refine s_aload_n (i := 39) rfl 3 rfl ?_
  refine s_bud 41 6451 (by omega) (by omega) ?_
  refine s_bud (1 + 40) (6 + 6445) (by omega) (by omega) ?_
  refine s_new (i := 40) rfl xkc7 (by decide +kernel) ⟨tw169, tw170, tw72⟩ (fun h27 => ?_)
  refine s_bud 40 6445 (by omega) (by omega) ?_
  refine s_dup (i := 41) rfl rfl ?_
  refine s_bud 40 6445 (by omega) (by omega) ?_
  refine s_bud (1 + 39) (12 + 6433) (by omega) (by omega) ?_
  refine s_new (i := 42) rfl xkc1 (by decide +kernel) ⟨tw99, tw100, tw70⟩ (fun h28 => ?_)
  refine s_bud 39 6433 (by omega) (by omega) ?_
  refine s_dup (i := 43) rfl rfl ?_
  refine s_bud 39 6433 (by omega) (by omega) ?_
  refine s_aload_n (i := 44) rfl 2 rfl ?_
  refine s_bud 39 6433 (by omega) (by omega) ?_
  refine s_aload_n (i := 45) rfl 1 rfl ?_
  refine s_bud 39 6433 (by omega) (by omega) ?_
  refine s_bud (2 + 37) (10 + 6423) (by omega) (by omega) ?_
  refine t_callIv [tA (some (xc h)), tA (some (xc h12))] (some (xc h27)) [tA (some (xc h27)), tA (some (xc q26)), tA (some (xc q26)), tA a0] rfl (i := 46) rfl (c_X1_init h28 (some (xc h27)) (some (xc h)) (some (xc h12))) xm_X1_init (tw101) rfl (Nat.le_of_ble_eq_true rfl) (xRm.of rfl) (fun q29 => ?_)
  refine s_bud 37 6423 (by omega) (by omega) ?_
  refine s_aload_n (i := 47) rfl 0 rfl ?_
  refine s_bud 37 6423 (by omega) (by omega) ?_
  refine u_callIv [tA (some (xc h27)), tA (some (xc h24))] (some (xc q26)) [tA (some (xc q26)), tA a0] rfl (i := 48) rfl (c_X7_init q29 (some (xc q26)) (some (xc h27)) (some (xc h24))) xm_X7_init (tw171) rfl (Nat.le_of_ble_eq_true rfl) (xRm.of rfl) ⟨rfl, rfl⟩ (fun q30 => ?_)
  refine s_bud 37 6423 (by omega) (by omega) ?_
  refine s_putR (i := 49) rfl xf_8_44 (fun _ => rfl) rfl (Or.inl ⟨_, rfl⟩) (fun h31 => ?_)
  refine s_bud 37 6423 (by omega) (by omega) ?_
  refine s_aload_n (i := 50) rfl 3 rfl ?_
  refine s_bud 37 6423 (by omega) (by omega) ?_
  refine s_bud (1 + 36) (7 + 6416) (by omega) (by omega) ?_
  refine s_new (i := 51) rfl xkc6 (by decide +kernel) ⟨tw195, tw196, tw73⟩ (fun h32 => ?_)
  refine s_bud 36 6416 (by omega) (by omega) ?_
  refine s_dup (i := 52) rfl rfl ?_
  refine s_bud 36 6416 (by omega) (by omega) ?_
  refine s_bud (1 + 35) (12 + 6404) (by omega) (by omega) ?_
  refine s_new (i := 53) rfl xkc1 (by decide +kernel) ⟨tw99, tw100, tw70⟩ (fun h33 => ?_)
  refine s_bud 35 6404 (by omega) (by omega) ?_
  refine s_dup (i := 54) rfl rfl ?_
  refine s_bud 35 6404 (by omega) (by omega) ?_
  refine s_aload_n (i := 55) rfl 2 rfl ?_
  refine s_bud 35 6404 (by omega) (by omega) ?_
  refine s_aload_n (i := 56) rfl 1 rfl ?_
  refine s_bud 35 6404 (by omega) (by omega) ?_
  refine s_bud (2 + 33) (10 + 6394) (by omega) (by omega) ?_
  refine t_callIv [tA (some (xc h)), tA (some (xc h12))] (some (xc h32)) [tA (some (xc h32)), tA (some (xc h31)), tA (some (xc h31)), tA a0] rfl (i := 57) rfl (c_X1_init h33 (some (xc h32)) (some (xc h)) (some (xc h12))) xm_X1_init (tw101) rfl (Nat.le_of_ble_eq_true rfl) (xRm.of rfl) (fun q34 => ?_)
  refine s_bud 33 6394 (by omega) (by omega) ?_
  refine s_aload_n (i := 58) rfl 0 rfl ?_
  refine s_bud 33 6394 (by omega) (by omega) ?_
  refine s_bud (14 + 19) (5237 + 1157) (by omega) (by omega) ?_
  refine t_callIv [tA (some (xc h32)), tA (some (xc h24))] (some (xc h31)) [tA (some (xc h31)), tA a0] rfl (i := 59) rfl (c_X6_init q34 (some (xc h31)) (some (xc h32)) (some (xc h24))) xm_X6_init (tw197) rfl (Nat.le_of_ble_eq_true rfl) (xRm.of rfl) (fun q35 => ?_)
  refine s_bud 19 1157 (by omega) (by omega) ?_
  refine s_putR (i := 60) rfl xf_8_51 (fun _ => rfl) rfl (Or.inl ⟨_, rfl⟩) (fun h36 => ?_)
  refine s_bud 19 1157 (by omega) (by omega) ?_
  refine s_aload_n (i := 61) rfl 3 rfl ?_
  refine s_bud 19 1157 (by omega) (by omega) ?_
  refine s_bud (1 + 18) (11 + 1146) (by omega) (by omega) ?_
  refine s_new (i := 62) rfl xkc3 (by decide +kernel) ⟨tw225, tw226, tw74⟩ (fun h37 => ?_)
  refine s_bud 18 1146 (by omega) (by omega) ?_
  refine s_dup (i := 63) rfl rfl ?_
  refine s_bud 18 1146 (by omega) (by omega) ?_
  refine s_bud (3 + 15) (324 + 822) (by omega) (by omega) ?_
  refine t_callNv [] (some (xc h36)) [tA (some (xc h36)), tA a0] rfl (i := 64) rfl (c_X3_init h37 (some (xc h36))) xm_X3_init (fun G s hG => hG.2.2.2.2.2.2.2.2.2.1) rfl (Nat.le_of_ble_eq_true rfl) (xRm.of rfl) (fun q38 => ?_)
  refine s_bud 15 822 (by omega) (by omega) ?_
  refine s_putR (i := 65) rfl xf_8_58 (fun _ => rfl) rfl (Or.inl ⟨_, rfl⟩) (fun h39 => ?_)
  refine s_bud 15 822 (by omega) (by omega) ?_
  refine s_aload_n (i := 66) rfl 3 rfl ?_
  refine s_bud 15 822 (by omega) (by omega) ?_
  refine s_iconst (i := 67) rfl (v := (4 : Int32)) (by decide) ?_
  refine s_bud 15 822 (by omega) (by omega) ?_
  refine s_bud (1 + 14) (4 + 818) (by omega) (by omega) ?_
  refine s_anew (i := 68) rfl (lim := 4) (Or.inr (Or.inr ⟨rfl, rfl, rfl⟩)) (by decide) (tw267) (fun h40 => ?_)
  refine s_bud 14 818 (by omega) (by omega) ?_
  refine s_putR (i := 69) rfl xf_8_64 (fun _ => rfl) rfl (Or.inr ⟨_, rfl⟩) (fun h41 => ?_)
  refine s_bud 14 818 (by omega) (by omega) ?_
  refine s_iconst (i := 70) rfl (v := (0 : Int32)) (by decide) ?_
  refine s_bud 14 818 (by omega) (by omega) ?_
  refine s_istore (i := 71) rfl (Nat.le_of_ble_eq_true rfl) (ls2 := [(4, tI ((0 : Int32))), (3, tA (some (xc h24))), (2, tA (some (xc h12))), (1, tA (some (xc h))), (0, tA a0)]) rfl ?_
  refine s_bud (5 * 2 + 4) (5 * 43 + 603) (by omega) (by omega) ?_
  exact s_sub [4, 2, 0] rfl (b_X8_init_137 X 5 h41 a0 (some (xc h12)) ((0 : Int32)))
def y_X8_count : MethodName := ⟨"OpensAtNine", "count", "(I)I"⟩
def T_X8_count : List (Nat × Instr × Nat × Nat) := [(0, .iload_n 1, 1, 1), (1, .tableswitch 120 0 8 #[51, 59, 67, 75, 83, 91, 99, 104, 112], 51, 52), (52, .aload_n 0, 1, 53), (53, .getfield 26, 3, 56), (56, .getfield 87, 3, 59), (59, .ireturn, 1, 60), (60, .aload_n 0, 1, 61), (61, .getfield 26, 3, 64), (64, .getfield 90, 3, 67), (67, .ireturn, 1, 68), (68, .aload_n 0, 1, 69), (69, .getfield 26, 3, 72), (72, .getfield 93, 3, 75), (75, .ireturn, 1, 76), (76, .aload_n 0, 1, 77), (77, .getfield 26, 3, 80), (80, .getfield 96, 3, 83), (83, .ireturn, 1, 84), (84, .aload_n 0, 1, 85), (85, .getfield 26, 3, 88), (88, .getfield 106, 3, 91), (91, .ireturn, 1, 92), (92, .aload_n 0, 1, 93), (93, .getfield 26, 3, 96), (96, .getfield 109, 3, 99), (99, .ireturn, 1, 100), (100, .aload_n 0, 1, 101), (101, .getfield 79, 3, 104), (104, .ireturn, 1, 105), (105, .aload_n 0, 1, 106), (106, .getfield 26, 3, 109), (109, .getfield 112, 3, 112), (112, .ireturn, 1, 113), (113, .aload_n 0, 1, 114), (114, .getfield 58, 3, 117), (117, .getfield 115, 3, 120), (120, .ireturn, 1, 121), (121, .bipush (-2), 2, 123), (123, .ireturn, 1, 124)]
def I_X8_count : MI := (prog_1_method_5_code, 2, (some .int), "OpensAtNine", "count", T_X8_count, 0, 0, 1, 60)
theorem dT_X8_count : ∀ q ∈ T_X8_count, decode prog_1_method_5_code q.1 = .ok (q.2.1, q.2.2.1) ∧ q.2.2.2 = q.1 + q.2.2.1 := by decide +kernel
theorem xm_X8_count : xCM y_X8_count I_X8_count 8 1 := ⟨⟨tw505, tw506⟩, tw69, tw507, ⟨xT8, 11, rfl⟩, ⟨by decide +kernel, by decide +kernel, by decide +kernel⟩⟩
noncomputable def f_X8_count (h : XM) (a0 : Option Nat) (a1 : Int32) : Option (Int32 × XM) := if a1 = (0 : Int32) then ((gR h 8 a0 2).bind fun v1 => (gI h 1 v1 4).bind fun v2 => some (v2, h)) else (if a1 = (1 : Int32) then ((gR h 8 a0 2).bind fun v3 => (gI h 1 v3 5).bind fun v4 => some (v4, h)) else (if a1 = (2 : Int32) then ((gR h 8 a0 2).bind fun v5 => (gI h 1 v5 6).bind fun v6 => some (v6, h)) else (if a1 = (3 : Int32) then ((gR h 8 a0 2).bind fun v7 => (gI h 1 v7 7).bind fun v8 => some (v8, h)) else (if a1 = (4 : Int32) then ((gR h 8 a0 2).bind fun v9 => (gI h 1 v9 8).bind fun v10 => some (v10, h)) else (if a1 = (5 : Int32) then ((gR h 8 a0 2).bind fun v11 => (gI h 1 v11 9).bind fun v12 => some (v12, h)) else (if a1 = (6 : Int32) then ((gI h 8 a0 9).bind fun v13 => some (v13, h)) else (if a1 = (7 : Int32) then ((gR h 8 a0 2).bind fun v14 => (gI h 1 v14 11).bind fun v15 => some (v15, h)) else (if a1 = (8 : Int32) then ((gR h 8 a0 7).bind fun v16 => (gI h 3 v16 3).bind fun v17 => some (v17, h)) else (some ((-2 : Int32), h))))))))))
theorem c_X8_count (h : XM) (a0 : Option Nat) (a1 : Int32) : MC I_X8_count y_X8_count [tA a0, tI a1] h ρi (f_X8_count h a0 a1) := by
  refine MC_of ⟨by decide +kernel, rfl, rfl, Nat.le_of_ble_eq_true rfl⟩ dT_X8_count (fun X => ?_)
  show SW X I_X8_count ρi 0 [(0, tA a0), (1, tI a1)] [] h 0 0 (f_X8_count h a0 a1)
  unfold f_X8_count
  refine s_iload_n (i := 0) rfl 1 rfl ?_
  refine s_if (P := a1 = (0 : Int32)) (fun z1_0 => ?_) (fun z1_0 => ?_)
  · refine s_table 52 (i := 1) rfl rfl (by rw [z1_0]; rfl) ?_
    refine s_aload_n (i := 2) rfl 0 rfl ?_
    refine s_getR (i := 3) rfl xf_8_26.r rfl (fun v1 => ?_)
    refine s_getI (i := 4) rfl xf_8_87.r rfl (fun v2 => ?_)
    exact s_iret (i := 5) rfl rfl
  refine s_if (P := a1 = (1 : Int32)) (fun z1_1 => ?_) (fun z1_1 => ?_)
  · refine s_table 60 (i := 1) rfl rfl (by rw [z1_1]; rfl) ?_
    refine s_aload_n (i := 6) rfl 0 rfl ?_
    refine s_getR (i := 7) rfl xf_8_26.r rfl (fun v3 => ?_)
    refine s_getI (i := 8) rfl xf_8_90.r rfl (fun v4 => ?_)
    exact s_iret (i := 9) rfl rfl
  refine s_if (P := a1 = (2 : Int32)) (fun z1_2 => ?_) (fun z1_2 => ?_)
  · refine s_table 68 (i := 1) rfl rfl (by rw [z1_2]; rfl) ?_
    refine s_aload_n (i := 10) rfl 0 rfl ?_
    refine s_getR (i := 11) rfl xf_8_26.r rfl (fun v5 => ?_)
    refine s_getI (i := 12) rfl xf_8_93.r rfl (fun v6 => ?_)
    exact s_iret (i := 13) rfl rfl
  refine s_if (P := a1 = (3 : Int32)) (fun z1_3 => ?_) (fun z1_3 => ?_)
  · refine s_table 76 (i := 1) rfl rfl (by rw [z1_3]; rfl) ?_
    refine s_aload_n (i := 14) rfl 0 rfl ?_
    refine s_getR (i := 15) rfl xf_8_26.r rfl (fun v7 => ?_)
    refine s_getI (i := 16) rfl xf_8_96.r rfl (fun v8 => ?_)
    exact s_iret (i := 17) rfl rfl
  refine s_if (P := a1 = (4 : Int32)) (fun z1_4 => ?_) (fun z1_4 => ?_)
  · refine s_table 84 (i := 1) rfl rfl (by rw [z1_4]; rfl) ?_
    refine s_aload_n (i := 18) rfl 0 rfl ?_
    refine s_getR (i := 19) rfl xf_8_26.r rfl (fun v9 => ?_)
    refine s_getI (i := 20) rfl xf_8_106.r rfl (fun v10 => ?_)
    exact s_iret (i := 21) rfl rfl
  refine s_if (P := a1 = (5 : Int32)) (fun z1_5 => ?_) (fun z1_5 => ?_)
  · refine s_table 92 (i := 1) rfl rfl (by rw [z1_5]; rfl) ?_
    refine s_aload_n (i := 22) rfl 0 rfl ?_
    refine s_getR (i := 23) rfl xf_8_26.r rfl (fun v11 => ?_)
    refine s_getI (i := 24) rfl xf_8_109.r rfl (fun v12 => ?_)
    exact s_iret (i := 25) rfl rfl
  refine s_if (P := a1 = (6 : Int32)) (fun z1_6 => ?_) (fun z1_6 => ?_)
  · refine s_table 100 (i := 1) rfl rfl (by rw [z1_6]; rfl) ?_
    refine s_aload_n (i := 26) rfl 0 rfl ?_
    refine s_getI (i := 27) rfl xf_8_79.r rfl (fun v13 => ?_)
    exact s_iret (i := 28) rfl rfl
  refine s_if (P := a1 = (7 : Int32)) (fun z1_7 => ?_) (fun z1_7 => ?_)
  · refine s_table 105 (i := 1) rfl rfl (by rw [z1_7]; rfl) ?_
    refine s_aload_n (i := 29) rfl 0 rfl ?_
    refine s_getR (i := 30) rfl xf_8_26.r rfl (fun v14 => ?_)
    refine s_getI (i := 31) rfl xf_8_112.r rfl (fun v15 => ?_)
    exact s_iret (i := 32) rfl rfl
  refine s_if (P := a1 = (8 : Int32)) (fun z1_8 => ?_) (fun z1_8 => ?_)
  · refine s_table 113 (i := 1) rfl rfl (by rw [z1_8]; rfl) ?_
    refine s_aload_n (i := 33) rfl 0 rfl ?_
    refine s_getR (i := 34) rfl xf_8_58.r rfl (fun v16 => ?_)
    refine s_getI (i := 35) rfl xf_8_115.r rfl (fun v17 => ?_)
    exact s_iret (i := 36) rfl rfl
  refine s_table 121 (i := 1) rfl rfl (by
    rw [swT_out (fun k h1 h2 => by
      rcases (show k = 0 ∨ k = 1 ∨ k = 2 ∨ k = 3 ∨ k = 4 ∨ k = 5 ∨ k = 6 ∨ k = 7 ∨ k = 8 by omega) with e | e | e | e | e | e | e | e | e <;> subst e
      · exact Or.inr z1_0
      · exact Or.inr z1_1
      · exact Or.inr z1_2
      · exact Or.inr z1_3
      · exact Or.inr z1_4
      · exact Or.inr z1_5
      · exact Or.inr z1_6
      · exact Or.inr z1_7
      · exact Or.inr z1_8)]
    rfl) ?_
  refine s_bipush (i := 37) rfl (v := (-2 : Int32)) (by decide) ?_
  exact s_iret (i := 38) rfl rfl
def y_X8_set : MethodName := ⟨"OpensAtNine", "set", "(II)I"⟩
def T_X8_set : List (Nat × Instr × Nat × Nat) := [(0, .iload_n 1, 1, 1), (1, .ifCond .lt 8, 3, 4), (4, .iload_n 1, 1, 5), (5, .iconst 2, 1, 6), (6, .if_icmp .le 5, 3, 9), (9, .iconst (-1), 1, 10), (10, .ireturn, 1, 11), (11, .aload_n 0, 1, 12), (12, .iload_n 1, 1, 13), (13, .invokevirtual 83, 3, 16), (16, .istore_n 3, 1, 17), (17, .iload_n 1, 1, 18), (18, .ifCond .ne 28, 3, 21), (21, .iload_n 2, 1, 22), (22, .iconst 2, 1, 23), (23, .if_icmp .lt 9, 3, 26), (26, .iload_n 2, 1, 27), (27, .bipush 20, 2, 29), (29, .if_icmp .le 6, 3, 32), (32, .bipush (-2), 2, 34), (34, .ireturn, 1, 35), (35, .aload_n 0, 1, 36), (36, .getfield 26, 3, 39), (39, .iload_n 2, 1, 40), (40, .putfield 87, 3, 43), (43, .goto 54, 3, 46), (46, .iload_n 1, 1, 47), (47, .iconst 1, 1, 48), (48, .if_icmp .ne 28, 3, 51), (51, .iload_n 2, 1, 52), (52, .ifCond .lt 10, 3, 55), (55, .iload_n 2, 1, 56), (56, .sipush 9999, 3, 59), (59, .if_icmp .le 6, 3, 62), (62, .bipush (-2), 2, 64), (64, .ireturn, 1, 65), (65, .aload_n 0, 1, 66), (66, .getfield 26, 3, 69), (69, .iload_n 2, 1, 70), (70, .putfield 90, 3, 73), (73, .goto 24, 3, 76), (76, .iload_n 2, 1, 77), (77, .ifCond .lt 9, 3, 80), (80, .iload_n 2, 1, 81), (81, .bipush 99, 2, 83), (83, .if_icmp .le 6, 3, 86), (86, .bipush (-2), 2, 88), (88, .ireturn, 1, 89), (89, .aload_n 0, 1, 90), (90, .getfield 26, 3, 93), (93, .iload_n 2, 1, 94), (94, .putfield 93, 3, 97), (97, .iload_n 3, 1, 98), (98, .ireturn, 1, 99)]
def I_X8_set : MI := (prog_1_method_2_code, 4, (some .int), "OpensAtNine", "set", T_X8_set, 0, 0, 2, 81)
theorem dT_X8_set : ∀ q ∈ T_X8_set, decode prog_1_method_2_code q.1 = .ok (q.2.1, q.2.2.1) ∧ q.2.2.2 = q.1 + q.2.2.1 := by decide +kernel
theorem xm_X8_set : xCM y_X8_set I_X8_set 8 2 := ⟨⟨tw501, tw502⟩, tw69, tw503, ⟨xT8, 11, rfl⟩, ⟨by decide +kernel, by decide +kernel, by decide +kernel⟩⟩
noncomputable def f_X8_set_9 (h : XM) : Option (Int32 × XM) := some ((-1 : Int32), h)
noncomputable def f_X8_set_32 (h : XM) : Option (Int32 × XM) := some ((-2 : Int32), h)
noncomputable def f_X8_set_97 (h : XM) (l3 : Int32) : Option (Int32 × XM) := some (l3, h)
noncomputable def f_X8_set_62 (h : XM) : Option (Int32 × XM) := some ((-2 : Int32), h)
noncomputable def f_X8_set_86 (h : XM) : Option (Int32 × XM) := some ((-2 : Int32), h)
noncomputable def f_X8_set (h : XM) (a0 : Option Nat) (a1 : Int32) (a2 : Int32) : Option (Int32 × XM) := if a1 < 0 then (f_X8_set_9 h) else (if ((2 : Int32)) < a1 then (f_X8_set_9 h) else ((vc h 8 a0 (f_X8_count h a0 a1)).bind fun q1 => if a1 = 0 then (if a2 < ((2 : Int32)) then (f_X8_set_32 q1.2) else (if ((20 : Int32)) < a2 then (f_X8_set_32 q1.2) else ((gR q1.2 8 a0 2).bind fun v2 => (pI q1.2 1 v2 4 a2).bind fun h3 => f_X8_set_97 h3 q1.1))) else (if a1 = ((1 : Int32)) then (if a2 < 0 then (f_X8_set_62 q1.2) else (if ((9999 : Int32)) < a2 then (f_X8_set_62 q1.2) else ((gR q1.2 8 a0 2).bind fun v4 => (pI q1.2 1 v4 5 a2).bind fun h5 => f_X8_set_97 h5 q1.1))) else (if a2 < 0 then (f_X8_set_86 q1.2) else (if ((99 : Int32)) < a2 then (f_X8_set_86 q1.2) else ((gR q1.2 8 a0 2).bind fun v6 => (pI q1.2 1 v6 6 a2).bind fun h7 => f_X8_set_97 h7 q1.1))))))
theorem b_X8_set_9 (X : XX) (h : XM) : SW X I_X8_set ρi 9 [] [] h 0 0 (f_X8_set_9 h) := by
  unfold f_X8_set_9
  refine s_iconst (i := 5) rfl (v := (-1 : Int32)) (by decide) ?_
  exact s_iret (i := 6) rfl rfl
theorem b_X8_set_32 (X : XX) (h : XM) : SW X I_X8_set ρi 32 [] [] h 0 0 (f_X8_set_32 h) := by
  unfold f_X8_set_32
  refine s_bipush (i := 19) rfl (v := (-2 : Int32)) (by decide) ?_
  exact s_iret (i := 20) rfl rfl
theorem b_X8_set_97 (X : XX) (h : XM) (l3 : Int32) : SW X I_X8_set ρi 97 [(3, tI l3)] [] h 0 0 (f_X8_set_97 h l3) := by
  unfold f_X8_set_97
  refine s_iload_n (i := 52) rfl 0 rfl ?_
  exact s_iret (i := 53) rfl rfl
theorem b_X8_set_62 (X : XX) (h : XM) : SW X I_X8_set ρi 62 [] [] h 0 0 (f_X8_set_62 h) := by
  unfold f_X8_set_62
  refine s_bipush (i := 34) rfl (v := (-2 : Int32)) (by decide) ?_
  exact s_iret (i := 35) rfl rfl
theorem b_X8_set_86 (X : XX) (h : XM) : SW X I_X8_set ρi 86 [] [] h 0 0 (f_X8_set_86 h) := by
  unfold f_X8_set_86
  refine s_bipush (i := 46) rfl (v := (-2 : Int32)) (by decide) ?_
  exact s_iret (i := 47) rfl rfl
theorem c_X8_set (h : XM) (a0 : Option Nat) (a1 : Int32) (a2 : Int32) : MC I_X8_set y_X8_set [tA a0, tI a1, tI a2] h ρi (f_X8_set h a0 a1 a2) := by
  refine MC_of ⟨by decide +kernel, rfl, rfl, Nat.le_of_ble_eq_true rfl⟩ dT_X8_set (fun X => ?_)
  show SW X I_X8_set ρi 0 [(0, tA a0), (1, tI a1), (2, tI a2)] [] h 0 0 (f_X8_set h a0 a1 a2)
  unfold f_X8_set
  refine s_iload_n (i := 0) rfl 1 rfl ?_
  refine s_iflt (i := 1) rfl (tgt := 9) (by decide) (fun z1 => ?_) (fun z1 => ?_)
  · exact s_sub [] rfl (b_X8_set_9 X h)
  · refine s_iload_n (i := 2) rfl 1 rfl ?_
    refine s_iconst (i := 3) rfl (v := (2 : Int32)) (by decide) ?_
    refine s_icmple (i := 4) rfl (tgt := 11) (by decide) (fun z6 => ?_) (fun z6 => ?_)
    · exact s_sub [] rfl (b_X8_set_9 X h)
    · refine s_aload_n (i := 7) rfl 0 rfl ?_
      refine s_iload_n (i := 8) rfl 1 rfl ?_
      refine u_callVi (kk := 8) [tI a1] a0 [] rfl (i := 9) rfl (c_X8_count h a0 a1) xm_X8_count (tw504) rfl (Nat.le_of_ble_eq_true rfl) (xRm.of rfl) ⟨rfl, rfl⟩ (fun q1 => ?_)
      refine s_istore_n (i := 10) rfl (Nat.le_of_ble_eq_true rfl) (ls2 := [(3, tI q1.1), (0, tA a0), (1, tI a1), (2, tI a2)]) rfl ?_
      refine s_iload_n (i := 11) rfl 2 rfl ?_
      refine s_ifne (i := 12) rfl (tgt := 46) (by decide) (fun z18 => ?_) (fun z18 => ?_)
      · refine s_iload_n (i := 13) rfl 3 rfl ?_
        refine s_iconst (i := 14) rfl (v := (2 : Int32)) (by decide) ?_
        refine s_icmplt (i := 15) rfl (tgt := 32) (by decide) (fun z23 => ?_) (fun z23 => ?_)
        · exact s_sub [] rfl (b_X8_set_32 X q1.2)
        · refine s_iload_n (i := 16) rfl 3 rfl ?_
          refine s_bipush (i := 17) rfl (v := (20 : Int32)) (by decide) ?_
          refine s_icmple (i := 18) rfl (tgt := 35) (by decide) (fun z29 => ?_) (fun z29 => ?_)
          · exact s_sub [] rfl (b_X8_set_32 X q1.2)
          · refine s_aload_n (i := 21) rfl 1 rfl ?_
            refine s_getR (i := 22) rfl xf_8_26.r rfl (fun v2 => ?_)
            refine s_iload_n (i := 23) rfl 3 rfl ?_
            refine s_putI (i := 24) rfl xf_8_87 (fun q => by cases q) rfl rfl (fun h3 => ?_)
            refine s_goto (i := 25) rfl (tgt := 97) (by decide) ?_
            exact s_sub [0] rfl (b_X8_set_97 X h3 q1.1)
      · refine s_iload_n (i := 26) rfl 2 rfl ?_
        refine s_iconst (i := 27) rfl (v := (1 : Int32)) (by decide) ?_
        refine s_icmpne (i := 28) rfl (tgt := 76) (by decide) (fun z48 => ?_) (fun z48 => ?_)
        · refine s_iload_n (i := 29) rfl 3 rfl ?_
          refine s_iflt (i := 30) rfl (tgt := 62) (by decide) (fun z52 => ?_) (fun z52 => ?_)
          · exact s_sub [] rfl (b_X8_set_62 X q1.2)
          · refine s_iload_n (i := 31) rfl 3 rfl ?_
            refine s_sipush (i := 32) rfl (v := (9999 : Int32)) (by decide) ?_
            refine s_icmple (i := 33) rfl (tgt := 65) (by decide) (fun z59 => ?_) (fun z59 => ?_)
            · exact s_sub [] rfl (b_X8_set_62 X q1.2)
            · refine s_aload_n (i := 36) rfl 1 rfl ?_
              refine s_getR (i := 37) rfl xf_8_26.r rfl (fun v4 => ?_)
              refine s_iload_n (i := 38) rfl 3 rfl ?_
              refine s_putI (i := 39) rfl xf_8_90 (fun q => by cases q) rfl rfl (fun h5 => ?_)
              refine s_goto (i := 40) rfl (tgt := 97) (by decide) ?_
              exact s_sub [0] rfl (b_X8_set_97 X h5 q1.1)
        · refine s_iload_n (i := 41) rfl 3 rfl ?_
          refine s_iflt (i := 42) rfl (tgt := 86) (by decide) (fun z77 => ?_) (fun z77 => ?_)
          · exact s_sub [] rfl (b_X8_set_86 X q1.2)
          · refine s_iload_n (i := 43) rfl 3 rfl ?_
            refine s_bipush (i := 44) rfl (v := (99 : Int32)) (by decide) ?_
            refine s_icmple (i := 45) rfl (tgt := 89) (by decide) (fun z83 => ?_) (fun z83 => ?_)
            · exact s_sub [] rfl (b_X8_set_86 X q1.2)
            · refine s_aload_n (i := 48) rfl 1 rfl ?_
              refine s_getR (i := 49) rfl xf_8_26.r rfl (fun v6 => ?_)
              refine s_iload_n (i := 50) rfl 3 rfl ?_
              refine s_putI (i := 51) rfl xf_8_93 (fun q => by cases q) rfl rfl (fun h7 => ?_)
              exact s_sub [0] rfl (b_X8_set_97 X h7 q1.1)
def y_X8_come : MethodName := ⟨"OpensAtNine", "come", "()I"⟩
def T_X8_come : List (Nat × Instr × Nat × Nat) := [(0, .aload_n 0, 1, 1), (1, .getfield 26, 3, 4), (4, .getfield 96, 3, 7), (7, .iconst 4, 1, 8), (8, .if_icmp .lt 6, 3, 11), (11, .bipush (-4), 2, 13), (13, .ireturn, 1, 14), (14, .aload_n 0, 1, 15), (15, .getfield 26, 3, 18), (18, .dup, 1, 19), (19, .getfield 96, 3, 22), (22, .iconst 1, 1, 23), (23, .iadd, 1, 24), (24, .putfield 96, 3, 27), (27, .aload_n 0, 1, 28), (28, .getfield 26, 3, 31), (31, .getfield 96, 3, 34), (34, .iconst 1, 1, 35), (35, .isub, 1, 36), (36, .ireturn, 1, 37)]
def I_X8_come : MI := (prog_1_method_3_code, 1, (some .int), "OpensAtNine", "come", T_X8_come, 0, 0, 1, 60)
theorem dT_X8_come : ∀ q ∈ T_X8_come, decode prog_1_method_3_code q.1 = .ok (q.2.1, q.2.2.1) ∧ q.2.2.2 = q.1 + q.2.2.1 := by decide +kernel
theorem xm_X8_come : xCM y_X8_come I_X8_come 8 0 := ⟨⟨tw509, tw510⟩, tw69, tw511, ⟨xT8, 11, rfl⟩, ⟨by decide +kernel, by decide +kernel, by decide +kernel⟩⟩
noncomputable def f_X8_come (h : XM) (a0 : Option Nat) : Option (Int32 × XM) := (gR h 8 a0 2).bind fun v1 => (gI h 1 v1 7).bind fun v2 => if v2 < ((4 : Int32)) then ((gR h 8 a0 2).bind fun v3 => (gI h 1 v3 7).bind fun v4 => (pI h 1 v3 7 (v4 + ((1 : Int32)))).bind fun h5 => (gR h5 8 a0 2).bind fun v6 => (gI h5 1 v6 7).bind fun v7 => some (v7 - ((1 : Int32)), h5)) else (some ((-4 : Int32), h))
theorem c_X8_come (h : XM) (a0 : Option Nat) : MC I_X8_come y_X8_come [tA a0] h ρi (f_X8_come h a0) := by
  refine MC_of ⟨by decide +kernel, rfl, rfl, Nat.le_of_ble_eq_true rfl⟩ dT_X8_come (fun X => ?_)
  show SW X I_X8_come ρi 0 [(0, tA a0)] [] h 0 0 (f_X8_come h a0)
  unfold f_X8_come
  refine s_aload_n (i := 0) rfl 0 rfl ?_
  refine s_getR (i := 1) rfl xf_8_26.r rfl (fun v1 => ?_)
  refine s_getI (i := 2) rfl xf_8_96.r rfl (fun v2 => ?_)
  refine s_iconst (i := 3) rfl (v := (4 : Int32)) (by decide) ?_
  refine s_icmplt (i := 4) rfl (tgt := 14) (by decide) (fun z8 => ?_) (fun z8 => ?_)
  · refine s_aload_n (i := 7) rfl 0 rfl ?_
    refine s_getR (i := 8) rfl xf_8_26.r rfl (fun v3 => ?_)
    refine s_dup (i := 9) rfl rfl ?_
    refine s_getI (i := 10) rfl xf_8_96.r rfl (fun v4 => ?_)
    refine s_iconst (i := 11) rfl (v := (1 : Int32)) (by decide) ?_
    refine s_iadd (i := 12) rfl ?_
    refine s_putI (i := 13) rfl xf_8_96 (fun q => by cases q) rfl rfl (fun h5 => ?_)
    refine s_aload_n (i := 14) rfl 0 rfl ?_
    refine s_getR (i := 15) rfl xf_8_26.r rfl (fun v6 => ?_)
    refine s_getI (i := 16) rfl xf_8_96.r rfl (fun v7 => ?_)
    refine s_iconst (i := 17) rfl (v := (1 : Int32)) (by decide) ?_
    refine s_isub (i := 18) rfl ?_
    exact s_iret (i := 19) rfl rfl
  · refine s_bipush (i := 5) rfl (v := (-4 : Int32)) (by decide) ?_
    exact s_iret (i := 6) rfl rfl
def y_X8_stand : MethodName := ⟨"OpensAtNine", "stand", "(II)I"⟩
def T_X8_stand : List (Nat × Instr × Nat × Nat) := [(0, .aload_n 0, 1, 1), (1, .getfield 26, 3, 4), (4, .iload_n 1, 1, 5), (5, .invokevirtual 99, 3, 8), (8, .ifCond .ne 6, 3, 11), (11, .bipush (-5), 2, 13), (13, .ireturn, 1, 14), (14, .iload_n 2, 1, 15), (15, .ifCond .lt 8, 3, 18), (18, .iload_n 2, 1, 19), (19, .iconst 1, 1, 20), (20, .if_icmp .le 6, 3, 23), (23, .bipush (-7), 2, 25), (25, .ireturn, 1, 26), (26, .aload_n 0, 1, 27), (27, .getfield 26, 3, 30), (30, .iload_n 1, 1, 31), (31, .invokevirtual 103, 3, 34), (34, .ifCond .eq 7, 3, 37), (37, .iconst 1, 1, 38), (38, .goto 4, 3, 41), (41, .iconst 0, 1, 42), (42, .istore_n 3, 1, 43), (43, .aload_n 0, 1, 44), (44, .getfield 26, 3, 47), (47, .aload_n 0, 1, 48), (48, .getfield 26, 3, 51), (51, .getfield 106, 3, 54), (54, .iconst 1, 1, 55), (55, .iload_n 1, 1, 56), (56, .ishl, 1, 57), (57, .iconst (-1), 1, 58), (58, .ixor, 1, 59), (59, .iand, 1, 60), (60, .iload_n 2, 1, 61), (61, .iload_n 1, 1, 62), (62, .ishl, 1, 63), (63, .ior, 1, 64), (64, .putfield 106, 3, 67), (67, .iload_n 3, 1, 68), (68, .ireturn, 1, 69)]
def I_X8_stand : MI := (prog_1_method_4_code, 4, (some .int), "OpensAtNine", "stand", T_X8_stand, 0, 0, 2, 81)
theorem dT_X8_stand : ∀ q ∈ T_X8_stand, decode prog_1_method_4_code q.1 = .ok (q.2.1, q.2.2.1) ∧ q.2.2.2 = q.1 + q.2.2.1 := by decide +kernel
theorem xm_X8_stand : xCM y_X8_stand I_X8_stand 8 2 := ⟨⟨tw513, tw514⟩, tw69, tw515, ⟨xT8, 11, rfl⟩, ⟨by decide +kernel, by decide +kernel, by decide +kernel⟩⟩
noncomputable def f_X8_stand_23 (h : XM) : Option (Int32 × XM) := some ((-7 : Int32), h)
noncomputable def f_X8_stand_42 (h : XM) (l0 : Option Nat) (l1 : Int32) (l2 : Int32) (s0 : Int32) : Option (Int32 × XM) := (gR h 8 l0 2).bind fun v1 => (gR h 8 l0 2).bind fun v2 => (gI h 1 v2 8).bind fun v3 => (pI h 1 v1 8 ((v3 &&& ((((1 : Int32)) <<< (l1 &&& 31)) ^^^ ((-1 : Int32)))) ||| (l2 <<< (l1 &&& 31)))).bind fun h4 => some (s0, h4)
noncomputable def f_X8_stand (h : XM) (a0 : Option Nat) (a1 : Int32) (a2 : Int32) : Option (Int32 × XM) := (gR h 8 a0 2).bind fun v5 => (vc h 1 v5 (f_X1_isOne h v5 a1)).bind fun q6 => if q6.1 = 0 then (some ((-5 : Int32), q6.2)) else (if a2 < 0 then (f_X8_stand_23 q6.2) else (if ((1 : Int32)) < a2 then (f_X8_stand_23 q6.2) else ((gR q6.2 8 a0 2).bind fun v7 => (vc q6.2 1 v7 (f_X1_isInside q6.2 v7 a1)).bind fun q8 => if q8.1 = 0 then (f_X8_stand_42 q8.2 a0 a1 a2 ((0 : Int32))) else (f_X8_stand_42 q8.2 a0 a1 a2 ((1 : Int32))))))
theorem b_X8_stand_23 (X : XX) (h : XM) : SW X I_X8_stand ρi 23 [] [] h 0 0 (f_X8_stand_23 h) := by
  unfold f_X8_stand_23
  refine s_bipush (i := 12) rfl (v := (-7 : Int32)) (by decide) ?_
  exact s_iret (i := 13) rfl rfl
theorem b_X8_stand_42 (X : XX) (h : XM) (l0 : Option Nat) (l1 : Int32) (l2 : Int32) (s0 : Int32) : SW X I_X8_stand ρi 42 [(0, tA l0), (1, tI l1), (2, tI l2)] [tI s0] h 0 0 (f_X8_stand_42 h l0 l1 l2 s0) := by
  unfold f_X8_stand_42
  refine s_istore_n (i := 22) rfl (Nat.le_of_ble_eq_true rfl) (ls2 := [(3, tI s0), (0, tA l0), (1, tI l1), (2, tI l2)]) rfl ?_
  refine s_aload_n (i := 23) rfl 1 rfl ?_
  refine s_getR (i := 24) rfl xf_8_26.r rfl (fun v1 => ?_)
  refine s_aload_n (i := 25) rfl 1 rfl ?_
  refine s_getR (i := 26) rfl xf_8_26.r rfl (fun v2 => ?_)
  refine s_getI (i := 27) rfl xf_8_106.r rfl (fun v3 => ?_)
  refine s_iconst (i := 28) rfl (v := (1 : Int32)) (by decide) ?_
  refine s_iload_n (i := 29) rfl 2 rfl ?_
  refine s_ishl (i := 30) rfl ?_
  refine s_iconst (i := 31) rfl (v := (-1 : Int32)) (by decide) ?_
  refine s_ixor (i := 32) rfl ?_
  refine s_iand (i := 33) rfl ?_
  refine s_iload_n (i := 34) rfl 3 rfl ?_
  refine s_iload_n (i := 35) rfl 2 rfl ?_
  refine s_ishl (i := 36) rfl ?_
  refine s_ior (i := 37) rfl ?_
  refine s_putI (i := 38) rfl xf_8_106 (fun q => by cases q) rfl rfl (fun h4 => ?_)
  refine s_iload_n (i := 39) rfl 0 rfl ?_
  exact s_iret (i := 40) rfl rfl
theorem c_X8_stand (h : XM) (a0 : Option Nat) (a1 : Int32) (a2 : Int32) : MC I_X8_stand y_X8_stand [tA a0, tI a1, tI a2] h ρi (f_X8_stand h a0 a1 a2) := by
  refine MC_of ⟨by decide +kernel, rfl, rfl, Nat.le_of_ble_eq_true rfl⟩ dT_X8_stand (fun X => ?_)
  show SW X I_X8_stand ρi 0 [(0, tA a0), (1, tI a1), (2, tI a2)] [] h 0 0 (f_X8_stand h a0 a1 a2)
  unfold f_X8_stand
  refine s_aload_n (i := 0) rfl 0 rfl ?_
  refine s_getR (i := 1) rfl xf_8_26.r rfl (fun v5 => ?_)
  refine s_iload_n (i := 2) rfl 1 rfl ?_
  refine u_callVi (kk := 1) [tI a1] v5 [] rfl (i := 3) rfl (c_X1_isOne h v5 a1) xm_X1_isOne (tw516) rfl (Nat.le_of_ble_eq_true rfl) (xRm.of rfl) ⟨rfl, rfl⟩ (fun q6 => ?_)
  refine s_ifne (i := 4) rfl (tgt := 14) (by decide) (fun z8 => ?_) (fun z8 => ?_)
  · refine s_bipush (i := 5) rfl (v := (-5 : Int32)) (by decide) ?_
    exact s_iret (i := 6) rfl rfl
  · refine s_iload_n (i := 7) rfl 2 rfl ?_
    refine s_iflt (i := 8) rfl (tgt := 23) (by decide) (fun z15 => ?_) (fun z15 => ?_)
    · exact s_sub [] rfl (b_X8_stand_23 X q6.2)
    · refine s_iload_n (i := 9) rfl 2 rfl ?_
      refine s_iconst (i := 10) rfl (v := (1 : Int32)) (by decide) ?_
      refine s_icmple (i := 11) rfl (tgt := 26) (by decide) (fun z20 => ?_) (fun z20 => ?_)
      · exact s_sub [] rfl (b_X8_stand_23 X q6.2)
      · refine s_aload_n (i := 14) rfl 0 rfl ?_
        refine s_getR (i := 15) rfl xf_8_26.r rfl (fun v7 => ?_)
        refine s_iload_n (i := 16) rfl 1 rfl ?_
        refine u_callVi (kk := 1) [tI a1] v7 [] rfl (i := 17) rfl (c_X1_isInside q6.2 v7 a1) xm_X1_isInside (tw520) rfl (Nat.le_of_ble_eq_true rfl) (xRm.of rfl) ⟨rfl, rfl⟩ (fun q8 => ?_)
        refine s_ifeq (i := 18) rfl (tgt := 41) (by decide) (fun z34 => ?_) (fun z34 => ?_)
        · refine s_iconst (i := 21) rfl (v := (0 : Int32)) (by decide) ?_
          exact s_sub [0, 1, 2] rfl (b_X8_stand_42 X q8.2 a0 a1 a2 ((0 : Int32)))
        · refine s_iconst (i := 19) rfl (v := (1 : Int32)) (by decide) ?_
          refine s_goto (i := 20) rfl (tgt := 42) (by decide) ?_
          exact s_sub [0, 1, 2] rfl (b_X8_stand_42 X q8.2 a0 a1 a2 ((1 : Int32)))
def y_X8_isByte : MethodName := ⟨"OpensAtNine", "isByte", "(I)Z"⟩
def T_X8_isByte : List (Nat × Instr × Nat × Nat) := [(0, .iload_n 0, 1, 1), (1, .ifCond .lt 14, 3, 4), (4, .iload_n 0, 1, 5), (5, .sipush 255, 3, 8), (8, .if_icmp .gt 7, 3, 11), (11, .iconst 1, 1, 12), (12, .goto 4, 3, 15), (15, .iconst 0, 1, 16), (16, .ireturn, 1, 17)]
def I_X8_isByte : MI := (prog_1_method_7_code, 1, (some .boolean), "OpensAtNine", "isByte", T_X8_isByte, 0, 0, 1, 60)
theorem dT_X8_isByte : ∀ q ∈ T_X8_isByte, decode prog_1_method_7_code q.1 = .ok (q.2.1, q.2.2.1) ∧ q.2.2.2 = q.1 + q.2.2.1 := by decide +kernel
theorem xm_X8_isByte : xCS y_X8_isByte I_X8_isByte 1 := ⟨tw530, tw69, tw531, ⟨by decide +kernel, by decide +kernel, by decide +kernel⟩⟩
noncomputable def f_X8_isByte_16 (h : XM) (s0 : Int32) : Option (Int32 × XM) := rz h s0
noncomputable def f_X8_isByte_15 (h : XM) : Option (Int32 × XM) := f_X8_isByte_16 h ((0 : Int32))
noncomputable def f_X8_isByte (h : XM) (a0 : Int32) : Option (Int32 × XM) := if a0 < 0 then (f_X8_isByte_15 h) else (if ((255 : Int32)) < a0 then (f_X8_isByte_15 h) else (f_X8_isByte_16 h ((1 : Int32))))
theorem b_X8_isByte_16 (X : XX) (h : XM) (s0 : Int32) : SW X I_X8_isByte ρi 16 [] [tI s0] h 0 0 (f_X8_isByte_16 h s0) := by
  unfold f_X8_isByte_16
  exact s_zret (i := 8) rfl rfl
theorem b_X8_isByte_15 (X : XX) (h : XM) : SW X I_X8_isByte ρi 15 [] [] h 0 0 (f_X8_isByte_15 h) := by
  unfold f_X8_isByte_15
  refine s_iconst (i := 7) rfl (v := (0 : Int32)) (by decide) ?_
  exact s_sub [] rfl (b_X8_isByte_16 X h ((0 : Int32)))
theorem c_X8_isByte (h : XM) (a0 : Int32) : MC I_X8_isByte y_X8_isByte [tI a0] h ρi (f_X8_isByte h a0) := by
  refine MC_of ⟨by decide +kernel, rfl, rfl, Nat.le_of_ble_eq_true rfl⟩ dT_X8_isByte (fun X => ?_)
  show SW X I_X8_isByte ρi 0 [(0, tI a0)] [] h 0 0 (f_X8_isByte h a0)
  unfold f_X8_isByte
  refine s_iload_n (i := 0) rfl 0 rfl ?_
  refine s_iflt (i := 1) rfl (tgt := 15) (by decide) (fun z1 => ?_) (fun z1 => ?_)
  · exact s_sub [] rfl (b_X8_isByte_15 X h)
  · refine s_iload_n (i := 2) rfl 0 rfl ?_
    refine s_sipush (i := 3) rfl (v := (255 : Int32)) (by decide) ?_
    refine s_icmpgt (i := 4) rfl (tgt := 15) (by decide) (fun z8 => ?_) (fun z8 => ?_)
    · exact s_sub [] rfl (b_X8_isByte_15 X h)
    · refine s_iconst (i := 5) rfl (v := (1 : Int32)) (by decide) ?_
      refine s_goto (i := 6) rfl (tgt := 16) (by decide) ?_
      exact s_sub [] rfl (b_X8_isByte_16 X h ((1 : Int32)))
def y_X8_feed : MethodName := ⟨"OpensAtNine", "feed", "(IIIIII)I"⟩
def T_X8_feed : List (Nat × Instr × Nat × Nat) := [(0, .iload_n 1, 1, 1), (1, .iconst 1, 1, 2), (2, .if_icmp .lt 8, 3, 5), (5, .iload_n 1, 1, 6), (6, .iconst 5, 1, 7), (7, .if_icmp .le 6, 3, 10), (10, .bipush (-2), 2, 12), (12, .ireturn, 1, 13), (13, .iload_n 2, 1, 14), (14, .invokestatic 118, 3, 17), (17, .ifCond .eq 34, 3, 20), (20, .iload_n 3, 1, 21), (21, .invokestatic 118, 3, 24), (24, .ifCond .eq 27, 3, 27), (27, .iload 4, 2, 29), (29, .invokestatic 118, 3, 32), (32, .ifCond .eq 19, 3, 35), (35, .iload 5, 2, 37), (37, .invokestatic 118, 3, 40), (40, .ifCond .eq 11, 3, 43), (43, .iload 6, 2, 45), (45, .invokestatic 118, 3, 48), (48, .ifCond .ne 6, 3, 51), (51, .bipush (-2), 2, 53), (53, .ireturn, 1, 54), (54, .aload_n 0, 1, 55), (55, .getfield 58, 3, 58), (58, .getfield 115, 3, 61), (61, .iload_n 1, 1, 62), (62, .iadd, 1, 63), (63, .sipush 160, 3, 66), (66, .if_icmp .le 6, 3, 69), (69, .bipush (-4), 2, 71), (71, .ireturn, 1, 72), (72, .aload_n 0, 1, 73), (73, .getfield 58, 3, 76), (76, .iload_n 2, 1, 77), (77, .invokevirtual 121, 3, 80), (80, .iload_n 1, 1, 81), (81, .iconst 1, 1, 82), (82, .if_icmp .le 11, 3, 85), (85, .aload_n 0, 1, 86), (86, .getfield 58, 3, 89), (89, .iload_n 3, 1, 90), (90, .invokevirtual 121, 3, 93), (93, .iload_n 1, 1, 94), (94, .iconst 2, 1, 95), (95, .if_icmp .le 12, 3, 98), (98, .aload_n 0, 1, 99), (99, .getfield 58, 3, 102), (102, .iload 4, 2, 104), (104, .invokevirtual 121, 3, 107), (107, .iload_n 1, 1, 108), (108, .iconst 3, 1, 109), (109, .if_icmp .le 12, 3, 112), (112, .aload_n 0, 1, 113), (113, .getfield 58, 3, 116), (116, .iload 5, 2, 118), (118, .invokevirtual 121, 3, 121), (121, .iload_n 1, 1, 122), (122, .iconst 4, 1, 123), (123, .if_icmp .le 12, 3, 126), (126, .aload_n 0, 1, 127), (127, .getfield 58, 3, 130), (130, .iload 6, 2, 132), (132, .invokevirtual 121, 3, 135), (135, .aload_n 0, 1, 136), (136, .getfield 58, 3, 139), (139, .getfield 115, 3, 142), (142, .ireturn, 1, 143)]
def I_X8_feed : MI := (prog_1_method_6_code, 7, (some .int), "OpensAtNine", "feed", T_X8_feed, 0, 0, 2, 81)
theorem dT_X8_feed : ∀ q ∈ T_X8_feed, decode prog_1_method_6_code q.1 = .ok (q.2.1, q.2.2.1) ∧ q.2.2.2 = q.1 + q.2.2.1 := by decide +kernel
theorem xm_X8_feed : xCM y_X8_feed I_X8_feed 8 6 := ⟨⟨tw526, tw527⟩, tw69, tw528, ⟨xT8, 11, rfl⟩, ⟨by decide +kernel, by decide +kernel, by decide +kernel⟩⟩
noncomputable def f_X8_feed_10 (h : XM) : Option (Int32 × XM) := some ((-2 : Int32), h)
noncomputable def f_X8_feed_51 (h : XM) : Option (Int32 × XM) := some ((-2 : Int32), h)
noncomputable def f_X8_feed_135 (h : XM) (l0 : Option Nat) : Option (Int32 × XM) := (gR h 8 l0 7).bind fun v1 => (gI h 3 v1 3).bind fun v2 => some (v2, h)
noncomputable def f_X8_feed_121 (h : XM) (l0 : Option Nat) (l1 : Int32) (l6 : Int32) : Option (Int32 × XM) := if ((4 : Int32)) < l1 then ((gR h 8 l0 7).bind fun v3 => (vc h 3 v3 (f_X3_add h v3 l6)).bind fun q4 => f_X8_feed_135 q4 l0) else (f_X8_feed_135 h l0)
noncomputable def f_X8_feed_107 (h : XM) (l0 : Option Nat) (l1 : Int32) (l5 : Int32) (l6 : Int32) : Option (Int32 × XM) := if ((3 : Int32)) < l1 then ((gR h 8 l0 7).bind fun v5 => (vc h 3 v5 (f_X3_add h v5 l5)).bind fun q6 => f_X8_feed_121 q6 l0 l1 l6) else (f_X8_feed_121 h l0 l1 l6)
noncomputable def f_X8_feed_93 (h : XM) (l0 : Option Nat) (l1 : Int32) (l4 : Int32) (l5 : Int32) (l6 : Int32) : Option (Int32 × XM) := if ((2 : Int32)) < l1 then ((gR h 8 l0 7).bind fun v7 => (vc h 3 v7 (f_X3_add h v7 l4)).bind fun q8 => f_X8_feed_107 q8 l0 l1 l5 l6) else (f_X8_feed_107 h l0 l1 l5 l6)
noncomputable def f_X8_feed (h : XM) (a0 : Option Nat) (a1 : Int32) (a2 : Int32) (a3 : Int32) (a4 : Int32) (a5 : Int32) (a6 : Int32) : Option (Int32 × XM) := if a1 < ((1 : Int32)) then (f_X8_feed_10 h) else (if ((5 : Int32)) < a1 then (f_X8_feed_10 h) else ((f_X8_isByte h a2).bind fun q9 => if q9.1 = 0 then (f_X8_feed_51 q9.2) else ((f_X8_isByte q9.2 a3).bind fun q10 => if q10.1 = 0 then (f_X8_feed_51 q10.2) else ((f_X8_isByte q10.2 a4).bind fun q11 => if q11.1 = 0 then (f_X8_feed_51 q11.2) else ((f_X8_isByte q11.2 a5).bind fun q12 => if q12.1 = 0 then (f_X8_feed_51 q12.2) else ((f_X8_isByte q12.2 a6).bind fun q13 => if q13.1 = 0 then (f_X8_feed_51 q13.2) else ((gR q13.2 8 a0 7).bind fun v14 => (gI q13.2 3 v14 3).bind fun v15 => if ((160 : Int32)) < (v15 + a1) then (some ((-4 : Int32), q13.2)) else ((gR q13.2 8 a0 7).bind fun v16 => (vc q13.2 3 v16 (f_X3_add q13.2 v16 a2)).bind fun q17 => if ((1 : Int32)) < a1 then ((gR q17 8 a0 7).bind fun v18 => (vc q17 3 v18 (f_X3_add q17 v18 a3)).bind fun q19 => f_X8_feed_93 q19 a0 a1 a4 a5 a6) else (f_X8_feed_93 q17 a0 a1 a4 a5 a6)))))))))
theorem b_X8_feed_10 (X : XX) (h : XM) : SW X I_X8_feed ρi 10 [] [] h 0 0 (f_X8_feed_10 h) := by
  unfold f_X8_feed_10
  refine s_bipush (i := 6) rfl (v := (-2 : Int32)) (by decide) ?_
  exact s_iret (i := 7) rfl rfl
theorem b_X8_feed_51 (X : XX) (h : XM) : SW X I_X8_feed ρi 51 [] [] h 0 0 (f_X8_feed_51 h) := by
  unfold f_X8_feed_51
  refine s_bipush (i := 23) rfl (v := (-2 : Int32)) (by decide) ?_
  exact s_iret (i := 24) rfl rfl
theorem b_X8_feed_135 (X : XX) (h : XM) (l0 : Option Nat) : SW X I_X8_feed ρi 135 [(0, tA l0)] [] h 0 0 (f_X8_feed_135 h l0) := by
  unfold f_X8_feed_135
  refine s_aload_n (i := 66) rfl 0 rfl ?_
  refine s_getR (i := 67) rfl xf_8_58.r rfl (fun v1 => ?_)
  refine s_getI (i := 68) rfl xf_8_115.r rfl (fun v2 => ?_)
  exact s_iret (i := 69) rfl rfl
theorem b_X8_feed_121 (X : XX) (h : XM) (l0 : Option Nat) (l1 : Int32) (l6 : Int32) : SW X I_X8_feed ρi 121 [(0, tA l0), (1, tI l1), (6, tI l6)] [] h 0 0 (f_X8_feed_121 h l0 l1 l6) := by
  unfold f_X8_feed_121
  refine s_iload_n (i := 59) rfl 1 rfl ?_
  refine s_iconst (i := 60) rfl (v := (4 : Int32)) (by decide) ?_
  refine s_icmple (i := 61) rfl (tgt := 135) (by decide) (fun z123 => ?_) (fun z123 => ?_)
  · refine s_aload_n (i := 62) rfl 0 rfl ?_
    refine s_getR (i := 63) rfl xf_8_58.r rfl (fun v3 => ?_)
    refine s_iload (i := 64) rfl 2 rfl ?_
    refine u_callVv (kk := 3) [tI l6] v3 [] rfl (i := 65) rfl (c_X3_add h v3 l6) xm_X3_add (tw532) rfl (Nat.le_of_ble_eq_true rfl) (xRm.of rfl) ⟨rfl, rfl⟩ (fun q4 => ?_)
    exact s_sub [0] rfl (b_X8_feed_135 X q4 l0)
  · exact s_sub [0] rfl (b_X8_feed_135 X h l0)
theorem b_X8_feed_107 (X : XX) (h : XM) (l0 : Option Nat) (l1 : Int32) (l5 : Int32) (l6 : Int32) : SW X I_X8_feed ρi 107 [(0, tA l0), (1, tI l1), (5, tI l5), (6, tI l6)] [] h 0 0 (f_X8_feed_107 h l0 l1 l5 l6) := by
  unfold f_X8_feed_107
  refine s_iload_n (i := 52) rfl 1 rfl ?_
  refine s_iconst (i := 53) rfl (v := (3 : Int32)) (by decide) ?_
  refine s_icmple (i := 54) rfl (tgt := 121) (by decide) (fun z109 => ?_) (fun z109 => ?_)
  · refine s_aload_n (i := 55) rfl 0 rfl ?_
    refine s_getR (i := 56) rfl xf_8_58.r rfl (fun v5 => ?_)
    refine s_iload (i := 57) rfl 2 rfl ?_
    refine u_callVv (kk := 3) [tI l5] v5 [] rfl (i := 58) rfl (c_X3_add h v5 l5) xm_X3_add (tw532) rfl (Nat.le_of_ble_eq_true rfl) (xRm.of rfl) ⟨rfl, rfl⟩ (fun q6 => ?_)
    exact s_sub [0, 1, 3] rfl (b_X8_feed_121 X q6 l0 l1 l6)
  · exact s_sub [0, 1, 3] rfl (b_X8_feed_121 X h l0 l1 l6)
theorem b_X8_feed_93 (X : XX) (h : XM) (l0 : Option Nat) (l1 : Int32) (l4 : Int32) (l5 : Int32) (l6 : Int32) : SW X I_X8_feed ρi 93 [(0, tA l0), (1, tI l1), (4, tI l4), (5, tI l5), (6, tI l6)] [] h 0 0 (f_X8_feed_93 h l0 l1 l4 l5 l6) := by
  unfold f_X8_feed_93
  refine s_iload_n (i := 45) rfl 1 rfl ?_
  refine s_iconst (i := 46) rfl (v := (2 : Int32)) (by decide) ?_
  refine s_icmple (i := 47) rfl (tgt := 107) (by decide) (fun z95 => ?_) (fun z95 => ?_)
  · refine s_aload_n (i := 48) rfl 0 rfl ?_
    refine s_getR (i := 49) rfl xf_8_58.r rfl (fun v7 => ?_)
    refine s_iload (i := 50) rfl 2 rfl ?_
    refine u_callVv (kk := 3) [tI l4] v7 [] rfl (i := 51) rfl (c_X3_add h v7 l4) xm_X3_add (tw532) rfl (Nat.le_of_ble_eq_true rfl) (xRm.of rfl) ⟨rfl, rfl⟩ (fun q8 => ?_)
    exact s_sub [0, 1, 3, 4] rfl (b_X8_feed_107 X q8 l0 l1 l5 l6)
  · exact s_sub [0, 1, 3, 4] rfl (b_X8_feed_107 X h l0 l1 l5 l6)
theorem c_X8_feed (h : XM) (a0 : Option Nat) (a1 : Int32) (a2 : Int32) (a3 : Int32) (a4 : Int32) (a5 : Int32) (a6 : Int32) : MC I_X8_feed y_X8_feed [tA a0, tI a1, tI a2, tI a3, tI a4, tI a5, tI a6] h ρi (f_X8_feed h a0 a1 a2 a3 a4 a5 a6) := by
  refine MC_of ⟨by decide +kernel, rfl, rfl, Nat.le_of_ble_eq_true rfl⟩ dT_X8_feed (fun X => ?_)
  show SW X I_X8_feed ρi 0 [(0, tA a0), (1, tI a1), (2, tI a2), (3, tI a3), (4, tI a4), (5, tI a5), (6, tI a6)] [] h 0 0 (f_X8_feed h a0 a1 a2 a3 a4 a5 a6)
  unfold f_X8_feed
  refine s_iload_n (i := 0) rfl 1 rfl ?_
  refine s_iconst (i := 1) rfl (v := (1 : Int32)) (by decide) ?_
  refine s_icmplt (i := 2) rfl (tgt := 10) (by decide) (fun z2 => ?_) (fun z2 => ?_)
  · exact s_sub [] rfl (b_X8_feed_10 X h)
  · refine s_iload_n (i := 3) rfl 1 rfl ?_
    refine s_iconst (i := 4) rfl (v := (5 : Int32)) (by decide) ?_
    refine s_icmple (i := 5) rfl (tgt := 13) (by decide) (fun z7 => ?_) (fun z7 => ?_)
    · exact s_sub [] rfl (b_X8_feed_10 X h)
    · refine s_iload_n (i := 8) rfl 2 rfl ?_
      refine u_callSi [tI a2] [] rfl (i := 9) rfl (c_X8_isByte h a2) xm_X8_isByte (tw529) rfl (Nat.le_of_ble_eq_true rfl) (xRm.of rfl) ⟨rfl, rfl⟩ (fun q9 => ?_)
      refine s_ifeq (i := 10) rfl (tgt := 51) (by decide) (fun z17 => ?_) (fun z17 => ?_)
      · exact s_sub [] rfl (b_X8_feed_51 X q9.2)
      · refine s_iload_n (i := 11) rfl 3 rfl ?_
        refine u_callSi [tI a3] [] rfl (i := 12) rfl (c_X8_isByte q9.2 a3) xm_X8_isByte (tw529) rfl (Nat.le_of_ble_eq_true rfl) (xRm.of rfl) ⟨rfl, rfl⟩ (fun q10 => ?_)
        refine s_ifeq (i := 13) rfl (tgt := 51) (by decide) (fun z24 => ?_) (fun z24 => ?_)
        · exact s_sub [] rfl (b_X8_feed_51 X q10.2)
        · refine s_iload (i := 14) rfl 4 rfl ?_
          refine u_callSi [tI a4] [] rfl (i := 15) rfl (c_X8_isByte q10.2 a4) xm_X8_isByte (tw529) rfl (Nat.le_of_ble_eq_true rfl) (xRm.of rfl) ⟨rfl, rfl⟩ (fun q11 => ?_)
          refine s_ifeq (i := 16) rfl (tgt := 51) (by decide) (fun z32 => ?_) (fun z32 => ?_)
          · exact s_sub [] rfl (b_X8_feed_51 X q11.2)
          · refine s_iload (i := 17) rfl 5 rfl ?_
            refine u_callSi [tI a5] [] rfl (i := 18) rfl (c_X8_isByte q11.2 a5) xm_X8_isByte (tw529) rfl (Nat.le_of_ble_eq_true rfl) (xRm.of rfl) ⟨rfl, rfl⟩ (fun q12 => ?_)
            refine s_ifeq (i := 19) rfl (tgt := 51) (by decide) (fun z40 => ?_) (fun z40 => ?_)
            · exact s_sub [] rfl (b_X8_feed_51 X q12.2)
            · refine s_iload (i := 20) rfl 6 rfl ?_
              refine u_callSi [tI a6] [] rfl (i := 21) rfl (c_X8_isByte q12.2 a6) xm_X8_isByte (tw529) rfl (Nat.le_of_ble_eq_true rfl) (xRm.of rfl) ⟨rfl, rfl⟩ (fun q13 => ?_)
              refine s_ifne (i := 22) rfl (tgt := 54) (by decide) (fun z48 => ?_) (fun z48 => ?_)
              · exact s_sub [] rfl (b_X8_feed_51 X q13.2)
              · refine s_aload_n (i := 25) rfl 0 rfl ?_
                refine s_getR (i := 26) rfl xf_8_58.r rfl (fun v14 => ?_)
                refine s_getI (i := 27) rfl xf_8_115.r rfl (fun v15 => ?_)
                refine s_iload_n (i := 28) rfl 1 rfl ?_
                refine s_iadd (i := 29) rfl ?_
                refine s_sipush (i := 30) rfl (v := (160 : Int32)) (by decide) ?_
                refine s_icmple (i := 31) rfl (tgt := 72) (by decide) (fun z66 => ?_) (fun z66 => ?_)
                · refine s_bipush (i := 32) rfl (v := (-4 : Int32)) (by decide) ?_
                  exact s_iret (i := 33) rfl rfl
                · refine s_aload_n (i := 34) rfl 0 rfl ?_
                  refine s_getR (i := 35) rfl xf_8_58.r rfl (fun v16 => ?_)
                  refine s_iload_n (i := 36) rfl 2 rfl ?_
                  refine u_callVv (kk := 3) [tI a2] v16 [] rfl (i := 37) rfl (c_X3_add q13.2 v16 a2) xm_X3_add (tw532) rfl (Nat.le_of_ble_eq_true rfl) (xRm.of rfl) ⟨rfl, rfl⟩ (fun q17 => ?_)
                  refine s_iload_n (i := 38) rfl 1 rfl ?_
                  refine s_iconst (i := 39) rfl (v := (1 : Int32)) (by decide) ?_
                  refine s_icmple (i := 40) rfl (tgt := 93) (by decide) (fun z82 => ?_) (fun z82 => ?_)
                  · refine s_aload_n (i := 41) rfl 0 rfl ?_
                    refine s_getR (i := 42) rfl xf_8_58.r rfl (fun v18 => ?_)
                    refine s_iload_n (i := 43) rfl 3 rfl ?_
                    refine u_callVv (kk := 3) [tI a3] v18 [] rfl (i := 44) rfl (c_X3_add q17 v18 a3) xm_X3_add (tw532) rfl (Nat.le_of_ble_eq_true rfl) (xRm.of rfl) ⟨rfl, rfl⟩ (fun q19 => ?_)
                    exact s_sub [0, 1, 4, 5, 6] rfl (b_X8_feed_93 X q19 a0 a1 a4 a5 a6)
                  · exact s_sub [0, 1, 4, 5, 6] rfl (b_X8_feed_93 X q17 a0 a1 a4 a5 a6)
def y_X8_text : MethodName := ⟨"OpensAtNine", "text", "()I"⟩
def T_X8_text : List (Nat × Instr × Nat × Nat) := [(0, .aload_n 0, 1, 1), (1, .getfield 79, 3, 4), (4, .bipush 6, 2, 6), (6, .if_icmp .lt 6, 3, 9), (9, .bipush (-4), 2, 11), (11, .ireturn, 1, 12), (12, .aload_n 0, 1, 13), (13, .getfield 58, 3, 16), (16, .invokevirtual 75, 3, 19), (19, .astore_n 1, 1, 20), (20, .aload_n 1, 1, 21), (21, .ifnonnull 14, 3, 24), (24, .bipush (-100), 2, 26), (26, .aload_n 0, 1, 27), (27, .getfield 58, 3, 30), (30, .getfield 125, 3, 33), (33, .isub, 1, 34), (34, .ireturn, 1, 35), (35, .aload_n 0, 1, 36), (36, .getfield 17, 3, 39), (39, .aload_n 0, 1, 40), (40, .getfield 79, 3, 43), (43, .aload_n 1, 1, 44), (44, .aastore, 1, 45), (45, .aload_n 0, 1, 46), (46, .dup, 1, 47), (47, .getfield 79, 3, 50), (50, .iconst 1, 1, 51), (51, .iadd, 1, 52), (52, .putfield 79, 3, 55), (55, .aload_n 0, 1, 56), (56, .getfield 79, 3, 59), (59, .iconst 1, 1, 60), (60, .isub, 1, 61), (61, .ireturn, 1, 62)]
def I_X8_text : MI := (prog_1_method_8_code, 2, (some .int), "OpensAtNine", "text", T_X8_text, 4, 603, 92, 2053)
theorem dT_X8_text : ∀ q ∈ T_X8_text, decode prog_1_method_8_code q.1 = .ok (q.2.1, q.2.2.1) ∧ q.2.2.2 = q.1 + q.2.2.1 := by decide +kernel
theorem xm_X8_text : xCM y_X8_text I_X8_text 8 0 := ⟨⟨tw534, tw535⟩, tw69, tw536, ⟨xT8, 11, rfl⟩, ⟨by decide +kernel, by decide +kernel, by decide +kernel⟩⟩
noncomputable def f_X8_text (h : XM) (a0 : Option Nat) : Option (Int32 × XM) := (gI h 8 a0 9).bind fun v1 => if v1 < ((6 : Int32)) then ((gR h 8 a0 7).bind fun v2 => (vc h 3 v2 (f_X3_readText h v2)).bind fun q3 => if q3.1 = none then ((gR q3.2 8 a0 7).bind fun v4 => (gI q3.2 3 v4 4).bind fun v5 => some (((-100 : Int32)) - v5, q3.2)) else ((gR q3.2 8 a0 1).bind fun v6 => (gI q3.2 8 a0 9).bind fun v7 => (sR 13 5 q3.2 v6 v7 q3.1).bind fun h8 => (gI h8 8 a0 9).bind fun v9 => (pI h8 8 a0 9 (v9 + ((1 : Int32)))).bind fun h10 => (gI h10 8 a0 9).bind fun v11 => some (v11 - ((1 : Int32)), h10))) else (some ((-4 : Int32), h))
theorem c_X8_text (h : XM) (a0 : Option Nat) : MC I_X8_text y_X8_text [tA a0] h ρi (f_X8_text h a0) := by
  refine MC_of ⟨by decide +kernel, rfl, rfl, Nat.le_of_ble_eq_true rfl⟩ dT_X8_text (fun X => ?_)
  show SW X I_X8_text ρi 0 [(0, tA a0)] [] h 4 603 (f_X8_text h a0)
  unfold f_X8_text
  refine s_aload_n (i := 0) rfl 0 rfl ?_
  refine s_bud 4 603 (by omega) (by omega) ?_
  refine s_getI (i := 1) rfl xf_8_79.r rfl (fun v1 => ?_)
  refine s_bud 4 603 (by omega) (by omega) ?_
  refine s_bipush (i := 2) rfl (v := (6 : Int32)) (by decide) ?_
  refine s_bud 4 603 (by omega) (by omega) ?_
  refine s_icmplt (i := 3) rfl (tgt := 12) (by decide) (fun z6 => ?_) (fun z6 => ?_)
  · refine s_bud 4 603 (by omega) (by omega) ?_
    refine s_aload_n (i := 6) rfl 0 rfl ?_
    refine s_bud 4 603 (by omega) (by omega) ?_
    refine s_getR (i := 7) rfl xf_8_58.r rfl (fun v2 => ?_)
    refine s_bud 4 603 (by omega) (by omega) ?_
    refine s_bud (4 + 0) (603 + 0) (by omega) (by omega) ?_
    refine t_callVa (kk := 3) [] v2 [] rfl (i := 8) rfl (c_X3_readText h v2) xm_X3_readText (tw344) rfl (Nat.le_of_ble_eq_true rfl) (xRm.of rfl) (fun q3 => ?_)
    refine s_bud 0 0 (by omega) (by omega) ?_
    refine s_astore_n (i := 9) rfl (Nat.le_of_ble_eq_true rfl) (ls2 := [(1, tA q3.1), (0, tA a0)]) rfl ?_
    refine s_bud 0 0 (by omega) (by omega) ?_
    refine s_aload_n (i := 10) rfl 0 rfl ?_
    refine s_bud 0 0 (by omega) (by omega) ?_
    refine s_ifnonnull (i := 11) rfl (tgt := 35) (by decide) (fun z21 => ?_) (fun z21 => ?_)
    · refine s_bud 0 0 (by omega) (by omega) ?_
      refine s_bipush (i := 12) rfl (v := (-100 : Int32)) (by decide) ?_
      refine s_bud 0 0 (by omega) (by omega) ?_
      refine s_aload_n (i := 13) rfl 1 rfl ?_
      refine s_bud 0 0 (by omega) (by omega) ?_
      refine s_getR (i := 14) rfl xf_8_58.r rfl (fun v4 => ?_)
      refine s_bud 0 0 (by omega) (by omega) ?_
      refine s_getI (i := 15) rfl xf_8_125.r rfl (fun v5 => ?_)
      refine s_bud 0 0 (by omega) (by omega) ?_
      refine s_isub (i := 16) rfl ?_
      refine s_bud 0 0 (by omega) (by omega) ?_
      exact s_iret (i := 17) rfl rfl
    · refine s_bud 0 0 (by omega) (by omega) ?_
      refine s_aload_n (i := 18) rfl 1 rfl ?_
      refine s_bud 0 0 (by omega) (by omega) ?_
      refine s_getR (i := 19) rfl xf_8_17.r rfl (fun v6 => ?_)
      refine s_bud 0 0 (by omega) (by omega) ?_
      refine s_aload_n (i := 20) rfl 1 rfl ?_
      refine s_bud 0 0 (by omega) (by omega) ?_
      refine s_getI (i := 21) rfl xf_8_79.r rfl (fun v7 => ?_)
      refine s_bud 0 0 (by omega) (by omega) ?_
      refine s_aload_n (i := 22) rfl 0 rfl ?_
      refine s_bud 0 0 (by omega) (by omega) ?_
      refine s_aastore (i := 23) rfl (kk := 13) (kv := 5) (t9 := 3) (by decide) (fun h8 => ?_)
      refine s_bud 0 0 (by omega) (by omega) ?_
      refine s_aload_n (i := 24) rfl 1 rfl ?_
      refine s_bud 0 0 (by omega) (by omega) ?_
      refine s_dup (i := 25) rfl rfl ?_
      refine s_bud 0 0 (by omega) (by omega) ?_
      refine s_getI (i := 26) rfl xf_8_79.r rfl (fun v9 => ?_)
      refine s_bud 0 0 (by omega) (by omega) ?_
      refine s_iconst (i := 27) rfl (v := (1 : Int32)) (by decide) ?_
      refine s_bud 0 0 (by omega) (by omega) ?_
      refine s_iadd (i := 28) rfl ?_
      refine s_bud 0 0 (by omega) (by omega) ?_
      refine s_putI (i := 29) rfl xf_8_79 (fun q => by cases q) rfl rfl (fun h10 => ?_)
      refine s_bud 0 0 (by omega) (by omega) ?_
      refine s_aload_n (i := 30) rfl 1 rfl ?_
      refine s_bud 0 0 (by omega) (by omega) ?_
      refine s_getI (i := 31) rfl xf_8_79.r rfl (fun v11 => ?_)
      refine s_bud 0 0 (by omega) (by omega) ?_
      refine s_iconst (i := 32) rfl (v := (1 : Int32)) (by decide) ?_
      refine s_bud 0 0 (by omega) (by omega) ?_
      refine s_isub (i := 33) rfl ?_
      refine s_bud 0 0 (by omega) (by omega) ?_
      exact s_iret (i := 34) rfl rfl
  · refine s_bud 0 0 (by omega) (by omega) ?_
    refine s_bipush (i := 4) rfl (v := (-4 : Int32)) (by decide) ?_
    refine s_bud 0 0 (by omega) (by omega) ?_
    exact s_iret (i := 5) rfl rfl
def y_X8_force : MethodName := ⟨"OpensAtNine", "force", "(I)I"⟩
def T_X8_force : List (Nat × Instr × Nat × Nat) := [(0, .iload_n 1, 1, 1), (1, .ifCond .lt 11, 3, 4), (4, .iload_n 1, 1, 5), (5, .aload_n 0, 1, 6), (6, .getfield 79, 3, 9), (9, .if_icmp .lt 6, 3, 12), (12, .bipush (-2), 2, 14), (14, .ireturn, 1, 15), (15, .aload_n 0, 1, 16), (16, .getfield 26, 3, 19), (19, .getfield 112, 3, 22), (22, .istore_n 2, 1, 23), (23, .aload_n 0, 1, 24), (24, .getfield 26, 3, 27), (27, .iload_n 1, 1, 28), (28, .putfield 112, 3, 31), (31, .iload_n 2, 1, 32), (32, .ireturn, 1, 33)]
def I_X8_force : MI := (prog_1_method_9_code, 3, (some .int), "OpensAtNine", "force", T_X8_force, 0, 0, 1, 60)
theorem dT_X8_force : ∀ q ∈ T_X8_force, decode prog_1_method_9_code q.1 = .ok (q.2.1, q.2.2.1) ∧ q.2.2.2 = q.1 + q.2.2.1 := by decide +kernel
theorem xm_X8_force : xCM y_X8_force I_X8_force 8 1 := ⟨⟨tw538, tw539⟩, tw69, tw540, ⟨xT8, 11, rfl⟩, ⟨by decide +kernel, by decide +kernel, by decide +kernel⟩⟩
noncomputable def f_X8_force_12 (h : XM) : Option (Int32 × XM) := some ((-2 : Int32), h)
noncomputable def f_X8_force (h : XM) (a0 : Option Nat) (a1 : Int32) : Option (Int32 × XM) := if a1 < 0 then (f_X8_force_12 h) else ((gI h 8 a0 9).bind fun v1 => if a1 < v1 then ((gR h 8 a0 2).bind fun v2 => (gI h 1 v2 11).bind fun v3 => (gR h 8 a0 2).bind fun v4 => (pI h 1 v4 11 a1).bind fun h5 => some (v3, h5)) else (f_X8_force_12 h))
theorem b_X8_force_12 (X : XX) (h : XM) : SW X I_X8_force ρi 12 [] [] h 0 0 (f_X8_force_12 h) := by
  unfold f_X8_force_12
  refine s_bipush (i := 6) rfl (v := (-2 : Int32)) (by decide) ?_
  exact s_iret (i := 7) rfl rfl
theorem c_X8_force (h : XM) (a0 : Option Nat) (a1 : Int32) : MC I_X8_force y_X8_force [tA a0, tI a1] h ρi (f_X8_force h a0 a1) := by
  refine MC_of ⟨by decide +kernel, rfl, rfl, Nat.le_of_ble_eq_true rfl⟩ dT_X8_force (fun X => ?_)
  show SW X I_X8_force ρi 0 [(0, tA a0), (1, tI a1)] [] h 0 0 (f_X8_force h a0 a1)
  unfold f_X8_force
  refine s_iload_n (i := 0) rfl 1 rfl ?_
  refine s_iflt (i := 1) rfl (tgt := 12) (by decide) (fun z1 => ?_) (fun z1 => ?_)
  · exact s_sub [] rfl (b_X8_force_12 X h)
  · refine s_iload_n (i := 2) rfl 1 rfl ?_
    refine s_aload_n (i := 3) rfl 0 rfl ?_
    refine s_getI (i := 4) rfl xf_8_79.r rfl (fun v1 => ?_)
    refine s_icmplt (i := 5) rfl (tgt := 15) (by decide) (fun z9 => ?_) (fun z9 => ?_)
    · refine s_aload_n (i := 8) rfl 0 rfl ?_
      refine s_getR (i := 9) rfl xf_8_26.r rfl (fun v2 => ?_)
      refine s_getI (i := 10) rfl xf_8_112.r rfl (fun v3 => ?_)
      refine s_istore_n (i := 11) rfl (Nat.le_of_ble_eq_true rfl) (ls2 := [(2, tI v3), (0, tA a0), (1, tI a1)]) rfl ?_
      refine s_aload_n (i := 12) rfl 1 rfl ?_
      refine s_getR (i := 13) rfl xf_8_26.r rfl (fun v4 => ?_)
      refine s_iload_n (i := 14) rfl 2 rfl ?_
      refine s_putI (i := 15) rfl xf_8_112 (fun q => by cases q) rfl rfl (fun h5 => ?_)
      refine s_iload_n (i := 16) rfl 0 rfl ?_
      exact s_iret (i := 17) rfl rfl
    · exact s_sub [] rfl (b_X8_force_12 X h)
def y_X8_asks : MethodName := ⟨"OpensAtNine", "asks", "(IIIII)I"⟩
def T_X8_asks : List (Nat × Instr × Nat × Nat) := [(0, .iload_n 1, 1, 1), (1, .ifCond .lt 8, 3, 4), (4, .iload_n 1, 1, 5), (5, .iconst 3, 1, 6), (6, .if_icmp .lt 6, 3, 9), (9, .bipush (-2), 2, 11), (11, .ireturn, 1, 12), (12, .iload_n 2, 1, 13), (13, .ifCond .lt 21, 3, 16), (16, .iload_n 2, 1, 17), (17, .sipush 9999, 3, 20), (20, .if_icmp .gt 14, 3, 23), (23, .iload_n 3, 1, 24), (24, .ifCond .lt 10, 3, 27), (27, .iload_n 3, 1, 28), (28, .sipush 999, 3, 31), (31, .if_icmp .le 6, 3, 34), (34, .bipush (-2), 2, 36), (36, .ireturn, 1, 37), (37, .iload 4, 2, 39), (39, .ifCond .lt 22, 3, 42), (42, .iload 4, 2, 44), (44, .bipush 99, 2, 46), (46, .if_icmp .gt 15, 3, 49), (49, .iload 5, 2, 51), (51, .ifCond .lt 10, 3, 54), (54, .iload 5, 2, 56), (56, .bipush 99, 2, 58), (58, .if_icmp .le 6, 3, 61), (61, .bipush (-2), 2, 63), (63, .ireturn, 1, 64), (64, .aload_n 0, 1, 65), (65, .getfield 26, 3, 68), (68, .iload_n 1, 1, 69), (69, .iload_n 2, 1, 70), (70, .iload_n 3, 1, 71), (71, .iload 4, 2, 73), (73, .iload 5, 2, 75), (75, .bipush 10, 2, 77), (77, .idiv, 1, 78), (78, .iload 5, 2, 80), (80, .bipush 10, 2, 82), (82, .irem, 1, 83), (83, .invokevirtual 128, 3, 86), (86, .ireturn, 1, 87)]
def I_X8_asks : MI := (prog_1_method_10_code, 6, (some .int), "OpensAtNine", "asks", T_X8_asks, 0, 0, 4, 136)
theorem dT_X8_asks : ∀ q ∈ T_X8_asks, decode prog_1_method_10_code q.1 = .ok (q.2.1, q.2.2.1) ∧ q.2.2.2 = q.1 + q.2.2.1 := by decide +kernel
theorem xm_X8_asks : xCM y_X8_asks I_X8_asks 8 5 := ⟨⟨tw542, tw543⟩, tw69, tw544, ⟨xT8, 11, rfl⟩, ⟨by decide +kernel, by decide +kernel, by decide +kernel⟩⟩
noncomputable def f_X8_asks_9 (h : XM) : Option (Int32 × XM) := some ((-2 : Int32), h)
noncomputable def f_X8_asks_34 (h : XM) : Option (Int32 × XM) := some ((-2 : Int32), h)
noncomputable def f_X8_asks_61 (h : XM) : Option (Int32 × XM) := some ((-2 : Int32), h)
noncomputable def f_X8_asks (h : XM) (a0 : Option Nat) (a1 : Int32) (a2 : Int32) (a3 : Int32) (a4 : Int32) (a5 : Int32) : Option (Int32 × XM) := if a1 < 0 then (f_X8_asks_9 h) else (if a1 < ((3 : Int32)) then (if a2 < 0 then (f_X8_asks_34 h) else (if ((9999 : Int32)) < a2 then (f_X8_asks_34 h) else (if a3 < 0 then (f_X8_asks_34 h) else (if ((999 : Int32)) < a3 then (f_X8_asks_34 h) else (if a4 < 0 then (f_X8_asks_61 h) else (if ((99 : Int32)) < a4 then (f_X8_asks_61 h) else (if a5 < 0 then (f_X8_asks_61 h) else (if ((99 : Int32)) < a5 then (f_X8_asks_61 h) else ((gR h 8 a0 2).bind fun v1 => (idiv a5 ((10 : Int32))).bind fun v2 => (irem a5 ((10 : Int32))).bind fun v3 => (vc h 1 v1 (f_X1_lawSays h v1 a1 a2 a3 a4 v2 v3)).bind fun q4 => some (q4.1, q4.2)))))))))) else (f_X8_asks_9 h))
theorem b_X8_asks_9 (X : XX) (h : XM) : SW X I_X8_asks ρi 9 [] [] h 0 0 (f_X8_asks_9 h) := by
  unfold f_X8_asks_9
  refine s_bipush (i := 5) rfl (v := (-2 : Int32)) (by decide) ?_
  exact s_iret (i := 6) rfl rfl
theorem b_X8_asks_34 (X : XX) (h : XM) : SW X I_X8_asks ρi 34 [] [] h 0 0 (f_X8_asks_34 h) := by
  unfold f_X8_asks_34
  refine s_bipush (i := 17) rfl (v := (-2 : Int32)) (by decide) ?_
  exact s_iret (i := 18) rfl rfl
theorem b_X8_asks_61 (X : XX) (h : XM) : SW X I_X8_asks ρi 61 [] [] h 0 0 (f_X8_asks_61 h) := by
  unfold f_X8_asks_61
  refine s_bipush (i := 29) rfl (v := (-2 : Int32)) (by decide) ?_
  exact s_iret (i := 30) rfl rfl
theorem c_X8_asks (h : XM) (a0 : Option Nat) (a1 : Int32) (a2 : Int32) (a3 : Int32) (a4 : Int32) (a5 : Int32) : MC I_X8_asks y_X8_asks [tA a0, tI a1, tI a2, tI a3, tI a4, tI a5] h ρi (f_X8_asks h a0 a1 a2 a3 a4 a5) := by
  refine MC_of ⟨by decide +kernel, rfl, rfl, Nat.le_of_ble_eq_true rfl⟩ dT_X8_asks (fun X => ?_)
  show SW X I_X8_asks ρi 0 [(0, tA a0), (1, tI a1), (2, tI a2), (3, tI a3), (4, tI a4), (5, tI a5)] [] h 0 0 (f_X8_asks h a0 a1 a2 a3 a4 a5)
  unfold f_X8_asks
  refine s_iload_n (i := 0) rfl 1 rfl ?_
  refine s_iflt (i := 1) rfl (tgt := 9) (by decide) (fun z1 => ?_) (fun z1 => ?_)
  · exact s_sub [] rfl (b_X8_asks_9 X h)
  · refine s_iload_n (i := 2) rfl 1 rfl ?_
    refine s_iconst (i := 3) rfl (v := (3 : Int32)) (by decide) ?_
    refine s_icmplt (i := 4) rfl (tgt := 12) (by decide) (fun z6 => ?_) (fun z6 => ?_)
    · refine s_iload_n (i := 7) rfl 2 rfl ?_
      refine s_iflt (i := 8) rfl (tgt := 34) (by decide) (fun z13 => ?_) (fun z13 => ?_)
      · exact s_sub [] rfl (b_X8_asks_34 X h)
      · refine s_iload_n (i := 9) rfl 2 rfl ?_
        refine s_sipush (i := 10) rfl (v := (9999 : Int32)) (by decide) ?_
        refine s_icmpgt (i := 11) rfl (tgt := 34) (by decide) (fun z20 => ?_) (fun z20 => ?_)
        · exact s_sub [] rfl (b_X8_asks_34 X h)
        · refine s_iload_n (i := 12) rfl 3 rfl ?_
          refine s_iflt (i := 13) rfl (tgt := 34) (by decide) (fun z24 => ?_) (fun z24 => ?_)
          · exact s_sub [] rfl (b_X8_asks_34 X h)
          · refine s_iload_n (i := 14) rfl 3 rfl ?_
            refine s_sipush (i := 15) rfl (v := (999 : Int32)) (by decide) ?_
            refine s_icmple (i := 16) rfl (tgt := 37) (by decide) (fun z31 => ?_) (fun z31 => ?_)
            · exact s_sub [] rfl (b_X8_asks_34 X h)
            · refine s_iload (i := 19) rfl 4 rfl ?_
              refine s_iflt (i := 20) rfl (tgt := 61) (by decide) (fun z39 => ?_) (fun z39 => ?_)
              · exact s_sub [] rfl (b_X8_asks_61 X h)
              · refine s_iload (i := 21) rfl 4 rfl ?_
                refine s_bipush (i := 22) rfl (v := (99 : Int32)) (by decide) ?_
                refine s_icmpgt (i := 23) rfl (tgt := 61) (by decide) (fun z46 => ?_) (fun z46 => ?_)
                · exact s_sub [] rfl (b_X8_asks_61 X h)
                · refine s_iload (i := 24) rfl 5 rfl ?_
                  refine s_iflt (i := 25) rfl (tgt := 61) (by decide) (fun z51 => ?_) (fun z51 => ?_)
                  · exact s_sub [] rfl (b_X8_asks_61 X h)
                  · refine s_iload (i := 26) rfl 5 rfl ?_
                    refine s_bipush (i := 27) rfl (v := (99 : Int32)) (by decide) ?_
                    refine s_icmple (i := 28) rfl (tgt := 64) (by decide) (fun z58 => ?_) (fun z58 => ?_)
                    · exact s_sub [] rfl (b_X8_asks_61 X h)
                    · refine s_aload_n (i := 31) rfl 0 rfl ?_
                      refine s_getR (i := 32) rfl xf_8_26.r rfl (fun v1 => ?_)
                      refine s_iload_n (i := 33) rfl 1 rfl ?_
                      refine s_iload_n (i := 34) rfl 2 rfl ?_
                      refine s_iload_n (i := 35) rfl 3 rfl ?_
                      refine s_iload (i := 36) rfl 4 rfl ?_
                      refine s_iload (i := 37) rfl 5 rfl ?_
                      refine s_bipush (i := 38) rfl (v := (10 : Int32)) (by decide) ?_
                      refine s_idiv (i := 39) rfl (fun v2 => ?_)
                      refine s_iload (i := 40) rfl 5 rfl ?_
                      refine s_bipush (i := 41) rfl (v := (10 : Int32)) (by decide) ?_
                      refine s_irem (i := 42) rfl (fun v3 => ?_)
                      refine u_callVi (kk := 1) [tI a1, tI a2, tI a3, tI a4, tI v2, tI v3] v1 [] rfl (i := 43) rfl (c_X1_lawSays h v1 a1 a2 a3 a4 v2 v3) xm_X1_lawSays (tw545) rfl (Nat.le_of_ble_eq_true rfl) (xRm.of rfl) ⟨rfl, rfl⟩ (fun q4 => ?_)
                      exact s_iret (i := 44) rfl rfl
    · exact s_sub [] rfl (b_X8_asks_9 X h)
def y_X8_coin : MethodName := ⟨"OpensAtNine", "coin", "(IIII)I"⟩
def T_X8_coin : List (Nat × Instr × Nat × Nat) := [(0, .aload_n 0, 1, 1), (1, .getfield 26, 3, 4), (4, .iload_n 1, 1, 5), (5, .invokevirtual 99, 3, 8), (8, .ifCond .eq 12, 3, 11), (11, .iload_n 2, 1, 12), (12, .ifCond .lt 8, 3, 15), (15, .iload_n 2, 1, 16), (16, .iconst 5, 1, 17), (17, .if_icmp .le 6, 3, 20), (20, .bipush (-2), 2, 22), (22, .ireturn, 1, 23), (23, .iload_n 3, 1, 24), (24, .ifCond .lt 21, 3, 27), (27, .iload_n 3, 1, 28), (28, .bipush 30, 2, 30), (30, .if_icmp .gt 15, 3, 33), (33, .iload 4, 2, 35), (35, .ifCond .lt 10, 3, 38), (38, .iload 4, 2, 40), (40, .bipush 9, 2, 42), (42, .if_icmp .le 6, 3, 45), (45, .bipush (-2), 2, 47), (47, .ireturn, 1, 48), (48, .aload_n 0, 1, 49), (49, .getfield 26, 3, 52), (52, .getfield 109, 3, 55), (55, .istore 5, 2, 57), (57, .iload 5, 2, 59), (59, .ifCond .lt 10, 3, 62), (62, .iload 5, 2, 64), (64, .bipush 7, 2, 66), (66, .if_icmp .lt 6, 3, 69), (69, .bipush (-4), 2, 71), (71, .ireturn, 1, 72), (72, .aload_n 0, 1, 73), (73, .getfield 13, 3, 76), (76, .iload 5, 2, 78), (78, .new 9, 3, 81), (81, .dup, 1, 82), (82, .iload_n 2, 1, 83), (83, .iload_n 3, 1, 84), (84, .iload 4, 2, 86), (86, .invokespecial 132, 3, 89), (89, .aastore, 1, 90), (90, .aload_n 0, 1, 91), (91, .getfield 26, 3, 94), (94, .iload 5, 2, 96), (96, .iconst 1, 1, 97), (97, .iadd, 1, 98), (98, .putfield 109, 3, 101), (101, .aload_n 0, 1, 102), (102, .getfield 26, 3, 105), (105, .iload 5, 2, 107), (107, .iload_n 1, 1, 108), (108, .invokevirtual 135, 3, 111), (111, .iload 5, 2, 113), (113, .ireturn, 1, 114)]
def I_X8_coin : MI := (prog_1_method_11_code, 6, (some .int), "OpensAtNine", "coin", T_X8_coin, 1, 3, 2, 83)
theorem dT_X8_coin : ∀ q ∈ T_X8_coin, decode prog_1_method_11_code q.1 = .ok (q.2.1, q.2.2.1) ∧ q.2.2.2 = q.1 + q.2.2.1 := by decide +kernel
theorem xm_X8_coin : xCM y_X8_coin I_X8_coin 8 4 := ⟨⟨tw570, tw571⟩, tw69, tw572, ⟨xT8, 11, rfl⟩, ⟨by decide +kernel, by decide +kernel, by decide +kernel⟩⟩
noncomputable def f_X8_coin_20 (h : XM) : Option (Int32 × XM) := some ((-2 : Int32), h)
noncomputable def f_X8_coin_45 (h : XM) : Option (Int32 × XM) := some ((-2 : Int32), h)
noncomputable def f_X8_coin_69 (h : XM) : Option (Int32 × XM) := some ((-4 : Int32), h)
noncomputable def f_X8_coin (h : XM) (a0 : Option Nat) (a1 : Int32) (a2 : Int32) (a3 : Int32) (a4 : Int32) : Option (Int32 × XM) := (gR h 8 a0 2).bind fun v1 => (vc h 1 v1 (f_X1_isOne h v1 a1)).bind fun q2 => if q2.1 = 0 then (f_X8_coin_20 q2.2) else (if a2 < 0 then (f_X8_coin_20 q2.2) else (if ((5 : Int32)) < a2 then (f_X8_coin_20 q2.2) else (if a3 < 0 then (f_X8_coin_45 q2.2) else (if ((30 : Int32)) < a3 then (f_X8_coin_45 q2.2) else (if a4 < 0 then (f_X8_coin_45 q2.2) else (if ((9 : Int32)) < a4 then (f_X8_coin_45 q2.2) else ((gR q2.2 8 a0 2).bind fun v3 => (gI q2.2 1 v3 9).bind fun v4 => if v4 < 0 then (f_X8_coin_69 q2.2) else (if v4 < ((7 : Int32)) then ((gR q2.2 8 a0 0).bind fun v5 => (nO q2.2 0 3).bind fun h6 => (((some (xc q2.2))).bind fun _ => f_X0_init h6 (some (xc q2.2)) a2 a3 a4).bind fun q7 => (sR 12 0 q7 v5 v4 (some (xc q2.2))).bind fun h8 => (gR h8 8 a0 2).bind fun v9 => (pI h8 1 v9 9 (v4 + ((1 : Int32)))).bind fun h10 => (gR h10 8 a0 2).bind fun v11 => (vc h10 1 v11 (f_X1_give h10 v11 v4 a1)).bind fun q12 => some (v4, q12)) else (f_X8_coin_69 q2.2)))))))))
theorem b_X8_coin_20 (X : XX) (h : XM) : SW X I_X8_coin ρi 20 [] [] h 0 0 (f_X8_coin_20 h) := by
  unfold f_X8_coin_20
  refine s_bipush (i := 10) rfl (v := (-2 : Int32)) (by decide) ?_
  refine s_bud 0 0 (by omega) (by omega) ?_
  exact s_iret (i := 11) rfl rfl
theorem b_X8_coin_45 (X : XX) (h : XM) : SW X I_X8_coin ρi 45 [] [] h 0 0 (f_X8_coin_45 h) := by
  unfold f_X8_coin_45
  refine s_bipush (i := 22) rfl (v := (-2 : Int32)) (by decide) ?_
  refine s_bud 0 0 (by omega) (by omega) ?_
  exact s_iret (i := 23) rfl rfl
theorem b_X8_coin_69 (X : XX) (h : XM) : SW X I_X8_coin ρi 69 [] [] h 0 0 (f_X8_coin_69 h) := by
  unfold f_X8_coin_69
  refine s_bipush (i := 33) rfl (v := (-4 : Int32)) (by decide) ?_
  refine s_bud 0 0 (by omega) (by omega) ?_
  exact s_iret (i := 34) rfl rfl
theorem c_X8_coin (h : XM) (a0 : Option Nat) (a1 : Int32) (a2 : Int32) (a3 : Int32) (a4 : Int32) : MC I_X8_coin y_X8_coin [tA a0, tI a1, tI a2, tI a3, tI a4] h ρi (f_X8_coin h a0 a1 a2 a3 a4) := by
  refine MC_of ⟨by decide +kernel, rfl, rfl, Nat.le_of_ble_eq_true rfl⟩ dT_X8_coin (fun X => ?_)
  show SW X I_X8_coin ρi 0 [(0, tA a0), (1, tI a1), (2, tI a2), (3, tI a3), (4, tI a4)] [] h 1 3 (f_X8_coin h a0 a1 a2 a3 a4)
  unfold f_X8_coin
  refine s_aload_n (i := 0) rfl 0 rfl ?_
  refine s_bud 1 3 (by omega) (by omega) ?_
  refine s_getR (i := 1) rfl xf_8_26.r rfl (fun v1 => ?_)
  refine s_bud 1 3 (by omega) (by omega) ?_
  refine s_iload_n (i := 2) rfl 1 rfl ?_
  refine s_bud 1 3 (by omega) (by omega) ?_
  refine u_callVi (kk := 1) [tI a1] v1 [] rfl (i := 3) rfl (c_X1_isOne h v1 a1) xm_X1_isOne (tw516) rfl (Nat.le_of_ble_eq_true rfl) (xRm.of rfl) ⟨rfl, rfl⟩ (fun q2 => ?_)
  refine s_bud 1 3 (by omega) (by omega) ?_
  refine s_ifeq (i := 4) rfl (tgt := 20) (by decide) (fun z8 => ?_) (fun z8 => ?_)
  · refine s_bud 0 0 (by omega) (by omega) ?_
    exact s_sub [] rfl (b_X8_coin_20 X q2.2)
  · refine s_bud 1 3 (by omega) (by omega) ?_
    refine s_iload_n (i := 5) rfl 2 rfl ?_
    refine s_bud 1 3 (by omega) (by omega) ?_
    refine s_iflt (i := 6) rfl (tgt := 20) (by decide) (fun z12 => ?_) (fun z12 => ?_)
    · refine s_bud 0 0 (by omega) (by omega) ?_
      exact s_sub [] rfl (b_X8_coin_20 X q2.2)
    · refine s_bud 1 3 (by omega) (by omega) ?_
      refine s_iload_n (i := 7) rfl 2 rfl ?_
      refine s_bud 1 3 (by omega) (by omega) ?_
      refine s_iconst (i := 8) rfl (v := (5 : Int32)) (by decide) ?_
      refine s_bud 1 3 (by omega) (by omega) ?_
      refine s_icmple (i := 9) rfl (tgt := 23) (by decide) (fun z17 => ?_) (fun z17 => ?_)
      · refine s_bud 0 0 (by omega) (by omega) ?_
        exact s_sub [] rfl (b_X8_coin_20 X q2.2)
      · refine s_bud 1 3 (by omega) (by omega) ?_
        refine s_iload_n (i := 12) rfl 3 rfl ?_
        refine s_bud 1 3 (by omega) (by omega) ?_
        refine s_iflt (i := 13) rfl (tgt := 45) (by decide) (fun z24 => ?_) (fun z24 => ?_)
        · refine s_bud 0 0 (by omega) (by omega) ?_
          exact s_sub [] rfl (b_X8_coin_45 X q2.2)
        · refine s_bud 1 3 (by omega) (by omega) ?_
          refine s_iload_n (i := 14) rfl 3 rfl ?_
          refine s_bud 1 3 (by omega) (by omega) ?_
          refine s_bipush (i := 15) rfl (v := (30 : Int32)) (by decide) ?_
          refine s_bud 1 3 (by omega) (by omega) ?_
          refine s_icmpgt (i := 16) rfl (tgt := 45) (by decide) (fun z30 => ?_) (fun z30 => ?_)
          · refine s_bud 0 0 (by omega) (by omega) ?_
            exact s_sub [] rfl (b_X8_coin_45 X q2.2)
          · refine s_bud 1 3 (by omega) (by omega) ?_
            refine s_iload (i := 17) rfl 4 rfl ?_
            refine s_bud 1 3 (by omega) (by omega) ?_
            refine s_iflt (i := 18) rfl (tgt := 45) (by decide) (fun z35 => ?_) (fun z35 => ?_)
            · refine s_bud 0 0 (by omega) (by omega) ?_
              exact s_sub [] rfl (b_X8_coin_45 X q2.2)
            · refine s_bud 1 3 (by omega) (by omega) ?_
              refine s_iload (i := 19) rfl 4 rfl ?_
              refine s_bud 1 3 (by omega) (by omega) ?_
              refine s_bipush (i := 20) rfl (v := (9 : Int32)) (by decide) ?_
              refine s_bud 1 3 (by omega) (by omega) ?_
              refine s_icmple (i := 21) rfl (tgt := 48) (by decide) (fun z42 => ?_) (fun z42 => ?_)
              · refine s_bud 0 0 (by omega) (by omega) ?_
                exact s_sub [] rfl (b_X8_coin_45 X q2.2)
              · refine s_bud 1 3 (by omega) (by omega) ?_
                refine s_aload_n (i := 24) rfl 0 rfl ?_
                refine s_bud 1 3 (by omega) (by omega) ?_
                refine s_getR (i := 25) rfl xf_8_26.r rfl (fun v3 => ?_)
                refine s_bud 1 3 (by omega) (by omega) ?_
                refine s_getI (i := 26) rfl xf_8_109.r rfl (fun v4 => ?_)
                refine s_bud 1 3 (by omega) (by omega) ?_
                refine s_istore (i := 27) rfl (Nat.le_of_ble_eq_true rfl) (ls2 := [(5, tI v4), (0, tA a0), (1, tI a1), (2, tI a2), (3, tI a3), (4, tI a4)]) rfl ?_
                refine s_bud 1 3 (by omega) (by omega) ?_
                refine s_iload (i := 28) rfl 0 rfl ?_
                refine s_bud 1 3 (by omega) (by omega) ?_
                refine s_iflt (i := 29) rfl (tgt := 69) (by decide) (fun z59 => ?_) (fun z59 => ?_)
                · refine s_bud 0 0 (by omega) (by omega) ?_
                  exact s_sub [] rfl (b_X8_coin_69 X q2.2)
                · refine s_bud 1 3 (by omega) (by omega) ?_
                  refine s_iload (i := 30) rfl 0 rfl ?_
                  refine s_bud 1 3 (by omega) (by omega) ?_
                  refine s_bipush (i := 31) rfl (v := (7 : Int32)) (by decide) ?_
                  refine s_bud 1 3 (by omega) (by omega) ?_
                  refine s_icmplt (i := 32) rfl (tgt := 72) (by decide) (fun z66 => ?_) (fun z66 => ?_)
                  · refine s_bud 1 3 (by omega) (by omega) ?_
                    refine s_aload_n (i := 35) rfl 1 rfl ?_
                    refine s_bud 1 3 (by omega) (by omega) ?_
                    refine s_getR (i := 36) rfl xf_8_13.r rfl (fun v5 => ?_)
                    refine s_bud 1 3 (by omega) (by omega) ?_
                    refine s_iload (i := 37) rfl 0 rfl ?_
                    refine s_bud 1 3 (by omega) (by omega) ?_
                    refine s_bud (1 + 0) (3 + 0) (by omega) (by omega) ?_
                    refine s_new (i := 38) rfl xkc0 (by decide +kernel) ⟨tw95, tw573, tw85⟩ (fun h6 => ?_)
                    refine s_bud 0 0 (by omega) (by omega) ?_
                    refine s_dup (i := 39) rfl rfl ?_
                    refine s_bud 0 0 (by omega) (by omega) ?_
                    refine s_iload_n (i := 40) rfl 3 rfl ?_
                    refine s_bud 0 0 (by omega) (by omega) ?_
                    refine s_iload_n (i := 41) rfl 4 rfl ?_
                    refine s_bud 0 0 (by omega) (by omega) ?_
                    refine s_iload (i := 42) rfl 5 rfl ?_
                    refine s_bud 0 0 (by omega) (by omega) ?_
                    refine u_callIv [tI a2, tI a3, tI a4] (some (xc q2.2)) [tA (some (xc q2.2)), tI v4, tA v5] rfl (i := 43) rfl (c_X0_init h6 (some (xc q2.2)) a2 a3 a4) xm_X0_init (tw574) rfl (Nat.le_of_ble_eq_true rfl) (xRm.of rfl) ⟨rfl, rfl⟩ (fun q7 => ?_)
                    refine s_bud 0 0 (by omega) (by omega) ?_
                    refine s_aastore (i := 44) rfl (kk := 12) (kv := 0) (t9 := 2) (by decide) (fun h8 => ?_)
                    refine s_bud 0 0 (by omega) (by omega) ?_
                    refine s_aload_n (i := 45) rfl 1 rfl ?_
                    refine s_bud 0 0 (by omega) (by omega) ?_
                    refine s_getR (i := 46) rfl xf_8_26.r rfl (fun v9 => ?_)
                    refine s_bud 0 0 (by omega) (by omega) ?_
                    refine s_iload (i := 47) rfl 0 rfl ?_
                    refine s_bud 0 0 (by omega) (by omega) ?_
                    refine s_iconst (i := 48) rfl (v := (1 : Int32)) (by decide) ?_
                    refine s_bud 0 0 (by omega) (by omega) ?_
                    refine s_iadd (i := 49) rfl ?_
                    refine s_bud 0 0 (by omega) (by omega) ?_
                    refine s_putI (i := 50) rfl xf_8_109 (fun q => by cases q) rfl rfl (fun h10 => ?_)
                    refine s_bud 0 0 (by omega) (by omega) ?_
                    refine s_aload_n (i := 51) rfl 1 rfl ?_
                    refine s_bud 0 0 (by omega) (by omega) ?_
                    refine s_getR (i := 52) rfl xf_8_26.r rfl (fun v11 => ?_)
                    refine s_bud 0 0 (by omega) (by omega) ?_
                    refine s_iload (i := 53) rfl 0 rfl ?_
                    refine s_bud 0 0 (by omega) (by omega) ?_
                    refine s_iload_n (i := 54) rfl 2 rfl ?_
                    refine s_bud 0 0 (by omega) (by omega) ?_
                    refine u_callVv (kk := 1) [tI v4, tI a1] v11 [] rfl (i := 55) rfl (c_X1_give h10 v11 v4 a1) xm_X1_give (tw591) rfl (Nat.le_of_ble_eq_true rfl) (xRm.of rfl) ⟨rfl, rfl⟩ (fun q12 => ?_)
                    refine s_bud 0 0 (by omega) (by omega) ?_
                    refine s_iload (i := 56) rfl 0 rfl ?_
                    refine s_bud 0 0 (by omega) (by omega) ?_
                    exact s_iret (i := 57) rfl rfl
                  · refine s_bud 0 0 (by omega) (by omega) ?_
                    exact s_sub [] rfl (b_X8_coin_69 X q2.2)
def y_X8_sell : MethodName := ⟨"OpensAtNine", "sell", "(II)I"⟩
def T_X8_sell : List (Nat × Instr × Nat × Nat) := [(0, .aload_n 0, 1, 1), (1, .getfield 26, 3, 4), (4, .iload_n 1, 1, 5), (5, .invokevirtual 139, 3, 8), (8, .ifnonnull 6, 3, 11), (11, .bipush (-5), 2, 13), (13, .ireturn, 1, 14), (14, .aload_n 0, 1, 15), (15, .getfield 26, 3, 18), (18, .iload_n 2, 1, 19), (19, .invokevirtual 99, 3, 22), (22, .ifCond .ne 6, 3, 25), (25, .bipush (-7), 2, 27), (27, .ireturn, 1, 28), (28, .aload_n 0, 1, 29), (29, .getfield 26, 3, 32), (32, .iload_n 1, 1, 33), (33, .invokevirtual 143, 3, 36), (36, .ifCond .eq 6, 3, 39), (39, .bipush (-3), 2, 41), (41, .ireturn, 1, 42), (42, .aload_n 0, 1, 43), (43, .getfield 26, 3, 46), (46, .iload_n 1, 1, 47), (47, .invokevirtual 146, 3, 50), (50, .istore_n 3, 1, 51), (51, .aload_n 0, 1, 52), (52, .getfield 26, 3, 55), (55, .iload_n 1, 1, 56), (56, .iload_n 2, 1, 57), (57, .invokevirtual 135, 3, 60), (60, .iload_n 3, 1, 61), (61, .ireturn, 1, 62)]
def I_X8_sell : MI := (prog_1_method_12_code, 4, (some .int), "OpensAtNine", "sell", T_X8_sell, 0, 0, 2, 83)
theorem dT_X8_sell : ∀ q ∈ T_X8_sell, decode prog_1_method_12_code q.1 = .ok (q.2.1, q.2.2.1) ∧ q.2.2.2 = q.1 + q.2.2.1 := by decide +kernel
theorem xm_X8_sell : xCM y_X8_sell I_X8_sell 8 2 := ⟨⟨tw596, tw597⟩, tw69, tw598, ⟨xT8, 11, rfl⟩, ⟨by decide +kernel, by decide +kernel, by decide +kernel⟩⟩
noncomputable def f_X8_sell (h : XM) (a0 : Option Nat) (a1 : Int32) (a2 : Int32) : Option (Int32 × XM) := (gR h 8 a0 2).bind fun v1 => (vc h 1 v1 (f_X1_coinAt h v1 a1)).bind fun q2 => if q2.1 = none then (some ((-5 : Int32), q2.2)) else ((gR q2.2 8 a0 2).bind fun v3 => (vc q2.2 1 v3 (f_X1_isOne q2.2 v3 a2)).bind fun q4 => if q4.1 = 0 then (some ((-7 : Int32), q4.2)) else ((gR q4.2 8 a0 2).bind fun v5 => (vc q4.2 1 v5 (f_X1_isSpent q4.2 v5 a1)).bind fun q6 => if q6.1 = 0 then ((gR q6.2 8 a0 2).bind fun v7 => (vc q6.2 1 v7 (f_X1_ownerOf q6.2 v7 a1)).bind fun q8 => (gR q8.2 8 a0 2).bind fun v9 => (vc q8.2 1 v9 (f_X1_give q8.2 v9 a1 a2)).bind fun q10 => some (q8.1, q10)) else (some ((-3 : Int32), q6.2))))
theorem c_X8_sell (h : XM) (a0 : Option Nat) (a1 : Int32) (a2 : Int32) : MC I_X8_sell y_X8_sell [tA a0, tI a1, tI a2] h ρi (f_X8_sell h a0 a1 a2) := by
  refine MC_of ⟨by decide +kernel, rfl, rfl, Nat.le_of_ble_eq_true rfl⟩ dT_X8_sell (fun X => ?_)
  show SW X I_X8_sell ρi 0 [(0, tA a0), (1, tI a1), (2, tI a2)] [] h 0 0 (f_X8_sell h a0 a1 a2)
  unfold f_X8_sell
  refine s_aload_n (i := 0) rfl 0 rfl ?_
  refine s_getR (i := 1) rfl xf_8_26.r rfl (fun v1 => ?_)
  refine s_iload_n (i := 2) rfl 1 rfl ?_
  refine u_callVa (kk := 1) [tI a1] v1 [] rfl (i := 3) rfl (c_X1_coinAt h v1 a1) xm_X1_coinAt (tw599) rfl (Nat.le_of_ble_eq_true rfl) (xRm.of rfl) ⟨rfl, rfl⟩ (fun q2 => ?_)
  refine s_ifnonnull (i := 4) rfl (tgt := 14) (by decide) (fun z8 => ?_) (fun z8 => ?_)
  · refine s_bipush (i := 5) rfl (v := (-5 : Int32)) (by decide) ?_
    exact s_iret (i := 6) rfl rfl
  · refine s_aload_n (i := 7) rfl 0 rfl ?_
    refine s_getR (i := 8) rfl xf_8_26.r rfl (fun v3 => ?_)
    refine s_iload_n (i := 9) rfl 2 rfl ?_
    refine u_callVi (kk := 1) [tI a2] v3 [] rfl (i := 10) rfl (c_X1_isOne q2.2 v3 a2) xm_X1_isOne (tw516) rfl (Nat.le_of_ble_eq_true rfl) (xRm.of rfl) ⟨rfl, rfl⟩ (fun q4 => ?_)
    refine s_ifne (i := 11) rfl (tgt := 28) (by decide) (fun z22 => ?_) (fun z22 => ?_)
    · refine s_bipush (i := 12) rfl (v := (-7 : Int32)) (by decide) ?_
      exact s_iret (i := 13) rfl rfl
    · refine s_aload_n (i := 14) rfl 0 rfl ?_
      refine s_getR (i := 15) rfl xf_8_26.r rfl (fun v5 => ?_)
      refine s_iload_n (i := 16) rfl 1 rfl ?_
      refine u_callVi (kk := 1) [tI a1] v5 [] rfl (i := 17) rfl (c_X1_isSpent q4.2 v5 a1) xm_X1_isSpent (tw603) rfl (Nat.le_of_ble_eq_true rfl) (xRm.of rfl) ⟨rfl, rfl⟩ (fun q6 => ?_)
      refine s_ifeq (i := 18) rfl (tgt := 42) (by decide) (fun z36 => ?_) (fun z36 => ?_)
      · refine s_aload_n (i := 21) rfl 0 rfl ?_
        refine s_getR (i := 22) rfl xf_8_26.r rfl (fun v7 => ?_)
        refine s_iload_n (i := 23) rfl 1 rfl ?_
        refine u_callVi (kk := 1) [tI a1] v7 [] rfl (i := 24) rfl (c_X1_ownerOf q6.2 v7 a1) xm_X1_ownerOf (tw607) rfl (Nat.le_of_ble_eq_true rfl) (xRm.of rfl) ⟨rfl, rfl⟩ (fun q8 => ?_)
        refine s_istore_n (i := 25) rfl (Nat.le_of_ble_eq_true rfl) (ls2 := [(3, tI q8.1), (0, tA a0), (1, tI a1), (2, tI a2)]) rfl ?_
        refine s_aload_n (i := 26) rfl 1 rfl ?_
        refine s_getR (i := 27) rfl xf_8_26.r rfl (fun v9 => ?_)
        refine s_iload_n (i := 28) rfl 2 rfl ?_
        refine s_iload_n (i := 29) rfl 3 rfl ?_
        refine u_callVv (kk := 1) [tI a1, tI a2] v9 [] rfl (i := 30) rfl (c_X1_give q8.2 v9 a1 a2) xm_X1_give (tw591) rfl (Nat.le_of_ble_eq_true rfl) (xRm.of rfl) ⟨rfl, rfl⟩ (fun q10 => ?_)
        refine s_iload_n (i := 31) rfl 0 rfl ?_
        exact s_iret (i := 32) rfl rfl
      · refine s_bipush (i := 19) rfl (v := (-3 : Int32)) (by decide) ?_
        exact s_iret (i := 20) rfl rfl
def y_X8_told : MethodName := ⟨"OpensAtNine", "told", "(II)I"⟩
def T_X8_told : List (Nat × Instr × Nat × Nat) := [(0, .aload_n 0, 1, 1), (1, .getfield 26, 3, 4), (4, .iload_n 1, 1, 5), (5, .invokevirtual 139, 3, 8), (8, .astore_n 3, 1, 9), (9, .aload_n 3, 1, 10), (10, .ifnonnull 6, 3, 13), (13, .bipush (-5), 2, 15), (15, .ireturn, 1, 16), (16, .iload_n 2, 1, 17), (17, .tableswitch 101 0 6 #[43, 52, 57, 62, 67, 84, 96], 43, 60), (60, .aload_n 0, 1, 61), (61, .getfield 26, 3, 64), (64, .iload_n 1, 1, 65), (65, .invokevirtual 146, 3, 68), (68, .ireturn, 1, 69), (69, .aload_n 3, 1, 70), (70, .getfield 149, 3, 73), (73, .ireturn, 1, 74), (74, .aload_n 3, 1, 75), (75, .getfield 152, 3, 78), (78, .ireturn, 1, 79), (79, .aload_n 3, 1, 80), (80, .getfield 155, 3, 83), (83, .ireturn, 1, 84), (84, .aload_n 0, 1, 85), (85, .getfield 26, 3, 88), (88, .iload_n 1, 1, 89), (89, .invokevirtual 143, 3, 92), (92, .ifCond .eq 7, 3, 95), (95, .iconst 1, 1, 96), (96, .goto 4, 3, 99), (99, .iconst 0, 1, 100), (100, .ireturn, 1, 101), (101, .aload_n 3, 1, 102), (102, .aload_n 0, 1, 103), (103, .getfield 26, 3, 106), (106, .getfield 90, 3, 109), (109, .invokevirtual 158, 3, 112), (112, .ireturn, 1, 113), (113, .aload_n 3, 1, 114), (114, .invokevirtual 161, 3, 117), (117, .ireturn, 1, 118), (118, .bipush (-7), 2, 120), (120, .ireturn, 1, 121)]
def I_X8_told : MI := (prog_1_method_13_code, 4, (some .int), "OpensAtNine", "told", T_X8_told, 0, 0, 4, 122)
theorem dT_X8_told : ∀ q ∈ T_X8_told, decode prog_1_method_13_code q.1 = .ok (q.2.1, q.2.2.1) ∧ q.2.2.2 = q.1 + q.2.2.1 := by decide +kernel
theorem xm_X8_told : xCM y_X8_told I_X8_told 8 2 := ⟨⟨tw612, tw613⟩, tw69, tw614, ⟨xT8, 11, rfl⟩, ⟨by decide +kernel, by decide +kernel, by decide +kernel⟩⟩
noncomputable def f_X8_told_100 (h : XM) (s0 : Int32) : Option (Int32 × XM) := some (s0, h)
noncomputable def f_X8_told (h : XM) (a0 : Option Nat) (a1 : Int32) (a2 : Int32) : Option (Int32 × XM) := (gR h 8 a0 2).bind fun v1 => (vc h 1 v1 (f_X1_coinAt h v1 a1)).bind fun q2 => if q2.1 = none then (some ((-5 : Int32), q2.2)) else (if a2 = (0 : Int32) then ((gR q2.2 8 a0 2).bind fun v3 => (vc q2.2 1 v3 (f_X1_ownerOf q2.2 v3 a1)).bind fun q4 => some (q4.1, q4.2)) else (if a2 = (1 : Int32) then ((gI q2.2 0 q2.1 0).bind fun v5 => some (v5, q2.2)) else (if a2 = (2 : Int32) then ((gI q2.2 0 q2.1 1).bind fun v6 => some (v6, q2.2)) else (if a2 = (3 : Int32) then ((gI q2.2 0 q2.1 2).bind fun v7 => some (v7, q2.2)) else (if a2 = (4 : Int32) then ((gR q2.2 8 a0 2).bind fun v8 => (vc q2.2 1 v8 (f_X1_isSpent q2.2 v8 a1)).bind fun q9 => if q9.1 = 0 then (f_X8_told_100 q9.2 ((0 : Int32))) else (f_X8_told_100 q9.2 ((1 : Int32)))) else (if a2 = (5 : Int32) then ((gR q2.2 8 a0 2).bind fun v10 => (gI q2.2 1 v10 5).bind fun v11 => (vc q2.2 0 q2.1 (f_X0_countsBy q2.2 q2.1 v11)).bind fun q12 => some (q12.1, q12.2)) else (if a2 = (6 : Int32) then ((vc q2.2 0 q2.1 (f_X0_costs q2.2 q2.1)).bind fun q13 => some (q13.1, q13.2)) else (some ((-7 : Int32), q2.2)))))))))
theorem b_X8_told_100 (X : XX) (h : XM) (s0 : Int32) : SW X I_X8_told ρi 100 [] [tI s0] h 0 0 (f_X8_told_100 h s0) := by
  unfold f_X8_told_100
  exact s_iret (i := 33) rfl rfl
theorem c_X8_told (h : XM) (a0 : Option Nat) (a1 : Int32) (a2 : Int32) : MC I_X8_told y_X8_told [tA a0, tI a1, tI a2] h ρi (f_X8_told h a0 a1 a2) := by
  refine MC_of ⟨by decide +kernel, rfl, rfl, Nat.le_of_ble_eq_true rfl⟩ dT_X8_told (fun X => ?_)
  show SW X I_X8_told ρi 0 [(0, tA a0), (1, tI a1), (2, tI a2)] [] h 0 0 (f_X8_told h a0 a1 a2)
  unfold f_X8_told
  refine s_aload_n (i := 0) rfl 0 rfl ?_
  refine s_getR (i := 1) rfl xf_8_26.r rfl (fun v1 => ?_)
  refine s_iload_n (i := 2) rfl 1 rfl ?_
  refine u_callVa (kk := 1) [tI a1] v1 [] rfl (i := 3) rfl (c_X1_coinAt h v1 a1) xm_X1_coinAt (tw599) rfl (Nat.le_of_ble_eq_true rfl) (xRm.of rfl) ⟨rfl, rfl⟩ (fun q2 => ?_)
  refine s_astore_n (i := 4) rfl (Nat.le_of_ble_eq_true rfl) (ls2 := [(3, tA q2.1), (0, tA a0), (1, tI a1), (2, tI a2)]) rfl ?_
  refine s_aload_n (i := 5) rfl 0 rfl ?_
  refine s_ifnonnull (i := 6) rfl (tgt := 16) (by decide) (fun z10 => ?_) (fun z10 => ?_)
  · refine s_bipush (i := 7) rfl (v := (-5 : Int32)) (by decide) ?_
    exact s_iret (i := 8) rfl rfl
  · refine s_iload_n (i := 9) rfl 3 rfl ?_
    refine s_if (P := a2 = (0 : Int32)) (fun z17_0 => ?_) (fun z17_0 => ?_)
    · refine s_table 60 (i := 10) rfl rfl (by rw [z17_0]; rfl) ?_
      refine s_aload_n (i := 11) rfl 1 rfl ?_
      refine s_getR (i := 12) rfl xf_8_26.r rfl (fun v3 => ?_)
      refine s_iload_n (i := 13) rfl 2 rfl ?_
      refine u_callVi (kk := 1) [tI a1] v3 [] rfl (i := 14) rfl (c_X1_ownerOf q2.2 v3 a1) xm_X1_ownerOf (tw607) rfl (Nat.le_of_ble_eq_true rfl) (xRm.of rfl) ⟨rfl, rfl⟩ (fun q4 => ?_)
      exact s_iret (i := 15) rfl rfl
    refine s_if (P := a2 = (1 : Int32)) (fun z17_1 => ?_) (fun z17_1 => ?_)
    · refine s_table 69 (i := 10) rfl rfl (by rw [z17_1]; rfl) ?_
      refine s_aload_n (i := 16) rfl 0 rfl ?_
      refine s_getI (i := 17) rfl xf_8_149 rfl (fun v5 => ?_)
      exact s_iret (i := 18) rfl rfl
    refine s_if (P := a2 = (2 : Int32)) (fun z17_2 => ?_) (fun z17_2 => ?_)
    · refine s_table 74 (i := 10) rfl rfl (by rw [z17_2]; rfl) ?_
      refine s_aload_n (i := 19) rfl 0 rfl ?_
      refine s_getI (i := 20) rfl xf_8_152 rfl (fun v6 => ?_)
      exact s_iret (i := 21) rfl rfl
    refine s_if (P := a2 = (3 : Int32)) (fun z17_3 => ?_) (fun z17_3 => ?_)
    · refine s_table 79 (i := 10) rfl rfl (by rw [z17_3]; rfl) ?_
      refine s_aload_n (i := 22) rfl 0 rfl ?_
      refine s_getI (i := 23) rfl xf_8_155 rfl (fun v7 => ?_)
      exact s_iret (i := 24) rfl rfl
    refine s_if (P := a2 = (4 : Int32)) (fun z17_4 => ?_) (fun z17_4 => ?_)
    · refine s_table 84 (i := 10) rfl rfl (by rw [z17_4]; rfl) ?_
      refine s_aload_n (i := 25) rfl 1 rfl ?_
      refine s_getR (i := 26) rfl xf_8_26.r rfl (fun v8 => ?_)
      refine s_iload_n (i := 27) rfl 2 rfl ?_
      refine u_callVi (kk := 1) [tI a1] v8 [] rfl (i := 28) rfl (c_X1_isSpent q2.2 v8 a1) xm_X1_isSpent (tw603) rfl (Nat.le_of_ble_eq_true rfl) (xRm.of rfl) ⟨rfl, rfl⟩ (fun q9 => ?_)
      refine s_ifeq (i := 29) rfl (tgt := 99) (by decide) (fun z92 => ?_) (fun z92 => ?_)
      · refine s_iconst (i := 32) rfl (v := (0 : Int32)) (by decide) ?_
        exact s_sub [] rfl (b_X8_told_100 X q9.2 ((0 : Int32)))
      · refine s_iconst (i := 30) rfl (v := (1 : Int32)) (by decide) ?_
        refine s_goto (i := 31) rfl (tgt := 100) (by decide) ?_
        exact s_sub [] rfl (b_X8_told_100 X q9.2 ((1 : Int32)))
    refine s_if (P := a2 = (5 : Int32)) (fun z17_5 => ?_) (fun z17_5 => ?_)
    · refine s_table 101 (i := 10) rfl rfl (by rw [z17_5]; rfl) ?_
      refine s_aload_n (i := 34) rfl 0 rfl ?_
      refine s_aload_n (i := 35) rfl 1 rfl ?_
      refine s_getR (i := 36) rfl xf_8_26.r rfl (fun v10 => ?_)
      refine s_getI (i := 37) rfl xf_8_90.r rfl (fun v11 => ?_)
      refine u_callVi (kk := 0) [tI v11] q2.1 [] rfl (i := 38) rfl (c_X0_countsBy q2.2 q2.1 v11) xm_X0_countsBy (tw615) rfl (Nat.le_of_ble_eq_true rfl) (xRm.of rfl) ⟨rfl, rfl⟩ (fun q12 => ?_)
      exact s_iret (i := 39) rfl rfl
    refine s_if (P := a2 = (6 : Int32)) (fun z17_6 => ?_) (fun z17_6 => ?_)
    · refine s_table 113 (i := 10) rfl rfl (by rw [z17_6]; rfl) ?_
      refine s_aload_n (i := 40) rfl 0 rfl ?_
      refine u_callVi (kk := 0) [] q2.1 [] rfl (i := 41) rfl (c_X0_costs q2.2 q2.1) xm_X0_costs (tw624) rfl (Nat.le_of_ble_eq_true rfl) (xRm.of rfl) ⟨rfl, rfl⟩ (fun q13 => ?_)
      exact s_iret (i := 42) rfl rfl
    refine s_table 118 (i := 10) rfl rfl (by
      rw [swT_out (fun k h1 h2 => by
        rcases (show k = 0 ∨ k = 1 ∨ k = 2 ∨ k = 3 ∨ k = 4 ∨ k = 5 ∨ k = 6 by omega) with e | e | e | e | e | e | e <;> subst e
        · exact Or.inr z17_0
        · exact Or.inr z17_1
        · exact Or.inr z17_2
        · exact Or.inr z17_3
        · exact Or.inr z17_4
        · exact Or.inr z17_5
        · exact Or.inr z17_6)]
      rfl) ?_
    refine s_bipush (i := 43) rfl (v := (-7 : Int32)) (by decide) ?_
    exact s_iret (i := 44) rfl rfl
def y_X8_put : MethodName := ⟨"OpensAtNine", "put", "(I)I"⟩
def T_X8_put : List (Nat × Instr × Nat × Nat) := [(0, .aload_n 0, 1, 1), (1, .getfield 26, 3, 4), (4, .iload_n 1, 1, 5), (5, .invokevirtual 139, 3, 8), (8, .ifnonnull 6, 3, 11), (11, .bipush (-5), 2, 13), (13, .ireturn, 1, 14), (14, .aload_n 0, 1, 15), (15, .getfield 26, 3, 18), (18, .iload_n 1, 1, 19), (19, .invokevirtual 165, 3, 22), (22, .ifCond .ne 6, 3, 25), (25, .bipush (-3), 2, 27), (27, .ireturn, 1, 28), (28, .aload_n 0, 1, 29), (29, .getfield 26, 3, 32), (32, .iload_n 1, 1, 33), (33, .invokevirtual 168, 3, 36), (36, .ifCond .eq 7, 3, 39), (39, .iconst 1, 1, 40), (40, .goto 4, 3, 43), (43, .iconst 0, 1, 44), (44, .ireturn, 1, 45)]
def I_X8_put : MI := (prog_1_method_14_code, 2, (some .int), "OpensAtNine", "put", T_X8_put, 0, 0, 5, 161)
theorem dT_X8_put : ∀ q ∈ T_X8_put, decode prog_1_method_14_code q.1 = .ok (q.2.1, q.2.2.1) ∧ q.2.2.2 = q.1 + q.2.2.1 := by decide +kernel
theorem xm_X8_put : xCM y_X8_put I_X8_put 8 1 := ⟨⟨tw629, tw630⟩, tw69, tw631, ⟨xT8, 11, rfl⟩, ⟨by decide +kernel, by decide +kernel, by decide +kernel⟩⟩
noncomputable def f_X8_put_44 (h : XM) (s0 : Int32) : Option (Int32 × XM) := some (s0, h)
noncomputable def f_X8_put (h : XM) (a0 : Option Nat) (a1 : Int32) : Option (Int32 × XM) := (gR h 8 a0 2).bind fun v1 => (vc h 1 v1 (f_X1_coinAt h v1 a1)).bind fun q2 => if q2.1 = none then (some ((-5 : Int32), q2.2)) else ((gR q2.2 8 a0 2).bind fun v3 => (vc q2.2 1 v3 (f_X1_mayPut q2.2 v3 a1)).bind fun q4 => if q4.1 = 0 then (some ((-3 : Int32), q4.2)) else ((gR q4.2 8 a0 2).bind fun v5 => (vc q4.2 1 v5 (f_X1_putIn q4.2 v5 a1)).bind fun q6 => if q6.1 = 0 then (f_X8_put_44 q6.2 ((0 : Int32))) else (f_X8_put_44 q6.2 ((1 : Int32)))))
theorem b_X8_put_44 (X : XX) (h : XM) (s0 : Int32) : SW X I_X8_put ρi 44 [] [tI s0] h 0 0 (f_X8_put_44 h s0) := by
  unfold f_X8_put_44
  exact s_iret (i := 22) rfl rfl
theorem c_X8_put (h : XM) (a0 : Option Nat) (a1 : Int32) : MC I_X8_put y_X8_put [tA a0, tI a1] h ρi (f_X8_put h a0 a1) := by
  refine MC_of ⟨by decide +kernel, rfl, rfl, Nat.le_of_ble_eq_true rfl⟩ dT_X8_put (fun X => ?_)
  show SW X I_X8_put ρi 0 [(0, tA a0), (1, tI a1)] [] h 0 0 (f_X8_put h a0 a1)
  unfold f_X8_put
  refine s_aload_n (i := 0) rfl 0 rfl ?_
  refine s_getR (i := 1) rfl xf_8_26.r rfl (fun v1 => ?_)
  refine s_iload_n (i := 2) rfl 1 rfl ?_
  refine u_callVa (kk := 1) [tI a1] v1 [] rfl (i := 3) rfl (c_X1_coinAt h v1 a1) xm_X1_coinAt (tw599) rfl (Nat.le_of_ble_eq_true rfl) (xRm.of rfl) ⟨rfl, rfl⟩ (fun q2 => ?_)
  refine s_ifnonnull (i := 4) rfl (tgt := 14) (by decide) (fun z8 => ?_) (fun z8 => ?_)
  · refine s_bipush (i := 5) rfl (v := (-5 : Int32)) (by decide) ?_
    exact s_iret (i := 6) rfl rfl
  · refine s_aload_n (i := 7) rfl 0 rfl ?_
    refine s_getR (i := 8) rfl xf_8_26.r rfl (fun v3 => ?_)
    refine s_iload_n (i := 9) rfl 1 rfl ?_
    refine u_callVi (kk := 1) [tI a1] v3 [] rfl (i := 10) rfl (c_X1_mayPut q2.2 v3 a1) xm_X1_mayPut (tw632) rfl (Nat.le_of_ble_eq_true rfl) (xRm.of rfl) ⟨rfl, rfl⟩ (fun q4 => ?_)
    refine s_ifne (i := 11) rfl (tgt := 28) (by decide) (fun z22 => ?_) (fun z22 => ?_)
    · refine s_bipush (i := 12) rfl (v := (-3 : Int32)) (by decide) ?_
      exact s_iret (i := 13) rfl rfl
    · refine s_aload_n (i := 14) rfl 0 rfl ?_
      refine s_getR (i := 15) rfl xf_8_26.r rfl (fun v5 => ?_)
      refine s_iload_n (i := 16) rfl 1 rfl ?_
      refine u_callVi (kk := 1) [tI a1] v5 [] rfl (i := 17) rfl (c_X1_putIn q4.2 v5 a1) xm_X1_putIn (tw640) rfl (Nat.le_of_ble_eq_true rfl) (xRm.of rfl) ⟨rfl, rfl⟩ (fun q6 => ?_)
      refine s_ifeq (i := 18) rfl (tgt := 43) (by decide) (fun z36 => ?_) (fun z36 => ?_)
      · refine s_iconst (i := 21) rfl (v := (0 : Int32)) (by decide) ?_
        exact s_sub [] rfl (b_X8_put_44 X q6.2 ((0 : Int32)))
      · refine s_iconst (i := 19) rfl (v := (1 : Int32)) (by decide) ?_
        refine s_goto (i := 20) rfl (tgt := 44) (by decide) ?_
        exact s_sub [] rfl (b_X8_put_44 X q6.2 ((1 : Int32)))
def y_X8_worth : MethodName := ⟨"OpensAtNine", "worth", "(I)I"⟩
def T_X8_worth : List (Nat × Instr × Nat × Nat) := [(0, .aload_n 0, 1, 1), (1, .getfield 26, 3, 4), (4, .iload_n 1, 1, 5), (5, .invokevirtual 99, 3, 8), (8, .ifCond .eq 14, 3, 11), (11, .aload_n 0, 1, 12), (12, .getfield 26, 3, 15), (15, .iload_n 1, 1, 16), (16, .invokevirtual 171, 3, 19), (19, .goto 5, 3, 22), (22, .ldc 174, 2, 24), (24, .ireturn, 1, 25)]
def I_X8_worth : MI := (prog_1_method_15_code, 2, (some .int), "OpensAtNine", "worth", T_X8_worth, 0, 0, 5, 159)
theorem dT_X8_worth : ∀ q ∈ T_X8_worth, decode prog_1_method_15_code q.1 = .ok (q.2.1, q.2.2.1) ∧ q.2.2.2 = q.1 + q.2.2.1 := by decide +kernel
theorem xm_X8_worth : xCM y_X8_worth I_X8_worth 8 1 := ⟨⟨tw661, tw662⟩, tw69, tw663, ⟨xT8, 11, rfl⟩, ⟨by decide +kernel, by decide +kernel, by decide +kernel⟩⟩
noncomputable def f_X8_worth_24 (h : XM) (s0 : Int32) : Option (Int32 × XM) := some (s0, h)
noncomputable def f_X8_worth (h : XM) (a0 : Option Nat) (a1 : Int32) : Option (Int32 × XM) := (gR h 8 a0 2).bind fun v1 => (vc h 1 v1 (f_X1_isOne h v1 a1)).bind fun q2 => if q2.1 = 0 then (f_X8_worth_24 q2.2 ((-100000 : Int32))) else ((gR q2.2 8 a0 2).bind fun v3 => (vc q2.2 1 v3 (f_X1_worthOf q2.2 v3 a1)).bind fun q4 => f_X8_worth_24 q4.2 q4.1)
theorem b_X8_worth_24 (X : XX) (h : XM) (s0 : Int32) : SW X I_X8_worth ρi 24 [] [tI s0] h 0 0 (f_X8_worth_24 h s0) := by
  unfold f_X8_worth_24
  exact s_iret (i := 11) rfl rfl
theorem c_X8_worth (h : XM) (a0 : Option Nat) (a1 : Int32) : MC I_X8_worth y_X8_worth [tA a0, tI a1] h ρi (f_X8_worth h a0 a1) := by
  refine MC_of ⟨by decide +kernel, rfl, rfl, Nat.le_of_ble_eq_true rfl⟩ dT_X8_worth (fun X => ?_)
  show SW X I_X8_worth ρi 0 [(0, tA a0), (1, tI a1)] [] h 0 0 (f_X8_worth h a0 a1)
  unfold f_X8_worth
  refine s_aload_n (i := 0) rfl 0 rfl ?_
  refine s_getR (i := 1) rfl xf_8_26.r rfl (fun v1 => ?_)
  refine s_iload_n (i := 2) rfl 1 rfl ?_
  refine u_callVi (kk := 1) [tI a1] v1 [] rfl (i := 3) rfl (c_X1_isOne h v1 a1) xm_X1_isOne (tw516) rfl (Nat.le_of_ble_eq_true rfl) (xRm.of rfl) ⟨rfl, rfl⟩ (fun q2 => ?_)
  refine s_ifeq (i := 4) rfl (tgt := 22) (by decide) (fun z8 => ?_) (fun z8 => ?_)
  · refine s_ldc (i := 10) rfl (v := (-100000 : Int32)) (tw668) ?_
    exact s_sub [] rfl (b_X8_worth_24 X q2.2 ((-100000 : Int32)))
  · refine s_aload_n (i := 5) rfl 0 rfl ?_
    refine s_getR (i := 6) rfl xf_8_26.r rfl (fun v3 => ?_)
    refine s_iload_n (i := 7) rfl 1 rfl ?_
    refine u_callVi (kk := 1) [tI a1] v3 [] rfl (i := 8) rfl (c_X1_worthOf q2.2 v3 a1) xm_X1_worthOf (tw664) rfl (Nat.le_of_ble_eq_true rfl) (xRm.of rfl) ⟨rfl, rfl⟩ (fun q4 => ?_)
    refine s_goto (i := 9) rfl (tgt := 24) (by decide) ?_
    exact s_sub [] rfl (b_X8_worth_24 X q4.2 q4.1)
def y_X8_digitsOf : MethodName := ⟨"OpensAtNine", "digitsOf", "(I)I"⟩
def T_X8_digitsOf : List (Nat × Instr × Nat × Nat) := [(0, .iconst 0, 1, 1), (1, .istore_n 1, 1, 2), (2, .iload_n 1, 1, 3), (3, .getstatic 185, 3, 6), (6, .arraylength, 1, 7), (7, .if_icmp .ge 18, 3, 10), (10, .iload_n 0, 1, 11), (11, .getstatic 185, 3, 14), (14, .iload_n 1, 1, 15), (15, .iaload, 1, 16), (16, .if_icmp .lt 9, 3, 19), (19, .iinc 1 1, 3, 22), (22, .goto (-20), 3, 25), (25, .iload_n 1, 1, 26), (26, .ireturn, 1, 27)]
def I_X8_digitsOf : MI := (prog_1_method_17_code, 2, (some .int), "OpensAtNine", "digitsOf", T_X8_digitsOf, 0, 0, 1, 60)
theorem dT_X8_digitsOf : ∀ q ∈ T_X8_digitsOf, decode prog_1_method_17_code q.1 = .ok (q.2.1, q.2.2.1) ∧ q.2.2.2 = q.1 + q.2.2.1 := by decide +kernel
theorem xm_X8_digitsOf : xCS y_X8_digitsOf I_X8_digitsOf 1 := ⟨tw720, tw69, tw721, ⟨by decide +kernel, by decide +kernel, by decide +kernel⟩⟩
noncomputable def f_X8_digitsOf_25 (h : XM) (l1 : Int32) : Option (Int32 × XM) := some (l1, h)
noncomputable def fb_X8_digitsOf_2 (k_2 : XM → Int32 → Int32 → Option (Int32 × XM)) (h : XM) (l0 : Int32) (l1 : Int32) : Option (Int32 × XM) := (lnK 2).bind fun v1 => if l1 < v1 then ((rT l1).bind fun v2 => if l0 < v2 then (f_X8_digitsOf_25 h l1) else (bnd (l1 + (1 : Int32)) fun v3 => k_2 h l0 v3)) else (f_X8_digitsOf_25 h l1)
noncomputable def f_X8_digitsOf_2 (n : Nat) : XM → Int32 → Int32 → Option (Int32 × XM) := Nat.rec (motive := fun _ => XM → Int32 → Int32 → Option (Int32 × XM)) (fun _ _ _ => none) (fun _ ih h l0 l1 => fb_X8_digitsOf_2 ih h l0 l1) n
noncomputable def f_X8_digitsOf (h : XM) (a0 : Int32) : Option (Int32 × XM) := f_X8_digitsOf_2 FU h a0 ((0 : Int32))
theorem b_X8_digitsOf_25 (X : XX) (h : XM) (l1 : Int32) : SW X I_X8_digitsOf ρi 25 [(1, tI l1)] [] h 0 0 (f_X8_digitsOf_25 h l1) := by
  unfold f_X8_digitsOf_25
  refine s_iload_n (i := 13) rfl 0 rfl ?_
  exact s_iret (i := 14) rfl rfl
theorem bb_X8_digitsOf_2 (X : XX) (k_2 : XM → Int32 → Int32 → Option (Int32 × XM)) (hk_2 : ∀ h l0 l1, SW X I_X8_digitsOf ρi 2 [(0, tI l0), (1, tI l1)] [] h 0 0 (k_2 h l0 l1)) (h : XM) (l0 : Int32) (l1 : Int32) : SW X I_X8_digitsOf ρi 2 [(0, tI l0), (1, tI l1)] [] h 0 0 (fb_X8_digitsOf_2 k_2 h l0 l1) := by
  unfold fb_X8_digitsOf_2
  refine s_iload_n (i := 2) rfl 1 rfl ?_
  refine s_getTens (i := 3) rfl (tw722) ?_
  refine s_alenK (i := 4) rfl (fun v1 => ?_)
  refine s_icmpge (i := 5) rfl (tgt := 25) (by decide) (fun z7 => ?_) (fun z7 => ?_)
  · refine s_iload_n (i := 6) rfl 0 rfl ?_
    refine s_getTens (i := 7) rfl (tw722) ?_
    refine s_iload_n (i := 8) rfl 1 rfl ?_
    refine s_ialoadK (i := 9) rfl (fun v2 => ?_)
    refine s_icmplt (i := 10) rfl (tgt := 25) (by decide) (fun z16 => ?_) (fun z16 => ?_)
    · exact s_sub [1] rfl (b_X8_digitsOf_25 X h l1)
    · refine s_inc (i := 11) rfl 1 rfl (c9 := (1 : Int32)) (by decide) (Nat.le_of_ble_eq_true rfl) (fun v3 => ?_)
      refine s_ls (ls2 := [(1, tI v3), (0, tI l0)]) rfl ?_
      refine s_goto (i := 12) rfl (tgt := 2) (by decide) ?_
      exact s_sub [1, 0] rfl (hk_2 h l0 v3)
  · exact s_sub [1] rfl (b_X8_digitsOf_25 X h l1)
theorem b_X8_digitsOf_2 (X : XX) : ∀ (n : Nat) (h : XM) (l0 : Int32) (l1 : Int32), SW X I_X8_digitsOf ρi 2 [(0, tI l0), (1, tI l1)] [] h 0 0 (f_X8_digitsOf_2 n h l0 l1) := by
  intro n
  induction n with
  | zero =>
    intro h l0 l1
    exact s_none
  | succ n ih =>
    intro h l0 l1
    exact bb_X8_digitsOf_2 X (f_X8_digitsOf_2 n) ih h l0 l1
theorem c_X8_digitsOf (h : XM) (a0 : Int32) : MC I_X8_digitsOf y_X8_digitsOf [tI a0] h ρi (f_X8_digitsOf h a0) := by
  refine MC_of ⟨by decide +kernel, rfl, rfl, Nat.le_of_ble_eq_true rfl⟩ dT_X8_digitsOf (fun X => ?_)
  show SW X I_X8_digitsOf ρi 0 [(0, tI a0)] [] h 0 0 (f_X8_digitsOf h a0)
  unfold f_X8_digitsOf
  refine s_iconst (i := 0) rfl (v := (0 : Int32)) (by decide) ?_
  refine s_istore_n (i := 1) rfl (Nat.le_of_ble_eq_true rfl) (ls2 := [(1, tI ((0 : Int32))), (0, tI a0)]) rfl ?_
  exact s_sub [1, 0] rfl (b_X8_digitsOf_2 X FU h a0 ((0 : Int32)))
def y_X8_gang : MethodName := ⟨"OpensAtNine", "gang", "(II)I"⟩
def T_X8_gang : List (Nat × Instr × Nat × Nat) := [(0, .iload_n 1, 1, 1), (1, .ifCond .le 16, 3, 4), (4, .iload_n 1, 1, 5), (5, .iconst 1, 1, 6), (6, .aload_n 0, 1, 7), (7, .getfield 26, 3, 10), (10, .getfield 96, 3, 13), (13, .ishl, 1, 14), (14, .if_icmp .lt 6, 3, 17), (17, .bipush (-5), 2, 19), (19, .ireturn, 1, 20), (20, .iload_n 2, 1, 21), (21, .ifCond .lt 8, 3, 24), (24, .iload_n 2, 1, 25), (25, .iconst 2, 1, 26), (26, .if_icmp .le 6, 3, 29), (29, .bipush (-7), 2, 31), (31, .ireturn, 1, 32), (32, .aload_n 0, 1, 33), (33, .getfield 44, 3, 36), (36, .aload_n 0, 1, 37), (37, .getfield 26, 3, 40), (40, .iload_n 1, 1, 41), (41, .invokevirtual 175, 3, 44), (44, .istore_n 3, 1, 45), (45, .iload_n 3, 1, 46), (46, .iconst (-1), 1, 47), (47, .if_icmp .eq 7, 3, 50), (50, .iload_n 2, 1, 51), (51, .ifCond .ne 5, 3, 54), (54, .iload_n 3, 1, 55), (55, .ireturn, 1, 56), (56, .iload_n 2, 1, 57), (57, .iconst 1, 1, 58), (58, .if_icmp .ne 16, 3, 61), (61, .aload_n 0, 1, 62), (62, .getfield 44, 3, 65), (65, .getfield 179, 3, 68), (68, .invokestatic 182, 3, 71), (71, .goto 10, 3, 74), (74, .aload_n 0, 1, 75), (75, .getfield 44, 3, 78), (78, .getfield 179, 3, 81), (81, .ireturn, 1, 82)]
def I_X8_gang : MI := (prog_1_method_16_code, 4, (some .int), "OpensAtNine", "gang", T_X8_gang, 0, 0, 19, 586)
theorem dT_X8_gang : ∀ q ∈ T_X8_gang, decode prog_1_method_16_code q.1 = .ok (q.2.1, q.2.2.1) ∧ q.2.2.2 = q.1 + q.2.2.1 := by decide +kernel
theorem xm_X8_gang : xCM y_X8_gang I_X8_gang 8 2 := ⟨⟨tw670, tw671⟩, tw69, tw672, ⟨xT8, 11, rfl⟩, ⟨by decide +kernel, by decide +kernel, by decide +kernel⟩⟩
noncomputable def f_X8_gang_17 (h : XM) : Option (Int32 × XM) := some ((-5 : Int32), h)
noncomputable def f_X8_gang_29 (h : XM) : Option (Int32 × XM) := some ((-7 : Int32), h)
noncomputable def f_X8_gang_54 (h : XM) (l3 : Int32) : Option (Int32 × XM) := some (l3, h)
noncomputable def f_X8_gang_81 (h : XM) (s0 : Int32) : Option (Int32 × XM) := some (s0, h)
noncomputable def f_X8_gang (h : XM) (a0 : Option Nat) (a1 : Int32) (a2 : Int32) : Option (Int32 × XM) := if 0 < a1 then ((gR h 8 a0 2).bind fun v1 => (gI h 1 v1 7).bind fun v2 => if a1 < (((1 : Int32)) <<< (v2 &&& 31)) then (if a2 < 0 then (f_X8_gang_29 h) else (if ((2 : Int32)) < a2 then (f_X8_gang_29 h) else ((gR h 8 a0 5).bind fun v3 => (gR h 8 a0 2).bind fun v4 => (vc h 7 v3 (f_X7_cheapest h v3 v4 a1)).bind fun q5 => if q5.1 = ((-1 : Int32)) then (f_X8_gang_54 q5.2 q5.1) else (if a2 = 0 then (f_X8_gang_54 q5.2 q5.1) else (if a2 = ((1 : Int32)) then ((gR q5.2 8 a0 5).bind fun v6 => (gI q5.2 7 v6 5).bind fun v7 => (f_X8_digitsOf q5.2 v7).bind fun q8 => f_X8_gang_81 q8.2 q8.1) else ((gR q5.2 8 a0 5).bind fun v9 => (gI q5.2 7 v9 5).bind fun v10 => f_X8_gang_81 q5.2 v10)))))) else (f_X8_gang_17 h)) else (f_X8_gang_17 h)
theorem b_X8_gang_17 (X : XX) (h : XM) : SW X I_X8_gang ρi 17 [] [] h 0 0 (f_X8_gang_17 h) := by
  unfold f_X8_gang_17
  refine s_bipush (i := 9) rfl (v := (-5 : Int32)) (by decide) ?_
  exact s_iret (i := 10) rfl rfl
theorem b_X8_gang_29 (X : XX) (h : XM) : SW X I_X8_gang ρi 29 [] [] h 0 0 (f_X8_gang_29 h) := by
  unfold f_X8_gang_29
  refine s_bipush (i := 16) rfl (v := (-7 : Int32)) (by decide) ?_
  exact s_iret (i := 17) rfl rfl
theorem b_X8_gang_54 (X : XX) (h : XM) (l3 : Int32) : SW X I_X8_gang ρi 54 [(3, tI l3)] [] h 0 0 (f_X8_gang_54 h l3) := by
  unfold f_X8_gang_54
  refine s_iload_n (i := 30) rfl 0 rfl ?_
  exact s_iret (i := 31) rfl rfl
theorem b_X8_gang_81 (X : XX) (h : XM) (s0 : Int32) : SW X I_X8_gang ρi 81 [] [tI s0] h 0 0 (f_X8_gang_81 h s0) := by
  unfold f_X8_gang_81
  exact s_iret (i := 43) rfl rfl
theorem c_X8_gang (h : XM) (a0 : Option Nat) (a1 : Int32) (a2 : Int32) : MC I_X8_gang y_X8_gang [tA a0, tI a1, tI a2] h ρi (f_X8_gang h a0 a1 a2) := by
  refine MC_of ⟨by decide +kernel, rfl, rfl, Nat.le_of_ble_eq_true rfl⟩ dT_X8_gang (fun X => ?_)
  show SW X I_X8_gang ρi 0 [(0, tA a0), (1, tI a1), (2, tI a2)] [] h 0 0 (f_X8_gang h a0 a1 a2)
  unfold f_X8_gang
  refine s_iload_n (i := 0) rfl 1 rfl ?_
  refine s_ifle (i := 1) rfl (tgt := 17) (by decide) (fun z1 => ?_) (fun z1 => ?_)
  · refine s_iload_n (i := 2) rfl 1 rfl ?_
    refine s_iconst (i := 3) rfl (v := (1 : Int32)) (by decide) ?_
    refine s_aload_n (i := 4) rfl 0 rfl ?_
    refine s_getR (i := 5) rfl xf_8_26.r rfl (fun v1 => ?_)
    refine s_getI (i := 6) rfl xf_8_96.r rfl (fun v2 => ?_)
    refine s_ishl (i := 7) rfl ?_
    refine s_icmplt (i := 8) rfl (tgt := 20) (by decide) (fun z14 => ?_) (fun z14 => ?_)
    · refine s_iload_n (i := 11) rfl 2 rfl ?_
      refine s_iflt (i := 12) rfl (tgt := 29) (by decide) (fun z21 => ?_) (fun z21 => ?_)
      · exact s_sub [] rfl (b_X8_gang_29 X h)
      · refine s_iload_n (i := 13) rfl 2 rfl ?_
        refine s_iconst (i := 14) rfl (v := (2 : Int32)) (by decide) ?_
        refine s_icmple (i := 15) rfl (tgt := 32) (by decide) (fun z26 => ?_) (fun z26 => ?_)
        · exact s_sub [] rfl (b_X8_gang_29 X h)
        · refine s_aload_n (i := 18) rfl 0 rfl ?_
          refine s_getR (i := 19) rfl xf_8_44.r rfl (fun v3 => ?_)
          refine s_aload_n (i := 20) rfl 0 rfl ?_
          refine s_getR (i := 21) rfl xf_8_26.r rfl (fun v4 => ?_)
          refine s_iload_n (i := 22) rfl 1 rfl ?_
          refine u_callVi (kk := 7) [tA v4, tI a1] v3 [] rfl (i := 23) rfl (c_X7_cheapest h v3 v4 a1) xm_X7_cheapest (tw673) rfl (Nat.le_of_ble_eq_true rfl) (xRm.of rfl) ⟨rfl, rfl⟩ (fun q5 => ?_)
          refine s_istore_n (i := 24) rfl (Nat.le_of_ble_eq_true rfl) (ls2 := [(3, tI q5.1), (0, tA a0), (1, tI a1), (2, tI a2)]) rfl ?_
          refine s_iload_n (i := 25) rfl 0 rfl ?_
          refine s_iconst (i := 26) rfl (v := (-1 : Int32)) (by decide) ?_
          refine s_icmpeq (i := 27) rfl (tgt := 54) (by decide) (fun z47 => ?_) (fun z47 => ?_)
          · exact s_sub [0] rfl (b_X8_gang_54 X q5.2 q5.1)
          · refine s_iload_n (i := 28) rfl 3 rfl ?_
            refine s_ifne (i := 29) rfl (tgt := 56) (by decide) (fun z51 => ?_) (fun z51 => ?_)
            · exact s_sub [0] rfl (b_X8_gang_54 X q5.2 q5.1)
            · refine s_iload_n (i := 32) rfl 3 rfl ?_
              refine s_iconst (i := 33) rfl (v := (1 : Int32)) (by decide) ?_
              refine s_icmpne (i := 34) rfl (tgt := 74) (by decide) (fun z58 => ?_) (fun z58 => ?_)
              · refine s_aload_n (i := 35) rfl 1 rfl ?_
                refine s_getR (i := 36) rfl xf_8_44.r rfl (fun v6 => ?_)
                refine s_getI (i := 37) rfl xf_8_179.r rfl (fun v7 => ?_)
                refine u_callSi [tI v7] [] rfl (i := 38) rfl (c_X8_digitsOf q5.2 v7) xm_X8_digitsOf (tw719) rfl (Nat.le_of_ble_eq_true rfl) (xRm.of rfl) ⟨rfl, rfl⟩ (fun q8 => ?_)
                refine s_goto (i := 39) rfl (tgt := 81) (by decide) ?_
                exact s_sub [] rfl (b_X8_gang_81 X q8.2 q8.1)
              · refine s_aload_n (i := 40) rfl 1 rfl ?_
                refine s_getR (i := 41) rfl xf_8_44.r rfl (fun v9 => ?_)
                refine s_getI (i := 42) rfl xf_8_179.r rfl (fun v10 => ?_)
                exact s_sub [] rfl (b_X8_gang_81 X q5.2 v10)
    · exact s_sub [] rfl (b_X8_gang_17 X h)
  · exact s_sub [] rfl (b_X8_gang_17 X h)
def y_X8_spare : MethodName := ⟨"OpensAtNine", "spare", "(II)I"⟩
def T_X8_spare : List (Nat × Instr × Nat × Nat) := [(0, .aload_n 0, 1, 1), (1, .getfield 26, 3, 4), (4, .iload_n 1, 1, 5), (5, .invokevirtual 99, 3, 8), (8, .ifCond .eq 19, 3, 11), (11, .aload_n 0, 1, 12), (12, .getfield 26, 3, 15), (15, .iload_n 2, 1, 16), (16, .invokevirtual 99, 3, 19), (19, .ifCond .eq 8, 3, 22), (22, .iload_n 1, 1, 23), (23, .iload_n 2, 1, 24), (24, .if_icmp .ne 6, 3, 27), (27, .ldc 174, 2, 29), (29, .ireturn, 1, 30), (30, .aload_n 0, 1, 31), (31, .getfield 44, 3, 34), (34, .aload_n 0, 1, 35), (35, .getfield 26, 3, 38), (38, .iconst 1, 1, 39), (39, .iload_n 1, 1, 40), (40, .ishl, 1, 41), (41, .invokevirtual 175, 3, 44), (44, .istore_n 3, 1, 45), (45, .iload_n 3, 1, 46), (46, .iconst (-1), 1, 47), (47, .if_icmp .ne 5, 3, 50), (50, .iconst (-1), 1, 51), (51, .ireturn, 1, 52), (52, .aload_n 0, 1, 53), (53, .getfield 33, 3, 56), (56, .aload_n 0, 1, 57), (57, .getfield 26, 3, 60), (60, .invokevirtual 189, 3, 63), (63, .aload_n 0, 1, 64), (64, .getfield 33, 3, 67), (67, .aload_n 0, 1, 68), (68, .getfield 44, 3, 71), (71, .getfield 179, 3, 74), (74, .invokevirtual 193, 3, 77), (77, .aload_n 0, 1, 78), (78, .getfield 44, 3, 81), (81, .aload_n 0, 1, 82), (82, .getfield 33, 3, 85), (85, .iconst 1, 1, 86), (86, .iload_n 2, 1, 87), (87, .ishl, 1, 88), (88, .invokevirtual 175, 3, 91), (91, .istore 4, 2, 93), (93, .aload_n 0, 1, 94), (94, .getfield 44, 3, 97), (97, .aload_n 0, 1, 98), (98, .getfield 26, 3, 101), (101, .iconst 1, 1, 102), (102, .iload_n 1, 1, 103), (103, .ishl, 1, 104), (104, .iconst 1, 1, 105), (105, .iload_n 2, 1, 106), (106, .ishl, 1, 107), (107, .ior, 1, 108), (108, .invokevirtual 175, 3, 111), (111, .istore 5, 2, 113), (113, .iload 4, 2, 115), (115, .iconst (-1), 1, 116), (116, .if_icmp .eq 9, 3, 119), (119, .iload 5, 2, 121), (121, .iconst (-1), 1, 122), (122, .if_icmp .ne 5, 3, 125), (125, .iconst (-1), 1, 126), (126, .ireturn, 1, 127), (127, .iload_n 3, 1, 128), (128, .iload 4, 2, 130), (130, .iadd, 1, 131), (131, .iload 5, 2, 133), (133, .isub, 1, 134), (134, .ireturn, 1, 135)]
def I_X8_spare : MI := (prog_1_method_18_code, 6, (some .int), "OpensAtNine", "spare", T_X8_spare, 0, 0, 19, 586)
theorem dT_X8_spare : ∀ q ∈ T_X8_spare, decode prog_1_method_18_code q.1 = .ok (q.2.1, q.2.2.1) ∧ q.2.2.2 = q.1 + q.2.2.1 := by decide +kernel
theorem xm_X8_spare : xCM y_X8_spare I_X8_spare 8 2 := ⟨⟨tw725, tw726⟩, tw69, tw727, ⟨xT8, 11, rfl⟩, ⟨by decide +kernel, by decide +kernel, by decide +kernel⟩⟩
noncomputable def f_X8_spare_27 (h : XM) : Option (Int32 × XM) := some ((-100000 : Int32), h)
noncomputable def f_X8_spare_125 (h : XM) : Option (Int32 × XM) := some ((-1 : Int32), h)
noncomputable def f_X8_spare (h : XM) (a0 : Option Nat) (a1 : Int32) (a2 : Int32) : Option (Int32 × XM) := (gR h 8 a0 2).bind fun v1 => (vc h 1 v1 (f_X1_isOne h v1 a1)).bind fun q2 => if q2.1 = 0 then (f_X8_spare_27 q2.2) else ((gR q2.2 8 a0 2).bind fun v3 => (vc q2.2 1 v3 (f_X1_isOne q2.2 v3 a2)).bind fun q4 => if q4.1 = 0 then (f_X8_spare_27 q4.2) else (if a1 = a2 then (f_X8_spare_27 q4.2) else ((gR q4.2 8 a0 5).bind fun v5 => (gR q4.2 8 a0 2).bind fun v6 => (vc q4.2 7 v5 (f_X7_cheapest q4.2 v5 v6 (((1 : Int32)) <<< (a1 &&& 31)))).bind fun q7 => if q7.1 = ((-1 : Int32)) then (some ((-1 : Int32), q7.2)) else ((gR q7.2 8 a0 4).bind fun v8 => (gR q7.2 8 a0 2).bind fun v9 => (vc q7.2 1 v8 (f_X1_become q7.2 v8 v9)).bind fun q10 => (gR q10 8 a0 4).bind fun v11 => (gR q10 8 a0 5).bind fun v12 => (gI q10 7 v12 5).bind fun v13 => (vc q10 1 v11 (f_X1_follow q10 v11 v13)).bind fun q14 => (gR q14 8 a0 5).bind fun v15 => (gR q14 8 a0 4).bind fun v16 => (vc q14 7 v15 (f_X7_cheapest q14 v15 v16 (((1 : Int32)) <<< (a2 &&& 31)))).bind fun q17 => (gR q17.2 8 a0 5).bind fun v18 => (gR q17.2 8 a0 2).bind fun v19 => (vc q17.2 7 v18 (f_X7_cheapest q17.2 v18 v19 ((((1 : Int32)) <<< (a1 &&& 31)) ||| (((1 : Int32)) <<< (a2 &&& 31))))).bind fun q20 => if q17.1 = ((-1 : Int32)) then (f_X8_spare_125 q20.2) else (if q20.1 = ((-1 : Int32)) then (f_X8_spare_125 q20.2) else (some ((q7.1 + q17.1) - q20.1, q20.2)))))))
theorem b_X8_spare_27 (X : XX) (h : XM) : SW X I_X8_spare ρi 27 [] [] h 0 0 (f_X8_spare_27 h) := by
  unfold f_X8_spare_27
  refine s_ldc (i := 13) rfl (v := (-100000 : Int32)) (tw668) ?_
  exact s_iret (i := 14) rfl rfl
theorem b_X8_spare_125 (X : XX) (h : XM) : SW X I_X8_spare ρi 125 [] [] h 0 0 (f_X8_spare_125 h) := by
  unfold f_X8_spare_125
  refine s_iconst (i := 68) rfl (v := (-1 : Int32)) (by decide) ?_
  exact s_iret (i := 69) rfl rfl
theorem c_X8_spare (h : XM) (a0 : Option Nat) (a1 : Int32) (a2 : Int32) : MC I_X8_spare y_X8_spare [tA a0, tI a1, tI a2] h ρi (f_X8_spare h a0 a1 a2) := by
  refine MC_of ⟨by decide +kernel, rfl, rfl, Nat.le_of_ble_eq_true rfl⟩ dT_X8_spare (fun X => ?_)
  show SW X I_X8_spare ρi 0 [(0, tA a0), (1, tI a1), (2, tI a2)] [] h 0 0 (f_X8_spare h a0 a1 a2)
  unfold f_X8_spare
  refine s_aload_n (i := 0) rfl 0 rfl ?_
  refine s_getR (i := 1) rfl xf_8_26.r rfl (fun v1 => ?_)
  refine s_iload_n (i := 2) rfl 1 rfl ?_
  refine u_callVi (kk := 1) [tI a1] v1 [] rfl (i := 3) rfl (c_X1_isOne h v1 a1) xm_X1_isOne (tw516) rfl (Nat.le_of_ble_eq_true rfl) (xRm.of rfl) ⟨rfl, rfl⟩ (fun q2 => ?_)
  refine s_ifeq (i := 4) rfl (tgt := 27) (by decide) (fun z8 => ?_) (fun z8 => ?_)
  · exact s_sub [] rfl (b_X8_spare_27 X q2.2)
  · refine s_aload_n (i := 5) rfl 0 rfl ?_
    refine s_getR (i := 6) rfl xf_8_26.r rfl (fun v3 => ?_)
    refine s_iload_n (i := 7) rfl 2 rfl ?_
    refine u_callVi (kk := 1) [tI a2] v3 [] rfl (i := 8) rfl (c_X1_isOne q2.2 v3 a2) xm_X1_isOne (tw516) rfl (Nat.le_of_ble_eq_true rfl) (xRm.of rfl) ⟨rfl, rfl⟩ (fun q4 => ?_)
    refine s_ifeq (i := 9) rfl (tgt := 27) (by decide) (fun z19 => ?_) (fun z19 => ?_)
    · exact s_sub [] rfl (b_X8_spare_27 X q4.2)
    · refine s_iload_n (i := 10) rfl 1 rfl ?_
      refine s_iload_n (i := 11) rfl 2 rfl ?_
      refine s_icmpne (i := 12) rfl (tgt := 30) (by decide) (fun z24 => ?_) (fun z24 => ?_)
      · exact s_sub [] rfl (b_X8_spare_27 X q4.2)
      · refine s_aload_n (i := 15) rfl 0 rfl ?_
        refine s_getR (i := 16) rfl xf_8_44.r rfl (fun v5 => ?_)
        refine s_aload_n (i := 17) rfl 0 rfl ?_
        refine s_getR (i := 18) rfl xf_8_26.r rfl (fun v6 => ?_)
        refine s_iconst (i := 19) rfl (v := (1 : Int32)) (by decide) ?_
        refine s_iload_n (i := 20) rfl 1 rfl ?_
        refine s_ishl (i := 21) rfl ?_
        refine u_callVi (kk := 7) [tA v6, tI (((1 : Int32)) <<< (a1 &&& 31))] v5 [] rfl (i := 22) rfl (c_X7_cheapest q4.2 v5 v6 (((1 : Int32)) <<< (a1 &&& 31))) xm_X7_cheapest (tw673) rfl (Nat.le_of_ble_eq_true rfl) (xRm.of rfl) ⟨rfl, rfl⟩ (fun q7 => ?_)
        refine s_istore_n (i := 23) rfl (Nat.le_of_ble_eq_true rfl) (ls2 := [(3, tI q7.1), (0, tA a0), (1, tI a1), (2, tI a2)]) rfl ?_
        refine s_iload_n (i := 24) rfl 0 rfl ?_
        refine s_iconst (i := 25) rfl (v := (-1 : Int32)) (by decide) ?_
        refine s_icmpne (i := 26) rfl (tgt := 52) (by decide) (fun z47 => ?_) (fun z47 => ?_)
        · refine s_iconst (i := 27) rfl (v := (-1 : Int32)) (by decide) ?_
          exact s_iret (i := 28) rfl rfl
        · refine s_aload_n (i := 29) rfl 1 rfl ?_
          refine s_getR (i := 30) rfl xf_8_33.r rfl (fun v8 => ?_)
          refine s_aload_n (i := 31) rfl 1 rfl ?_
          refine s_getR (i := 32) rfl xf_8_26.r rfl (fun v9 => ?_)
          refine u_callVv (kk := 1) [tA v9] v8 [] rfl (i := 33) rfl (c_X1_become q7.2 v8 v9) xm_X1_become (tw728) rfl (Nat.le_of_ble_eq_true rfl) (xRm.of rfl) ⟨rfl, rfl⟩ (fun q10 => ?_)
          refine s_aload_n (i := 34) rfl 1 rfl ?_
          refine s_getR (i := 35) rfl xf_8_33.r rfl (fun v11 => ?_)
          refine s_aload_n (i := 36) rfl 1 rfl ?_
          refine s_getR (i := 37) rfl xf_8_44.r rfl (fun v12 => ?_)
          refine s_getI (i := 38) rfl xf_8_179.r rfl (fun v13 => ?_)
          refine u_callVv (kk := 1) [tI v13] v11 [] rfl (i := 39) rfl (c_X1_follow q10 v11 v13) xm_X1_follow (tw729) rfl (Nat.le_of_ble_eq_true rfl) (xRm.of rfl) ⟨rfl, rfl⟩ (fun q14 => ?_)
          refine s_aload_n (i := 40) rfl 1 rfl ?_
          refine s_getR (i := 41) rfl xf_8_44.r rfl (fun v15 => ?_)
          refine s_aload_n (i := 42) rfl 1 rfl ?_
          refine s_getR (i := 43) rfl xf_8_33.r rfl (fun v16 => ?_)
          refine s_iconst (i := 44) rfl (v := (1 : Int32)) (by decide) ?_
          refine s_iload_n (i := 45) rfl 3 rfl ?_
          refine s_ishl (i := 46) rfl ?_
          refine u_callVi (kk := 7) [tA v16, tI (((1 : Int32)) <<< (a2 &&& 31))] v15 [] rfl (i := 47) rfl (c_X7_cheapest q14 v15 v16 (((1 : Int32)) <<< (a2 &&& 31))) xm_X7_cheapest (tw673) rfl (Nat.le_of_ble_eq_true rfl) (xRm.of rfl) ⟨rfl, rfl⟩ (fun q17 => ?_)
          refine s_istore (i := 48) rfl (Nat.le_of_ble_eq_true rfl) (ls2 := [(4, tI q17.1), (3, tI q7.1), (0, tA a0), (1, tI a1), (2, tI a2)]) rfl ?_
          refine s_aload_n (i := 49) rfl 2 rfl ?_
          refine s_getR (i := 50) rfl xf_8_44.r rfl (fun v18 => ?_)
          refine s_aload_n (i := 51) rfl 2 rfl ?_
          refine s_getR (i := 52) rfl xf_8_26.r rfl (fun v19 => ?_)
          refine s_iconst (i := 53) rfl (v := (1 : Int32)) (by decide) ?_
          refine s_iload_n (i := 54) rfl 3 rfl ?_
          refine s_ishl (i := 55) rfl ?_
          refine s_iconst (i := 56) rfl (v := (1 : Int32)) (by decide) ?_
          refine s_iload_n (i := 57) rfl 4 rfl ?_
          refine s_ishl (i := 58) rfl ?_
          refine s_ior (i := 59) rfl ?_
          refine u_callVi (kk := 7) [tA v19, tI ((((1 : Int32)) <<< (a1 &&& 31)) ||| (((1 : Int32)) <<< (a2 &&& 31)))] v18 [] rfl (i := 60) rfl (c_X7_cheapest q17.2 v18 v19 ((((1 : Int32)) <<< (a1 &&& 31)) ||| (((1 : Int32)) <<< (a2 &&& 31)))) xm_X7_cheapest (tw673) rfl (Nat.le_of_ble_eq_true rfl) (xRm.of rfl) ⟨rfl, rfl⟩ (fun q20 => ?_)
          refine s_istore (i := 61) rfl (Nat.le_of_ble_eq_true rfl) (ls2 := [(5, tI q20.1), (4, tI q17.1), (3, tI q7.1), (0, tA a0), (1, tI a1), (2, tI a2)]) rfl ?_
          refine s_iload (i := 62) rfl 1 rfl ?_
          refine s_iconst (i := 63) rfl (v := (-1 : Int32)) (by decide) ?_
          refine s_icmpeq (i := 64) rfl (tgt := 125) (by decide) (fun z116 => ?_) (fun z116 => ?_)
          · exact s_sub [] rfl (b_X8_spare_125 X q20.2)
          · refine s_iload (i := 65) rfl 0 rfl ?_
            refine s_iconst (i := 66) rfl (v := (-1 : Int32)) (by decide) ?_
            refine s_icmpne (i := 67) rfl (tgt := 127) (by decide) (fun z122 => ?_) (fun z122 => ?_)
            · exact s_sub [] rfl (b_X8_spare_125 X q20.2)
            · refine s_iload_n (i := 70) rfl 2 rfl ?_
              refine s_iload (i := 71) rfl 1 rfl ?_
              refine s_iadd (i := 72) rfl ?_
              refine s_iload (i := 73) rfl 0 rfl ?_
              refine s_isub (i := 74) rfl ?_
              exact s_iret (i := 75) rfl rfl
def y_X8_reach : MethodName := ⟨"OpensAtNine", "reach", "(I)I"⟩
def T_X8_reach : List (Nat × Instr × Nat × Nat) := [(0, .aload_n 0, 1, 1), (1, .getfield 26, 3, 4), (4, .iload_n 1, 1, 5), (5, .invokevirtual 99, 3, 8), (8, .ifCond .eq 18, 3, 11), (11, .aload_n 0, 1, 12), (12, .getfield 44, 3, 15), (15, .aload_n 0, 1, 16), (16, .getfield 26, 3, 19), (19, .iload_n 1, 1, 20), (20, .invokevirtual 196, 3, 23), (23, .goto 5, 3, 26), (26, .bipush (-5), 2, 28), (28, .ireturn, 1, 29)]
def I_X8_reach : MI := (prog_1_method_19_code, 2, (some .int), "OpensAtNine", "reach", T_X8_reach, 0, 0, 18, 482)
theorem dT_X8_reach : ∀ q ∈ T_X8_reach, decode prog_1_method_19_code q.1 = .ok (q.2.1, q.2.2.1) ∧ q.2.2.2 = q.1 + q.2.2.1 := by decide +kernel
theorem xm_X8_reach : xCM y_X8_reach I_X8_reach 8 1 := ⟨⟨tw736, tw737⟩, tw69, tw738, ⟨xT8, 11, rfl⟩, ⟨by decide +kernel, by decide +kernel, by decide +kernel⟩⟩
noncomputable def f_X8_reach_28 (h : XM) (s0 : Int32) : Option (Int32 × XM) := some (s0, h)
noncomputable def f_X8_reach (h : XM) (a0 : Option Nat) (a1 : Int32) : Option (Int32 × XM) := (gR h 8 a0 2).bind fun v1 => (vc h 1 v1 (f_X1_isOne h v1 a1)).bind fun q2 => if q2.1 = 0 then (f_X8_reach_28 q2.2 ((-5 : Int32))) else ((gR q2.2 8 a0 5).bind fun v3 => (gR q2.2 8 a0 2).bind fun v4 => (vc q2.2 7 v3 (f_X7_restsBy q2.2 v3 v4 a1)).bind fun q5 => f_X8_reach_28 q5.2 q5.1)
theorem b_X8_reach_28 (X : XX) (h : XM) (s0 : Int32) : SW X I_X8_reach ρi 28 [] [tI s0] h 0 0 (f_X8_reach_28 h s0) := by
  unfold f_X8_reach_28
  exact s_iret (i := 13) rfl rfl
theorem c_X8_reach (h : XM) (a0 : Option Nat) (a1 : Int32) : MC I_X8_reach y_X8_reach [tA a0, tI a1] h ρi (f_X8_reach h a0 a1) := by
  refine MC_of ⟨by decide +kernel, rfl, rfl, Nat.le_of_ble_eq_true rfl⟩ dT_X8_reach (fun X => ?_)
  show SW X I_X8_reach ρi 0 [(0, tA a0), (1, tI a1)] [] h 0 0 (f_X8_reach h a0 a1)
  unfold f_X8_reach
  refine s_aload_n (i := 0) rfl 0 rfl ?_
  refine s_getR (i := 1) rfl xf_8_26.r rfl (fun v1 => ?_)
  refine s_iload_n (i := 2) rfl 1 rfl ?_
  refine u_callVi (kk := 1) [tI a1] v1 [] rfl (i := 3) rfl (c_X1_isOne h v1 a1) xm_X1_isOne (tw516) rfl (Nat.le_of_ble_eq_true rfl) (xRm.of rfl) ⟨rfl, rfl⟩ (fun q2 => ?_)
  refine s_ifeq (i := 4) rfl (tgt := 26) (by decide) (fun z8 => ?_) (fun z8 => ?_)
  · refine s_bipush (i := 12) rfl (v := (-5 : Int32)) (by decide) ?_
    exact s_sub [] rfl (b_X8_reach_28 X q2.2 ((-5 : Int32)))
  · refine s_aload_n (i := 5) rfl 0 rfl ?_
    refine s_getR (i := 6) rfl xf_8_44.r rfl (fun v3 => ?_)
    refine s_aload_n (i := 7) rfl 0 rfl ?_
    refine s_getR (i := 8) rfl xf_8_26.r rfl (fun v4 => ?_)
    refine s_iload_n (i := 9) rfl 1 rfl ?_
    refine u_callVi (kk := 7) [tA v4, tI a1] v3 [] rfl (i := 10) rfl (c_X7_restsBy q2.2 v3 v4 a1) xm_X7_restsBy (tw739) rfl (Nat.le_of_ble_eq_true rfl) (xRm.of rfl) ⟨rfl, rfl⟩ (fun q5 => ?_)
    refine s_goto (i := 11) rfl (tgt := 28) (by decide) ?_
    exact s_sub [] rfl (b_X8_reach_28 X q5.2 q5.1)
def y_X8_keys : MethodName := ⟨"OpensAtNine", "keys", "()I"⟩
def T_X8_keys : List (Nat × Instr × Nat × Nat) := [(0, .aload_n 0, 1, 1), (1, .getfield 26, 3, 4), (4, .iconst (-1), 1, 5), (5, .invokevirtual 199, 3, 8), (8, .istore_n 1, 1, 9), (9, .iconst 0, 1, 10), (10, .istore_n 2, 1, 11), (11, .iconst 0, 1, 12), (12, .istore_n 3, 1, 13), (13, .iload_n 3, 1, 14), (14, .bipush 7, 2, 16), (16, .if_icmp .ge 48, 3, 19), (19, .iload_n 1, 1, 20), (20, .iload_n 3, 1, 21), (21, .ishr, 1, 22), (22, .iconst 1, 1, 23), (23, .iand, 1, 24), (24, .ifCond .ne 6, 3, 27), (27, .goto 31, 3, 30), (30, .aload_n 0, 1, 31), (31, .getfield 33, 3, 34), (34, .aload_n 0, 1, 35), (35, .getfield 26, 3, 38), (38, .invokevirtual 189, 3, 41), (41, .aload_n 0, 1, 42), (42, .getfield 33, 3, 45), (45, .iload_n 3, 1, 46), (46, .invokevirtual 168, 3, 49), (49, .ifCond .eq 9, 3, 52), (52, .iload_n 2, 1, 53), (53, .iconst 1, 1, 54), (54, .iload_n 3, 1, 55), (55, .ishl, 1, 56), (56, .ior, 1, 57), (57, .istore_n 2, 1, 58), (58, .iinc 3 1, 3, 61), (61, .goto (-48), 3, 64), (64, .iload_n 2, 1, 65), (65, .ireturn, 1, 66)]
def I_X8_keys : MI := (prog_1_method_20_code, 4, (some .int), "OpensAtNine", "keys", T_X8_keys, 0, 0, 5, 161)
theorem dT_X8_keys : ∀ q ∈ T_X8_keys, decode prog_1_method_20_code q.1 = .ok (q.2.1, q.2.2.1) ∧ q.2.2.2 = q.1 + q.2.2.1 := by decide +kernel
theorem xm_X8_keys : xCM y_X8_keys I_X8_keys 8 0 := ⟨⟨tw753, tw754⟩, tw69, tw755, ⟨xT8, 11, rfl⟩, ⟨by decide +kernel, by decide +kernel, by decide +kernel⟩⟩
noncomputable def f_X8_keys_58 (k_13 : XM → Option Nat → Int32 → Int32 → Int32 → Option (Int32 × XM)) (h : XM) (l0 : Option Nat) (l1 : Int32) (l2 : Int32) (l3 : Int32) : Option (Int32 × XM) := bnd (l3 + (1 : Int32)) fun v1 => k_13 h l0 l1 l2 v1
noncomputable def fb_X8_keys_13 (k_13 : XM → Option Nat → Int32 → Int32 → Int32 → Option (Int32 × XM)) (h : XM) (l0 : Option Nat) (l1 : Int32) (l2 : Int32) (l3 : Int32) : Option (Int32 × XM) := if l3 < ((7 : Int32)) then (if ((l1 >>> (l3 &&& 31)) &&& ((1 : Int32))) = 0 then (f_X8_keys_58 k_13 h l0 l1 l2 l3) else ((gR h 8 l0 4).bind fun v2 => (gR h 8 l0 2).bind fun v3 => (vc h 1 v2 (f_X1_become h v2 v3)).bind fun q4 => (gR q4 8 l0 4).bind fun v5 => (vc q4 1 v5 (f_X1_putIn q4 v5 l3)).bind fun q6 => if q6.1 = 0 then (f_X8_keys_58 k_13 q6.2 l0 l1 l2 l3) else (bnd (l2 ||| (((1 : Int32)) <<< (l3 &&& 31))) fun v7 => f_X8_keys_58 k_13 q6.2 l0 l1 v7 l3))) else (some (l2, h))
noncomputable def f_X8_keys_13 (n : Nat) : XM → Option Nat → Int32 → Int32 → Int32 → Option (Int32 × XM) := Nat.rec (motive := fun _ => XM → Option Nat → Int32 → Int32 → Int32 → Option (Int32 × XM)) (fun _ _ _ _ _ => none) (fun _ ih h l0 l1 l2 l3 => fb_X8_keys_13 ih h l0 l1 l2 l3) n
noncomputable def f_X8_keys (h : XM) (a0 : Option Nat) : Option (Int32 × XM) := (gR h 8 a0 2).bind fun v8 => (vc h 1 v8 (f_X1_movable h v8 ((-1 : Int32)))).bind fun q9 => f_X8_keys_13 FU q9.2 a0 q9.1 ((0 : Int32)) ((0 : Int32))
theorem b_X8_keys_58 (X : XX) (k_13 : XM → Option Nat → Int32 → Int32 → Int32 → Option (Int32 × XM)) (hk_13 : ∀ h l0 l1 l2 l3, SW X I_X8_keys ρi 13 [(0, tA l0), (1, tI l1), (2, tI l2), (3, tI l3)] [] h 0 0 (k_13 h l0 l1 l2 l3)) (h : XM) (l0 : Option Nat) (l1 : Int32) (l2 : Int32) (l3 : Int32) : SW X I_X8_keys ρi 58 [(0, tA l0), (1, tI l1), (2, tI l2), (3, tI l3)] [] h 0 0 (f_X8_keys_58 k_13 h l0 l1 l2 l3) := by
  unfold f_X8_keys_58
  refine s_inc (i := 35) rfl 3 rfl (c9 := (1 : Int32)) (by decide) (Nat.le_of_ble_eq_true rfl) (fun v1 => ?_)
  refine s_ls (ls2 := [(3, tI v1), (0, tA l0), (1, tI l1), (2, tI l2)]) rfl ?_
  refine s_goto (i := 36) rfl (tgt := 13) (by decide) ?_
  exact s_sub [1, 2, 3, 0] rfl (hk_13 h l0 l1 l2 v1)
theorem bb_X8_keys_13 (X : XX) (k_13 : XM → Option Nat → Int32 → Int32 → Int32 → Option (Int32 × XM)) (hk_13 : ∀ h l0 l1 l2 l3, SW X I_X8_keys ρi 13 [(0, tA l0), (1, tI l1), (2, tI l2), (3, tI l3)] [] h 0 0 (k_13 h l0 l1 l2 l3)) (h : XM) (l0 : Option Nat) (l1 : Int32) (l2 : Int32) (l3 : Int32) : SW X I_X8_keys ρi 13 [(0, tA l0), (1, tI l1), (2, tI l2), (3, tI l3)] [] h 0 0 (fb_X8_keys_13 k_13 h l0 l1 l2 l3) := by
  unfold fb_X8_keys_13
  refine s_iload_n (i := 9) rfl 3 rfl ?_
  refine s_bipush (i := 10) rfl (v := (7 : Int32)) (by decide) ?_
  refine s_icmpge (i := 11) rfl (tgt := 64) (by decide) (fun z16 => ?_) (fun z16 => ?_)
  · refine s_iload_n (i := 12) rfl 1 rfl ?_
    refine s_iload_n (i := 13) rfl 3 rfl ?_
    refine s_ishr (i := 14) rfl ?_
    refine s_iconst (i := 15) rfl (v := (1 : Int32)) (by decide) ?_
    refine s_iand (i := 16) rfl ?_
    refine s_ifne (i := 17) rfl (tgt := 30) (by decide) (fun z24 => ?_) (fun z24 => ?_)
    · refine s_goto (i := 18) rfl (tgt := 58) (by decide) ?_
      exact s_sub [0, 1, 2, 3] rfl (b_X8_keys_58 X k_13 hk_13 h l0 l1 l2 l3)
    · refine s_aload_n (i := 19) rfl 0 rfl ?_
      refine s_getR (i := 20) rfl xf_8_33.r rfl (fun v2 => ?_)
      refine s_aload_n (i := 21) rfl 0 rfl ?_
      refine s_getR (i := 22) rfl xf_8_26.r rfl (fun v3 => ?_)
      refine u_callVv (kk := 1) [tA v3] v2 [] rfl (i := 23) rfl (c_X1_become h v2 v3) xm_X1_become (tw728) rfl (Nat.le_of_ble_eq_true rfl) (xRm.of rfl) ⟨rfl, rfl⟩ (fun q4 => ?_)
      refine s_aload_n (i := 24) rfl 0 rfl ?_
      refine s_getR (i := 25) rfl xf_8_33.r rfl (fun v5 => ?_)
      refine s_iload_n (i := 26) rfl 3 rfl ?_
      refine u_callVi (kk := 1) [tI l3] v5 [] rfl (i := 27) rfl (c_X1_putIn q4 v5 l3) xm_X1_putIn (tw640) rfl (Nat.le_of_ble_eq_true rfl) (xRm.of rfl) ⟨rfl, rfl⟩ (fun q6 => ?_)
      refine s_ifeq (i := 28) rfl (tgt := 58) (by decide) (fun z49 => ?_) (fun z49 => ?_)
      · exact s_sub [0, 1, 2, 3] rfl (b_X8_keys_58 X k_13 hk_13 q6.2 l0 l1 l2 l3)
      · refine s_iload_n (i := 29) rfl 2 rfl ?_
        refine s_iconst (i := 30) rfl (v := (1 : Int32)) (by decide) ?_
        refine s_iload_n (i := 31) rfl 3 rfl ?_
        refine s_ishl (i := 32) rfl ?_
        refine s_ior (i := 33) rfl ?_
        refine s_bnd (fun v7 => ?_)
        refine s_istore_n (i := 34) rfl (Nat.le_of_ble_eq_true rfl) (ls2 := [(2, tI v7), (0, tA l0), (1, tI l1), (3, tI l3)]) rfl ?_
        exact s_sub [1, 2, 0, 3] rfl (b_X8_keys_58 X k_13 hk_13 q6.2 l0 l1 v7 l3)
  · refine s_iload_n (i := 37) rfl 2 rfl ?_
    exact s_iret (i := 38) rfl rfl
theorem b_X8_keys_13 (X : XX) : ∀ (n : Nat) (h : XM) (l0 : Option Nat) (l1 : Int32) (l2 : Int32) (l3 : Int32), SW X I_X8_keys ρi 13 [(0, tA l0), (1, tI l1), (2, tI l2), (3, tI l3)] [] h 0 0 (f_X8_keys_13 n h l0 l1 l2 l3) := by
  intro n
  induction n with
  | zero =>
    intro h l0 l1 l2 l3
    exact s_none
  | succ n ih =>
    intro h l0 l1 l2 l3
    exact bb_X8_keys_13 X (f_X8_keys_13 n) ih h l0 l1 l2 l3
theorem c_X8_keys (h : XM) (a0 : Option Nat) : MC I_X8_keys y_X8_keys [tA a0] h ρi (f_X8_keys h a0) := by
  refine MC_of ⟨by decide +kernel, rfl, rfl, Nat.le_of_ble_eq_true rfl⟩ dT_X8_keys (fun X => ?_)
  show SW X I_X8_keys ρi 0 [(0, tA a0)] [] h 0 0 (f_X8_keys h a0)
  unfold f_X8_keys
  refine s_aload_n (i := 0) rfl 0 rfl ?_
  refine s_getR (i := 1) rfl xf_8_26.r rfl (fun v8 => ?_)
  refine s_iconst (i := 2) rfl (v := (-1 : Int32)) (by decide) ?_
  refine u_callVi (kk := 1) [tI ((-1 : Int32))] v8 [] rfl (i := 3) rfl (c_X1_movable h v8 ((-1 : Int32))) xm_X1_movable (tw756) rfl (Nat.le_of_ble_eq_true rfl) (xRm.of rfl) ⟨rfl, rfl⟩ (fun q9 => ?_)
  refine s_istore_n (i := 4) rfl (Nat.le_of_ble_eq_true rfl) (ls2 := [(1, tI q9.1), (0, tA a0)]) rfl ?_
  refine s_iconst (i := 5) rfl (v := (0 : Int32)) (by decide) ?_
  refine s_istore_n (i := 6) rfl (Nat.le_of_ble_eq_true rfl) (ls2 := [(2, tI ((0 : Int32))), (1, tI q9.1), (0, tA a0)]) rfl ?_
  refine s_iconst (i := 7) rfl (v := (0 : Int32)) (by decide) ?_
  refine s_istore_n (i := 8) rfl (Nat.le_of_ble_eq_true rfl) (ls2 := [(3, tI ((0 : Int32))), (2, tI ((0 : Int32))), (1, tI q9.1), (0, tA a0)]) rfl ?_
  exact s_sub [3, 2, 1, 0] rfl (b_X8_keys_13 X FU q9.2 a0 q9.1 ((0 : Int32)) ((0 : Int32)))
def y_X8_isGift : MethodName := ⟨"OpensAtNine", "isGift", "(II)Z"⟩
def T_X8_isGift : List (Nat × Instr × Nat × Nat) := [(0, .iload_n 2, 1, 1), (1, .aload_n 0, 1, 2), (2, .getfield 26, 3, 5), (5, .aload_n 0, 1, 6), (6, .getfield 26, 3, 9), (9, .iload_n 1, 1, 10), (10, .invokevirtual 146, 3, 13), (13, .invokevirtual 206, 3, 16), (16, .iconst (-1), 1, 17), (17, .ixor, 1, 18), (18, .iand, 1, 19), (19, .istore_n 3, 1, 20), (20, .iconst 0, 1, 21), (21, .istore 4, 2, 23), (23, .iload 4, 2, 25), (25, .bipush 7, 2, 27), (27, .if_icmp .ge 55, 3, 30), (30, .iload_n 3, 1, 31), (31, .iload 4, 2, 33), (33, .ishr, 1, 34), (34, .iconst 1, 1, 35), (35, .iand, 1, 36), (36, .ifCond .ne 6, 3, 39), (39, .goto 37, 3, 42), (42, .aload_n 0, 1, 43), (43, .getfield 33, 3, 46), (46, .aload_n 0, 1, 47), (47, .getfield 26, 3, 50), (50, .invokevirtual 189, 3, 53), (53, .aload_n 0, 1, 54), (54, .getfield 33, 3, 57), (57, .iload_n 1, 1, 58), (58, .invokevirtual 168, 3, 61), (61, .pop, 1, 62), (62, .aload_n 0, 1, 63), (63, .getfield 33, 3, 66), (66, .iload 4, 2, 68), (68, .invokevirtual 168, 3, 71), (71, .ifCond .eq 5, 3, 74), (74, .iconst 1, 1, 75), (75, .ireturn, 1, 76), (76, .iinc 4 1, 3, 79), (79, .goto (-56), 3, 82), (82, .iconst 0, 1, 83), (83, .ireturn, 1, 84)]
def I_X8_isGift : MI := (prog_1_method_22_code, 5, (some .boolean), "OpensAtNine", "isGift", T_X8_isGift, 0, 0, 5, 161)
theorem dT_X8_isGift : ∀ q ∈ T_X8_isGift, decode prog_1_method_22_code q.1 = .ok (q.2.1, q.2.2.1) ∧ q.2.2.2 = q.1 + q.2.2.1 := by decide +kernel
theorem xm_X8_isGift : xCM y_X8_isGift I_X8_isGift 8 2 := ⟨⟨tw763, tw19⟩, tw69, tw764, ⟨xT8, 11, rfl⟩, ⟨by decide +kernel, by decide +kernel, by decide +kernel⟩⟩
noncomputable def f_X8_isGift_76 (k_23 : XM → Option Nat → Int32 → Int32 → Int32 → Option (Int32 × XM)) (h : XM) (l0 : Option Nat) (l1 : Int32) (l3 : Int32) (l4 : Int32) : Option (Int32 × XM) := bnd (l4 + (1 : Int32)) fun v1 => k_23 h l0 l1 l3 v1
noncomputable def fb_X8_isGift_23 (k_23 : XM → Option Nat → Int32 → Int32 → Int32 → Option (Int32 × XM)) (h : XM) (l0 : Option Nat) (l1 : Int32) (l3 : Int32) (l4 : Int32) : Option (Int32 × XM) := if l4 < ((7 : Int32)) then (if ((l3 >>> (l4 &&& 31)) &&& ((1 : Int32))) = 0 then (f_X8_isGift_76 k_23 h l0 l1 l3 l4) else ((gR h 8 l0 4).bind fun v2 => (gR h 8 l0 2).bind fun v3 => (vc h 1 v2 (f_X1_become h v2 v3)).bind fun q4 => (gR q4 8 l0 4).bind fun v5 => (vc q4 1 v5 (f_X1_putIn q4 v5 l1)).bind fun q6 => (gR q6.2 8 l0 4).bind fun v7 => (vc q6.2 1 v7 (f_X1_putIn q6.2 v7 l4)).bind fun q8 => if q8.1 = 0 then (f_X8_isGift_76 k_23 q8.2 l0 l1 l3 l4) else (rz q8.2 ((1 : Int32))))) else (rz h ((0 : Int32)))
noncomputable def f_X8_isGift_23 (n : Nat) : XM → Option Nat → Int32 → Int32 → Int32 → Option (Int32 × XM) := Nat.rec (motive := fun _ => XM → Option Nat → Int32 → Int32 → Int32 → Option (Int32 × XM)) (fun _ _ _ _ _ => none) (fun _ ih h l0 l1 l3 l4 => fb_X8_isGift_23 ih h l0 l1 l3 l4) n
noncomputable def f_X8_isGift (h : XM) (a0 : Option Nat) (a1 : Int32) (a2 : Int32) : Option (Int32 × XM) := (gR h 8 a0 2).bind fun v9 => (gR h 8 a0 2).bind fun v10 => (vc h 1 v10 (f_X1_ownerOf h v10 a1)).bind fun q11 => (vc q11.2 1 v9 (f_X1_leftOf q11.2 v9 q11.1)).bind fun q12 => bnd (a2 &&& (q12.1 ^^^ ((-1 : Int32)))) fun v13 => f_X8_isGift_23 FU q12.2 a0 a1 v13 ((0 : Int32))
theorem b_X8_isGift_76 (X : XX) (k_23 : XM → Option Nat → Int32 → Int32 → Int32 → Option (Int32 × XM)) (hk_23 : ∀ h l0 l1 l3 l4, SW X I_X8_isGift ρi 23 [(0, tA l0), (1, tI l1), (3, tI l3), (4, tI l4)] [] h 0 0 (k_23 h l0 l1 l3 l4)) (h : XM) (l0 : Option Nat) (l1 : Int32) (l3 : Int32) (l4 : Int32) : SW X I_X8_isGift ρi 76 [(0, tA l0), (1, tI l1), (3, tI l3), (4, tI l4)] [] h 0 0 (f_X8_isGift_76 k_23 h l0 l1 l3 l4) := by
  unfold f_X8_isGift_76
  refine s_inc (i := 41) rfl 3 rfl (c9 := (1 : Int32)) (by decide) (Nat.le_of_ble_eq_true rfl) (fun v1 => ?_)
  refine s_ls (ls2 := [(4, tI v1), (0, tA l0), (1, tI l1), (3, tI l3)]) rfl ?_
  refine s_goto (i := 42) rfl (tgt := 23) (by decide) ?_
  exact s_sub [1, 2, 3, 0] rfl (hk_23 h l0 l1 l3 v1)
theorem bb_X8_isGift_23 (X : XX) (k_23 : XM → Option Nat → Int32 → Int32 → Int32 → Option (Int32 × XM)) (hk_23 : ∀ h l0 l1 l3 l4, SW X I_X8_isGift ρi 23 [(0, tA l0), (1, tI l1), (3, tI l3), (4, tI l4)] [] h 0 0 (k_23 h l0 l1 l3 l4)) (h : XM) (l0 : Option Nat) (l1 : Int32) (l3 : Int32) (l4 : Int32) : SW X I_X8_isGift ρi 23 [(0, tA l0), (1, tI l1), (3, tI l3), (4, tI l4)] [] h 0 0 (fb_X8_isGift_23 k_23 h l0 l1 l3 l4) := by
  unfold fb_X8_isGift_23
  refine s_iload (i := 14) rfl 3 rfl ?_
  refine s_bipush (i := 15) rfl (v := (7 : Int32)) (by decide) ?_
  refine s_icmpge (i := 16) rfl (tgt := 82) (by decide) (fun z27 => ?_) (fun z27 => ?_)
  · refine s_iload_n (i := 17) rfl 2 rfl ?_
    refine s_iload (i := 18) rfl 3 rfl ?_
    refine s_ishr (i := 19) rfl ?_
    refine s_iconst (i := 20) rfl (v := (1 : Int32)) (by decide) ?_
    refine s_iand (i := 21) rfl ?_
    refine s_ifne (i := 22) rfl (tgt := 42) (by decide) (fun z36 => ?_) (fun z36 => ?_)
    · refine s_goto (i := 23) rfl (tgt := 76) (by decide) ?_
      exact s_sub [0, 1, 2, 3] rfl (b_X8_isGift_76 X k_23 hk_23 h l0 l1 l3 l4)
    · refine s_aload_n (i := 24) rfl 0 rfl ?_
      refine s_getR (i := 25) rfl xf_8_33.r rfl (fun v2 => ?_)
      refine s_aload_n (i := 26) rfl 0 rfl ?_
      refine s_getR (i := 27) rfl xf_8_26.r rfl (fun v3 => ?_)
      refine u_callVv (kk := 1) [tA v3] v2 [] rfl (i := 28) rfl (c_X1_become h v2 v3) xm_X1_become (tw728) rfl (Nat.le_of_ble_eq_true rfl) (xRm.of rfl) ⟨rfl, rfl⟩ (fun q4 => ?_)
      refine s_aload_n (i := 29) rfl 0 rfl ?_
      refine s_getR (i := 30) rfl xf_8_33.r rfl (fun v5 => ?_)
      refine s_iload_n (i := 31) rfl 1 rfl ?_
      refine u_callVi (kk := 1) [tI l1] v5 [] rfl (i := 32) rfl (c_X1_putIn q4 v5 l1) xm_X1_putIn (tw640) rfl (Nat.le_of_ble_eq_true rfl) (xRm.of rfl) ⟨rfl, rfl⟩ (fun q6 => ?_)
      refine s_pop (i := 33) rfl rfl ?_
      refine s_aload_n (i := 34) rfl 0 rfl ?_
      refine s_getR (i := 35) rfl xf_8_33.r rfl (fun v7 => ?_)
      refine s_iload (i := 36) rfl 3 rfl ?_
      refine u_callVi (kk := 1) [tI l4] v7 [] rfl (i := 37) rfl (c_X1_putIn q6.2 v7 l4) xm_X1_putIn (tw640) rfl (Nat.le_of_ble_eq_true rfl) (xRm.of rfl) ⟨rfl, rfl⟩ (fun q8 => ?_)
      refine s_ifeq (i := 38) rfl (tgt := 76) (by decide) (fun z71 => ?_) (fun z71 => ?_)
      · exact s_sub [0, 1, 2, 3] rfl (b_X8_isGift_76 X k_23 hk_23 q8.2 l0 l1 l3 l4)
      · refine s_iconst (i := 39) rfl (v := (1 : Int32)) (by decide) ?_
        exact s_zret (i := 40) rfl rfl
  · refine s_iconst (i := 43) rfl (v := (0 : Int32)) (by decide) ?_
    exact s_zret (i := 44) rfl rfl
theorem b_X8_isGift_23 (X : XX) : ∀ (n : Nat) (h : XM) (l0 : Option Nat) (l1 : Int32) (l3 : Int32) (l4 : Int32), SW X I_X8_isGift ρi 23 [(0, tA l0), (1, tI l1), (3, tI l3), (4, tI l4)] [] h 0 0 (f_X8_isGift_23 n h l0 l1 l3 l4) := by
  intro n
  induction n with
  | zero =>
    intro h l0 l1 l3 l4
    exact s_none
  | succ n ih =>
    intro h l0 l1 l3 l4
    exact bb_X8_isGift_23 X (f_X8_isGift_23 n) ih h l0 l1 l3 l4
theorem c_X8_isGift (h : XM) (a0 : Option Nat) (a1 : Int32) (a2 : Int32) : MC I_X8_isGift y_X8_isGift [tA a0, tI a1, tI a2] h ρi (f_X8_isGift h a0 a1 a2) := by
  refine MC_of ⟨by decide +kernel, rfl, rfl, Nat.le_of_ble_eq_true rfl⟩ dT_X8_isGift (fun X => ?_)
  show SW X I_X8_isGift ρi 0 [(0, tA a0), (1, tI a1), (2, tI a2)] [] h 0 0 (f_X8_isGift h a0 a1 a2)
  unfold f_X8_isGift
  refine s_iload_n (i := 0) rfl 2 rfl ?_
  refine s_aload_n (i := 1) rfl 0 rfl ?_
  refine s_getR (i := 2) rfl xf_8_26.r rfl (fun v9 => ?_)
  refine s_aload_n (i := 3) rfl 0 rfl ?_
  refine s_getR (i := 4) rfl xf_8_26.r rfl (fun v10 => ?_)
  refine s_iload_n (i := 5) rfl 1 rfl ?_
  refine u_callVi (kk := 1) [tI a1] v10 [tA v9, tI a2] rfl (i := 6) rfl (c_X1_ownerOf h v10 a1) xm_X1_ownerOf (tw607) rfl (Nat.le_of_ble_eq_true rfl) (xRm.of rfl) ⟨rfl, rfl⟩ (fun q11 => ?_)
  refine u_callVi (kk := 1) [tI q11.1] v9 [tI a2] rfl (i := 7) rfl (c_X1_leftOf q11.2 v9 q11.1) xm_X1_leftOf (tw765) rfl (Nat.le_of_ble_eq_true rfl) (xRm.of rfl) ⟨rfl, rfl⟩ (fun q12 => ?_)
  refine s_iconst (i := 8) rfl (v := (-1 : Int32)) (by decide) ?_
  refine s_ixor (i := 9) rfl ?_
  refine s_iand (i := 10) rfl ?_
  refine s_bnd (fun v13 => ?_)
  refine s_istore_n (i := 11) rfl (Nat.le_of_ble_eq_true rfl) (ls2 := [(3, tI v13), (0, tA a0), (1, tI a1), (2, tI a2)]) rfl ?_
  refine s_iconst (i := 12) rfl (v := (0 : Int32)) (by decide) ?_
  refine s_istore (i := 13) rfl (Nat.le_of_ble_eq_true rfl) (ls2 := [(4, tI ((0 : Int32))), (3, tI v13), (0, tA a0), (1, tI a1), (2, tI a2)]) rfl ?_
  exact s_sub [2, 3, 1, 0] rfl (b_X8_isGift_23 X FU q12.2 a0 a1 v13 ((0 : Int32)))
def y_X8_gifts : MethodName := ⟨"OpensAtNine", "gifts", "()I"⟩
def T_X8_gifts : List (Nat × Instr × Nat × Nat) := [(0, .aload_n 0, 1, 1), (1, .getfield 26, 3, 4), (4, .iconst (-1), 1, 5), (5, .invokevirtual 199, 3, 8), (8, .istore_n 1, 1, 9), (9, .iconst 0, 1, 10), (10, .istore_n 2, 1, 11), (11, .iconst 0, 1, 12), (12, .istore_n 3, 1, 13), (13, .iload_n 3, 1, 14), (14, .bipush 7, 2, 16), (16, .if_icmp .ge 32, 3, 19), (19, .iload_n 1, 1, 20), (20, .iload_n 3, 1, 21), (21, .ishr, 1, 22), (22, .iconst 1, 1, 23), (23, .iand, 1, 24), (24, .ifCond .eq 18, 3, 27), (27, .aload_n 0, 1, 28), (28, .iload_n 3, 1, 29), (29, .iload_n 1, 1, 30), (30, .invokevirtual 202, 3, 33), (33, .ifCond .eq 9, 3, 36), (36, .iload_n 2, 1, 37), (37, .iconst 1, 1, 38), (38, .iload_n 3, 1, 39), (39, .ishl, 1, 40), (40, .ior, 1, 41), (41, .istore_n 2, 1, 42), (42, .iinc 3 1, 3, 45), (45, .goto (-32), 3, 48), (48, .iload_n 2, 1, 49), (49, .ireturn, 1, 50)]
def I_X8_gifts : MI := (prog_1_method_21_code, 4, (some .int), "OpensAtNine", "gifts", T_X8_gifts, 0, 0, 6, 185)
theorem dT_X8_gifts : ∀ q ∈ T_X8_gifts, decode prog_1_method_21_code q.1 = .ok (q.2.1, q.2.2.1) ∧ q.2.2.2 = q.1 + q.2.2.1 := by decide +kernel
theorem xm_X8_gifts : xCM y_X8_gifts I_X8_gifts 8 0 := ⟨⟨tw758, tw759⟩, tw69, tw760, ⟨xT8, 11, rfl⟩, ⟨by decide +kernel, by decide +kernel, by decide +kernel⟩⟩
noncomputable def f_X8_gifts_42 (k_13 : XM → Option Nat → Int32 → Int32 → Int32 → Option (Int32 × XM)) (h : XM) (l0 : Option Nat) (l1 : Int32) (l2 : Int32) (l3 : Int32) : Option (Int32 × XM) := bnd (l3 + (1 : Int32)) fun v1 => k_13 h l0 l1 l2 v1
noncomputable def fb_X8_gifts_13 (k_13 : XM → Option Nat → Int32 → Int32 → Int32 → Option (Int32 × XM)) (h : XM) (l0 : Option Nat) (l1 : Int32) (l2 : Int32) (l3 : Int32) : Option (Int32 × XM) := if l3 < ((7 : Int32)) then (if ((l1 >>> (l3 &&& 31)) &&& ((1 : Int32))) = 0 then (f_X8_gifts_42 k_13 h l0 l1 l2 l3) else ((vc h 8 l0 (f_X8_isGift h l0 l3 l1)).bind fun q2 => if q2.1 = 0 then (f_X8_gifts_42 k_13 q2.2 l0 l1 l2 l3) else (bnd (l2 ||| (((1 : Int32)) <<< (l3 &&& 31))) fun v3 => f_X8_gifts_42 k_13 q2.2 l0 l1 v3 l3))) else (some (l2, h))
noncomputable def f_X8_gifts_13 (n : Nat) : XM → Option Nat → Int32 → Int32 → Int32 → Option (Int32 × XM) := Nat.rec (motive := fun _ => XM → Option Nat → Int32 → Int32 → Int32 → Option (Int32 × XM)) (fun _ _ _ _ _ => none) (fun _ ih h l0 l1 l2 l3 => fb_X8_gifts_13 ih h l0 l1 l2 l3) n
noncomputable def f_X8_gifts (h : XM) (a0 : Option Nat) : Option (Int32 × XM) := (gR h 8 a0 2).bind fun v4 => (vc h 1 v4 (f_X1_movable h v4 ((-1 : Int32)))).bind fun q5 => f_X8_gifts_13 FU q5.2 a0 q5.1 ((0 : Int32)) ((0 : Int32))
theorem b_X8_gifts_42 (X : XX) (k_13 : XM → Option Nat → Int32 → Int32 → Int32 → Option (Int32 × XM)) (hk_13 : ∀ h l0 l1 l2 l3, SW X I_X8_gifts ρi 13 [(0, tA l0), (1, tI l1), (2, tI l2), (3, tI l3)] [] h 0 0 (k_13 h l0 l1 l2 l3)) (h : XM) (l0 : Option Nat) (l1 : Int32) (l2 : Int32) (l3 : Int32) : SW X I_X8_gifts ρi 42 [(0, tA l0), (1, tI l1), (2, tI l2), (3, tI l3)] [] h 0 0 (f_X8_gifts_42 k_13 h l0 l1 l2 l3) := by
  unfold f_X8_gifts_42
  refine s_inc (i := 29) rfl 3 rfl (c9 := (1 : Int32)) (by decide) (Nat.le_of_ble_eq_true rfl) (fun v1 => ?_)
  refine s_ls (ls2 := [(3, tI v1), (0, tA l0), (1, tI l1), (2, tI l2)]) rfl ?_
  refine s_goto (i := 30) rfl (tgt := 13) (by decide) ?_
  exact s_sub [1, 2, 3, 0] rfl (hk_13 h l0 l1 l2 v1)
theorem bb_X8_gifts_13 (X : XX) (k_13 : XM → Option Nat → Int32 → Int32 → Int32 → Option (Int32 × XM)) (hk_13 : ∀ h l0 l1 l2 l3, SW X I_X8_gifts ρi 13 [(0, tA l0), (1, tI l1), (2, tI l2), (3, tI l3)] [] h 0 0 (k_13 h l0 l1 l2 l3)) (h : XM) (l0 : Option Nat) (l1 : Int32) (l2 : Int32) (l3 : Int32) : SW X I_X8_gifts ρi 13 [(0, tA l0), (1, tI l1), (2, tI l2), (3, tI l3)] [] h 0 0 (fb_X8_gifts_13 k_13 h l0 l1 l2 l3) := by
  unfold fb_X8_gifts_13
  refine s_iload_n (i := 9) rfl 3 rfl ?_
  refine s_bipush (i := 10) rfl (v := (7 : Int32)) (by decide) ?_
  refine s_icmpge (i := 11) rfl (tgt := 48) (by decide) (fun z16 => ?_) (fun z16 => ?_)
  · refine s_iload_n (i := 12) rfl 1 rfl ?_
    refine s_iload_n (i := 13) rfl 3 rfl ?_
    refine s_ishr (i := 14) rfl ?_
    refine s_iconst (i := 15) rfl (v := (1 : Int32)) (by decide) ?_
    refine s_iand (i := 16) rfl ?_
    refine s_ifeq (i := 17) rfl (tgt := 42) (by decide) (fun z24 => ?_) (fun z24 => ?_)
    · exact s_sub [0, 1, 2, 3] rfl (b_X8_gifts_42 X k_13 hk_13 h l0 l1 l2 l3)
    · refine s_aload_n (i := 18) rfl 0 rfl ?_
      refine s_iload_n (i := 19) rfl 3 rfl ?_
      refine s_iload_n (i := 20) rfl 1 rfl ?_
      refine u_callVi (kk := 8) [tI l3, tI l1] l0 [] rfl (i := 21) rfl (c_X8_isGift h l0 l3 l1) xm_X8_isGift (tw761) rfl (Nat.le_of_ble_eq_true rfl) (xRm.of rfl) ⟨rfl, rfl⟩ (fun q2 => ?_)
      refine s_ifeq (i := 22) rfl (tgt := 42) (by decide) (fun z33 => ?_) (fun z33 => ?_)
      · exact s_sub [0, 1, 2, 3] rfl (b_X8_gifts_42 X k_13 hk_13 q2.2 l0 l1 l2 l3)
      · refine s_iload_n (i := 23) rfl 2 rfl ?_
        refine s_iconst (i := 24) rfl (v := (1 : Int32)) (by decide) ?_
        refine s_iload_n (i := 25) rfl 3 rfl ?_
        refine s_ishl (i := 26) rfl ?_
        refine s_ior (i := 27) rfl ?_
        refine s_bnd (fun v3 => ?_)
        refine s_istore_n (i := 28) rfl (Nat.le_of_ble_eq_true rfl) (ls2 := [(2, tI v3), (0, tA l0), (1, tI l1), (3, tI l3)]) rfl ?_
        exact s_sub [1, 2, 0, 3] rfl (b_X8_gifts_42 X k_13 hk_13 q2.2 l0 l1 v3 l3)
  · refine s_iload_n (i := 31) rfl 2 rfl ?_
    exact s_iret (i := 32) rfl rfl
theorem b_X8_gifts_13 (X : XX) : ∀ (n : Nat) (h : XM) (l0 : Option Nat) (l1 : Int32) (l2 : Int32) (l3 : Int32), SW X I_X8_gifts ρi 13 [(0, tA l0), (1, tI l1), (2, tI l2), (3, tI l3)] [] h 0 0 (f_X8_gifts_13 n h l0 l1 l2 l3) := by
  intro n
  induction n with
  | zero =>
    intro h l0 l1 l2 l3
    exact s_none
  | succ n ih =>
    intro h l0 l1 l2 l3
    exact bb_X8_gifts_13 X (f_X8_gifts_13 n) ih h l0 l1 l2 l3
theorem c_X8_gifts (h : XM) (a0 : Option Nat) : MC I_X8_gifts y_X8_gifts [tA a0] h ρi (f_X8_gifts h a0) := by
  refine MC_of ⟨by decide +kernel, rfl, rfl, Nat.le_of_ble_eq_true rfl⟩ dT_X8_gifts (fun X => ?_)
  show SW X I_X8_gifts ρi 0 [(0, tA a0)] [] h 0 0 (f_X8_gifts h a0)
  unfold f_X8_gifts
  refine s_aload_n (i := 0) rfl 0 rfl ?_
  refine s_getR (i := 1) rfl xf_8_26.r rfl (fun v4 => ?_)
  refine s_iconst (i := 2) rfl (v := (-1 : Int32)) (by decide) ?_
  refine u_callVi (kk := 1) [tI ((-1 : Int32))] v4 [] rfl (i := 3) rfl (c_X1_movable h v4 ((-1 : Int32))) xm_X1_movable (tw756) rfl (Nat.le_of_ble_eq_true rfl) (xRm.of rfl) ⟨rfl, rfl⟩ (fun q5 => ?_)
  refine s_istore_n (i := 4) rfl (Nat.le_of_ble_eq_true rfl) (ls2 := [(1, tI q5.1), (0, tA a0)]) rfl ?_
  refine s_iconst (i := 5) rfl (v := (0 : Int32)) (by decide) ?_
  refine s_istore_n (i := 6) rfl (Nat.le_of_ble_eq_true rfl) (ls2 := [(2, tI ((0 : Int32))), (1, tI q5.1), (0, tA a0)]) rfl ?_
  refine s_iconst (i := 7) rfl (v := (0 : Int32)) (by decide) ?_
  refine s_istore_n (i := 8) rfl (Nat.le_of_ble_eq_true rfl) (ls2 := [(3, tI ((0 : Int32))), (2, tI ((0 : Int32))), (1, tI q5.1), (0, tA a0)]) rfl ?_
  exact s_sub [3, 2, 1, 0] rfl (b_X8_gifts_13 X FU q5.2 a0 q5.1 ((0 : Int32)) ((0 : Int32)))
def y_X8_areTurns : MethodName := ⟨"OpensAtNine", "areTurns", "(I)Z"⟩
def T_X8_areTurns : List (Nat × Instr × Nat × Nat) := [(0, .iload_n 0, 1, 1), (1, .ifCond .lt 13, 3, 4), (4, .iload_n 0, 1, 5), (5, .bipush 6, 2, 7), (7, .if_icmp .gt 7, 3, 10), (10, .iconst 1, 1, 11), (11, .goto 4, 3, 14), (14, .iconst 0, 1, 15), (15, .ireturn, 1, 16)]
def I_X8_areTurns : MI := (prog_1_method_26_code, 1, (some .boolean), "OpensAtNine", "areTurns", T_X8_areTurns, 0, 0, 1, 60)
theorem dT_X8_areTurns : ∀ q ∈ T_X8_areTurns, decode prog_1_method_26_code q.1 = .ok (q.2.1, q.2.2.1) ∧ q.2.2.2 = q.1 + q.2.2.1 := by decide +kernel
theorem xm_X8_areTurns : xCS y_X8_areTurns I_X8_areTurns 1 := ⟨tw771, tw69, tw772, ⟨by decide +kernel, by decide +kernel, by decide +kernel⟩⟩
noncomputable def f_X8_areTurns_15 (h : XM) (s0 : Int32) : Option (Int32 × XM) := rz h s0
noncomputable def f_X8_areTurns_14 (h : XM) : Option (Int32 × XM) := f_X8_areTurns_15 h ((0 : Int32))
noncomputable def f_X8_areTurns (h : XM) (a0 : Int32) : Option (Int32 × XM) := if a0 < 0 then (f_X8_areTurns_14 h) else (if ((6 : Int32)) < a0 then (f_X8_areTurns_14 h) else (f_X8_areTurns_15 h ((1 : Int32))))
theorem b_X8_areTurns_15 (X : XX) (h : XM) (s0 : Int32) : SW X I_X8_areTurns ρi 15 [] [tI s0] h 0 0 (f_X8_areTurns_15 h s0) := by
  unfold f_X8_areTurns_15
  exact s_zret (i := 8) rfl rfl
theorem b_X8_areTurns_14 (X : XX) (h : XM) : SW X I_X8_areTurns ρi 14 [] [] h 0 0 (f_X8_areTurns_14 h) := by
  unfold f_X8_areTurns_14
  refine s_iconst (i := 7) rfl (v := (0 : Int32)) (by decide) ?_
  exact s_sub [] rfl (b_X8_areTurns_15 X h ((0 : Int32)))
theorem c_X8_areTurns (h : XM) (a0 : Int32) : MC I_X8_areTurns y_X8_areTurns [tI a0] h ρi (f_X8_areTurns h a0) := by
  refine MC_of ⟨by decide +kernel, rfl, rfl, Nat.le_of_ble_eq_true rfl⟩ dT_X8_areTurns (fun X => ?_)
  show SW X I_X8_areTurns ρi 0 [(0, tI a0)] [] h 0 0 (f_X8_areTurns h a0)
  unfold f_X8_areTurns
  refine s_iload_n (i := 0) rfl 0 rfl ?_
  refine s_iflt (i := 1) rfl (tgt := 14) (by decide) (fun z1 => ?_) (fun z1 => ?_)
  · exact s_sub [] rfl (b_X8_areTurns_14 X h)
  · refine s_iload_n (i := 2) rfl 0 rfl ?_
    refine s_bipush (i := 3) rfl (v := (6 : Int32)) (by decide) ?_
    refine s_icmpgt (i := 4) rfl (tgt := 14) (by decide) (fun z7 => ?_) (fun z7 => ?_)
    · exact s_sub [] rfl (b_X8_areTurns_14 X h)
    · refine s_iconst (i := 5) rfl (v := (1 : Int32)) (by decide) ?_
      refine s_goto (i := 6) rfl (tgt := 15) (by decide) ?_
      exact s_sub [] rfl (b_X8_areTurns_15 X h ((1 : Int32)))
def y_X8_rest : MethodName := ⟨"OpensAtNine", "rest", "(II)I"⟩
def T_X8_rest : List (Nat × Instr × Nat × Nat) := [(0, .aload_n 0, 1, 1), (1, .getfield 26, 3, 4), (4, .iload_n 1, 1, 5), (5, .invokevirtual 99, 3, 8), (8, .ifCond .eq 10, 3, 11), (11, .iload_n 2, 1, 12), (12, .invokestatic 209, 3, 15), (15, .ifCond .ne 6, 3, 18), (18, .ldc 174, 2, 20), (20, .ireturn, 1, 21), (21, .aload_n 0, 1, 22), (22, .getfield 51, 3, 25), (25, .aload_n 0, 1, 26), (26, .getfield 26, 3, 29), (29, .iload_n 2, 1, 30), (30, .invokevirtual 212, 3, 33), (33, .aload_n 0, 1, 34), (34, .getfield 51, 3, 37), (37, .iload_n 1, 1, 38), (38, .invokevirtual 216, 3, 41), (41, .ireturn, 1, 42)]
def I_X8_rest : MI := (prog_1_method_23_code, 3, (some .int), "OpensAtNine", "rest", T_X8_rest, 0, 0, 20, 593)
theorem dT_X8_rest : ∀ q ∈ T_X8_rest, decode prog_1_method_23_code q.1 = .ok (q.2.1, q.2.2.1) ∧ q.2.2.2 = q.1 + q.2.2.1 := by decide +kernel
theorem xm_X8_rest : xCM y_X8_rest I_X8_rest 8 2 := ⟨⟨tw767, tw768⟩, tw69, tw769, ⟨xT8, 11, rfl⟩, ⟨by decide +kernel, by decide +kernel, by decide +kernel⟩⟩
noncomputable def f_X8_rest_18 (h : XM) : Option (Int32 × XM) := some ((-100000 : Int32), h)
noncomputable def f_X8_rest (h : XM) (a0 : Option Nat) (a1 : Int32) (a2 : Int32) : Option (Int32 × XM) := (gR h 8 a0 2).bind fun v1 => (vc h 1 v1 (f_X1_isOne h v1 a1)).bind fun q2 => if q2.1 = 0 then (f_X8_rest_18 q2.2) else ((f_X8_areTurns q2.2 a2).bind fun q3 => if q3.1 = 0 then (f_X8_rest_18 q3.2) else ((gR q3.2 8 a0 6).bind fun v4 => (gR q3.2 8 a0 2).bind fun v5 => (vc q3.2 6 v4 (f_X6_think q3.2 v4 v5 a2)).bind fun q6 => (gR q6 8 a0 6).bind fun v7 => (vc q6 6 v7 (f_X6_endOf q6 v7 a1)).bind fun q8 => some (q8.1, q8.2)))
theorem b_X8_rest_18 (X : XX) (h : XM) : SW X I_X8_rest ρi 18 [] [] h 0 0 (f_X8_rest_18 h) := by
  unfold f_X8_rest_18
  refine s_ldc (i := 8) rfl (v := (-100000 : Int32)) (tw668) ?_
  exact s_iret (i := 9) rfl rfl
theorem c_X8_rest (h : XM) (a0 : Option Nat) (a1 : Int32) (a2 : Int32) : MC I_X8_rest y_X8_rest [tA a0, tI a1, tI a2] h ρi (f_X8_rest h a0 a1 a2) := by
  refine MC_of ⟨by decide +kernel, rfl, rfl, Nat.le_of_ble_eq_true rfl⟩ dT_X8_rest (fun X => ?_)
  show SW X I_X8_rest ρi 0 [(0, tA a0), (1, tI a1), (2, tI a2)] [] h 0 0 (f_X8_rest h a0 a1 a2)
  unfold f_X8_rest
  refine s_aload_n (i := 0) rfl 0 rfl ?_
  refine s_getR (i := 1) rfl xf_8_26.r rfl (fun v1 => ?_)
  refine s_iload_n (i := 2) rfl 1 rfl ?_
  refine u_callVi (kk := 1) [tI a1] v1 [] rfl (i := 3) rfl (c_X1_isOne h v1 a1) xm_X1_isOne (tw516) rfl (Nat.le_of_ble_eq_true rfl) (xRm.of rfl) ⟨rfl, rfl⟩ (fun q2 => ?_)
  refine s_ifeq (i := 4) rfl (tgt := 18) (by decide) (fun z8 => ?_) (fun z8 => ?_)
  · exact s_sub [] rfl (b_X8_rest_18 X q2.2)
  · refine s_iload_n (i := 5) rfl 2 rfl ?_
    refine u_callSi [tI a2] [] rfl (i := 6) rfl (c_X8_areTurns q2.2 a2) xm_X8_areTurns (tw770) rfl (Nat.le_of_ble_eq_true rfl) (xRm.of rfl) ⟨rfl, rfl⟩ (fun q3 => ?_)
    refine s_ifne (i := 7) rfl (tgt := 21) (by decide) (fun z15 => ?_) (fun z15 => ?_)
    · exact s_sub [] rfl (b_X8_rest_18 X q3.2)
    · refine s_aload_n (i := 10) rfl 0 rfl ?_
      refine s_getR (i := 11) rfl xf_8_51.r rfl (fun v4 => ?_)
      refine s_aload_n (i := 12) rfl 0 rfl ?_
      refine s_getR (i := 13) rfl xf_8_26.r rfl (fun v5 => ?_)
      refine s_iload_n (i := 14) rfl 2 rfl ?_
      refine u_callVv (kk := 6) [tA v5, tI a2] v4 [] rfl (i := 15) rfl (c_X6_think q3.2 v4 v5 a2) xm_X6_think (tw773) rfl (Nat.le_of_ble_eq_true rfl) (xRm.of rfl) ⟨rfl, rfl⟩ (fun q6 => ?_)
      refine s_aload_n (i := 16) rfl 0 rfl ?_
      refine s_getR (i := 17) rfl xf_8_51.r rfl (fun v7 => ?_)
      refine s_iload_n (i := 18) rfl 1 rfl ?_
      refine u_callVi (kk := 6) [tI a1] v7 [] rfl (i := 19) rfl (c_X6_endOf q6 v7 a1) xm_X6_endOf (tw811) rfl (Nat.le_of_ble_eq_true rfl) (xRm.of rfl) ⟨rfl, rfl⟩ (fun q8 => ?_)
      exact s_iret (i := 20) rfl rfl
def y_X8_moves : MethodName := ⟨"OpensAtNine", "moves", "(I)I"⟩
def T_X8_moves : List (Nat × Instr × Nat × Nat) := [(0, .iload_n 1, 1, 1), (1, .invokestatic 209, 3, 4), (4, .ifCond .eq 13, 3, 7), (7, .aload_n 0, 1, 8), (8, .getfield 26, 3, 11), (11, .getfield 96, 3, 14), (14, .ifCond .ne 6, 3, 17), (17, .bipush (-2), 2, 19), (19, .ireturn, 1, 20), (20, .aload_n 0, 1, 21), (21, .getfield 51, 3, 24), (24, .aload_n 0, 1, 25), (25, .getfield 26, 3, 28), (28, .iload_n 1, 1, 29), (29, .invokevirtual 212, 3, 32), (32, .aload_n 0, 1, 33), (33, .getfield 51, 3, 36), (36, .invokevirtual 219, 3, 39), (39, .ireturn, 1, 40)]
def I_X8_moves : MI := (prog_1_method_24_code, 2, (some .int), "OpensAtNine", "moves", T_X8_moves, 0, 0, 20, 593)
theorem dT_X8_moves : ∀ q ∈ T_X8_moves, decode prog_1_method_24_code q.1 = .ok (q.2.1, q.2.2.1) ∧ q.2.2.2 = q.1 + q.2.2.1 := by decide +kernel
theorem xm_X8_moves : xCM y_X8_moves I_X8_moves 8 1 := ⟨⟨tw816, tw817⟩, tw69, tw818, ⟨xT8, 11, rfl⟩, ⟨by decide +kernel, by decide +kernel, by decide +kernel⟩⟩
noncomputable def f_X8_moves_17 (h : XM) : Option (Int32 × XM) := some ((-2 : Int32), h)
noncomputable def f_X8_moves (h : XM) (a0 : Option Nat) (a1 : Int32) : Option (Int32 × XM) := (f_X8_areTurns h a1).bind fun q1 => if q1.1 = 0 then (f_X8_moves_17 q1.2) else ((gR q1.2 8 a0 2).bind fun v2 => (gI q1.2 1 v2 7).bind fun v3 => if v3 = 0 then (f_X8_moves_17 q1.2) else ((gR q1.2 8 a0 6).bind fun v4 => (gR q1.2 8 a0 2).bind fun v5 => (vc q1.2 6 v4 (f_X6_think q1.2 v4 v5 a1)).bind fun q6 => (gR q6 8 a0 6).bind fun v7 => (vc q6 6 v7 (f_X6_line q6 v7)).bind fun q8 => some (q8.1, q8.2)))
theorem b_X8_moves_17 (X : XX) (h : XM) : SW X I_X8_moves ρi 17 [] [] h 0 0 (f_X8_moves_17 h) := by
  unfold f_X8_moves_17
  refine s_bipush (i := 7) rfl (v := (-2 : Int32)) (by decide) ?_
  exact s_iret (i := 8) rfl rfl
theorem c_X8_moves (h : XM) (a0 : Option Nat) (a1 : Int32) : MC I_X8_moves y_X8_moves [tA a0, tI a1] h ρi (f_X8_moves h a0 a1) := by
  refine MC_of ⟨by decide +kernel, rfl, rfl, Nat.le_of_ble_eq_true rfl⟩ dT_X8_moves (fun X => ?_)
  show SW X I_X8_moves ρi 0 [(0, tA a0), (1, tI a1)] [] h 0 0 (f_X8_moves h a0 a1)
  unfold f_X8_moves
  refine s_iload_n (i := 0) rfl 1 rfl ?_
  refine u_callSi [tI a1] [] rfl (i := 1) rfl (c_X8_areTurns h a1) xm_X8_areTurns (tw770) rfl (Nat.le_of_ble_eq_true rfl) (xRm.of rfl) ⟨rfl, rfl⟩ (fun q1 => ?_)
  refine s_ifeq (i := 2) rfl (tgt := 17) (by decide) (fun z4 => ?_) (fun z4 => ?_)
  · exact s_sub [] rfl (b_X8_moves_17 X q1.2)
  · refine s_aload_n (i := 3) rfl 0 rfl ?_
    refine s_getR (i := 4) rfl xf_8_26.r rfl (fun v2 => ?_)
    refine s_getI (i := 5) rfl xf_8_96.r rfl (fun v3 => ?_)
    refine s_ifne (i := 6) rfl (tgt := 20) (by decide) (fun z14 => ?_) (fun z14 => ?_)
    · exact s_sub [] rfl (b_X8_moves_17 X q1.2)
    · refine s_aload_n (i := 9) rfl 0 rfl ?_
      refine s_getR (i := 10) rfl xf_8_51.r rfl (fun v4 => ?_)
      refine s_aload_n (i := 11) rfl 0 rfl ?_
      refine s_getR (i := 12) rfl xf_8_26.r rfl (fun v5 => ?_)
      refine s_iload_n (i := 13) rfl 1 rfl ?_
      refine u_callVv (kk := 6) [tA v5, tI a1] v4 [] rfl (i := 14) rfl (c_X6_think q1.2 v4 v5 a1) xm_X6_think (tw773) rfl (Nat.le_of_ble_eq_true rfl) (xRm.of rfl) ⟨rfl, rfl⟩ (fun q6 => ?_)
      refine s_aload_n (i := 15) rfl 0 rfl ?_
      refine s_getR (i := 16) rfl xf_8_51.r rfl (fun v7 => ?_)
      refine u_callVi (kk := 6) [] v7 [] rfl (i := 17) rfl (c_X6_line q6 v7) xm_X6_line (tw819) rfl (Nat.le_of_ble_eq_true rfl) (xRm.of rfl) ⟨rfl, rfl⟩ (fun q8 => ?_)
      exact s_iret (i := 18) rfl rfl
def y_X8_play : MethodName := ⟨"OpensAtNine", "play", "(I)I"⟩
def T_X8_play : List (Nat × Instr × Nat × Nat) := [(0, .iload_n 1, 1, 1), (1, .invokestatic 209, 3, 4), (4, .ifCond .eq 13, 3, 7), (7, .aload_n 0, 1, 8), (8, .getfield 26, 3, 11), (11, .getfield 96, 3, 14), (14, .ifCond .ne 6, 3, 17), (17, .bipush (-2), 2, 19), (19, .ireturn, 1, 20), (20, .aload_n 0, 1, 21), (21, .getfield 51, 3, 24), (24, .aload_n 0, 1, 25), (25, .getfield 26, 3, 28), (28, .iload_n 1, 1, 29), (29, .invokevirtual 212, 3, 32), (32, .aload_n 0, 1, 33), (33, .getfield 51, 3, 36), (36, .invokevirtual 219, 3, 39), (39, .istore_n 2, 1, 40), (40, .iload_n 1, 1, 41), (41, .iconst 1, 1, 42), (42, .isub, 1, 43), (43, .istore_n 3, 1, 44), (44, .iload_n 3, 1, 45), (45, .ifCond .lt 48, 3, 48), (48, .iload_n 2, 1, 49), (49, .getstatic 185, 3, 52), (52, .iload_n 3, 1, 53), (53, .iaload, 1, 54), (54, .idiv, 1, 55), (55, .bipush 10, 2, 57), (57, .irem, 1, 58), (58, .istore 4, 2, 60), (60, .iload 4, 2, 62), (62, .ifCond .ne 13, 3, 65), (65, .aload_n 0, 1, 66), (66, .getfield 26, 3, 69), (69, .invokevirtual 222, 3, 72), (72, .goto 15, 3, 75), (75, .aload_n 0, 1, 76), (76, .getfield 26, 3, 79), (79, .iload 4, 2, 81), (81, .iconst 1, 1, 82), (82, .isub, 1, 83), (83, .invokevirtual 168, 3, 86), (86, .pop, 1, 87), (87, .iinc 3 (-1), 3, 90), (90, .goto (-46), 3, 93), (93, .aload_n 0, 1, 94), (94, .getfield 26, 3, 97), (97, .getfield 106, 3, 100), (100, .invokestatic 225, 3, 103), (103, .ireturn, 1, 104)]
def I_X8_play : MI := (prog_1_method_25_code, 5, (some .int), "OpensAtNine", "play", T_X8_play, 0, 0, 20, 593)
theorem dT_X8_play : ∀ q ∈ T_X8_play, decode prog_1_method_25_code q.1 = .ok (q.2.1, q.2.2.1) ∧ q.2.2.2 = q.1 + q.2.2.1 := by decide +kernel
theorem xm_X8_play : xCM y_X8_play I_X8_play 8 1 := ⟨⟨tw824, tw825⟩, tw69, tw826, ⟨xT8, 11, rfl⟩, ⟨by decide +kernel, by decide +kernel, by decide +kernel⟩⟩
noncomputable def f_X8_play_17 (h : XM) : Option (Int32 × XM) := some ((-2 : Int32), h)
noncomputable def f_X8_play_87 (k_44 : XM → Option Nat → Int32 → Int32 → Option (Int32 × XM)) (h : XM) (l0 : Option Nat) (l2 : Int32) (l3 : Int32) : Option (Int32 × XM) := bnd (l3 + (-1 : Int32)) fun v1 => k_44 h l0 l2 v1
noncomputable def fb_X8_play_44 (k_44 : XM → Option Nat → Int32 → Int32 → Option (Int32 × XM)) (h : XM) (l0 : Option Nat) (l2 : Int32) (l3 : Int32) : Option (Int32 × XM) := if l3 < 0 then ((gR h 8 l0 2).bind fun v2 => (gI h 1 v2 8).bind fun v3 => (f_J6_bitCount h v3).bind fun q4 => some (q4.1, q4.2)) else ((rT l3).bind fun v5 => (idiv l2 v5).bind fun v6 => (irem v6 ((10 : Int32))).bind fun v7 => if v7 = 0 then ((gR h 8 l0 2).bind fun v8 => (vc h 1 v8 (f_X1_waitOn h v8)).bind fun q9 => f_X8_play_87 k_44 q9 l0 l2 l3) else ((gR h 8 l0 2).bind fun v10 => (vc h 1 v10 (f_X1_putIn h v10 (v7 - ((1 : Int32))))).bind fun q11 => f_X8_play_87 k_44 q11.2 l0 l2 l3))
noncomputable def f_X8_play_44 (n : Nat) : XM → Option Nat → Int32 → Int32 → Option (Int32 × XM) := Nat.rec (motive := fun _ => XM → Option Nat → Int32 → Int32 → Option (Int32 × XM)) (fun _ _ _ _ => none) (fun _ ih h l0 l2 l3 => fb_X8_play_44 ih h l0 l2 l3) n
noncomputable def f_X8_play (h : XM) (a0 : Option Nat) (a1 : Int32) : Option (Int32 × XM) := (f_X8_areTurns h a1).bind fun q12 => if q12.1 = 0 then (f_X8_play_17 q12.2) else ((gR q12.2 8 a0 2).bind fun v13 => (gI q12.2 1 v13 7).bind fun v14 => if v14 = 0 then (f_X8_play_17 q12.2) else ((gR q12.2 8 a0 6).bind fun v15 => (gR q12.2 8 a0 2).bind fun v16 => (vc q12.2 6 v15 (f_X6_think q12.2 v15 v16 a1)).bind fun q17 => (gR q17 8 a0 6).bind fun v18 => (vc q17 6 v18 (f_X6_line q17 v18)).bind fun q19 => bnd (a1 - ((1 : Int32))) fun v20 => f_X8_play_44 FU q19.2 a0 q19.1 v20))
theorem b_X8_play_17 (X : XX) (h : XM) : SW X I_X8_play ρi 17 [] [] h 0 0 (f_X8_play_17 h) := by
  unfold f_X8_play_17
  refine s_bipush (i := 7) rfl (v := (-2 : Int32)) (by decide) ?_
  exact s_iret (i := 8) rfl rfl
theorem b_X8_play_87 (X : XX) (k_44 : XM → Option Nat → Int32 → Int32 → Option (Int32 × XM)) (hk_44 : ∀ h l0 l2 l3, SW X I_X8_play ρi 44 [(0, tA l0), (2, tI l2), (3, tI l3)] [] h 0 0 (k_44 h l0 l2 l3)) (h : XM) (l0 : Option Nat) (l2 : Int32) (l3 : Int32) : SW X I_X8_play ρi 87 [(0, tA l0), (2, tI l2), (3, tI l3)] [] h 0 0 (f_X8_play_87 k_44 h l0 l2 l3) := by
  unfold f_X8_play_87
  refine s_inc (i := 46) rfl 2 rfl (c9 := (-1 : Int32)) (by decide) (Nat.le_of_ble_eq_true rfl) (fun v1 => ?_)
  refine s_ls (ls2 := [(3, tI v1), (0, tA l0), (2, tI l2)]) rfl ?_
  refine s_goto (i := 47) rfl (tgt := 44) (by decide) ?_
  exact s_sub [1, 2, 0] rfl (hk_44 h l0 l2 v1)
theorem bb_X8_play_44 (X : XX) (k_44 : XM → Option Nat → Int32 → Int32 → Option (Int32 × XM)) (hk_44 : ∀ h l0 l2 l3, SW X I_X8_play ρi 44 [(0, tA l0), (2, tI l2), (3, tI l3)] [] h 0 0 (k_44 h l0 l2 l3)) (h : XM) (l0 : Option Nat) (l2 : Int32) (l3 : Int32) : SW X I_X8_play ρi 44 [(0, tA l0), (2, tI l2), (3, tI l3)] [] h 0 0 (fb_X8_play_44 k_44 h l0 l2 l3) := by
  unfold fb_X8_play_44
  refine s_iload_n (i := 23) rfl 2 rfl ?_
  refine s_iflt (i := 24) rfl (tgt := 93) (by decide) (fun z45 => ?_) (fun z45 => ?_)
  · refine s_aload_n (i := 48) rfl 0 rfl ?_
    refine s_getR (i := 49) rfl xf_8_26.r rfl (fun v2 => ?_)
    refine s_getI (i := 50) rfl xf_8_106.r rfl (fun v3 => ?_)
    refine u_callSi [tI v3] [] rfl (i := 51) rfl (c_J6_bitCount h v3) xm_J6_bitCount (tw828) rfl (Nat.le_of_ble_eq_true rfl) (xRm.of rfl) ⟨rfl, rfl⟩ (fun q4 => ?_)
    exact s_iret (i := 52) rfl rfl
  · refine s_iload_n (i := 25) rfl 1 rfl ?_
    refine s_getTens (i := 26) rfl (tw722) ?_
    refine s_iload_n (i := 27) rfl 2 rfl ?_
    refine s_ialoadK (i := 28) rfl (fun v5 => ?_)
    refine s_idiv (i := 29) rfl (fun v6 => ?_)
    refine s_bipush (i := 30) rfl (v := (10 : Int32)) (by decide) ?_
    refine s_irem (i := 31) rfl (fun v7 => ?_)
    refine s_istore (i := 32) rfl (Nat.le_of_ble_eq_true rfl) (ls2 := [(4, tI v7), (0, tA l0), (2, tI l2), (3, tI l3)]) rfl ?_
    refine s_iload (i := 33) rfl 0 rfl ?_
    refine s_ifne (i := 34) rfl (tgt := 75) (by decide) (fun z62 => ?_) (fun z62 => ?_)
    · refine s_aload_n (i := 35) rfl 1 rfl ?_
      refine s_getR (i := 36) rfl xf_8_26.r rfl (fun v8 => ?_)
      refine u_callVv (kk := 1) [] v8 [] rfl (i := 37) rfl (c_X1_waitOn h v8) xm_X1_waitOn (tw827) rfl (Nat.le_of_ble_eq_true rfl) (xRm.of rfl) ⟨rfl, rfl⟩ (fun q9 => ?_)
      refine s_goto (i := 38) rfl (tgt := 87) (by decide) ?_
      exact s_sub [1, 2, 3] rfl (b_X8_play_87 X k_44 hk_44 q9 l0 l2 l3)
    · refine s_aload_n (i := 39) rfl 1 rfl ?_
      refine s_getR (i := 40) rfl xf_8_26.r rfl (fun v10 => ?_)
      refine s_iload (i := 41) rfl 0 rfl ?_
      refine s_iconst (i := 42) rfl (v := (1 : Int32)) (by decide) ?_
      refine s_isub (i := 43) rfl ?_
      refine u_callVi (kk := 1) [tI (v7 - ((1 : Int32)))] v10 [] rfl (i := 44) rfl (c_X1_putIn h v10 (v7 - ((1 : Int32)))) xm_X1_putIn (tw640) rfl (Nat.le_of_ble_eq_true rfl) (xRm.of rfl) ⟨rfl, rfl⟩ (fun q11 => ?_)
      refine s_pop (i := 45) rfl rfl ?_
      exact s_sub [1, 2, 3] rfl (b_X8_play_87 X k_44 hk_44 q11.2 l0 l2 l3)
theorem b_X8_play_44 (X : XX) : ∀ (n : Nat) (h : XM) (l0 : Option Nat) (l2 : Int32) (l3 : Int32), SW X I_X8_play ρi 44 [(0, tA l0), (2, tI l2), (3, tI l3)] [] h 0 0 (f_X8_play_44 n h l0 l2 l3) := by
  intro n
  induction n with
  | zero =>
    intro h l0 l2 l3
    exact s_none
  | succ n ih =>
    intro h l0 l2 l3
    exact bb_X8_play_44 X (f_X8_play_44 n) ih h l0 l2 l3
theorem c_X8_play (h : XM) (a0 : Option Nat) (a1 : Int32) : MC I_X8_play y_X8_play [tA a0, tI a1] h ρi (f_X8_play h a0 a1) := by
  refine MC_of ⟨by decide +kernel, rfl, rfl, Nat.le_of_ble_eq_true rfl⟩ dT_X8_play (fun X => ?_)
  show SW X I_X8_play ρi 0 [(0, tA a0), (1, tI a1)] [] h 0 0 (f_X8_play h a0 a1)
  unfold f_X8_play
  refine s_iload_n (i := 0) rfl 1 rfl ?_
  refine u_callSi [tI a1] [] rfl (i := 1) rfl (c_X8_areTurns h a1) xm_X8_areTurns (tw770) rfl (Nat.le_of_ble_eq_true rfl) (xRm.of rfl) ⟨rfl, rfl⟩ (fun q12 => ?_)
  refine s_ifeq (i := 2) rfl (tgt := 17) (by decide) (fun z4 => ?_) (fun z4 => ?_)
  · exact s_sub [] rfl (b_X8_play_17 X q12.2)
  · refine s_aload_n (i := 3) rfl 0 rfl ?_
    refine s_getR (i := 4) rfl xf_8_26.r rfl (fun v13 => ?_)
    refine s_getI (i := 5) rfl xf_8_96.r rfl (fun v14 => ?_)
    refine s_ifne (i := 6) rfl (tgt := 20) (by decide) (fun z14 => ?_) (fun z14 => ?_)
    · exact s_sub [] rfl (b_X8_play_17 X q12.2)
    · refine s_aload_n (i := 9) rfl 0 rfl ?_
      refine s_getR (i := 10) rfl xf_8_51.r rfl (fun v15 => ?_)
      refine s_aload_n (i := 11) rfl 0 rfl ?_
      refine s_getR (i := 12) rfl xf_8_26.r rfl (fun v16 => ?_)
      refine s_iload_n (i := 13) rfl 1 rfl ?_
      refine u_callVv (kk := 6) [tA v16, tI a1] v15 [] rfl (i := 14) rfl (c_X6_think q12.2 v15 v16 a1) xm_X6_think (tw773) rfl (Nat.le_of_ble_eq_true rfl) (xRm.of rfl) ⟨rfl, rfl⟩ (fun q17 => ?_)
      refine s_aload_n (i := 15) rfl 0 rfl ?_
      refine s_getR (i := 16) rfl xf_8_51.r rfl (fun v18 => ?_)
      refine u_callVi (kk := 6) [] v18 [] rfl (i := 17) rfl (c_X6_line q17 v18) xm_X6_line (tw819) rfl (Nat.le_of_ble_eq_true rfl) (xRm.of rfl) ⟨rfl, rfl⟩ (fun q19 => ?_)
      refine s_istore_n (i := 18) rfl (Nat.le_of_ble_eq_true rfl) (ls2 := [(2, tI q19.1), (0, tA a0), (1, tI a1)]) rfl ?_
      refine s_iload_n (i := 19) rfl 2 rfl ?_
      refine s_iconst (i := 20) rfl (v := (1 : Int32)) (by decide) ?_
      refine s_isub (i := 21) rfl ?_
      refine s_bnd (fun v20 => ?_)
      refine s_istore_n (i := 22) rfl (Nat.le_of_ble_eq_true rfl) (ls2 := [(3, tI v20), (2, tI q19.1), (0, tA a0), (1, tI a1)]) rfl ?_
      exact s_sub [2, 1, 0] rfl (b_X8_play_44 X FU q19.2 a0 q19.1 v20)
def y_X8_isSheet : MethodName := ⟨"OpensAtNine", "isSheet", "(I)Z"⟩
def T_X8_isSheet : List (Nat × Instr × Nat × Nat) := [(0, .iload_n 0, 1, 1), (1, .ifCond .lt 12, 3, 4), (4, .iload_n 0, 1, 5), (5, .iconst 4, 1, 6), (6, .if_icmp .ge 7, 3, 9), (9, .iconst 1, 1, 10), (10, .goto 4, 3, 13), (13, .iconst 0, 1, 14), (14, .ireturn, 1, 15)]
def I_X8_isSheet : MI := (prog_1_method_48_code, 1, (some .boolean), "OpensAtNine", "isSheet", T_X8_isSheet, 0, 0, 1, 60)
theorem dT_X8_isSheet : ∀ q ∈ T_X8_isSheet, decode prog_1_method_48_code q.1 = .ok (q.2.1, q.2.2.1) ∧ q.2.2.2 = q.1 + q.2.2.1 := by decide +kernel
theorem xm_X8_isSheet : xCS y_X8_isSheet I_X8_isSheet 1 := ⟨tw842, tw69, tw843, ⟨by decide +kernel, by decide +kernel, by decide +kernel⟩⟩
noncomputable def f_X8_isSheet_14 (h : XM) (s0 : Int32) : Option (Int32 × XM) := rz h s0
noncomputable def f_X8_isSheet_13 (h : XM) : Option (Int32 × XM) := f_X8_isSheet_14 h ((0 : Int32))
noncomputable def f_X8_isSheet (h : XM) (a0 : Int32) : Option (Int32 × XM) := if a0 < 0 then (f_X8_isSheet_13 h) else (if a0 < ((4 : Int32)) then (f_X8_isSheet_14 h ((1 : Int32))) else (f_X8_isSheet_13 h))
theorem b_X8_isSheet_14 (X : XX) (h : XM) (s0 : Int32) : SW X I_X8_isSheet ρi 14 [] [tI s0] h 0 0 (f_X8_isSheet_14 h s0) := by
  unfold f_X8_isSheet_14
  exact s_zret (i := 8) rfl rfl
theorem b_X8_isSheet_13 (X : XX) (h : XM) : SW X I_X8_isSheet ρi 13 [] [] h 0 0 (f_X8_isSheet_13 h) := by
  unfold f_X8_isSheet_13
  refine s_iconst (i := 7) rfl (v := (0 : Int32)) (by decide) ?_
  exact s_sub [] rfl (b_X8_isSheet_14 X h ((0 : Int32)))
theorem c_X8_isSheet (h : XM) (a0 : Int32) : MC I_X8_isSheet y_X8_isSheet [tI a0] h ρi (f_X8_isSheet h a0) := by
  refine MC_of ⟨by decide +kernel, rfl, rfl, Nat.le_of_ble_eq_true rfl⟩ dT_X8_isSheet (fun X => ?_)
  show SW X I_X8_isSheet ρi 0 [(0, tI a0)] [] h 0 0 (f_X8_isSheet h a0)
  unfold f_X8_isSheet
  refine s_iload_n (i := 0) rfl 0 rfl ?_
  refine s_iflt (i := 1) rfl (tgt := 13) (by decide) (fun z1 => ?_) (fun z1 => ?_)
  · exact s_sub [] rfl (b_X8_isSheet_13 X h)
  · refine s_iload_n (i := 2) rfl 0 rfl ?_
    refine s_iconst (i := 3) rfl (v := (4 : Int32)) (by decide) ?_
    refine s_icmpge (i := 4) rfl (tgt := 13) (by decide) (fun z6 => ?_) (fun z6 => ?_)
    · refine s_iconst (i := 5) rfl (v := (1 : Int32)) (by decide) ?_
      refine s_goto (i := 6) rfl (tgt := 14) (by decide) ?_
      exact s_sub [] rfl (b_X8_isSheet_14 X h ((1 : Int32)))
    · exact s_sub [] rfl (b_X8_isSheet_13 X h)
def y_X8_refusedRows : MethodName := ⟨"OpensAtNine", "refusedRows", "(I)I"⟩
def T_X8_refusedRows : List (Nat × Instr × Nat × Nat) := [(0, .iload_n 1, 1, 1), (1, .invokestatic 254, 3, 4), (4, .ifCond .ne 6, 3, 7), (7, .bipush (-2), 2, 9), (9, .ireturn, 1, 10), (10, .aload_n 0, 1, 11), (11, .getfield 64, 3, 14), (14, .iload_n 1, 1, 15), (15, .aaload, 1, 16), (16, .getfield 257, 3, 19), (19, .iconst (-1), 1, 20), (20, .if_icmp .ne 6, 3, 23), (23, .bipush (-11), 2, 25), (25, .ireturn, 1, 26), (26, .aload_n 0, 1, 27), (27, .getfield 64, 3, 30), (30, .iload_n 1, 1, 31), (31, .aaload, 1, 32), (32, .getfield 260, 3, 35), (35, .iconst 2, 1, 36), (36, .irem, 1, 37), (37, .ifCond .eq 8, 3, 40), (40, .bipush (-2), 2, 42), (42, .goto 4, 3, 45), (45, .iconst 0, 1, 46), (46, .ireturn, 1, 47)]
def I_X8_refusedRows : MI := (prog_1_method_31_code, 2, (some .int), "OpensAtNine", "refusedRows", T_X8_refusedRows, 0, 0, 2, 80)
theorem dT_X8_refusedRows : ∀ q ∈ T_X8_refusedRows, decode prog_1_method_31_code q.1 = .ok (q.2.1, q.2.2.1) ∧ q.2.2.2 = q.1 + q.2.2.1 := by decide +kernel
theorem xm_X8_refusedRows : xCM y_X8_refusedRows I_X8_refusedRows 8 1 := ⟨⟨tw839, tw26⟩, tw69, tw840, ⟨xT8, 11, rfl⟩, ⟨by decide +kernel, by decide +kernel, by decide +kernel⟩⟩
noncomputable def f_X8_refusedRows_46 (h : XM) (s0 : Int32) : Option (Int32 × XM) := some (s0, h)
noncomputable def f_X8_refusedRows (h : XM) (a0 : Option Nat) (a1 : Int32) : Option (Int32 × XM) := (f_X8_isSheet h a1).bind fun q1 => if q1.1 = 0 then (some ((-2 : Int32), q1.2)) else ((gR q1.2 8 a0 8).bind fun v2 => (rR 14 q1.2 v2 a1).bind fun v3 => (gI q1.2 4 v3 1).bind fun v4 => if v4 = ((-1 : Int32)) then (some ((-11 : Int32), q1.2)) else ((gR q1.2 8 a0 8).bind fun v5 => (rR 14 q1.2 v5 a1).bind fun v6 => (gI q1.2 4 v6 2).bind fun v7 => (irem v7 ((2 : Int32))).bind fun v8 => if v8 = 0 then (f_X8_refusedRows_46 q1.2 ((0 : Int32))) else (f_X8_refusedRows_46 q1.2 ((-2 : Int32)))))
theorem b_X8_refusedRows_46 (X : XX) (h : XM) (s0 : Int32) : SW X I_X8_refusedRows ρi 46 [] [tI s0] h 0 0 (f_X8_refusedRows_46 h s0) := by
  unfold f_X8_refusedRows_46
  exact s_iret (i := 25) rfl rfl
theorem c_X8_refusedRows (h : XM) (a0 : Option Nat) (a1 : Int32) : MC I_X8_refusedRows y_X8_refusedRows [tA a0, tI a1] h ρi (f_X8_refusedRows h a0 a1) := by
  refine MC_of ⟨by decide +kernel, rfl, rfl, Nat.le_of_ble_eq_true rfl⟩ dT_X8_refusedRows (fun X => ?_)
  show SW X I_X8_refusedRows ρi 0 [(0, tA a0), (1, tI a1)] [] h 0 0 (f_X8_refusedRows h a0 a1)
  unfold f_X8_refusedRows
  refine s_iload_n (i := 0) rfl 1 rfl ?_
  refine u_callSi [tI a1] [] rfl (i := 1) rfl (c_X8_isSheet h a1) xm_X8_isSheet (tw841) rfl (Nat.le_of_ble_eq_true rfl) (xRm.of rfl) ⟨rfl, rfl⟩ (fun q1 => ?_)
  refine s_ifne (i := 2) rfl (tgt := 10) (by decide) (fun z4 => ?_) (fun z4 => ?_)
  · refine s_bipush (i := 3) rfl (v := (-2 : Int32)) (by decide) ?_
    exact s_iret (i := 4) rfl rfl
  · refine s_aload_n (i := 5) rfl 0 rfl ?_
    refine s_getR (i := 6) rfl xf_8_64.r rfl (fun v2 => ?_)
    refine s_iload_n (i := 7) rfl 1 rfl ?_
    refine s_aaload (i := 8) rfl (kk := 14) ⟨by decide, by decide⟩ (fun v3 => ?_)
    refine s_getI (i := 9) rfl xf_8_257.r rfl (fun v4 => ?_)
    refine s_iconst (i := 10) rfl (v := (-1 : Int32)) (by decide) ?_
    refine s_icmpne (i := 11) rfl (tgt := 26) (by decide) (fun z20 => ?_) (fun z20 => ?_)
    · refine s_bipush (i := 12) rfl (v := (-11 : Int32)) (by decide) ?_
      exact s_iret (i := 13) rfl rfl
    · refine s_aload_n (i := 14) rfl 0 rfl ?_
      refine s_getR (i := 15) rfl xf_8_64.r rfl (fun v5 => ?_)
      refine s_iload_n (i := 16) rfl 1 rfl ?_
      refine s_aaload (i := 17) rfl (kk := 14) ⟨by decide, by decide⟩ (fun v6 => ?_)
      refine s_getI (i := 18) rfl xf_8_260.r rfl (fun v7 => ?_)
      refine s_iconst (i := 19) rfl (v := (2 : Int32)) (by decide) ?_
      refine s_irem (i := 20) rfl (fun v8 => ?_)
      refine s_ifeq (i := 21) rfl (tgt := 45) (by decide) (fun z37 => ?_) (fun z37 => ?_)
      · refine s_iconst (i := 24) rfl (v := (0 : Int32)) (by decide) ?_
        exact s_sub [] rfl (b_X8_refusedRows_46 X q1.2 ((0 : Int32)))
      · refine s_bipush (i := 22) rfl (v := (-2 : Int32)) (by decide) ?_
        refine s_goto (i := 23) rfl (tgt := 46) (by decide) ?_
        exact s_sub [] rfl (b_X8_refusedRows_46 X q1.2 ((-2 : Int32)))
def y_X8_refusedStart : MethodName := ⟨"OpensAtNine", "refusedStart", "(II)I"⟩
def T_X8_refusedStart : List (Nat × Instr × Nat × Nat) := [(0, .aload_n 0, 1, 1), (1, .iload_n 1, 1, 2), (2, .invokevirtual 251, 3, 5), (5, .istore_n 3, 1, 6), (6, .iload_n 3, 1, 7), (7, .ifCond .eq 5, 3, 10), (10, .iload_n 3, 1, 11), (11, .ireturn, 1, 12), (12, .iload_n 2, 1, 13), (13, .ifCond .lt 10, 3, 16), (16, .iload_n 2, 1, 17), (17, .sipush 9999, 3, 20), (20, .if_icmp .le 8, 3, 23), (23, .bipush (-7), 2, 25), (25, .goto 4, 3, 28), (28, .iconst 0, 1, 29), (29, .ireturn, 1, 30)]
def I_X8_refusedStart : MI := (prog_1_method_30_code, 4, (some .int), "OpensAtNine", "refusedStart", T_X8_refusedStart, 0, 0, 3, 101)
theorem dT_X8_refusedStart : ∀ q ∈ T_X8_refusedStart, decode prog_1_method_30_code q.1 = .ok (q.2.1, q.2.2.1) ∧ q.2.2.2 = q.1 + q.2.2.1 := by decide +kernel
theorem xm_X8_refusedStart : xCM y_X8_refusedStart I_X8_refusedStart 8 2 := ⟨⟨tw835, tw25⟩, tw69, tw836, ⟨xT8, 11, rfl⟩, ⟨by decide +kernel, by decide +kernel, by decide +kernel⟩⟩
noncomputable def f_X8_refusedStart_29 (h : XM) (s0 : Int32) : Option (Int32 × XM) := some (s0, h)
noncomputable def f_X8_refusedStart_23 (h : XM) : Option (Int32 × XM) := f_X8_refusedStart_29 h ((-7 : Int32))
noncomputable def f_X8_refusedStart (h : XM) (a0 : Option Nat) (a1 : Int32) (a2 : Int32) : Option (Int32 × XM) := (vc h 8 a0 (f_X8_refusedRows h a0 a1)).bind fun q1 => if q1.1 = 0 then (if a2 < 0 then (f_X8_refusedStart_23 q1.2) else (if ((9999 : Int32)) < a2 then (f_X8_refusedStart_23 q1.2) else (f_X8_refusedStart_29 q1.2 ((0 : Int32))))) else (some (q1.1, q1.2))
theorem b_X8_refusedStart_29 (X : XX) (h : XM) (s0 : Int32) : SW X I_X8_refusedStart ρi 29 [] [tI s0] h 0 0 (f_X8_refusedStart_29 h s0) := by
  unfold f_X8_refusedStart_29
  exact s_iret (i := 16) rfl rfl
theorem b_X8_refusedStart_23 (X : XX) (h : XM) : SW X I_X8_refusedStart ρi 23 [] [] h 0 0 (f_X8_refusedStart_23 h) := by
  unfold f_X8_refusedStart_23
  refine s_bipush (i := 13) rfl (v := (-7 : Int32)) (by decide) ?_
  refine s_goto (i := 14) rfl (tgt := 29) (by decide) ?_
  exact s_sub [] rfl (b_X8_refusedStart_29 X h ((-7 : Int32)))
theorem c_X8_refusedStart (h : XM) (a0 : Option Nat) (a1 : Int32) (a2 : Int32) : MC I_X8_refusedStart y_X8_refusedStart [tA a0, tI a1, tI a2] h ρi (f_X8_refusedStart h a0 a1 a2) := by
  refine MC_of ⟨by decide +kernel, rfl, rfl, Nat.le_of_ble_eq_true rfl⟩ dT_X8_refusedStart (fun X => ?_)
  show SW X I_X8_refusedStart ρi 0 [(0, tA a0), (1, tI a1), (2, tI a2)] [] h 0 0 (f_X8_refusedStart h a0 a1 a2)
  unfold f_X8_refusedStart
  refine s_aload_n (i := 0) rfl 0 rfl ?_
  refine s_iload_n (i := 1) rfl 1 rfl ?_
  refine u_callVi (kk := 8) [tI a1] a0 [] rfl (i := 2) rfl (c_X8_refusedRows h a0 a1) xm_X8_refusedRows (tw837) rfl (Nat.le_of_ble_eq_true rfl) (xRm.of rfl) ⟨rfl, rfl⟩ (fun q1 => ?_)
  refine s_istore_n (i := 3) rfl (Nat.le_of_ble_eq_true rfl) (ls2 := [(3, tI q1.1), (0, tA a0), (1, tI a1), (2, tI a2)]) rfl ?_
  refine s_iload_n (i := 4) rfl 0 rfl ?_
  refine s_ifeq (i := 5) rfl (tgt := 12) (by decide) (fun z7 => ?_) (fun z7 => ?_)
  · refine s_iload_n (i := 8) rfl 3 rfl ?_
    refine s_iflt (i := 9) rfl (tgt := 23) (by decide) (fun z13 => ?_) (fun z13 => ?_)
    · exact s_sub [] rfl (b_X8_refusedStart_23 X q1.2)
    · refine s_iload_n (i := 10) rfl 3 rfl ?_
      refine s_sipush (i := 11) rfl (v := (9999 : Int32)) (by decide) ?_
      refine s_icmple (i := 12) rfl (tgt := 28) (by decide) (fun z20 => ?_) (fun z20 => ?_)
      · exact s_sub [] rfl (b_X8_refusedStart_23 X q1.2)
      · refine s_iconst (i := 15) rfl (v := (0 : Int32)) (by decide) ?_
        exact s_sub [] rfl (b_X8_refusedStart_29 X q1.2 ((0 : Int32)))
  · refine s_iload_n (i := 6) rfl 0 rfl ?_
    exact s_iret (i := 7) rfl rfl
def y_X8_which : MethodName := ⟨"OpensAtNine", "which", "(II)I"⟩
def T_X8_which : List (Nat × Instr × Nat × Nat) := [(0, .aload_n 0, 1, 1), (1, .iload_n 1, 1, 2), (2, .iload_n 2, 1, 3), (3, .invokevirtual 230, 3, 6), (6, .istore_n 3, 1, 7), (7, .iload_n 3, 1, 8), (8, .ifCond .eq 7, 3, 11), (11, .iload_n 3, 1, 12), (12, .goto 13, 3, 15), (15, .aload_n 0, 1, 16), (16, .getfield 64, 3, 19), (19, .iload_n 1, 1, 20), (20, .aaload, 1, 21), (21, .iload_n 2, 1, 22), (22, .invokevirtual 234, 3, 25), (25, .ireturn, 1, 26)]
def I_X8_which : MI := (prog_1_method_27_code, 4, (some .int), "OpensAtNine", "which", T_X8_which, 0, 0, 4, 130)
theorem dT_X8_which : ∀ q ∈ T_X8_which, decode prog_1_method_27_code q.1 = .ok (q.2.1, q.2.2.1) ∧ q.2.2.2 = q.1 + q.2.2.1 := by decide +kernel
theorem xm_X8_which : xCM y_X8_which I_X8_which 8 2 := ⟨⟨tw830, tw831⟩, tw69, tw832, ⟨xT8, 11, rfl⟩, ⟨by decide +kernel, by decide +kernel, by decide +kernel⟩⟩
noncomputable def f_X8_which_25 (h : XM) (s0 : Int32) : Option (Int32 × XM) := some (s0, h)
noncomputable def f_X8_which (h : XM) (a0 : Option Nat) (a1 : Int32) (a2 : Int32) : Option (Int32 × XM) := (vc h 8 a0 (f_X8_refusedStart h a0 a1 a2)).bind fun q1 => if q1.1 = 0 then ((gR q1.2 8 a0 8).bind fun v2 => (rR 14 q1.2 v2 a1).bind fun v3 => (vc q1.2 4 v3 (f_X4_numbersBy q1.2 v3 a2)).bind fun q4 => f_X8_which_25 q4.2 q4.1) else (f_X8_which_25 q1.2 q1.1)
theorem b_X8_which_25 (X : XX) (h : XM) (s0 : Int32) : SW X I_X8_which ρi 25 [] [tI s0] h 0 0 (f_X8_which_25 h s0) := by
  unfold f_X8_which_25
  exact s_iret (i := 15) rfl rfl
theorem c_X8_which (h : XM) (a0 : Option Nat) (a1 : Int32) (a2 : Int32) : MC I_X8_which y_X8_which [tA a0, tI a1, tI a2] h ρi (f_X8_which h a0 a1 a2) := by
  refine MC_of ⟨by decide +kernel, rfl, rfl, Nat.le_of_ble_eq_true rfl⟩ dT_X8_which (fun X => ?_)
  show SW X I_X8_which ρi 0 [(0, tA a0), (1, tI a1), (2, tI a2)] [] h 0 0 (f_X8_which h a0 a1 a2)
  unfold f_X8_which
  refine s_aload_n (i := 0) rfl 0 rfl ?_
  refine s_iload_n (i := 1) rfl 1 rfl ?_
  refine s_iload_n (i := 2) rfl 2 rfl ?_
  refine u_callVi (kk := 8) [tI a1, tI a2] a0 [] rfl (i := 3) rfl (c_X8_refusedStart h a0 a1 a2) xm_X8_refusedStart (tw833) rfl (Nat.le_of_ble_eq_true rfl) (xRm.of rfl) ⟨rfl, rfl⟩ (fun q1 => ?_)
  refine s_istore_n (i := 4) rfl (Nat.le_of_ble_eq_true rfl) (ls2 := [(3, tI q1.1), (0, tA a0), (1, tI a1), (2, tI a2)]) rfl ?_
  refine s_iload_n (i := 5) rfl 0 rfl ?_
  refine s_ifeq (i := 6) rfl (tgt := 15) (by decide) (fun z8 => ?_) (fun z8 => ?_)
  · refine s_aload_n (i := 9) rfl 1 rfl ?_
    refine s_getR (i := 10) rfl xf_8_64.r rfl (fun v2 => ?_)
    refine s_iload_n (i := 11) rfl 2 rfl ?_
    refine s_aaload (i := 12) rfl (kk := 14) ⟨by decide, by decide⟩ (fun v3 => ?_)
    refine s_iload_n (i := 13) rfl 3 rfl ?_
    refine u_callVi (kk := 4) [tI a2] v3 [] rfl (i := 14) rfl (c_X4_numbersBy q1.2 v3 a2) xm_X4_numbersBy (tw844) rfl (Nat.le_of_ble_eq_true rfl) (xRm.of rfl) ⟨rfl, rfl⟩ (fun q4 => ?_)
    exact s_sub [] rfl (b_X8_which_25 X q4.2 q4.1)
  · refine s_iload_n (i := 7) rfl 0 rfl ?_
    refine s_goto (i := 8) rfl (tgt := 25) (by decide) ?_
    exact s_sub [] rfl (b_X8_which_25 X q1.2 q1.1)
