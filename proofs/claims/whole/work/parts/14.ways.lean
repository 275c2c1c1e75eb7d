/-! 14.ways: the methods as functions, and that the bytecode does so (written by wip/whole/gen/gen_parts.py) -/
def y_X6_init : MethodName := ⟨"OpensAtNine$Turns", "<init>", "(LOpensAtNine$Gate;LOpensAtNine$Met;)V"⟩
def T_X6_init : List (Nat × Instr × Nat × Nat) := [(0, .aload_n 0, 1, 1), (1, .invokespecial 3, 3, 4), (4, .aload_n 0, 1, 5), (5, .bipush 7, 2, 7), (7, .iconst 4, 1, 8), (8, .multianewarray 9 2, 4, 12), (12, .putfield 11, 3, 15), (15, .aload_n 0, 1, 16), (16, .bipush 7, 2, 18), (18, .newarray .int, 2, 20), (20, .putfield 16, 3, 23), (23, .aload_n 0, 1, 24), (24, .sipush 4096, 3, 27), (27, .newarray .int, 2, 29), (29, .putfield 22, 3, 32), (32, .aload_n 0, 1, 33), (33, .sipush 1024, 3, 36), (36, .newarray .int, 2, 38), (38, .putfield 25, 3, 41), (41, .aload_n 0, 1, 42), (42, .aload_n 1, 1, 43), (43, .putfield 28, 3, 46), (46, .aload_n 0, 1, 47), (47, .aload_n 2, 1, 48), (48, .putfield 32, 3, 51), (51, .return_, 1, 52)]
def I_X6_init : MI := (prog_8_method_1_code, 3, none, "OpensAtNine$Turns", "<init>", T_X6_init, 14, 5237, 1, 60)
theorem dT_X6_init : ∀ q ∈ T_X6_init, decode prog_8_method_1_code q.1 = .ok (q.2.1, q.2.2.1) ∧ q.2.2.2 = q.1 + q.2.2.1 := by decide +kernel
theorem xm_X6_init : xCI y_X6_init I_X6_init 2 := ⟨⟨rfl, rfl⟩, tw198, tw73, tw199, ⟨by decide +kernel, by decide +kernel, by decide +kernel⟩⟩
noncomputable def f_X6_init (h : XM) (a0 : Option Nat) (a1 : Option Nat) (a2 : Option Nat) : Option (XM) := (a0).bind fun _ => (nM h ((7 : Int32)) ((4 : Int32))).bind fun h1 => (pR h1 6 a0 1 (some (xc h))).bind fun h2 => (nA h2 10 7 ((7 : Int32))).bind fun h3 => (pR h3 6 a0 2 (some (xc h2))).bind fun h4 => (nA h4 10 4096 ((4096 : Int32))).bind fun h5 => (pR h5 6 a0 4 (some (xc h4))).bind fun h6 => (nA h6 10 1024 ((1024 : Int32))).bind fun h7 => (pR h7 6 a0 5 (some (xc h6))).bind fun h8 => (pR h8 6 a0 0 a1).bind fun h9 => (pR h9 6 a0 3 a2).bind fun h10 => some h10
theorem c_X6_init (h : XM) (a0 : Option Nat) (a1 : Option Nat) (a2 : Option Nat) : MC I_X6_init y_X6_init [tA a0, tA a1, tA a2] h ρv (f_X6_init h a0 a1 a2) := by
  refine MC_of ⟨by decide +kernel, rfl, rfl, Nat.le_of_ble_eq_true rfl⟩ dT_X6_init (fun X => ?_)
  show SW X I_X6_init ρv 0 [(0, tA a0), (1, tA a1), (2, tA a2)] [] h 14 5237 (f_X6_init h a0 a1 a2)
  unfold f_X6_init
  refine s_aload_n (i := 0) rfl 0 rfl ?_
  refine s_bud 14 5237 (by omega) (by omega) ?_
  refine s_objInit (i := 1) rfl ⟨tw200, tw93, tw94⟩ ⟨by decide, by decide⟩ rfl ?_
  refine s_bud 14 5237 (by omega) (by omega) ?_
  refine s_aload_n (i := 2) rfl 0 rfl ?_
  refine s_bud 14 5237 (by omega) (by omega) ?_
  refine s_bipush (i := 3) rfl (v := (7 : Int32)) (by decide) ?_
  refine s_bud 14 5237 (by omega) (by omega) ?_
  refine s_iconst (i := 4) rfl (v := (4 : Int32)) (by decide) ?_
  refine s_bud 14 5237 (by omega) (by omega) ?_
  refine s_bud (11 + 3) (110 + 5127) (by omega) (by omega) ?_
  refine s_mna (i := 5) rfl ⟨tw201, tw158⟩ (fun h1 => ?_)
  refine s_bud 3 5127 (by omega) (by omega) ?_
  refine s_putR (i := 6) rfl xf_6_11 (fun _ => rfl) rfl (Or.inr ⟨_, rfl⟩) (fun h2 => ?_)
  refine s_bud 3 5127 (by omega) (by omega) ?_
  refine s_aload_n (i := 7) rfl 0 rfl ?_
  refine s_bud 3 5127 (by omega) (by omega) ?_
  refine s_bipush (i := 8) rfl (v := (7 : Int32)) (by decide) ?_
  refine s_bud 3 5127 (by omega) (by omega) ?_
  refine s_bud (1 + 2) (7 + 5120) (by omega) (by omega) ?_
  refine s_newarr (i := 9) rfl (lim := 7) (Or.inl ⟨rfl, rfl⟩) (by decide) (tw158) (fun h3 => ?_)
  refine s_bud 2 5120 (by omega) (by omega) ?_
  refine s_putR (i := 10) rfl xf_6_16 (fun _ => rfl) rfl (Or.inr ⟨_, rfl⟩) (fun h4 => ?_)
  refine s_bud 2 5120 (by omega) (by omega) ?_
  refine s_aload_n (i := 11) rfl 0 rfl ?_
  refine s_bud 2 5120 (by omega) (by omega) ?_
  refine s_sipush (i := 12) rfl (v := (4096 : Int32)) (by decide) ?_
  refine s_bud 2 5120 (by omega) (by omega) ?_
  refine s_bud (1 + 1) (4096 + 1024) (by omega) (by omega) ?_
  refine s_newarr (i := 13) rfl (lim := 4096) (Or.inl ⟨rfl, rfl⟩) (by decide) (tw158) (fun h5 => ?_)
  refine s_bud 1 1024 (by omega) (by omega) ?_
  refine s_putR (i := 14) rfl xf_6_22 (fun _ => rfl) rfl (Or.inr ⟨_, rfl⟩) (fun h6 => ?_)
  refine s_bud 1 1024 (by omega) (by omega) ?_
  refine s_aload_n (i := 15) rfl 0 rfl ?_
  refine s_bud 1 1024 (by omega) (by omega) ?_
  refine s_sipush (i := 16) rfl (v := (1024 : Int32)) (by decide) ?_
  refine s_bud 1 1024 (by omega) (by omega) ?_
  refine s_bud (1 + 0) (1024 + 0) (by omega) (by omega) ?_
  refine s_newarr (i := 17) rfl (lim := 1024) (Or.inl ⟨rfl, rfl⟩) (by decide) (tw158) (fun h7 => ?_)
  refine s_bud 0 0 (by omega) (by omega) ?_
  refine s_putR (i := 18) rfl xf_6_25 (fun _ => rfl) rfl (Or.inr ⟨_, rfl⟩) (fun h8 => ?_)
  refine s_bud 0 0 (by omega) (by omega) ?_
  refine s_aload_n (i := 19) rfl 0 rfl ?_
  refine s_bud 0 0 (by omega) (by omega) ?_
  refine s_aload_n (i := 20) rfl 1 rfl ?_
  refine s_bud 0 0 (by omega) (by omega) ?_
  refine s_putR (i := 21) rfl xf_6_28 (fun _ => rfl) rfl (Or.inl ⟨_, rfl⟩) (fun h9 => ?_)
  refine s_bud 0 0 (by omega) (by omega) ?_
  refine s_aload_n (i := 22) rfl 0 rfl ?_
  refine s_bud 0 0 (by omega) (by omega) ?_
  refine s_aload_n (i := 23) rfl 2 rfl ?_
  refine s_bud 0 0 (by omega) (by omega) ?_
  refine s_putR (i := 24) rfl xf_6_32 (fun _ => rfl) rfl (Or.inl ⟨_, rfl⟩) (fun h10 => ?_)
  refine s_bud 0 0 (by omega) (by omega) ?_
  exact s_vret (i := 25) rfl rfl
def y_X6_choose : MethodName := ⟨"OpensAtNine$Turns", "choose", "(IIII)V"⟩
def T_X6_choose : List (Nat × Instr × Nat × Nat) := [(0, .iconst 0, 1, 1), (1, .istore 5, 2, 3), (3, .iload 5, 2, 5), (5, .iconst 4, 1, 6), (6, .if_icmp .ge 29, 3, 9), (9, .aload_n 0, 1, 10), (10, .getfield 11, 3, 13), (13, .iload_n 1, 1, 14), (14, .aaload, 1, 15), (15, .iload 5, 2, 17), (17, .aload_n 0, 1, 18), (18, .getfield 11, 3, 21), (21, .iload_n 1, 1, 22), (22, .iconst 1, 1, 23), (23, .iadd, 1, 24), (24, .aaload, 1, 25), (25, .iload 5, 2, 27), (27, .iaload, 1, 28), (28, .iastore, 1, 29), (29, .iinc 5 1, 3, 32), (32, .goto (-29), 3, 35), (35, .aload_n 0, 1, 36), (36, .getfield 11, 3, 39), (39, .iload_n 1, 1, 40), (40, .aaload, 1, 41), (41, .iload_n 2, 1, 42), (42, .dup2, 1, 43), (43, .iaload, 1, 44), (44, .iload 4, 2, 46), (46, .isub, 1, 47), (47, .iastore, 1, 48), (48, .aload_n 0, 1, 49), (49, .getfield 16, 3, 52), (52, .iload_n 1, 1, 53), (53, .iload_n 3, 1, 54), (54, .getstatic 120, 3, 57), (57, .aload_n 0, 1, 58), (58, .getfield 54, 3, 61), (61, .iload_n 1, 1, 62), (62, .isub, 1, 63), (63, .iconst 1, 1, 64), (64, .isub, 1, 65), (65, .iaload, 1, 66), (66, .imul, 1, 67), (67, .aload_n 0, 1, 68), (68, .getfield 16, 3, 71), (71, .iload_n 1, 1, 72), (72, .iconst 1, 1, 73), (73, .iadd, 1, 74), (74, .iaload, 1, 75), (75, .iadd, 1, 76), (76, .iastore, 1, 77), (77, .return_, 1, 78)]
def I_X6_choose : MI := (prog_8_method_9_code, 6, none, "OpensAtNine$Turns", "choose", T_X6_choose, 0, 0, 1, 60)
theorem dT_X6_choose : ∀ q ∈ T_X6_choose, decode prog_8_method_9_code q.1 = .ok (q.2.1, q.2.2.1) ∧ q.2.2.2 = q.1 + q.2.2.1 := by decide +kernel
theorem xm_X6_choose : xCM y_X6_choose I_X6_choose 6 4 := ⟨⟨tw800, tw23⟩, tw73, tw801, ⟨xT6, 7, rfl⟩, ⟨by decide +kernel, by decide +kernel, by decide +kernel⟩⟩
noncomputable def fb_X6_choose_3 (k_3 : XM → Option Nat → Int32 → Int32 → Int32 → Int32 → Int32 → Option (XM)) (h : XM) (l0 : Option Nat) (l1 : Int32) (l2 : Int32) (l3 : Int32) (l4 : Int32) (l5 : Int32) : Option (XM) := if l5 < ((4 : Int32)) then ((gR h 6 l0 1).bind fun v1 => (rR 15 h v1 l1).bind fun v2 => (gR h 6 l0 1).bind fun v3 => (rR 15 h v3 (l1 + ((1 : Int32)))).bind fun v4 => (rI h v4 l5).bind fun v5 => (sI h v2 l5 v5).bind fun h6 => bnd (l5 + (1 : Int32)) fun v7 => k_3 h6 l0 l1 l2 l3 l4 v7) else ((gR h 6 l0 1).bind fun v8 => (rR 15 h v8 l1).bind fun v9 => (rI h v9 l2).bind fun v10 => (sI h v9 l2 (v10 - l4)).bind fun h11 => (gR h11 6 l0 2).bind fun v12 => (gI h11 6 l0 6).bind fun v13 => (rT ((v13 - l1) - ((1 : Int32)))).bind fun v14 => (gR h11 6 l0 2).bind fun v15 => (rI h11 v15 (l1 + ((1 : Int32)))).bind fun v16 => (sI h11 v12 l1 ((l3 * v14) + v16)).bind fun h17 => some h17)
noncomputable def f_X6_choose_3 (n : Nat) : XM → Option Nat → Int32 → Int32 → Int32 → Int32 → Int32 → Option (XM) := Nat.rec (motive := fun _ => XM → Option Nat → Int32 → Int32 → Int32 → Int32 → Int32 → Option (XM)) (fun _ _ _ _ _ _ _ => none) (fun _ ih h l0 l1 l2 l3 l4 l5 => fb_X6_choose_3 ih h l0 l1 l2 l3 l4 l5) n
noncomputable def f_X6_choose (h : XM) (a0 : Option Nat) (a1 : Int32) (a2 : Int32) (a3 : Int32) (a4 : Int32) : Option (XM) := f_X6_choose_3 FU h a0 a1 a2 a3 a4 ((0 : Int32))
theorem bb_X6_choose_3 (X : XX) (k_3 : XM → Option Nat → Int32 → Int32 → Int32 → Int32 → Int32 → Option (XM)) (hk_3 : ∀ h l0 l1 l2 l3 l4 l5, SW X I_X6_choose ρv 3 [(0, tA l0), (1, tI l1), (2, tI l2), (3, tI l3), (4, tI l4), (5, tI l5)] [] h 0 0 (k_3 h l0 l1 l2 l3 l4 l5)) (h : XM) (l0 : Option Nat) (l1 : Int32) (l2 : Int32) (l3 : Int32) (l4 : Int32) (l5 : Int32) : SW X I_X6_choose ρv 3 [(0, tA l0), (1, tI l1), (2, tI l2), (3, tI l3), (4, tI l4), (5, tI l5)] [] h 0 0 (fb_X6_choose_3 k_3 h l0 l1 l2 l3 l4 l5) := by
  unfold fb_X6_choose_3
  refine s_iload (i := 2) rfl 5 rfl ?_
  refine s_iconst (i := 3) rfl (v := (4 : Int32)) (by decide) ?_
  refine s_icmpge (i := 4) rfl (tgt := 35) (by decide) (fun z6 => ?_) (fun z6 => ?_)
  · refine s_aload_n (i := 5) rfl 0 rfl ?_
    refine s_getR (i := 6) rfl xf_6_11.r rfl (fun v1 => ?_)
    refine s_iload_n (i := 7) rfl 1 rfl ?_
    refine s_aaload (i := 8) rfl (kk := 15) ⟨by decide, by decide⟩ (fun v2 => ?_)
    refine s_iload (i := 9) rfl 5 rfl ?_
    refine s_aload_n (i := 10) rfl 0 rfl ?_
    refine s_getR (i := 11) rfl xf_6_11.r rfl (fun v3 => ?_)
    refine s_iload_n (i := 12) rfl 1 rfl ?_
    refine s_iconst (i := 13) rfl (v := (1 : Int32)) (by decide) ?_
    refine s_iadd (i := 14) rfl ?_
    refine s_aaload (i := 15) rfl (kk := 15) ⟨by decide, by decide⟩ (fun v4 => ?_)
    refine s_iload (i := 16) rfl 5 rfl ?_
    refine s_iaload (i := 17) rfl (fun v5 => ?_)
    refine s_iastore (i := 18) rfl (fun h6 => ?_)
    refine s_inc (i := 19) rfl 5 rfl (c9 := (1 : Int32)) (by decide) (Nat.le_of_ble_eq_true rfl) (fun v7 => ?_)
    refine s_ls (ls2 := [(5, tI v7), (0, tA l0), (1, tI l1), (2, tI l2), (3, tI l3), (4, tI l4)]) rfl ?_
    refine s_goto (i := 20) rfl (tgt := 3) (by decide) ?_
    exact s_sub [1, 2, 3, 4, 5, 0] rfl (hk_3 h6 l0 l1 l2 l3 l4 v7)
  · refine s_aload_n (i := 21) rfl 0 rfl ?_
    refine s_getR (i := 22) rfl xf_6_11.r rfl (fun v8 => ?_)
    refine s_iload_n (i := 23) rfl 1 rfl ?_
    refine s_aaload (i := 24) rfl (kk := 15) ⟨by decide, by decide⟩ (fun v9 => ?_)
    refine s_iload_n (i := 25) rfl 2 rfl ?_
    refine s_dup2 (i := 26) rfl rfl rfl ?_
    refine s_iaload (i := 27) rfl (fun v10 => ?_)
    refine s_iload (i := 28) rfl 4 rfl ?_
    refine s_isub (i := 29) rfl ?_
    refine s_iastore (i := 30) rfl (fun h11 => ?_)
    refine s_aload_n (i := 31) rfl 0 rfl ?_
    refine s_getR (i := 32) rfl xf_6_16.r rfl (fun v12 => ?_)
    refine s_iload_n (i := 33) rfl 1 rfl ?_
    refine s_iload_n (i := 34) rfl 3 rfl ?_
    refine s_getTensN6 (i := 35) rfl rfl ?_
    refine s_aload_n (i := 36) rfl 0 rfl ?_
    refine s_getI (i := 37) rfl xf_6_54.r rfl (fun v13 => ?_)
    refine s_iload_n (i := 38) rfl 1 rfl ?_
    refine s_isub (i := 39) rfl ?_
    refine s_iconst (i := 40) rfl (v := (1 : Int32)) (by decide) ?_
    refine s_isub (i := 41) rfl ?_
    refine s_ialoadK (i := 42) rfl (fun v14 => ?_)
    refine s_imul (i := 43) rfl ?_
    refine s_aload_n (i := 44) rfl 0 rfl ?_
    refine s_getR (i := 45) rfl xf_6_16.r rfl (fun v15 => ?_)
    refine s_iload_n (i := 46) rfl 1 rfl ?_
    refine s_iconst (i := 47) rfl (v := (1 : Int32)) (by decide) ?_
    refine s_iadd (i := 48) rfl ?_
    refine s_iaload (i := 49) rfl (fun v16 => ?_)
    refine s_iadd (i := 50) rfl ?_
    refine s_iastore (i := 51) rfl (fun h17 => ?_)
    exact s_vret (i := 52) rfl rfl
theorem b_X6_choose_3 (X : XX) : ∀ (n : Nat) (h : XM) (l0 : Option Nat) (l1 : Int32) (l2 : Int32) (l3 : Int32) (l4 : Int32) (l5 : Int32), SW X I_X6_choose ρv 3 [(0, tA l0), (1, tI l1), (2, tI l2), (3, tI l3), (4, tI l4), (5, tI l5)] [] h 0 0 (f_X6_choose_3 n h l0 l1 l2 l3 l4 l5) := by
  intro n
  induction n with
  | zero =>
    intro h l0 l1 l2 l3 l4 l5
    exact s_none
  | succ n ih =>
    intro h l0 l1 l2 l3 l4 l5
    exact bb_X6_choose_3 X (f_X6_choose_3 n) ih h l0 l1 l2 l3 l4 l5
theorem c_X6_choose (h : XM) (a0 : Option Nat) (a1 : Int32) (a2 : Int32) (a3 : Int32) (a4 : Int32) : MC I_X6_choose y_X6_choose [tA a0, tI a1, tI a2, tI a3, tI a4] h ρv (f_X6_choose h a0 a1 a2 a3 a4) := by
  refine MC_of ⟨by decide +kernel, rfl, rfl, Nat.le_of_ble_eq_true rfl⟩ dT_X6_choose (fun X => ?_)
  show SW X I_X6_choose ρv 0 [(0, tA a0), (1, tI a1), (2, tI a2), (3, tI a3), (4, tI a4)] [] h 0 0 (f_X6_choose h a0 a1 a2 a3 a4)
  unfold f_X6_choose
  refine s_iconst (i := 0) rfl (v := (0 : Int32)) (by decide) ?_
  refine s_istore (i := 1) rfl (Nat.le_of_ble_eq_true rfl) (ls2 := [(5, tI ((0 : Int32))), (0, tA a0), (1, tI a1), (2, tI a2), (3, tI a3), (4, tI a4)]) rfl ?_
  exact s_sub [1, 2, 3, 4, 5, 0] rfl (b_X6_choose_3 X FU h a0 a1 a2 a3 a4 ((0 : Int32)))
def y_X6_keep : MethodName := ⟨"OpensAtNine$Turns", "keep", "(II)V"⟩
def T_X6_keep : List (Nat × Instr × Nat × Nat) := [(0, .iconst 0, 1, 1), (1, .istore_n 3, 1, 2), (2, .iload_n 3, 1, 3), (3, .iconst 4, 1, 4), (4, .if_icmp .ge 27, 3, 7), (7, .aload_n 0, 1, 8), (8, .getfield 22, 3, 11), (11, .iload_n 2, 1, 12), (12, .iconst 4, 1, 13), (13, .imul, 1, 14), (14, .iload_n 3, 1, 15), (15, .iadd, 1, 16), (16, .aload_n 0, 1, 17), (17, .getfield 11, 3, 20), (20, .iload_n 1, 1, 21), (21, .aaload, 1, 22), (22, .iload_n 3, 1, 23), (23, .iaload, 1, 24), (24, .iastore, 1, 25), (25, .iinc 3 1, 3, 28), (28, .goto (-26), 3, 31), (31, .aload_n 0, 1, 32), (32, .getfield 25, 3, 35), (35, .iload_n 2, 1, 36), (36, .aload_n 0, 1, 37), (37, .getfield 16, 3, 40), (40, .iload_n 1, 1, 41), (41, .iaload, 1, 42), (42, .iastore, 1, 43), (43, .return_, 1, 44)]
def I_X6_keep : MI := (prog_8_method_6_code, 4, none, "OpensAtNine$Turns", "keep", T_X6_keep, 0, 0, 1, 60)
theorem dT_X6_keep : ∀ q ∈ T_X6_keep, decode prog_8_method_6_code q.1 = .ok (q.2.1, q.2.2.1) ∧ q.2.2.2 = q.1 + q.2.2.1 := by decide +kernel
theorem xm_X6_keep : xCM y_X6_keep I_X6_keep 6 2 := ⟨⟨tw809, tw24⟩, tw73, tw810, ⟨xT6, 7, rfl⟩, ⟨by decide +kernel, by decide +kernel, by decide +kernel⟩⟩
noncomputable def fb_X6_keep_2 (k_2 : XM → Option Nat → Int32 → Int32 → Int32 → Option (XM)) (h : XM) (l0 : Option Nat) (l1 : Int32) (l2 : Int32) (l3 : Int32) : Option (XM) := if l3 < ((4 : Int32)) then ((gR h 6 l0 4).bind fun v1 => (gR h 6 l0 1).bind fun v2 => (rR 15 h v2 l1).bind fun v3 => (rI h v3 l3).bind fun v4 => (sI h v1 ((l2 * ((4 : Int32))) + l3) v4).bind fun h5 => bnd (l3 + (1 : Int32)) fun v6 => k_2 h5 l0 l1 l2 v6) else ((gR h 6 l0 5).bind fun v7 => (gR h 6 l0 2).bind fun v8 => (rI h v8 l1).bind fun v9 => (sI h v7 l2 v9).bind fun h10 => some h10)
noncomputable def f_X6_keep_2 (n : Nat) : XM → Option Nat → Int32 → Int32 → Int32 → Option (XM) := Nat.rec (motive := fun _ => XM → Option Nat → Int32 → Int32 → Int32 → Option (XM)) (fun _ _ _ _ _ => none) (fun _ ih h l0 l1 l2 l3 => fb_X6_keep_2 ih h l0 l1 l2 l3) n
noncomputable def f_X6_keep (h : XM) (a0 : Option Nat) (a1 : Int32) (a2 : Int32) : Option (XM) := f_X6_keep_2 FU h a0 a1 a2 ((0 : Int32))
theorem bb_X6_keep_2 (X : XX) (k_2 : XM → Option Nat → Int32 → Int32 → Int32 → Option (XM)) (hk_2 : ∀ h l0 l1 l2 l3, SW X I_X6_keep ρv 2 [(0, tA l0), (1, tI l1), (2, tI l2), (3, tI l3)] [] h 0 0 (k_2 h l0 l1 l2 l3)) (h : XM) (l0 : Option Nat) (l1 : Int32) (l2 : Int32) (l3 : Int32) : SW X I_X6_keep ρv 2 [(0, tA l0), (1, tI l1), (2, tI l2), (3, tI l3)] [] h 0 0 (fb_X6_keep_2 k_2 h l0 l1 l2 l3) := by
  unfold fb_X6_keep_2
  refine s_iload_n (i := 2) rfl 3 rfl ?_
  refine s_iconst (i := 3) rfl (v := (4 : Int32)) (by decide) ?_
  refine s_icmpge (i := 4) rfl (tgt := 31) (by decide) (fun z4 => ?_) (fun z4 => ?_)
  · refine s_aload_n (i := 5) rfl 0 rfl ?_
    refine s_getR (i := 6) rfl xf_6_22.r rfl (fun v1 => ?_)
    refine s_iload_n (i := 7) rfl 2 rfl ?_
    refine s_iconst (i := 8) rfl (v := (4 : Int32)) (by decide) ?_
    refine s_imul (i := 9) rfl ?_
    refine s_iload_n (i := 10) rfl 3 rfl ?_
    refine s_iadd (i := 11) rfl ?_
    refine s_aload_n (i := 12) rfl 0 rfl ?_
    refine s_getR (i := 13) rfl xf_6_11.r rfl (fun v2 => ?_)
    refine s_iload_n (i := 14) rfl 1 rfl ?_
    refine s_aaload (i := 15) rfl (kk := 15) ⟨by decide, by decide⟩ (fun v3 => ?_)
    refine s_iload_n (i := 16) rfl 3 rfl ?_
    refine s_iaload (i := 17) rfl (fun v4 => ?_)
    refine s_iastore (i := 18) rfl (fun h5 => ?_)
    refine s_inc (i := 19) rfl 3 rfl (c9 := (1 : Int32)) (by decide) (Nat.le_of_ble_eq_true rfl) (fun v6 => ?_)
    refine s_ls (ls2 := [(3, tI v6), (0, tA l0), (1, tI l1), (2, tI l2)]) rfl ?_
    refine s_goto (i := 20) rfl (tgt := 2) (by decide) ?_
    exact s_sub [1, 2, 3, 0] rfl (hk_2 h5 l0 l1 l2 v6)
  · refine s_aload_n (i := 21) rfl 0 rfl ?_
    refine s_getR (i := 22) rfl xf_6_25.r rfl (fun v7 => ?_)
    refine s_iload_n (i := 23) rfl 2 rfl ?_
    refine s_aload_n (i := 24) rfl 0 rfl ?_
    refine s_getR (i := 25) rfl xf_6_16.r rfl (fun v8 => ?_)
    refine s_iload_n (i := 26) rfl 1 rfl ?_
    refine s_iaload (i := 27) rfl (fun v9 => ?_)
    refine s_iastore (i := 28) rfl (fun h10 => ?_)
    exact s_vret (i := 29) rfl rfl
theorem b_X6_keep_2 (X : XX) : ∀ (n : Nat) (h : XM) (l0 : Option Nat) (l1 : Int32) (l2 : Int32) (l3 : Int32), SW X I_X6_keep ρv 2 [(0, tA l0), (1, tI l1), (2, tI l2), (3, tI l3)] [] h 0 0 (f_X6_keep_2 n h l0 l1 l2 l3) := by
  intro n
  induction n with
  | zero =>
    intro h l0 l1 l2 l3
    exact s_none
  | succ n ih =>
    intro h l0 l1 l2 l3
    exact bb_X6_keep_2 X (f_X6_keep_2 n) ih h l0 l1 l2 l3
theorem c_X6_keep (h : XM) (a0 : Option Nat) (a1 : Int32) (a2 : Int32) : MC I_X6_keep y_X6_keep [tA a0, tI a1, tI a2] h ρv (f_X6_keep h a0 a1 a2) := by
  refine MC_of ⟨by decide +kernel, rfl, rfl, Nat.le_of_ble_eq_true rfl⟩ dT_X6_keep (fun X => ?_)
  show SW X I_X6_keep ρv 0 [(0, tA a0), (1, tI a1), (2, tI a2)] [] h 0 0 (f_X6_keep h a0 a1 a2)
  unfold f_X6_keep
  refine s_iconst (i := 0) rfl (v := (0 : Int32)) (by decide) ?_
  refine s_istore_n (i := 1) rfl (Nat.le_of_ble_eq_true rfl) (ls2 := [(3, tI ((0 : Int32))), (0, tA a0), (1, tI a1), (2, tI a2)]) rfl ?_
  exact s_sub [1, 2, 3, 0] rfl (b_X6_keep_2 X FU h a0 a1 a2 ((0 : Int32)))
def y_X6_recall : MethodName := ⟨"OpensAtNine$Turns", "recall", "(II)V"⟩
def T_X6_recall : List (Nat × Instr × Nat × Nat) := [(0, .iconst 0, 1, 1), (1, .istore_n 3, 1, 2), (2, .iload_n 3, 1, 3), (3, .iconst 4, 1, 4), (4, .if_icmp .ge 27, 3, 7), (7, .aload_n 0, 1, 8), (8, .getfield 11, 3, 11), (11, .iload_n 1, 1, 12), (12, .aaload, 1, 13), (13, .iload_n 3, 1, 14), (14, .aload_n 0, 1, 15), (15, .getfield 22, 3, 18), (18, .iload_n 2, 1, 19), (19, .iconst 4, 1, 20), (20, .imul, 1, 21), (21, .iload_n 3, 1, 22), (22, .iadd, 1, 23), (23, .iaload, 1, 24), (24, .iastore, 1, 25), (25, .iinc 3 1, 3, 28), (28, .goto (-26), 3, 31), (31, .aload_n 0, 1, 32), (32, .getfield 16, 3, 35), (35, .iload_n 1, 1, 36), (36, .aload_n 0, 1, 37), (37, .getfield 25, 3, 40), (40, .iload_n 2, 1, 41), (41, .iaload, 1, 42), (42, .iastore, 1, 43), (43, .return_, 1, 44)]
def I_X6_recall : MI := (prog_8_method_7_code, 4, none, "OpensAtNine$Turns", "recall", T_X6_recall, 0, 0, 1, 60)
theorem dT_X6_recall : ∀ q ∈ T_X6_recall, decode prog_8_method_7_code q.1 = .ok (q.2.1, q.2.2.1) ∧ q.2.2.2 = q.1 + q.2.2.1 := by decide +kernel
theorem xm_X6_recall : xCM y_X6_recall I_X6_recall 6 2 := ⟨⟨tw794, tw22⟩, tw73, tw795, ⟨xT6, 7, rfl⟩, ⟨by decide +kernel, by decide +kernel, by decide +kernel⟩⟩
noncomputable def fb_X6_recall_2 (k_2 : XM → Option Nat → Int32 → Int32 → Int32 → Option (XM)) (h : XM) (l0 : Option Nat) (l1 : Int32) (l2 : Int32) (l3 : Int32) : Option (XM) := if l3 < ((4 : Int32)) then ((gR h 6 l0 1).bind fun v1 => (rR 15 h v1 l1).bind fun v2 => (gR h 6 l0 4).bind fun v3 => (rI h v3 ((l2 * ((4 : Int32))) + l3)).bind fun v4 => (sI h v2 l3 v4).bind fun h5 => bnd (l3 + (1 : Int32)) fun v6 => k_2 h5 l0 l1 l2 v6) else ((gR h 6 l0 2).bind fun v7 => (gR h 6 l0 5).bind fun v8 => (rI h v8 l2).bind fun v9 => (sI h v7 l1 v9).bind fun h10 => some h10)
noncomputable def f_X6_recall_2 (n : Nat) : XM → Option Nat → Int32 → Int32 → Int32 → Option (XM) := Nat.rec (motive := fun _ => XM → Option Nat → Int32 → Int32 → Int32 → Option (XM)) (fun _ _ _ _ _ => none) (fun _ ih h l0 l1 l2 l3 => fb_X6_recall_2 ih h l0 l1 l2 l3) n
noncomputable def f_X6_recall (h : XM) (a0 : Option Nat) (a1 : Int32) (a2 : Int32) : Option (XM) := f_X6_recall_2 FU h a0 a1 a2 ((0 : Int32))
theorem bb_X6_recall_2 (X : XX) (k_2 : XM → Option Nat → Int32 → Int32 → Int32 → Option (XM)) (hk_2 : ∀ h l0 l1 l2 l3, SW X I_X6_recall ρv 2 [(0, tA l0), (1, tI l1), (2, tI l2), (3, tI l3)] [] h 0 0 (k_2 h l0 l1 l2 l3)) (h : XM) (l0 : Option Nat) (l1 : Int32) (l2 : Int32) (l3 : Int32) : SW X I_X6_recall ρv 2 [(0, tA l0), (1, tI l1), (2, tI l2), (3, tI l3)] [] h 0 0 (fb_X6_recall_2 k_2 h l0 l1 l2 l3) := by
  unfold fb_X6_recall_2
  refine s_iload_n (i := 2) rfl 3 rfl ?_
  refine s_iconst (i := 3) rfl (v := (4 : Int32)) (by decide) ?_
  refine s_icmpge (i := 4) rfl (tgt := 31) (by decide) (fun z4 => ?_) (fun z4 => ?_)
  · refine s_aload_n (i := 5) rfl 0 rfl ?_
    refine s_getR (i := 6) rfl xf_6_11.r rfl (fun v1 => ?_)
    refine s_iload_n (i := 7) rfl 1 rfl ?_
    refine s_aaload (i := 8) rfl (kk := 15) ⟨by decide, by decide⟩ (fun v2 => ?_)
    refine s_iload_n (i := 9) rfl 3 rfl ?_
    refine s_aload_n (i := 10) rfl 0 rfl ?_
    refine s_getR (i := 11) rfl xf_6_22.r rfl (fun v3 => ?_)
    refine s_iload_n (i := 12) rfl 2 rfl ?_
    refine s_iconst (i := 13) rfl (v := (4 : Int32)) (by decide) ?_
    refine s_imul (i := 14) rfl ?_
    refine s_iload_n (i := 15) rfl 3 rfl ?_
    refine s_iadd (i := 16) rfl ?_
    refine s_iaload (i := 17) rfl (fun v4 => ?_)
    refine s_iastore (i := 18) rfl (fun h5 => ?_)
    refine s_inc (i := 19) rfl 3 rfl (c9 := (1 : Int32)) (by decide) (Nat.le_of_ble_eq_true rfl) (fun v6 => ?_)
    refine s_ls (ls2 := [(3, tI v6), (0, tA l0), (1, tI l1), (2, tI l2)]) rfl ?_
    refine s_goto (i := 20) rfl (tgt := 2) (by decide) ?_
    exact s_sub [1, 2, 3, 0] rfl (hk_2 h5 l0 l1 l2 v6)
  · refine s_aload_n (i := 21) rfl 0 rfl ?_
    refine s_getR (i := 22) rfl xf_6_16.r rfl (fun v7 => ?_)
    refine s_iload_n (i := 23) rfl 1 rfl ?_
    refine s_aload_n (i := 24) rfl 0 rfl ?_
    refine s_getR (i := 25) rfl xf_6_25.r rfl (fun v8 => ?_)
    refine s_iload_n (i := 26) rfl 2 rfl ?_
    refine s_iaload (i := 27) rfl (fun v9 => ?_)
    refine s_iastore (i := 28) rfl (fun h10 => ?_)
    exact s_vret (i := 29) rfl rfl
theorem b_X6_recall_2 (X : XX) : ∀ (n : Nat) (h : XM) (l0 : Option Nat) (l1 : Int32) (l2 : Int32) (l3 : Int32), SW X I_X6_recall ρv 2 [(0, tA l0), (1, tI l1), (2, tI l2), (3, tI l3)] [] h 0 0 (f_X6_recall_2 n h l0 l1 l2 l3) := by
  intro n
  induction n with
  | zero =>
    intro h l0 l1 l2 l3
    exact s_none
  | succ n ih =>
    intro h l0 l1 l2 l3
    exact bb_X6_recall_2 X (f_X6_recall_2 n) ih h l0 l1 l2 l3
theorem c_X6_recall (h : XM) (a0 : Option Nat) (a1 : Int32) (a2 : Int32) : MC I_X6_recall y_X6_recall [tA a0, tI a1, tI a2] h ρv (f_X6_recall h a0 a1 a2) := by
  refine MC_of ⟨by decide +kernel, rfl, rfl, Nat.le_of_ble_eq_true rfl⟩ dT_X6_recall (fun X => ?_)
  show SW X I_X6_recall ρv 0 [(0, tA a0), (1, tI a1), (2, tI a2)] [] h 0 0 (f_X6_recall h a0 a1 a2)
  unfold f_X6_recall
  refine s_iconst (i := 0) rfl (v := (0 : Int32)) (by decide) ?_
  refine s_istore_n (i := 1) rfl (Nat.le_of_ble_eq_true rfl) (ls2 := [(3, tI ((0 : Int32))), (0, tA a0), (1, tI a1), (2, tI a2)]) rfl ?_
  exact s_sub [1, 2, 3, 0] rfl (b_X6_recall_2 X FU h a0 a1 a2 ((0 : Int32)))
def y_X6_settle : MethodName := ⟨"OpensAtNine$Turns", "settle", "(I)V"⟩
def T_X6_settle : List (Nat × Instr × Nat × Nat) := [(0, .iconst 0, 1, 1), (1, .istore_n 2, 1, 2), (2, .iload_n 2, 1, 3), (3, .aload_n 0, 1, 4), (4, .getfield 28, 3, 7), (7, .getfield 62, 3, 10), (10, .if_icmp .ge 25, 3, 13), (13, .aload_n 0, 1, 14), (14, .getfield 11, 3, 17), (17, .iload_n 1, 1, 18), (18, .aaload, 1, 19), (19, .iload_n 2, 1, 20), (20, .aload_n 0, 1, 21), (21, .getfield 28, 3, 24), (24, .iload_n 2, 1, 25), (25, .invokevirtual 117, 3, 28), (28, .iastore, 1, 29), (29, .iinc 2 1, 3, 32), (32, .goto (-30), 3, 35), (35, .aload_n 0, 1, 36), (36, .getfield 16, 3, 39), (39, .iload_n 1, 1, 40), (40, .iconst 0, 1, 41), (41, .iastore, 1, 42), (42, .return_, 1, 43)]
def I_X6_settle : MI := (prog_8_method_8_code, 3, none, "OpensAtNine$Turns", "settle", T_X6_settle, 0, 0, 5, 159)
theorem dT_X6_settle : ∀ q ∈ T_X6_settle, decode prog_8_method_8_code q.1 = .ok (q.2.1, q.2.2.1) ∧ q.2.2.2 = q.1 + q.2.2.1 := by decide +kernel
theorem xm_X6_settle : xCM y_X6_settle I_X6_settle 6 1 := ⟨⟨tw787, tw21⟩, tw73, tw788, ⟨xT6, 7, rfl⟩, ⟨by decide +kernel, by decide +kernel, by decide +kernel⟩⟩
noncomputable def fb_X6_settle_2 (k_2 : XM → Option Nat → Int32 → Int32 → Option (XM)) (h : XM) (l0 : Option Nat) (l1 : Int32) (l2 : Int32) : Option (XM) := (gR h 6 l0 0).bind fun v1 => (gI h 1 v1 7).bind fun v2 => if l2 < v2 then ((gR h 6 l0 1).bind fun v3 => (rR 15 h v3 l1).bind fun v4 => (gR h 6 l0 0).bind fun v5 => (vc h 1 v5 (f_X1_worthOf h v5 l2)).bind fun q6 => (sI q6.2 v4 l2 q6.1).bind fun h7 => bnd (l2 + (1 : Int32)) fun v8 => k_2 h7 l0 l1 v8) else ((gR h 6 l0 2).bind fun v9 => (sI h v9 l1 ((0 : Int32))).bind fun h10 => some h10)
noncomputable def f_X6_settle_2 (n : Nat) : XM → Option Nat → Int32 → Int32 → Option (XM) := Nat.rec (motive := fun _ => XM → Option Nat → Int32 → Int32 → Option (XM)) (fun _ _ _ _ => none) (fun _ ih h l0 l1 l2 => fb_X6_settle_2 ih h l0 l1 l2) n
noncomputable def f_X6_settle (h : XM) (a0 : Option Nat) (a1 : Int32) : Option (XM) := f_X6_settle_2 FU h a0 a1 ((0 : Int32))
theorem bb_X6_settle_2 (X : XX) (k_2 : XM → Option Nat → Int32 → Int32 → Option (XM)) (hk_2 : ∀ h l0 l1 l2, SW X I_X6_settle ρv 2 [(0, tA l0), (1, tI l1), (2, tI l2)] [] h 0 0 (k_2 h l0 l1 l2)) (h : XM) (l0 : Option Nat) (l1 : Int32) (l2 : Int32) : SW X I_X6_settle ρv 2 [(0, tA l0), (1, tI l1), (2, tI l2)] [] h 0 0 (fb_X6_settle_2 k_2 h l0 l1 l2) := by
  unfold fb_X6_settle_2
  refine s_iload_n (i := 2) rfl 2 rfl ?_
  refine s_aload_n (i := 3) rfl 0 rfl ?_
  refine s_getR (i := 4) rfl xf_6_28.r rfl (fun v1 => ?_)
  refine s_getI (i := 5) rfl xf_6_62.r rfl (fun v2 => ?_)
  refine s_icmpge (i := 6) rfl (tgt := 35) (by decide) (fun z10 => ?_) (fun z10 => ?_)
  · refine s_aload_n (i := 7) rfl 0 rfl ?_
    refine s_getR (i := 8) rfl xf_6_11.r rfl (fun v3 => ?_)
    refine s_iload_n (i := 9) rfl 1 rfl ?_
    refine s_aaload (i := 10) rfl (kk := 15) ⟨by decide, by decide⟩ (fun v4 => ?_)
    refine s_iload_n (i := 11) rfl 2 rfl ?_
    refine s_aload_n (i := 12) rfl 0 rfl ?_
    refine s_getR (i := 13) rfl xf_6_28.r rfl (fun v5 => ?_)
    refine s_iload_n (i := 14) rfl 2 rfl ?_
    refine u_callVi (kk := 1) [tI l2] v5 [tI l2, tA v4] rfl (i := 15) rfl (c_X1_worthOf h v5 l2) xm_X1_worthOf (tw789) rfl (Nat.le_of_ble_eq_true rfl) (xRm.of rfl) ⟨rfl, rfl⟩ (fun q6 => ?_)
    refine s_iastore (i := 16) rfl (fun h7 => ?_)
    refine s_inc (i := 17) rfl 2 rfl (c9 := (1 : Int32)) (by decide) (Nat.le_of_ble_eq_true rfl) (fun v8 => ?_)
    refine s_ls (ls2 := [(2, tI v8), (0, tA l0), (1, tI l1)]) rfl ?_
    refine s_goto (i := 18) rfl (tgt := 2) (by decide) ?_
    exact s_sub [1, 2, 0] rfl (hk_2 h7 l0 l1 v8)
  · refine s_aload_n (i := 19) rfl 0 rfl ?_
    refine s_getR (i := 20) rfl xf_6_16.r rfl (fun v9 => ?_)
    refine s_iload_n (i := 21) rfl 1 rfl ?_
    refine s_iconst (i := 22) rfl (v := (0 : Int32)) (by decide) ?_
    refine s_iastore (i := 23) rfl (fun h10 => ?_)
    exact s_vret (i := 24) rfl rfl
theorem b_X6_settle_2 (X : XX) : ∀ (n : Nat) (h : XM) (l0 : Option Nat) (l1 : Int32) (l2 : Int32), SW X I_X6_settle ρv 2 [(0, tA l0), (1, tI l1), (2, tI l2)] [] h 0 0 (f_X6_settle_2 n h l0 l1 l2) := by
  intro n
  induction n with
  | zero =>
    intro h l0 l1 l2
    exact s_none
  | succ n ih =>
    intro h l0 l1 l2
    exact bb_X6_settle_2 X (f_X6_settle_2 n) ih h l0 l1 l2
theorem c_X6_settle (h : XM) (a0 : Option Nat) (a1 : Int32) : MC I_X6_settle y_X6_settle [tA a0, tI a1] h ρv (f_X6_settle h a0 a1) := by
  refine MC_of ⟨by decide +kernel, rfl, rfl, Nat.le_of_ble_eq_true rfl⟩ dT_X6_settle (fun X => ?_)
  show SW X I_X6_settle ρv 0 [(0, tA a0), (1, tI a1)] [] h 0 0 (f_X6_settle h a0 a1)
  unfold f_X6_settle
  refine s_iconst (i := 0) rfl (v := (0 : Int32)) (by decide) ?_
  refine s_istore_n (i := 1) rfl (Nat.le_of_ble_eq_true rfl) (ls2 := [(2, tI ((0 : Int32))), (0, tA a0), (1, tI a1)]) rfl ?_
  exact s_sub [1, 2, 0] rfl (b_X6_settle_2 X FU h a0 a1 ((0 : Int32)))
def y_X6_solve : MethodName := ⟨"OpensAtNine$Turns", "solve", "(I)V"⟩
def T_X6_solve_0 : List (Nat × Instr × Nat × Nat) := [(0, .iload_n 1, 1, 1), (1, .aload_n 0, 1, 2), (2, .getfield 54, 3, 5), (5, .if_icmp .ge 14, 3, 8), (8, .aload_n 0, 1, 9), (9, .getfield 28, 3, 12), (12, .getfield 62, 3, 15), (15, .iconst 1, 1, 16), (16, .if_icmp .ge 9, 3, 19), (19, .aload_n 0, 1, 20), (20, .iload_n 1, 1, 21), (21, .invokevirtual 65, 3, 24), (24, .return_, 1, 25), (25, .iload_n 1, 1, 26), (26, .bipush 7, 2, 28), (28, .ishl, 1, 29), (29, .aload_n 0, 1, 30), (30, .getfield 28, 3, 33), (33, .getfield 68, 3, 36), (36, .ior, 1, 37), (37, .iconst 4, 1, 38), (38, .ishl, 1, 39), (39, .aload_n 0, 1, 40), (40, .getfield 28, 3, 43), (43, .getfield 71, 3, 46), (46, .ior, 1, 47), (47, .bipush 14, 2, 49), (49, .ishl, 1, 50), (50, .aload_n 0, 1, 51), (51, .getfield 28, 3, 54), (54, .getfield 74, 3, 57), (57, .ior, 1, 58), (58, .istore_n 2, 1, 59), (59, .aload_n 0, 1, 60), (60, .getfield 32, 3, 63), (63, .iload_n 2, 1, 64), (64, .invokevirtual 77, 3, 67), (67, .ifCond .eq 17, 3, 70), (70, .aload_n 0, 1, 71), (71, .iload_n 1, 1, 72)]
def T_X6_solve_1 : List (Nat × Instr × Nat × Nat) := [(72, .aload_n 0, 1, 73), (73, .getfield 32, 3, 76), (76, .iload_n 2, 1, 77), (77, .invokevirtual 81, 3, 80), (80, .invokevirtual 85, 3, 83), (83, .return_, 1, 84), (84, .aload_n 0, 1, 85), (85, .getfield 28, 3, 88), (88, .getfield 74, 3, 91), (91, .istore_n 3, 1, 92), (92, .aload_n 0, 1, 93), (93, .getfield 28, 3, 96), (96, .getfield 89, 3, 99), (99, .istore 4, 2, 101), (101, .aload_n 0, 1, 102), (102, .getfield 28, 3, 105), (105, .getfield 71, 3, 108), (108, .istore 5, 2, 110), (110, .aload_n 0, 1, 111), (111, .getfield 28, 3, 114), (114, .getfield 68, 3, 117), (117, .istore 6, 2, 119), (119, .iload_n 1, 1, 120), (120, .aload_n 0, 1, 121), (121, .getfield 28, 3, 124), (124, .getfield 62, 3, 127), (127, .irem, 1, 128), (128, .istore 7, 2, 130), (130, .aload_n 0, 1, 131), (131, .getfield 28, 3, 134), (134, .iconst 1, 1, 135), (135, .iload 7, 2, 137), (137, .ishl, 1, 138), (138, .invokevirtual 92, 3, 141), (141, .istore 8, 2, 143), (143, .aload_n 0, 1, 144), (144, .getfield 28, 3, 147), (147, .invokevirtual 95, 3, 150), (150, .aload_n 0, 1, 151), (151, .iload_n 1, 1, 152)]
def T_X6_solve_2 : List (Nat × Instr × Nat × Nat) := [(152, .iconst 1, 1, 153), (153, .iadd, 1, 154), (154, .invokevirtual 58, 3, 157), (157, .aload_n 0, 1, 158), (158, .iload_n 1, 1, 159), (159, .iload 7, 2, 161), (161, .iconst 0, 1, 162), (162, .iconst 0, 1, 163), (163, .invokevirtual 98, 3, 166), (166, .aload_n 0, 1, 167), (167, .getfield 28, 3, 170), (170, .iload_n 3, 1, 171), (171, .iload 4, 2, 173), (173, .iload 5, 2, 175), (175, .iload 6, 2, 177), (177, .invokevirtual 102, 3, 180), (180, .iconst 0, 1, 181), (181, .istore 9, 2, 183), (183, .iload 9, 2, 185), (185, .bipush 7, 2, 187), (187, .if_icmp .ge 103, 3, 190), (190, .iload 8, 2, 192), (192, .iload 9, 2, 194), (194, .ishr, 1, 195), (195, .iconst 1, 1, 196), (196, .iand, 1, 197), (197, .ifCond .ne 6, 3, 200), (200, .goto 84, 3, 203), (203, .aload_n 0, 1, 204), (204, .getfield 28, 3, 207), (207, .iload 9, 2, 209), (209, .invokevirtual 105, 3, 212), (212, .istore 10, 2, 214), (214, .aload_n 0, 1, 215), (215, .getfield 28, 3, 218), (218, .iload 9, 2, 220), (220, .invokevirtual 108, 3, 223), (223, .pop, 1, 224), (224, .aload_n 0, 1, 225), (225, .iload_n 1, 1, 226)]
def T_X6_solve_3 : List (Nat × Instr × Nat × Nat) := [(226, .iconst 1, 1, 227), (227, .iadd, 1, 228), (228, .invokevirtual 58, 3, 231), (231, .aload_n 0, 1, 232), (232, .getfield 28, 3, 235), (235, .iload_n 3, 1, 236), (236, .iload 4, 2, 238), (238, .iload 5, 2, 240), (240, .iload 6, 2, 242), (242, .invokevirtual 102, 3, 245), (245, .aload_n 0, 1, 246), (246, .getfield 11, 3, 249), (249, .iload_n 1, 1, 250), (250, .iconst 1, 1, 251), (251, .iadd, 1, 252), (252, .aaload, 1, 253), (253, .iload 7, 2, 255), (255, .iaload, 1, 256), (256, .iload 10, 2, 258), (258, .isub, 1, 259), (259, .aload_n 0, 1, 260), (260, .getfield 11, 3, 263), (263, .iload_n 1, 1, 264), (264, .aaload, 1, 265), (265, .iload 7, 2, 267), (267, .iaload, 1, 268), (268, .if_icmp .le 16, 3, 271), (271, .aload_n 0, 1, 272), (272, .iload_n 1, 1, 273), (273, .iload 7, 2, 275), (275, .iload 9, 2, 277), (277, .iconst 1, 1, 278), (278, .iadd, 1, 279), (279, .iload 10, 2, 281), (281, .invokevirtual 98, 3, 284), (284, .iinc 9 1, 3, 287), (287, .goto (-104), 3, 290), (290, .aload_n 0, 1, 291), (291, .getfield 32, 3, 294), (294, .iload_n 2, 1, 295)]
def T_X6_solve_4 : List (Nat × Instr × Nat × Nat) := [(295, .invokevirtual 111, 3, 298), (298, .aload_n 0, 1, 299), (299, .iload_n 1, 1, 300), (300, .aload_n 0, 1, 301), (301, .getfield 32, 3, 304), (304, .iload_n 2, 1, 305), (305, .invokevirtual 81, 3, 308), (308, .invokevirtual 114, 3, 311), (311, .return_, 1, 312)]
def T_X6_solve : List (Nat × Instr × Nat × Nat) := [(0, .iload_n 1, 1, 1), (1, .aload_n 0, 1, 2), (2, .getfield 54, 3, 5), (5, .if_icmp .ge 14, 3, 8), (8, .aload_n 0, 1, 9), (9, .getfield 28, 3, 12), (12, .getfield 62, 3, 15), (15, .iconst 1, 1, 16), (16, .if_icmp .ge 9, 3, 19), (19, .aload_n 0, 1, 20), (20, .iload_n 1, 1, 21), (21, .invokevirtual 65, 3, 24), (24, .return_, 1, 25), (25, .iload_n 1, 1, 26), (26, .bipush 7, 2, 28), (28, .ishl, 1, 29), (29, .aload_n 0, 1, 30), (30, .getfield 28, 3, 33), (33, .getfield 68, 3, 36), (36, .ior, 1, 37), (37, .iconst 4, 1, 38), (38, .ishl, 1, 39), (39, .aload_n 0, 1, 40), (40, .getfield 28, 3, 43), (43, .getfield 71, 3, 46), (46, .ior, 1, 47), (47, .bipush 14, 2, 49), (49, .ishl, 1, 50), (50, .aload_n 0, 1, 51), (51, .getfield 28, 3, 54), (54, .getfield 74, 3, 57), (57, .ior, 1, 58), (58, .istore_n 2, 1, 59), (59, .aload_n 0, 1, 60), (60, .getfield 32, 3, 63), (63, .iload_n 2, 1, 64), (64, .invokevirtual 77, 3, 67), (67, .ifCond .eq 17, 3, 70), (70, .aload_n 0, 1, 71), (71, .iload_n 1, 1, 72), (72, .aload_n 0, 1, 73), (73, .getfield 32, 3, 76), (76, .iload_n 2, 1, 77), (77, .invokevirtual 81, 3, 80), (80, .invokevirtual 85, 3, 83), (83, .return_, 1, 84), (84, .aload_n 0, 1, 85), (85, .getfield 28, 3, 88), (88, .getfield 74, 3, 91), (91, .istore_n 3, 1, 92), (92, .aload_n 0, 1, 93), (93, .getfield 28, 3, 96), (96, .getfield 89, 3, 99), (99, .istore 4, 2, 101), (101, .aload_n 0, 1, 102), (102, .getfield 28, 3, 105), (105, .getfield 71, 3, 108), (108, .istore 5, 2, 110), (110, .aload_n 0, 1, 111), (111, .getfield 28, 3, 114), (114, .getfield 68, 3, 117), (117, .istore 6, 2, 119), (119, .iload_n 1, 1, 120), (120, .aload_n 0, 1, 121), (121, .getfield 28, 3, 124), (124, .getfield 62, 3, 127), (127, .irem, 1, 128), (128, .istore 7, 2, 130), (130, .aload_n 0, 1, 131), (131, .getfield 28, 3, 134), (134, .iconst 1, 1, 135), (135, .iload 7, 2, 137), (137, .ishl, 1, 138), (138, .invokevirtual 92, 3, 141), (141, .istore 8, 2, 143), (143, .aload_n 0, 1, 144), (144, .getfield 28, 3, 147), (147, .invokevirtual 95, 3, 150), (150, .aload_n 0, 1, 151), (151, .iload_n 1, 1, 152), (152, .iconst 1, 1, 153), (153, .iadd, 1, 154), (154, .invokevirtual 58, 3, 157), (157, .aload_n 0, 1, 158), (158, .iload_n 1, 1, 159), (159, .iload 7, 2, 161), (161, .iconst 0, 1, 162), (162, .iconst 0, 1, 163), (163, .invokevirtual 98, 3, 166), (166, .aload_n 0, 1, 167), (167, .getfield 28, 3, 170), (170, .iload_n 3, 1, 171), (171, .iload 4, 2, 173), (173, .iload 5, 2, 175), (175, .iload 6, 2, 177), (177, .invokevirtual 102, 3, 180), (180, .iconst 0, 1, 181), (181, .istore 9, 2, 183), (183, .iload 9, 2, 185), (185, .bipush 7, 2, 187), (187, .if_icmp .ge 103, 3, 190), (190, .iload 8, 2, 192), (192, .iload 9, 2, 194), (194, .ishr, 1, 195), (195, .iconst 1, 1, 196), (196, .iand, 1, 197), (197, .ifCond .ne 6, 3, 200), (200, .goto 84, 3, 203), (203, .aload_n 0, 1, 204), (204, .getfield 28, 3, 207), (207, .iload 9, 2, 209), (209, .invokevirtual 105, 3, 212), (212, .istore 10, 2, 214), (214, .aload_n 0, 1, 215), (215, .getfield 28, 3, 218), (218, .iload 9, 2, 220), (220, .invokevirtual 108, 3, 223), (223, .pop, 1, 224), (224, .aload_n 0, 1, 225), (225, .iload_n 1, 1, 226), (226, .iconst 1, 1, 227), (227, .iadd, 1, 228), (228, .invokevirtual 58, 3, 231), (231, .aload_n 0, 1, 232), (232, .getfield 28, 3, 235), (235, .iload_n 3, 1, 236), (236, .iload 4, 2, 238), (238, .iload 5, 2, 240), (240, .iload 6, 2, 242), (242, .invokevirtual 102, 3, 245), (245, .aload_n 0, 1, 246), (246, .getfield 11, 3, 249), (249, .iload_n 1, 1, 250), (250, .iconst 1, 1, 251), (251, .iadd, 1, 252), (252, .aaload, 1, 253), (253, .iload 7, 2, 255), (255, .iaload, 1, 256), (256, .iload 10, 2, 258), (258, .isub, 1, 259), (259, .aload_n 0, 1, 260), (260, .getfield 11, 3, 263), (263, .iload_n 1, 1, 264), (264, .aaload, 1, 265), (265, .iload 7, 2, 267), (267, .iaload, 1, 268), (268, .if_icmp .le 16, 3, 271), (271, .aload_n 0, 1, 272), (272, .iload_n 1, 1, 273), (273, .iload 7, 2, 275), (275, .iload 9, 2, 277), (277, .iconst 1, 1, 278), (278, .iadd, 1, 279), (279, .iload 10, 2, 281), (281, .invokevirtual 98, 3, 284), (284, .iinc 9 1, 3, 287), (287, .goto (-104), 3, 290), (290, .aload_n 0, 1, 291), (291, .getfield 32, 3, 294), (294, .iload_n 2, 1, 295), (295, .invokevirtual 111, 3, 298), (298, .aload_n 0, 1, 299), (299, .iload_n 1, 1, 300), (300, .aload_n 0, 1, 301), (301, .getfield 32, 3, 304), (304, .iload_n 2, 1, 305), (305, .invokevirtual 81, 3, 308), (308, .invokevirtual 114, 3, 311), (311, .return_, 1, 312)]
def I_X6_solve (d : Nat) : MI := (prog_8_method_5_code, 11, none, "OpensAtNine$Turns", "solve", T_X6_solve, 0, 0, 6 + d, 181 + d * 30)
theorem dT_X6_solve_0 : ∀ q ∈ T_X6_solve_0, decode prog_8_method_5_code q.1 = .ok (q.2.1, q.2.2.1) ∧ q.2.2.2 = q.1 + q.2.2.1 := by decide +kernel
theorem dT_X6_solve_1 : ∀ q ∈ T_X6_solve_1, decode prog_8_method_5_code q.1 = .ok (q.2.1, q.2.2.1) ∧ q.2.2.2 = q.1 + q.2.2.1 := by decide +kernel
theorem dT_X6_solve_2 : ∀ q ∈ T_X6_solve_2, decode prog_8_method_5_code q.1 = .ok (q.2.1, q.2.2.1) ∧ q.2.2.2 = q.1 + q.2.2.1 := by decide +kernel
theorem dT_X6_solve_3 : ∀ q ∈ T_X6_solve_3, decode prog_8_method_5_code q.1 = .ok (q.2.1, q.2.2.1) ∧ q.2.2.2 = q.1 + q.2.2.1 := by decide +kernel
theorem dT_X6_solve_4 : ∀ q ∈ T_X6_solve_4, decode prog_8_method_5_code q.1 = .ok (q.2.1, q.2.2.1) ∧ q.2.2.2 = q.1 + q.2.2.1 := by decide +kernel
set_option maxRecDepth 20000 in
theorem dT_X6_solve : ∀ q ∈ T_X6_solve, decode prog_8_method_5_code q.1 = .ok (q.2.1, q.2.2.1) ∧ q.2.2.2 = q.1 + q.2.2.1 := by
  show ∀ q ∈ (T_X6_solve_0 ++ (T_X6_solve_1 ++ (T_X6_solve_2 ++ (T_X6_solve_3 ++ (T_X6_solve_4))))), decode prog_8_method_5_code q.1 = .ok (q.2.1, q.2.2.1) ∧ q.2.2.2 = q.1 + q.2.2.1
  exact List.forall_mem_append.mpr ⟨dT_X6_solve_0, List.forall_mem_append.mpr ⟨dT_X6_solve_1, List.forall_mem_append.mpr ⟨dT_X6_solve_2, List.forall_mem_append.mpr ⟨dT_X6_solve_3, dT_X6_solve_4⟩⟩⟩⟩
theorem xm_X6_solve (d : Nat) : xCM y_X6_solve (I_X6_solve d) 6 1 := ⟨⟨tw783, tw20⟩, tw73, tw784, ⟨xT6, 7, rfl⟩, ⟨by decide +kernel, by decide +kernel, by decide +kernel⟩⟩
noncomputable def f_X6_solve_19 (r_X6_solve : XM → Option Nat → Int32 → Option (XM)) (h : XM) (l0 : Option Nat) (l1 : Int32) : Option (XM) := (vc h 6 l0 (f_X6_settle h l0 l1)).bind fun q1 => some q1
noncomputable def f_X6_solve_284 (r_X6_solve : XM → Option Nat → Int32 → Option (XM)) (k_183 : XM → Option Nat → Int32 → Int32 → Int32 → Int32 → Int32 → Int32 → Int32 → Int32 → Int32 → Option (XM)) (h : XM) (l0 : Option Nat) (l1 : Int32) (l2 : Int32) (l3 : Int32) (l4 : Int32) (l5 : Int32) (l6 : Int32) (l7 : Int32) (l8 : Int32) (l9 : Int32) : Option (XM) := bnd (l9 + (1 : Int32)) fun v2 => k_183 h l0 l1 l2 l3 l4 l5 l6 l7 l8 v2
noncomputable def fb_X6_solve_183 (r_X6_solve : XM → Option Nat → Int32 → Option (XM)) (k_183 : XM → Option Nat → Int32 → Int32 → Int32 → Int32 → Int32 → Int32 → Int32 → Int32 → Int32 → Option (XM)) (h : XM) (l0 : Option Nat) (l1 : Int32) (l2 : Int32) (l3 : Int32) (l4 : Int32) (l5 : Int32) (l6 : Int32) (l7 : Int32) (l8 : Int32) (l9 : Int32) : Option (XM) := if l9 < ((7 : Int32)) then (if ((l8 >>> (l9 &&& 31)) &&& ((1 : Int32))) = 0 then (f_X6_solve_284 r_X6_solve k_183 h l0 l1 l2 l3 l4 l5 l6 l7 l8 l9) else ((gR h 6 l0 0).bind fun v3 => (vc h 1 v3 (f_X1_costOf h v3 l9)).bind fun q4 => (gR q4.2 6 l0 0).bind fun v5 => (vc q4.2 1 v5 (f_X1_putIn q4.2 v5 l9)).bind fun q6 => (vc q6.2 6 l0 (r_X6_solve q6.2 l0 (l1 + ((1 : Int32))))).bind fun q7 => (gR q7 6 l0 0).bind fun v8 => (vc q7 1 v8 (f_X1_undo q7 v8 l3 l4 l5 l6)).bind fun q9 => (gR q9 6 l0 1).bind fun v10 => (rR 15 q9 v10 (l1 + ((1 : Int32)))).bind fun v11 => (rI q9 v11 l7).bind fun v12 => (gR q9 6 l0 1).bind fun v13 => (rR 15 q9 v13 l1).bind fun v14 => (rI q9 v14 l7).bind fun v15 => if v15 < (v12 - q4.1) then ((vc q9 6 l0 (f_X6_choose q9 l0 l1 l7 (l9 + ((1 : Int32))) q4.1)).bind fun q16 => f_X6_solve_284 r_X6_solve k_183 q16 l0 l1 l2 l3 l4 l5 l6 l7 l8 l9) else (f_X6_solve_284 r_X6_solve k_183 q9 l0 l1 l2 l3 l4 l5 l6 l7 l8 l9))) else ((gR h 6 l0 3).bind fun v17 => (vc h 2 v17 (f_X2_note h v17 l2)).bind fun q18 => (gR q18 6 l0 3).bind fun v19 => (vc q18 2 v19 (f_X2_slotOf q18 v19 l2)).bind fun q20 => (vc q20.2 6 l0 (f_X6_keep q20.2 l0 l1 q20.1)).bind fun q21 => some q21)
noncomputable def f_X6_solve_183 (r_X6_solve : XM → Option Nat → Int32 → Option (XM)) (n : Nat) : XM → Option Nat → Int32 → Int32 → Int32 → Int32 → Int32 → Int32 → Int32 → Int32 → Int32 → Option (XM) := Nat.rec (motive := fun _ => XM → Option Nat → Int32 → Int32 → Int32 → Int32 → Int32 → Int32 → Int32 → Int32 → Int32 → Option (XM)) (fun _ _ _ _ _ _ _ _ _ _ _ => none) (fun _ ih h l0 l1 l2 l3 l4 l5 l6 l7 l8 l9 => fb_X6_solve_183 r_X6_solve ih h l0 l1 l2 l3 l4 l5 l6 l7 l8 l9) n
noncomputable def fe_X6_solve (r_X6_solve : XM → Option Nat → Int32 → Option (XM)) (h : XM) (a0 : Option Nat) (a1 : Int32) : Option (XM) := (gI h 6 a0 6).bind fun v22 => if a1 < v22 then ((gR h 6 a0 0).bind fun v23 => (gI h 1 v23 7).bind fun v24 => if v24 < ((1 : Int32)) then (f_X6_solve_19 r_X6_solve h a0 a1) else ((gR h 6 a0 0).bind fun v25 => (gI h 1 v25 10).bind fun v26 => (gR h 6 a0 0).bind fun v27 => (gI h 1 v27 8).bind fun v28 => (gR h 6 a0 0).bind fun v29 => (gI h 1 v29 5).bind fun v30 => bnd ((((((a1 <<< (((7 : Int32)) &&& 31)) ||| v26) <<< (((4 : Int32)) &&& 31)) ||| v28) <<< (((14 : Int32)) &&& 31)) ||| v30) fun v31 => (gR h 6 a0 3).bind fun v32 => (vc h 2 v32 (f_X2_knows h v32 v31)).bind fun q33 => if q33.1 = 0 then ((gR q33.2 6 a0 0).bind fun v34 => (gI q33.2 1 v34 5).bind fun v35 => (gR q33.2 6 a0 0).bind fun v36 => (gI q33.2 1 v36 6).bind fun v37 => (gR q33.2 6 a0 0).bind fun v38 => (gI q33.2 1 v38 8).bind fun v39 => (gR q33.2 6 a0 0).bind fun v40 => (gI q33.2 1 v40 10).bind fun v41 => (gR q33.2 6 a0 0).bind fun v42 => (gI q33.2 1 v42 7).bind fun v43 => (irem a1 v43).bind fun v44 => (gR q33.2 6 a0 0).bind fun v45 => (vc q33.2 1 v45 (f_X1_movable q33.2 v45 (((1 : Int32)) <<< (v44 &&& 31)))).bind fun q46 => (gR q46.2 6 a0 0).bind fun v47 => (vc q46.2 1 v47 (f_X1_waitOn q46.2 v47)).bind fun q48 => (vc q48 6 a0 (r_X6_solve q48 a0 (a1 + ((1 : Int32))))).bind fun q49 => (vc q49 6 a0 (f_X6_choose q49 a0 a1 v44 ((0 : Int32)) ((0 : Int32)))).bind fun q50 => (gR q50 6 a0 0).bind fun v51 => (vc q50 1 v51 (f_X1_undo q50 v51 v35 v37 v39 v41)).bind fun q52 => f_X6_solve_183 r_X6_solve FU q52 a0 a1 v31 v35 v37 v39 v41 v44 q46.1 ((0 : Int32))) else ((gR q33.2 6 a0 3).bind fun v53 => (vc q33.2 2 v53 (f_X2_slotOf q33.2 v53 v31)).bind fun q54 => (vc q54.2 6 a0 (f_X6_recall q54.2 a0 a1 q54.1)).bind fun q55 => some q55))) else (f_X6_solve_19 r_X6_solve h a0 a1)
noncomputable def g_X6_solve (d : Nat) : (XM → Option Nat → Int32 → Option (XM)) := Nat.rec (motive := fun _ => (XM → Option Nat → Int32 → Option (XM))) ((fun _ _ _ => none)) (fun _ g => ((fun h a0 a1 => fe_X6_solve g h a0 a1))) d
noncomputable def f_X6_solve (d : Nat) : XM → Option Nat → Int32 → Option (XM) := (g_X6_solve d)
set_option maxRecDepth 20000 in
theorem b_X6_solve_19 (X : XX) (d : Nat) (r_X6_solve : XM → Option Nat → Int32 → Option (XM)) (hr_X6_solve : ∀ h a0 a1, MC (I_X6_solve d) y_X6_solve [tA a0, tI a1] h ρv (r_X6_solve h a0 a1)) (h : XM) (l0 : Option Nat) (l1 : Int32) : SW X (I_X6_solve (d + 1)) ρv 19 [(0, tA l0), (1, tI l1)] [] h 0 0 (f_X6_solve_19 r_X6_solve h l0 l1) := by
  unfold f_X6_solve_19
  refine s_aload_n (i := 9) rfl 0 rfl ?_
  refine s_iload_n (i := 10) rfl 1 rfl ?_
  refine u_callVv (kk := 6) [tI l1] l0 [] rfl (i := 11) rfl (c_X6_settle h l0 l1) xm_X6_settle (tw785) rfl (Nat.le_of_ble_eq_true rfl) (xRm.in (show 5 + 1 ≤ 6 + (d + 1) by omega) (show 8 + (3 + 11) + 159 ≤ 181 + (d + 1) * 30 by omega)) ⟨rfl, rfl⟩ (fun q1 => ?_)
  exact s_vret (i := 12) rfl rfl
set_option maxRecDepth 20000 in
theorem b_X6_solve_284 (X : XX) (d : Nat) (r_X6_solve : XM → Option Nat → Int32 → Option (XM)) (hr_X6_solve : ∀ h a0 a1, MC (I_X6_solve d) y_X6_solve [tA a0, tI a1] h ρv (r_X6_solve h a0 a1)) (k_183 : XM → Option Nat → Int32 → Int32 → Int32 → Int32 → Int32 → Int32 → Int32 → Int32 → Int32 → Option (XM)) (hk_183 : ∀ h l0 l1 l2 l3 l4 l5 l6 l7 l8 l9, SW X (I_X6_solve (d + 1)) ρv 183 [(0, tA l0), (1, tI l1), (2, tI l2), (3, tI l3), (4, tI l4), (5, tI l5), (6, tI l6), (7, tI l7), (8, tI l8), (9, tI l9)] [] h 0 0 (k_183 h l0 l1 l2 l3 l4 l5 l6 l7 l8 l9)) (h : XM) (l0 : Option Nat) (l1 : Int32) (l2 : Int32) (l3 : Int32) (l4 : Int32) (l5 : Int32) (l6 : Int32) (l7 : Int32) (l8 : Int32) (l9 : Int32) : SW X (I_X6_solve (d + 1)) ρv 284 [(0, tA l0), (1, tI l1), (2, tI l2), (3, tI l3), (4, tI l4), (5, tI l5), (6, tI l6), (7, tI l7), (8, tI l8), (9, tI l9)] [] h 0 0 (f_X6_solve_284 r_X6_solve k_183 h l0 l1 l2 l3 l4 l5 l6 l7 l8 l9) := by
  unfold f_X6_solve_284
  refine s_inc (i := 155) rfl 9 rfl (c9 := (1 : Int32)) (by decide) (Nat.le_of_ble_eq_true rfl) (fun v2 => ?_)
  refine s_ls (ls2 := [(9, tI v2), (0, tA l0), (1, tI l1), (2, tI l2), (3, tI l3), (4, tI l4), (5, tI l5), (6, tI l6), (7, tI l7), (8, tI l8)]) rfl ?_
  refine s_goto (i := 156) rfl (tgt := 183) (by decide) ?_
  exact s_sub [1, 2, 3, 4, 5, 6, 7, 8, 9, 0] rfl (hk_183 h l0 l1 l2 l3 l4 l5 l6 l7 l8 v2)
set_option maxRecDepth 20000 in
theorem bb_X6_solve_183 (X : XX) (d : Nat) (r_X6_solve : XM → Option Nat → Int32 → Option (XM)) (hr_X6_solve : ∀ h a0 a1, MC (I_X6_solve d) y_X6_solve [tA a0, tI a1] h ρv (r_X6_solve h a0 a1)) (k_183 : XM → Option Nat → Int32 → Int32 → Int32 → Int32 → Int32 → Int32 → Int32 → Int32 → Int32 → Option (XM)) (hk_183 : ∀ h l0 l1 l2 l3 l4 l5 l6 l7 l8 l9, SW X (I_X6_solve (d + 1)) ρv 183 [(0, tA l0), (1, tI l1), (2, tI l2), (3, tI l3), (4, tI l4), (5, tI l5), (6, tI l6), (7, tI l7), (8, tI l8), (9, tI l9)] [] h 0 0 (k_183 h l0 l1 l2 l3 l4 l5 l6 l7 l8 l9)) (h : XM) (l0 : Option Nat) (l1 : Int32) (l2 : Int32) (l3 : Int32) (l4 : Int32) (l5 : Int32) (l6 : Int32) (l7 : Int32) (l8 : Int32) (l9 : Int32) : SW X (I_X6_solve (d + 1)) ρv 183 [(0, tA l0), (1, tI l1), (2, tI l2), (3, tI l3), (4, tI l4), (5, tI l5), (6, tI l6), (7, tI l7), (8, tI l8), (9, tI l9)] [] h 0 0 (fb_X6_solve_183 r_X6_solve k_183 h l0 l1 l2 l3 l4 l5 l6 l7 l8 l9) := by
  unfold fb_X6_solve_183
  refine s_iload (i := 98) rfl 9 rfl ?_
  refine s_bipush (i := 99) rfl (v := (7 : Int32)) (by decide) ?_
  refine s_icmpge (i := 100) rfl (tgt := 290) (by decide) (fun z187 => ?_) (fun z187 => ?_)
  · refine s_iload (i := 101) rfl 8 rfl ?_
    refine s_iload (i := 102) rfl 9 rfl ?_
    refine s_ishr (i := 103) rfl ?_
    refine s_iconst (i := 104) rfl (v := (1 : Int32)) (by decide) ?_
    refine s_iand (i := 105) rfl ?_
    refine s_ifne (i := 106) rfl (tgt := 203) (by decide) (fun z197 => ?_) (fun z197 => ?_)
    · refine s_goto (i := 107) rfl (tgt := 284) (by decide) ?_
      exact s_sub [0, 1, 2, 3, 4, 5, 6, 7, 8, 9] rfl (b_X6_solve_284 X d r_X6_solve hr_X6_solve k_183 hk_183 h l0 l1 l2 l3 l4 l5 l6 l7 l8 l9)
    · refine s_aload_n (i := 108) rfl 0 rfl ?_
      refine s_getR (i := 109) rfl xf_6_28.r rfl (fun v3 => ?_)
      refine s_iload (i := 110) rfl 9 rfl ?_
      refine u_callVi (kk := 1) [tI l9] v3 [] rfl (i := 111) rfl (c_X1_costOf h v3 l9) xm_X1_costOf (tw804) rfl (Nat.le_of_ble_eq_true rfl) (xRm.in (show 2 + 1 ≤ 6 + (d + 1) by omega) (show 8 + (3 + 11) + 81 ≤ 181 + (d + 1) * 30 by omega)) ⟨rfl, rfl⟩ (fun q4 => ?_)
      refine s_istore (i := 112) rfl (Nat.le_of_ble_eq_true rfl) (ls2 := [(10, tI q4.1), (0, tA l0), (1, tI l1), (2, tI l2), (3, tI l3), (4, tI l4), (5, tI l5), (6, tI l6), (7, tI l7), (8, tI l8), (9, tI l9)]) rfl ?_
      refine s_aload_n (i := 113) rfl 1 rfl ?_
      refine s_getR (i := 114) rfl xf_6_28.r rfl (fun v5 => ?_)
      refine s_iload (i := 115) rfl 10 rfl ?_
      refine u_callVi (kk := 1) [tI l9] v5 [] rfl (i := 116) rfl (c_X1_putIn q4.2 v5 l9) xm_X1_putIn (tw805) rfl (Nat.le_of_ble_eq_true rfl) (xRm.in (show 4 + 1 ≤ 6 + (d + 1) by omega) (show 8 + (6 + 11) + 136 ≤ 181 + (d + 1) * 30 by omega)) ⟨rfl, rfl⟩ (fun q6 => ?_)
      refine s_pop (i := 117) rfl rfl ?_
      refine s_aload_n (i := 118) rfl 1 rfl ?_
      refine s_iload_n (i := 119) rfl 2 rfl ?_
      refine s_iconst (i := 120) rfl (v := (1 : Int32)) (by decide) ?_
      refine s_iadd (i := 121) rfl ?_
      refine u_callVv (kk := 6) [tI (l1 + ((1 : Int32)))] l0 [] rfl (i := 122) rfl (hr_X6_solve q6.2 l0 (l1 + ((1 : Int32)))) (xm_X6_solve _) (tw781) rfl (Nat.le_of_ble_eq_true rfl) (xRm.in (show 6 + d + 1 ≤ 6 + (d + 1) by omega) (show 8 + (11 + 11) + (181 + d * 30) ≤ 181 + (d + 1) * 30 by rw [Nat.succ_mul]; omega)) ⟨rfl, rfl⟩ (fun q7 => ?_)
      refine s_aload_n (i := 123) rfl 1 rfl ?_
      refine s_getR (i := 124) rfl xf_6_28.r rfl (fun v8 => ?_)
      refine s_iload_n (i := 125) rfl 4 rfl ?_
      refine s_iload (i := 126) rfl 5 rfl ?_
      refine s_iload (i := 127) rfl 6 rfl ?_
      refine s_iload (i := 128) rfl 7 rfl ?_
      refine u_callVv (kk := 1) [tI l3, tI l4, tI l5, tI l6] v8 [] rfl (i := 129) rfl (c_X1_undo q7 v8 l3 l4 l5 l6) xm_X1_undo (tw803) rfl (Nat.le_of_ble_eq_true rfl) (xRm.in (show 1 + 1 ≤ 6 + (d + 1) by omega) (show 8 + (5 + 11) + 60 ≤ 181 + (d + 1) * 30 by omega)) ⟨rfl, rfl⟩ (fun q9 => ?_)
      refine s_aload_n (i := 130) rfl 1 rfl ?_
      refine s_getR (i := 131) rfl xf_6_11.r rfl (fun v10 => ?_)
      refine s_iload_n (i := 132) rfl 2 rfl ?_
      refine s_iconst (i := 133) rfl (v := (1 : Int32)) (by decide) ?_
      refine s_iadd (i := 134) rfl ?_
      refine s_aaload (i := 135) rfl (kk := 15) ⟨by decide, by decide⟩ (fun v11 => ?_)
      refine s_iload (i := 136) rfl 8 rfl ?_
      refine s_iaload (i := 137) rfl (fun v12 => ?_)
      refine s_iload (i := 138) rfl 0 rfl ?_
      refine s_isub (i := 139) rfl ?_
      refine s_aload_n (i := 140) rfl 1 rfl ?_
      refine s_getR (i := 141) rfl xf_6_11.r rfl (fun v13 => ?_)
      refine s_iload_n (i := 142) rfl 2 rfl ?_
      refine s_aaload (i := 143) rfl (kk := 15) ⟨by decide, by decide⟩ (fun v14 => ?_)
      refine s_iload (i := 144) rfl 8 rfl ?_
      refine s_iaload (i := 145) rfl (fun v15 => ?_)
      refine s_icmple (i := 146) rfl (tgt := 284) (by decide) (fun z268 => ?_) (fun z268 => ?_)
      · refine s_aload_n (i := 147) rfl 1 rfl ?_
        refine s_iload_n (i := 148) rfl 2 rfl ?_
        refine s_iload (i := 149) rfl 8 rfl ?_
        refine s_iload (i := 150) rfl 10 rfl ?_
        refine s_iconst (i := 151) rfl (v := (1 : Int32)) (by decide) ?_
        refine s_iadd (i := 152) rfl ?_
        refine s_iload (i := 153) rfl 0 rfl ?_
        refine u_callVv (kk := 6) [tI l1, tI l7, tI (l9 + ((1 : Int32))), tI q4.1] l0 [] rfl (i := 154) rfl (c_X6_choose q9 l0 l1 l7 (l9 + ((1 : Int32))) q4.1) xm_X6_choose (tw798) rfl (Nat.le_of_ble_eq_true rfl) (xRm.in (show 1 + 1 ≤ 6 + (d + 1) by omega) (show 8 + (6 + 11) + 60 ≤ 181 + (d + 1) * 30 by omega)) ⟨rfl, rfl⟩ (fun q16 => ?_)
        exact s_sub [1, 2, 3, 4, 5, 6, 7, 8, 9, 10] rfl (b_X6_solve_284 X d r_X6_solve hr_X6_solve k_183 hk_183 q16 l0 l1 l2 l3 l4 l5 l6 l7 l8 l9)
      · exact s_sub [1, 2, 3, 4, 5, 6, 7, 8, 9, 10] rfl (b_X6_solve_284 X d r_X6_solve hr_X6_solve k_183 hk_183 q9 l0 l1 l2 l3 l4 l5 l6 l7 l8 l9)
  · refine s_aload_n (i := 157) rfl 0 rfl ?_
    refine s_getR (i := 158) rfl xf_6_32.r rfl (fun v17 => ?_)
    refine s_iload_n (i := 159) rfl 2 rfl ?_
    refine u_callVv (kk := 2) [tI l2] v17 [] rfl (i := 160) rfl (c_X2_note h v17 l2) xm_X2_note (tw806) rfl (Nat.le_of_ble_eq_true rfl) (xRm.in (show 2 + 1 ≤ 6 + (d + 1) by omega) (show 8 + (2 + 11) + 81 ≤ 181 + (d + 1) * 30 by omega)) ⟨rfl, rfl⟩ (fun q18 => ?_)
    refine s_aload_n (i := 161) rfl 0 rfl ?_
    refine s_iload_n (i := 162) rfl 1 rfl ?_
    refine s_aload_n (i := 163) rfl 0 rfl ?_
    refine s_getR (i := 164) rfl xf_6_32.r rfl (fun v19 => ?_)
    refine s_iload_n (i := 165) rfl 2 rfl ?_
    refine u_callVi (kk := 2) [tI l2] v19 [tI l1, tA l0] rfl (i := 166) rfl (c_X2_slotOf q18 v19 l2) xm_X2_slotOf (tw791) rfl (Nat.le_of_ble_eq_true rfl) (xRm.in (show 1 + 1 ≤ 6 + (d + 1) by omega) (show 8 + (2 + 11) + 60 ≤ 181 + (d + 1) * 30 by omega)) ⟨rfl, rfl⟩ (fun q20 => ?_)
    refine u_callVv (kk := 6) [tI l1, tI q20.1] l0 [] rfl (i := 167) rfl (c_X6_keep q20.2 l0 l1 q20.1) xm_X6_keep (tw807) rfl (Nat.le_of_ble_eq_true rfl) (xRm.in (show 1 + 1 ≤ 6 + (d + 1) by omega) (show 8 + (4 + 11) + 60 ≤ 181 + (d + 1) * 30 by omega)) ⟨rfl, rfl⟩ (fun q21 => ?_)
    exact s_vret (i := 168) rfl rfl
set_option maxRecDepth 20000 in
theorem b_X6_solve_183 (X : XX) (d : Nat) (r_X6_solve : XM → Option Nat → Int32 → Option (XM)) (hr_X6_solve : ∀ h a0 a1, MC (I_X6_solve d) y_X6_solve [tA a0, tI a1] h ρv (r_X6_solve h a0 a1)) : ∀ (n : Nat) (h : XM) (l0 : Option Nat) (l1 : Int32) (l2 : Int32) (l3 : Int32) (l4 : Int32) (l5 : Int32) (l6 : Int32) (l7 : Int32) (l8 : Int32) (l9 : Int32), SW X (I_X6_solve (d + 1)) ρv 183 [(0, tA l0), (1, tI l1), (2, tI l2), (3, tI l3), (4, tI l4), (5, tI l5), (6, tI l6), (7, tI l7), (8, tI l8), (9, tI l9)] [] h 0 0 (f_X6_solve_183 r_X6_solve n h l0 l1 l2 l3 l4 l5 l6 l7 l8 l9) := by
  intro n
  induction n with
  | zero =>
    intro h l0 l1 l2 l3 l4 l5 l6 l7 l8 l9
    exact s_none
  | succ n ih =>
    intro h l0 l1 l2 l3 l4 l5 l6 l7 l8 l9
    exact bb_X6_solve_183 X d r_X6_solve hr_X6_solve (f_X6_solve_183 r_X6_solve n) ih h l0 l1 l2 l3 l4 l5 l6 l7 l8 l9
set_option maxRecDepth 20000 in
theorem ce_X6_solve (d : Nat) (r_X6_solve : XM → Option Nat → Int32 → Option (XM)) (hr_X6_solve : ∀ h a0 a1, MC (I_X6_solve d) y_X6_solve [tA a0, tI a1] h ρv (r_X6_solve h a0 a1)) (h : XM) (a0 : Option Nat) (a1 : Int32) : MC (I_X6_solve (d + 1)) y_X6_solve [tA a0, tI a1] h ρv (fe_X6_solve r_X6_solve h a0 a1) := by
  refine MC_of ⟨by decide +kernel, rfl, rfl, Nat.le_of_ble_eq_true rfl⟩ dT_X6_solve (fun X => ?_)
  show SW X (I_X6_solve (d + 1)) ρv 0 [(0, tA a0), (1, tI a1)] [] h 0 0 (fe_X6_solve r_X6_solve h a0 a1)
  unfold fe_X6_solve
  refine s_iload_n (i := 0) rfl 1 rfl ?_
  refine s_aload_n (i := 1) rfl 0 rfl ?_
  refine s_getI (i := 2) rfl xf_6_54.r rfl (fun v22 => ?_)
  refine s_icmpge (i := 3) rfl (tgt := 19) (by decide) (fun z5 => ?_) (fun z5 => ?_)
  · refine s_aload_n (i := 4) rfl 0 rfl ?_
    refine s_getR (i := 5) rfl xf_6_28.r rfl (fun v23 => ?_)
    refine s_getI (i := 6) rfl xf_6_62.r rfl (fun v24 => ?_)
    refine s_iconst (i := 7) rfl (v := (1 : Int32)) (by decide) ?_
    refine s_icmpge (i := 8) rfl (tgt := 25) (by decide) (fun z16 => ?_) (fun z16 => ?_)
    · exact s_sub [0, 1] rfl (b_X6_solve_19 X d r_X6_solve hr_X6_solve h a0 a1)
    · refine s_iload_n (i := 13) rfl 1 rfl ?_
      refine s_bipush (i := 14) rfl (v := (7 : Int32)) (by decide) ?_
      refine s_ishl (i := 15) rfl ?_
      refine s_aload_n (i := 16) rfl 0 rfl ?_
      refine s_getR (i := 17) rfl xf_6_28.r rfl (fun v25 => ?_)
      refine s_getI (i := 18) rfl xf_6_68.r rfl (fun v26 => ?_)
      refine s_ior (i := 19) rfl ?_
      refine s_iconst (i := 20) rfl (v := (4 : Int32)) (by decide) ?_
      refine s_ishl (i := 21) rfl ?_
      refine s_aload_n (i := 22) rfl 0 rfl ?_
      refine s_getR (i := 23) rfl xf_6_28.r rfl (fun v27 => ?_)
      refine s_getI (i := 24) rfl xf_6_71.r rfl (fun v28 => ?_)
      refine s_ior (i := 25) rfl ?_
      refine s_bipush (i := 26) rfl (v := (14 : Int32)) (by decide) ?_
      refine s_ishl (i := 27) rfl ?_
      refine s_aload_n (i := 28) rfl 0 rfl ?_
      refine s_getR (i := 29) rfl xf_6_28.r rfl (fun v29 => ?_)
      refine s_getI (i := 30) rfl xf_6_74.r rfl (fun v30 => ?_)
      refine s_ior (i := 31) rfl ?_
      refine s_bnd (fun v31 => ?_)
      refine s_istore_n (i := 32) rfl (Nat.le_of_ble_eq_true rfl) (ls2 := [(2, tI v31), (0, tA a0), (1, tI a1)]) rfl ?_
      refine s_aload_n (i := 33) rfl 1 rfl ?_
      refine s_getR (i := 34) rfl xf_6_32.r rfl (fun v32 => ?_)
      refine s_iload_n (i := 35) rfl 0 rfl ?_
      refine u_callVi (kk := 2) [tI v31] v32 [] rfl (i := 36) rfl (c_X2_knows h v32 v31) xm_X2_knows (tw790) rfl (Nat.le_of_ble_eq_true rfl) (xRm.in (show 2 + 1 ≤ 6 + (d + 1) by omega) (show 8 + (2 + 11) + 81 ≤ 181 + (d + 1) * 30 by omega)) ⟨rfl, rfl⟩ (fun q33 => ?_)
      refine s_ifeq (i := 37) rfl (tgt := 84) (by decide) (fun z67 => ?_) (fun z67 => ?_)
      · refine s_aload_n (i := 46) rfl 1 rfl ?_
        refine s_getR (i := 47) rfl xf_6_28.r rfl (fun v34 => ?_)
        refine s_getI (i := 48) rfl xf_6_74.r rfl (fun v35 => ?_)
        refine s_istore_n (i := 49) rfl (Nat.le_of_ble_eq_true rfl) (ls2 := [(3, tI v35), (2, tI v31), (0, tA a0), (1, tI a1)]) rfl ?_
        refine s_aload_n (i := 50) rfl 2 rfl ?_
        refine s_getR (i := 51) rfl xf_6_28.r rfl (fun v36 => ?_)
        refine s_getI (i := 52) rfl xf_6_89.r rfl (fun v37 => ?_)
        refine s_istore (i := 53) rfl (Nat.le_of_ble_eq_true rfl) (ls2 := [(4, tI v37), (3, tI v35), (2, tI v31), (0, tA a0), (1, tI a1)]) rfl ?_
        refine s_aload_n (i := 54) rfl 3 rfl ?_
        refine s_getR (i := 55) rfl xf_6_28.r rfl (fun v38 => ?_)
        refine s_getI (i := 56) rfl xf_6_71.r rfl (fun v39 => ?_)
        refine s_istore (i := 57) rfl (Nat.le_of_ble_eq_true rfl) (ls2 := [(5, tI v39), (4, tI v37), (3, tI v35), (2, tI v31), (0, tA a0), (1, tI a1)]) rfl ?_
        refine s_aload_n (i := 58) rfl 4 rfl ?_
        refine s_getR (i := 59) rfl xf_6_28.r rfl (fun v40 => ?_)
        refine s_getI (i := 60) rfl xf_6_68.r rfl (fun v41 => ?_)
        refine s_istore (i := 61) rfl (Nat.le_of_ble_eq_true rfl) (ls2 := [(6, tI v41), (5, tI v39), (4, tI v37), (3, tI v35), (2, tI v31), (0, tA a0), (1, tI a1)]) rfl ?_
        refine s_iload_n (i := 62) rfl 6 rfl ?_
        refine s_aload_n (i := 63) rfl 5 rfl ?_
        refine s_getR (i := 64) rfl xf_6_28.r rfl (fun v42 => ?_)
        refine s_getI (i := 65) rfl xf_6_62.r rfl (fun v43 => ?_)
        refine s_irem (i := 66) rfl (fun v44 => ?_)
        refine s_istore (i := 67) rfl (Nat.le_of_ble_eq_true rfl) (ls2 := [(7, tI v44), (6, tI v41), (5, tI v39), (4, tI v37), (3, tI v35), (2, tI v31), (0, tA a0), (1, tI a1)]) rfl ?_
        refine s_aload_n (i := 68) rfl 6 rfl ?_
        refine s_getR (i := 69) rfl xf_6_28.r rfl (fun v45 => ?_)
        refine s_iconst (i := 70) rfl (v := (1 : Int32)) (by decide) ?_
        refine s_iload (i := 71) rfl 0 rfl ?_
        refine s_ishl (i := 72) rfl ?_
        refine u_callVi (kk := 1) [tI (((1 : Int32)) <<< (v44 &&& 31))] v45 [] rfl (i := 73) rfl (c_X1_movable q33.2 v45 (((1 : Int32)) <<< (v44 &&& 31))) xm_X1_movable (tw796) rfl (Nat.le_of_ble_eq_true rfl) (xRm.in (show 2 + 1 ≤ 6 + (d + 1) by omega) (show 8 + (4 + 11) + 81 ≤ 181 + (d + 1) * 30 by omega)) ⟨rfl, rfl⟩ (fun q46 => ?_)
        refine s_istore (i := 74) rfl (Nat.le_of_ble_eq_true rfl) (ls2 := [(8, tI q46.1), (7, tI v44), (6, tI v41), (5, tI v39), (4, tI v37), (3, tI v35), (2, tI v31), (0, tA a0), (1, tI a1)]) rfl ?_
        refine s_aload_n (i := 75) rfl 7 rfl ?_
        refine s_getR (i := 76) rfl xf_6_28.r rfl (fun v47 => ?_)
        refine u_callVv (kk := 1) [] v47 [] rfl (i := 77) rfl (c_X1_waitOn q46.2 v47) xm_X1_waitOn (tw797) rfl (Nat.le_of_ble_eq_true rfl) (xRm.in (show 2 + 1 ≤ 6 + (d + 1) by omega) (show 8 + (1 + 11) + 81 ≤ 181 + (d + 1) * 30 by omega)) ⟨rfl, rfl⟩ (fun q48 => ?_)
        refine s_aload_n (i := 78) rfl 7 rfl ?_
        refine s_iload_n (i := 79) rfl 8 rfl ?_
        refine s_iconst (i := 80) rfl (v := (1 : Int32)) (by decide) ?_
        refine s_iadd (i := 81) rfl ?_
        refine u_callVv (kk := 6) [tI (a1 + ((1 : Int32)))] a0 [] rfl (i := 82) rfl (hr_X6_solve q48 a0 (a1 + ((1 : Int32)))) (xm_X6_solve _) (tw781) rfl (Nat.le_of_ble_eq_true rfl) (xRm.in (show 6 + d + 1 ≤ 6 + (d + 1) by omega) (show 8 + (11 + 11) + (181 + d * 30) ≤ 181 + (d + 1) * 30 by rw [Nat.succ_mul]; omega)) ⟨rfl, rfl⟩ (fun q49 => ?_)
        refine s_aload_n (i := 83) rfl 7 rfl ?_
        refine s_iload_n (i := 84) rfl 8 rfl ?_
        refine s_iload (i := 85) rfl 1 rfl ?_
        refine s_iconst (i := 86) rfl (v := (0 : Int32)) (by decide) ?_
        refine s_iconst (i := 87) rfl (v := (0 : Int32)) (by decide) ?_
        refine u_callVv (kk := 6) [tI a1, tI v44, tI ((0 : Int32)), tI ((0 : Int32))] a0 [] rfl (i := 88) rfl (c_X6_choose q49 a0 a1 v44 ((0 : Int32)) ((0 : Int32))) xm_X6_choose (tw798) rfl (Nat.le_of_ble_eq_true rfl) (xRm.in (show 1 + 1 ≤ 6 + (d + 1) by omega) (show 8 + (6 + 11) + 60 ≤ 181 + (d + 1) * 30 by omega)) ⟨rfl, rfl⟩ (fun q50 => ?_)
        refine s_aload_n (i := 89) rfl 7 rfl ?_
        refine s_getR (i := 90) rfl xf_6_28.r rfl (fun v51 => ?_)
        refine s_iload_n (i := 91) rfl 5 rfl ?_
        refine s_iload (i := 92) rfl 4 rfl ?_
        refine s_iload (i := 93) rfl 3 rfl ?_
        refine s_iload (i := 94) rfl 2 rfl ?_
        refine u_callVv (kk := 1) [tI v35, tI v37, tI v39, tI v41] v51 [] rfl (i := 95) rfl (c_X1_undo q50 v51 v35 v37 v39 v41) xm_X1_undo (tw803) rfl (Nat.le_of_ble_eq_true rfl) (xRm.in (show 1 + 1 ≤ 6 + (d + 1) by omega) (show 8 + (5 + 11) + 60 ≤ 181 + (d + 1) * 30 by omega)) ⟨rfl, rfl⟩ (fun q52 => ?_)
        refine s_iconst (i := 96) rfl (v := (0 : Int32)) (by decide) ?_
        refine s_istore (i := 97) rfl (Nat.le_of_ble_eq_true rfl) (ls2 := [(9, tI ((0 : Int32))), (8, tI q46.1), (7, tI v44), (6, tI v41), (5, tI v39), (4, tI v37), (3, tI v35), (2, tI v31), (0, tA a0), (1, tI a1)]) rfl ?_
        exact s_sub [8, 9, 7, 6, 5, 4, 3, 2, 1, 0] rfl (b_X6_solve_183 X d r_X6_solve hr_X6_solve FU q52 a0 a1 v31 v35 v37 v39 v41 v44 q46.1 ((0 : Int32)))
      · refine s_aload_n (i := 38) rfl 1 rfl ?_
        refine s_iload_n (i := 39) rfl 2 rfl ?_
        refine s_aload_n (i := 40) rfl 1 rfl ?_
        refine s_getR (i := 41) rfl xf_6_32.r rfl (fun v53 => ?_)
        refine s_iload_n (i := 42) rfl 0 rfl ?_
        refine u_callVi (kk := 2) [tI v31] v53 [tI a1, tA a0] rfl (i := 43) rfl (c_X2_slotOf q33.2 v53 v31) xm_X2_slotOf (tw791) rfl (Nat.le_of_ble_eq_true rfl) (xRm.in (show 1 + 1 ≤ 6 + (d + 1) by omega) (show 8 + (2 + 11) + 60 ≤ 181 + (d + 1) * 30 by omega)) ⟨rfl, rfl⟩ (fun q54 => ?_)
        refine u_callVv (kk := 6) [tI a1, tI q54.1] a0 [] rfl (i := 44) rfl (c_X6_recall q54.2 a0 a1 q54.1) xm_X6_recall (tw792) rfl (Nat.le_of_ble_eq_true rfl) (xRm.in (show 1 + 1 ≤ 6 + (d + 1) by omega) (show 8 + (4 + 11) + 60 ≤ 181 + (d + 1) * 30 by omega)) ⟨rfl, rfl⟩ (fun q55 => ?_)
        exact s_vret (i := 45) rfl rfl
  · exact s_sub [0, 1] rfl (b_X6_solve_19 X d r_X6_solve hr_X6_solve h a0 a1)
theorem cg_X6_solve : ∀ d : Nat, (∀ (h : XM) (a0 : Option Nat) (a1 : Int32), MC (I_X6_solve d) y_X6_solve [tA a0, tI a1] h ρv (f_X6_solve d h a0 a1)) := by
  intro d
  induction d with
  | zero => exact fun _ _ _ => MC_none
  | succ d ih => exact fun h a0 a1 => ce_X6_solve d (f_X6_solve d) ih h a0 a1
theorem c_X6_solve (d : Nat) (h : XM) (a0 : Option Nat) (a1 : Int32) : MC (I_X6_solve d) y_X6_solve [tA a0, tI a1] h ρv (f_X6_solve d h a0 a1) := (cg_X6_solve d) h a0 a1
def y_X6_think : MethodName := ⟨"OpensAtNine$Turns", "think", "(LOpensAtNine$Gate;I)V"⟩
def T_X6_think : List (Nat × Instr × Nat × Nat) := [(0, .aload_n 0, 1, 1), (1, .getfield 28, 3, 4), (4, .aload_n 1, 1, 5), (5, .invokevirtual 36, 3, 8), (8, .aload_n 0, 1, 9), (9, .getfield 32, 3, 12), (12, .invokevirtual 42, 3, 15), (15, .aload_n 0, 1, 16), (16, .iconst 0, 1, 17), (17, .bipush 6, 2, 19), (19, .iload_n 2, 1, 20), (20, .invokestatic 45, 3, 23), (23, .invokestatic 51, 3, 26), (26, .putfield 54, 3, 29), (29, .aload_n 0, 1, 30), (30, .iconst 0, 1, 31), (31, .invokevirtual 58, 3, 34), (34, .return_, 1, 35)]
def I_X6_think : MI := (prog_8_method_2_code, 3, none, "OpensAtNine$Turns", "think", T_X6_think, 0, 0, 19, 571)
theorem dT_X6_think : ∀ q ∈ T_X6_think, decode prog_8_method_2_code q.1 = .ok (q.2.1, q.2.2.1) ∧ q.2.2.2 = q.1 + q.2.2.1 := by decide +kernel
theorem xm_X6_think : xCM y_X6_think I_X6_think 6 2 := ⟨⟨tw774, tw775⟩, tw73, tw776, ⟨xT6, 7, rfl⟩, ⟨by decide +kernel, by decide +kernel, by decide +kernel⟩⟩
noncomputable def f_X6_think (h : XM) (a0 : Option Nat) (a1 : Option Nat) (a2 : Int32) : Option (XM) := (gR h 6 a0 0).bind fun v1 => (vc h 1 v1 (f_X1_become h v1 a1)).bind fun q2 => (gR q2 6 a0 3).bind fun v3 => (vc q2 2 v3 (f_X2_forgetAll q2 v3)).bind fun q4 => bnd (if a2 < ((6 : Int32)) then a2 else ((6 : Int32))) fun v5 => bnd (if ((0 : Int32)) < v5 then v5 else ((0 : Int32))) fun v6 => (pI q4 6 a0 6 v6).bind fun h7 => (vc h7 6 a0 (f_X6_solve 12 h7 a0 ((0 : Int32)))).bind fun q8 => some q8
theorem c_X6_think (h : XM) (a0 : Option Nat) (a1 : Option Nat) (a2 : Int32) : MC I_X6_think y_X6_think [tA a0, tA a1, tI a2] h ρv (f_X6_think h a0 a1 a2) := by
  refine MC_of ⟨by decide +kernel, rfl, rfl, Nat.le_of_ble_eq_true rfl⟩ dT_X6_think (fun X => ?_)
  show SW X I_X6_think ρv 0 [(0, tA a0), (1, tA a1), (2, tI a2)] [] h 0 0 (f_X6_think h a0 a1 a2)
  unfold f_X6_think
  refine s_aload_n (i := 0) rfl 0 rfl ?_
  refine s_getR (i := 1) rfl xf_6_28.r rfl (fun v1 => ?_)
  refine s_aload_n (i := 2) rfl 1 rfl ?_
  refine u_callVv (kk := 1) [tA a1] v1 [] rfl (i := 3) rfl (c_X1_become h v1 a1) xm_X1_become (tw777) rfl (Nat.le_of_ble_eq_true rfl) (xRm.of rfl) ⟨rfl, rfl⟩ (fun q2 => ?_)
  refine s_aload_n (i := 4) rfl 0 rfl ?_
  refine s_getR (i := 5) rfl xf_6_32.r rfl (fun v3 => ?_)
  refine u_callVv (kk := 2) [] v3 [] rfl (i := 6) rfl (c_X2_forgetAll q2 v3) xm_X2_forgetAll (tw778) rfl (Nat.le_of_ble_eq_true rfl) (xRm.of rfl) ⟨rfl, rfl⟩ (fun q4 => ?_)
  refine s_aload_n (i := 7) rfl 0 rfl ?_
  refine s_iconst (i := 8) rfl (v := (0 : Int32)) (by decide) ?_
  refine s_bipush (i := 9) rfl (v := (6 : Int32)) (by decide) ?_
  refine s_iload_n (i := 10) rfl 2 rfl ?_
  refine s_mmin (i := 11) rfl ⟨tw779, tw446, tw82, tw447⟩ (Nat.le_of_ble_eq_true rfl) ⟨by decide, by decide⟩ ?_
  refine s_bnd (fun v5 => ?_)
  refine s_mmax (i := 12) rfl ⟨tw780, tw559, tw82, tw560⟩ (Nat.le_of_ble_eq_true rfl) ⟨by decide, by decide⟩ ?_
  refine s_bnd (fun v6 => ?_)
  refine s_putI (i := 13) rfl xf_6_54 (fun q => by cases q) rfl rfl (fun h7 => ?_)
  refine s_aload_n (i := 14) rfl 0 rfl ?_
  refine s_iconst (i := 15) rfl (v := (0 : Int32)) (by decide) ?_
  refine u_callVv (kk := 6) [tI ((0 : Int32))] a0 [] rfl (i := 16) rfl (c_X6_solve 12 h7 a0 ((0 : Int32))) (xm_X6_solve _) (tw781) rfl (Nat.le_of_ble_eq_true rfl) (xRm.of rfl) ⟨rfl, rfl⟩ (fun q8 => ?_)
  exact s_vret (i := 17) rfl rfl
def y_X6_endOf : MethodName := ⟨"OpensAtNine$Turns", "endOf", "(I)I"⟩
def T_X6_endOf : List (Nat × Instr × Nat × Nat) := [(0, .iload_n 1, 1, 1), (1, .ifCond .lt 19, 3, 4), (4, .iload_n 1, 1, 5), (5, .iconst 4, 1, 6), (6, .if_icmp .ge 14, 3, 9), (9, .aload_n 0, 1, 10), (10, .getfield 11, 3, 13), (13, .iconst 0, 1, 14), (14, .aaload, 1, 15), (15, .iload_n 1, 1, 16), (16, .iaload, 1, 17), (17, .goto 4, 3, 20), (20, .iconst 0, 1, 21), (21, .ireturn, 1, 22)]
def I_X6_endOf : MI := (prog_8_method_3_code, 2, (some .int), "OpensAtNine$Turns", "endOf", T_X6_endOf, 0, 0, 1, 60)
theorem dT_X6_endOf : ∀ q ∈ T_X6_endOf, decode prog_8_method_3_code q.1 = .ok (q.2.1, q.2.2.1) ∧ q.2.2.2 = q.1 + q.2.2.1 := by decide +kernel
theorem xm_X6_endOf : xCM y_X6_endOf I_X6_endOf 6 1 := ⟨⟨tw812, tw813⟩, tw73, tw814, ⟨xT6, 7, rfl⟩, ⟨by decide +kernel, by decide +kernel, by decide +kernel⟩⟩
noncomputable def f_X6_endOf_21 (h : XM) (s0 : Int32) : Option (Int32 × XM) := some (s0, h)
noncomputable def f_X6_endOf_20 (h : XM) : Option (Int32 × XM) := f_X6_endOf_21 h ((0 : Int32))
noncomputable def f_X6_endOf (h : XM) (a0 : Option Nat) (a1 : Int32) : Option (Int32 × XM) := if a1 < 0 then (f_X6_endOf_20 h) else (if a1 < ((4 : Int32)) then ((gR h 6 a0 1).bind fun v1 => (rR 15 h v1 ((0 : Int32))).bind fun v2 => (rI h v2 a1).bind fun v3 => f_X6_endOf_21 h v3) else (f_X6_endOf_20 h))
theorem b_X6_endOf_21 (X : XX) (h : XM) (s0 : Int32) : SW X I_X6_endOf ρi 21 [] [tI s0] h 0 0 (f_X6_endOf_21 h s0) := by
  unfold f_X6_endOf_21
  exact s_iret (i := 13) rfl rfl
theorem b_X6_endOf_20 (X : XX) (h : XM) : SW X I_X6_endOf ρi 20 [] [] h 0 0 (f_X6_endOf_20 h) := by
  unfold f_X6_endOf_20
  refine s_iconst (i := 12) rfl (v := (0 : Int32)) (by decide) ?_
  exact s_sub [] rfl (b_X6_endOf_21 X h ((0 : Int32)))
theorem c_X6_endOf (h : XM) (a0 : Option Nat) (a1 : Int32) : MC I_X6_endOf y_X6_endOf [tA a0, tI a1] h ρi (f_X6_endOf h a0 a1) := by
  refine MC_of ⟨by decide +kernel, rfl, rfl, Nat.le_of_ble_eq_true rfl⟩ dT_X6_endOf (fun X => ?_)
  show SW X I_X6_endOf ρi 0 [(0, tA a0), (1, tI a1)] [] h 0 0 (f_X6_endOf h a0 a1)
  unfold f_X6_endOf
  refine s_iload_n (i := 0) rfl 1 rfl ?_
  refine s_iflt (i := 1) rfl (tgt := 20) (by decide) (fun z1 => ?_) (fun z1 => ?_)
  · exact s_sub [] rfl (b_X6_endOf_20 X h)
  · refine s_iload_n (i := 2) rfl 1 rfl ?_
    refine s_iconst (i := 3) rfl (v := (4 : Int32)) (by decide) ?_
    refine s_icmpge (i := 4) rfl (tgt := 20) (by decide) (fun z6 => ?_) (fun z6 => ?_)
    · refine s_aload_n (i := 5) rfl 0 rfl ?_
      refine s_getR (i := 6) rfl xf_6_11.r rfl (fun v1 => ?_)
      refine s_iconst (i := 7) rfl (v := (0 : Int32)) (by decide) ?_
      refine s_aaload (i := 8) rfl (kk := 15) ⟨by decide, by decide⟩ (fun v2 => ?_)
      refine s_iload_n (i := 9) rfl 1 rfl ?_
      refine s_iaload (i := 10) rfl (fun v3 => ?_)
      refine s_goto (i := 11) rfl (tgt := 21) (by decide) ?_
      exact s_sub [] rfl (b_X6_endOf_21 X h v3)
    · exact s_sub [] rfl (b_X6_endOf_20 X h)
def y_X6_line : MethodName := ⟨"OpensAtNine$Turns", "line", "()I"⟩
def T_X6_line : List (Nat × Instr × Nat × Nat) := [(0, .aload_n 0, 1, 1), (1, .getfield 16, 3, 4), (4, .iconst 0, 1, 5), (5, .iaload, 1, 6), (6, .ireturn, 1, 7)]
def I_X6_line : MI := (prog_8_method_4_code, 1, (some .int), "OpensAtNine$Turns", "line", T_X6_line, 0, 0, 1, 60)
theorem dT_X6_line : ∀ q ∈ T_X6_line, decode prog_8_method_4_code q.1 = .ok (q.2.1, q.2.2.1) ∧ q.2.2.2 = q.1 + q.2.2.1 := by decide +kernel
theorem xm_X6_line : xCM y_X6_line I_X6_line 6 0 := ⟨⟨tw820, tw821⟩, tw73, tw822, ⟨xT6, 7, rfl⟩, ⟨by decide +kernel, by decide +kernel, by decide +kernel⟩⟩
noncomputable def f_X6_line (h : XM) (a0 : Option Nat) : Option (Int32 × XM) := (gR h 6 a0 2).bind fun v1 => (rI h v1 ((0 : Int32))).bind fun v2 => some (v2, h)
theorem c_X6_line (h : XM) (a0 : Option Nat) : MC I_X6_line y_X6_line [tA a0] h ρi (f_X6_line h a0) := by
  refine MC_of ⟨by decide +kernel, rfl, rfl, Nat.le_of_ble_eq_true rfl⟩ dT_X6_line (fun X => ?_)
  show SW X I_X6_line ρi 0 [(0, tA a0)] [] h 0 0 (f_X6_line h a0)
  unfold f_X6_line
  refine s_aload_n (i := 0) rfl 0 rfl ?_
  refine s_getR (i := 1) rfl xf_6_16.r rfl (fun v1 => ?_)
  refine s_iconst (i := 2) rfl (v := (0 : Int32)) (by decide) ?_
  refine s_iaload (i := 3) rfl (fun v2 => ?_)
  exact s_iret (i := 4) rfl rfl
def y_X7_init : MethodName := ⟨"OpensAtNine$Ways", "<init>", "(LOpensAtNine$Gate;LOpensAtNine$Met;)V"⟩
def T_X7_init : List (Nat × Instr × Nat × Nat) := [(0, .aload_n 0, 1, 1), (1, .invokespecial 3, 3, 4), (4, .aload_n 0, 1, 5), (5, .aload_n 1, 1, 6), (6, .putfield 9, 3, 9), (9, .aload_n 0, 1, 10), (10, .aload_n 2, 1, 11), (11, .putfield 15, 3, 14), (14, .return_, 1, 15)]
def I_X7_init : MI := (prog_9_method_1_code, 3, none, "OpensAtNine$Ways", "<init>", T_X7_init, 0, 0, 1, 60)
theorem dT_X7_init : ∀ q ∈ T_X7_init, decode prog_9_method_1_code q.1 = .ok (q.2.1, q.2.2.1) ∧ q.2.2.2 = q.1 + q.2.2.1 := by decide +kernel
theorem xm_X7_init : xCI y_X7_init I_X7_init 2 := ⟨⟨rfl, rfl⟩, tw172, tw72, tw173, ⟨by decide +kernel, by decide +kernel, by decide +kernel⟩⟩
noncomputable def f_X7_init (h : XM) (a0 : Option Nat) (a1 : Option Nat) (a2 : Option Nat) : Option (XM) := (a0).bind fun _ => (pR h 7 a0 0 a1).bind fun h1 => (pR h1 7 a0 1 a2).bind fun h2 => some h2
theorem c_X7_init (h : XM) (a0 : Option Nat) (a1 : Option Nat) (a2 : Option Nat) : MC I_X7_init y_X7_init [tA a0, tA a1, tA a2] h ρv (f_X7_init h a0 a1 a2) := by
  refine MC_of ⟨by decide +kernel, rfl, rfl, Nat.le_of_ble_eq_true rfl⟩ dT_X7_init (fun X => ?_)
  show SW X I_X7_init ρv 0 [(0, tA a0), (1, tA a1), (2, tA a2)] [] h 0 0 (f_X7_init h a0 a1 a2)
  unfold f_X7_init
  refine s_aload_n (i := 0) rfl 0 rfl ?_
  refine s_objInit (i := 1) rfl ⟨tw174, tw93, tw94⟩ ⟨by decide, by decide⟩ rfl ?_
  refine s_aload_n (i := 2) rfl 0 rfl ?_
  refine s_aload_n (i := 3) rfl 1 rfl ?_
  refine s_putR (i := 4) rfl xf_7_9 (fun _ => rfl) rfl (Or.inl ⟨_, rfl⟩) (fun h1 => ?_)
  refine s_aload_n (i := 5) rfl 0 rfl ?_
  refine s_aload_n (i := 6) rfl 2 rfl ?_
  refine s_putR (i := 7) rfl xf_7_15 (fun _ => rfl) rfl (Or.inl ⟨_, rfl⟩) (fun h2 => ?_)
  exact s_vret (i := 8) rfl rfl
def y_X7_goOn : MethodName := ⟨"OpensAtNine$Ways", "goOn", "(III)V"⟩
def T_X7_goOn_0 : List (Nat × Instr × Nat × Nat) := [(0, .aload_n 0, 1, 1), (1, .getfield 9, 3, 4), (4, .getfield 41, 3, 7), (7, .aload_n 0, 1, 8), (8, .getfield 30, 3, 11), (11, .iand, 1, 12), (12, .aload_n 0, 1, 13), (13, .getfield 30, 3, 16), (16, .if_icmp .ne 14, 3, 19), (19, .aload_n 0, 1, 20), (20, .iload_n 2, 1, 21), (21, .putfield 34, 3, 24), (24, .aload_n 0, 1, 25), (25, .iload_n 3, 1, 26), (26, .putfield 44, 3, 29), (29, .return_, 1, 30), (30, .aload_n 0, 1, 31), (31, .getfield 9, 3, 34), (34, .getfield 47, 3, 37), (37, .iconst 4, 1, 38), (38, .ishl, 1, 39), (39, .aload_n 0, 1, 40), (40, .getfield 9, 3, 43), (43, .getfield 41, 3, 46), (46, .ior, 1, 47), (47, .bipush 14, 2, 49), (49, .ishl, 1, 50), (50, .aload_n 0, 1, 51), (51, .getfield 9, 3, 54), (54, .getfield 50, 3, 57), (57, .ior, 1, 58), (58, .istore 4, 2, 60), (60, .iload_n 1, 1, 61), (61, .bipush 7, 2, 63), (63, .if_icmp .ge 15, 3, 66), (66, .aload_n 0, 1, 67), (67, .getfield 15, 3, 70), (70, .iload 4, 2, 72), (72, .invokevirtual 53, 3, 75), (75, .ifCond .eq 4, 3, 78)]
def T_X7_goOn_1 : List (Nat × Instr × Nat × Nat) := [(78, .return_, 1, 79), (79, .aload_n 0, 1, 80), (80, .getfield 15, 3, 83), (83, .iload 4, 2, 85), (85, .invokevirtual 57, 3, 88), (88, .aload_n 0, 1, 89), (89, .getfield 9, 3, 92), (92, .getfield 50, 3, 95), (95, .istore 5, 2, 97), (97, .aload_n 0, 1, 98), (98, .getfield 9, 3, 101), (101, .getfield 61, 3, 104), (104, .istore 6, 2, 106), (106, .aload_n 0, 1, 107), (107, .getfield 9, 3, 110), (110, .getfield 41, 3, 113), (113, .istore 7, 2, 115), (115, .aload_n 0, 1, 116), (116, .getfield 9, 3, 119), (119, .getfield 47, 3, 122), (122, .istore 8, 2, 124), (124, .aload_n 0, 1, 125), (125, .getfield 9, 3, 128), (128, .aload_n 0, 1, 129), (129, .getfield 30, 3, 132), (132, .invokevirtual 64, 3, 135), (135, .istore 9, 2, 137), (137, .iconst 0, 1, 138), (138, .istore 10, 2, 140), (140, .iload 10, 2, 142), (142, .bipush 7, 2, 144), (144, .if_icmp .ge 98, 3, 147), (147, .iload 9, 2, 149), (149, .iload 10, 2, 151), (151, .ishr, 1, 152), (152, .iconst 1, 1, 153), (153, .iand, 1, 154), (154, .ifCond .ne 6, 3, 157), (157, .goto 79, 3, 160), (160, .iload_n 2, 1, 161)]
def T_X7_goOn_2 : List (Nat × Instr × Nat × Nat) := [(161, .aload_n 0, 1, 162), (162, .getfield 9, 3, 165), (165, .iload 10, 2, 167), (167, .invokevirtual 68, 3, 170), (170, .iadd, 1, 171), (171, .istore 11, 2, 173), (173, .aload_n 0, 1, 174), (174, .getfield 34, 3, 177), (177, .iconst (-1), 1, 178), (178, .if_icmp .eq 15, 3, 181), (181, .iload 11, 2, 183), (183, .aload_n 0, 1, 184), (184, .getfield 34, 3, 187), (187, .if_icmp .lt 6, 3, 190), (190, .goto 46, 3, 193), (193, .aload_n 0, 1, 194), (194, .getfield 9, 3, 197), (197, .iload 10, 2, 199), (199, .invokevirtual 71, 3, 202), (202, .pop, 1, 203), (203, .aload_n 0, 1, 204), (204, .iload_n 1, 1, 205), (205, .iconst 1, 1, 206), (206, .iadd, 1, 207), (207, .iload 11, 2, 209), (209, .iload_n 3, 1, 210), (210, .bipush 10, 2, 212), (212, .imul, 1, 213), (213, .iload 10, 2, 215), (215, .iadd, 1, 216), (216, .iconst 1, 1, 217), (217, .iadd, 1, 218), (218, .invokevirtual 37, 3, 221), (221, .aload_n 0, 1, 222), (222, .getfield 9, 3, 225), (225, .iload 5, 2, 227), (227, .iload 6, 2, 229), (229, .iload 7, 2, 231), (231, .iload 8, 2, 233), (233, .invokevirtual 74, 3, 236)]
def T_X7_goOn_3 : List (Nat × Instr × Nat × Nat) := [(236, .iinc 10 1, 3, 239), (239, .goto (-99), 3, 242), (242, .return_, 1, 243)]
def T_X7_goOn : List (Nat × Instr × Nat × Nat) := [(0, .aload_n 0, 1, 1), (1, .getfield 9, 3, 4), (4, .getfield 41, 3, 7), (7, .aload_n 0, 1, 8), (8, .getfield 30, 3, 11), (11, .iand, 1, 12), (12, .aload_n 0, 1, 13), (13, .getfield 30, 3, 16), (16, .if_icmp .ne 14, 3, 19), (19, .aload_n 0, 1, 20), (20, .iload_n 2, 1, 21), (21, .putfield 34, 3, 24), (24, .aload_n 0, 1, 25), (25, .iload_n 3, 1, 26), (26, .putfield 44, 3, 29), (29, .return_, 1, 30), (30, .aload_n 0, 1, 31), (31, .getfield 9, 3, 34), (34, .getfield 47, 3, 37), (37, .iconst 4, 1, 38), (38, .ishl, 1, 39), (39, .aload_n 0, 1, 40), (40, .getfield 9, 3, 43), (43, .getfield 41, 3, 46), (46, .ior, 1, 47), (47, .bipush 14, 2, 49), (49, .ishl, 1, 50), (50, .aload_n 0, 1, 51), (51, .getfield 9, 3, 54), (54, .getfield 50, 3, 57), (57, .ior, 1, 58), (58, .istore 4, 2, 60), (60, .iload_n 1, 1, 61), (61, .bipush 7, 2, 63), (63, .if_icmp .ge 15, 3, 66), (66, .aload_n 0, 1, 67), (67, .getfield 15, 3, 70), (70, .iload 4, 2, 72), (72, .invokevirtual 53, 3, 75), (75, .ifCond .eq 4, 3, 78), (78, .return_, 1, 79), (79, .aload_n 0, 1, 80), (80, .getfield 15, 3, 83), (83, .iload 4, 2, 85), (85, .invokevirtual 57, 3, 88), (88, .aload_n 0, 1, 89), (89, .getfield 9, 3, 92), (92, .getfield 50, 3, 95), (95, .istore 5, 2, 97), (97, .aload_n 0, 1, 98), (98, .getfield 9, 3, 101), (101, .getfield 61, 3, 104), (104, .istore 6, 2, 106), (106, .aload_n 0, 1, 107), (107, .getfield 9, 3, 110), (110, .getfield 41, 3, 113), (113, .istore 7, 2, 115), (115, .aload_n 0, 1, 116), (116, .getfield 9, 3, 119), (119, .getfield 47, 3, 122), (122, .istore 8, 2, 124), (124, .aload_n 0, 1, 125), (125, .getfield 9, 3, 128), (128, .aload_n 0, 1, 129), (129, .getfield 30, 3, 132), (132, .invokevirtual 64, 3, 135), (135, .istore 9, 2, 137), (137, .iconst 0, 1, 138), (138, .istore 10, 2, 140), (140, .iload 10, 2, 142), (142, .bipush 7, 2, 144), (144, .if_icmp .ge 98, 3, 147), (147, .iload 9, 2, 149), (149, .iload 10, 2, 151), (151, .ishr, 1, 152), (152, .iconst 1, 1, 153), (153, .iand, 1, 154), (154, .ifCond .ne 6, 3, 157), (157, .goto 79, 3, 160), (160, .iload_n 2, 1, 161), (161, .aload_n 0, 1, 162), (162, .getfield 9, 3, 165), (165, .iload 10, 2, 167), (167, .invokevirtual 68, 3, 170), (170, .iadd, 1, 171), (171, .istore 11, 2, 173), (173, .aload_n 0, 1, 174), (174, .getfield 34, 3, 177), (177, .iconst (-1), 1, 178), (178, .if_icmp .eq 15, 3, 181), (181, .iload 11, 2, 183), (183, .aload_n 0, 1, 184), (184, .getfield 34, 3, 187), (187, .if_icmp .lt 6, 3, 190), (190, .goto 46, 3, 193), (193, .aload_n 0, 1, 194), (194, .getfield 9, 3, 197), (197, .iload 10, 2, 199), (199, .invokevirtual 71, 3, 202), (202, .pop, 1, 203), (203, .aload_n 0, 1, 204), (204, .iload_n 1, 1, 205), (205, .iconst 1, 1, 206), (206, .iadd, 1, 207), (207, .iload 11, 2, 209), (209, .iload_n 3, 1, 210), (210, .bipush 10, 2, 212), (212, .imul, 1, 213), (213, .iload 10, 2, 215), (215, .iadd, 1, 216), (216, .iconst 1, 1, 217), (217, .iadd, 1, 218), (218, .invokevirtual 37, 3, 221), (221, .aload_n 0, 1, 222), (222, .getfield 9, 3, 225), (225, .iload 5, 2, 227), (227, .iload 6, 2, 229), (229, .iload 7, 2, 231), (231, .iload 8, 2, 233), (233, .invokevirtual 74, 3, 236), (236, .iinc 10 1, 3, 239), (239, .goto (-99), 3, 242), (242, .return_, 1, 243)]
def I_X7_goOn (d : Nat) : MI := (prog_9_method_3_code, 12, none, "OpensAtNine$Ways", "goOn", T_X7_goOn, 0, 0, 5 + d, 161 + d * 31)
theorem dT_X7_goOn_0 : ∀ q ∈ T_X7_goOn_0, decode prog_9_method_3_code q.1 = .ok (q.2.1, q.2.2.1) ∧ q.2.2.2 = q.1 + q.2.2.1 := by decide +kernel
theorem dT_X7_goOn_1 : ∀ q ∈ T_X7_goOn_1, decode prog_9_method_3_code q.1 = .ok (q.2.1, q.2.2.1) ∧ q.2.2.2 = q.1 + q.2.2.1 := by decide +kernel
theorem dT_X7_goOn_2 : ∀ q ∈ T_X7_goOn_2, decode prog_9_method_3_code q.1 = .ok (q.2.1, q.2.2.1) ∧ q.2.2.2 = q.1 + q.2.2.1 := by decide +kernel
theorem dT_X7_goOn_3 : ∀ q ∈ T_X7_goOn_3, decode prog_9_method_3_code q.1 = .ok (q.2.1, q.2.2.1) ∧ q.2.2.2 = q.1 + q.2.2.1 := by decide +kernel
set_option maxRecDepth 20000 in
theorem dT_X7_goOn : ∀ q ∈ T_X7_goOn, decode prog_9_method_3_code q.1 = .ok (q.2.1, q.2.2.1) ∧ q.2.2.2 = q.1 + q.2.2.1 := by
  show ∀ q ∈ (T_X7_goOn_0 ++ (T_X7_goOn_1 ++ (T_X7_goOn_2 ++ (T_X7_goOn_3)))), decode prog_9_method_3_code q.1 = .ok (q.2.1, q.2.2.1) ∧ q.2.2.2 = q.1 + q.2.2.1
  exact List.forall_mem_append.mpr ⟨dT_X7_goOn_0, List.forall_mem_append.mpr ⟨dT_X7_goOn_1, List.forall_mem_append.mpr ⟨dT_X7_goOn_2, dT_X7_goOn_3⟩⟩⟩
theorem xm_X7_goOn (d : Nat) : xCM y_X7_goOn (I_X7_goOn d) 7 3 := ⟨⟨tw690, tw17⟩, tw72, tw691, ⟨xT7, 6, rfl⟩, ⟨by decide +kernel, by decide +kernel, by decide +kernel⟩⟩
noncomputable def f_X7_goOn_78 (r_X7_goOn : XM → Option Nat → Int32 → Int32 → Int32 → Option (XM)) (h : XM) : Option (XM) := some h
noncomputable def f_X7_goOn_236 (r_X7_goOn : XM → Option Nat → Int32 → Int32 → Int32 → Option (XM)) (k_140 : XM → Option Nat → Int32 → Int32 → Int32 → Int32 → Int32 → Int32 → Int32 → Int32 → Int32 → Option (XM)) (h : XM) (l0 : Option Nat) (l1 : Int32) (l2 : Int32) (l3 : Int32) (l5 : Int32) (l6 : Int32) (l7 : Int32) (l8 : Int32) (l9 : Int32) (l10 : Int32) : Option (XM) := bnd (l10 + (1 : Int32)) fun v1 => k_140 h l0 l1 l2 l3 l5 l6 l7 l8 l9 v1
noncomputable def f_X7_goOn_193 (r_X7_goOn : XM → Option Nat → Int32 → Int32 → Int32 → Option (XM)) (k_140 : XM → Option Nat → Int32 → Int32 → Int32 → Int32 → Int32 → Int32 → Int32 → Int32 → Int32 → Option (XM)) (h : XM) (l0 : Option Nat) (l1 : Int32) (l2 : Int32) (l3 : Int32) (l5 : Int32) (l6 : Int32) (l7 : Int32) (l8 : Int32) (l9 : Int32) (l10 : Int32) (l11 : Int32) : Option (XM) := (gR h 7 l0 0).bind fun v2 => (vc h 1 v2 (f_X1_putIn h v2 l10)).bind fun q3 => (vc q3.2 7 l0 (r_X7_goOn q3.2 l0 (l1 + ((1 : Int32))) l11 (((l3 * ((10 : Int32))) + l10) + ((1 : Int32))))).bind fun q4 => (gR q4 7 l0 0).bind fun v5 => (vc q4 1 v5 (f_X1_undo q4 v5 l5 l6 l7 l8)).bind fun q6 => f_X7_goOn_236 r_X7_goOn k_140 q6 l0 l1 l2 l3 l5 l6 l7 l8 l9 l10
noncomputable def fb_X7_goOn_140 (r_X7_goOn : XM → Option Nat → Int32 → Int32 → Int32 → Option (XM)) (k_140 : XM → Option Nat → Int32 → Int32 → Int32 → Int32 → Int32 → Int32 → Int32 → Int32 → Int32 → Option (XM)) (h : XM) (l0 : Option Nat) (l1 : Int32) (l2 : Int32) (l3 : Int32) (l5 : Int32) (l6 : Int32) (l7 : Int32) (l8 : Int32) (l9 : Int32) (l10 : Int32) : Option (XM) := if l10 < ((7 : Int32)) then (if ((l9 >>> (l10 &&& 31)) &&& ((1 : Int32))) = 0 then (f_X7_goOn_236 r_X7_goOn k_140 h l0 l1 l2 l3 l5 l6 l7 l8 l9 l10) else ((gR h 7 l0 0).bind fun v7 => (vc h 1 v7 (f_X1_costOf h v7 l10)).bind fun q8 => bnd (l2 + q8.1) fun v9 => (gI q8.2 7 l0 3).bind fun v10 => if v10 = ((-1 : Int32)) then (f_X7_goOn_193 r_X7_goOn k_140 q8.2 l0 l1 l2 l3 l5 l6 l7 l8 l9 l10 v9) else ((gI q8.2 7 l0 3).bind fun v11 => if v9 < v11 then (f_X7_goOn_193 r_X7_goOn k_140 q8.2 l0 l1 l2 l3 l5 l6 l7 l8 l9 l10 v9) else (f_X7_goOn_236 r_X7_goOn k_140 q8.2 l0 l1 l2 l3 l5 l6 l7 l8 l9 l10)))) else (some h)
noncomputable def f_X7_goOn_140 (r_X7_goOn : XM → Option Nat → Int32 → Int32 → Int32 → Option (XM)) (n : Nat) : XM → Option Nat → Int32 → Int32 → Int32 → Int32 → Int32 → Int32 → Int32 → Int32 → Int32 → Option (XM) := Nat.rec (motive := fun _ => XM → Option Nat → Int32 → Int32 → Int32 → Int32 → Int32 → Int32 → Int32 → Int32 → Int32 → Option (XM)) (fun _ _ _ _ _ _ _ _ _ _ _ => none) (fun _ ih h l0 l1 l2 l3 l5 l6 l7 l8 l9 l10 => fb_X7_goOn_140 r_X7_goOn ih h l0 l1 l2 l3 l5 l6 l7 l8 l9 l10) n
noncomputable def fe_X7_goOn (r_X7_goOn : XM → Option Nat → Int32 → Int32 → Int32 → Option (XM)) (h : XM) (a0 : Option Nat) (a1 : Int32) (a2 : Int32) (a3 : Int32) : Option (XM) := (gR h 7 a0 0).bind fun v12 => (gI h 1 v12 8).bind fun v13 => (gI h 7 a0 2).bind fun v14 => (gI h 7 a0 2).bind fun v15 => if (v13 &&& v14) = v15 then ((pI h 7 a0 3 a2).bind fun h16 => (pI h16 7 a0 5 a3).bind fun h17 => some h17) else ((gR h 7 a0 0).bind fun v18 => (gI h 1 v18 10).bind fun v19 => (gR h 7 a0 0).bind fun v20 => (gI h 1 v20 8).bind fun v21 => (gR h 7 a0 0).bind fun v22 => (gI h 1 v22 5).bind fun v23 => bnd ((((v19 <<< (((4 : Int32)) &&& 31)) ||| v21) <<< (((14 : Int32)) &&& 31)) ||| v23) fun v24 => if a1 < ((7 : Int32)) then ((gR h 7 a0 1).bind fun v25 => (vc h 2 v25 (f_X2_knows h v25 v24)).bind fun q26 => if q26.1 = 0 then ((gR q26.2 7 a0 1).bind fun v27 => (vc q26.2 2 v27 (f_X2_note q26.2 v27 v24)).bind fun q28 => (gR q28 7 a0 0).bind fun v29 => (gI q28 1 v29 5).bind fun v30 => (gR q28 7 a0 0).bind fun v31 => (gI q28 1 v31 6).bind fun v32 => (gR q28 7 a0 0).bind fun v33 => (gI q28 1 v33 8).bind fun v34 => (gR q28 7 a0 0).bind fun v35 => (gI q28 1 v35 10).bind fun v36 => (gR q28 7 a0 0).bind fun v37 => (gI q28 7 a0 2).bind fun v38 => (vc q28 1 v37 (f_X1_movable q28 v37 v38)).bind fun q39 => f_X7_goOn_140 r_X7_goOn FU q39.2 a0 a1 a2 a3 v30 v32 v34 v36 q39.1 ((0 : Int32))) else (f_X7_goOn_78 r_X7_goOn q26.2)) else (f_X7_goOn_78 r_X7_goOn h))
noncomputable def g_X7_goOn (d : Nat) : (XM → Option Nat → Int32 → Int32 → Int32 → Option (XM)) := Nat.rec (motive := fun _ => (XM → Option Nat → Int32 → Int32 → Int32 → Option (XM))) ((fun _ _ _ _ _ => none)) (fun _ g => ((fun h a0 a1 a2 a3 => fe_X7_goOn g h a0 a1 a2 a3))) d
noncomputable def f_X7_goOn (d : Nat) : XM → Option Nat → Int32 → Int32 → Int32 → Option (XM) := (g_X7_goOn d)
theorem b_X7_goOn_78 (X : XX) (d : Nat) (r_X7_goOn : XM → Option Nat → Int32 → Int32 → Int32 → Option (XM)) (hr_X7_goOn : ∀ h a0 a1 a2 a3, MC (I_X7_goOn d) y_X7_goOn [tA a0, tI a1, tI a2, tI a3] h ρv (r_X7_goOn h a0 a1 a2 a3)) (h : XM) : SW X (I_X7_goOn (d + 1)) ρv 78 [] [] h 0 0 (f_X7_goOn_78 r_X7_goOn h) := by
  unfold f_X7_goOn_78
  exact s_vret (i := 40) rfl rfl
theorem b_X7_goOn_236 (X : XX) (d : Nat) (r_X7_goOn : XM → Option Nat → Int32 → Int32 → Int32 → Option (XM)) (hr_X7_goOn : ∀ h a0 a1 a2 a3, MC (I_X7_goOn d) y_X7_goOn [tA a0, tI a1, tI a2, tI a3] h ρv (r_X7_goOn h a0 a1 a2 a3)) (k_140 : XM → Option Nat → Int32 → Int32 → Int32 → Int32 → Int32 → Int32 → Int32 → Int32 → Int32 → Option (XM)) (hk_140 : ∀ h l0 l1 l2 l3 l5 l6 l7 l8 l9 l10, SW X (I_X7_goOn (d + 1)) ρv 140 [(0, tA l0), (1, tI l1), (2, tI l2), (3, tI l3), (5, tI l5), (6, tI l6), (7, tI l7), (8, tI l8), (9, tI l9), (10, tI l10)] [] h 0 0 (k_140 h l0 l1 l2 l3 l5 l6 l7 l8 l9 l10)) (h : XM) (l0 : Option Nat) (l1 : Int32) (l2 : Int32) (l3 : Int32) (l5 : Int32) (l6 : Int32) (l7 : Int32) (l8 : Int32) (l9 : Int32) (l10 : Int32) : SW X (I_X7_goOn (d + 1)) ρv 236 [(0, tA l0), (1, tI l1), (2, tI l2), (3, tI l3), (5, tI l5), (6, tI l6), (7, tI l7), (8, tI l8), (9, tI l9), (10, tI l10)] [] h 0 0 (f_X7_goOn_236 r_X7_goOn k_140 h l0 l1 l2 l3 l5 l6 l7 l8 l9 l10) := by
  unfold f_X7_goOn_236
  refine s_inc (i := 120) rfl 9 rfl (c9 := (1 : Int32)) (by decide) (Nat.le_of_ble_eq_true rfl) (fun v1 => ?_)
  refine s_ls (ls2 := [(10, tI v1), (0, tA l0), (1, tI l1), (2, tI l2), (3, tI l3), (5, tI l5), (6, tI l6), (7, tI l7), (8, tI l8), (9, tI l9)]) rfl ?_
  refine s_goto (i := 121) rfl (tgt := 140) (by decide) ?_
  exact s_sub [1, 2, 3, 4, 5, 6, 7, 8, 9, 0] rfl (hk_140 h l0 l1 l2 l3 l5 l6 l7 l8 l9 v1)
theorem b_X7_goOn_193 (X : XX) (d : Nat) (r_X7_goOn : XM → Option Nat → Int32 → Int32 → Int32 → Option (XM)) (hr_X7_goOn : ∀ h a0 a1 a2 a3, MC (I_X7_goOn d) y_X7_goOn [tA a0, tI a1, tI a2, tI a3] h ρv (r_X7_goOn h a0 a1 a2 a3)) (k_140 : XM → Option Nat → Int32 → Int32 → Int32 → Int32 → Int32 → Int32 → Int32 → Int32 → Int32 → Option (XM)) (hk_140 : ∀ h l0 l1 l2 l3 l5 l6 l7 l8 l9 l10, SW X (I_X7_goOn (d + 1)) ρv 140 [(0, tA l0), (1, tI l1), (2, tI l2), (3, tI l3), (5, tI l5), (6, tI l6), (7, tI l7), (8, tI l8), (9, tI l9), (10, tI l10)] [] h 0 0 (k_140 h l0 l1 l2 l3 l5 l6 l7 l8 l9 l10)) (h : XM) (l0 : Option Nat) (l1 : Int32) (l2 : Int32) (l3 : Int32) (l5 : Int32) (l6 : Int32) (l7 : Int32) (l8 : Int32) (l9 : Int32) (l10 : Int32) (l11 : Int32) : SW X (I_X7_goOn (d + 1)) ρv 193 [(0, tA l0), (1, tI l1), (2, tI l2), (3, tI l3), (5, tI l5), (6, tI l6), (7, tI l7), (8, tI l8), (9, tI l9), (10, tI l10), (11, tI l11)] [] h 0 0 (f_X7_goOn_193 r_X7_goOn k_140 h l0 l1 l2 l3 l5 l6 l7 l8 l9 l10 l11) := by
  unfold f_X7_goOn_193
  refine s_aload_n (i := 95) rfl 0 rfl ?_
  refine s_getR (i := 96) rfl xf_7_9.r rfl (fun v2 => ?_)
  refine s_iload (i := 97) rfl 9 rfl ?_
  refine u_callVi (kk := 1) [tI l10] v2 [] rfl (i := 98) rfl (c_X1_putIn h v2 l10) xm_X1_putIn (tw714) rfl (Nat.le_of_ble_eq_true rfl) (xRm.in (show 4 + 1 ≤ 5 + (d + 1) by omega) (show 8 + (6 + 11) + 136 ≤ 161 + (d + 1) * 31 by omega)) ⟨rfl, rfl⟩ (fun q3 => ?_)
  refine s_pop (i := 99) rfl rfl ?_
  refine s_aload_n (i := 100) rfl 0 rfl ?_
  refine s_iload_n (i := 101) rfl 1 rfl ?_
  refine s_iconst (i := 102) rfl (v := (1 : Int32)) (by decide) ?_
  refine s_iadd (i := 103) rfl ?_
  refine s_iload (i := 104) rfl 10 rfl ?_
  refine s_iload_n (i := 105) rfl 3 rfl ?_
  refine s_bipush (i := 106) rfl (v := (10 : Int32)) (by decide) ?_
  refine s_imul (i := 107) rfl ?_
  refine s_iload (i := 108) rfl 9 rfl ?_
  refine s_iadd (i := 109) rfl ?_
  refine s_iconst (i := 110) rfl (v := (1 : Int32)) (by decide) ?_
  refine s_iadd (i := 111) rfl ?_
  refine u_callVv (kk := 7) [tI (l1 + ((1 : Int32))), tI l11, tI (((l3 * ((10 : Int32))) + l10) + ((1 : Int32)))] l0 [] rfl (i := 112) rfl (hr_X7_goOn q3.2 l0 (l1 + ((1 : Int32))) l11 (((l3 * ((10 : Int32))) + l10) + ((1 : Int32)))) (xm_X7_goOn _) (tw688) rfl (Nat.le_of_ble_eq_true rfl) (xRm.in (show 5 + d + 1 ≤ 5 + (d + 1) by omega) (show 8 + (12 + 11) + (161 + d * 31) ≤ 161 + (d + 1) * 31 by rw [Nat.succ_mul]; omega)) ⟨rfl, rfl⟩ (fun q4 => ?_)
  refine s_aload_n (i := 113) rfl 0 rfl ?_
  refine s_getR (i := 114) rfl xf_7_9.r rfl (fun v5 => ?_)
  refine s_iload (i := 115) rfl 4 rfl ?_
  refine s_iload (i := 116) rfl 5 rfl ?_
  refine s_iload (i := 117) rfl 6 rfl ?_
  refine s_iload (i := 118) rfl 7 rfl ?_
  refine u_callVv (kk := 1) [tI l5, tI l6, tI l7, tI l8] v5 [] rfl (i := 119) rfl (c_X1_undo q4 v5 l5 l6 l7 l8) xm_X1_undo (tw715) rfl (Nat.le_of_ble_eq_true rfl) (xRm.in (show 1 + 1 ≤ 5 + (d + 1) by omega) (show 8 + (5 + 11) + 60 ≤ 161 + (d + 1) * 31 by omega)) ⟨rfl, rfl⟩ (fun q6 => ?_)
  exact s_sub [0, 1, 2, 3, 4, 5, 6, 7, 8, 9] rfl (b_X7_goOn_236 X d r_X7_goOn hr_X7_goOn k_140 hk_140 q6 l0 l1 l2 l3 l5 l6 l7 l8 l9 l10)
theorem bb_X7_goOn_140 (X : XX) (d : Nat) (r_X7_goOn : XM → Option Nat → Int32 → Int32 → Int32 → Option (XM)) (hr_X7_goOn : ∀ h a0 a1 a2 a3, MC (I_X7_goOn d) y_X7_goOn [tA a0, tI a1, tI a2, tI a3] h ρv (r_X7_goOn h a0 a1 a2 a3)) (k_140 : XM → Option Nat → Int32 → Int32 → Int32 → Int32 → Int32 → Int32 → Int32 → Int32 → Int32 → Option (XM)) (hk_140 : ∀ h l0 l1 l2 l3 l5 l6 l7 l8 l9 l10, SW X (I_X7_goOn (d + 1)) ρv 140 [(0, tA l0), (1, tI l1), (2, tI l2), (3, tI l3), (5, tI l5), (6, tI l6), (7, tI l7), (8, tI l8), (9, tI l9), (10, tI l10)] [] h 0 0 (k_140 h l0 l1 l2 l3 l5 l6 l7 l8 l9 l10)) (h : XM) (l0 : Option Nat) (l1 : Int32) (l2 : Int32) (l3 : Int32) (l5 : Int32) (l6 : Int32) (l7 : Int32) (l8 : Int32) (l9 : Int32) (l10 : Int32) : SW X (I_X7_goOn (d + 1)) ρv 140 [(0, tA l0), (1, tI l1), (2, tI l2), (3, tI l3), (5, tI l5), (6, tI l6), (7, tI l7), (8, tI l8), (9, tI l9), (10, tI l10)] [] h 0 0 (fb_X7_goOn_140 r_X7_goOn k_140 h l0 l1 l2 l3 l5 l6 l7 l8 l9 l10) := by
  unfold fb_X7_goOn_140
  refine s_iload (i := 69) rfl 9 rfl ?_
  refine s_bipush (i := 70) rfl (v := (7 : Int32)) (by decide) ?_
  refine s_icmpge (i := 71) rfl (tgt := 242) (by decide) (fun z144 => ?_) (fun z144 => ?_)
  · refine s_iload (i := 72) rfl 8 rfl ?_
    refine s_iload (i := 73) rfl 9 rfl ?_
    refine s_ishr (i := 74) rfl ?_
    refine s_iconst (i := 75) rfl (v := (1 : Int32)) (by decide) ?_
    refine s_iand (i := 76) rfl ?_
    refine s_ifne (i := 77) rfl (tgt := 160) (by decide) (fun z154 => ?_) (fun z154 => ?_)
    · refine s_goto (i := 78) rfl (tgt := 236) (by decide) ?_
      exact s_sub [0, 1, 2, 3, 4, 5, 6, 7, 8, 9] rfl (b_X7_goOn_236 X d r_X7_goOn hr_X7_goOn k_140 hk_140 h l0 l1 l2 l3 l5 l6 l7 l8 l9 l10)
    · refine s_iload_n (i := 79) rfl 2 rfl ?_
      refine s_aload_n (i := 80) rfl 0 rfl ?_
      refine s_getR (i := 81) rfl xf_7_9.r rfl (fun v7 => ?_)
      refine s_iload (i := 82) rfl 9 rfl ?_
      refine u_callVi (kk := 1) [tI l10] v7 [tI l2] rfl (i := 83) rfl (c_X1_costOf h v7 l10) xm_X1_costOf (tw709) rfl (Nat.le_of_ble_eq_true rfl) (xRm.in (show 2 + 1 ≤ 5 + (d + 1) by omega) (show 8 + (3 + 11) + 81 ≤ 161 + (d + 1) * 31 by omega)) ⟨rfl, rfl⟩ (fun q8 => ?_)
      refine s_iadd (i := 84) rfl ?_
      refine s_bnd (fun v9 => ?_)
      refine s_istore (i := 85) rfl (Nat.le_of_ble_eq_true rfl) (ls2 := [(11, tI v9), (0, tA l0), (1, tI l1), (2, tI l2), (3, tI l3), (5, tI l5), (6, tI l6), (7, tI l7), (8, tI l8), (9, tI l9), (10, tI l10)]) rfl ?_
      refine s_aload_n (i := 86) rfl 1 rfl ?_
      refine s_getI (i := 87) rfl xf_7_34.r rfl (fun v10 => ?_)
      refine s_iconst (i := 88) rfl (v := (-1 : Int32)) (by decide) ?_
      refine s_icmpeq (i := 89) rfl (tgt := 193) (by decide) (fun z178 => ?_) (fun z178 => ?_)
      · exact s_sub [1, 2, 3, 4, 5, 6, 7, 8, 9, 10, 0] rfl (b_X7_goOn_193 X d r_X7_goOn hr_X7_goOn k_140 hk_140 q8.2 l0 l1 l2 l3 l5 l6 l7 l8 l9 l10 v9)
      · refine s_iload (i := 90) rfl 0 rfl ?_
        refine s_aload_n (i := 91) rfl 1 rfl ?_
        refine s_getI (i := 92) rfl xf_7_34.r rfl (fun v11 => ?_)
        refine s_icmplt (i := 93) rfl (tgt := 193) (by decide) (fun z187 => ?_) (fun z187 => ?_)
        · exact s_sub [1, 2, 3, 4, 5, 6, 7, 8, 9, 10, 0] rfl (b_X7_goOn_193 X d r_X7_goOn hr_X7_goOn k_140 hk_140 q8.2 l0 l1 l2 l3 l5 l6 l7 l8 l9 l10 v9)
        · refine s_goto (i := 94) rfl (tgt := 236) (by decide) ?_
          exact s_sub [1, 2, 3, 4, 5, 6, 7, 8, 9, 10] rfl (b_X7_goOn_236 X d r_X7_goOn hr_X7_goOn k_140 hk_140 q8.2 l0 l1 l2 l3 l5 l6 l7 l8 l9 l10)
  · exact s_vret (i := 122) rfl rfl
theorem b_X7_goOn_140 (X : XX) (d : Nat) (r_X7_goOn : XM → Option Nat → Int32 → Int32 → Int32 → Option (XM)) (hr_X7_goOn : ∀ h a0 a1 a2 a3, MC (I_X7_goOn d) y_X7_goOn [tA a0, tI a1, tI a2, tI a3] h ρv (r_X7_goOn h a0 a1 a2 a3)) : ∀ (n : Nat) (h : XM) (l0 : Option Nat) (l1 : Int32) (l2 : Int32) (l3 : Int32) (l5 : Int32) (l6 : Int32) (l7 : Int32) (l8 : Int32) (l9 : Int32) (l10 : Int32), SW X (I_X7_goOn (d + 1)) ρv 140 [(0, tA l0), (1, tI l1), (2, tI l2), (3, tI l3), (5, tI l5), (6, tI l6), (7, tI l7), (8, tI l8), (9, tI l9), (10, tI l10)] [] h 0 0 (f_X7_goOn_140 r_X7_goOn n h l0 l1 l2 l3 l5 l6 l7 l8 l9 l10) := by
  intro n
  induction n with
  | zero =>
    intro h l0 l1 l2 l3 l5 l6 l7 l8 l9 l10
    exact s_none
  | succ n ih =>
    intro h l0 l1 l2 l3 l5 l6 l7 l8 l9 l10
    exact bb_X7_goOn_140 X d r_X7_goOn hr_X7_goOn (f_X7_goOn_140 r_X7_goOn n) ih h l0 l1 l2 l3 l5 l6 l7 l8 l9 l10
theorem ce_X7_goOn (d : Nat) (r_X7_goOn : XM → Option Nat → Int32 → Int32 → Int32 → Option (XM)) (hr_X7_goOn : ∀ h a0 a1 a2 a3, MC (I_X7_goOn d) y_X7_goOn [tA a0, tI a1, tI a2, tI a3] h ρv (r_X7_goOn h a0 a1 a2 a3)) (h : XM) (a0 : Option Nat) (a1 : Int32) (a2 : Int32) (a3 : Int32) : MC (I_X7_goOn (d + 1)) y_X7_goOn [tA a0, tI a1, tI a2, tI a3] h ρv (fe_X7_goOn r_X7_goOn h a0 a1 a2 a3) := by
  refine MC_of ⟨by decide +kernel, rfl, rfl, Nat.le_of_ble_eq_true rfl⟩ dT_X7_goOn (fun X => ?_)
  show SW X (I_X7_goOn (d + 1)) ρv 0 [(0, tA a0), (1, tI a1), (2, tI a2), (3, tI a3)] [] h 0 0 (fe_X7_goOn r_X7_goOn h a0 a1 a2 a3)
  unfold fe_X7_goOn
  refine s_aload_n (i := 0) rfl 0 rfl ?_
  refine s_getR (i := 1) rfl xf_7_9.r rfl (fun v12 => ?_)
  refine s_getI (i := 2) rfl xf_7_41.r rfl (fun v13 => ?_)
  refine s_aload_n (i := 3) rfl 0 rfl ?_
  refine s_getI (i := 4) rfl xf_7_30.r rfl (fun v14 => ?_)
  refine s_iand (i := 5) rfl ?_
  refine s_aload_n (i := 6) rfl 0 rfl ?_
  refine s_getI (i := 7) rfl xf_7_30.r rfl (fun v15 => ?_)
  refine s_icmpne (i := 8) rfl (tgt := 30) (by decide) (fun z16 => ?_) (fun z16 => ?_)
  · refine s_aload_n (i := 9) rfl 0 rfl ?_
    refine s_iload_n (i := 10) rfl 2 rfl ?_
    refine s_putI (i := 11) rfl xf_7_34 (fun q => by cases q) rfl rfl (fun h16 => ?_)
    refine s_aload_n (i := 12) rfl 0 rfl ?_
    refine s_iload_n (i := 13) rfl 3 rfl ?_
    refine s_putI (i := 14) rfl xf_7_44 (fun q => by cases q) rfl rfl (fun h17 => ?_)
    exact s_vret (i := 15) rfl rfl
  · refine s_aload_n (i := 16) rfl 0 rfl ?_
    refine s_getR (i := 17) rfl xf_7_9.r rfl (fun v18 => ?_)
    refine s_getI (i := 18) rfl xf_7_47.r rfl (fun v19 => ?_)
    refine s_iconst (i := 19) rfl (v := (4 : Int32)) (by decide) ?_
    refine s_ishl (i := 20) rfl ?_
    refine s_aload_n (i := 21) rfl 0 rfl ?_
    refine s_getR (i := 22) rfl xf_7_9.r rfl (fun v20 => ?_)
    refine s_getI (i := 23) rfl xf_7_41.r rfl (fun v21 => ?_)
    refine s_ior (i := 24) rfl ?_
    refine s_bipush (i := 25) rfl (v := (14 : Int32)) (by decide) ?_
    refine s_ishl (i := 26) rfl ?_
    refine s_aload_n (i := 27) rfl 0 rfl ?_
    refine s_getR (i := 28) rfl xf_7_9.r rfl (fun v22 => ?_)
    refine s_getI (i := 29) rfl xf_7_50.r rfl (fun v23 => ?_)
    refine s_ior (i := 30) rfl ?_
    refine s_bnd (fun v24 => ?_)
    refine s_istore (i := 31) rfl (Nat.le_of_ble_eq_true rfl) (ls2 := [(4, tI v24), (0, tA a0), (1, tI a1), (2, tI a2), (3, tI a3)]) rfl ?_
    refine s_iload_n (i := 32) rfl 2 rfl ?_
    refine s_bipush (i := 33) rfl (v := (7 : Int32)) (by decide) ?_
    refine s_icmpge (i := 34) rfl (tgt := 78) (by decide) (fun z63 => ?_) (fun z63 => ?_)
    · refine s_aload_n (i := 35) rfl 1 rfl ?_
      refine s_getR (i := 36) rfl xf_7_15.r rfl (fun v25 => ?_)
      refine s_iload (i := 37) rfl 0 rfl ?_
      refine u_callVi (kk := 2) [tI v24] v25 [] rfl (i := 38) rfl (c_X2_knows h v25 v24) xm_X2_knows (tw692) rfl (Nat.le_of_ble_eq_true rfl) (xRm.in (show 2 + 1 ≤ 5 + (d + 1) by omega) (show 8 + (2 + 11) + 81 ≤ 161 + (d + 1) * 31 by omega)) ⟨rfl, rfl⟩ (fun q26 => ?_)
      refine s_ifeq (i := 39) rfl (tgt := 79) (by decide) (fun z75 => ?_) (fun z75 => ?_)
      · refine s_aload_n (i := 41) rfl 1 rfl ?_
        refine s_getR (i := 42) rfl xf_7_15.r rfl (fun v27 => ?_)
        refine s_iload (i := 43) rfl 0 rfl ?_
        refine u_callVv (kk := 2) [tI v24] v27 [] rfl (i := 44) rfl (c_X2_note q26.2 v27 v24) xm_X2_note (tw701) rfl (Nat.le_of_ble_eq_true rfl) (xRm.in (show 2 + 1 ≤ 5 + (d + 1) by omega) (show 8 + (2 + 11) + 81 ≤ 161 + (d + 1) * 31 by omega)) ⟨rfl, rfl⟩ (fun q28 => ?_)
        refine s_aload_n (i := 45) rfl 1 rfl ?_
        refine s_getR (i := 46) rfl xf_7_9.r rfl (fun v29 => ?_)
        refine s_getI (i := 47) rfl xf_7_50.r rfl (fun v30 => ?_)
        refine s_istore (i := 48) rfl (Nat.le_of_ble_eq_true rfl) (ls2 := [(5, tI v30), (4, tI v24), (0, tA a0), (1, tI a1), (2, tI a2), (3, tI a3)]) rfl ?_
        refine s_aload_n (i := 49) rfl 2 rfl ?_
        refine s_getR (i := 50) rfl xf_7_9.r rfl (fun v31 => ?_)
        refine s_getI (i := 51) rfl xf_7_61.r rfl (fun v32 => ?_)
        refine s_istore (i := 52) rfl (Nat.le_of_ble_eq_true rfl) (ls2 := [(6, tI v32), (5, tI v30), (4, tI v24), (0, tA a0), (1, tI a1), (2, tI a2), (3, tI a3)]) rfl ?_
        refine s_aload_n (i := 53) rfl 3 rfl ?_
        refine s_getR (i := 54) rfl xf_7_9.r rfl (fun v33 => ?_)
        refine s_getI (i := 55) rfl xf_7_41.r rfl (fun v34 => ?_)
        refine s_istore (i := 56) rfl (Nat.le_of_ble_eq_true rfl) (ls2 := [(7, tI v34), (6, tI v32), (5, tI v30), (4, tI v24), (0, tA a0), (1, tI a1), (2, tI a2), (3, tI a3)]) rfl ?_
        refine s_aload_n (i := 57) rfl 4 rfl ?_
        refine s_getR (i := 58) rfl xf_7_9.r rfl (fun v35 => ?_)
        refine s_getI (i := 59) rfl xf_7_47.r rfl (fun v36 => ?_)
        refine s_istore (i := 60) rfl (Nat.le_of_ble_eq_true rfl) (ls2 := [(8, tI v36), (7, tI v34), (6, tI v32), (5, tI v30), (4, tI v24), (0, tA a0), (1, tI a1), (2, tI a2), (3, tI a3)]) rfl ?_
        refine s_aload_n (i := 61) rfl 5 rfl ?_
        refine s_getR (i := 62) rfl xf_7_9.r rfl (fun v37 => ?_)
        refine s_aload_n (i := 63) rfl 5 rfl ?_
        refine s_getI (i := 64) rfl xf_7_30.r rfl (fun v38 => ?_)
        refine u_callVi (kk := 1) [tI v38] v37 [] rfl (i := 65) rfl (c_X1_movable q28 v37 v38) xm_X1_movable (tw705) rfl (Nat.le_of_ble_eq_true rfl) (xRm.in (show 2 + 1 ≤ 5 + (d + 1) by omega) (show 8 + (4 + 11) + 81 ≤ 161 + (d + 1) * 31 by omega)) ⟨rfl, rfl⟩ (fun q39 => ?_)
        refine s_istore (i := 66) rfl (Nat.le_of_ble_eq_true rfl) (ls2 := [(9, tI q39.1), (8, tI v36), (7, tI v34), (6, tI v32), (5, tI v30), (4, tI v24), (0, tA a0), (1, tI a1), (2, tI a2), (3, tI a3)]) rfl ?_
        refine s_iconst (i := 67) rfl (v := (0 : Int32)) (by decide) ?_
        refine s_istore (i := 68) rfl (Nat.le_of_ble_eq_true rfl) (ls2 := [(10, tI ((0 : Int32))), (9, tI q39.1), (8, tI v36), (7, tI v34), (6, tI v32), (5, tI v30), (4, tI v24), (0, tA a0), (1, tI a1), (2, tI a2), (3, tI a3)]) rfl ?_
        exact s_sub [7, 8, 9, 10, 5, 4, 3, 2, 1, 0] rfl (b_X7_goOn_140 X d r_X7_goOn hr_X7_goOn FU q39.2 a0 a1 a2 a3 v30 v32 v34 v36 q39.1 ((0 : Int32)))
      · exact s_sub [] rfl (b_X7_goOn_78 X d r_X7_goOn hr_X7_goOn q26.2)
    · exact s_sub [] rfl (b_X7_goOn_78 X d r_X7_goOn hr_X7_goOn h)
theorem cg_X7_goOn : ∀ d : Nat, (∀ (h : XM) (a0 : Option Nat) (a1 : Int32) (a2 : Int32) (a3 : Int32), MC (I_X7_goOn d) y_X7_goOn [tA a0, tI a1, tI a2, tI a3] h ρv (f_X7_goOn d h a0 a1 a2 a3)) := by
  intro d
  induction d with
  | zero => exact fun _ _ _ _ _ => MC_none
  | succ d ih => exact fun h a0 a1 a2 a3 => ce_X7_goOn d (f_X7_goOn d) ih h a0 a1 a2 a3
theorem c_X7_goOn (d : Nat) (h : XM) (a0 : Option Nat) (a1 : Int32) (a2 : Int32) (a3 : Int32) : MC (I_X7_goOn d) y_X7_goOn [tA a0, tI a1, tI a2, tI a3] h ρv (f_X7_goOn d h a0 a1 a2 a3) := (cg_X7_goOn d) h a0 a1 a2 a3
def y_X7_cheapest : MethodName := ⟨"OpensAtNine$Ways", "cheapest", "(LOpensAtNine$Gate;I)I"⟩
def T_X7_cheapest : List (Nat × Instr × Nat × Nat) := [(0, .aload_n 0, 1, 1), (1, .getfield 9, 3, 4), (4, .aload_n 1, 1, 5), (5, .invokevirtual 19, 3, 8), (8, .aload_n 0, 1, 9), (9, .getfield 15, 3, 12), (12, .invokevirtual 25, 3, 15), (15, .aload_n 0, 1, 16), (16, .iload_n 2, 1, 17), (17, .putfield 30, 3, 20), (20, .aload_n 0, 1, 21), (21, .iconst (-1), 1, 22), (22, .putfield 34, 3, 25), (25, .aload_n 0, 1, 26), (26, .iconst 0, 1, 27), (27, .iconst 0, 1, 28), (28, .iconst 0, 1, 29), (29, .invokevirtual 37, 3, 32), (32, .aload_n 0, 1, 33), (33, .getfield 34, 3, 36), (36, .ireturn, 1, 37)]
def I_X7_cheapest : MI := (prog_9_method_2_code, 3, (some .int), "OpensAtNine$Ways", "cheapest", T_X7_cheapest, 0, 0, 18, 564)
theorem dT_X7_cheapest : ∀ q ∈ T_X7_cheapest, decode prog_9_method_2_code q.1 = .ok (q.2.1, q.2.2.1) ∧ q.2.2.2 = q.1 + q.2.2.1 := by decide +kernel
theorem xm_X7_cheapest : xCM y_X7_cheapest I_X7_cheapest 7 2 := ⟨⟨tw674, tw675⟩, tw72, tw676, ⟨xT7, 6, rfl⟩, ⟨by decide +kernel, by decide +kernel, by decide +kernel⟩⟩
noncomputable def f_X7_cheapest (h : XM) (a0 : Option Nat) (a1 : Option Nat) (a2 : Int32) : Option (Int32 × XM) := (gR h 7 a0 0).bind fun v1 => (vc h 1 v1 (f_X1_become h v1 a1)).bind fun q2 => (gR q2 7 a0 1).bind fun v3 => (vc q2 2 v3 (f_X2_forgetAll q2 v3)).bind fun q4 => (pI q4 7 a0 2 a2).bind fun h5 => (pI h5 7 a0 3 ((-1 : Int32))).bind fun h6 => (vc h6 7 a0 (f_X7_goOn 12 h6 a0 ((0 : Int32)) ((0 : Int32)) ((0 : Int32)))).bind fun q7 => (gI q7 7 a0 3).bind fun v8 => some (v8, q7)
theorem c_X7_cheapest (h : XM) (a0 : Option Nat) (a1 : Option Nat) (a2 : Int32) : MC I_X7_cheapest y_X7_cheapest [tA a0, tA a1, tI a2] h ρi (f_X7_cheapest h a0 a1 a2) := by
  refine MC_of ⟨by decide +kernel, rfl, rfl, Nat.le_of_ble_eq_true rfl⟩ dT_X7_cheapest (fun X => ?_)
  show SW X I_X7_cheapest ρi 0 [(0, tA a0), (1, tA a1), (2, tI a2)] [] h 0 0 (f_X7_cheapest h a0 a1 a2)
  unfold f_X7_cheapest
  refine s_aload_n (i := 0) rfl 0 rfl ?_
  refine s_getR (i := 1) rfl xf_7_9.r rfl (fun v1 => ?_)
  refine s_aload_n (i := 2) rfl 1 rfl ?_
  refine u_callVv (kk := 1) [tA a1] v1 [] rfl (i := 3) rfl (c_X1_become h v1 a1) xm_X1_become (tw677) rfl (Nat.le_of_ble_eq_true rfl) (xRm.of rfl) ⟨rfl, rfl⟩ (fun q2 => ?_)
  refine s_aload_n (i := 4) rfl 0 rfl ?_
  refine s_getR (i := 5) rfl xf_7_15.r rfl (fun v3 => ?_)
  refine u_callVv (kk := 2) [] v3 [] rfl (i := 6) rfl (c_X2_forgetAll q2 v3) xm_X2_forgetAll (tw681) rfl (Nat.le_of_ble_eq_true rfl) (xRm.of rfl) ⟨rfl, rfl⟩ (fun q4 => ?_)
  refine s_aload_n (i := 7) rfl 0 rfl ?_
  refine s_iload_n (i := 8) rfl 2 rfl ?_
  refine s_putI (i := 9) rfl xf_7_30 (fun q => by cases q) rfl rfl (fun h5 => ?_)
  refine s_aload_n (i := 10) rfl 0 rfl ?_
  refine s_iconst (i := 11) rfl (v := (-1 : Int32)) (by decide) ?_
  refine s_putI (i := 12) rfl xf_7_34 (fun q => by cases q) rfl rfl (fun h6 => ?_)
  refine s_aload_n (i := 13) rfl 0 rfl ?_
  refine s_iconst (i := 14) rfl (v := (0 : Int32)) (by decide) ?_
  refine s_iconst (i := 15) rfl (v := (0 : Int32)) (by decide) ?_
  refine s_iconst (i := 16) rfl (v := (0 : Int32)) (by decide) ?_
  refine u_callVv (kk := 7) [tI ((0 : Int32)), tI ((0 : Int32)), tI ((0 : Int32))] a0 [] rfl (i := 17) rfl (c_X7_goOn 12 h6 a0 ((0 : Int32)) ((0 : Int32)) ((0 : Int32))) (xm_X7_goOn _) (tw688) rfl (Nat.le_of_ble_eq_true rfl) (xRm.of rfl) ⟨rfl, rfl⟩ (fun q7 => ?_)
  refine s_aload_n (i := 18) rfl 0 rfl ?_
  refine s_getI (i := 19) rfl xf_7_34.r rfl (fun v8 => ?_)
  exact s_iret (i := 20) rfl rfl
def y_X7_addRests : MethodName := ⟨"OpensAtNine$Ways", "addRests", "(III)V"⟩
def T_X7_addRests : List (Nat × Instr × Nat × Nat) := [(0, .aload_n 0, 1, 1), (1, .dup, 1, 2), (2, .getfield 78, 3, 5), (5, .iconst 1, 1, 6), (6, .aload_n 0, 1, 7), (7, .getfield 9, 3, 10), (10, .iload_n 2, 1, 11), (11, .invokevirtual 87, 3, 14), (14, .ishl, 1, 15), (15, .ior, 1, 16), (16, .putfield 78, 3, 19), (19, .iload_n 3, 1, 20), (20, .bipush 14, 2, 22), (22, .ishl, 1, 23), (23, .iload_n 2, 1, 24), (24, .ior, 1, 25), (25, .istore 4, 2, 27), (27, .iload_n 1, 1, 28), (28, .bipush 7, 2, 30), (30, .if_icmp .ge 15, 3, 33), (33, .aload_n 0, 1, 34), (34, .getfield 15, 3, 37), (37, .iload 4, 2, 39), (39, .invokevirtual 53, 3, 42), (42, .ifCond .eq 4, 3, 45), (45, .return_, 1, 46), (46, .aload_n 0, 1, 47), (47, .getfield 15, 3, 50), (50, .iload 4, 2, 52), (52, .invokevirtual 57, 3, 55), (55, .iconst 0, 1, 56), (56, .istore 5, 2, 58), (58, .iload 5, 2, 60), (60, .bipush 7, 2, 62), (62, .if_icmp .ge 69, 3, 65), (65, .iload_n 3, 1, 66), (66, .iload 5, 2, 68), (68, .ishr, 1, 69), (69, .iconst 1, 1, 70), (70, .iand, 1, 71), (71, .ifCond .ne 6, 3, 74), (74, .goto 51, 3, 77), (77, .aload_n 0, 1, 78), (78, .getfield 9, 3, 81), (81, .iload 5, 2, 83), (83, .invokevirtual 90, 3, 86), (86, .astore 6, 2, 88), (88, .aload 6, 2, 90), (90, .ifnonnull 6, 3, 93), (93, .goto 32, 3, 96), (96, .aload_n 0, 1, 97), (97, .iload_n 1, 1, 98), (98, .iconst 1, 1, 99), (99, .iadd, 1, 100), (100, .sipush 9999, 3, 103), (103, .iload_n 2, 1, 104), (104, .aload 6, 2, 106), (106, .iload_n 2, 1, 107), (107, .invokevirtual 94, 3, 110), (110, .iadd, 1, 111), (111, .invokestatic 99, 3, 114), (114, .iload_n 3, 1, 115), (115, .iconst 1, 1, 116), (116, .iload 5, 2, 118), (118, .ishl, 1, 119), (119, .iconst (-1), 1, 120), (120, .ixor, 1, 121), (121, .iand, 1, 122), (122, .invokevirtual 84, 3, 125), (125, .iinc 5 1, 3, 128), (128, .goto (-70), 3, 131), (131, .return_, 1, 132)]
def I_X7_addRests (d : Nat) : MI := (prog_9_method_5_code, 7, none, "OpensAtNine$Ways", "addRests", T_X7_addRests, 0, 0, 4 + d, 122 + d * 26)
theorem dT_X7_addRests : ∀ q ∈ T_X7_addRests, decode prog_9_method_5_code q.1 = .ok (q.2.1, q.2.2.1) ∧ q.2.2.2 = q.1 + q.2.2.1 := by decide +kernel
theorem xm_X7_addRests (d : Nat) : xCM y_X7_addRests (I_X7_addRests d) 7 3 := ⟨⟨tw746, tw18⟩, tw72, tw747, ⟨xT7, 6, rfl⟩, ⟨by decide +kernel, by decide +kernel, by decide +kernel⟩⟩
noncomputable def f_X7_addRests_45 (r_X7_addRests : XM → Option Nat → Int32 → Int32 → Int32 → Option (XM)) (h : XM) : Option (XM) := some h
noncomputable def f_X7_addRests_125 (r_X7_addRests : XM → Option Nat → Int32 → Int32 → Int32 → Option (XM)) (k_58 : XM → Option Nat → Int32 → Int32 → Int32 → Int32 → Option (XM)) (h : XM) (l0 : Option Nat) (l1 : Int32) (l2 : Int32) (l3 : Int32) (l5 : Int32) : Option (XM) := bnd (l5 + (1 : Int32)) fun v1 => k_58 h l0 l1 l2 l3 v1
noncomputable def fb_X7_addRests_58 (r_X7_addRests : XM → Option Nat → Int32 → Int32 → Int32 → Option (XM)) (k_58 : XM → Option Nat → Int32 → Int32 → Int32 → Int32 → Option (XM)) (h : XM) (l0 : Option Nat) (l1 : Int32) (l2 : Int32) (l3 : Int32) (l5 : Int32) : Option (XM) := if l5 < ((7 : Int32)) then (if ((l3 >>> (l5 &&& 31)) &&& ((1 : Int32))) = 0 then (f_X7_addRests_125 r_X7_addRests k_58 h l0 l1 l2 l3 l5) else ((gR h 7 l0 0).bind fun v2 => (vc h 1 v2 (f_X1_coinAt h v2 l5)).bind fun q3 => if q3.1 = none then (f_X7_addRests_125 r_X7_addRests k_58 q3.2 l0 l1 l2 l3 l5) else ((vc q3.2 0 q3.1 (f_X0_countsBy q3.2 q3.1 l2)).bind fun q4 => bnd (if (l2 + q4.1) < ((9999 : Int32)) then (l2 + q4.1) else ((9999 : Int32))) fun v5 => (vc q4.2 7 l0 (r_X7_addRests q4.2 l0 (l1 + ((1 : Int32))) v5 (l3 &&& ((((1 : Int32)) <<< (l5 &&& 31)) ^^^ ((-1 : Int32)))))).bind fun q6 => f_X7_addRests_125 r_X7_addRests k_58 q6 l0 l1 l2 l3 l5))) else (some h)
noncomputable def f_X7_addRests_58 (r_X7_addRests : XM → Option Nat → Int32 → Int32 → Int32 → Option (XM)) (n : Nat) : XM → Option Nat → Int32 → Int32 → Int32 → Int32 → Option (XM) := Nat.rec (motive := fun _ => XM → Option Nat → Int32 → Int32 → Int32 → Int32 → Option (XM)) (fun _ _ _ _ _ _ => none) (fun _ ih h l0 l1 l2 l3 l5 => fb_X7_addRests_58 r_X7_addRests ih h l0 l1 l2 l3 l5) n
noncomputable def fe_X7_addRests (r_X7_addRests : XM → Option Nat → Int32 → Int32 → Int32 → Option (XM)) (h : XM) (a0 : Option Nat) (a1 : Int32) (a2 : Int32) (a3 : Int32) : Option (XM) := (gI h 7 a0 4).bind fun v7 => (gR h 7 a0 0).bind fun v8 => (vc h 1 v8 (f_X1_restOf h v8 a2)).bind fun q9 => (pI q9.2 7 a0 4 (v7 ||| (((1 : Int32)) <<< (q9.1 &&& 31)))).bind fun h10 => bnd ((a3 <<< (((14 : Int32)) &&& 31)) ||| a2) fun v11 => if a1 < ((7 : Int32)) then ((gR h10 7 a0 1).bind fun v12 => (vc h10 2 v12 (f_X2_knows h10 v12 v11)).bind fun q13 => if q13.1 = 0 then ((gR q13.2 7 a0 1).bind fun v14 => (vc q13.2 2 v14 (f_X2_note q13.2 v14 v11)).bind fun q15 => f_X7_addRests_58 r_X7_addRests FU q15 a0 a1 a2 a3 ((0 : Int32))) else (f_X7_addRests_45 r_X7_addRests q13.2)) else (f_X7_addRests_45 r_X7_addRests h10)
noncomputable def g_X7_addRests (d : Nat) : (XM → Option Nat → Int32 → Int32 → Int32 → Option (XM)) := Nat.rec (motive := fun _ => (XM → Option Nat → Int32 → Int32 → Int32 → Option (XM))) ((fun _ _ _ _ _ => none)) (fun _ g => ((fun h a0 a1 a2 a3 => fe_X7_addRests g h a0 a1 a2 a3))) d
noncomputable def f_X7_addRests (d : Nat) : XM → Option Nat → Int32 → Int32 → Int32 → Option (XM) := (g_X7_addRests d)
theorem b_X7_addRests_45 (X : XX) (d : Nat) (r_X7_addRests : XM → Option Nat → Int32 → Int32 → Int32 → Option (XM)) (hr_X7_addRests : ∀ h a0 a1 a2 a3, MC (I_X7_addRests d) y_X7_addRests [tA a0, tI a1, tI a2, tI a3] h ρv (r_X7_addRests h a0 a1 a2 a3)) (h : XM) : SW X (I_X7_addRests (d + 1)) ρv 45 [] [] h 0 0 (f_X7_addRests_45 r_X7_addRests h) := by
  unfold f_X7_addRests_45
  exact s_vret (i := 25) rfl rfl
theorem b_X7_addRests_125 (X : XX) (d : Nat) (r_X7_addRests : XM → Option Nat → Int32 → Int32 → Int32 → Option (XM)) (hr_X7_addRests : ∀ h a0 a1 a2 a3, MC (I_X7_addRests d) y_X7_addRests [tA a0, tI a1, tI a2, tI a3] h ρv (r_X7_addRests h a0 a1 a2 a3)) (k_58 : XM → Option Nat → Int32 → Int32 → Int32 → Int32 → Option (XM)) (hk_58 : ∀ h l0 l1 l2 l3 l5, SW X (I_X7_addRests (d + 1)) ρv 58 [(0, tA l0), (1, tI l1), (2, tI l2), (3, tI l3), (5, tI l5)] [] h 0 0 (k_58 h l0 l1 l2 l3 l5)) (h : XM) (l0 : Option Nat) (l1 : Int32) (l2 : Int32) (l3 : Int32) (l5 : Int32) : SW X (I_X7_addRests (d + 1)) ρv 125 [(0, tA l0), (1, tI l1), (2, tI l2), (3, tI l3), (5, tI l5)] [] h 0 0 (f_X7_addRests_125 r_X7_addRests k_58 h l0 l1 l2 l3 l5) := by
  unfold f_X7_addRests_125
  refine s_inc (i := 69) rfl 4 rfl (c9 := (1 : Int32)) (by decide) (Nat.le_of_ble_eq_true rfl) (fun v1 => ?_)
  refine s_ls (ls2 := [(5, tI v1), (0, tA l0), (1, tI l1), (2, tI l2), (3, tI l3)]) rfl ?_
  refine s_goto (i := 70) rfl (tgt := 58) (by decide) ?_
  exact s_sub [1, 2, 3, 4, 0] rfl (hk_58 h l0 l1 l2 l3 v1)
theorem bb_X7_addRests_58 (X : XX) (d : Nat) (r_X7_addRests : XM → Option Nat → Int32 → Int32 → Int32 → Option (XM)) (hr_X7_addRests : ∀ h a0 a1 a2 a3, MC (I_X7_addRests d) y_X7_addRests [tA a0, tI a1, tI a2, tI a3] h ρv (r_X7_addRests h a0 a1 a2 a3)) (k_58 : XM → Option Nat → Int32 → Int32 → Int32 → Int32 → Option (XM)) (hk_58 : ∀ h l0 l1 l2 l3 l5, SW X (I_X7_addRests (d + 1)) ρv 58 [(0, tA l0), (1, tI l1), (2, tI l2), (3, tI l3), (5, tI l5)] [] h 0 0 (k_58 h l0 l1 l2 l3 l5)) (h : XM) (l0 : Option Nat) (l1 : Int32) (l2 : Int32) (l3 : Int32) (l5 : Int32) : SW X (I_X7_addRests (d + 1)) ρv 58 [(0, tA l0), (1, tI l1), (2, tI l2), (3, tI l3), (5, tI l5)] [] h 0 0 (fb_X7_addRests_58 r_X7_addRests k_58 h l0 l1 l2 l3 l5) := by
  unfold fb_X7_addRests_58
  refine s_iload (i := 32) rfl 4 rfl ?_
  refine s_bipush (i := 33) rfl (v := (7 : Int32)) (by decide) ?_
  refine s_icmpge (i := 34) rfl (tgt := 131) (by decide) (fun z62 => ?_) (fun z62 => ?_)
  · refine s_iload_n (i := 35) rfl 3 rfl ?_
    refine s_iload (i := 36) rfl 4 rfl ?_
    refine s_ishr (i := 37) rfl ?_
    refine s_iconst (i := 38) rfl (v := (1 : Int32)) (by decide) ?_
    refine s_iand (i := 39) rfl ?_
    refine s_ifne (i := 40) rfl (tgt := 77) (by decide) (fun z71 => ?_) (fun z71 => ?_)
    · refine s_goto (i := 41) rfl (tgt := 125) (by decide) ?_
      exact s_sub [0, 1, 2, 3, 4] rfl (b_X7_addRests_125 X d r_X7_addRests hr_X7_addRests k_58 hk_58 h l0 l1 l2 l3 l5)
    · refine s_aload_n (i := 42) rfl 0 rfl ?_
      refine s_getR (i := 43) rfl xf_7_9.r rfl (fun v2 => ?_)
      refine s_iload (i := 44) rfl 4 rfl ?_
      refine u_callVa (kk := 1) [tI l5] v2 [] rfl (i := 45) rfl (c_X1_coinAt h v2 l5) xm_X1_coinAt (tw749) rfl (Nat.le_of_ble_eq_true rfl) (xRm.in (show 1 + 1 ≤ 4 + (d + 1) by omega) (show 8 + (2 + 11) + 60 ≤ 122 + (d + 1) * 26 by omega)) ⟨rfl, rfl⟩ (fun q3 => ?_)
      refine s_astore (i := 46) rfl (Nat.le_of_ble_eq_true rfl) (ls2 := [(6, tA q3.1), (0, tA l0), (1, tI l1), (2, tI l2), (3, tI l3), (5, tI l5)]) rfl ?_
      refine s_aload (i := 47) rfl 0 rfl ?_
      refine s_ifnonnull (i := 48) rfl (tgt := 96) (by decide) (fun z90 => ?_) (fun z90 => ?_)
      · refine s_goto (i := 49) rfl (tgt := 125) (by decide) ?_
        exact s_sub [1, 2, 3, 4, 5] rfl (b_X7_addRests_125 X d r_X7_addRests hr_X7_addRests k_58 hk_58 q3.2 l0 l1 l2 l3 l5)
      · refine s_aload_n (i := 50) rfl 1 rfl ?_
        refine s_iload_n (i := 51) rfl 2 rfl ?_
        refine s_iconst (i := 52) rfl (v := (1 : Int32)) (by decide) ?_
        refine s_iadd (i := 53) rfl ?_
        refine s_sipush (i := 54) rfl (v := (9999 : Int32)) (by decide) ?_
        refine s_iload_n (i := 55) rfl 3 rfl ?_
        refine s_aload (i := 56) rfl 0 rfl ?_
        refine s_iload_n (i := 57) rfl 3 rfl ?_
        refine u_callVi (kk := 0) [tI l2] q3.1 [tI l2, tI ((9999 : Int32)), tI (l1 + ((1 : Int32))), tA l0] rfl (i := 58) rfl (c_X0_countsBy q3.2 q3.1 l2) xm_X0_countsBy (tw750) rfl (Nat.le_of_ble_eq_true rfl) (xRm.in (show 3 + 1 ≤ 4 + (d + 1) by omega) (show 8 + (2 + 11) + 101 ≤ 122 + (d + 1) * 26 by omega)) ⟨rfl, rfl⟩ (fun q4 => ?_)
        refine s_iadd (i := 59) rfl ?_
        refine s_mmin (i := 60) rfl ⟨tw751, tw446, tw82, tw447⟩ (Nat.le_of_ble_eq_true rfl) ⟨show 1 ≤ 4 + (d + 1) by omega, show 40 ≤ 122 + (d + 1) * 26 by omega⟩ ?_
        refine s_bnd (fun v5 => ?_)
        refine s_iload_n (i := 61) rfl 4 rfl ?_
        refine s_iconst (i := 62) rfl (v := (1 : Int32)) (by decide) ?_
        refine s_iload (i := 63) rfl 5 rfl ?_
        refine s_ishl (i := 64) rfl ?_
        refine s_iconst (i := 65) rfl (v := (-1 : Int32)) (by decide) ?_
        refine s_ixor (i := 66) rfl ?_
        refine s_iand (i := 67) rfl ?_
        refine u_callVv (kk := 7) [tI (l1 + ((1 : Int32))), tI v5, tI (l3 &&& ((((1 : Int32)) <<< (l5 &&& 31)) ^^^ ((-1 : Int32))))] l0 [] rfl (i := 68) rfl (hr_X7_addRests q4.2 l0 (l1 + ((1 : Int32))) v5 (l3 &&& ((((1 : Int32)) <<< (l5 &&& 31)) ^^^ ((-1 : Int32))))) (xm_X7_addRests _) (tw744) rfl (Nat.le_of_ble_eq_true rfl) (xRm.in (show 4 + d + 1 ≤ 4 + (d + 1) by omega) (show 8 + (7 + 11) + (122 + d * 26) ≤ 122 + (d + 1) * 26 by rw [Nat.succ_mul]; omega)) ⟨rfl, rfl⟩ (fun q6 => ?_)
        exact s_sub [1, 2, 3, 4, 5] rfl (b_X7_addRests_125 X d r_X7_addRests hr_X7_addRests k_58 hk_58 q6 l0 l1 l2 l3 l5)
  · exact s_vret (i := 71) rfl rfl
theorem b_X7_addRests_58 (X : XX) (d : Nat) (r_X7_addRests : XM → Option Nat → Int32 → Int32 → Int32 → Option (XM)) (hr_X7_addRests : ∀ h a0 a1 a2 a3, MC (I_X7_addRests d) y_X7_addRests [tA a0, tI a1, tI a2, tI a3] h ρv (r_X7_addRests h a0 a1 a2 a3)) : ∀ (n : Nat) (h : XM) (l0 : Option Nat) (l1 : Int32) (l2 : Int32) (l3 : Int32) (l5 : Int32), SW X (I_X7_addRests (d + 1)) ρv 58 [(0, tA l0), (1, tI l1), (2, tI l2), (3, tI l3), (5, tI l5)] [] h 0 0 (f_X7_addRests_58 r_X7_addRests n h l0 l1 l2 l3 l5) := by
  intro n
  induction n with
  | zero =>
    intro h l0 l1 l2 l3 l5
    exact s_none
  | succ n ih =>
    intro h l0 l1 l2 l3 l5
    exact bb_X7_addRests_58 X d r_X7_addRests hr_X7_addRests (f_X7_addRests_58 r_X7_addRests n) ih h l0 l1 l2 l3 l5
theorem ce_X7_addRests (d : Nat) (r_X7_addRests : XM → Option Nat → Int32 → Int32 → Int32 → Option (XM)) (hr_X7_addRests : ∀ h a0 a1 a2 a3, MC (I_X7_addRests d) y_X7_addRests [tA a0, tI a1, tI a2, tI a3] h ρv (r_X7_addRests h a0 a1 a2 a3)) (h : XM) (a0 : Option Nat) (a1 : Int32) (a2 : Int32) (a3 : Int32) : MC (I_X7_addRests (d + 1)) y_X7_addRests [tA a0, tI a1, tI a2, tI a3] h ρv (fe_X7_addRests r_X7_addRests h a0 a1 a2 a3) := by
  refine MC_of ⟨by decide +kernel, rfl, rfl, Nat.le_of_ble_eq_true rfl⟩ dT_X7_addRests (fun X => ?_)
  show SW X (I_X7_addRests (d + 1)) ρv 0 [(0, tA a0), (1, tI a1), (2, tI a2), (3, tI a3)] [] h 0 0 (fe_X7_addRests r_X7_addRests h a0 a1 a2 a3)
  unfold fe_X7_addRests
  refine s_aload_n (i := 0) rfl 0 rfl ?_
  refine s_dup (i := 1) rfl rfl ?_
  refine s_getI (i := 2) rfl xf_7_78.r rfl (fun v7 => ?_)
  refine s_iconst (i := 3) rfl (v := (1 : Int32)) (by decide) ?_
  refine s_aload_n (i := 4) rfl 0 rfl ?_
  refine s_getR (i := 5) rfl xf_7_9.r rfl (fun v8 => ?_)
  refine s_iload_n (i := 6) rfl 2 rfl ?_
  refine u_callVi (kk := 1) [tI a2] v8 [tI ((1 : Int32)), tI v7, tA a0] rfl (i := 7) rfl (c_X1_restOf h v8 a2) xm_X1_restOf (tw748) rfl (Nat.le_of_ble_eq_true rfl) (xRm.in (show 1 + 1 ≤ 4 + (d + 1) by omega) (show 8 + (2 + 11) + 60 ≤ 122 + (d + 1) * 26 by omega)) ⟨rfl, rfl⟩ (fun q9 => ?_)
  refine s_ishl (i := 8) rfl ?_
  refine s_ior (i := 9) rfl ?_
  refine s_putI (i := 10) rfl xf_7_78 (fun q => by cases q) rfl rfl (fun h10 => ?_)
  refine s_iload_n (i := 11) rfl 3 rfl ?_
  refine s_bipush (i := 12) rfl (v := (14 : Int32)) (by decide) ?_
  refine s_ishl (i := 13) rfl ?_
  refine s_iload_n (i := 14) rfl 2 rfl ?_
  refine s_ior (i := 15) rfl ?_
  refine s_bnd (fun v11 => ?_)
  refine s_istore (i := 16) rfl (Nat.le_of_ble_eq_true rfl) (ls2 := [(4, tI v11), (0, tA a0), (1, tI a1), (2, tI a2), (3, tI a3)]) rfl ?_
  refine s_iload_n (i := 17) rfl 2 rfl ?_
  refine s_bipush (i := 18) rfl (v := (7 : Int32)) (by decide) ?_
  refine s_icmpge (i := 19) rfl (tgt := 45) (by decide) (fun z30 => ?_) (fun z30 => ?_)
  · refine s_aload_n (i := 20) rfl 1 rfl ?_
    refine s_getR (i := 21) rfl xf_7_15.r rfl (fun v12 => ?_)
    refine s_iload (i := 22) rfl 0 rfl ?_
    refine u_callVi (kk := 2) [tI v11] v12 [] rfl (i := 23) rfl (c_X2_knows h10 v12 v11) xm_X2_knows (tw692) rfl (Nat.le_of_ble_eq_true rfl) (xRm.in (show 2 + 1 ≤ 4 + (d + 1) by omega) (show 8 + (2 + 11) + 81 ≤ 122 + (d + 1) * 26 by omega)) ⟨rfl, rfl⟩ (fun q13 => ?_)
    refine s_ifeq (i := 24) rfl (tgt := 46) (by decide) (fun z42 => ?_) (fun z42 => ?_)
    · refine s_aload_n (i := 26) rfl 1 rfl ?_
      refine s_getR (i := 27) rfl xf_7_15.r rfl (fun v14 => ?_)
      refine s_iload (i := 28) rfl 0 rfl ?_
      refine u_callVv (kk := 2) [tI v11] v14 [] rfl (i := 29) rfl (c_X2_note q13.2 v14 v11) xm_X2_note (tw701) rfl (Nat.le_of_ble_eq_true rfl) (xRm.in (show 2 + 1 ≤ 4 + (d + 1) by omega) (show 8 + (2 + 11) + 81 ≤ 122 + (d + 1) * 26 by omega)) ⟨rfl, rfl⟩ (fun q15 => ?_)
      refine s_iconst (i := 30) rfl (v := (0 : Int32)) (by decide) ?_
      refine s_istore (i := 31) rfl (Nat.le_of_ble_eq_true rfl) (ls2 := [(5, tI ((0 : Int32))), (4, tI v11), (0, tA a0), (1, tI a1), (2, tI a2), (3, tI a3)]) rfl ?_
      exact s_sub [2, 3, 4, 5, 0] rfl (b_X7_addRests_58 X d r_X7_addRests hr_X7_addRests FU q15 a0 a1 a2 a3 ((0 : Int32)))
    · exact s_sub [] rfl (b_X7_addRests_45 X d r_X7_addRests hr_X7_addRests q13.2)
  · exact s_sub [] rfl (b_X7_addRests_45 X d r_X7_addRests hr_X7_addRests h10)
theorem cg_X7_addRests : ∀ d : Nat, (∀ (h : XM) (a0 : Option Nat) (a1 : Int32) (a2 : Int32) (a3 : Int32), MC (I_X7_addRests d) y_X7_addRests [tA a0, tI a1, tI a2, tI a3] h ρv (f_X7_addRests d h a0 a1 a2 a3)) := by
  intro d
  induction d with
  | zero => exact fun _ _ _ _ _ => MC_none
  | succ d ih => exact fun h a0 a1 a2 a3 => ce_X7_addRests d (f_X7_addRests d) ih h a0 a1 a2 a3
theorem c_X7_addRests (d : Nat) (h : XM) (a0 : Option Nat) (a1 : Int32) (a2 : Int32) (a3 : Int32) : MC (I_X7_addRests d) y_X7_addRests [tA a0, tI a1, tI a2, tI a3] h ρv (f_X7_addRests d h a0 a1 a2 a3) := (cg_X7_addRests d) h a0 a1 a2 a3
def y_X7_restsBy : MethodName := ⟨"OpensAtNine$Ways", "restsBy", "(LOpensAtNine$Gate;I)I"⟩
def T_X7_restsBy : List (Nat × Instr × Nat × Nat) := [(0, .aload_n 0, 1, 1), (1, .getfield 9, 3, 4), (4, .aload_n 1, 1, 5), (5, .invokevirtual 19, 3, 8), (8, .aload_n 0, 1, 9), (9, .getfield 15, 3, 12), (12, .invokevirtual 25, 3, 15), (15, .aload_n 0, 1, 16), (16, .iconst 0, 1, 17), (17, .putfield 78, 3, 20), (20, .aload_n 0, 1, 21), (21, .iconst 0, 1, 22), (22, .aload_n 0, 1, 23), (23, .getfield 9, 3, 26), (26, .getfield 50, 3, 29), (29, .aload_n 0, 1, 30), (30, .getfield 9, 3, 33), (33, .iload_n 2, 1, 34), (34, .invokevirtual 81, 3, 37), (37, .invokevirtual 84, 3, 40), (40, .aload_n 0, 1, 41), (41, .getfield 78, 3, 44), (44, .ireturn, 1, 45)]
def I_X7_restsBy : MI := (prog_9_method_4_code, 3, (some .int), "OpensAtNine$Ways", "restsBy", T_X7_restsBy, 0, 0, 17, 460)
theorem dT_X7_restsBy : ∀ q ∈ T_X7_restsBy, decode prog_9_method_4_code q.1 = .ok (q.2.1, q.2.2.1) ∧ q.2.2.2 = q.1 + q.2.2.1 := by decide +kernel
theorem xm_X7_restsBy : xCM y_X7_restsBy I_X7_restsBy 7 2 := ⟨⟨tw740, tw741⟩, tw72, tw742, ⟨xT7, 6, rfl⟩, ⟨by decide +kernel, by decide +kernel, by decide +kernel⟩⟩
noncomputable def f_X7_restsBy (h : XM) (a0 : Option Nat) (a1 : Option Nat) (a2 : Int32) : Option (Int32 × XM) := (gR h 7 a0 0).bind fun v1 => (vc h 1 v1 (f_X1_become h v1 a1)).bind fun q2 => (gR q2 7 a0 1).bind fun v3 => (vc q2 2 v3 (f_X2_forgetAll q2 v3)).bind fun q4 => (pI q4 7 a0 4 ((0 : Int32))).bind fun h5 => (gR h5 7 a0 0).bind fun v6 => (gI h5 1 v6 5).bind fun v7 => (gR h5 7 a0 0).bind fun v8 => (vc h5 1 v8 (f_X1_leftOf h5 v8 a2)).bind fun q9 => (vc q9.2 7 a0 (f_X7_addRests 12 q9.2 a0 ((0 : Int32)) v7 q9.1)).bind fun q10 => (gI q10 7 a0 4).bind fun v11 => some (v11, q10)
theorem c_X7_restsBy (h : XM) (a0 : Option Nat) (a1 : Option Nat) (a2 : Int32) : MC I_X7_restsBy y_X7_restsBy [tA a0, tA a1, tI a2] h ρi (f_X7_restsBy h a0 a1 a2) := by
  refine MC_of ⟨by decide +kernel, rfl, rfl, Nat.le_of_ble_eq_true rfl⟩ dT_X7_restsBy (fun X => ?_)
  show SW X I_X7_restsBy ρi 0 [(0, tA a0), (1, tA a1), (2, tI a2)] [] h 0 0 (f_X7_restsBy h a0 a1 a2)
  unfold f_X7_restsBy
  refine s_aload_n (i := 0) rfl 0 rfl ?_
  refine s_getR (i := 1) rfl xf_7_9.r rfl (fun v1 => ?_)
  refine s_aload_n (i := 2) rfl 1 rfl ?_
  refine u_callVv (kk := 1) [tA a1] v1 [] rfl (i := 3) rfl (c_X1_become h v1 a1) xm_X1_become (tw677) rfl (Nat.le_of_ble_eq_true rfl) (xRm.of rfl) ⟨rfl, rfl⟩ (fun q2 => ?_)
  refine s_aload_n (i := 4) rfl 0 rfl ?_
  refine s_getR (i := 5) rfl xf_7_15.r rfl (fun v3 => ?_)
  refine u_callVv (kk := 2) [] v3 [] rfl (i := 6) rfl (c_X2_forgetAll q2 v3) xm_X2_forgetAll (tw681) rfl (Nat.le_of_ble_eq_true rfl) (xRm.of rfl) ⟨rfl, rfl⟩ (fun q4 => ?_)
  refine s_aload_n (i := 7) rfl 0 rfl ?_
  refine s_iconst (i := 8) rfl (v := (0 : Int32)) (by decide) ?_
  refine s_putI (i := 9) rfl xf_7_78 (fun q => by cases q) rfl rfl (fun h5 => ?_)
  refine s_aload_n (i := 10) rfl 0 rfl ?_
  refine s_iconst (i := 11) rfl (v := (0 : Int32)) (by decide) ?_
  refine s_aload_n (i := 12) rfl 0 rfl ?_
  refine s_getR (i := 13) rfl xf_7_9.r rfl (fun v6 => ?_)
  refine s_getI (i := 14) rfl xf_7_50.r rfl (fun v7 => ?_)
  refine s_aload_n (i := 15) rfl 0 rfl ?_
  refine s_getR (i := 16) rfl xf_7_9.r rfl (fun v8 => ?_)
  refine s_iload_n (i := 17) rfl 2 rfl ?_
  refine u_callVi (kk := 1) [tI a2] v8 [tI v7, tI ((0 : Int32)), tA a0] rfl (i := 18) rfl (c_X1_leftOf h5 v8 a2) xm_X1_leftOf (tw743) rfl (Nat.le_of_ble_eq_true rfl) (xRm.of rfl) ⟨rfl, rfl⟩ (fun q9 => ?_)
  refine u_callVv (kk := 7) [tI ((0 : Int32)), tI v7, tI q9.1] a0 [] rfl (i := 19) rfl (c_X7_addRests 12 q9.2 a0 ((0 : Int32)) v7 q9.1) (xm_X7_addRests _) (tw744) rfl (Nat.le_of_ble_eq_true rfl) (xRm.of rfl) ⟨rfl, rfl⟩ (fun q10 => ?_)
  refine s_aload_n (i := 20) rfl 0 rfl ?_
  refine s_getI (i := 21) rfl xf_7_78.r rfl (fun v11 => ?_)
  exact s_iret (i := 22) rfl rfl
