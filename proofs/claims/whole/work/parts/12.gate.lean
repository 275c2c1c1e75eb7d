/-! 12.gate: the methods as functions, and that the bytecode does so (written by wip/whole/gen/gen_parts.py) -/
def y_X1_init : MethodName := ⟨"OpensAtNine$Gate", "<init>", "([LOpensAtNine$Coin;[LOpensAtNine$Text;)V"⟩
def T_X1_init : List (Nat × Instr × Nat × Nat) := [(0, .aload_n 0, 1, 1), (1, .invokespecial 3, 3, 4), (4, .aload_n 0, 1, 5), (5, .iconst 4, 1, 6), (6, .newarray .int, 2, 8), (8, .putfield 9, 3, 11), (11, .aload_n 0, 1, 12), (12, .bipush 6, 2, 14), (14, .newarray .int, 2, 16), (16, .putfield 15, 3, 19), (19, .aload_n 0, 1, 20), (20, .bipush 9, 2, 22), (22, .putfield 18, 3, 25), (25, .aload_n 0, 1, 26), (26, .aload_n 1, 1, 27), (27, .putfield 22, 3, 30), (30, .aload_n 0, 1, 31), (31, .aload_n 2, 1, 32), (32, .putfield 26, 3, 35), (35, .return_, 1, 36)]
def I_X1_init : MI := (prog_3_method_1_code, 3, none, "OpensAtNine$Gate", "<init>", T_X1_init, 2, 10, 1, 60)
theorem dT_X1_init : ∀ q ∈ T_X1_init, decode prog_3_method_1_code q.1 = .ok (q.2.1, q.2.2.1) ∧ q.2.2.2 = q.1 + q.2.2.1 := by decide +kernel
theorem xm_X1_init : xCI y_X1_init I_X1_init 2 := ⟨⟨rfl, rfl⟩, tw102, tw70, tw103, ⟨by decide +kernel, by decide +kernel, by decide +kernel⟩⟩
noncomputable def f_X1_init (h : XM) (a0 : Option Nat) (a1 : Option Nat) (a2 : Option Nat) : Option (XM) := (a0).bind fun _ => (nA h 10 4 ((4 : Int32))).bind fun h1 => (pR h1 1 a0 2 (some (xc h))).bind fun h2 => (nA h2 10 6 ((6 : Int32))).bind fun h3 => (pR h3 1 a0 3 (some (xc h2))).bind fun h4 => (pI h4 1 a0 4 ((9 : Int32))).bind fun h5 => (pR h5 1 a0 0 a1).bind fun h6 => (pR h6 1 a0 1 a2).bind fun h7 => some h7
theorem c_X1_init (h : XM) (a0 : Option Nat) (a1 : Option Nat) (a2 : Option Nat) : MC I_X1_init y_X1_init [tA a0, tA a1, tA a2] h ρv (f_X1_init h a0 a1 a2) := by
  refine MC_of ⟨by decide +kernel, rfl, rfl, Nat.le_of_ble_eq_true rfl⟩ dT_X1_init (fun X => ?_)
  show SW X I_X1_init ρv 0 [(0, tA a0), (1, tA a1), (2, tA a2)] [] h 2 10 (f_X1_init h a0 a1 a2)
  unfold f_X1_init
  refine s_aload_n (i := 0) rfl 0 rfl ?_
  refine s_bud 2 10 (by omega) (by omega) ?_
  refine s_objInit (i := 1) rfl ⟨tw104, tw93, tw94⟩ ⟨by decide, by decide⟩ rfl ?_
  refine s_bud 2 10 (by omega) (by omega) ?_
  refine s_aload_n (i := 2) rfl 0 rfl ?_
  refine s_bud 2 10 (by omega) (by omega) ?_
  refine s_iconst (i := 3) rfl (v := (4 : Int32)) (by decide) ?_
  refine s_bud 2 10 (by omega) (by omega) ?_
  refine s_bud (1 + 1) (4 + 6) (by omega) (by omega) ?_
  refine s_newarr (i := 4) rfl (lim := 4) (Or.inl ⟨rfl, rfl⟩) (by decide) (tw158) (fun h1 => ?_)
  refine s_bud 1 6 (by omega) (by omega) ?_
  refine s_putR (i := 5) rfl xf_1_9 (fun _ => rfl) rfl (Or.inr ⟨_, rfl⟩) (fun h2 => ?_)
  refine s_bud 1 6 (by omega) (by omega) ?_
  refine s_aload_n (i := 6) rfl 0 rfl ?_
  refine s_bud 1 6 (by omega) (by omega) ?_
  refine s_bipush (i := 7) rfl (v := (6 : Int32)) (by decide) ?_
  refine s_bud 1 6 (by omega) (by omega) ?_
  refine s_bud (1 + 0) (6 + 0) (by omega) (by omega) ?_
  refine s_newarr (i := 8) rfl (lim := 6) (Or.inl ⟨rfl, rfl⟩) (by decide) (tw158) (fun h3 => ?_)
  refine s_bud 0 0 (by omega) (by omega) ?_
  refine s_putR (i := 9) rfl xf_1_15 (fun _ => rfl) rfl (Or.inr ⟨_, rfl⟩) (fun h4 => ?_)
  refine s_bud 0 0 (by omega) (by omega) ?_
  refine s_aload_n (i := 10) rfl 0 rfl ?_
  refine s_bud 0 0 (by omega) (by omega) ?_
  refine s_bipush (i := 11) rfl (v := (9 : Int32)) (by decide) ?_
  refine s_bud 0 0 (by omega) (by omega) ?_
  refine s_putI (i := 12) rfl xf_1_18 (fun q => by cases q) rfl rfl (fun h5 => ?_)
  refine s_bud 0 0 (by omega) (by omega) ?_
  refine s_aload_n (i := 13) rfl 0 rfl ?_
  refine s_bud 0 0 (by omega) (by omega) ?_
  refine s_aload_n (i := 14) rfl 1 rfl ?_
  refine s_bud 0 0 (by omega) (by omega) ?_
  refine s_putR (i := 15) rfl xf_1_22 (fun _ => rfl) rfl (Or.inr ⟨_, rfl⟩) (fun h6 => ?_)
  refine s_bud 0 0 (by omega) (by omega) ?_
  refine s_aload_n (i := 16) rfl 0 rfl ?_
  refine s_bud 0 0 (by omega) (by omega) ?_
  refine s_aload_n (i := 17) rfl 2 rfl ?_
  refine s_bud 0 0 (by omega) (by omega) ?_
  refine s_putR (i := 18) rfl xf_1_26 (fun _ => rfl) rfl (Or.inr ⟨_, rfl⟩) (fun h7 => ?_)
  refine s_bud 0 0 (by omega) (by omega) ?_
  exact s_vret (i := 19) rfl rfl
def y_X1_become : MethodName := ⟨"OpensAtNine$Gate", "become", "(LOpensAtNine$Gate;)V"⟩
def T_X1_become : List (Nat × Instr × Nat × Nat) := [(0, .aload_n 0, 1, 1), (1, .aload_n 1, 1, 2), (2, .getfield 18, 3, 5), (5, .putfield 18, 3, 8), (8, .aload_n 0, 1, 9), (9, .aload_n 1, 1, 10), (10, .getfield 30, 3, 13), (13, .putfield 30, 3, 16), (16, .aload_n 0, 1, 17), (17, .aload_n 1, 1, 18), (18, .getfield 33, 3, 21), (21, .putfield 33, 3, 24), (24, .aload_n 0, 1, 25), (25, .aload_n 1, 1, 26), (26, .getfield 36, 3, 29), (29, .putfield 36, 3, 32), (32, .aload_n 0, 1, 33), (33, .aload_n 1, 1, 34), (34, .getfield 39, 3, 37), (37, .putfield 39, 3, 40), (40, .aload_n 0, 1, 41), (41, .aload_n 1, 1, 42), (42, .getfield 42, 3, 45), (45, .putfield 42, 3, 48), (48, .aload_n 0, 1, 49), (49, .aload_n 1, 1, 50), (50, .getfield 45, 3, 53), (53, .putfield 45, 3, 56), (56, .aload_n 0, 1, 57), (57, .aload_n 1, 1, 58), (58, .getfield 48, 3, 61), (61, .putfield 48, 3, 64), (64, .iconst 0, 1, 65), (65, .istore_n 2, 1, 66), (66, .iload_n 2, 1, 67), (67, .iconst 4, 1, 68), (68, .if_icmp .ge 21, 3, 71), (71, .aload_n 0, 1, 72), (72, .getfield 9, 3, 75), (75, .iload_n 2, 1, 76), (76, .aload_n 1, 1, 77), (77, .getfield 9, 3, 80), (80, .iload_n 2, 1, 81), (81, .iaload, 1, 82), (82, .iastore, 1, 83), (83, .iinc 2 1, 3, 86), (86, .goto (-20), 3, 89), (89, .return_, 1, 90)]
def I_X1_become : MI := (prog_3_method_2_code, 3, none, "OpensAtNine$Gate", "become", T_X1_become, 0, 0, 1, 60)
theorem dT_X1_become : ∀ q ∈ T_X1_become, decode prog_3_method_2_code q.1 = .ok (q.2.1, q.2.2.1) ∧ q.2.2.2 = q.1 + q.2.2.1 := by decide +kernel
theorem xm_X1_become : xCM y_X1_become I_X1_become 1 1 := ⟨⟨tw678, tw679⟩, tw70, tw680, ⟨xT1, 12, rfl⟩, ⟨by decide +kernel, by decide +kernel, by decide +kernel⟩⟩
noncomputable def fb_X1_become_66 (k_66 : XM → Option Nat → Option Nat → Int32 → Option (XM)) (h : XM) (l0 : Option Nat) (l1 : Option Nat) (l2 : Int32) : Option (XM) := if l2 < ((4 : Int32)) then ((gR h 1 l0 2).bind fun v1 => (gR h 1 l1 2).bind fun v2 => (rI h v2 l2).bind fun v3 => (sI h v1 l2 v3).bind fun h4 => bnd (l2 + (1 : Int32)) fun v5 => k_66 h4 l0 l1 v5) else (some h)
noncomputable def f_X1_become_66 (n : Nat) : XM → Option Nat → Option Nat → Int32 → Option (XM) := Nat.rec (motive := fun _ => XM → Option Nat → Option Nat → Int32 → Option (XM)) (fun _ _ _ _ => none) (fun _ ih h l0 l1 l2 => fb_X1_become_66 ih h l0 l1 l2) n
noncomputable def f_X1_become (h : XM) (a0 : Option Nat) (a1 : Option Nat) : Option (XM) := (gI h 1 a1 4).bind fun v6 => (pI h 1 a0 4 v6).bind fun h7 => (gI h7 1 a1 5).bind fun v8 => (pI h7 1 a0 5 v8).bind fun h9 => (gI h9 1 a1 6).bind fun v10 => (pI h9 1 a0 6 v10).bind fun h11 => (gI h11 1 a1 7).bind fun v12 => (pI h11 1 a0 7 v12).bind fun h13 => (gI h13 1 a1 8).bind fun v14 => (pI h13 1 a0 8 v14).bind fun h15 => (gI h15 1 a1 9).bind fun v16 => (pI h15 1 a0 9 v16).bind fun h17 => (gI h17 1 a1 10).bind fun v18 => (pI h17 1 a0 10 v18).bind fun h19 => (gI h19 1 a1 11).bind fun v20 => (pI h19 1 a0 11 v20).bind fun h21 => f_X1_become_66 FU h21 a0 a1 ((0 : Int32))
theorem bb_X1_become_66 (X : XX) (k_66 : XM → Option Nat → Option Nat → Int32 → Option (XM)) (hk_66 : ∀ h l0 l1 l2, SW X I_X1_become ρv 66 [(0, tA l0), (1, tA l1), (2, tI l2)] [] h 0 0 (k_66 h l0 l1 l2)) (h : XM) (l0 : Option Nat) (l1 : Option Nat) (l2 : Int32) : SW X I_X1_become ρv 66 [(0, tA l0), (1, tA l1), (2, tI l2)] [] h 0 0 (fb_X1_become_66 k_66 h l0 l1 l2) := by
  unfold fb_X1_become_66
  refine s_iload_n (i := 34) rfl 2 rfl ?_
  refine s_iconst (i := 35) rfl (v := (4 : Int32)) (by decide) ?_
  refine s_icmpge (i := 36) rfl (tgt := 89) (by decide) (fun z68 => ?_) (fun z68 => ?_)
  · refine s_aload_n (i := 37) rfl 0 rfl ?_
    refine s_getR (i := 38) rfl xf_1_9.r rfl (fun v1 => ?_)
    refine s_iload_n (i := 39) rfl 2 rfl ?_
    refine s_aload_n (i := 40) rfl 1 rfl ?_
    refine s_getR (i := 41) rfl xf_1_9.r rfl (fun v2 => ?_)
    refine s_iload_n (i := 42) rfl 2 rfl ?_
    refine s_iaload (i := 43) rfl (fun v3 => ?_)
    refine s_iastore (i := 44) rfl (fun h4 => ?_)
    refine s_inc (i := 45) rfl 2 rfl (c9 := (1 : Int32)) (by decide) (Nat.le_of_ble_eq_true rfl) (fun v5 => ?_)
    refine s_ls (ls2 := [(2, tI v5), (0, tA l0), (1, tA l1)]) rfl ?_
    refine s_goto (i := 46) rfl (tgt := 66) (by decide) ?_
    exact s_sub [1, 2, 0] rfl (hk_66 h4 l0 l1 v5)
  · exact s_vret (i := 47) rfl rfl
theorem b_X1_become_66 (X : XX) : ∀ (n : Nat) (h : XM) (l0 : Option Nat) (l1 : Option Nat) (l2 : Int32), SW X I_X1_become ρv 66 [(0, tA l0), (1, tA l1), (2, tI l2)] [] h 0 0 (f_X1_become_66 n h l0 l1 l2) := by
  intro n
  induction n with
  | zero =>
    intro h l0 l1 l2
    exact s_none
  | succ n ih =>
    intro h l0 l1 l2
    exact bb_X1_become_66 X (f_X1_become_66 n) ih h l0 l1 l2
theorem c_X1_become (h : XM) (a0 : Option Nat) (a1 : Option Nat) : MC I_X1_become y_X1_become [tA a0, tA a1] h ρv (f_X1_become h a0 a1) := by
  refine MC_of ⟨by decide +kernel, rfl, rfl, Nat.le_of_ble_eq_true rfl⟩ dT_X1_become (fun X => ?_)
  show SW X I_X1_become ρv 0 [(0, tA a0), (1, tA a1)] [] h 0 0 (f_X1_become h a0 a1)
  unfold f_X1_become
  refine s_aload_n (i := 0) rfl 0 rfl ?_
  refine s_aload_n (i := 1) rfl 1 rfl ?_
  refine s_getI (i := 2) rfl xf_1_18.r rfl (fun v6 => ?_)
  refine s_putI (i := 3) rfl xf_1_18 (fun q => by cases q) rfl rfl (fun h7 => ?_)
  refine s_aload_n (i := 4) rfl 0 rfl ?_
  refine s_aload_n (i := 5) rfl 1 rfl ?_
  refine s_getI (i := 6) rfl xf_1_30.r rfl (fun v8 => ?_)
  refine s_putI (i := 7) rfl xf_1_30 (fun q => by cases q) rfl rfl (fun h9 => ?_)
  refine s_aload_n (i := 8) rfl 0 rfl ?_
  refine s_aload_n (i := 9) rfl 1 rfl ?_
  refine s_getI (i := 10) rfl xf_1_33.r rfl (fun v10 => ?_)
  refine s_putI (i := 11) rfl xf_1_33 (fun q => by cases q) rfl rfl (fun h11 => ?_)
  refine s_aload_n (i := 12) rfl 0 rfl ?_
  refine s_aload_n (i := 13) rfl 1 rfl ?_
  refine s_getI (i := 14) rfl xf_1_36.r rfl (fun v12 => ?_)
  refine s_putI (i := 15) rfl xf_1_36 (fun q => by cases q) rfl rfl (fun h13 => ?_)
  refine s_aload_n (i := 16) rfl 0 rfl ?_
  refine s_aload_n (i := 17) rfl 1 rfl ?_
  refine s_getI (i := 18) rfl xf_1_39.r rfl (fun v14 => ?_)
  refine s_putI (i := 19) rfl xf_1_39 (fun q => by cases q) rfl rfl (fun h15 => ?_)
  refine s_aload_n (i := 20) rfl 0 rfl ?_
  refine s_aload_n (i := 21) rfl 1 rfl ?_
  refine s_getI (i := 22) rfl xf_1_42.r rfl (fun v16 => ?_)
  refine s_putI (i := 23) rfl xf_1_42 (fun q => by cases q) rfl rfl (fun h17 => ?_)
  refine s_aload_n (i := 24) rfl 0 rfl ?_
  refine s_aload_n (i := 25) rfl 1 rfl ?_
  refine s_getI (i := 26) rfl xf_1_45.r rfl (fun v18 => ?_)
  refine s_putI (i := 27) rfl xf_1_45 (fun q => by cases q) rfl rfl (fun h19 => ?_)
  refine s_aload_n (i := 28) rfl 0 rfl ?_
  refine s_aload_n (i := 29) rfl 1 rfl ?_
  refine s_getI (i := 30) rfl xf_1_48.r rfl (fun v20 => ?_)
  refine s_putI (i := 31) rfl xf_1_48 (fun q => by cases q) rfl rfl (fun h21 => ?_)
  refine s_iconst (i := 32) rfl (v := (0 : Int32)) (by decide) ?_
  refine s_istore_n (i := 33) rfl (Nat.le_of_ble_eq_true rfl) (ls2 := [(2, tI ((0 : Int32))), (0, tA a0), (1, tA a1)]) rfl ?_
  exact s_sub [1, 2, 0] rfl (b_X1_become_66 X FU h21 a0 a1 ((0 : Int32)))
def y_X1_undo : MethodName := ⟨"OpensAtNine$Gate", "undo", "(IIII)V"⟩
def T_X1_undo : List (Nat × Instr × Nat × Nat) := [(0, .aload_n 0, 1, 1), (1, .iload_n 1, 1, 2), (2, .putfield 30, 3, 5), (5, .aload_n 0, 1, 6), (6, .iload_n 2, 1, 7), (7, .putfield 33, 3, 10), (10, .aload_n 0, 1, 11), (11, .iload_n 3, 1, 12), (12, .putfield 39, 3, 15), (15, .aload_n 0, 1, 16), (16, .iload 4, 2, 18), (18, .putfield 45, 3, 21), (21, .return_, 1, 22)]
def I_X1_undo : MI := (prog_3_method_3_code, 5, none, "OpensAtNine$Gate", "undo", T_X1_undo, 0, 0, 1, 60)
theorem dT_X1_undo : ∀ q ∈ T_X1_undo, decode prog_3_method_3_code q.1 = .ok (q.2.1, q.2.2.1) ∧ q.2.2.2 = q.1 + q.2.2.1 := by decide +kernel
theorem xm_X1_undo : xCM y_X1_undo I_X1_undo 1 4 := ⟨⟨tw716, tw717⟩, tw70, tw718, ⟨xT1, 12, rfl⟩, ⟨by decide +kernel, by decide +kernel, by decide +kernel⟩⟩
noncomputable def f_X1_undo (h : XM) (a0 : Option Nat) (a1 : Int32) (a2 : Int32) (a3 : Int32) (a4 : Int32) : Option (XM) := (pI h 1 a0 5 a1).bind fun h1 => (pI h1 1 a0 6 a2).bind fun h2 => (pI h2 1 a0 8 a3).bind fun h3 => (pI h3 1 a0 10 a4).bind fun h4 => some h4
theorem c_X1_undo (h : XM) (a0 : Option Nat) (a1 : Int32) (a2 : Int32) (a3 : Int32) (a4 : Int32) : MC I_X1_undo y_X1_undo [tA a0, tI a1, tI a2, tI a3, tI a4] h ρv (f_X1_undo h a0 a1 a2 a3 a4) := by
  refine MC_of ⟨by decide +kernel, rfl, rfl, Nat.le_of_ble_eq_true rfl⟩ dT_X1_undo (fun X => ?_)
  show SW X I_X1_undo ρv 0 [(0, tA a0), (1, tI a1), (2, tI a2), (3, tI a3), (4, tI a4)] [] h 0 0 (f_X1_undo h a0 a1 a2 a3 a4)
  unfold f_X1_undo
  refine s_aload_n (i := 0) rfl 0 rfl ?_
  refine s_iload_n (i := 1) rfl 1 rfl ?_
  refine s_putI (i := 2) rfl xf_1_30 (fun q => by cases q) rfl rfl (fun h1 => ?_)
  refine s_aload_n (i := 3) rfl 0 rfl ?_
  refine s_iload_n (i := 4) rfl 2 rfl ?_
  refine s_putI (i := 5) rfl xf_1_33 (fun q => by cases q) rfl rfl (fun h2 => ?_)
  refine s_aload_n (i := 6) rfl 0 rfl ?_
  refine s_iload_n (i := 7) rfl 3 rfl ?_
  refine s_putI (i := 8) rfl xf_1_39 (fun q => by cases q) rfl rfl (fun h3 => ?_)
  refine s_aload_n (i := 9) rfl 0 rfl ?_
  refine s_iload (i := 10) rfl 4 rfl ?_
  refine s_putI (i := 11) rfl xf_1_45 (fun q => by cases q) rfl rfl (fun h4 => ?_)
  exact s_vret (i := 12) rfl rfl
def y_X1_isOne : MethodName := ⟨"OpensAtNine$Gate", "isOne", "(I)Z"⟩
def T_X1_isOne : List (Nat × Instr × Nat × Nat) := [(0, .iload_n 1, 1, 1), (1, .ifCond .lt 15, 3, 4), (4, .iload_n 1, 1, 5), (5, .aload_n 0, 1, 6), (6, .getfield 36, 3, 9), (9, .if_icmp .ge 7, 3, 12), (12, .iconst 1, 1, 13), (13, .goto 4, 3, 16), (16, .iconst 0, 1, 17), (17, .ireturn, 1, 18)]
def I_X1_isOne : MI := (prog_3_method_4_code, 2, (some .boolean), "OpensAtNine$Gate", "isOne", T_X1_isOne, 0, 0, 1, 60)
theorem dT_X1_isOne : ∀ q ∈ T_X1_isOne, decode prog_3_method_4_code q.1 = .ok (q.2.1, q.2.2.1) ∧ q.2.2.2 = q.1 + q.2.2.1 := by decide +kernel
theorem xm_X1_isOne : xCM y_X1_isOne I_X1_isOne 1 1 := ⟨⟨tw517, tw518⟩, tw70, tw519, ⟨xT1, 12, rfl⟩, ⟨by decide +kernel, by decide +kernel, by decide +kernel⟩⟩
noncomputable def f_X1_isOne_17 (h : XM) (s0 : Int32) : Option (Int32 × XM) := rz h s0
noncomputable def f_X1_isOne_16 (h : XM) : Option (Int32 × XM) := f_X1_isOne_17 h ((0 : Int32))
noncomputable def f_X1_isOne (h : XM) (a0 : Option Nat) (a1 : Int32) : Option (Int32 × XM) := if a1 < 0 then (f_X1_isOne_16 h) else ((gI h 1 a0 7).bind fun v1 => if a1 < v1 then (f_X1_isOne_17 h ((1 : Int32))) else (f_X1_isOne_16 h))
theorem b_X1_isOne_17 (X : XX) (h : XM) (s0 : Int32) : SW X I_X1_isOne ρi 17 [] [tI s0] h 0 0 (f_X1_isOne_17 h s0) := by
  unfold f_X1_isOne_17
  exact s_zret (i := 9) rfl rfl
theorem b_X1_isOne_16 (X : XX) (h : XM) : SW X I_X1_isOne ρi 16 [] [] h 0 0 (f_X1_isOne_16 h) := by
  unfold f_X1_isOne_16
  refine s_iconst (i := 8) rfl (v := (0 : Int32)) (by decide) ?_
  exact s_sub [] rfl (b_X1_isOne_17 X h ((0 : Int32)))
theorem c_X1_isOne (h : XM) (a0 : Option Nat) (a1 : Int32) : MC I_X1_isOne y_X1_isOne [tA a0, tI a1] h ρi (f_X1_isOne h a0 a1) := by
  refine MC_of ⟨by decide +kernel, rfl, rfl, Nat.le_of_ble_eq_true rfl⟩ dT_X1_isOne (fun X => ?_)
  show SW X I_X1_isOne ρi 0 [(0, tA a0), (1, tI a1)] [] h 0 0 (f_X1_isOne h a0 a1)
  unfold f_X1_isOne
  refine s_iload_n (i := 0) rfl 1 rfl ?_
  refine s_iflt (i := 1) rfl (tgt := 16) (by decide) (fun z1 => ?_) (fun z1 => ?_)
  · exact s_sub [] rfl (b_X1_isOne_16 X h)
  · refine s_iload_n (i := 2) rfl 1 rfl ?_
    refine s_aload_n (i := 3) rfl 0 rfl ?_
    refine s_getI (i := 4) rfl xf_1_36.r rfl (fun v1 => ?_)
    refine s_icmpge (i := 5) rfl (tgt := 16) (by decide) (fun z9 => ?_) (fun z9 => ?_)
    · refine s_iconst (i := 6) rfl (v := (1 : Int32)) (by decide) ?_
      refine s_goto (i := 7) rfl (tgt := 17) (by decide) ?_
      exact s_sub [] rfl (b_X1_isOne_17 X h ((1 : Int32)))
    · exact s_sub [] rfl (b_X1_isOne_16 X h)
def y_X1_isInside : MethodName := ⟨"OpensAtNine$Gate", "isInside", "(I)Z"⟩
def T_X1_isInside : List (Nat × Instr × Nat × Nat) := [(0, .aload_n 0, 1, 1), (1, .getfield 39, 3, 4), (4, .iload_n 1, 1, 5), (5, .ishr, 1, 6), (6, .iconst 1, 1, 7), (7, .iand, 1, 8), (8, .ifCond .eq 7, 3, 11), (11, .iconst 1, 1, 12), (12, .goto 4, 3, 15), (15, .iconst 0, 1, 16), (16, .ireturn, 1, 17)]
def I_X1_isInside : MI := (prog_3_method_5_code, 2, (some .boolean), "OpensAtNine$Gate", "isInside", T_X1_isInside, 0, 0, 1, 60)
theorem dT_X1_isInside : ∀ q ∈ T_X1_isInside, decode prog_3_method_5_code q.1 = .ok (q.2.1, q.2.2.1) ∧ q.2.2.2 = q.1 + q.2.2.1 := by decide +kernel
theorem xm_X1_isInside : xCM y_X1_isInside I_X1_isInside 1 1 := ⟨⟨tw521, tw522⟩, tw70, tw523, ⟨xT1, 12, rfl⟩, ⟨by decide +kernel, by decide +kernel, by decide +kernel⟩⟩
noncomputable def f_X1_isInside_16 (h : XM) (s0 : Int32) : Option (Int32 × XM) := rz h s0
noncomputable def f_X1_isInside (h : XM) (a0 : Option Nat) (a1 : Int32) : Option (Int32 × XM) := (gI h 1 a0 8).bind fun v1 => if ((v1 >>> (a1 &&& 31)) &&& ((1 : Int32))) = 0 then (f_X1_isInside_16 h ((0 : Int32))) else (f_X1_isInside_16 h ((1 : Int32)))
theorem b_X1_isInside_16 (X : XX) (h : XM) (s0 : Int32) : SW X I_X1_isInside ρi 16 [] [tI s0] h 0 0 (f_X1_isInside_16 h s0) := by
  unfold f_X1_isInside_16
  exact s_zret (i := 10) rfl rfl
theorem c_X1_isInside (h : XM) (a0 : Option Nat) (a1 : Int32) : MC I_X1_isInside y_X1_isInside [tA a0, tI a1] h ρi (f_X1_isInside h a0 a1) := by
  refine MC_of ⟨by decide +kernel, rfl, rfl, Nat.le_of_ble_eq_true rfl⟩ dT_X1_isInside (fun X => ?_)
  show SW X I_X1_isInside ρi 0 [(0, tA a0), (1, tI a1)] [] h 0 0 (f_X1_isInside h a0 a1)
  unfold f_X1_isInside
  refine s_aload_n (i := 0) rfl 0 rfl ?_
  refine s_getI (i := 1) rfl xf_1_39.r rfl (fun v1 => ?_)
  refine s_iload_n (i := 2) rfl 1 rfl ?_
  refine s_ishr (i := 3) rfl ?_
  refine s_iconst (i := 4) rfl (v := (1 : Int32)) (by decide) ?_
  refine s_iand (i := 5) rfl ?_
  refine s_ifeq (i := 6) rfl (tgt := 15) (by decide) (fun z8 => ?_) (fun z8 => ?_)
  · refine s_iconst (i := 9) rfl (v := (0 : Int32)) (by decide) ?_
    exact s_sub [] rfl (b_X1_isInside_16 X h ((0 : Int32)))
  · refine s_iconst (i := 7) rfl (v := (1 : Int32)) (by decide) ?_
    refine s_goto (i := 8) rfl (tgt := 16) (by decide) ?_
    exact s_sub [] rfl (b_X1_isInside_16 X h ((1 : Int32)))
def y_X1_coinAt : MethodName := ⟨"OpensAtNine$Gate", "coinAt", "(I)LOpensAtNine$Coin;"⟩
def T_X1_coinAt : List (Nat × Instr × Nat × Nat) := [(0, .iload_n 1, 1, 1), (1, .ifCond .lt 29, 3, 4), (4, .iload_n 1, 1, 5), (5, .aload_n 0, 1, 6), (6, .getfield 42, 3, 9), (9, .if_icmp .ge 21, 3, 12), (12, .iload_n 1, 1, 13), (13, .aload_n 0, 1, 14), (14, .getfield 22, 3, 17), (17, .arraylength, 1, 18), (18, .if_icmp .ge 12, 3, 21), (21, .aload_n 0, 1, 22), (22, .getfield 22, 3, 25), (25, .iload_n 1, 1, 26), (26, .aaload, 1, 27), (27, .goto 4, 3, 30), (30, .aconst_null, 1, 31), (31, .areturn, 1, 32)]
def I_X1_coinAt : MI := (prog_3_method_6_code, 2, (some (.object "OpensAtNine$Coin")), "OpensAtNine$Gate", "coinAt", T_X1_coinAt, 0, 0, 1, 60)
theorem dT_X1_coinAt : ∀ q ∈ T_X1_coinAt, decode prog_3_method_6_code q.1 = .ok (q.2.1, q.2.2.1) ∧ q.2.2.2 = q.1 + q.2.2.1 := by decide +kernel
theorem xm_X1_coinAt : xCM y_X1_coinAt I_X1_coinAt 1 1 := ⟨⟨tw600, tw601⟩, tw70, tw602, ⟨xT1, 12, rfl⟩, ⟨by decide +kernel, by decide +kernel, by decide +kernel⟩⟩
noncomputable def f_X1_coinAt_31 (h : XM) (s0 : Option Nat) : Option (Option Nat × XM) := some (s0, h)
noncomputable def f_X1_coinAt_30 (h : XM) : Option (Option Nat × XM) := f_X1_coinAt_31 h none
noncomputable def f_X1_coinAt (h : XM) (a0 : Option Nat) (a1 : Int32) : Option (Option Nat × XM) := if a1 < 0 then (f_X1_coinAt_30 h) else ((gI h 1 a0 9).bind fun v1 => if a1 < v1 then ((gR h 1 a0 0).bind fun v2 => (ln h v2).bind fun v3 => if a1 < v3 then ((gR h 1 a0 0).bind fun v4 => (rR 12 h v4 a1).bind fun v5 => f_X1_coinAt_31 h v5) else (f_X1_coinAt_30 h)) else (f_X1_coinAt_30 h))
theorem b_X1_coinAt_31 (X : XX) (h : XM) (s0 : Option Nat) : SW X I_X1_coinAt ρa 31 [] [tA s0] h 0 0 (f_X1_coinAt_31 h s0) := by
  unfold f_X1_coinAt_31
  exact s_aret (i := 17) rfl rfl (Or.inl ⟨_, rfl⟩)
theorem b_X1_coinAt_30 (X : XX) (h : XM) : SW X I_X1_coinAt ρa 30 [] [] h 0 0 (f_X1_coinAt_30 h) := by
  unfold f_X1_coinAt_30
  refine s_null (i := 16) rfl ?_
  exact s_sub [] rfl (b_X1_coinAt_31 X h none)
theorem c_X1_coinAt (h : XM) (a0 : Option Nat) (a1 : Int32) : MC I_X1_coinAt y_X1_coinAt [tA a0, tI a1] h ρa (f_X1_coinAt h a0 a1) := by
  refine MC_of ⟨by decide +kernel, rfl, rfl, Nat.le_of_ble_eq_true rfl⟩ dT_X1_coinAt (fun X => ?_)
  show SW X I_X1_coinAt ρa 0 [(0, tA a0), (1, tI a1)] [] h 0 0 (f_X1_coinAt h a0 a1)
  unfold f_X1_coinAt
  refine s_iload_n (i := 0) rfl 1 rfl ?_
  refine s_iflt (i := 1) rfl (tgt := 30) (by decide) (fun z1 => ?_) (fun z1 => ?_)
  · exact s_sub [] rfl (b_X1_coinAt_30 X h)
  · refine s_iload_n (i := 2) rfl 1 rfl ?_
    refine s_aload_n (i := 3) rfl 0 rfl ?_
    refine s_getI (i := 4) rfl xf_1_42.r rfl (fun v1 => ?_)
    refine s_icmpge (i := 5) rfl (tgt := 30) (by decide) (fun z9 => ?_) (fun z9 => ?_)
    · refine s_iload_n (i := 6) rfl 1 rfl ?_
      refine s_aload_n (i := 7) rfl 0 rfl ?_
      refine s_getR (i := 8) rfl xf_1_22.r rfl (fun v2 => ?_)
      refine s_alen (i := 9) rfl (fun v3 => ?_)
      refine s_icmpge (i := 10) rfl (tgt := 30) (by decide) (fun z18 => ?_) (fun z18 => ?_)
      · refine s_aload_n (i := 11) rfl 0 rfl ?_
        refine s_getR (i := 12) rfl xf_1_22.r rfl (fun v4 => ?_)
        refine s_iload_n (i := 13) rfl 1 rfl ?_
        refine s_aaload (i := 14) rfl (kk := 12) ⟨by decide, by decide⟩ (fun v5 => ?_)
        refine s_goto (i := 15) rfl (tgt := 31) (by decide) ?_
        exact s_sub [] rfl (b_X1_coinAt_31 X h v5)
      · exact s_sub [] rfl (b_X1_coinAt_30 X h)
    · exact s_sub [] rfl (b_X1_coinAt_30 X h)
def y_X1_isSpent : MethodName := ⟨"OpensAtNine$Gate", "isSpent", "(I)Z"⟩
def T_X1_isSpent : List (Nat × Instr × Nat × Nat) := [(0, .aload_n 0, 1, 1), (1, .getfield 45, 3, 4), (4, .iload_n 1, 1, 5), (5, .ishr, 1, 6), (6, .iconst 1, 1, 7), (7, .iand, 1, 8), (8, .ifCond .eq 7, 3, 11), (11, .iconst 1, 1, 12), (12, .goto 4, 3, 15), (15, .iconst 0, 1, 16), (16, .ireturn, 1, 17)]
def I_X1_isSpent : MI := (prog_3_method_7_code, 2, (some .boolean), "OpensAtNine$Gate", "isSpent", T_X1_isSpent, 0, 0, 1, 60)
theorem dT_X1_isSpent : ∀ q ∈ T_X1_isSpent, decode prog_3_method_7_code q.1 = .ok (q.2.1, q.2.2.1) ∧ q.2.2.2 = q.1 + q.2.2.1 := by decide +kernel
theorem xm_X1_isSpent : xCM y_X1_isSpent I_X1_isSpent 1 1 := ⟨⟨tw604, tw605⟩, tw70, tw606, ⟨xT1, 12, rfl⟩, ⟨by decide +kernel, by decide +kernel, by decide +kernel⟩⟩
noncomputable def f_X1_isSpent_16 (h : XM) (s0 : Int32) : Option (Int32 × XM) := rz h s0
noncomputable def f_X1_isSpent (h : XM) (a0 : Option Nat) (a1 : Int32) : Option (Int32 × XM) := (gI h 1 a0 10).bind fun v1 => if ((v1 >>> (a1 &&& 31)) &&& ((1 : Int32))) = 0 then (f_X1_isSpent_16 h ((0 : Int32))) else (f_X1_isSpent_16 h ((1 : Int32)))
theorem b_X1_isSpent_16 (X : XX) (h : XM) (s0 : Int32) : SW X I_X1_isSpent ρi 16 [] [tI s0] h 0 0 (f_X1_isSpent_16 h s0) := by
  unfold f_X1_isSpent_16
  exact s_zret (i := 10) rfl rfl
theorem c_X1_isSpent (h : XM) (a0 : Option Nat) (a1 : Int32) : MC I_X1_isSpent y_X1_isSpent [tA a0, tI a1] h ρi (f_X1_isSpent h a0 a1) := by
  refine MC_of ⟨by decide +kernel, rfl, rfl, Nat.le_of_ble_eq_true rfl⟩ dT_X1_isSpent (fun X => ?_)
  show SW X I_X1_isSpent ρi 0 [(0, tA a0), (1, tI a1)] [] h 0 0 (f_X1_isSpent h a0 a1)
  unfold f_X1_isSpent
  refine s_aload_n (i := 0) rfl 0 rfl ?_
  refine s_getI (i := 1) rfl xf_1_45.r rfl (fun v1 => ?_)
  refine s_iload_n (i := 2) rfl 1 rfl ?_
  refine s_ishr (i := 3) rfl ?_
  refine s_iconst (i := 4) rfl (v := (1 : Int32)) (by decide) ?_
  refine s_iand (i := 5) rfl ?_
  refine s_ifeq (i := 6) rfl (tgt := 15) (by decide) (fun z8 => ?_) (fun z8 => ?_)
  · refine s_iconst (i := 9) rfl (v := (0 : Int32)) (by decide) ?_
    exact s_sub [] rfl (b_X1_isSpent_16 X h ((0 : Int32)))
  · refine s_iconst (i := 7) rfl (v := (1 : Int32)) (by decide) ?_
    refine s_goto (i := 8) rfl (tgt := 16) (by decide) ?_
    exact s_sub [] rfl (b_X1_isSpent_16 X h ((1 : Int32)))
def y_X1_ownerOf : MethodName := ⟨"OpensAtNine$Gate", "ownerOf", "(I)I"⟩
def T_X1_ownerOf : List (Nat × Instr × Nat × Nat) := [(0, .iconst 0, 1, 1), (1, .istore_n 2, 1, 2), (2, .iload_n 2, 1, 3), (3, .iconst 4, 1, 4), (4, .if_icmp .ge 24, 3, 7), (7, .aload_n 0, 1, 8), (8, .getfield 9, 3, 11), (11, .iload_n 2, 1, 12), (12, .iaload, 1, 13), (13, .iload_n 1, 1, 14), (14, .ishr, 1, 15), (15, .iconst 1, 1, 16), (16, .iand, 1, 17), (17, .ifCond .eq 5, 3, 20), (20, .iload_n 2, 1, 21), (21, .ireturn, 1, 22), (22, .iinc 2 1, 3, 25), (25, .goto (-23), 3, 28), (28, .iconst 0, 1, 29), (29, .ireturn, 1, 30)]
def I_X1_ownerOf : MI := (prog_3_method_8_code, 3, (some .int), "OpensAtNine$Gate", "ownerOf", T_X1_ownerOf, 0, 0, 1, 60)
theorem dT_X1_ownerOf : ∀ q ∈ T_X1_ownerOf, decode prog_3_method_8_code q.1 = .ok (q.2.1, q.2.2.1) ∧ q.2.2.2 = q.1 + q.2.2.1 := by decide +kernel
theorem xm_X1_ownerOf : xCM y_X1_ownerOf I_X1_ownerOf 1 1 := ⟨⟨tw608, tw609⟩, tw70, tw610, ⟨xT1, 12, rfl⟩, ⟨by decide +kernel, by decide +kernel, by decide +kernel⟩⟩
noncomputable def fb_X1_ownerOf_2 (k_2 : XM → Option Nat → Int32 → Int32 → Option (Int32 × XM)) (h : XM) (l0 : Option Nat) (l1 : Int32) (l2 : Int32) : Option (Int32 × XM) := if l2 < ((4 : Int32)) then ((gR h 1 l0 2).bind fun v1 => (rI h v1 l2).bind fun v2 => if ((v2 >>> (l1 &&& 31)) &&& ((1 : Int32))) = 0 then (bnd (l2 + (1 : Int32)) fun v3 => k_2 h l0 l1 v3) else (some (l2, h))) else (some ((0 : Int32), h))
noncomputable def f_X1_ownerOf_2 (n : Nat) : XM → Option Nat → Int32 → Int32 → Option (Int32 × XM) := Nat.rec (motive := fun _ => XM → Option Nat → Int32 → Int32 → Option (Int32 × XM)) (fun _ _ _ _ => none) (fun _ ih h l0 l1 l2 => fb_X1_ownerOf_2 ih h l0 l1 l2) n
noncomputable def f_X1_ownerOf (h : XM) (a0 : Option Nat) (a1 : Int32) : Option (Int32 × XM) := f_X1_ownerOf_2 FU h a0 a1 ((0 : Int32))
theorem bb_X1_ownerOf_2 (X : XX) (k_2 : XM → Option Nat → Int32 → Int32 → Option (Int32 × XM)) (hk_2 : ∀ h l0 l1 l2, SW X I_X1_ownerOf ρi 2 [(0, tA l0), (1, tI l1), (2, tI l2)] [] h 0 0 (k_2 h l0 l1 l2)) (h : XM) (l0 : Option Nat) (l1 : Int32) (l2 : Int32) : SW X I_X1_ownerOf ρi 2 [(0, tA l0), (1, tI l1), (2, tI l2)] [] h 0 0 (fb_X1_ownerOf_2 k_2 h l0 l1 l2) := by
  unfold fb_X1_ownerOf_2
  refine s_iload_n (i := 2) rfl 2 rfl ?_
  refine s_iconst (i := 3) rfl (v := (4 : Int32)) (by decide) ?_
  refine s_icmpge (i := 4) rfl (tgt := 28) (by decide) (fun z4 => ?_) (fun z4 => ?_)
  · refine s_aload_n (i := 5) rfl 0 rfl ?_
    refine s_getR (i := 6) rfl xf_1_9.r rfl (fun v1 => ?_)
    refine s_iload_n (i := 7) rfl 2 rfl ?_
    refine s_iaload (i := 8) rfl (fun v2 => ?_)
    refine s_iload_n (i := 9) rfl 1 rfl ?_
    refine s_ishr (i := 10) rfl ?_
    refine s_iconst (i := 11) rfl (v := (1 : Int32)) (by decide) ?_
    refine s_iand (i := 12) rfl ?_
    refine s_ifeq (i := 13) rfl (tgt := 22) (by decide) (fun z17 => ?_) (fun z17 => ?_)
    · refine s_inc (i := 16) rfl 2 rfl (c9 := (1 : Int32)) (by decide) (Nat.le_of_ble_eq_true rfl) (fun v3 => ?_)
      refine s_ls (ls2 := [(2, tI v3), (0, tA l0), (1, tI l1)]) rfl ?_
      refine s_goto (i := 17) rfl (tgt := 2) (by decide) ?_
      exact s_sub [1, 2, 0] rfl (hk_2 h l0 l1 v3)
    · refine s_iload_n (i := 14) rfl 2 rfl ?_
      exact s_iret (i := 15) rfl rfl
  · refine s_iconst (i := 18) rfl (v := (0 : Int32)) (by decide) ?_
    exact s_iret (i := 19) rfl rfl
theorem b_X1_ownerOf_2 (X : XX) : ∀ (n : Nat) (h : XM) (l0 : Option Nat) (l1 : Int32) (l2 : Int32), SW X I_X1_ownerOf ρi 2 [(0, tA l0), (1, tI l1), (2, tI l2)] [] h 0 0 (f_X1_ownerOf_2 n h l0 l1 l2) := by
  intro n
  induction n with
  | zero =>
    intro h l0 l1 l2
    exact s_none
  | succ n ih =>
    intro h l0 l1 l2
    exact bb_X1_ownerOf_2 X (f_X1_ownerOf_2 n) ih h l0 l1 l2
theorem c_X1_ownerOf (h : XM) (a0 : Option Nat) (a1 : Int32) : MC I_X1_ownerOf y_X1_ownerOf [tA a0, tI a1] h ρi (f_X1_ownerOf h a0 a1) := by
  refine MC_of ⟨by decide +kernel, rfl, rfl, Nat.le_of_ble_eq_true rfl⟩ dT_X1_ownerOf (fun X => ?_)
  show SW X I_X1_ownerOf ρi 0 [(0, tA a0), (1, tI a1)] [] h 0 0 (f_X1_ownerOf h a0 a1)
  unfold f_X1_ownerOf
  refine s_iconst (i := 0) rfl (v := (0 : Int32)) (by decide) ?_
  refine s_istore_n (i := 1) rfl (Nat.le_of_ble_eq_true rfl) (ls2 := [(2, tI ((0 : Int32))), (0, tA a0), (1, tI a1)]) rfl ?_
  exact s_sub [1, 2, 0] rfl (b_X1_ownerOf_2 X FU h a0 a1 ((0 : Int32)))
def y_X1_give : MethodName := ⟨"OpensAtNine$Gate", "give", "(II)V"⟩
def T_X1_give : List (Nat × Instr × Nat × Nat) := [(0, .iconst 0, 1, 1), (1, .istore_n 3, 1, 2), (2, .iload_n 3, 1, 3), (3, .iconst 4, 1, 4), (4, .if_icmp .ge 23, 3, 7), (7, .aload_n 0, 1, 8), (8, .getfield 9, 3, 11), (11, .iload_n 3, 1, 12), (12, .dup2, 1, 13), (13, .iaload, 1, 14), (14, .iconst 1, 1, 15), (15, .iload_n 1, 1, 16), (16, .ishl, 1, 17), (17, .iconst (-1), 1, 18), (18, .ixor, 1, 19), (19, .iand, 1, 20), (20, .iastore, 1, 21), (21, .iinc 3 1, 3, 24), (24, .goto (-22), 3, 27), (27, .iload_n 2, 1, 28), (28, .ifCond .lt 20, 3, 31), (31, .iload_n 2, 1, 32), (32, .iconst 4, 1, 33), (33, .if_icmp .ge 15, 3, 36), (36, .aload_n 0, 1, 37), (37, .getfield 9, 3, 40), (40, .iload_n 2, 1, 41), (41, .dup2, 1, 42), (42, .iaload, 1, 43), (43, .iconst 1, 1, 44), (44, .iload_n 1, 1, 45), (45, .ishl, 1, 46), (46, .ior, 1, 47), (47, .iastore, 1, 48), (48, .return_, 1, 49)]
def I_X1_give : MI := (prog_3_method_9_code, 4, none, "OpensAtNine$Gate", "give", T_X1_give, 0, 0, 1, 60)
theorem dT_X1_give : ∀ q ∈ T_X1_give, decode prog_3_method_9_code q.1 = .ok (q.2.1, q.2.2.1) ∧ q.2.2.2 = q.1 + q.2.2.1 := by decide +kernel
theorem xm_X1_give : xCM y_X1_give I_X1_give 1 2 := ⟨⟨tw592, tw593⟩, tw70, tw594, ⟨xT1, 12, rfl⟩, ⟨by decide +kernel, by decide +kernel, by decide +kernel⟩⟩
noncomputable def f_X1_give_48 (h : XM) : Option (XM) := some h
noncomputable def fb_X1_give_2 (k_2 : XM → Option Nat → Int32 → Int32 → Int32 → Option (XM)) (h : XM) (l0 : Option Nat) (l1 : Int32) (l2 : Int32) (l3 : Int32) : Option (XM) := if l3 < ((4 : Int32)) then ((gR h 1 l0 2).bind fun v1 => (rI h v1 l3).bind fun v2 => (sI h v1 l3 (v2 &&& ((((1 : Int32)) <<< (l1 &&& 31)) ^^^ ((-1 : Int32))))).bind fun h3 => bnd (l3 + (1 : Int32)) fun v4 => k_2 h3 l0 l1 l2 v4) else (if l2 < 0 then (f_X1_give_48 h) else (if l2 < ((4 : Int32)) then ((gR h 1 l0 2).bind fun v5 => (rI h v5 l2).bind fun v6 => (sI h v5 l2 (v6 ||| (((1 : Int32)) <<< (l1 &&& 31)))).bind fun h7 => f_X1_give_48 h7) else (f_X1_give_48 h)))
noncomputable def f_X1_give_2 (n : Nat) : XM → Option Nat → Int32 → Int32 → Int32 → Option (XM) := Nat.rec (motive := fun _ => XM → Option Nat → Int32 → Int32 → Int32 → Option (XM)) (fun _ _ _ _ _ => none) (fun _ ih h l0 l1 l2 l3 => fb_X1_give_2 ih h l0 l1 l2 l3) n
noncomputable def f_X1_give (h : XM) (a0 : Option Nat) (a1 : Int32) (a2 : Int32) : Option (XM) := f_X1_give_2 FU h a0 a1 a2 ((0 : Int32))
theorem b_X1_give_48 (X : XX) (h : XM) : SW X I_X1_give ρv 48 [] [] h 0 0 (f_X1_give_48 h) := by
  unfold f_X1_give_48
  exact s_vret (i := 34) rfl rfl
theorem bb_X1_give_2 (X : XX) (k_2 : XM → Option Nat → Int32 → Int32 → Int32 → Option (XM)) (hk_2 : ∀ h l0 l1 l2 l3, SW X I_X1_give ρv 2 [(0, tA l0), (1, tI l1), (2, tI l2), (3, tI l3)] [] h 0 0 (k_2 h l0 l1 l2 l3)) (h : XM) (l0 : Option Nat) (l1 : Int32) (l2 : Int32) (l3 : Int32) : SW X I_X1_give ρv 2 [(0, tA l0), (1, tI l1), (2, tI l2), (3, tI l3)] [] h 0 0 (fb_X1_give_2 k_2 h l0 l1 l2 l3) := by
  unfold fb_X1_give_2
  refine s_iload_n (i := 2) rfl 3 rfl ?_
  refine s_iconst (i := 3) rfl (v := (4 : Int32)) (by decide) ?_
  refine s_icmpge (i := 4) rfl (tgt := 27) (by decide) (fun z4 => ?_) (fun z4 => ?_)
  · refine s_aload_n (i := 5) rfl 0 rfl ?_
    refine s_getR (i := 6) rfl xf_1_9.r rfl (fun v1 => ?_)
    refine s_iload_n (i := 7) rfl 3 rfl ?_
    refine s_dup2 (i := 8) rfl rfl rfl ?_
    refine s_iaload (i := 9) rfl (fun v2 => ?_)
    refine s_iconst (i := 10) rfl (v := (1 : Int32)) (by decide) ?_
    refine s_iload_n (i := 11) rfl 1 rfl ?_
    refine s_ishl (i := 12) rfl ?_
    refine s_iconst (i := 13) rfl (v := (-1 : Int32)) (by decide) ?_
    refine s_ixor (i := 14) rfl ?_
    refine s_iand (i := 15) rfl ?_
    refine s_iastore (i := 16) rfl (fun h3 => ?_)
    refine s_inc (i := 17) rfl 3 rfl (c9 := (1 : Int32)) (by decide) (Nat.le_of_ble_eq_true rfl) (fun v4 => ?_)
    refine s_ls (ls2 := [(3, tI v4), (0, tA l0), (1, tI l1), (2, tI l2)]) rfl ?_
    refine s_goto (i := 18) rfl (tgt := 2) (by decide) ?_
    exact s_sub [1, 2, 3, 0] rfl (hk_2 h3 l0 l1 l2 v4)
  · refine s_iload_n (i := 19) rfl 2 rfl ?_
    refine s_iflt (i := 20) rfl (tgt := 48) (by decide) (fun z28 => ?_) (fun z28 => ?_)
    · exact s_sub [] rfl (b_X1_give_48 X h)
    · refine s_iload_n (i := 21) rfl 2 rfl ?_
      refine s_iconst (i := 22) rfl (v := (4 : Int32)) (by decide) ?_
      refine s_icmpge (i := 23) rfl (tgt := 48) (by decide) (fun z33 => ?_) (fun z33 => ?_)
      · refine s_aload_n (i := 24) rfl 0 rfl ?_
        refine s_getR (i := 25) rfl xf_1_9.r rfl (fun v5 => ?_)
        refine s_iload_n (i := 26) rfl 2 rfl ?_
        refine s_dup2 (i := 27) rfl rfl rfl ?_
        refine s_iaload (i := 28) rfl (fun v6 => ?_)
        refine s_iconst (i := 29) rfl (v := (1 : Int32)) (by decide) ?_
        refine s_iload_n (i := 30) rfl 1 rfl ?_
        refine s_ishl (i := 31) rfl ?_
        refine s_ior (i := 32) rfl ?_
        refine s_iastore (i := 33) rfl (fun h7 => ?_)
        exact s_sub [] rfl (b_X1_give_48 X h7)
      · exact s_sub [] rfl (b_X1_give_48 X h)
theorem b_X1_give_2 (X : XX) : ∀ (n : Nat) (h : XM) (l0 : Option Nat) (l1 : Int32) (l2 : Int32) (l3 : Int32), SW X I_X1_give ρv 2 [(0, tA l0), (1, tI l1), (2, tI l2), (3, tI l3)] [] h 0 0 (f_X1_give_2 n h l0 l1 l2 l3) := by
  intro n
  induction n with
  | zero =>
    intro h l0 l1 l2 l3
    exact s_none
  | succ n ih =>
    intro h l0 l1 l2 l3
    exact bb_X1_give_2 X (f_X1_give_2 n) ih h l0 l1 l2 l3
theorem c_X1_give (h : XM) (a0 : Option Nat) (a1 : Int32) (a2 : Int32) : MC I_X1_give y_X1_give [tA a0, tI a1, tI a2] h ρv (f_X1_give h a0 a1 a2) := by
  refine MC_of ⟨by decide +kernel, rfl, rfl, Nat.le_of_ble_eq_true rfl⟩ dT_X1_give (fun X => ?_)
  show SW X I_X1_give ρv 0 [(0, tA a0), (1, tI a1), (2, tI a2)] [] h 0 0 (f_X1_give h a0 a1 a2)
  unfold f_X1_give
  refine s_iconst (i := 0) rfl (v := (0 : Int32)) (by decide) ?_
  refine s_istore_n (i := 1) rfl (Nat.le_of_ble_eq_true rfl) (ls2 := [(3, tI ((0 : Int32))), (0, tA a0), (1, tI a1), (2, tI a2)]) rfl ?_
  exact s_sub [1, 2, 3, 0] rfl (b_X1_give_2 X FU h a0 a1 a2 ((0 : Int32)))
def y_X1_leftOf : MethodName := ⟨"OpensAtNine$Gate", "leftOf", "(I)I"⟩
def T_X1_leftOf : List (Nat × Instr × Nat × Nat) := [(0, .iload_n 1, 1, 1), (1, .ifCond .lt 24, 3, 4), (4, .iload_n 1, 1, 5), (5, .iconst 4, 1, 6), (6, .if_icmp .ge 19, 3, 9), (9, .aload_n 0, 1, 10), (10, .getfield 9, 3, 13), (13, .iload_n 1, 1, 14), (14, .iaload, 1, 15), (15, .aload_n 0, 1, 16), (16, .getfield 45, 3, 19), (19, .iconst (-1), 1, 20), (20, .ixor, 1, 21), (21, .iand, 1, 22), (22, .goto 4, 3, 25), (25, .iconst 0, 1, 26), (26, .ireturn, 1, 27)]
def I_X1_leftOf : MI := (prog_3_method_10_code, 2, (some .int), "OpensAtNine$Gate", "leftOf", T_X1_leftOf, 0, 0, 1, 60)
theorem dT_X1_leftOf : ∀ q ∈ T_X1_leftOf, decode prog_3_method_10_code q.1 = .ok (q.2.1, q.2.2.1) ∧ q.2.2.2 = q.1 + q.2.2.1 := by decide +kernel
theorem xm_X1_leftOf : xCM y_X1_leftOf I_X1_leftOf 1 1 := ⟨⟨tw646, tw647⟩, tw70, tw648, ⟨xT1, 12, rfl⟩, ⟨by decide +kernel, by decide +kernel, by decide +kernel⟩⟩
noncomputable def f_X1_leftOf_26 (h : XM) (s0 : Int32) : Option (Int32 × XM) := some (s0, h)
noncomputable def f_X1_leftOf_25 (h : XM) : Option (Int32 × XM) := f_X1_leftOf_26 h ((0 : Int32))
noncomputable def f_X1_leftOf (h : XM) (a0 : Option Nat) (a1 : Int32) : Option (Int32 × XM) := if a1 < 0 then (f_X1_leftOf_25 h) else (if a1 < ((4 : Int32)) then ((gR h 1 a0 2).bind fun v1 => (rI h v1 a1).bind fun v2 => (gI h 1 a0 10).bind fun v3 => f_X1_leftOf_26 h (v2 &&& (v3 ^^^ ((-1 : Int32))))) else (f_X1_leftOf_25 h))
theorem b_X1_leftOf_26 (X : XX) (h : XM) (s0 : Int32) : SW X I_X1_leftOf ρi 26 [] [tI s0] h 0 0 (f_X1_leftOf_26 h s0) := by
  unfold f_X1_leftOf_26
  exact s_iret (i := 16) rfl rfl
theorem b_X1_leftOf_25 (X : XX) (h : XM) : SW X I_X1_leftOf ρi 25 [] [] h 0 0 (f_X1_leftOf_25 h) := by
  unfold f_X1_leftOf_25
  refine s_iconst (i := 15) rfl (v := (0 : Int32)) (by decide) ?_
  exact s_sub [] rfl (b_X1_leftOf_26 X h ((0 : Int32)))
theorem c_X1_leftOf (h : XM) (a0 : Option Nat) (a1 : Int32) : MC I_X1_leftOf y_X1_leftOf [tA a0, tI a1] h ρi (f_X1_leftOf h a0 a1) := by
  refine MC_of ⟨by decide +kernel, rfl, rfl, Nat.le_of_ble_eq_true rfl⟩ dT_X1_leftOf (fun X => ?_)
  show SW X I_X1_leftOf ρi 0 [(0, tA a0), (1, tI a1)] [] h 0 0 (f_X1_leftOf h a0 a1)
  unfold f_X1_leftOf
  refine s_iload_n (i := 0) rfl 1 rfl ?_
  refine s_iflt (i := 1) rfl (tgt := 25) (by decide) (fun z1 => ?_) (fun z1 => ?_)
  · exact s_sub [] rfl (b_X1_leftOf_25 X h)
  · refine s_iload_n (i := 2) rfl 1 rfl ?_
    refine s_iconst (i := 3) rfl (v := (4 : Int32)) (by decide) ?_
    refine s_icmpge (i := 4) rfl (tgt := 25) (by decide) (fun z6 => ?_) (fun z6 => ?_)
    · refine s_aload_n (i := 5) rfl 0 rfl ?_
      refine s_getR (i := 6) rfl xf_1_9.r rfl (fun v1 => ?_)
      refine s_iload_n (i := 7) rfl 1 rfl ?_
      refine s_iaload (i := 8) rfl (fun v2 => ?_)
      refine s_aload_n (i := 9) rfl 0 rfl ?_
      refine s_getI (i := 10) rfl xf_1_45.r rfl (fun v3 => ?_)
      refine s_iconst (i := 11) rfl (v := (-1 : Int32)) (by decide) ?_
      refine s_ixor (i := 12) rfl ?_
      refine s_iand (i := 13) rfl ?_
      refine s_goto (i := 14) rfl (tgt := 26) (by decide) ?_
      exact s_sub [] rfl (b_X1_leftOf_26 X h (v2 &&& (v3 ^^^ ((-1 : Int32)))))
    · exact s_sub [] rfl (b_X1_leftOf_25 X h)
def y_X1_movable : MethodName := ⟨"OpensAtNine$Gate", "movable", "(I)I"⟩
def T_X1_movable : List (Nat × Instr × Nat × Nat) := [(0, .iconst 0, 1, 1), (1, .istore_n 2, 1, 2), (2, .iconst 0, 1, 3), (3, .istore_n 3, 1, 4), (4, .iload_n 3, 1, 5), (5, .aload_n 0, 1, 6), (6, .getfield 36, 3, 9), (9, .if_icmp .ge 33, 3, 12), (12, .iload_n 1, 1, 13), (13, .iload_n 3, 1, 14), (14, .ishr, 1, 15), (15, .iconst 1, 1, 16), (16, .iand, 1, 17), (17, .ifCond .eq 19, 3, 20), (20, .aload_n 0, 1, 21), (21, .iload_n 3, 1, 22), (22, .invokevirtual 51, 3, 25), (25, .ifCond .ne 11, 3, 28), (28, .iload_n 2, 1, 29), (29, .aload_n 0, 1, 30), (30, .iload_n 3, 1, 31), (31, .invokevirtual 55, 3, 34), (34, .ior, 1, 35), (35, .istore_n 2, 1, 36), (36, .iinc 3 1, 3, 39), (39, .goto (-35), 3, 42), (42, .iload_n 2, 1, 43), (43, .ireturn, 1, 44)]
def I_X1_movable : MI := (prog_3_method_11_code, 4, (some .int), "OpensAtNine$Gate", "movable", T_X1_movable, 0, 0, 2, 81)
theorem dT_X1_movable : ∀ q ∈ T_X1_movable, decode prog_3_method_11_code q.1 = .ok (q.2.1, q.2.2.1) ∧ q.2.2.2 = q.1 + q.2.2.1 := by decide +kernel
theorem xm_X1_movable : xCM y_X1_movable I_X1_movable 1 1 := ⟨⟨tw706, tw707⟩, tw70, tw708, ⟨xT1, 12, rfl⟩, ⟨by decide +kernel, by decide +kernel, by decide +kernel⟩⟩
noncomputable def f_X1_movable_36 (k_4 : XM → Option Nat → Int32 → Int32 → Int32 → Option (Int32 × XM)) (h : XM) (l0 : Option Nat) (l1 : Int32) (l2 : Int32) (l3 : Int32) : Option (Int32 × XM) := bnd (l3 + (1 : Int32)) fun v1 => k_4 h l0 l1 l2 v1
noncomputable def fb_X1_movable_4 (k_4 : XM → Option Nat → Int32 → Int32 → Int32 → Option (Int32 × XM)) (h : XM) (l0 : Option Nat) (l1 : Int32) (l2 : Int32) (l3 : Int32) : Option (Int32 × XM) := (gI h 1 l0 7).bind fun v2 => if l3 < v2 then (if ((l1 >>> (l3 &&& 31)) &&& ((1 : Int32))) = 0 then (f_X1_movable_36 k_4 h l0 l1 l2 l3) else ((vc h 1 l0 (f_X1_isInside h l0 l3)).bind fun q3 => if q3.1 = 0 then ((vc q3.2 1 l0 (f_X1_leftOf q3.2 l0 l3)).bind fun q4 => bnd (l2 ||| q4.1) fun v5 => f_X1_movable_36 k_4 q4.2 l0 l1 v5 l3) else (f_X1_movable_36 k_4 q3.2 l0 l1 l2 l3))) else (some (l2, h))
noncomputable def f_X1_movable_4 (n : Nat) : XM → Option Nat → Int32 → Int32 → Int32 → Option (Int32 × XM) := Nat.rec (motive := fun _ => XM → Option Nat → Int32 → Int32 → Int32 → Option (Int32 × XM)) (fun _ _ _ _ _ => none) (fun _ ih h l0 l1 l2 l3 => fb_X1_movable_4 ih h l0 l1 l2 l3) n
noncomputable def f_X1_movable (h : XM) (a0 : Option Nat) (a1 : Int32) : Option (Int32 × XM) := f_X1_movable_4 FU h a0 a1 ((0 : Int32)) ((0 : Int32))
theorem b_X1_movable_36 (X : XX) (k_4 : XM → Option Nat → Int32 → Int32 → Int32 → Option (Int32 × XM)) (hk_4 : ∀ h l0 l1 l2 l3, SW X I_X1_movable ρi 4 [(0, tA l0), (1, tI l1), (2, tI l2), (3, tI l3)] [] h 0 0 (k_4 h l0 l1 l2 l3)) (h : XM) (l0 : Option Nat) (l1 : Int32) (l2 : Int32) (l3 : Int32) : SW X I_X1_movable ρi 36 [(0, tA l0), (1, tI l1), (2, tI l2), (3, tI l3)] [] h 0 0 (f_X1_movable_36 k_4 h l0 l1 l2 l3) := by
  unfold f_X1_movable_36
  refine s_inc (i := 24) rfl 3 rfl (c9 := (1 : Int32)) (by decide) (Nat.le_of_ble_eq_true rfl) (fun v1 => ?_)
  refine s_ls (ls2 := [(3, tI v1), (0, tA l0), (1, tI l1), (2, tI l2)]) rfl ?_
  refine s_goto (i := 25) rfl (tgt := 4) (by decide) ?_
  exact s_sub [1, 2, 3, 0] rfl (hk_4 h l0 l1 l2 v1)
theorem bb_X1_movable_4 (X : XX) (k_4 : XM → Option Nat → Int32 → Int32 → Int32 → Option (Int32 × XM)) (hk_4 : ∀ h l0 l1 l2 l3, SW X I_X1_movable ρi 4 [(0, tA l0), (1, tI l1), (2, tI l2), (3, tI l3)] [] h 0 0 (k_4 h l0 l1 l2 l3)) (h : XM) (l0 : Option Nat) (l1 : Int32) (l2 : Int32) (l3 : Int32) : SW X I_X1_movable ρi 4 [(0, tA l0), (1, tI l1), (2, tI l2), (3, tI l3)] [] h 0 0 (fb_X1_movable_4 k_4 h l0 l1 l2 l3) := by
  unfold fb_X1_movable_4
  refine s_iload_n (i := 4) rfl 3 rfl ?_
  refine s_aload_n (i := 5) rfl 0 rfl ?_
  refine s_getI (i := 6) rfl xf_1_36.r rfl (fun v2 => ?_)
  refine s_icmpge (i := 7) rfl (tgt := 42) (by decide) (fun z9 => ?_) (fun z9 => ?_)
  · refine s_iload_n (i := 8) rfl 1 rfl ?_
    refine s_iload_n (i := 9) rfl 3 rfl ?_
    refine s_ishr (i := 10) rfl ?_
    refine s_iconst (i := 11) rfl (v := (1 : Int32)) (by decide) ?_
    refine s_iand (i := 12) rfl ?_
    refine s_ifeq (i := 13) rfl (tgt := 36) (by decide) (fun z17 => ?_) (fun z17 => ?_)
    · exact s_sub [0, 1, 2, 3] rfl (b_X1_movable_36 X k_4 hk_4 h l0 l1 l2 l3)
    · refine s_aload_n (i := 14) rfl 0 rfl ?_
      refine s_iload_n (i := 15) rfl 3 rfl ?_
      refine u_callVi (kk := 1) [tI l3] l0 [] rfl (i := 16) rfl (c_X1_isInside h l0 l3) xm_X1_isInside (tw639) rfl (Nat.le_of_ble_eq_true rfl) (xRm.of rfl) ⟨rfl, rfl⟩ (fun q3 => ?_)
      refine s_ifne (i := 17) rfl (tgt := 36) (by decide) (fun z25 => ?_) (fun z25 => ?_)
      · refine s_iload_n (i := 18) rfl 2 rfl ?_
        refine s_aload_n (i := 19) rfl 0 rfl ?_
        refine s_iload_n (i := 20) rfl 3 rfl ?_
        refine u_callVi (kk := 1) [tI l3] l0 [tI l2] rfl (i := 21) rfl (c_X1_leftOf q3.2 l0 l3) xm_X1_leftOf (tw645) rfl (Nat.le_of_ble_eq_true rfl) (xRm.of rfl) ⟨rfl, rfl⟩ (fun q4 => ?_)
        refine s_ior (i := 22) rfl ?_
        refine s_bnd (fun v5 => ?_)
        refine s_istore_n (i := 23) rfl (Nat.le_of_ble_eq_true rfl) (ls2 := [(2, tI v5), (0, tA l0), (1, tI l1), (3, tI l3)]) rfl ?_
        exact s_sub [1, 2, 0, 3] rfl (b_X1_movable_36 X k_4 hk_4 q4.2 l0 l1 v5 l3)
      · exact s_sub [0, 1, 2, 3] rfl (b_X1_movable_36 X k_4 hk_4 q3.2 l0 l1 l2 l3)
  · refine s_iload_n (i := 26) rfl 2 rfl ?_
    exact s_iret (i := 27) rfl rfl
theorem b_X1_movable_4 (X : XX) : ∀ (n : Nat) (h : XM) (l0 : Option Nat) (l1 : Int32) (l2 : Int32) (l3 : Int32), SW X I_X1_movable ρi 4 [(0, tA l0), (1, tI l1), (2, tI l2), (3, tI l3)] [] h 0 0 (f_X1_movable_4 n h l0 l1 l2 l3) := by
  intro n
  induction n with
  | zero =>
    intro h l0 l1 l2 l3
    exact s_none
  | succ n ih =>
    intro h l0 l1 l2 l3
    exact bb_X1_movable_4 X (f_X1_movable_4 n) ih h l0 l1 l2 l3
theorem c_X1_movable (h : XM) (a0 : Option Nat) (a1 : Int32) : MC I_X1_movable y_X1_movable [tA a0, tI a1] h ρi (f_X1_movable h a0 a1) := by
  refine MC_of ⟨by decide +kernel, rfl, rfl, Nat.le_of_ble_eq_true rfl⟩ dT_X1_movable (fun X => ?_)
  show SW X I_X1_movable ρi 0 [(0, tA a0), (1, tI a1)] [] h 0 0 (f_X1_movable h a0 a1)
  unfold f_X1_movable
  refine s_iconst (i := 0) rfl (v := (0 : Int32)) (by decide) ?_
  refine s_istore_n (i := 1) rfl (Nat.le_of_ble_eq_true rfl) (ls2 := [(2, tI ((0 : Int32))), (0, tA a0), (1, tI a1)]) rfl ?_
  refine s_iconst (i := 2) rfl (v := (0 : Int32)) (by decide) ?_
  refine s_istore_n (i := 3) rfl (Nat.le_of_ble_eq_true rfl) (ls2 := [(3, tI ((0 : Int32))), (2, tI ((0 : Int32))), (0, tA a0), (1, tI a1)]) rfl ?_
  exact s_sub [2, 3, 1, 0] rfl (b_X1_movable_4 X FU h a0 a1 ((0 : Int32)) ((0 : Int32)))
def y_X1_mayPut : MethodName := ⟨"OpensAtNine$Gate", "mayPut", "(I)Z"⟩
def T_X1_mayPut : List (Nat × Instr × Nat × Nat) := [(0, .aload_n 0, 1, 1), (1, .iload_n 1, 1, 2), (2, .invokevirtual 59, 3, 5), (5, .ifnull 27, 3, 8), (8, .aload_n 0, 1, 9), (9, .iload_n 1, 1, 10), (10, .invokevirtual 63, 3, 13), (13, .ifCond .ne 19, 3, 16), (16, .aload_n 0, 1, 17), (17, .aload_n 0, 1, 18), (18, .iload_n 1, 1, 19), (19, .invokevirtual 66, 3, 22), (22, .invokevirtual 51, 3, 25), (25, .ifCond .ne 7, 3, 28), (28, .iconst 1, 1, 29), (29, .goto 4, 3, 32), (32, .iconst 0, 1, 33), (33, .ireturn, 1, 34)]
def I_X1_mayPut : MI := (prog_3_method_12_code, 2, (some .boolean), "OpensAtNine$Gate", "mayPut", T_X1_mayPut, 0, 0, 2, 82)
theorem dT_X1_mayPut : ∀ q ∈ T_X1_mayPut, decode prog_3_method_12_code q.1 = .ok (q.2.1, q.2.2.1) ∧ q.2.2.2 = q.1 + q.2.2.1 := by decide +kernel
theorem xm_X1_mayPut : xCM y_X1_mayPut I_X1_mayPut 1 1 := ⟨⟨tw633, tw634⟩, tw70, tw635, ⟨xT1, 12, rfl⟩, ⟨by decide +kernel, by decide +kernel, by decide +kernel⟩⟩
noncomputable def f_X1_mayPut_33 (h : XM) (s0 : Int32) : Option (Int32 × XM) := rz h s0
noncomputable def f_X1_mayPut_32 (h : XM) : Option (Int32 × XM) := f_X1_mayPut_33 h ((0 : Int32))
noncomputable def f_X1_mayPut (h : XM) (a0 : Option Nat) (a1 : Int32) : Option (Int32 × XM) := (vc h 1 a0 (f_X1_coinAt h a0 a1)).bind fun q1 => if q1.1 = none then (f_X1_mayPut_32 q1.2) else ((vc q1.2 1 a0 (f_X1_isSpent q1.2 a0 a1)).bind fun q2 => if q2.1 = 0 then ((vc q2.2 1 a0 (f_X1_ownerOf q2.2 a0 a1)).bind fun q3 => (vc q3.2 1 a0 (f_X1_isInside q3.2 a0 q3.1)).bind fun q4 => if q4.1 = 0 then (f_X1_mayPut_33 q4.2 ((1 : Int32))) else (f_X1_mayPut_32 q4.2)) else (f_X1_mayPut_32 q2.2))
theorem b_X1_mayPut_33 (X : XX) (h : XM) (s0 : Int32) : SW X I_X1_mayPut ρi 33 [] [tI s0] h 0 0 (f_X1_mayPut_33 h s0) := by
  unfold f_X1_mayPut_33
  exact s_zret (i := 17) rfl rfl
theorem b_X1_mayPut_32 (X : XX) (h : XM) : SW X I_X1_mayPut ρi 32 [] [] h 0 0 (f_X1_mayPut_32 h) := by
  unfold f_X1_mayPut_32
  refine s_iconst (i := 16) rfl (v := (0 : Int32)) (by decide) ?_
  exact s_sub [] rfl (b_X1_mayPut_33 X h ((0 : Int32)))
theorem c_X1_mayPut (h : XM) (a0 : Option Nat) (a1 : Int32) : MC I_X1_mayPut y_X1_mayPut [tA a0, tI a1] h ρi (f_X1_mayPut h a0 a1) := by
  refine MC_of ⟨by decide +kernel, rfl, rfl, Nat.le_of_ble_eq_true rfl⟩ dT_X1_mayPut (fun X => ?_)
  show SW X I_X1_mayPut ρi 0 [(0, tA a0), (1, tI a1)] [] h 0 0 (f_X1_mayPut h a0 a1)
  unfold f_X1_mayPut
  refine s_aload_n (i := 0) rfl 0 rfl ?_
  refine s_iload_n (i := 1) rfl 1 rfl ?_
  refine u_callVa (kk := 1) [tI a1] a0 [] rfl (i := 2) rfl (c_X1_coinAt h a0 a1) xm_X1_coinAt (tw636) rfl (Nat.le_of_ble_eq_true rfl) (xRm.of rfl) ⟨rfl, rfl⟩ (fun q1 => ?_)
  refine s_ifnull (i := 3) rfl (tgt := 32) (by decide) (fun z5 => ?_) (fun z5 => ?_)
  · exact s_sub [] rfl (b_X1_mayPut_32 X q1.2)
  · refine s_aload_n (i := 4) rfl 0 rfl ?_
    refine s_iload_n (i := 5) rfl 1 rfl ?_
    refine u_callVi (kk := 1) [tI a1] a0 [] rfl (i := 6) rfl (c_X1_isSpent q1.2 a0 a1) xm_X1_isSpent (tw637) rfl (Nat.le_of_ble_eq_true rfl) (xRm.of rfl) ⟨rfl, rfl⟩ (fun q2 => ?_)
    refine s_ifne (i := 7) rfl (tgt := 32) (by decide) (fun z13 => ?_) (fun z13 => ?_)
    · refine s_aload_n (i := 8) rfl 0 rfl ?_
      refine s_aload_n (i := 9) rfl 0 rfl ?_
      refine s_iload_n (i := 10) rfl 1 rfl ?_
      refine u_callVi (kk := 1) [tI a1] a0 [tA a0] rfl (i := 11) rfl (c_X1_ownerOf q2.2 a0 a1) xm_X1_ownerOf (tw638) rfl (Nat.le_of_ble_eq_true rfl) (xRm.of rfl) ⟨rfl, rfl⟩ (fun q3 => ?_)
      refine u_callVi (kk := 1) [tI q3.1] a0 [] rfl (i := 12) rfl (c_X1_isInside q3.2 a0 q3.1) xm_X1_isInside (tw639) rfl (Nat.le_of_ble_eq_true rfl) (xRm.of rfl) ⟨rfl, rfl⟩ (fun q4 => ?_)
      refine s_ifne (i := 13) rfl (tgt := 32) (by decide) (fun z25 => ?_) (fun z25 => ?_)
      · refine s_iconst (i := 14) rfl (v := (1 : Int32)) (by decide) ?_
        refine s_goto (i := 15) rfl (tgt := 33) (by decide) ?_
        exact s_sub [] rfl (b_X1_mayPut_33 X q4.2 ((1 : Int32)))
      · exact s_sub [] rfl (b_X1_mayPut_32 X q4.2)
    · exact s_sub [] rfl (b_X1_mayPut_32 X q2.2)
def y_X1_restOf : MethodName := ⟨"OpensAtNine$Gate", "restOf", "(I)I"⟩
def T_X1_restOf : List (Nat × Instr × Nat × Nat) := [(0, .aload_n 0, 1, 1), (1, .getfield 18, 3, 4), (4, .ifCond .le 12, 3, 7), (7, .iload_n 1, 1, 8), (8, .aload_n 0, 1, 9), (9, .getfield 18, 3, 12), (12, .irem, 1, 13), (13, .goto 4, 3, 16), (16, .iconst 0, 1, 17), (17, .ireturn, 1, 18)]
def I_X1_restOf : MI := (prog_3_method_18_code, 2, (some .int), "OpensAtNine$Gate", "restOf", T_X1_restOf, 0, 0, 1, 60)
theorem dT_X1_restOf : ∀ q ∈ T_X1_restOf, decode prog_3_method_18_code q.1 = .ok (q.2.1, q.2.2.1) ∧ q.2.2.2 = q.1 + q.2.2.1 := by decide +kernel
theorem xm_X1_restOf : xCM y_X1_restOf I_X1_restOf 1 1 := ⟨⟨tw550, tw551⟩, tw70, tw552, ⟨xT1, 12, rfl⟩, ⟨by decide +kernel, by decide +kernel, by decide +kernel⟩⟩
noncomputable def f_X1_restOf_17 (h : XM) (s0 : Int32) : Option (Int32 × XM) := some (s0, h)
noncomputable def f_X1_restOf (h : XM) (a0 : Option Nat) (a1 : Int32) : Option (Int32 × XM) := (gI h 1 a0 4).bind fun v1 => if 0 < v1 then ((gI h 1 a0 4).bind fun v2 => (irem a1 v2).bind fun v3 => f_X1_restOf_17 h v3) else (f_X1_restOf_17 h ((0 : Int32)))
theorem b_X1_restOf_17 (X : XX) (h : XM) (s0 : Int32) : SW X I_X1_restOf ρi 17 [] [tI s0] h 0 0 (f_X1_restOf_17 h s0) := by
  unfold f_X1_restOf_17
  exact s_iret (i := 9) rfl rfl
theorem c_X1_restOf (h : XM) (a0 : Option Nat) (a1 : Int32) : MC I_X1_restOf y_X1_restOf [tA a0, tI a1] h ρi (f_X1_restOf h a0 a1) := by
  refine MC_of ⟨by decide +kernel, rfl, rfl, Nat.le_of_ble_eq_true rfl⟩ dT_X1_restOf (fun X => ?_)
  show SW X I_X1_restOf ρi 0 [(0, tA a0), (1, tI a1)] [] h 0 0 (f_X1_restOf h a0 a1)
  unfold f_X1_restOf
  refine s_aload_n (i := 0) rfl 0 rfl ?_
  refine s_getI (i := 1) rfl xf_1_18.r rfl (fun v1 => ?_)
  refine s_ifle (i := 2) rfl (tgt := 16) (by decide) (fun z4 => ?_) (fun z4 => ?_)
  · refine s_iload_n (i := 3) rfl 1 rfl ?_
    refine s_aload_n (i := 4) rfl 0 rfl ?_
    refine s_getI (i := 5) rfl xf_1_18.r rfl (fun v2 => ?_)
    refine s_irem (i := 6) rfl (fun v3 => ?_)
    refine s_goto (i := 7) rfl (tgt := 17) (by decide) ?_
    exact s_sub [] rfl (b_X1_restOf_17 X h v3)
  · refine s_iconst (i := 8) rfl (v := (0 : Int32)) (by decide) ?_
    exact s_sub [] rfl (b_X1_restOf_17 X h ((0 : Int32)))
def y_X1_lawSays : MethodName := ⟨"OpensAtNine$Gate", "lawSays", "(IIIIII)I"⟩
def T_X1_lawSays : List (Nat × Instr × Nat × Nat) := [(0, .aload_n 0, 1, 1), (1, .getfield 48, 3, 4), (4, .ifCond .lt 27, 3, 7), (7, .aload_n 0, 1, 8), (8, .getfield 48, 3, 11), (11, .aload_n 0, 1, 12), (12, .getfield 26, 3, 15), (15, .arraylength, 1, 16), (16, .if_icmp .ge 15, 3, 19), (19, .aload_n 0, 1, 20), (20, .getfield 26, 3, 23), (23, .aload_n 0, 1, 24), (24, .getfield 48, 3, 27), (27, .aaload, 1, 28), (28, .goto 4, 3, 31), (31, .aconst_null, 1, 32), (32, .astore 7, 2, 34), (34, .aload 7, 2, 36), (36, .ifnonnull 5, 3, 39), (39, .iconst 0, 1, 40), (40, .ireturn, 1, 41), (41, .aload_n 0, 1, 42), (42, .getfield 15, 3, 45), (45, .iconst 0, 1, 46), (46, .iload_n 2, 1, 47), (47, .iastore, 1, 48), (48, .aload_n 0, 1, 49), (49, .getfield 15, 3, 52), (52, .iconst 1, 1, 53), (53, .aload_n 0, 1, 54), (54, .iload_n 2, 1, 55), (55, .invokevirtual 102, 3, 58), (58, .iastore, 1, 59), (59, .aload_n 0, 1, 60), (60, .getfield 15, 3, 63), (63, .iconst 2, 1, 64), (64, .iload_n 3, 1, 65), (65, .iastore, 1, 66), (66, .aload_n 0, 1, 67), (67, .getfield 15, 3, 70), (70, .iconst 3, 1, 71), (71, .iload 4, 2, 73), (73, .iastore, 1, 74), (74, .aload_n 0, 1, 75), (75, .getfield 15, 3, 78), (78, .iconst 4, 1, 79), (79, .iload 5, 2, 81), (81, .iastore, 1, 82), (82, .aload_n 0, 1, 83), (83, .getfield 15, 3, 86), (86, .iconst 5, 1, 87), (87, .iload 6, 2, 89), (89, .iastore, 1, 90), (90, .aload 7, 2, 92), (92, .iload_n 1, 1, 93), (93, .aload_n 0, 1, 94), (94, .getfield 15, 3, 97), (97, .invokevirtual 105, 3, 100), (100, .istore 8, 2, 102), (102, .iload_n 1, 1, 103), (103, .ifCond .ne 14, 3, 106), (106, .iload 8, 2, 108), (108, .ifCond .eq 7, 3, 111), (111, .iconst 1, 1, 112), (112, .goto 4, 3, 115), (115, .iconst 0, 1, 116), (116, .ireturn, 1, 117), (117, .iconst 0, 1, 118), (118, .bipush 99, 2, 120), (120, .iload 8, 2, 122), (122, .invokestatic 74, 3, 125), (125, .invokestatic 111, 3, 128), (128, .ireturn, 1, 129)]
def I_X1_lawSays : MI := (prog_3_method_19_code, 9, (some .int), "OpensAtNine$Gate", "lawSays", T_X1_lawSays, 0, 0, 3, 108)
theorem dT_X1_lawSays : ∀ q ∈ T_X1_lawSays, decode prog_3_method_19_code q.1 = .ok (q.2.1, q.2.2.1) ∧ q.2.2.2 = q.1 + q.2.2.1 := by decide +kernel
theorem xm_X1_lawSays : xCM y_X1_lawSays I_X1_lawSays 1 6 := ⟨⟨tw546, tw547⟩, tw70, tw548, ⟨xT1, 12, rfl⟩, ⟨by decide +kernel, by decide +kernel, by decide +kernel⟩⟩
noncomputable def f_X1_lawSays_116 (h : XM) (s0 : Int32) : Option (Int32 × XM) := some (s0, h)
noncomputable def f_X1_lawSays_32 (h : XM) (l0 : Option Nat) (l1 : Int32) (l2 : Int32) (l3 : Int32) (l4 : Int32) (l5 : Int32) (l6 : Int32) (s0 : Option Nat) : Option (Int32 × XM) := if s0 = none then (some ((0 : Int32), h)) else ((gR h 1 l0 3).bind fun v1 => (sI h v1 ((0 : Int32)) l2).bind fun h2 => (gR h2 1 l0 3).bind fun v3 => (vc h2 1 l0 (f_X1_restOf h2 l0 l2)).bind fun q4 => (sI q4.2 v3 ((1 : Int32)) q4.1).bind fun h5 => (gR h5 1 l0 3).bind fun v6 => (sI h5 v6 ((2 : Int32)) l3).bind fun h7 => (gR h7 1 l0 3).bind fun v8 => (sI h7 v8 ((3 : Int32)) l4).bind fun h9 => (gR h9 1 l0 3).bind fun v10 => (sI h9 v10 ((4 : Int32)) l5).bind fun h11 => (gR h11 1 l0 3).bind fun v12 => (sI h11 v12 ((5 : Int32)) l6).bind fun h13 => (gR h13 1 l0 3).bind fun v14 => (vc h13 5 s0 (f_X5_says h13 s0 l1 v14)).bind fun q15 => if l1 = 0 then (if q15.1 = 0 then (f_X1_lawSays_116 q15.2 ((0 : Int32))) else (f_X1_lawSays_116 q15.2 ((1 : Int32)))) else (bnd (if q15.1 < ((99 : Int32)) then q15.1 else ((99 : Int32))) fun v16 => bnd (if ((0 : Int32)) < v16 then v16 else ((0 : Int32))) fun v17 => some (v17, q15.2)))
noncomputable def f_X1_lawSays_31 (h : XM) (l0 : Option Nat) (l1 : Int32) (l2 : Int32) (l3 : Int32) (l4 : Int32) (l5 : Int32) (l6 : Int32) : Option (Int32 × XM) := f_X1_lawSays_32 h l0 l1 l2 l3 l4 l5 l6 none
noncomputable def f_X1_lawSays (h : XM) (a0 : Option Nat) (a1 : Int32) (a2 : Int32) (a3 : Int32) (a4 : Int32) (a5 : Int32) (a6 : Int32) : Option (Int32 × XM) := (gI h 1 a0 11).bind fun v18 => if v18 < 0 then (f_X1_lawSays_31 h a0 a1 a2 a3 a4 a5 a6) else ((gI h 1 a0 11).bind fun v19 => (gR h 1 a0 1).bind fun v20 => (ln h v20).bind fun v21 => if v19 < v21 then ((gR h 1 a0 1).bind fun v22 => (gI h 1 a0 11).bind fun v23 => (rR 13 h v22 v23).bind fun v24 => f_X1_lawSays_32 h a0 a1 a2 a3 a4 a5 a6 v24) else (f_X1_lawSays_31 h a0 a1 a2 a3 a4 a5 a6))
theorem b_X1_lawSays_116 (X : XX) (h : XM) (s0 : Int32) : SW X I_X1_lawSays ρi 116 [] [tI s0] h 0 0 (f_X1_lawSays_116 h s0) := by
  unfold f_X1_lawSays_116
  exact s_iret (i := 66) rfl rfl
theorem b_X1_lawSays_32 (X : XX) (h : XM) (l0 : Option Nat) (l1 : Int32) (l2 : Int32) (l3 : Int32) (l4 : Int32) (l5 : Int32) (l6 : Int32) (s0 : Option Nat) : SW X I_X1_lawSays ρi 32 [(0, tA l0), (1, tI l1), (2, tI l2), (3, tI l3), (4, tI l4), (5, tI l5), (6, tI l6)] [tA s0] h 0 0 (f_X1_lawSays_32 h l0 l1 l2 l3 l4 l5 l6 s0) := by
  unfold f_X1_lawSays_32
  refine s_astore (i := 16) rfl (Nat.le_of_ble_eq_true rfl) (ls2 := [(7, tA s0), (0, tA l0), (1, tI l1), (2, tI l2), (3, tI l3), (4, tI l4), (5, tI l5), (6, tI l6)]) rfl ?_
  refine s_aload (i := 17) rfl 0 rfl ?_
  refine s_ifnonnull (i := 18) rfl (tgt := 41) (by decide) (fun z36 => ?_) (fun z36 => ?_)
  · refine s_iconst (i := 19) rfl (v := (0 : Int32)) (by decide) ?_
    exact s_iret (i := 20) rfl rfl
  · refine s_aload_n (i := 21) rfl 1 rfl ?_
    refine s_getR (i := 22) rfl xf_1_15.r rfl (fun v1 => ?_)
    refine s_iconst (i := 23) rfl (v := (0 : Int32)) (by decide) ?_
    refine s_iload_n (i := 24) rfl 3 rfl ?_
    refine s_iastore (i := 25) rfl (fun h2 => ?_)
    refine s_aload_n (i := 26) rfl 1 rfl ?_
    refine s_getR (i := 27) rfl xf_1_15.r rfl (fun v3 => ?_)
    refine s_iconst (i := 28) rfl (v := (1 : Int32)) (by decide) ?_
    refine s_aload_n (i := 29) rfl 1 rfl ?_
    refine s_iload_n (i := 30) rfl 3 rfl ?_
    refine u_callVi (kk := 1) [tI l2] l0 [tI ((1 : Int32)), tA v3] rfl (i := 31) rfl (c_X1_restOf h2 l0 l2) xm_X1_restOf (tw549) rfl (Nat.le_of_ble_eq_true rfl) (xRm.of rfl) ⟨rfl, rfl⟩ (fun q4 => ?_)
    refine s_iastore (i := 32) rfl (fun h5 => ?_)
    refine s_aload_n (i := 33) rfl 1 rfl ?_
    refine s_getR (i := 34) rfl xf_1_15.r rfl (fun v6 => ?_)
    refine s_iconst (i := 35) rfl (v := (2 : Int32)) (by decide) ?_
    refine s_iload_n (i := 36) rfl 4 rfl ?_
    refine s_iastore (i := 37) rfl (fun h7 => ?_)
    refine s_aload_n (i := 38) rfl 1 rfl ?_
    refine s_getR (i := 39) rfl xf_1_15.r rfl (fun v8 => ?_)
    refine s_iconst (i := 40) rfl (v := (3 : Int32)) (by decide) ?_
    refine s_iload (i := 41) rfl 5 rfl ?_
    refine s_iastore (i := 42) rfl (fun h9 => ?_)
    refine s_aload_n (i := 43) rfl 1 rfl ?_
    refine s_getR (i := 44) rfl xf_1_15.r rfl (fun v10 => ?_)
    refine s_iconst (i := 45) rfl (v := (4 : Int32)) (by decide) ?_
    refine s_iload (i := 46) rfl 6 rfl ?_
    refine s_iastore (i := 47) rfl (fun h11 => ?_)
    refine s_aload_n (i := 48) rfl 1 rfl ?_
    refine s_getR (i := 49) rfl xf_1_15.r rfl (fun v12 => ?_)
    refine s_iconst (i := 50) rfl (v := (5 : Int32)) (by decide) ?_
    refine s_iload (i := 51) rfl 7 rfl ?_
    refine s_iastore (i := 52) rfl (fun h13 => ?_)
    refine s_aload (i := 53) rfl 0 rfl ?_
    refine s_iload_n (i := 54) rfl 2 rfl ?_
    refine s_aload_n (i := 55) rfl 1 rfl ?_
    refine s_getR (i := 56) rfl xf_1_15.r rfl (fun v14 => ?_)
    refine u_callVi (kk := 5) [tI l1, tA v14] s0 [] rfl (i := 57) rfl (c_X5_says h13 s0 l1 v14) xm_X5_says (tw553) rfl (Nat.le_of_ble_eq_true rfl) (xRm.of rfl) ⟨rfl, rfl⟩ (fun q15 => ?_)
    refine s_istore (i := 58) rfl (Nat.le_of_ble_eq_true rfl) (ls2 := [(8, tI q15.1), (7, tA s0), (0, tA l0), (1, tI l1), (2, tI l2), (3, tI l3), (4, tI l4), (5, tI l5), (6, tI l6)]) rfl ?_
    refine s_iload_n (i := 59) rfl 3 rfl ?_
    refine s_ifne (i := 60) rfl (tgt := 117) (by decide) (fun z103 => ?_) (fun z103 => ?_)
    · refine s_iload (i := 61) rfl 0 rfl ?_
      refine s_ifeq (i := 62) rfl (tgt := 115) (by decide) (fun z108 => ?_) (fun z108 => ?_)
      · refine s_iconst (i := 65) rfl (v := (0 : Int32)) (by decide) ?_
        exact s_sub [] rfl (b_X1_lawSays_116 X q15.2 ((0 : Int32)))
      · refine s_iconst (i := 63) rfl (v := (1 : Int32)) (by decide) ?_
        refine s_goto (i := 64) rfl (tgt := 116) (by decide) ?_
        exact s_sub [] rfl (b_X1_lawSays_116 X q15.2 ((1 : Int32)))
    · refine s_iconst (i := 67) rfl (v := (0 : Int32)) (by decide) ?_
      refine s_bipush (i := 68) rfl (v := (99 : Int32)) (by decide) ?_
      refine s_iload (i := 69) rfl 0 rfl ?_
      refine s_mmin (i := 70) rfl ⟨tw567, tw446, tw82, tw447⟩ (Nat.le_of_ble_eq_true rfl) ⟨by decide, by decide⟩ ?_
      refine s_bnd (fun v16 => ?_)
      refine s_mmax (i := 71) rfl ⟨tw568, tw559, tw82, tw560⟩ (Nat.le_of_ble_eq_true rfl) ⟨by decide, by decide⟩ ?_
      refine s_bnd (fun v17 => ?_)
      exact s_iret (i := 72) rfl rfl
theorem b_X1_lawSays_31 (X : XX) (h : XM) (l0 : Option Nat) (l1 : Int32) (l2 : Int32) (l3 : Int32) (l4 : Int32) (l5 : Int32) (l6 : Int32) : SW X I_X1_lawSays ρi 31 [(0, tA l0), (1, tI l1), (2, tI l2), (3, tI l3), (4, tI l4), (5, tI l5), (6, tI l6)] [] h 0 0 (f_X1_lawSays_31 h l0 l1 l2 l3 l4 l5 l6) := by
  unfold f_X1_lawSays_31
  refine s_null (i := 15) rfl ?_
  exact s_sub [0, 1, 2, 3, 4, 5, 6] rfl (b_X1_lawSays_32 X h l0 l1 l2 l3 l4 l5 l6 none)
theorem c_X1_lawSays (h : XM) (a0 : Option Nat) (a1 : Int32) (a2 : Int32) (a3 : Int32) (a4 : Int32) (a5 : Int32) (a6 : Int32) : MC I_X1_lawSays y_X1_lawSays [tA a0, tI a1, tI a2, tI a3, tI a4, tI a5, tI a6] h ρi (f_X1_lawSays h a0 a1 a2 a3 a4 a5 a6) := by
  refine MC_of ⟨by decide +kernel, rfl, rfl, Nat.le_of_ble_eq_true rfl⟩ dT_X1_lawSays (fun X => ?_)
  show SW X I_X1_lawSays ρi 0 [(0, tA a0), (1, tI a1), (2, tI a2), (3, tI a3), (4, tI a4), (5, tI a5), (6, tI a6)] [] h 0 0 (f_X1_lawSays h a0 a1 a2 a3 a4 a5 a6)
  unfold f_X1_lawSays
  refine s_aload_n (i := 0) rfl 0 rfl ?_
  refine s_getI (i := 1) rfl xf_1_48.r rfl (fun v18 => ?_)
  refine s_iflt (i := 2) rfl (tgt := 31) (by decide) (fun z4 => ?_) (fun z4 => ?_)
  · exact s_sub [0, 1, 2, 3, 4, 5, 6] rfl (b_X1_lawSays_31 X h a0 a1 a2 a3 a4 a5 a6)
  · refine s_aload_n (i := 3) rfl 0 rfl ?_
    refine s_getI (i := 4) rfl xf_1_48.r rfl (fun v19 => ?_)
    refine s_aload_n (i := 5) rfl 0 rfl ?_
    refine s_getR (i := 6) rfl xf_1_26.r rfl (fun v20 => ?_)
    refine s_alen (i := 7) rfl (fun v21 => ?_)
    refine s_icmpge (i := 8) rfl (tgt := 31) (by decide) (fun z16 => ?_) (fun z16 => ?_)
    · refine s_aload_n (i := 9) rfl 0 rfl ?_
      refine s_getR (i := 10) rfl xf_1_26.r rfl (fun v22 => ?_)
      refine s_aload_n (i := 11) rfl 0 rfl ?_
      refine s_getI (i := 12) rfl xf_1_48.r rfl (fun v23 => ?_)
      refine s_aaload (i := 13) rfl (kk := 13) ⟨by decide, by decide⟩ (fun v24 => ?_)
      refine s_goto (i := 14) rfl (tgt := 32) (by decide) ?_
      exact s_sub [0, 1, 2, 3, 4, 5, 6] rfl (b_X1_lawSays_32 X h a0 a1 a2 a3 a4 a5 a6 v24)
    · exact s_sub [0, 1, 2, 3, 4, 5, 6] rfl (b_X1_lawSays_31 X h a0 a1 a2 a3 a4 a5 a6)
def y_X1_waitOn : MethodName := ⟨"OpensAtNine$Gate", "waitOn", "()V"⟩
def T_X1_waitOn : List (Nat × Instr × Nat × Nat) := [(0, .aload_n 0, 1, 1), (1, .bipush 99, 2, 3), (3, .aload_n 0, 1, 4), (4, .getfield 33, 3, 7), (7, .iconst 1, 1, 8), (8, .iadd, 1, 9), (9, .invokestatic 74, 3, 12), (12, .putfield 33, 3, 15), (15, .return_, 1, 16)]
def I_X1_waitOn : MI := (prog_3_method_14_code, 1, none, "OpensAtNine$Gate", "waitOn", T_X1_waitOn, 0, 0, 2, 81)
theorem dT_X1_waitOn : ∀ q ∈ T_X1_waitOn, decode prog_3_method_14_code q.1 = .ok (q.2.1, q.2.2.1) ∧ q.2.2.2 = q.1 + q.2.2.1 := by decide +kernel
theorem xm_X1_waitOn : xCM y_X1_waitOn I_X1_waitOn 1 0 := ⟨⟨tw657, tw658⟩, tw70, tw659, ⟨xT1, 12, rfl⟩, ⟨by decide +kernel, by decide +kernel, by decide +kernel⟩⟩
noncomputable def f_X1_waitOn (h : XM) (a0 : Option Nat) : Option (XM) := (gI h 1 a0 6).bind fun v1 => bnd (if (v1 + ((1 : Int32))) < ((99 : Int32)) then (v1 + ((1 : Int32))) else ((99 : Int32))) fun v2 => (pI h 1 a0 6 v2).bind fun h3 => some h3
theorem c_X1_waitOn (h : XM) (a0 : Option Nat) : MC I_X1_waitOn y_X1_waitOn [tA a0] h ρv (f_X1_waitOn h a0) := by
  refine MC_of ⟨by decide +kernel, rfl, rfl, Nat.le_of_ble_eq_true rfl⟩ dT_X1_waitOn (fun X => ?_)
  show SW X I_X1_waitOn ρv 0 [(0, tA a0)] [] h 0 0 (f_X1_waitOn h a0)
  unfold f_X1_waitOn
  refine s_aload_n (i := 0) rfl 0 rfl ?_
  refine s_bipush (i := 1) rfl (v := (99 : Int32)) (by decide) ?_
  refine s_aload_n (i := 2) rfl 0 rfl ?_
  refine s_getI (i := 3) rfl xf_1_33.r rfl (fun v1 => ?_)
  refine s_iconst (i := 4) rfl (v := (1 : Int32)) (by decide) ?_
  refine s_iadd (i := 5) rfl ?_
  refine s_mmin (i := 6) rfl ⟨tw567, tw446, tw82, tw447⟩ (Nat.le_of_ble_eq_true rfl) ⟨by decide, by decide⟩ ?_
  refine s_bnd (fun v2 => ?_)
  refine s_putI (i := 7) rfl xf_1_33 (fun q => by cases q) rfl rfl (fun h3 => ?_)
  exact s_vret (i := 8) rfl rfl
def y_X1_putIn : MethodName := ⟨"OpensAtNine$Gate", "putIn", "(I)Z"⟩
def T_X1_putIn : List (Nat × Instr × Nat × Nat) := [(0, .aload_n 0, 1, 1), (1, .iload_n 1, 1, 2), (2, .invokevirtual 59, 3, 5), (5, .astore_n 2, 1, 6), (6, .aload_n 2, 1, 7), (7, .ifnonnull 5, 3, 10), (10, .iconst 0, 1, 11), (11, .ireturn, 1, 12), (12, .aload_n 0, 1, 13), (13, .iload_n 1, 1, 14), (14, .invokevirtual 66, 3, 17), (17, .istore_n 3, 1, 18), (18, .aload_n 2, 1, 19), (19, .aload_n 0, 1, 20), (20, .getfield 30, 3, 23), (23, .invokevirtual 69, 3, 26), (26, .istore 4, 2, 28), (28, .aload_n 0, 1, 29), (29, .sipush 9999, 3, 32), (32, .aload_n 0, 1, 33), (33, .getfield 30, 3, 36), (36, .iload 4, 2, 38), (38, .iadd, 1, 39), (39, .invokestatic 74, 3, 42), (42, .putfield 30, 3, 45), (45, .aload_n 0, 1, 46), (46, .dup, 1, 47), (47, .getfield 45, 3, 50), (50, .iconst 1, 1, 51), (51, .iload_n 1, 1, 52), (52, .ishl, 1, 53), (53, .ior, 1, 54), (54, .putfield 45, 3, 57), (57, .aload_n 0, 1, 58), (58, .iconst 0, 1, 59), (59, .aload_n 0, 1, 60), (60, .getfield 30, 3, 63), (63, .iload 4, 2, 65), (65, .aload_n 0, 1, 66), (66, .getfield 33, 3, 69), (69, .aload_n 0, 1, 70), (70, .iload_n 3, 1, 71), (71, .invokevirtual 55, 3, 74), (74, .invokestatic 80, 3, 77), (77, .iload_n 3, 1, 78), (78, .invokevirtual 85, 3, 81), (81, .ifCond .eq 7, 3, 84), (84, .iconst 1, 1, 85), (85, .goto 4, 3, 88), (88, .iconst 0, 1, 89), (89, .istore 5, 2, 91), (91, .aload_n 0, 1, 92), (92, .invokevirtual 89, 3, 95), (95, .iload 5, 2, 97), (97, .ifCond .eq 15, 3, 100), (100, .aload_n 0, 1, 101), (101, .dup, 1, 102), (102, .getfield 39, 3, 105), (105, .iconst 1, 1, 106), (106, .iload_n 3, 1, 107), (107, .ishl, 1, 108), (108, .ior, 1, 109), (109, .putfield 39, 3, 112), (112, .iload 5, 2, 114), (114, .ireturn, 1, 115)]
def I_X1_putIn : MI := (prog_3_method_13_code, 6, (some .boolean), "OpensAtNine$Gate", "putIn", T_X1_putIn, 0, 0, 4, 136)
theorem dT_X1_putIn : ∀ q ∈ T_X1_putIn, decode prog_3_method_13_code q.1 = .ok (q.2.1, q.2.2.1) ∧ q.2.2.2 = q.1 + q.2.2.1 := by decide +kernel
theorem xm_X1_putIn : xCM y_X1_putIn I_X1_putIn 1 1 := ⟨⟨tw641, tw642⟩, tw70, tw643, ⟨xT1, 12, rfl⟩, ⟨by decide +kernel, by decide +kernel, by decide +kernel⟩⟩
noncomputable def f_X1_putIn_112 (h : XM) (l5 : Int32) : Option (Int32 × XM) := rz h l5
noncomputable def f_X1_putIn_89 (h : XM) (l0 : Option Nat) (l3 : Int32) (s0 : Int32) : Option (Int32 × XM) := (vc h 1 l0 (f_X1_waitOn h l0)).bind fun q1 => if s0 = 0 then (f_X1_putIn_112 q1 s0) else ((gI q1 1 l0 8).bind fun v2 => (pI q1 1 l0 8 (v2 ||| (((1 : Int32)) <<< (l3 &&& 31)))).bind fun h3 => f_X1_putIn_112 h3 s0)
noncomputable def f_X1_putIn (h : XM) (a0 : Option Nat) (a1 : Int32) : Option (Int32 × XM) := (vc h 1 a0 (f_X1_coinAt h a0 a1)).bind fun q4 => if q4.1 = none then (rz q4.2 ((0 : Int32))) else ((vc q4.2 1 a0 (f_X1_ownerOf q4.2 a0 a1)).bind fun q5 => (gI q5.2 1 a0 5).bind fun v6 => (vc q5.2 0 q4.1 (f_X0_countsBy q5.2 q4.1 v6)).bind fun q7 => (gI q7.2 1 a0 5).bind fun v8 => bnd (if (v8 + q7.1) < ((9999 : Int32)) then (v8 + q7.1) else ((9999 : Int32))) fun v9 => (pI q7.2 1 a0 5 v9).bind fun h10 => (gI h10 1 a0 10).bind fun v11 => (pI h10 1 a0 10 (v11 ||| (((1 : Int32)) <<< (a1 &&& 31)))).bind fun h12 => (gI h12 1 a0 5).bind fun v13 => (gI h12 1 a0 6).bind fun v14 => (vc h12 1 a0 (f_X1_leftOf h12 a0 q5.1)).bind fun q15 => (f_J6_bitCount q15.2 q15.1).bind fun q16 => (vc q16.2 1 a0 (f_X1_lawSays q16.2 a0 ((0 : Int32)) v13 q7.1 v14 q16.1 q5.1)).bind fun q17 => if q17.1 = 0 then (f_X1_putIn_89 q17.2 a0 q5.1 ((0 : Int32))) else (f_X1_putIn_89 q17.2 a0 q5.1 ((1 : Int32))))
theorem b_X1_putIn_112 (X : XX) (h : XM) (l5 : Int32) : SW X I_X1_putIn ρi 112 [(5, tI l5)] [] h 0 0 (f_X1_putIn_112 h l5) := by
  unfold f_X1_putIn_112
  refine s_iload (i := 63) rfl 0 rfl ?_
  exact s_zret (i := 64) rfl rfl
theorem b_X1_putIn_89 (X : XX) (h : XM) (l0 : Option Nat) (l3 : Int32) (s0 : Int32) : SW X I_X1_putIn ρi 89 [(0, tA l0), (3, tI l3)] [tI s0] h 0 0 (f_X1_putIn_89 h l0 l3 s0) := by
  unfold f_X1_putIn_89
  refine s_istore (i := 50) rfl (Nat.le_of_ble_eq_true rfl) (ls2 := [(5, tI s0), (0, tA l0), (3, tI l3)]) rfl ?_
  refine s_aload_n (i := 51) rfl 1 rfl ?_
  refine u_callVv (kk := 1) [] l0 [] rfl (i := 52) rfl (c_X1_waitOn h l0) xm_X1_waitOn (tw656) rfl (Nat.le_of_ble_eq_true rfl) (xRm.of rfl) ⟨rfl, rfl⟩ (fun q1 => ?_)
  refine s_iload (i := 53) rfl 0 rfl ?_
  refine s_ifeq (i := 54) rfl (tgt := 112) (by decide) (fun z97 => ?_) (fun z97 => ?_)
  · exact s_sub [0] rfl (b_X1_putIn_112 X q1 s0)
  · refine s_aload_n (i := 55) rfl 1 rfl ?_
    refine s_dup (i := 56) rfl rfl ?_
    refine s_getI (i := 57) rfl xf_1_39.r rfl (fun v2 => ?_)
    refine s_iconst (i := 58) rfl (v := (1 : Int32)) (by decide) ?_
    refine s_iload_n (i := 59) rfl 2 rfl ?_
    refine s_ishl (i := 60) rfl ?_
    refine s_ior (i := 61) rfl ?_
    refine s_putI (i := 62) rfl xf_1_39 (fun q => by cases q) rfl rfl (fun h3 => ?_)
    exact s_sub [0] rfl (b_X1_putIn_112 X h3 s0)
theorem c_X1_putIn (h : XM) (a0 : Option Nat) (a1 : Int32) : MC I_X1_putIn y_X1_putIn [tA a0, tI a1] h ρi (f_X1_putIn h a0 a1) := by
  refine MC_of ⟨by decide +kernel, rfl, rfl, Nat.le_of_ble_eq_true rfl⟩ dT_X1_putIn (fun X => ?_)
  show SW X I_X1_putIn ρi 0 [(0, tA a0), (1, tI a1)] [] h 0 0 (f_X1_putIn h a0 a1)
  unfold f_X1_putIn
  refine s_aload_n (i := 0) rfl 0 rfl ?_
  refine s_iload_n (i := 1) rfl 1 rfl ?_
  refine u_callVa (kk := 1) [tI a1] a0 [] rfl (i := 2) rfl (c_X1_coinAt h a0 a1) xm_X1_coinAt (tw636) rfl (Nat.le_of_ble_eq_true rfl) (xRm.of rfl) ⟨rfl, rfl⟩ (fun q4 => ?_)
  refine s_astore_n (i := 3) rfl (Nat.le_of_ble_eq_true rfl) (ls2 := [(2, tA q4.1), (0, tA a0), (1, tI a1)]) rfl ?_
  refine s_aload_n (i := 4) rfl 0 rfl ?_
  refine s_ifnonnull (i := 5) rfl (tgt := 12) (by decide) (fun z7 => ?_) (fun z7 => ?_)
  · refine s_iconst (i := 6) rfl (v := (0 : Int32)) (by decide) ?_
    exact s_zret (i := 7) rfl rfl
  · refine s_aload_n (i := 8) rfl 1 rfl ?_
    refine s_iload_n (i := 9) rfl 2 rfl ?_
    refine u_callVi (kk := 1) [tI a1] a0 [] rfl (i := 10) rfl (c_X1_ownerOf q4.2 a0 a1) xm_X1_ownerOf (tw638) rfl (Nat.le_of_ble_eq_true rfl) (xRm.of rfl) ⟨rfl, rfl⟩ (fun q5 => ?_)
    refine s_istore_n (i := 11) rfl (Nat.le_of_ble_eq_true rfl) (ls2 := [(3, tI q5.1), (2, tA q4.1), (0, tA a0), (1, tI a1)]) rfl ?_
    refine s_aload_n (i := 12) rfl 1 rfl ?_
    refine s_aload_n (i := 13) rfl 2 rfl ?_
    refine s_getI (i := 14) rfl xf_1_30.r rfl (fun v6 => ?_)
    refine u_callVi (kk := 0) [tI v6] q4.1 [] rfl (i := 15) rfl (c_X0_countsBy q5.2 q4.1 v6) xm_X0_countsBy (tw644) rfl (Nat.le_of_ble_eq_true rfl) (xRm.of rfl) ⟨rfl, rfl⟩ (fun q7 => ?_)
    refine s_istore (i := 16) rfl (Nat.le_of_ble_eq_true rfl) (ls2 := [(4, tI q7.1), (3, tI q5.1), (2, tA q4.1), (0, tA a0), (1, tI a1)]) rfl ?_
    refine s_aload_n (i := 17) rfl 3 rfl ?_
    refine s_sipush (i := 18) rfl (v := (9999 : Int32)) (by decide) ?_
    refine s_aload_n (i := 19) rfl 3 rfl ?_
    refine s_getI (i := 20) rfl xf_1_30.r rfl (fun v8 => ?_)
    refine s_iload (i := 21) rfl 0 rfl ?_
    refine s_iadd (i := 22) rfl ?_
    refine s_mmin (i := 23) rfl ⟨tw567, tw446, tw82, tw447⟩ (Nat.le_of_ble_eq_true rfl) ⟨by decide, by decide⟩ ?_
    refine s_bnd (fun v9 => ?_)
    refine s_putI (i := 24) rfl xf_1_30 (fun q => by cases q) rfl rfl (fun h10 => ?_)
    refine s_aload_n (i := 25) rfl 3 rfl ?_
    refine s_dup (i := 26) rfl rfl ?_
    refine s_getI (i := 27) rfl xf_1_45.r rfl (fun v11 => ?_)
    refine s_iconst (i := 28) rfl (v := (1 : Int32)) (by decide) ?_
    refine s_iload_n (i := 29) rfl 4 rfl ?_
    refine s_ishl (i := 30) rfl ?_
    refine s_ior (i := 31) rfl ?_
    refine s_putI (i := 32) rfl xf_1_45 (fun q => by cases q) rfl rfl (fun h12 => ?_)
    refine s_aload_n (i := 33) rfl 3 rfl ?_
    refine s_iconst (i := 34) rfl (v := (0 : Int32)) (by decide) ?_
    refine s_aload_n (i := 35) rfl 3 rfl ?_
    refine s_getI (i := 36) rfl xf_1_30.r rfl (fun v13 => ?_)
    refine s_iload (i := 37) rfl 0 rfl ?_
    refine s_aload_n (i := 38) rfl 3 rfl ?_
    refine s_getI (i := 39) rfl xf_1_33.r rfl (fun v14 => ?_)
    refine s_aload_n (i := 40) rfl 3 rfl ?_
    refine s_iload_n (i := 41) rfl 1 rfl ?_
    refine u_callVi (kk := 1) [tI q5.1] a0 [tI v14, tI q7.1, tI v13, tI ((0 : Int32)), tA a0] rfl (i := 42) rfl (c_X1_leftOf h12 a0 q5.1) xm_X1_leftOf (tw645) rfl (Nat.le_of_ble_eq_true rfl) (xRm.of rfl) ⟨rfl, rfl⟩ (fun q15 => ?_)
    refine u_callSi [tI q15.1] [tI v14, tI q7.1, tI v13, tI ((0 : Int32)), tA a0] rfl (i := 43) rfl (c_J6_bitCount q15.2 q15.1) xm_J6_bitCount (tw649) rfl (Nat.le_of_ble_eq_true rfl) (xRm.of rfl) ⟨rfl, rfl⟩ (fun q16 => ?_)
    refine s_iload_n (i := 44) rfl 1 rfl ?_
    refine u_callVi (kk := 1) [tI ((0 : Int32)), tI v13, tI q7.1, tI v14, tI q16.1, tI q5.1] a0 [] rfl (i := 45) rfl (c_X1_lawSays q16.2 a0 ((0 : Int32)) v13 q7.1 v14 q16.1 q5.1) xm_X1_lawSays (tw655) rfl (Nat.le_of_ble_eq_true rfl) (xRm.of rfl) ⟨rfl, rfl⟩ (fun q17 => ?_)
    refine s_ifeq (i := 46) rfl (tgt := 88) (by decide) (fun z81 => ?_) (fun z81 => ?_)
    · refine s_iconst (i := 49) rfl (v := (0 : Int32)) (by decide) ?_
      exact s_sub [3, 1] rfl (b_X1_putIn_89 X q17.2 a0 q5.1 ((0 : Int32)))
    · refine s_iconst (i := 47) rfl (v := (1 : Int32)) (by decide) ?_
      refine s_goto (i := 48) rfl (tgt := 89) (by decide) ?_
      exact s_sub [3, 1] rfl (b_X1_putIn_89 X q17.2 a0 q5.1 ((1 : Int32)))
def y_X1_follow : MethodName := ⟨"OpensAtNine$Gate", "follow", "(I)V"⟩
def T_X1_follow : List (Nat × Instr × Nat × Nat) := [(0, .getstatic 92, 3, 3), (3, .arraylength, 1, 4), (4, .iconst 1, 1, 5), (5, .isub, 1, 6), (6, .istore_n 2, 1, 7), (7, .iload_n 2, 1, 8), (8, .ifCond .lt 32, 3, 11), (11, .iload_n 1, 1, 12), (12, .getstatic 92, 3, 15), (15, .iload_n 2, 1, 16), (16, .iaload, 1, 17), (17, .idiv, 1, 18), (18, .bipush 10, 2, 20), (20, .irem, 1, 21), (21, .istore_n 3, 1, 22), (22, .iload_n 3, 1, 23), (23, .ifCond .le 11, 3, 26), (26, .aload_n 0, 1, 27), (27, .iload_n 3, 1, 28), (28, .iconst 1, 1, 29), (29, .isub, 1, 30), (30, .invokevirtual 95, 3, 33), (33, .pop, 1, 34), (34, .iinc 2 (-1), 3, 37), (37, .goto (-30), 3, 40), (40, .return_, 1, 41)]
def I_X1_follow : MI := (prog_3_method_15_code, 4, none, "OpensAtNine$Gate", "follow", T_X1_follow, 0, 0, 5, 161)
theorem dT_X1_follow : ∀ q ∈ T_X1_follow, decode prog_3_method_15_code q.1 = .ok (q.2.1, q.2.2.1) ∧ q.2.2.2 = q.1 + q.2.2.1 := by decide +kernel
theorem xm_X1_follow : xCM y_X1_follow I_X1_follow 1 1 := ⟨⟨tw730, tw731⟩, tw70, tw732, ⟨xT1, 12, rfl⟩, ⟨by decide +kernel, by decide +kernel, by decide +kernel⟩⟩
noncomputable def f_X1_follow_34 (k_7 : XM → Option Nat → Int32 → Int32 → Option (XM)) (h : XM) (l0 : Option Nat) (l1 : Int32) (l2 : Int32) : Option (XM) := bnd (l2 + (-1 : Int32)) fun v1 => k_7 h l0 l1 v1
noncomputable def fb_X1_follow_7 (k_7 : XM → Option Nat → Int32 → Int32 → Option (XM)) (h : XM) (l0 : Option Nat) (l1 : Int32) (l2 : Int32) : Option (XM) := if l2 < 0 then (some h) else ((rT l2).bind fun v2 => (idiv l1 v2).bind fun v3 => (irem v3 ((10 : Int32))).bind fun v4 => if 0 < v4 then ((vc h 1 l0 (f_X1_putIn h l0 (v4 - ((1 : Int32))))).bind fun q5 => f_X1_follow_34 k_7 q5.2 l0 l1 l2) else (f_X1_follow_34 k_7 h l0 l1 l2))
noncomputable def f_X1_follow_7 (n : Nat) : XM → Option Nat → Int32 → Int32 → Option (XM) := Nat.rec (motive := fun _ => XM → Option Nat → Int32 → Int32 → Option (XM)) (fun _ _ _ _ => none) (fun _ ih h l0 l1 l2 => fb_X1_follow_7 ih h l0 l1 l2) n
noncomputable def f_X1_follow (h : XM) (a0 : Option Nat) (a1 : Int32) : Option (XM) := (lnK 2).bind fun v6 => bnd (v6 - ((1 : Int32))) fun v7 => f_X1_follow_7 FU h a0 a1 v7
theorem b_X1_follow_34 (X : XX) (k_7 : XM → Option Nat → Int32 → Int32 → Option (XM)) (hk_7 : ∀ h l0 l1 l2, SW X I_X1_follow ρv 7 [(0, tA l0), (1, tI l1), (2, tI l2)] [] h 0 0 (k_7 h l0 l1 l2)) (h : XM) (l0 : Option Nat) (l1 : Int32) (l2 : Int32) : SW X I_X1_follow ρv 34 [(0, tA l0), (1, tI l1), (2, tI l2)] [] h 0 0 (f_X1_follow_34 k_7 h l0 l1 l2) := by
  unfold f_X1_follow_34
  refine s_inc (i := 23) rfl 2 rfl (c9 := (-1 : Int32)) (by decide) (Nat.le_of_ble_eq_true rfl) (fun v1 => ?_)
  refine s_ls (ls2 := [(2, tI v1), (0, tA l0), (1, tI l1)]) rfl ?_
  refine s_goto (i := 24) rfl (tgt := 7) (by decide) ?_
  exact s_sub [1, 2, 0] rfl (hk_7 h l0 l1 v1)
theorem bb_X1_follow_7 (X : XX) (k_7 : XM → Option Nat → Int32 → Int32 → Option (XM)) (hk_7 : ∀ h l0 l1 l2, SW X I_X1_follow ρv 7 [(0, tA l0), (1, tI l1), (2, tI l2)] [] h 0 0 (k_7 h l0 l1 l2)) (h : XM) (l0 : Option Nat) (l1 : Int32) (l2 : Int32) : SW X I_X1_follow ρv 7 [(0, tA l0), (1, tI l1), (2, tI l2)] [] h 0 0 (fb_X1_follow_7 k_7 h l0 l1 l2) := by
  unfold fb_X1_follow_7
  refine s_iload_n (i := 5) rfl 2 rfl ?_
  refine s_iflt (i := 6) rfl (tgt := 40) (by decide) (fun z8 => ?_) (fun z8 => ?_)
  · exact s_vret (i := 25) rfl rfl
  · refine s_iload_n (i := 7) rfl 1 rfl ?_
    refine s_getTensN1 (i := 8) rfl rfl ?_
    refine s_iload_n (i := 9) rfl 2 rfl ?_
    refine s_ialoadK (i := 10) rfl (fun v2 => ?_)
    refine s_idiv (i := 11) rfl (fun v3 => ?_)
    refine s_bipush (i := 12) rfl (v := (10 : Int32)) (by decide) ?_
    refine s_irem (i := 13) rfl (fun v4 => ?_)
    refine s_istore_n (i := 14) rfl (Nat.le_of_ble_eq_true rfl) (ls2 := [(3, tI v4), (0, tA l0), (1, tI l1), (2, tI l2)]) rfl ?_
    refine s_iload_n (i := 15) rfl 0 rfl ?_
    refine s_ifle (i := 16) rfl (tgt := 34) (by decide) (fun z23 => ?_) (fun z23 => ?_)
    · refine s_aload_n (i := 17) rfl 1 rfl ?_
      refine s_iload_n (i := 18) rfl 0 rfl ?_
      refine s_iconst (i := 19) rfl (v := (1 : Int32)) (by decide) ?_
      refine s_isub (i := 20) rfl ?_
      refine u_callVi (kk := 1) [tI (v4 - ((1 : Int32)))] l0 [] rfl (i := 21) rfl (c_X1_putIn h l0 (v4 - ((1 : Int32)))) xm_X1_putIn (tw734) rfl (Nat.le_of_ble_eq_true rfl) (xRm.of rfl) ⟨rfl, rfl⟩ (fun q5 => ?_)
      refine s_pop (i := 22) rfl rfl ?_
      exact s_sub [1, 2, 3] rfl (b_X1_follow_34 X k_7 hk_7 q5.2 l0 l1 l2)
    · exact s_sub [1, 2, 3] rfl (b_X1_follow_34 X k_7 hk_7 h l0 l1 l2)
theorem b_X1_follow_7 (X : XX) : ∀ (n : Nat) (h : XM) (l0 : Option Nat) (l1 : Int32) (l2 : Int32), SW X I_X1_follow ρv 7 [(0, tA l0), (1, tI l1), (2, tI l2)] [] h 0 0 (f_X1_follow_7 n h l0 l1 l2) := by
  intro n
  induction n with
  | zero =>
    intro h l0 l1 l2
    exact s_none
  | succ n ih =>
    intro h l0 l1 l2
    exact bb_X1_follow_7 X (f_X1_follow_7 n) ih h l0 l1 l2
theorem c_X1_follow (h : XM) (a0 : Option Nat) (a1 : Int32) : MC I_X1_follow y_X1_follow [tA a0, tI a1] h ρv (f_X1_follow h a0 a1) := by
  refine MC_of ⟨by decide +kernel, rfl, rfl, Nat.le_of_ble_eq_true rfl⟩ dT_X1_follow (fun X => ?_)
  show SW X I_X1_follow ρv 0 [(0, tA a0), (1, tI a1)] [] h 0 0 (f_X1_follow h a0 a1)
  unfold f_X1_follow
  refine s_getTensN1 (i := 0) rfl rfl ?_
  refine s_alenK (i := 1) rfl (fun v6 => ?_)
  refine s_iconst (i := 2) rfl (v := (1 : Int32)) (by decide) ?_
  refine s_isub (i := 3) rfl ?_
  refine s_bnd (fun v7 => ?_)
  refine s_istore_n (i := 4) rfl (Nat.le_of_ble_eq_true rfl) (ls2 := [(2, tI v7), (0, tA a0), (1, tI a1)]) rfl ?_
  exact s_sub [1, 2, 0] rfl (b_X1_follow_7 X FU h a0 a1 v7)
def y_X1_costOf : MethodName := ⟨"OpensAtNine$Gate", "costOf", "(I)I"⟩
def T_X1_costOf : List (Nat × Instr × Nat × Nat) := [(0, .aload_n 0, 1, 1), (1, .iload_n 1, 1, 2), (2, .invokevirtual 59, 3, 5), (5, .astore_n 2, 1, 6), (6, .aload_n 2, 1, 7), (7, .ifnonnull 7, 3, 10), (10, .iconst 0, 1, 11), (11, .goto 7, 3, 14), (14, .aload_n 2, 1, 15), (15, .invokevirtual 98, 3, 18), (18, .ireturn, 1, 19)]
def I_X1_costOf : MI := (prog_3_method_16_code, 3, (some .int), "OpensAtNine$Gate", "costOf", T_X1_costOf, 0, 0, 2, 81)
theorem dT_X1_costOf : ∀ q ∈ T_X1_costOf, decode prog_3_method_16_code q.1 = .ok (q.2.1, q.2.2.1) ∧ q.2.2.2 = q.1 + q.2.2.1 := by decide +kernel
theorem xm_X1_costOf : xCM y_X1_costOf I_X1_costOf 1 1 := ⟨⟨tw710, tw711⟩, tw70, tw712, ⟨xT1, 12, rfl⟩, ⟨by decide +kernel, by decide +kernel, by decide +kernel⟩⟩
noncomputable def f_X1_costOf_18 (h : XM) (s0 : Int32) : Option (Int32 × XM) := some (s0, h)
noncomputable def f_X1_costOf (h : XM) (a0 : Option Nat) (a1 : Int32) : Option (Int32 × XM) := (vc h 1 a0 (f_X1_coinAt h a0 a1)).bind fun q1 => if q1.1 = none then (f_X1_costOf_18 q1.2 ((0 : Int32))) else ((vc q1.2 0 q1.1 (f_X0_costs q1.2 q1.1)).bind fun q2 => f_X1_costOf_18 q2.2 q2.1)
theorem b_X1_costOf_18 (X : XX) (h : XM) (s0 : Int32) : SW X I_X1_costOf ρi 18 [] [tI s0] h 0 0 (f_X1_costOf_18 h s0) := by
  unfold f_X1_costOf_18
  exact s_iret (i := 10) rfl rfl
theorem c_X1_costOf (h : XM) (a0 : Option Nat) (a1 : Int32) : MC I_X1_costOf y_X1_costOf [tA a0, tI a1] h ρi (f_X1_costOf h a0 a1) := by
  refine MC_of ⟨by decide +kernel, rfl, rfl, Nat.le_of_ble_eq_true rfl⟩ dT_X1_costOf (fun X => ?_)
  show SW X I_X1_costOf ρi 0 [(0, tA a0), (1, tI a1)] [] h 0 0 (f_X1_costOf h a0 a1)
  unfold f_X1_costOf
  refine s_aload_n (i := 0) rfl 0 rfl ?_
  refine s_iload_n (i := 1) rfl 1 rfl ?_
  refine u_callVa (kk := 1) [tI a1] a0 [] rfl (i := 2) rfl (c_X1_coinAt h a0 a1) xm_X1_coinAt (tw636) rfl (Nat.le_of_ble_eq_true rfl) (xRm.of rfl) ⟨rfl, rfl⟩ (fun q1 => ?_)
  refine s_astore_n (i := 3) rfl (Nat.le_of_ble_eq_true rfl) (ls2 := [(2, tA q1.1), (0, tA a0), (1, tI a1)]) rfl ?_
  refine s_aload_n (i := 4) rfl 0 rfl ?_
  refine s_ifnonnull (i := 5) rfl (tgt := 14) (by decide) (fun z7 => ?_) (fun z7 => ?_)
  · refine s_iconst (i := 6) rfl (v := (0 : Int32)) (by decide) ?_
    refine s_goto (i := 7) rfl (tgt := 18) (by decide) ?_
    exact s_sub [] rfl (b_X1_costOf_18 X q1.2 ((0 : Int32)))
  · refine s_aload_n (i := 8) rfl 0 rfl ?_
    refine u_callVi (kk := 0) [] q1.1 [] rfl (i := 9) rfl (c_X0_costs q1.2 q1.1) xm_X0_costs (tw713) rfl (Nat.le_of_ble_eq_true rfl) (xRm.of rfl) ⟨rfl, rfl⟩ (fun q2 => ?_)
    exact s_sub [] rfl (b_X1_costOf_18 X q2.2 q2.1)
def y_X1_worthOf : MethodName := ⟨"OpensAtNine$Gate", "worthOf", "(I)I"⟩
def T_X1_worthOf : List (Nat × Instr × Nat × Nat) := [(0, .aload_n 0, 1, 1), (1, .iload_n 1, 1, 2), (2, .invokevirtual 55, 3, 5), (5, .invokestatic 80, 3, 8), (8, .istore_n 2, 1, 9), (9, .aload_n 0, 1, 10), (10, .iload_n 1, 1, 11), (11, .invokevirtual 51, 3, 14), (14, .ifCond .eq 22, 3, 17), (17, .aload_n 0, 1, 18), (18, .iconst 1, 1, 19), (19, .aload_n 0, 1, 20), (20, .getfield 30, 3, 23), (23, .iconst 0, 1, 24), (24, .aload_n 0, 1, 25), (25, .getfield 33, 3, 28), (28, .iload_n 2, 1, 29), (29, .iload_n 1, 1, 30), (30, .invokevirtual 85, 3, 33), (33, .goto 4, 3, 36), (36, .iconst 0, 1, 37), (37, .istore_n 3, 1, 38), (38, .iload_n 3, 1, 39), (39, .aload_n 0, 1, 40), (40, .iconst 2, 1, 41), (41, .aload_n 0, 1, 42), (42, .getfield 30, 3, 45), (45, .iconst 0, 1, 46), (46, .aload_n 0, 1, 47), (47, .getfield 33, 3, 50), (50, .iload_n 2, 1, 51), (51, .iload_n 1, 1, 52), (52, .invokevirtual 85, 3, 55), (55, .isub, 1, 56), (56, .ireturn, 1, 57)]
def I_X1_worthOf : MI := (prog_3_method_17_code, 4, (some .int), "OpensAtNine$Gate", "worthOf", T_X1_worthOf, 0, 0, 4, 136)
theorem dT_X1_worthOf : ∀ q ∈ T_X1_worthOf, decode prog_3_method_17_code q.1 = .ok (q.2.1, q.2.2.1) ∧ q.2.2.2 = q.1 + q.2.2.1 := by decide +kernel
theorem xm_X1_worthOf : xCM y_X1_worthOf I_X1_worthOf 1 1 := ⟨⟨tw665, tw666⟩, tw70, tw667, ⟨xT1, 12, rfl⟩, ⟨by decide +kernel, by decide +kernel, by decide +kernel⟩⟩
noncomputable def f_X1_worthOf_37 (h : XM) (l0 : Option Nat) (l1 : Int32) (l2 : Int32) (s0 : Int32) : Option (Int32 × XM) := (gI h 1 l0 5).bind fun v1 => (gI h 1 l0 6).bind fun v2 => (vc h 1 l0 (f_X1_lawSays h l0 ((2 : Int32)) v1 ((0 : Int32)) v2 l2 l1)).bind fun q3 => some (s0 - q3.1, q3.2)
noncomputable def f_X1_worthOf (h : XM) (a0 : Option Nat) (a1 : Int32) : Option (Int32 × XM) := (vc h 1 a0 (f_X1_leftOf h a0 a1)).bind fun q4 => (f_J6_bitCount q4.2 q4.1).bind fun q5 => (vc q5.2 1 a0 (f_X1_isInside q5.2 a0 a1)).bind fun q6 => if q6.1 = 0 then (f_X1_worthOf_37 q6.2 a0 a1 q5.1 ((0 : Int32))) else ((gI q6.2 1 a0 5).bind fun v7 => (gI q6.2 1 a0 6).bind fun v8 => (vc q6.2 1 a0 (f_X1_lawSays q6.2 a0 ((1 : Int32)) v7 ((0 : Int32)) v8 q5.1 a1)).bind fun q9 => f_X1_worthOf_37 q9.2 a0 a1 q5.1 q9.1)
theorem b_X1_worthOf_37 (X : XX) (h : XM) (l0 : Option Nat) (l1 : Int32) (l2 : Int32) (s0 : Int32) : SW X I_X1_worthOf ρi 37 [(0, tA l0), (1, tI l1), (2, tI l2)] [tI s0] h 0 0 (f_X1_worthOf_37 h l0 l1 l2 s0) := by
  unfold f_X1_worthOf_37
  refine s_istore_n (i := 21) rfl (Nat.le_of_ble_eq_true rfl) (ls2 := [(3, tI s0), (0, tA l0), (1, tI l1), (2, tI l2)]) rfl ?_
  refine s_iload_n (i := 22) rfl 0 rfl ?_
  refine s_aload_n (i := 23) rfl 1 rfl ?_
  refine s_iconst (i := 24) rfl (v := (2 : Int32)) (by decide) ?_
  refine s_aload_n (i := 25) rfl 1 rfl ?_
  refine s_getI (i := 26) rfl xf_1_30.r rfl (fun v1 => ?_)
  refine s_iconst (i := 27) rfl (v := (0 : Int32)) (by decide) ?_
  refine s_aload_n (i := 28) rfl 1 rfl ?_
  refine s_getI (i := 29) rfl xf_1_33.r rfl (fun v2 => ?_)
  refine s_iload_n (i := 30) rfl 3 rfl ?_
  refine s_iload_n (i := 31) rfl 2 rfl ?_
  refine u_callVi (kk := 1) [tI ((2 : Int32)), tI v1, tI ((0 : Int32)), tI v2, tI l2, tI l1] l0 [tI s0] rfl (i := 32) rfl (c_X1_lawSays h l0 ((2 : Int32)) v1 ((0 : Int32)) v2 l2 l1) xm_X1_lawSays (tw655) rfl (Nat.le_of_ble_eq_true rfl) (xRm.of rfl) ⟨rfl, rfl⟩ (fun q3 => ?_)
  refine s_isub (i := 33) rfl ?_
  exact s_iret (i := 34) rfl rfl
theorem c_X1_worthOf (h : XM) (a0 : Option Nat) (a1 : Int32) : MC I_X1_worthOf y_X1_worthOf [tA a0, tI a1] h ρi (f_X1_worthOf h a0 a1) := by
  refine MC_of ⟨by decide +kernel, rfl, rfl, Nat.le_of_ble_eq_true rfl⟩ dT_X1_worthOf (fun X => ?_)
  show SW X I_X1_worthOf ρi 0 [(0, tA a0), (1, tI a1)] [] h 0 0 (f_X1_worthOf h a0 a1)
  unfold f_X1_worthOf
  refine s_aload_n (i := 0) rfl 0 rfl ?_
  refine s_iload_n (i := 1) rfl 1 rfl ?_
  refine u_callVi (kk := 1) [tI a1] a0 [] rfl (i := 2) rfl (c_X1_leftOf h a0 a1) xm_X1_leftOf (tw645) rfl (Nat.le_of_ble_eq_true rfl) (xRm.of rfl) ⟨rfl, rfl⟩ (fun q4 => ?_)
  refine u_callSi [tI q4.1] [] rfl (i := 3) rfl (c_J6_bitCount q4.2 q4.1) xm_J6_bitCount (tw649) rfl (Nat.le_of_ble_eq_true rfl) (xRm.of rfl) ⟨rfl, rfl⟩ (fun q5 => ?_)
  refine s_istore_n (i := 4) rfl (Nat.le_of_ble_eq_true rfl) (ls2 := [(2, tI q5.1), (0, tA a0), (1, tI a1)]) rfl ?_
  refine s_aload_n (i := 5) rfl 1 rfl ?_
  refine s_iload_n (i := 6) rfl 2 rfl ?_
  refine u_callVi (kk := 1) [tI a1] a0 [] rfl (i := 7) rfl (c_X1_isInside q5.2 a0 a1) xm_X1_isInside (tw639) rfl (Nat.le_of_ble_eq_true rfl) (xRm.of rfl) ⟨rfl, rfl⟩ (fun q6 => ?_)
  refine s_ifeq (i := 8) rfl (tgt := 36) (by decide) (fun z14 => ?_) (fun z14 => ?_)
  · refine s_iconst (i := 20) rfl (v := (0 : Int32)) (by decide) ?_
    exact s_sub [1, 2, 0] rfl (b_X1_worthOf_37 X q6.2 a0 a1 q5.1 ((0 : Int32)))
  · refine s_aload_n (i := 9) rfl 1 rfl ?_
    refine s_iconst (i := 10) rfl (v := (1 : Int32)) (by decide) ?_
    refine s_aload_n (i := 11) rfl 1 rfl ?_
    refine s_getI (i := 12) rfl xf_1_30.r rfl (fun v7 => ?_)
    refine s_iconst (i := 13) rfl (v := (0 : Int32)) (by decide) ?_
    refine s_aload_n (i := 14) rfl 1 rfl ?_
    refine s_getI (i := 15) rfl xf_1_33.r rfl (fun v8 => ?_)
    refine s_iload_n (i := 16) rfl 0 rfl ?_
    refine s_iload_n (i := 17) rfl 2 rfl ?_
    refine u_callVi (kk := 1) [tI ((1 : Int32)), tI v7, tI ((0 : Int32)), tI v8, tI q5.1, tI a1] a0 [] rfl (i := 18) rfl (c_X1_lawSays q6.2 a0 ((1 : Int32)) v7 ((0 : Int32)) v8 q5.1 a1) xm_X1_lawSays (tw655) rfl (Nat.le_of_ble_eq_true rfl) (xRm.of rfl) ⟨rfl, rfl⟩ (fun q9 => ?_)
    refine s_goto (i := 19) rfl (tgt := 37) (by decide) ?_
    exact s_sub [1, 2, 0] rfl (b_X1_worthOf_37 X q9.2 a0 a1 q5.1 q9.1)
