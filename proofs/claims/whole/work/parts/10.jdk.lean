/-! 10.jdk: the methods as functions, and that the bytecode does so (written by wip/whole/gen/gen_parts.py) -/
def y_J6_bitCount : MethodName := ⟨"java/lang/Integer", "bitCount", "(I)I"⟩
def T_J6_bitCount : List (Nat × Instr × Nat × Nat) := [(0, .iload_n 0, 1, 1), (1, .iload_n 0, 1, 2), (2, .iconst 1, 1, 3), (3, .iushr, 1, 4), (4, .ldc_w 265, 3, 7), (7, .iand, 1, 8), (8, .isub, 1, 9), (9, .istore_n 0, 1, 10), (10, .iload_n 0, 1, 11), (11, .ldc_w 266, 3, 14), (14, .iand, 1, 15), (15, .iload_n 0, 1, 16), (16, .iconst 2, 1, 17), (17, .iushr, 1, 18), (18, .ldc_w 266, 3, 21), (21, .iand, 1, 22), (22, .iadd, 1, 23), (23, .istore_n 0, 1, 24), (24, .iload_n 0, 1, 25), (25, .iload_n 0, 1, 26), (26, .iconst 4, 1, 27), (27, .iushr, 1, 28), (28, .iadd, 1, 29), (29, .ldc_w 267, 3, 32), (32, .iand, 1, 33), (33, .istore_n 0, 1, 34), (34, .iload_n 0, 1, 35), (35, .iload_n 0, 1, 36), (36, .bipush 8, 2, 38), (38, .iushr, 1, 39), (39, .iadd, 1, 40), (40, .istore_n 0, 1, 41), (41, .iload_n 0, 1, 42), (42, .iload_n 0, 1, 43), (43, .bipush 16, 2, 45), (45, .iushr, 1, 46), (46, .iadd, 1, 47), (47, .istore_n 0, 1, 48), (48, .iload_n 0, 1, 49), (49, .bipush 63, 2, 51), (51, .iand, 1, 52), (52, .ireturn, 1, 53)]
def I_J6_bitCount : MI := (prog_13_method_49_code, 1, (some .int), "java/lang/Integer", "bitCount", T_J6_bitCount, 0, 0, 1, 60)
theorem dT_J6_bitCount : ∀ q ∈ T_J6_bitCount, decode prog_13_method_49_code q.1 = .ok (q.2.1, q.2.2.1) ∧ q.2.2.2 = q.1 + q.2.2.1 := by decide +kernel
theorem xm_J6_bitCount : xCS y_J6_bitCount I_J6_bitCount 1 := ⟨tw650, tw86, tw651, ⟨by decide +kernel, by decide +kernel, by decide +kernel⟩⟩
noncomputable def f_J6_bitCount (h : XM) (a0 : Int32) : Option (Int32 × XM) := bnd (a0 - (((a0.toUInt32 >>> (((1 : Int32)).toUInt32 &&& Int32.toUInt32 31)).toInt32) &&& ((1431655765 : Int32)))) fun v1 => bnd ((v1 &&& ((858993459 : Int32))) + (((v1.toUInt32 >>> (((2 : Int32)).toUInt32 &&& Int32.toUInt32 31)).toInt32) &&& ((858993459 : Int32)))) fun v2 => bnd ((v2 + ((v2.toUInt32 >>> (((4 : Int32)).toUInt32 &&& Int32.toUInt32 31)).toInt32)) &&& ((252645135 : Int32))) fun v3 => bnd (v3 + ((v3.toUInt32 >>> (((8 : Int32)).toUInt32 &&& Int32.toUInt32 31)).toInt32)) fun v4 => bnd (v4 + ((v4.toUInt32 >>> (((16 : Int32)).toUInt32 &&& Int32.toUInt32 31)).toInt32)) fun v5 => some (v5 &&& ((63 : Int32)), h)
theorem c_J6_bitCount (h : XM) (a0 : Int32) : MC I_J6_bitCount y_J6_bitCount [tI a0] h ρi (f_J6_bitCount h a0) := by
  refine MC_of ⟨by decide +kernel, rfl, rfl, Nat.le_of_ble_eq_true rfl⟩ dT_J6_bitCount (fun X => ?_)
  show SW X I_J6_bitCount ρi 0 [(0, tI a0)] [] h 0 0 (f_J6_bitCount h a0)
  unfold f_J6_bitCount
  refine s_iload_n (i := 0) rfl 0 rfl ?_
  refine s_iload_n (i := 1) rfl 0 rfl ?_
  refine s_iconst (i := 2) rfl (v := (1 : Int32)) (by decide) ?_
  refine s_iushr (i := 3) rfl ?_
  refine s_ldcw (i := 4) rfl (v := (1431655765 : Int32)) (tw652) ?_
  refine s_iand (i := 5) rfl ?_
  refine s_isub (i := 6) rfl ?_
  refine s_bnd (fun v1 => ?_)
  refine s_istore_n (i := 7) rfl (Nat.le_of_ble_eq_true rfl) (ls2 := [(0, tI v1)]) rfl ?_
  refine s_iload_n (i := 8) rfl 0 rfl ?_
  refine s_ldcw (i := 9) rfl (v := (858993459 : Int32)) (tw653) ?_
  refine s_iand (i := 10) rfl ?_
  refine s_iload_n (i := 11) rfl 0 rfl ?_
  refine s_iconst (i := 12) rfl (v := (2 : Int32)) (by decide) ?_
  refine s_iushr (i := 13) rfl ?_
  refine s_ldcw (i := 14) rfl (v := (858993459 : Int32)) (tw653) ?_
  refine s_iand (i := 15) rfl ?_
  refine s_iadd (i := 16) rfl ?_
  refine s_bnd (fun v2 => ?_)
  refine s_istore_n (i := 17) rfl (Nat.le_of_ble_eq_true rfl) (ls2 := [(0, tI v2)]) rfl ?_
  refine s_iload_n (i := 18) rfl 0 rfl ?_
  refine s_iload_n (i := 19) rfl 0 rfl ?_
  refine s_iconst (i := 20) rfl (v := (4 : Int32)) (by decide) ?_
  refine s_iushr (i := 21) rfl ?_
  refine s_iadd (i := 22) rfl ?_
  refine s_ldcw (i := 23) rfl (v := (252645135 : Int32)) (tw654) ?_
  refine s_iand (i := 24) rfl ?_
  refine s_bnd (fun v3 => ?_)
  refine s_istore_n (i := 25) rfl (Nat.le_of_ble_eq_true rfl) (ls2 := [(0, tI v3)]) rfl ?_
  refine s_iload_n (i := 26) rfl 0 rfl ?_
  refine s_iload_n (i := 27) rfl 0 rfl ?_
  refine s_bipush (i := 28) rfl (v := (8 : Int32)) (by decide) ?_
  refine s_iushr (i := 29) rfl ?_
  refine s_iadd (i := 30) rfl ?_
  refine s_bnd (fun v4 => ?_)
  refine s_istore_n (i := 31) rfl (Nat.le_of_ble_eq_true rfl) (ls2 := [(0, tI v4)]) rfl ?_
  refine s_iload_n (i := 32) rfl 0 rfl ?_
  refine s_iload_n (i := 33) rfl 0 rfl ?_
  refine s_bipush (i := 34) rfl (v := (16 : Int32)) (by decide) ?_
  refine s_iushr (i := 35) rfl ?_
  refine s_iadd (i := 36) rfl ?_
  refine s_bnd (fun v5 => ?_)
  refine s_istore_n (i := 37) rfl (Nat.le_of_ble_eq_true rfl) (ls2 := [(0, tI v5)]) rfl ?_
  refine s_iload_n (i := 38) rfl 0 rfl ?_
  refine s_bipush (i := 39) rfl (v := (63 : Int32)) (by decide) ?_
  refine s_iand (i := 40) rfl ?_
  exact s_iret (i := 41) rfl rfl
def y_J7_fill : MethodName := ⟨"java/util/Arrays", "fill", "([II)V"⟩
def T_J7_fill : List (Nat × Instr × Nat × Nat) := [(0, .iconst 0, 1, 1), (1, .istore_n 2, 1, 2), (2, .aload_n 0, 1, 3), (3, .arraylength, 1, 4), (4, .istore_n 3, 1, 5), (5, .iload_n 2, 1, 6), (6, .iload_n 3, 1, 7), (7, .if_icmp .ge 13, 3, 10), (10, .aload_n 0, 1, 11), (11, .iload_n 2, 1, 12), (12, .iload_n 1, 1, 13), (13, .iastore, 1, 14), (14, .iinc 2 1, 3, 17), (17, .goto (-12), 3, 20), (20, .return_, 1, 21)]
def I_J7_fill : MI := (prog_19_method_103_code, 4, none, "java/util/Arrays", "fill", T_J7_fill, 0, 0, 1, 60)
theorem dT_J7_fill : ∀ q ∈ T_J7_fill, decode prog_19_method_103_code q.1 = .ok (q.2.1, q.2.2.1) ∧ q.2.2.2 = q.1 + q.2.2.1 := by decide +kernel
theorem xm_J7_fill : xCS y_J7_fill I_J7_fill 2 := ⟨tw686, tw81, tw687, ⟨by decide +kernel, by decide +kernel, by decide +kernel⟩⟩
noncomputable def fb_J7_fill_5 (k_5 : XM → Option Nat → Int32 → Int32 → Int32 → Option (XM)) (h : XM) (l0 : Option Nat) (l1 : Int32) (l2 : Int32) (l3 : Int32) : Option (XM) := if l2 < l3 then ((sI h l0 l2 l1).bind fun h1 => bnd (l2 + (1 : Int32)) fun v2 => k_5 h1 l0 l1 v2 l3) else (some h)
noncomputable def f_J7_fill_5 (n : Nat) : XM → Option Nat → Int32 → Int32 → Int32 → Option (XM) := Nat.rec (motive := fun _ => XM → Option Nat → Int32 → Int32 → Int32 → Option (XM)) (fun _ _ _ _ _ => none) (fun _ ih h l0 l1 l2 l3 => fb_J7_fill_5 ih h l0 l1 l2 l3) n
noncomputable def f_J7_fill (h : XM) (a0 : Option Nat) (a1 : Int32) : Option (XM) := (ln h a0).bind fun v3 => f_J7_fill_5 FU h a0 a1 ((0 : Int32)) v3
theorem bb_J7_fill_5 (X : XX) (k_5 : XM → Option Nat → Int32 → Int32 → Int32 → Option (XM)) (hk_5 : ∀ h l0 l1 l2 l3, SW X I_J7_fill ρv 5 [(0, tA l0), (1, tI l1), (2, tI l2), (3, tI l3)] [] h 0 0 (k_5 h l0 l1 l2 l3)) (h : XM) (l0 : Option Nat) (l1 : Int32) (l2 : Int32) (l3 : Int32) : SW X I_J7_fill ρv 5 [(0, tA l0), (1, tI l1), (2, tI l2), (3, tI l3)] [] h 0 0 (fb_J7_fill_5 k_5 h l0 l1 l2 l3) := by
  unfold fb_J7_fill_5
  refine s_iload_n (i := 5) rfl 2 rfl ?_
  refine s_iload_n (i := 6) rfl 3 rfl ?_
  refine s_icmpge (i := 7) rfl (tgt := 20) (by decide) (fun z7 => ?_) (fun z7 => ?_)
  · refine s_aload_n (i := 8) rfl 0 rfl ?_
    refine s_iload_n (i := 9) rfl 2 rfl ?_
    refine s_iload_n (i := 10) rfl 1 rfl ?_
    refine s_iastore (i := 11) rfl (fun h1 => ?_)
    refine s_inc (i := 12) rfl 2 rfl (c9 := (1 : Int32)) (by decide) (Nat.le_of_ble_eq_true rfl) (fun v2 => ?_)
    refine s_ls (ls2 := [(2, tI v2), (0, tA l0), (1, tI l1), (3, tI l3)]) rfl ?_
    refine s_goto (i := 13) rfl (tgt := 5) (by decide) ?_
    exact s_sub [1, 2, 0, 3] rfl (hk_5 h1 l0 l1 v2 l3)
  · exact s_vret (i := 14) rfl rfl
theorem b_J7_fill_5 (X : XX) : ∀ (n : Nat) (h : XM) (l0 : Option Nat) (l1 : Int32) (l2 : Int32) (l3 : Int32), SW X I_J7_fill ρv 5 [(0, tA l0), (1, tI l1), (2, tI l2), (3, tI l3)] [] h 0 0 (f_J7_fill_5 n h l0 l1 l2 l3) := by
  intro n
  induction n with
  | zero =>
    intro h l0 l1 l2 l3
    exact s_none
  | succ n ih =>
    intro h l0 l1 l2 l3
    exact bb_J7_fill_5 X (f_J7_fill_5 n) ih h l0 l1 l2 l3
theorem c_J7_fill (h : XM) (a0 : Option Nat) (a1 : Int32) : MC I_J7_fill y_J7_fill [tA a0, tI a1] h ρv (f_J7_fill h a0 a1) := by
  refine MC_of ⟨by decide +kernel, rfl, rfl, Nat.le_of_ble_eq_true rfl⟩ dT_J7_fill (fun X => ?_)
  show SW X I_J7_fill ρv 0 [(0, tA a0), (1, tI a1)] [] h 0 0 (f_J7_fill h a0 a1)
  unfold f_J7_fill
  refine s_iconst (i := 0) rfl (v := (0 : Int32)) (by decide) ?_
  refine s_istore_n (i := 1) rfl (Nat.le_of_ble_eq_true rfl) (ls2 := [(2, tI ((0 : Int32))), (0, tA a0), (1, tI a1)]) rfl ?_
  refine s_aload_n (i := 2) rfl 1 rfl ?_
  refine s_alen (i := 3) rfl (fun v3 => ?_)
  refine s_istore_n (i := 4) rfl (Nat.le_of_ble_eq_true rfl) (ls2 := [(3, tI v3), (2, tI ((0 : Int32))), (0, tA a0), (1, tI a1)]) rfl ?_
  exact s_sub [2, 3, 1, 0] rfl (b_J7_fill_5 X FU h a0 a1 ((0 : Int32)) v3)
def y_J0_coder : MethodName := ⟨"java/lang/String", "coder", "()B"⟩
def T_J0_coder : List (Nat × Instr × Nat × Nat) := [(0, .getstatic 38, 3, 3), (3, .ifCond .eq 10, 3, 6), (6, .aload_n 0, 1, 7), (7, .getfield 15, 3, 10), (10, .goto 4, 3, 13), (13, .iconst 1, 1, 14), (14, .ireturn, 1, 15)]
def I_J0_coder : MI := (prog_15_method_152_code, 1, (some .byte), "java/lang/String", "coder", T_J0_coder, 0, 0, 1, 60)
theorem dT_J0_coder : ∀ q ∈ T_J0_coder, decode prog_15_method_152_code q.1 = .ok (q.2.1, q.2.2.1) ∧ q.2.2.2 = q.1 + q.2.2.1 := by decide +kernel
theorem xm_J0_coder : xCK y_J0_coder I_J0_coder 0 := ⟨rfl, ⟨tw297, tw298⟩, tw76, tw299, ⟨by decide +kernel, by decide +kernel, by decide +kernel⟩⟩
noncomputable def f_J0_coder_14 (h : XM) (s0 : Int32) : Option (Int32 × XM) := rzb h s0
noncomputable def f_J0_coder (h : XM) (a0 : Nat) : Option (Int32 × XM) := if ((1 : Int32)) = 0 then (f_J0_coder_14 h ((1 : Int32))) else ((gCo a0).bind fun v1 => f_J0_coder_14 h v1)
theorem b_J0_coder_14 (X : XX) (h : XM) (s0 : Int32) : SW X I_J0_coder ρi 14 [] [tI s0] h 0 0 (f_J0_coder_14 h s0) := by
  unfold f_J0_coder_14
  exact s_bret (i := 6) rfl rfl
theorem c_J0_coder (h : XM) (a0 : Nat) : MC I_J0_coder y_J0_coder [tK a0] h ρi (f_J0_coder h a0) := by
  refine MC_of ⟨by decide +kernel, rfl, rfl, Nat.le_of_ble_eq_true rfl⟩ dT_J0_coder (fun X => ?_)
  show SW X I_J0_coder ρi 0 [(0, tK a0)] [] h 0 0 (f_J0_coder h a0)
  unfold f_J0_coder
  refine s_getCompact (i := 0) rfl (tw300) ?_
  refine s_ifeq (i := 1) rfl (tgt := 13) (by decide) (fun z3 => ?_) (fun z3 => ?_)
  · refine s_iconst (i := 5) rfl (v := (1 : Int32)) (by decide) ?_
    exact s_sub [] rfl (b_J0_coder_14 X h ((1 : Int32)))
  · refine s_aloadK_n (i := 2) rfl 0 rfl ?_
    refine s_strC (i := 3) rfl (tw1455) (fun v1 => ?_)
    refine s_goto (i := 4) rfl (tgt := 14) (by decide) ?_
    exact s_sub [] rfl (b_J0_coder_14 X h v1)
def y_J0_length : MethodName := ⟨"java/lang/String", "length", "()I"⟩
def T_J0_length : List (Nat × Instr × Nat × Nat) := [(0, .aload_n 0, 1, 1), (1, .getfield 9, 3, 4), (4, .arraylength, 1, 5), (5, .aload_n 0, 1, 6), (6, .invokevirtual 335, 3, 9), (9, .ishr, 1, 10), (10, .ireturn, 1, 11)]
def I_J0_length : MI := (prog_15_method_54_code, 1, (some .int), "java/lang/String", "length", T_J0_length, 0, 0, 2, 80)
theorem dT_J0_length : ∀ q ∈ T_J0_length, decode prog_15_method_54_code q.1 = .ok (q.2.1, q.2.2.1) ∧ q.2.2.2 = q.1 + q.2.2.1 := by decide +kernel
theorem xm_J0_length : xCK y_J0_length I_J0_length 0 := ⟨rfl, ⟨tw293, tw294⟩, tw76, tw295, ⟨by decide +kernel, by decide +kernel, by decide +kernel⟩⟩
noncomputable def f_J0_length (h : XM) (a0 : Nat) : Option (Int32 × XM) := (gS a0).bind fun v1 => (lnK v1).bind fun v2 => (vk a0 (f_J0_coder h a0)).bind fun q3 => some (v2 >>> (q3.1 &&& 31), q3.2)
theorem c_J0_length (h : XM) (a0 : Nat) : MC I_J0_length y_J0_length [tK a0] h ρi (f_J0_length h a0) := by
  refine MC_of ⟨by decide +kernel, rfl, rfl, Nat.le_of_ble_eq_true rfl⟩ dT_J0_length (fun X => ?_)
  show SW X I_J0_length ρi 0 [(0, tK a0)] [] h 0 0 (f_J0_length h a0)
  unfold f_J0_length
  refine s_aloadK_n (i := 0) rfl 0 rfl ?_
  refine s_strV (i := 1) rfl (tw1454) (fun v1 => ?_)
  refine s_alenK (i := 2) rfl (fun v2 => ?_)
  refine s_aloadK_n (i := 3) rfl 0 rfl ?_
  refine u_callKi [] a0 [tI v2] rfl (i := 4) rfl (c_J0_coder h a0) xm_J0_coder (tw296) rfl (Nat.le_of_ble_eq_true rfl) (xRm.of rfl) ⟨rfl, rfl⟩ (fun q3 => ?_)
  refine s_ishr (i := 5) rfl ?_
  exact s_iret (i := 6) rfl rfl
def y_J0_isLatin1 : MethodName := ⟨"java/lang/String", "isLatin1", "()Z"⟩
def T_J0_isLatin1 : List (Nat × Instr × Nat × Nat) := [(0, .getstatic 38, 3, 3), (3, .ifCond .eq 14, 3, 6), (6, .aload_n 0, 1, 7), (7, .getfield 15, 3, 10), (10, .ifCond .ne 7, 3, 13), (13, .iconst 1, 1, 14), (14, .goto 4, 3, 17), (17, .iconst 0, 1, 18), (18, .ireturn, 1, 19)]
def I_J0_isLatin1 : MI := (prog_15_method_154_code, 1, (some .boolean), "java/lang/String", "isLatin1", T_J0_isLatin1, 0, 0, 1, 60)
theorem dT_J0_isLatin1 : ∀ q ∈ T_J0_isLatin1, decode prog_15_method_154_code q.1 = .ok (q.2.1, q.2.2.1) ∧ q.2.2.2 = q.1 + q.2.2.1 := by decide +kernel
theorem xm_J0_isLatin1 : xCK y_J0_isLatin1 I_J0_isLatin1 0 := ⟨rfl, ⟨tw307, tw308⟩, tw76, tw309, ⟨by decide +kernel, by decide +kernel, by decide +kernel⟩⟩
noncomputable def f_J0_isLatin1_18 (h : XM) (s0 : Int32) : Option (Int32 × XM) := rz h s0
noncomputable def f_J0_isLatin1_17 (h : XM) : Option (Int32 × XM) := f_J0_isLatin1_18 h ((0 : Int32))
noncomputable def f_J0_isLatin1 (h : XM) (a0 : Nat) : Option (Int32 × XM) := if ((1 : Int32)) = 0 then (f_J0_isLatin1_17 h) else ((gCo a0).bind fun v1 => if v1 = 0 then (f_J0_isLatin1_18 h ((1 : Int32))) else (f_J0_isLatin1_17 h))
theorem b_J0_isLatin1_18 (X : XX) (h : XM) (s0 : Int32) : SW X I_J0_isLatin1 ρi 18 [] [tI s0] h 0 0 (f_J0_isLatin1_18 h s0) := by
  unfold f_J0_isLatin1_18
  exact s_zret (i := 8) rfl rfl
theorem b_J0_isLatin1_17 (X : XX) (h : XM) : SW X I_J0_isLatin1 ρi 17 [] [] h 0 0 (f_J0_isLatin1_17 h) := by
  unfold f_J0_isLatin1_17
  refine s_iconst (i := 7) rfl (v := (0 : Int32)) (by decide) ?_
  exact s_sub [] rfl (b_J0_isLatin1_18 X h ((0 : Int32)))
theorem c_J0_isLatin1 (h : XM) (a0 : Nat) : MC I_J0_isLatin1 y_J0_isLatin1 [tK a0] h ρi (f_J0_isLatin1 h a0) := by
  refine MC_of ⟨by decide +kernel, rfl, rfl, Nat.le_of_ble_eq_true rfl⟩ dT_J0_isLatin1 (fun X => ?_)
  show SW X I_J0_isLatin1 ρi 0 [(0, tK a0)] [] h 0 0 (f_J0_isLatin1 h a0)
  unfold f_J0_isLatin1
  refine s_getCompact (i := 0) rfl (tw300) ?_
  refine s_ifeq (i := 1) rfl (tgt := 17) (by decide) (fun z3 => ?_) (fun z3 => ?_)
  · exact s_sub [] rfl (b_J0_isLatin1_17 X h)
  · refine s_aloadK_n (i := 2) rfl 0 rfl ?_
    refine s_strC (i := 3) rfl (tw1455) (fun v1 => ?_)
    refine s_ifne (i := 4) rfl (tgt := 17) (by decide) (fun z10 => ?_) (fun z10 => ?_)
    · refine s_iconst (i := 5) rfl (v := (1 : Int32)) (by decide) ?_
      refine s_goto (i := 6) rfl (tgt := 18) (by decide) ?_
      exact s_sub [] rfl (b_J0_isLatin1_18 X h ((1 : Int32)))
    · exact s_sub [] rfl (b_J0_isLatin1_17 X h)
def y_J3_checkIndex : MethodName := ⟨"jdk/internal/util/Preconditions", "checkIndex", "(IILjava/util/function/BiFunction;)I"⟩
def T_J3_checkIndex : List (Nat × Instr × Nat × Nat) := [(0, .iload_n 0, 1, 1), (1, .ifCond .lt 8, 3, 4), (4, .iload_n 0, 1, 5), (5, .iload_n 1, 1, 6), (6, .if_icmp .lt 10, 3, 9), (9, .aload_n 2, 1, 10), (10, .iload_n 0, 1, 11), (11, .iload_n 1, 1, 12), (12, .invokestatic 95, 3, 15), (15, .athrow, 1, 16), (16, .iload_n 0, 1, 17), (17, .ireturn, 1, 18)]
def I_J3_checkIndex : MI := (prog_20_method_11_code, 3, (some .int), "jdk/internal/util/Preconditions", "checkIndex", T_J3_checkIndex, 0, 0, 1, 60)
theorem dT_J3_checkIndex : ∀ q ∈ T_J3_checkIndex, decode prog_20_method_11_code q.1 = .ok (q.2.1, q.2.2.1) ∧ q.2.2.2 = q.1 + q.2.2.1 := by decide +kernel
theorem xm_J3_checkIndex : xCS y_J3_checkIndex I_J3_checkIndex 3 := ⟨tw319, tw78, tw320, ⟨by decide +kernel, by decide +kernel, by decide +kernel⟩⟩
noncomputable def f_J3_checkIndex_9 (h : XM) (l0 : Int32) (l1 : Int32) (l2 : Nat) : Option (Int32 × XM) := none
noncomputable def f_J3_checkIndex (h : XM) (a0 : Int32) (a1 : Int32) (a2 : Nat) : Option (Int32 × XM) := if a0 < 0 then (f_J3_checkIndex_9 h a0 a1 a2) else (if a0 < a1 then (some (a0, h)) else (f_J3_checkIndex_9 h a0 a1 a2))
theorem b_J3_checkIndex_9 (X : XX) (h : XM) (l0 : Int32) (l1 : Int32) (l2 : Nat) : SW X I_J3_checkIndex ρi 9 [(0, tI l0), (1, tI l1), (2, tK l2)] [] h 0 0 (f_J3_checkIndex_9 h l0 l1 l2) := by
  unfold f_J3_checkIndex_9
  refine s_aloadK_n (i := 5) rfl 2 rfl ?_
  refine s_iload_n (i := 6) rfl 0 rfl ?_
  refine s_iload_n (i := 7) rfl 1 rfl ?_
  exact s_none
theorem c_J3_checkIndex (h : XM) (a0 : Int32) (a1 : Int32) (a2 : Nat) : MC I_J3_checkIndex y_J3_checkIndex [tI a0, tI a1, tK a2] h ρi (f_J3_checkIndex h a0 a1 a2) := by
  refine MC_of ⟨by decide +kernel, rfl, rfl, Nat.le_of_ble_eq_true rfl⟩ dT_J3_checkIndex (fun X => ?_)
  show SW X I_J3_checkIndex ρi 0 [(0, tI a0), (1, tI a1), (2, tK a2)] [] h 0 0 (f_J3_checkIndex h a0 a1 a2)
  unfold f_J3_checkIndex
  refine s_iload_n (i := 0) rfl 0 rfl ?_
  refine s_iflt (i := 1) rfl (tgt := 9) (by decide) (fun z1 => ?_) (fun z1 => ?_)
  · exact s_sub [0, 1, 2] rfl (b_J3_checkIndex_9 X h a0 a1 a2)
  · refine s_iload_n (i := 2) rfl 0 rfl ?_
    refine s_iload_n (i := 3) rfl 1 rfl ?_
    refine s_icmplt (i := 4) rfl (tgt := 16) (by decide) (fun z6 => ?_) (fun z6 => ?_)
    · refine s_iload_n (i := 10) rfl 0 rfl ?_
      exact s_iret (i := 11) rfl rfl
    · exact s_sub [0, 1, 2] rfl (b_J3_checkIndex_9 X h a0 a1 a2)
def y_J0_checkIndex : MethodName := ⟨"java/lang/String", "checkIndex", "(II)V"⟩
def T_J0_checkIndex : List (Nat × Instr × Nat × Nat) := [(0, .iload_n 0, 1, 1), (1, .iload_n 1, 1, 2), (2, .getstatic 1053, 3, 5), (5, .invokestatic 1059, 3, 8), (8, .pop, 1, 9), (9, .return_, 1, 10)]
def I_J0_checkIndex : MI := (prog_15_method_155_code, 2, none, "java/lang/String", "checkIndex", T_J0_checkIndex, 0, 0, 2, 82)
theorem dT_J0_checkIndex : ∀ q ∈ T_J0_checkIndex, decode prog_15_method_155_code q.1 = .ok (q.2.1, q.2.2.1) ∧ q.2.2.2 = q.1 + q.2.2.1 := by decide +kernel
theorem xm_J0_checkIndex : xCS y_J0_checkIndex I_J0_checkIndex 2 := ⟨tw314, tw76, tw315, ⟨by decide +kernel, by decide +kernel, by decide +kernel⟩⟩
noncomputable def f_J0_checkIndex (h : XM) (a0 : Int32) (a1 : Int32) : Option (XM) := (f_J3_checkIndex h a0 a1 5).bind fun q1 => some q1.2
theorem c_J0_checkIndex (h : XM) (a0 : Int32) (a1 : Int32) : MC I_J0_checkIndex y_J0_checkIndex [tI a0, tI a1] h ρv (f_J0_checkIndex h a0 a1) := by
  refine MC_of ⟨by decide +kernel, rfl, rfl, Nat.le_of_ble_eq_true rfl⟩ dT_J0_checkIndex (fun X => ?_)
  show SW X I_J0_checkIndex ρv 0 [(0, tI a0), (1, tI a1)] [] h 0 0 (f_J0_checkIndex h a0 a1)
  unfold f_J0_checkIndex
  refine s_iload_n (i := 0) rfl 0 rfl ?_
  refine s_iload_n (i := 1) rfl 1 rfl ?_
  refine s_getFmt (i := 2) rfl (tw316) ?_
  refine u_callSi [tI a0, tI a1, tK 5] [] rfl (i := 3) rfl (c_J3_checkIndex h a0 a1 5) xm_J3_checkIndex (tw318) rfl (Nat.le_of_ble_eq_true rfl) (xRm.of rfl) ⟨rfl, rfl⟩ (fun q1 => ?_)
  refine s_pop (i := 4) rfl rfl ?_
  exact s_vret (i := 5) rfl rfl
def y_J1_charAt : MethodName := ⟨"java/lang/StringLatin1", "charAt", "([BI)C"⟩
def T_J1_charAt : List (Nat × Instr × Nat × Nat) := [(0, .iload_n 1, 1, 1), (1, .aload_n 0, 1, 2), (2, .arraylength, 1, 3), (3, .invokestatic 9, 3, 6), (6, .aload_n 0, 1, 7), (7, .iload_n 1, 1, 8), (8, .baload, 1, 9), (9, .sipush 255, 3, 12), (12, .iand, 1, 13), (13, .i2c, 1, 14), (14, .ireturn, 1, 15)]
def I_J1_charAt : MI := (prog_16_method_2_code, 2, (some .char), "java/lang/StringLatin1", "charAt", T_J1_charAt, 0, 0, 3, 103)
theorem dT_J1_charAt : ∀ q ∈ T_J1_charAt, decode prog_16_method_2_code q.1 = .ok (q.2.1, q.2.2.1) ∧ q.2.2.2 = q.1 + q.2.2.1 := by decide +kernel
theorem xm_J1_charAt : xCS y_J1_charAt I_J1_charAt 2 := ⟨tw311, tw77, tw312, ⟨by decide +kernel, by decide +kernel, by decide +kernel⟩⟩
noncomputable def f_J1_charAt (h : XM) (a0 : Nat) (a1 : Int32) : Option (Int32 × XM) := (lnK a0).bind fun v1 => (f_J0_checkIndex h a1 v1).bind fun q2 => (rB a0 a1).bind fun v3 => rzc q2 (((v3 &&& ((255 : Int32))).toUInt32 % 65536).toInt32)
theorem c_J1_charAt (h : XM) (a0 : Nat) (a1 : Int32) : MC I_J1_charAt y_J1_charAt [tK a0, tI a1] h ρi (f_J1_charAt h a0 a1) := by
  refine MC_of ⟨by decide +kernel, rfl, rfl, Nat.le_of_ble_eq_true rfl⟩ dT_J1_charAt (fun X => ?_)
  show SW X I_J1_charAt ρi 0 [(0, tK a0), (1, tI a1)] [] h 0 0 (f_J1_charAt h a0 a1)
  unfold f_J1_charAt
  refine s_iload_n (i := 0) rfl 1 rfl ?_
  refine s_aloadK_n (i := 1) rfl 0 rfl ?_
  refine s_alenK (i := 2) rfl (fun v1 => ?_)
  refine u_callSv [tI a1, tI v1] [] rfl (i := 3) rfl (c_J0_checkIndex h a1 v1) xm_J0_checkIndex (tw313) rfl (Nat.le_of_ble_eq_true rfl) (xRm.of rfl) ⟨rfl, rfl⟩ (fun q2 => ?_)
  refine s_aloadK_n (i := 4) rfl 0 rfl ?_
  refine s_iload_n (i := 5) rfl 1 rfl ?_
  refine s_baloadK (i := 6) rfl (fun v3 => ?_)
  refine s_sipush (i := 7) rfl (v := (255 : Int32)) (by decide) ?_
  refine s_iand (i := 8) rfl ?_
  refine s_i2c (i := 9) rfl ?_
  exact s_cret (i := 10) rfl rfl
def y_J0_charAt : MethodName := ⟨"java/lang/String", "charAt", "(I)C"⟩
def T_J0_charAt : List (Nat × Instr × Nat × Nat) := [(0, .aload_n 0, 1, 1), (1, .invokevirtual 492, 3, 4), (4, .ifCond .eq 12, 3, 7), (7, .aload_n 0, 1, 8), (8, .getfield 9, 3, 11), (11, .iload_n 1, 1, 12), (12, .invokestatic 495, 3, 15), (15, .ireturn, 1, 16), (16, .aload_n 0, 1, 17), (17, .getfield 9, 3, 20), (20, .iload_n 1, 1, 21), (21, .invokestatic 498, 3, 24), (24, .ireturn, 1, 25)]
def I_J0_charAt : MI := (prog_15_method_56_code, 2, (some .char), "java/lang/String", "charAt", T_J0_charAt, 0, 0, 4, 124)
theorem dT_J0_charAt : ∀ q ∈ T_J0_charAt, decode prog_15_method_56_code q.1 = .ok (q.2.1, q.2.2.1) ∧ q.2.2.2 = q.1 + q.2.2.1 := by decide +kernel
theorem xm_J0_charAt : xCK y_J0_charAt I_J0_charAt 1 := ⟨rfl, ⟨tw303, tw304⟩, tw76, tw305, ⟨by decide +kernel, by decide +kernel, by decide +kernel⟩⟩
noncomputable def f_J0_charAt (h : XM) (a0 : Nat) (a1 : Int32) : Option (Int32 × XM) := (vk a0 (f_J0_isLatin1 h a0)).bind fun q1 => if q1.1 = 0 then ((gS a0).bind fun v2 => none) else ((gS a0).bind fun v3 => (f_J1_charAt q1.2 v3 a1).bind fun q4 => rzc q4.2 q4.1)
theorem c_J0_charAt (h : XM) (a0 : Nat) (a1 : Int32) : MC I_J0_charAt y_J0_charAt [tK a0, tI a1] h ρi (f_J0_charAt h a0 a1) := by
  refine MC_of ⟨by decide +kernel, rfl, rfl, Nat.le_of_ble_eq_true rfl⟩ dT_J0_charAt (fun X => ?_)
  show SW X I_J0_charAt ρi 0 [(0, tK a0), (1, tI a1)] [] h 0 0 (f_J0_charAt h a0 a1)
  unfold f_J0_charAt
  refine s_aloadK_n (i := 0) rfl 0 rfl ?_
  refine u_callKi [] a0 [] rfl (i := 1) rfl (c_J0_isLatin1 h a0) xm_J0_isLatin1 (tw306) rfl (Nat.le_of_ble_eq_true rfl) (xRm.of rfl) ⟨rfl, rfl⟩ (fun q1 => ?_)
  refine s_ifeq (i := 2) rfl (tgt := 16) (by decide) (fun z4 => ?_) (fun z4 => ?_)
  · refine s_aloadK_n (i := 8) rfl 0 rfl ?_
    refine s_strV (i := 9) rfl (tw1454) (fun v2 => ?_)
    refine s_iload_n (i := 10) rfl 1 rfl ?_
    exact s_none
  · refine s_aloadK_n (i := 3) rfl 0 rfl ?_
    refine s_strV (i := 4) rfl (tw1454) (fun v3 => ?_)
    refine s_iload_n (i := 5) rfl 1 rfl ?_
    refine u_callSi [tK v3, tI a1] [] rfl (i := 6) rfl (c_J1_charAt q1.2 v3 a1) xm_J1_charAt (tw310) rfl (Nat.le_of_ble_eq_true rfl) (xRm.of rfl) ⟨rfl, rfl⟩ (fun q4 => ?_)
    exact s_cret (i := 7) rfl rfl
def y_J7_copyOf : MethodName := ⟨"java/util/Arrays", "copyOf", "([II)[I"⟩
def T_J7_copyOf : List (Nat × Instr × Nat × Nat) := [(0, .iload_n 1, 1, 1), (1, .aload_n 0, 1, 2), (2, .arraylength, 1, 3), (3, .if_icmp .ne 11, 3, 6), (6, .aload_n 0, 1, 7), (7, .invokevirtual 316, 3, 10), (10, .checkcast 317, 3, 13), (13, .areturn, 1, 14), (14, .iload_n 1, 1, 15), (15, .newarray .int, 2, 17), (17, .astore_n 2, 1, 18), (18, .aload_n 0, 1, 19), (19, .iconst 0, 1, 20), (20, .aload_n 2, 1, 21), (21, .iconst 0, 1, 22), (22, .aload_n 0, 1, 23), (23, .arraylength, 1, 24), (24, .iload_n 1, 1, 25), (25, .invokestatic 304, 3, 28), (28, .invokestatic 150, 3, 31), (31, .aload_n 2, 1, 32), (32, .areturn, 1, 33)]
def I_J7_copyOf : MI := (prog_19_method_123_code, 3, (some (.array .int)), "java/util/Arrays", "copyOf", T_J7_copyOf, 1, 200, 2, 81)
theorem dT_J7_copyOf : ∀ q ∈ T_J7_copyOf, decode prog_19_method_123_code q.1 = .ok (q.2.1, q.2.2.1) ∧ q.2.2.2 = q.1 + q.2.2.1 := by decide +kernel
theorem xm_J7_copyOf : xCS y_J7_copyOf I_J7_copyOf 2 := ⟨tw436, tw81, tw437, ⟨by decide +kernel, by decide +kernel, by decide +kernel⟩⟩
noncomputable def f_J7_copyOf (h : XM) (a0 : Option Nat) (a1 : Int32) : Option (Option Nat × XM) := (ln h a0).bind fun v1 => if a1 = v1 then ((nC h 200 a0).bind fun h2 => vc h2 10 (some (xc h)) (some (some (xc h), h2))) else ((nA h 10 200 a1).bind fun h3 => (ln h3 a0).bind fun v4 => bnd (if a1 < v4 then a1 else v4) fun v5 => (cp h3 a0 ((0 : Int32)) (some (xc h)) ((0 : Int32)) v5).bind fun h6 => some (some (xc h), h6))
theorem c_J7_copyOf (h : XM) (a0 : Option Nat) (a1 : Int32) : MC I_J7_copyOf y_J7_copyOf [tA a0, tI a1] h ρa (f_J7_copyOf h a0 a1) := by
  refine MC_of ⟨by decide +kernel, rfl, rfl, Nat.le_of_ble_eq_true rfl⟩ dT_J7_copyOf (fun X => ?_)
  show SW X I_J7_copyOf ρa 0 [(0, tA a0), (1, tI a1)] [] h 1 200 (f_J7_copyOf h a0 a1)
  unfold f_J7_copyOf
  refine s_iload_n (i := 0) rfl 1 rfl ?_
  refine s_bud 1 200 (by omega) (by omega) ?_
  refine s_aload_n (i := 1) rfl 0 rfl ?_
  refine s_bud 1 200 (by omega) (by omega) ?_
  refine s_alen (i := 2) rfl (fun v1 => ?_)
  refine s_bud 1 200 (by omega) (by omega) ?_
  refine s_icmpne (i := 3) rfl (tgt := 14) (by decide) (fun z3 => ?_) (fun z3 => ?_)
  · refine s_bud 1 200 (by omega) (by omega) ?_
    refine s_aload_n (i := 4) rfl 0 rfl ?_
    refine s_bud 1 200 (by omega) (by omega) ?_
    refine s_bud (1 + 0) (200 + 0) (by omega) (by omega) ?_
    refine s_clone (i := 5) rfl (lim := 200) ⟨tw438, tw439, tw440, tw441, tw442⟩ (Nat.le_of_ble_eq_true rfl) ⟨by decide, by decide⟩ (fun h2 => ?_)
    refine s_bud 0 0 (by omega) (by omega) ?_
    refine s_castI (i := 6) rfl (tw444) ?_
    refine s_bud 0 0 (by omega) (by omega) ?_
    exact s_aret (i := 7) rfl rfl (Or.inr ⟨_, rfl⟩)
  · refine s_bud 1 200 (by omega) (by omega) ?_
    refine s_iload_n (i := 8) rfl 1 rfl ?_
    refine s_bud 1 200 (by omega) (by omega) ?_
    refine s_bud (1 + 0) (200 + 0) (by omega) (by omega) ?_
    refine s_newarr (i := 9) rfl (lim := 200) (Or.inl ⟨rfl, rfl⟩) (by decide) (tw158) (fun h3 => ?_)
    refine s_bud 0 0 (by omega) (by omega) ?_
    refine s_astore_n (i := 10) rfl (Nat.le_of_ble_eq_true rfl) (ls2 := [(2, tA (some (xc h))), (0, tA a0), (1, tI a1)]) rfl ?_
    refine s_bud 0 0 (by omega) (by omega) ?_
    refine s_aload_n (i := 11) rfl 1 rfl ?_
    refine s_bud 0 0 (by omega) (by omega) ?_
    refine s_iconst (i := 12) rfl (v := (0 : Int32)) (by decide) ?_
    refine s_bud 0 0 (by omega) (by omega) ?_
    refine s_aload_n (i := 13) rfl 0 rfl ?_
    refine s_bud 0 0 (by omega) (by omega) ?_
    refine s_iconst (i := 14) rfl (v := (0 : Int32)) (by decide) ?_
    refine s_bud 0 0 (by omega) (by omega) ?_
    refine s_aload_n (i := 15) rfl 1 rfl ?_
    refine s_bud 0 0 (by omega) (by omega) ?_
    refine s_alen (i := 16) rfl (fun v4 => ?_)
    refine s_bud 0 0 (by omega) (by omega) ?_
    refine s_iload_n (i := 17) rfl 2 rfl ?_
    refine s_bud 0 0 (by omega) (by omega) ?_
    refine s_mmin (i := 18) rfl ⟨tw445, tw446, tw82, tw447⟩ (Nat.le_of_ble_eq_true rfl) ⟨by decide, by decide⟩ ?_
    refine s_bnd (fun v5 => ?_)
    refine s_bud 0 0 (by omega) (by omega) ?_
    refine s_copy (i := 19) rfl ⟨tw448, tw450, tw449, tw83⟩ (Nat.le_of_ble_eq_true rfl) ⟨by decide, by decide⟩ (fun h6 => ?_)
    refine s_bud 0 0 (by omega) (by omega) ?_
    refine s_aload_n (i := 20) rfl 0 rfl ?_
    refine s_bud 0 0 (by omega) (by omega) ?_
    exact s_aret (i := 21) rfl rfl (Or.inr ⟨_, rfl⟩)
def y_J9_floorMod : MethodName := ⟨"java/lang/Math", "floorMod", "(II)I"⟩
def T_J9_floorMod : List (Nat × Instr × Nat × Nat) := [(0, .iload_n 0, 1, 1), (1, .iload_n 1, 1, 2), (2, .irem, 1, 3), (3, .istore_n 2, 1, 4), (4, .iload_n 0, 1, 5), (5, .iload_n 1, 1, 6), (6, .ixor, 1, 7), (7, .ifCond .ge 11, 3, 10), (10, .iload_n 2, 1, 11), (11, .ifCond .eq 7, 3, 14), (14, .iload_n 2, 1, 15), (15, .iload_n 1, 1, 16), (16, .iadd, 1, 17), (17, .ireturn, 1, 18), (18, .iload_n 2, 1, 19), (19, .ireturn, 1, 20)]
def I_J9_floorMod : MI := (prog_14_method_50_code, 3, (some .int), "java/lang/Math", "floorMod", T_J9_floorMod, 0, 0, 1, 60)
theorem dT_J9_floorMod : ∀ q ∈ T_J9_floorMod, decode prog_14_method_50_code q.1 = .ok (q.2.1, q.2.2.1) ∧ q.2.2.2 = q.1 + q.2.2.1 := by decide +kernel
theorem xm_J9_floorMod : xCS y_J9_floorMod I_J9_floorMod 2 := ⟨tw853, tw82, tw854, ⟨by decide +kernel, by decide +kernel, by decide +kernel⟩⟩
noncomputable def f_J9_floorMod_18 (h : XM) (l2 : Int32) : Option (Int32 × XM) := some (l2, h)
noncomputable def f_J9_floorMod (h : XM) (a0 : Int32) (a1 : Int32) : Option (Int32 × XM) := (irem a0 a1).bind fun v1 => if (a0 ^^^ a1) < 0 then (if v1 = 0 then (f_J9_floorMod_18 h v1) else (some (v1 + a1, h))) else (f_J9_floorMod_18 h v1)
theorem b_J9_floorMod_18 (X : XX) (h : XM) (l2 : Int32) : SW X I_J9_floorMod ρi 18 [(2, tI l2)] [] h 0 0 (f_J9_floorMod_18 h l2) := by
  unfold f_J9_floorMod_18
  refine s_iload_n (i := 14) rfl 0 rfl ?_
  exact s_iret (i := 15) rfl rfl
theorem c_J9_floorMod (h : XM) (a0 : Int32) (a1 : Int32) : MC I_J9_floorMod y_J9_floorMod [tI a0, tI a1] h ρi (f_J9_floorMod h a0 a1) := by
  refine MC_of ⟨by decide +kernel, rfl, rfl, Nat.le_of_ble_eq_true rfl⟩ dT_J9_floorMod (fun X => ?_)
  show SW X I_J9_floorMod ρi 0 [(0, tI a0), (1, tI a1)] [] h 0 0 (f_J9_floorMod h a0 a1)
  unfold f_J9_floorMod
  refine s_iload_n (i := 0) rfl 0 rfl ?_
  refine s_iload_n (i := 1) rfl 1 rfl ?_
  refine s_irem (i := 2) rfl (fun v1 => ?_)
  refine s_istore_n (i := 3) rfl (Nat.le_of_ble_eq_true rfl) (ls2 := [(2, tI v1), (0, tI a0), (1, tI a1)]) rfl ?_
  refine s_iload_n (i := 4) rfl 1 rfl ?_
  refine s_iload_n (i := 5) rfl 2 rfl ?_
  refine s_ixor (i := 6) rfl ?_
  refine s_ifge (i := 7) rfl (tgt := 18) (by decide) (fun z7 => ?_) (fun z7 => ?_)
  · refine s_iload_n (i := 8) rfl 0 rfl ?_
    refine s_ifeq (i := 9) rfl (tgt := 18) (by decide) (fun z11 => ?_) (fun z11 => ?_)
    · exact s_sub [0] rfl (b_J9_floorMod_18 X h v1)
    · refine s_iload_n (i := 10) rfl 0 rfl ?_
      refine s_iload_n (i := 11) rfl 2 rfl ?_
      refine s_iadd (i := 12) rfl ?_
      exact s_iret (i := 13) rfl rfl
  · exact s_sub [0] rfl (b_J9_floorMod_18 X h v1)
