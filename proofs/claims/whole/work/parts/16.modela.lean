/-! 16.model: the methods as functions, and that the bytecode does so (written by wip/whole/gen/gen_parts.py) -/
def y_X9_in : MethodName := ⟨"OpensAtNineModel", "in", "(III)Z"⟩
def T_X9_in : List (Nat × Instr × Nat × Nat) := [(0, .iload_n 0, 1, 1), (1, .iload_n 1, 1, 2), (2, .if_icmp .lt 12, 3, 5), (5, .iload_n 0, 1, 6), (6, .iload_n 2, 1, 7), (7, .if_icmp .gt 7, 3, 10), (10, .iconst 1, 1, 11), (11, .goto 4, 3, 14), (14, .iconst 0, 1, 15), (15, .ireturn, 1, 16)]
def I_X9_in : MI := (prog_11_method_3_code, 3, (some .boolean), "OpensAtNineModel", "in", T_X9_in, 0, 0, 1, 60)
theorem dT_X9_in : ∀ q ∈ T_X9_in, decode prog_11_method_3_code q.1 = .ok (q.2.1, q.2.2.1) ∧ q.2.2.2 = q.1 + q.2.2.1 := by decide +kernel
theorem xm_X9_in : xCS y_X9_in I_X9_in 3 := ⟨tw975, tw84, tw976, ⟨by decide +kernel, by decide +kernel, by decide +kernel⟩⟩
noncomputable def f_X9_in_15 (h : XM) (s0 : Int32) : Option (Int32 × XM) := rz h s0
noncomputable def f_X9_in_14 (h : XM) : Option (Int32 × XM) := f_X9_in_15 h ((0 : Int32))
noncomputable def f_X9_in (h : XM) (a0 : Int32) (a1 : Int32) (a2 : Int32) : Option (Int32 × XM) := if a0 < a1 then (f_X9_in_14 h) else (if a2 < a0 then (f_X9_in_14 h) else (f_X9_in_15 h ((1 : Int32))))
theorem b_X9_in_15 (X : XX) (h : XM) (s0 : Int32) : SW X I_X9_in ρi 15 [] [tI s0] h 0 0 (f_X9_in_15 h s0) := by
  unfold f_X9_in_15
  exact s_zret (i := 9) rfl rfl
theorem b_X9_in_14 (X : XX) (h : XM) : SW X I_X9_in ρi 14 [] [] h 0 0 (f_X9_in_14 h) := by
  unfold f_X9_in_14
  refine s_iconst (i := 8) rfl (v := (0 : Int32)) (by decide) ?_
  exact s_sub [] rfl (b_X9_in_15 X h ((0 : Int32)))
theorem c_X9_in (h : XM) (a0 : Int32) (a1 : Int32) (a2 : Int32) : MC I_X9_in y_X9_in [tI a0, tI a1, tI a2] h ρi (f_X9_in h a0 a1 a2) := by
  refine MC_of ⟨by decide +kernel, rfl, rfl, Nat.le_of_ble_eq_true rfl⟩ dT_X9_in (fun X => ?_)
  show SW X I_X9_in ρi 0 [(0, tI a0), (1, tI a1), (2, tI a2)] [] h 0 0 (f_X9_in h a0 a1 a2)
  unfold f_X9_in
  refine s_iload_n (i := 0) rfl 0 rfl ?_
  refine s_iload_n (i := 1) rfl 1 rfl ?_
  refine s_icmplt (i := 2) rfl (tgt := 14) (by decide) (fun z2 => ?_) (fun z2 => ?_)
  · exact s_sub [] rfl (b_X9_in_14 X h)
  · refine s_iload_n (i := 3) rfl 0 rfl ?_
    refine s_iload_n (i := 4) rfl 2 rfl ?_
    refine s_icmpgt (i := 5) rfl (tgt := 14) (by decide) (fun z7 => ?_) (fun z7 => ?_)
    · exact s_sub [] rfl (b_X9_in_14 X h)
    · refine s_iconst (i := 6) rfl (v := (1 : Int32)) (by decide) ?_
      refine s_goto (i := 7) rfl (tgt := 15) (by decide) ?_
      exact s_sub [] rfl (b_X9_in_15 X h ((1 : Int32)))
def y_X9_wordFrom : MethodName := ⟨"OpensAtNineModel", "wordFrom", "(II)I"⟩
def T_X9_wordFrom : List (Nat × Instr × Nat × Nat) := [(0, .iconst 0, 1, 1), (1, .istore_n 3, 1, 2), (2, .iload_n 3, 1, 3), (3, .bipush 12, 2, 5), (5, .if_icmp .ge 96, 3, 8), (8, .iload_n 2, 1, 9), (9, .iload_n 1, 1, 10), (10, .isub, 1, 11), (11, .bipush 8, 2, 13), (13, .if_icmp .gt 7, 3, 16), (16, .iconst 1, 1, 17), (17, .goto 4, 3, 20), (20, .iconst 0, 1, 21), (21, .istore 4, 2, 23), (23, .iconst 0, 1, 24), (24, .istore 5, 2, 26), (26, .iload 5, 2, 28), (28, .bipush 8, 2, 30), (30, .if_icmp .ge 58, 3, 33), (33, .iload 4, 2, 35), (35, .ifCond .eq 53, 3, 38), (38, .aload_n 0, 1, 39), (39, .getfield 53, 3, 42), (42, .bipush 8, 2, 44), (44, .iload_n 3, 1, 45), (45, .imul, 1, 46), (46, .iload 5, 2, 48), (48, .iadd, 1, 49), (49, .iaload, 1, 50), (50, .iload_n 1, 1, 51), (51, .iload 5, 2, 53), (53, .iadd, 1, 54), (54, .iload_n 2, 1, 55), (55, .if_icmp .ge 15, 3, 58), (58, .aload_n 0, 1, 59), (59, .getfield 26, 3, 62), (62, .iload_n 1, 1, 63), (63, .iload 5, 2, 65), (65, .iadd, 1, 66), (66, .iaload, 1, 67), (67, .goto 5, 3, 70), (70, .bipush 32, 2, 72), (72, .if_icmp .ne 7, 3, 75), (75, .iconst 1, 1, 76), (76, .goto 4, 3, 79), (79, .iconst 0, 1, 80), (80, .istore 4, 2, 82), (82, .iinc 5 1, 3, 85), (85, .goto (-59), 3, 88), (88, .iload 4, 2, 90), (90, .ifCond .eq 5, 3, 93), (93, .iload_n 3, 1, 94), (94, .ireturn, 1, 95), (95, .iinc 3 1, 3, 98), (98, .goto (-96), 3, 101), (101, .bipush 12, 2, 103), (103, .ireturn, 1, 104)]
def I_X9_wordFrom : MI := (prog_11_method_16_code, 6, (some .int), "OpensAtNineModel", "wordFrom", T_X9_wordFrom, 0, 0, 1, 60)
theorem dT_X9_wordFrom : ∀ q ∈ T_X9_wordFrom, decode prog_11_method_16_code q.1 = .ok (q.2.1, q.2.2.1) ∧ q.2.2.2 = q.1 + q.2.2.1 := by decide +kernel
theorem xm_X9_wordFrom : xCM y_X9_wordFrom I_X9_wordFrom 9 2 := ⟨⟨tw979, tw31⟩, tw84, tw980, ⟨xT9, 49, rfl⟩, ⟨by decide +kernel, by decide +kernel, by decide +kernel⟩⟩
noncomputable def f_X9_wordFrom_80 (k_2 : XM → Option Nat → Int32 → Int32 → Int32 → Option (Int32 × XM)) (k_26 : XM → Option Nat → Int32 → Int32 → Int32 → Int32 → Int32 → Option (Int32 × XM)) (h : XM) (l0 : Option Nat) (l1 : Int32) (l2 : Int32) (l3 : Int32) (l5 : Int32) (s0 : Int32) : Option (Int32 × XM) := bnd (l5 + (1 : Int32)) fun v1 => k_26 h l0 l1 l2 l3 s0 v1
noncomputable def f_X9_wordFrom_72 (k_2 : XM → Option Nat → Int32 → Int32 → Int32 → Option (Int32 × XM)) (k_26 : XM → Option Nat → Int32 → Int32 → Int32 → Int32 → Int32 → Option (Int32 × XM)) (h : XM) (l0 : Option Nat) (l1 : Int32) (l2 : Int32) (l3 : Int32) (l5 : Int32) (s0 : Int32) (s1 : Int32) : Option (Int32 × XM) := if s1 = s0 then (f_X9_wordFrom_80 k_2 k_26 h l0 l1 l2 l3 l5 ((1 : Int32))) else (f_X9_wordFrom_80 k_2 k_26 h l0 l1 l2 l3 l5 ((0 : Int32)))
noncomputable def f_X9_wordFrom_88 (k_2 : XM → Option Nat → Int32 → Int32 → Int32 → Option (Int32 × XM)) (h : XM) (l0 : Option Nat) (l1 : Int32) (l2 : Int32) (l3 : Int32) (l4 : Int32) : Option (Int32 × XM) := if l4 = 0 then (bnd (l3 + (1 : Int32)) fun v2 => k_2 h l0 l1 l2 v2) else (some (l3, h))
noncomputable def fb_X9_wordFrom_26 (k_2 : XM → Option Nat → Int32 → Int32 → Int32 → Option (Int32 × XM)) (k_26 : XM → Option Nat → Int32 → Int32 → Int32 → Int32 → Int32 → Option (Int32 × XM)) (h : XM) (l0 : Option Nat) (l1 : Int32) (l2 : Int32) (l3 : Int32) (l4 : Int32) (l5 : Int32) : Option (Int32 × XM) := if l5 < ((8 : Int32)) then (if l4 = 0 then (f_X9_wordFrom_88 k_2 h l0 l1 l2 l3 l4) else ((gR h 9 l0 28).bind fun v3 => (rI h v3 ((((8 : Int32)) * l3) + l5)).bind fun v4 => if (l1 + l5) < l2 then ((gR h 9 l0 11).bind fun v5 => (rI h v5 (l1 + l5)).bind fun v6 => f_X9_wordFrom_72 k_2 k_26 h l0 l1 l2 l3 l5 v6 v4) else (f_X9_wordFrom_72 k_2 k_26 h l0 l1 l2 l3 l5 ((32 : Int32)) v4))) else (f_X9_wordFrom_88 k_2 h l0 l1 l2 l3 l4)
noncomputable def f_X9_wordFrom_26 (k_2 : XM → Option Nat → Int32 → Int32 → Int32 → Option (Int32 × XM)) (n : Nat) : XM → Option Nat → Int32 → Int32 → Int32 → Int32 → Int32 → Option (Int32 × XM) := Nat.rec (motive := fun _ => XM → Option Nat → Int32 → Int32 → Int32 → Int32 → Int32 → Option (Int32 × XM)) (fun _ _ _ _ _ _ _ => none) (fun _ ih h l0 l1 l2 l3 l4 l5 => fb_X9_wordFrom_26 k_2 ih h l0 l1 l2 l3 l4 l5) n
noncomputable def f_X9_wordFrom_21 (k_2 : XM → Option Nat → Int32 → Int32 → Int32 → Option (Int32 × XM)) (h : XM) (l0 : Option Nat) (l1 : Int32) (l2 : Int32) (l3 : Int32) (s0 : Int32) : Option (Int32 × XM) := f_X9_wordFrom_26 k_2 FU h l0 l1 l2 l3 s0 ((0 : Int32))
noncomputable def fb_X9_wordFrom_2 (k_2 : XM → Option Nat → Int32 → Int32 → Int32 → Option (Int32 × XM)) (h : XM) (l0 : Option Nat) (l1 : Int32) (l2 : Int32) (l3 : Int32) : Option (Int32 × XM) := if l3 < ((12 : Int32)) then (if ((8 : Int32)) < (l2 - l1) then (f_X9_wordFrom_21 k_2 h l0 l1 l2 l3 ((0 : Int32))) else (f_X9_wordFrom_21 k_2 h l0 l1 l2 l3 ((1 : Int32)))) else (some ((12 : Int32), h))
noncomputable def f_X9_wordFrom_2 (n : Nat) : XM → Option Nat → Int32 → Int32 → Int32 → Option (Int32 × XM) := Nat.rec (motive := fun _ => XM → Option Nat → Int32 → Int32 → Int32 → Option (Int32 × XM)) (fun _ _ _ _ _ => none) (fun _ ih h l0 l1 l2 l3 => fb_X9_wordFrom_2 ih h l0 l1 l2 l3) n
noncomputable def f_X9_wordFrom (h : XM) (a0 : Option Nat) (a1 : Int32) (a2 : Int32) : Option (Int32 × XM) := f_X9_wordFrom_2 FU h a0 a1 a2 ((0 : Int32))
theorem b_X9_wordFrom_80 (X : XX) (k_2 : XM → Option Nat → Int32 → Int32 → Int32 → Option (Int32 × XM)) (k_26 : XM → Option Nat → Int32 → Int32 → Int32 → Int32 → Int32 → Option (Int32 × XM)) (hk_2 : ∀ h l0 l1 l2 l3, SW X I_X9_wordFrom ρi 2 [(0, tA l0), (1, tI l1), (2, tI l2), (3, tI l3)] [] h 0 0 (k_2 h l0 l1 l2 l3)) (hk_26 : ∀ h l0 l1 l2 l3 l4 l5, SW X I_X9_wordFrom ρi 26 [(0, tA l0), (1, tI l1), (2, tI l2), (3, tI l3), (4, tI l4), (5, tI l5)] [] h 0 0 (k_26 h l0 l1 l2 l3 l4 l5)) (h : XM) (l0 : Option Nat) (l1 : Int32) (l2 : Int32) (l3 : Int32) (l5 : Int32) (s0 : Int32) : SW X I_X9_wordFrom ρi 80 [(0, tA l0), (1, tI l1), (2, tI l2), (3, tI l3), (5, tI l5)] [tI s0] h 0 0 (f_X9_wordFrom_80 k_2 k_26 h l0 l1 l2 l3 l5 s0) := by
  unfold f_X9_wordFrom_80
  refine s_istore (i := 46) rfl (Nat.le_of_ble_eq_true rfl) (ls2 := [(4, tI s0), (0, tA l0), (1, tI l1), (2, tI l2), (3, tI l3), (5, tI l5)]) rfl ?_
  refine s_inc (i := 47) rfl 5 rfl (c9 := (1 : Int32)) (by decide) (Nat.le_of_ble_eq_true rfl) (fun v1 => ?_)
  refine s_ls (ls2 := [(5, tI v1), (4, tI s0), (0, tA l0), (1, tI l1), (2, tI l2), (3, tI l3)]) rfl ?_
  refine s_goto (i := 48) rfl (tgt := 26) (by decide) ?_
  exact s_sub [2, 3, 4, 5, 1, 0] rfl (hk_26 h l0 l1 l2 l3 s0 v1)
theorem b_X9_wordFrom_72 (X : XX) (k_2 : XM → Option Nat → Int32 → Int32 → Int32 → Option (Int32 × XM)) (k_26 : XM → Option Nat → Int32 → Int32 → Int32 → Int32 → Int32 → Option (Int32 × XM)) (hk_2 : ∀ h l0 l1 l2 l3, SW X I_X9_wordFrom ρi 2 [(0, tA l0), (1, tI l1), (2, tI l2), (3, tI l3)] [] h 0 0 (k_2 h l0 l1 l2 l3)) (hk_26 : ∀ h l0 l1 l2 l3 l4 l5, SW X I_X9_wordFrom ρi 26 [(0, tA l0), (1, tI l1), (2, tI l2), (3, tI l3), (4, tI l4), (5, tI l5)] [] h 0 0 (k_26 h l0 l1 l2 l3 l4 l5)) (h : XM) (l0 : Option Nat) (l1 : Int32) (l2 : Int32) (l3 : Int32) (l5 : Int32) (s0 : Int32) (s1 : Int32) : SW X I_X9_wordFrom ρi 72 [(0, tA l0), (1, tI l1), (2, tI l2), (3, tI l3), (5, tI l5)] [tI s0, tI s1] h 0 0 (f_X9_wordFrom_72 k_2 k_26 h l0 l1 l2 l3 l5 s0 s1) := by
  unfold f_X9_wordFrom_72
  refine s_icmpne (i := 42) rfl (tgt := 79) (by decide) (fun z72 => ?_) (fun z72 => ?_)
  · refine s_iconst (i := 43) rfl (v := (1 : Int32)) (by decide) ?_
    refine s_goto (i := 44) rfl (tgt := 80) (by decide) ?_
    exact s_sub [0, 1, 2, 3, 4] rfl (b_X9_wordFrom_80 X k_2 k_26 hk_2 hk_26 h l0 l1 l2 l3 l5 ((1 : Int32)))
  · refine s_iconst (i := 45) rfl (v := (0 : Int32)) (by decide) ?_
    exact s_sub [0, 1, 2, 3, 4] rfl (b_X9_wordFrom_80 X k_2 k_26 hk_2 hk_26 h l0 l1 l2 l3 l5 ((0 : Int32)))
theorem b_X9_wordFrom_88 (X : XX) (k_2 : XM → Option Nat → Int32 → Int32 → Int32 → Option (Int32 × XM)) (hk_2 : ∀ h l0 l1 l2 l3, SW X I_X9_wordFrom ρi 2 [(0, tA l0), (1, tI l1), (2, tI l2), (3, tI l3)] [] h 0 0 (k_2 h l0 l1 l2 l3)) (h : XM) (l0 : Option Nat) (l1 : Int32) (l2 : Int32) (l3 : Int32) (l4 : Int32) : SW X I_X9_wordFrom ρi 88 [(0, tA l0), (1, tI l1), (2, tI l2), (3, tI l3), (4, tI l4)] [] h 0 0 (f_X9_wordFrom_88 k_2 h l0 l1 l2 l3 l4) := by
  unfold f_X9_wordFrom_88
  refine s_iload (i := 49) rfl 4 rfl ?_
  refine s_ifeq (i := 50) rfl (tgt := 95) (by decide) (fun z90 => ?_) (fun z90 => ?_)
  · refine s_inc (i := 53) rfl 3 rfl (c9 := (1 : Int32)) (by decide) (Nat.le_of_ble_eq_true rfl) (fun v2 => ?_)
    refine s_ls (ls2 := [(3, tI v2), (0, tA l0), (1, tI l1), (2, tI l2), (4, tI l4)]) rfl ?_
    refine s_goto (i := 54) rfl (tgt := 2) (by decide) ?_
    exact s_sub [1, 2, 3, 0] rfl (hk_2 h l0 l1 l2 v2)
  · refine s_iload_n (i := 51) rfl 3 rfl ?_
    exact s_iret (i := 52) rfl rfl
theorem bb_X9_wordFrom_26 (X : XX) (k_2 : XM → Option Nat → Int32 → Int32 → Int32 → Option (Int32 × XM)) (k_26 : XM → Option Nat → Int32 → Int32 → Int32 → Int32 → Int32 → Option (Int32 × XM)) (hk_2 : ∀ h l0 l1 l2 l3, SW X I_X9_wordFrom ρi 2 [(0, tA l0), (1, tI l1), (2, tI l2), (3, tI l3)] [] h 0 0 (k_2 h l0 l1 l2 l3)) (hk_26 : ∀ h l0 l1 l2 l3 l4 l5, SW X I_X9_wordFrom ρi 26 [(0, tA l0), (1, tI l1), (2, tI l2), (3, tI l3), (4, tI l4), (5, tI l5)] [] h 0 0 (k_26 h l0 l1 l2 l3 l4 l5)) (h : XM) (l0 : Option Nat) (l1 : Int32) (l2 : Int32) (l3 : Int32) (l4 : Int32) (l5 : Int32) : SW X I_X9_wordFrom ρi 26 [(0, tA l0), (1, tI l1), (2, tI l2), (3, tI l3), (4, tI l4), (5, tI l5)] [] h 0 0 (fb_X9_wordFrom_26 k_2 k_26 h l0 l1 l2 l3 l4 l5) := by
  unfold fb_X9_wordFrom_26
  refine s_iload (i := 16) rfl 5 rfl ?_
  refine s_bipush (i := 17) rfl (v := (8 : Int32)) (by decide) ?_
  refine s_icmpge (i := 18) rfl (tgt := 88) (by decide) (fun z30 => ?_) (fun z30 => ?_)
  · refine s_iload (i := 19) rfl 4 rfl ?_
    refine s_ifeq (i := 20) rfl (tgt := 88) (by decide) (fun z35 => ?_) (fun z35 => ?_)
    · exact s_sub [0, 1, 2, 3, 4] rfl (b_X9_wordFrom_88 X k_2 hk_2 h l0 l1 l2 l3 l4)
    · refine s_aload_n (i := 21) rfl 0 rfl ?_
      refine s_getR (i := 22) rfl xf_9_53.r rfl (fun v3 => ?_)
      refine s_bipush (i := 23) rfl (v := (8 : Int32)) (by decide) ?_
      refine s_iload_n (i := 24) rfl 3 rfl ?_
      refine s_imul (i := 25) rfl ?_
      refine s_iload (i := 26) rfl 5 rfl ?_
      refine s_iadd (i := 27) rfl ?_
      refine s_iaload (i := 28) rfl (fun v4 => ?_)
      refine s_iload_n (i := 29) rfl 1 rfl ?_
      refine s_iload (i := 30) rfl 5 rfl ?_
      refine s_iadd (i := 31) rfl ?_
      refine s_iload_n (i := 32) rfl 2 rfl ?_
      refine s_icmpge (i := 33) rfl (tgt := 70) (by decide) (fun z55 => ?_) (fun z55 => ?_)
      · refine s_aload_n (i := 34) rfl 0 rfl ?_
        refine s_getR (i := 35) rfl xf_9_26.r rfl (fun v5 => ?_)
        refine s_iload_n (i := 36) rfl 1 rfl ?_
        refine s_iload (i := 37) rfl 5 rfl ?_
        refine s_iadd (i := 38) rfl ?_
        refine s_iaload (i := 39) rfl (fun v6 => ?_)
        refine s_goto (i := 40) rfl (tgt := 72) (by decide) ?_
        exact s_sub [0, 1, 2, 3, 5] rfl (b_X9_wordFrom_72 X k_2 k_26 hk_2 hk_26 h l0 l1 l2 l3 l5 v6 v4)
      · refine s_bipush (i := 41) rfl (v := (32 : Int32)) (by decide) ?_
        exact s_sub [0, 1, 2, 3, 5] rfl (b_X9_wordFrom_72 X k_2 k_26 hk_2 hk_26 h l0 l1 l2 l3 l5 ((32 : Int32)) v4)
  · exact s_sub [0, 1, 2, 3, 4] rfl (b_X9_wordFrom_88 X k_2 hk_2 h l0 l1 l2 l3 l4)
theorem b_X9_wordFrom_26 (X : XX) (k_2 : XM → Option Nat → Int32 → Int32 → Int32 → Option (Int32 × XM)) (hk_2 : ∀ h l0 l1 l2 l3, SW X I_X9_wordFrom ρi 2 [(0, tA l0), (1, tI l1), (2, tI l2), (3, tI l3)] [] h 0 0 (k_2 h l0 l1 l2 l3)) : ∀ (n : Nat) (h : XM) (l0 : Option Nat) (l1 : Int32) (l2 : Int32) (l3 : Int32) (l4 : Int32) (l5 : Int32), SW X I_X9_wordFrom ρi 26 [(0, tA l0), (1, tI l1), (2, tI l2), (3, tI l3), (4, tI l4), (5, tI l5)] [] h 0 0 (f_X9_wordFrom_26 k_2 n h l0 l1 l2 l3 l4 l5) := by
  intro n
  induction n with
  | zero =>
    intro h l0 l1 l2 l3 l4 l5
    exact s_none
  | succ n ih =>
    intro h l0 l1 l2 l3 l4 l5
    exact bb_X9_wordFrom_26 X k_2 (f_X9_wordFrom_26 k_2 n) hk_2 ih h l0 l1 l2 l3 l4 l5
theorem b_X9_wordFrom_21 (X : XX) (k_2 : XM → Option Nat → Int32 → Int32 → Int32 → Option (Int32 × XM)) (hk_2 : ∀ h l0 l1 l2 l3, SW X I_X9_wordFrom ρi 2 [(0, tA l0), (1, tI l1), (2, tI l2), (3, tI l3)] [] h 0 0 (k_2 h l0 l1 l2 l3)) (h : XM) (l0 : Option Nat) (l1 : Int32) (l2 : Int32) (l3 : Int32) (s0 : Int32) : SW X I_X9_wordFrom ρi 21 [(0, tA l0), (1, tI l1), (2, tI l2), (3, tI l3)] [tI s0] h 0 0 (f_X9_wordFrom_21 k_2 h l0 l1 l2 l3 s0) := by
  unfold f_X9_wordFrom_21
  refine s_istore (i := 13) rfl (Nat.le_of_ble_eq_true rfl) (ls2 := [(4, tI s0), (0, tA l0), (1, tI l1), (2, tI l2), (3, tI l3)]) rfl ?_
  refine s_iconst (i := 14) rfl (v := (0 : Int32)) (by decide) ?_
  refine s_istore (i := 15) rfl (Nat.le_of_ble_eq_true rfl) (ls2 := [(5, tI ((0 : Int32))), (4, tI s0), (0, tA l0), (1, tI l1), (2, tI l2), (3, tI l3)]) rfl ?_
  exact s_sub [2, 3, 4, 5, 1, 0] rfl (b_X9_wordFrom_26 X k_2 hk_2 FU h l0 l1 l2 l3 s0 ((0 : Int32)))
theorem bb_X9_wordFrom_2 (X : XX) (k_2 : XM → Option Nat → Int32 → Int32 → Int32 → Option (Int32 × XM)) (hk_2 : ∀ h l0 l1 l2 l3, SW X I_X9_wordFrom ρi 2 [(0, tA l0), (1, tI l1), (2, tI l2), (3, tI l3)] [] h 0 0 (k_2 h l0 l1 l2 l3)) (h : XM) (l0 : Option Nat) (l1 : Int32) (l2 : Int32) (l3 : Int32) : SW X I_X9_wordFrom ρi 2 [(0, tA l0), (1, tI l1), (2, tI l2), (3, tI l3)] [] h 0 0 (fb_X9_wordFrom_2 k_2 h l0 l1 l2 l3) := by
  unfold fb_X9_wordFrom_2
  refine s_iload_n (i := 2) rfl 3 rfl ?_
  refine s_bipush (i := 3) rfl (v := (12 : Int32)) (by decide) ?_
  refine s_icmpge (i := 4) rfl (tgt := 101) (by decide) (fun z5 => ?_) (fun z5 => ?_)
  · refine s_iload_n (i := 5) rfl 2 rfl ?_
    refine s_iload_n (i := 6) rfl 1 rfl ?_
    refine s_isub (i := 7) rfl ?_
    refine s_bipush (i := 8) rfl (v := (8 : Int32)) (by decide) ?_
    refine s_icmpgt (i := 9) rfl (tgt := 20) (by decide) (fun z13 => ?_) (fun z13 => ?_)
    · refine s_iconst (i := 12) rfl (v := (0 : Int32)) (by decide) ?_
      exact s_sub [0, 1, 2, 3] rfl (b_X9_wordFrom_21 X k_2 hk_2 h l0 l1 l2 l3 ((0 : Int32)))
    · refine s_iconst (i := 10) rfl (v := (1 : Int32)) (by decide) ?_
      refine s_goto (i := 11) rfl (tgt := 21) (by decide) ?_
      exact s_sub [0, 1, 2, 3] rfl (b_X9_wordFrom_21 X k_2 hk_2 h l0 l1 l2 l3 ((1 : Int32)))
  · refine s_bipush (i := 55) rfl (v := (12 : Int32)) (by decide) ?_
    exact s_iret (i := 56) rfl rfl
theorem b_X9_wordFrom_2 (X : XX) : ∀ (n : Nat) (h : XM) (l0 : Option Nat) (l1 : Int32) (l2 : Int32) (l3 : Int32), SW X I_X9_wordFrom ρi 2 [(0, tA l0), (1, tI l1), (2, tI l2), (3, tI l3)] [] h 0 0 (f_X9_wordFrom_2 n h l0 l1 l2 l3) := by
  intro n
  induction n with
  | zero =>
    intro h l0 l1 l2 l3
    exact s_none
  | succ n ih =>
    intro h l0 l1 l2 l3
    exact bb_X9_wordFrom_2 X (f_X9_wordFrom_2 n) ih h l0 l1 l2 l3
theorem c_X9_wordFrom (h : XM) (a0 : Option Nat) (a1 : Int32) (a2 : Int32) : MC I_X9_wordFrom y_X9_wordFrom [tA a0, tI a1, tI a2] h ρi (f_X9_wordFrom h a0 a1 a2) := by
  refine MC_of ⟨by decide +kernel, rfl, rfl, Nat.le_of_ble_eq_true rfl⟩ dT_X9_wordFrom (fun X => ?_)
  show SW X I_X9_wordFrom ρi 0 [(0, tA a0), (1, tI a1), (2, tI a2)] [] h 0 0 (f_X9_wordFrom h a0 a1 a2)
  unfold f_X9_wordFrom
  refine s_iconst (i := 0) rfl (v := (0 : Int32)) (by decide) ?_
  refine s_istore_n (i := 1) rfl (Nat.le_of_ble_eq_true rfl) (ls2 := [(3, tI ((0 : Int32))), (0, tA a0), (1, tI a1), (2, tI a2)]) rfl ?_
  exact s_sub [1, 2, 3, 0] rfl (b_X9_wordFrom_2 X FU h a0 a1 a2 ((0 : Int32)))
def y_X9_next : MethodName := ⟨"OpensAtNineModel", "next", "()V"⟩
def T_X9_next_0 : List (Nat × Instr × Nat × Nat) := [(0, .aload_n 0, 1, 1), (1, .getfield 132, 3, 4), (4, .aload_n 0, 1, 5), (5, .getfield 90, 3, 8), (8, .if_icmp .ge 44, 3, 11), (11, .aload_n 0, 1, 12), (12, .getfield 26, 3, 15), (15, .aload_n 0, 1, 16), (16, .getfield 132, 3, 19), (19, .iaload, 1, 20), (20, .bipush 32, 2, 22), (22, .if_icmp .eq 17, 3, 25), (25, .aload_n 0, 1, 26), (26, .getfield 26, 3, 29), (29, .aload_n 0, 1, 30), (30, .getfield 132, 3, 33), (33, .iaload, 1, 34), (34, .bipush 10, 2, 36), (36, .if_icmp .ne 16, 3, 39), (39, .aload_n 0, 1, 40), (40, .dup, 1, 41), (41, .getfield 132, 3, 44), (44, .iconst 1, 1, 45), (45, .iadd, 1, 46), (46, .putfield 132, 3, 49), (49, .goto (-49), 3, 52), (52, .aload_n 0, 1, 53), (53, .aload_n 0, 1, 54), (54, .getfield 132, 3, 57), (57, .putfield 135, 3, 60), (60, .aload_n 0, 1, 61), (61, .iconst 0, 1, 62), (62, .putfield 138, 3, 65), (65, .aload_n 0, 1, 66), (66, .iconst 0, 1, 67), (67, .putfield 141, 3, 70), (70, .aload_n 0, 1, 71), (71, .getfield 132, 3, 74), (74, .aload_n 0, 1, 75), (75, .getfield 90, 3, 78)]
def T_X9_next_1 : List (Nat × Instr × Nat × Nat) := [(78, .if_icmp .ne 4, 3, 81), (81, .return_, 1, 82), (82, .aload_n 0, 1, 83), (83, .getfield 26, 3, 86), (86, .aload_n 0, 1, 87), (87, .getfield 132, 3, 90), (90, .iaload, 1, 91), (91, .istore_n 1, 1, 92), (92, .iload_n 1, 1, 93), (93, .bipush 97, 2, 95), (95, .bipush 122, 2, 97), (97, .invokestatic 100, 3, 100), (100, .ifCond .eq 117, 3, 103), (103, .aload_n 0, 1, 104), (104, .getfield 132, 3, 107), (107, .aload_n 0, 1, 108), (108, .getfield 90, 3, 111), (111, .if_icmp .ge 35, 3, 114), (114, .aload_n 0, 1, 115), (115, .getfield 26, 3, 118), (118, .aload_n 0, 1, 119), (119, .getfield 132, 3, 122), (122, .iaload, 1, 123), (123, .bipush 97, 2, 125), (125, .bipush 122, 2, 127), (127, .invokestatic 100, 3, 130), (130, .ifCond .eq 16, 3, 133), (133, .aload_n 0, 1, 134), (134, .dup, 1, 135), (135, .getfield 132, 3, 138), (138, .iconst 1, 1, 139), (139, .iadd, 1, 140), (140, .putfield 132, 3, 143), (143, .goto (-40), 3, 146), (146, .aload_n 0, 1, 147), (147, .aload_n 0, 1, 148), (148, .getfield 135, 3, 151), (151, .aload_n 0, 1, 152), (152, .getfield 132, 3, 155), (155, .invokevirtual 144, 3, 158)]
def T_X9_next_2 : List (Nat × Instr × Nat × Nat) := [(158, .istore_n 2, 1, 159), (159, .aload_n 0, 1, 160), (160, .iload_n 2, 1, 161), (161, .iconst 3, 1, 162), (162, .if_icmp .ge 7, 3, 165), (165, .iconst 3, 1, 166), (166, .goto 29, 3, 169), (169, .iload_n 2, 1, 170), (170, .bipush 9, 2, 172), (172, .if_icmp .ge 7, 3, 175), (175, .iconst 2, 1, 176), (176, .goto 19, 3, 179), (179, .iload_n 2, 1, 180), (180, .bipush 12, 2, 182), (182, .if_icmp .ne 7, 3, 185), (185, .iconst (-1), 1, 186), (186, .goto 9, 3, 189), (189, .iconst 4, 1, 190), (190, .iload_n 2, 1, 191), (191, .iadd, 1, 192), (192, .bipush 9, 2, 194), (194, .isub, 1, 195), (195, .putfield 138, 3, 198), (198, .aload_n 0, 1, 199), (199, .iload_n 2, 1, 200), (200, .iconst 3, 1, 201), (201, .if_icmp .ge 7, 3, 204), (204, .iload_n 2, 1, 205), (205, .goto 6, 3, 208), (208, .iload_n 2, 1, 209), (209, .iconst 3, 1, 210), (210, .isub, 1, 211), (211, .putfield 141, 3, 214), (214, .goto 189, 3, 217), (217, .iload_n 1, 1, 218), (218, .bipush 48, 2, 220), (220, .bipush 57, 2, 222), (222, .invokestatic 100, 3, 225), (225, .ifCond .eq 101, 3, 228), (228, .iconst 0, 1, 229)]
def T_X9_next_3 : List (Nat × Instr × Nat × Nat) := [(229, .istore_n 2, 1, 230), (230, .aload_n 0, 1, 231), (231, .getfield 132, 3, 234), (234, .aload_n 0, 1, 235), (235, .getfield 90, 3, 238), (238, .if_icmp .ge 71, 3, 241), (241, .aload_n 0, 1, 242), (242, .getfield 26, 3, 245), (245, .aload_n 0, 1, 246), (246, .getfield 132, 3, 249), (249, .iaload, 1, 250), (250, .bipush 48, 2, 252), (252, .bipush 57, 2, 254), (254, .invokestatic 100, 3, 257), (257, .ifCond .eq 52, 3, 260), (260, .aload_n 0, 1, 261), (261, .iload_n 2, 1, 262), (262, .iconst 4, 1, 263), (263, .if_icmp .ge 26, 3, 266), (266, .bipush 10, 2, 268), (268, .aload_n 0, 1, 269), (269, .getfield 141, 3, 272), (272, .imul, 1, 273), (273, .aload_n 0, 1, 274), (274, .getfield 26, 3, 277), (277, .aload_n 0, 1, 278), (278, .getfield 132, 3, 281), (281, .iaload, 1, 282), (282, .iadd, 1, 283), (283, .bipush 48, 2, 285), (285, .isub, 1, 286), (286, .goto 4, 3, 289), (289, .iconst 0, 1, 290), (290, .putfield 141, 3, 293), (293, .iinc 2 1, 3, 296), (296, .aload_n 0, 1, 297), (297, .dup, 1, 298), (298, .getfield 132, 3, 301), (301, .iconst 1, 1, 302), (302, .iadd, 1, 303)]
def T_X9_next_4 : List (Nat × Instr × Nat × Nat) := [(303, .putfield 132, 3, 306), (306, .goto (-76), 3, 309), (309, .aload_n 0, 1, 310), (310, .iload_n 2, 1, 311), (311, .iconst 4, 1, 312), (312, .if_icmp .le 7, 3, 315), (315, .iconst (-1), 1, 316), (316, .goto 4, 3, 319), (319, .iconst 1, 1, 320), (320, .putfield 138, 3, 323), (323, .goto 80, 3, 326), (326, .iload_n 1, 1, 327), (327, .bipush 40, 2, 329), (329, .if_icmp .eq 45, 3, 332), (332, .iload_n 1, 1, 333), (333, .bipush 41, 2, 335), (335, .if_icmp .eq 39, 3, 338), (338, .iload_n 1, 1, 339), (339, .bipush 59, 2, 341), (341, .if_icmp .eq 33, 3, 344), (344, .iload_n 1, 1, 345), (345, .bipush 43, 2, 347), (347, .if_icmp .eq 27, 3, 350), (350, .iload_n 1, 1, 351), (351, .bipush 45, 2, 353), (353, .if_icmp .eq 21, 3, 356), (356, .iload_n 1, 1, 357), (357, .bipush 42, 2, 359), (359, .if_icmp .eq 15, 3, 362), (362, .iload_n 1, 1, 363), (363, .bipush 60, 2, 365), (365, .if_icmp .eq 9, 3, 368), (368, .iload_n 1, 1, 369), (369, .bipush 61, 2, 371), (371, .if_icmp .ne 7, 3, 374), (374, .iconst 1, 1, 375), (375, .goto 4, 3, 378), (378, .iconst 0, 1, 379), (379, .istore_n 2, 1, 380), (380, .aload_n 0, 1, 381)]
def T_X9_next_5 : List (Nat × Instr × Nat × Nat) := [(381, .iload_n 2, 1, 382), (382, .ifCond .eq 7, 3, 385), (385, .iload_n 1, 1, 386), (386, .goto 4, 3, 389), (389, .iconst (-1), 1, 390), (390, .putfield 138, 3, 393), (393, .aload_n 0, 1, 394), (394, .dup, 1, 395), (395, .getfield 132, 3, 398), (398, .iconst 1, 1, 399), (399, .iadd, 1, 400), (400, .putfield 132, 3, 403), (403, .return_, 1, 404)]
def T_X9_next : List (Nat × Instr × Nat × Nat) := [(0, .aload_n 0, 1, 1), (1, .getfield 132, 3, 4), (4, .aload_n 0, 1, 5), (5, .getfield 90, 3, 8), (8, .if_icmp .ge 44, 3, 11), (11, .aload_n 0, 1, 12), (12, .getfield 26, 3, 15), (15, .aload_n 0, 1, 16), (16, .getfield 132, 3, 19), (19, .iaload, 1, 20), (20, .bipush 32, 2, 22), (22, .if_icmp .eq 17, 3, 25), (25, .aload_n 0, 1, 26), (26, .getfield 26, 3, 29), (29, .aload_n 0, 1, 30), (30, .getfield 132, 3, 33), (33, .iaload, 1, 34), (34, .bipush 10, 2, 36), (36, .if_icmp .ne 16, 3, 39), (39, .aload_n 0, 1, 40), (40, .dup, 1, 41), (41, .getfield 132, 3, 44), (44, .iconst 1, 1, 45), (45, .iadd, 1, 46), (46, .putfield 132, 3, 49), (49, .goto (-49), 3, 52), (52, .aload_n 0, 1, 53), (53, .aload_n 0, 1, 54), (54, .getfield 132, 3, 57), (57, .putfield 135, 3, 60), (60, .aload_n 0, 1, 61), (61, .iconst 0, 1, 62), (62, .putfield 138, 3, 65), (65, .aload_n 0, 1, 66), (66, .iconst 0, 1, 67), (67, .putfield 141, 3, 70), (70, .aload_n 0, 1, 71), (71, .getfield 132, 3, 74), (74, .aload_n 0, 1, 75), (75, .getfield 90, 3, 78), (78, .if_icmp .ne 4, 3, 81), (81, .return_, 1, 82), (82, .aload_n 0, 1, 83), (83, .getfield 26, 3, 86), (86, .aload_n 0, 1, 87), (87, .getfield 132, 3, 90), (90, .iaload, 1, 91), (91, .istore_n 1, 1, 92), (92, .iload_n 1, 1, 93), (93, .bipush 97, 2, 95), (95, .bipush 122, 2, 97), (97, .invokestatic 100, 3, 100), (100, .ifCond .eq 117, 3, 103), (103, .aload_n 0, 1, 104), (104, .getfield 132, 3, 107), (107, .aload_n 0, 1, 108), (108, .getfield 90, 3, 111), (111, .if_icmp .ge 35, 3, 114), (114, .aload_n 0, 1, 115), (115, .getfield 26, 3, 118), (118, .aload_n 0, 1, 119), (119, .getfield 132, 3, 122), (122, .iaload, 1, 123), (123, .bipush 97, 2, 125), (125, .bipush 122, 2, 127), (127, .invokestatic 100, 3, 130), (130, .ifCond .eq 16, 3, 133), (133, .aload_n 0, 1, 134), (134, .dup, 1, 135), (135, .getfield 132, 3, 138), (138, .iconst 1, 1, 139), (139, .iadd, 1, 140), (140, .putfield 132, 3, 143), (143, .goto (-40), 3, 146), (146, .aload_n 0, 1, 147), (147, .aload_n 0, 1, 148), (148, .getfield 135, 3, 151), (151, .aload_n 0, 1, 152), (152, .getfield 132, 3, 155), (155, .invokevirtual 144, 3, 158), (158, .istore_n 2, 1, 159), (159, .aload_n 0, 1, 160), (160, .iload_n 2, 1, 161), (161, .iconst 3, 1, 162), (162, .if_icmp .ge 7, 3, 165), (165, .iconst 3, 1, 166), (166, .goto 29, 3, 169), (169, .iload_n 2, 1, 170), (170, .bipush 9, 2, 172), (172, .if_icmp .ge 7, 3, 175), (175, .iconst 2, 1, 176), (176, .goto 19, 3, 179), (179, .iload_n 2, 1, 180), (180, .bipush 12, 2, 182), (182, .if_icmp .ne 7, 3, 185), (185, .iconst (-1), 1, 186), (186, .goto 9, 3, 189), (189, .iconst 4, 1, 190), (190, .iload_n 2, 1, 191), (191, .iadd, 1, 192), (192, .bipush 9, 2, 194), (194, .isub, 1, 195), (195, .putfield 138, 3, 198), (198, .aload_n 0, 1, 199), (199, .iload_n 2, 1, 200), (200, .iconst 3, 1, 201), (201, .if_icmp .ge 7, 3, 204), (204, .iload_n 2, 1, 205), (205, .goto 6, 3, 208), (208, .iload_n 2, 1, 209), (209, .iconst 3, 1, 210), (210, .isub, 1, 211), (211, .putfield 141, 3, 214), (214, .goto 189, 3, 217), (217, .iload_n 1, 1, 218), (218, .bipush 48, 2, 220), (220, .bipush 57, 2, 222), (222, .invokestatic 100, 3, 225), (225, .ifCond .eq 101, 3, 228), (228, .iconst 0, 1, 229), (229, .istore_n 2, 1, 230), (230, .aload_n 0, 1, 231), (231, .getfield 132, 3, 234), (234, .aload_n 0, 1, 235), (235, .getfield 90, 3, 238), (238, .if_icmp .ge 71, 3, 241), (241, .aload_n 0, 1, 242), (242, .getfield 26, 3, 245), (245, .aload_n 0, 1, 246), (246, .getfield 132, 3, 249), (249, .iaload, 1, 250), (250, .bipush 48, 2, 252), (252, .bipush 57, 2, 254), (254, .invokestatic 100, 3, 257), (257, .ifCond .eq 52, 3, 260), (260, .aload_n 0, 1, 261), (261, .iload_n 2, 1, 262), (262, .iconst 4, 1, 263), (263, .if_icmp .ge 26, 3, 266), (266, .bipush 10, 2, 268), (268, .aload_n 0, 1, 269), (269, .getfield 141, 3, 272), (272, .imul, 1, 273), (273, .aload_n 0, 1, 274), (274, .getfield 26, 3, 277), (277, .aload_n 0, 1, 278), (278, .getfield 132, 3, 281), (281, .iaload, 1, 282), (282, .iadd, 1, 283), (283, .bipush 48, 2, 285), (285, .isub, 1, 286), (286, .goto 4, 3, 289), (289, .iconst 0, 1, 290), (290, .putfield 141, 3, 293), (293, .iinc 2 1, 3, 296), (296, .aload_n 0, 1, 297), (297, .dup, 1, 298), (298, .getfield 132, 3, 301), (301, .iconst 1, 1, 302), (302, .iadd, 1, 303), (303, .putfield 132, 3, 306), (306, .goto (-76), 3, 309), (309, .aload_n 0, 1, 310), (310, .iload_n 2, 1, 311), (311, .iconst 4, 1, 312), (312, .if_icmp .le 7, 3, 315), (315, .iconst (-1), 1, 316), (316, .goto 4, 3, 319), (319, .iconst 1, 1, 320), (320, .putfield 138, 3, 323), (323, .goto 80, 3, 326), (326, .iload_n 1, 1, 327), (327, .bipush 40, 2, 329), (329, .if_icmp .eq 45, 3, 332), (332, .iload_n 1, 1, 333), (333, .bipush 41, 2, 335), (335, .if_icmp .eq 39, 3, 338), (338, .iload_n 1, 1, 339), (339, .bipush 59, 2, 341), (341, .if_icmp .eq 33, 3, 344), (344, .iload_n 1, 1, 345), (345, .bipush 43, 2, 347), (347, .if_icmp .eq 27, 3, 350), (350, .iload_n 1, 1, 351), (351, .bipush 45, 2, 353), (353, .if_icmp .eq 21, 3, 356), (356, .iload_n 1, 1, 357), (357, .bipush 42, 2, 359), (359, .if_icmp .eq 15, 3, 362), (362, .iload_n 1, 1, 363), (363, .bipush 60, 2, 365), (365, .if_icmp .eq 9, 3, 368), (368, .iload_n 1, 1, 369), (369, .bipush 61, 2, 371), (371, .if_icmp .ne 7, 3, 374), (374, .iconst 1, 1, 375), (375, .goto 4, 3, 378), (378, .iconst 0, 1, 379), (379, .istore_n 2, 1, 380), (380, .aload_n 0, 1, 381), (381, .iload_n 2, 1, 382), (382, .ifCond .eq 7, 3, 385), (385, .iload_n 1, 1, 386), (386, .goto 4, 3, 389), (389, .iconst (-1), 1, 390), (390, .putfield 138, 3, 393), (393, .aload_n 0, 1, 394), (394, .dup, 1, 395), (395, .getfield 132, 3, 398), (398, .iconst 1, 1, 399), (399, .iadd, 1, 400), (400, .putfield 132, 3, 403), (403, .return_, 1, 404)]
def I_X9_next : MI := (prog_11_method_17_code, 3, none, "OpensAtNineModel", "next", T_X9_next, 0, 0, 2, 85)
theorem dT_X9_next_0 : ∀ q ∈ T_X9_next_0, decode prog_11_method_17_code q.1 = .ok (q.2.1, q.2.2.1) ∧ q.2.2.2 = q.1 + q.2.2.1 := by decide +kernel
theorem dT_X9_next_1 : ∀ q ∈ T_X9_next_1, decode prog_11_method_17_code q.1 = .ok (q.2.1, q.2.2.1) ∧ q.2.2.2 = q.1 + q.2.2.1 := by decide +kernel
theorem dT_X9_next_2 : ∀ q ∈ T_X9_next_2, decode prog_11_method_17_code q.1 = .ok (q.2.1, q.2.2.1) ∧ q.2.2.2 = q.1 + q.2.2.1 := by decide +kernel
theorem dT_X9_next_3 : ∀ q ∈ T_X9_next_3, decode prog_11_method_17_code q.1 = .ok (q.2.1, q.2.2.1) ∧ q.2.2.2 = q.1 + q.2.2.1 := by decide +kernel
theorem dT_X9_next_4 : ∀ q ∈ T_X9_next_4, decode prog_11_method_17_code q.1 = .ok (q.2.1, q.2.2.1) ∧ q.2.2.2 = q.1 + q.2.2.1 := by decide +kernel
theorem dT_X9_next_5 : ∀ q ∈ T_X9_next_5, decode prog_11_method_17_code q.1 = .ok (q.2.1, q.2.2.1) ∧ q.2.2.2 = q.1 + q.2.2.1 := by decide +kernel
set_option maxRecDepth 20000 in
theorem dT_X9_next : ∀ q ∈ T_X9_next, decode prog_11_method_17_code q.1 = .ok (q.2.1, q.2.2.1) ∧ q.2.2.2 = q.1 + q.2.2.1 := by
  show ∀ q ∈ (T_X9_next_0 ++ (T_X9_next_1 ++ (T_X9_next_2 ++ (T_X9_next_3 ++ (T_X9_next_4 ++ (T_X9_next_5)))))), decode prog_11_method_17_code q.1 = .ok (q.2.1, q.2.2.1) ∧ q.2.2.2 = q.1 + q.2.2.1
  exact List.forall_mem_append.mpr ⟨dT_X9_next_0, List.forall_mem_append.mpr ⟨dT_X9_next_1, List.forall_mem_append.mpr ⟨dT_X9_next_2, List.forall_mem_append.mpr ⟨dT_X9_next_3, List.forall_mem_append.mpr ⟨dT_X9_next_4, dT_X9_next_5⟩⟩⟩⟩⟩
theorem xm_X9_next : xCM y_X9_next I_X9_next 9 0 := ⟨⟨tw972, tw30⟩, tw84, tw973, ⟨xT9, 49, rfl⟩, ⟨by decide +kernel, by decide +kernel, by decide +kernel⟩⟩
noncomputable def f_X9_next_39 (k_0 : XM → Option Nat → Option (XM)) (h : XM) (l0 : Option Nat) : Option (XM) := (gI h 9 l0 24).bind fun v1 => (pI h 9 l0 24 (v1 + ((1 : Int32)))).bind fun h2 => k_0 h2 l0
noncomputable def f_X9_next_403 (h : XM) : Option (XM) := some h
noncomputable def f_X9_next_211 (h : XM) (s0 : Int32) (s1 : Option Nat) : Option (XM) := (pI h 9 s1 27 s0).bind fun h3 => f_X9_next_403 h3
noncomputable def f_X9_next_195 (h : XM) (l0 : Option Nat) (l2 : Int32) (s0 : Int32) (s1 : Option Nat) : Option (XM) := (pI h 9 s1 26 s0).bind fun h4 => if l2 < ((3 : Int32)) then (f_X9_next_211 h4 l2 l0) else (f_X9_next_211 h4 (l2 - ((3 : Int32))) l0)
noncomputable def f_X9_next_146 (h : XM) (l0 : Option Nat) : Option (XM) := (gI h 9 l0 25).bind fun v5 => (gI h 9 l0 24).bind fun v6 => (vc h 9 l0 (f_X9_wordFrom h l0 v5 v6)).bind fun q7 => if q7.1 < ((3 : Int32)) then (f_X9_next_195 q7.2 l0 q7.1 ((3 : Int32)) l0) else (if q7.1 < ((9 : Int32)) then (f_X9_next_195 q7.2 l0 q7.1 ((2 : Int32)) l0) else (if q7.1 = ((12 : Int32)) then (f_X9_next_195 q7.2 l0 q7.1 ((-1 : Int32)) l0) else (f_X9_next_195 q7.2 l0 q7.1 ((((4 : Int32)) + q7.1) - ((9 : Int32))) l0)))
noncomputable def fb_X9_next_103 (k_103 : XM → Option Nat → Option (XM)) (h : XM) (l0 : Option Nat) : Option (XM) := (gI h 9 l0 24).bind fun v8 => (gI h 9 l0 12).bind fun v9 => if v8 < v9 then ((gR h 9 l0 11).bind fun v10 => (gI h 9 l0 24).bind fun v11 => (rI h v10 v11).bind fun v12 => (f_X9_in h v12 ((97 : Int32)) ((122 : Int32))).bind fun q13 => if q13.1 = 0 then (f_X9_next_146 q13.2 l0) else ((gI q13.2 9 l0 24).bind fun v14 => (pI q13.2 9 l0 24 (v14 + ((1 : Int32)))).bind fun h15 => k_103 h15 l0)) else (f_X9_next_146 h l0)
noncomputable def f_X9_next_103 (n : Nat) : XM → Option Nat → Option (XM) := Nat.rec (motive := fun _ => XM → Option Nat → Option (XM)) (fun _ _ => none) (fun _ ih h l0 => fb_X9_next_103 ih h l0) n
noncomputable def f_X9_next_290 (k_230 : XM → Option Nat → Int32 → Option (XM)) (h : XM) (l0 : Option Nat) (l2 : Int32) (s0 : Int32) (s1 : Option Nat) : Option (XM) := (pI h 9 s1 27 s0).bind fun h16 => bnd (l2 + (1 : Int32)) fun v17 => (gI h16 9 l0 24).bind fun v18 => (pI h16 9 l0 24 (v18 + ((1 : Int32)))).bind fun h19 => k_230 h19 l0 v17
noncomputable def f_X9_next_320 (h : XM) (s0 : Int32) (s1 : Option Nat) : Option (XM) := (pI h 9 s1 26 s0).bind fun h20 => f_X9_next_403 h20
noncomputable def f_X9_next_309 (h : XM) (l0 : Option Nat) (l2 : Int32) : Option (XM) := if ((4 : Int32)) < l2 then (f_X9_next_320 h ((-1 : Int32)) l0) else (f_X9_next_320 h ((1 : Int32)) l0)
noncomputable def fb_X9_next_230 (k_230 : XM → Option Nat → Int32 → Option (XM)) (h : XM) (l0 : Option Nat) (l2 : Int32) : Option (XM) := (gI h 9 l0 24).bind fun v21 => (gI h 9 l0 12).bind fun v22 => if v21 < v22 then ((gR h 9 l0 11).bind fun v23 => (gI h 9 l0 24).bind fun v24 => (rI h v23 v24).bind fun v25 => (f_X9_in h v25 ((48 : Int32)) ((57 : Int32))).bind fun q26 => if q26.1 = 0 then (f_X9_next_309 q26.2 l0 l2) else (if l2 < ((4 : Int32)) then ((gI q26.2 9 l0 27).bind fun v27 => (gR q26.2 9 l0 11).bind fun v28 => (gI q26.2 9 l0 24).bind fun v29 => (rI q26.2 v28 v29).bind fun v30 => f_X9_next_290 k_230 q26.2 l0 l2 (((((10 : Int32)) * v27) + v30) - ((48 : Int32))) l0) else (f_X9_next_290 k_230 q26.2 l0 l2 ((0 : Int32)) l0))) else (f_X9_next_309 h l0 l2)
noncomputable def f_X9_next_230 (n : Nat) : XM → Option Nat → Int32 → Option (XM) := Nat.rec (motive := fun _ => XM → Option Nat → Int32 → Option (XM)) (fun _ _ _ => none) (fun _ ih h l0 l2 => fb_X9_next_230 ih h l0 l2) n
noncomputable def f_X9_next_390 (h : XM) (l0 : Option Nat) (s0 : Int32) (s1 : Option Nat) : Option (XM) := (pI h 9 s1 26 s0).bind fun h31 => (gI h31 9 l0 24).bind fun v32 => (pI h31 9 l0 24 (v32 + ((1 : Int32)))).bind fun h33 => f_X9_next_403 h33
noncomputable def f_X9_next_379 (h : XM) (l0 : Option Nat) (l1 : Int32) (s0 : Int32) : Option (XM) := if s0 = 0 then (f_X9_next_390 h l0 ((-1 : Int32)) l0) else (f_X9_next_390 h l0 l1 l0)
noncomputable def f_X9_next_374 (h : XM) (l0 : Option Nat) (l1 : Int32) : Option (XM) := f_X9_next_379 h l0 l1 ((1 : Int32))
noncomputable def f_X9_next_52 (h : XM) (l0 : Option Nat) : Option (XM) := (gI h 9 l0 24).bind fun v34 => (pI h 9 l0 25 v34).bind fun h35 => (pI h35 9 l0 26 ((0 : Int32))).bind fun h36 => (pI h36 9 l0 27 ((0 : Int32))).bind fun h37 => (gI h37 9 l0 24).bind fun v38 => (gI h37 9 l0 12).bind fun v39 => if v38 = v39 then (some h37) else ((gR h37 9 l0 11).bind fun v40 => (gI h37 9 l0 24).bind fun v41 => (rI h37 v40 v41).bind fun v42 => (f_X9_in h37 v42 ((97 : Int32)) ((122 : Int32))).bind fun q43 => if q43.1 = 0 then ((f_X9_in q43.2 v42 ((48 : Int32)) ((57 : Int32))).bind fun q44 => if q44.1 = 0 then (if v42 = ((40 : Int32)) then (f_X9_next_374 q44.2 l0 v42) else (if v42 = ((41 : Int32)) then (f_X9_next_374 q44.2 l0 v42) else (if v42 = ((59 : Int32)) then (f_X9_next_374 q44.2 l0 v42) else (if v42 = ((43 : Int32)) then (f_X9_next_374 q44.2 l0 v42) else (if v42 = ((45 : Int32)) then (f_X9_next_374 q44.2 l0 v42) else (if v42 = ((42 : Int32)) then (f_X9_next_374 q44.2 l0 v42) else (if v42 = ((60 : Int32)) then (f_X9_next_374 q44.2 l0 v42) else (if v42 = ((61 : Int32)) then (f_X9_next_374 q44.2 l0 v42) else (f_X9_next_379 q44.2 l0 v42 ((0 : Int32))))))))))) else (f_X9_next_230 FU q44.2 l0 ((0 : Int32)))) else (f_X9_next_103 FU q43.2 l0))
noncomputable def fb_X9_next_0 (k_0 : XM → Option Nat → Option (XM)) (h : XM) (l0 : Option Nat) : Option (XM) := (gI h 9 l0 24).bind fun v45 => (gI h 9 l0 12).bind fun v46 => if v45 < v46 then ((gR h 9 l0 11).bind fun v47 => (gI h 9 l0 24).bind fun v48 => (rI h v47 v48).bind fun v49 => if v49 = ((32 : Int32)) then (f_X9_next_39 k_0 h l0) else ((gR h 9 l0 11).bind fun v50 => (gI h 9 l0 24).bind fun v51 => (rI h v50 v51).bind fun v52 => if v52 = ((10 : Int32)) then (f_X9_next_39 k_0 h l0) else (f_X9_next_52 h l0))) else (f_X9_next_52 h l0)
noncomputable def f_X9_next_0 (n : Nat) : XM → Option Nat → Option (XM) := Nat.rec (motive := fun _ => XM → Option Nat → Option (XM)) (fun _ _ => none) (fun _ ih h l0 => fb_X9_next_0 ih h l0) n
noncomputable def f_X9_next (h : XM) (a0 : Option Nat) : Option (XM) := f_X9_next_0 FU h a0
set_option maxRecDepth 20000 in
theorem b_X9_next_39 (X : XX) (k_0 : XM → Option Nat → Option (XM)) (hk_0 : ∀ h l0, SW X I_X9_next ρv 0 [(0, tA l0)] [] h 0 0 (k_0 h l0)) (h : XM) (l0 : Option Nat) : SW X I_X9_next ρv 39 [(0, tA l0)] [] h 0 0 (f_X9_next_39 k_0 h l0) := by
  unfold f_X9_next_39
  refine s_aload_n (i := 19) rfl 0 rfl ?_
  refine s_dup (i := 20) rfl rfl ?_
  refine s_getI (i := 21) rfl xf_9_132.r rfl (fun v1 => ?_)
  refine s_iconst (i := 22) rfl (v := (1 : Int32)) (by decide) ?_
  refine s_iadd (i := 23) rfl ?_
  refine s_putI (i := 24) rfl xf_9_132 (fun q => by cases q) rfl rfl (fun h2 => ?_)
  refine s_goto (i := 25) rfl (tgt := 0) (by decide) ?_
  exact s_sub [0] rfl (hk_0 h2 l0)
set_option maxRecDepth 20000 in
theorem b_X9_next_403 (X : XX) (h : XM) : SW X I_X9_next ρv 403 [] [] h 0 0 (f_X9_next_403 h) := by
  unfold f_X9_next_403
  exact s_vret (i := 212) rfl rfl
set_option maxRecDepth 20000 in
theorem b_X9_next_211 (X : XX) (h : XM) (s0 : Int32) (s1 : Option Nat) : SW X I_X9_next ρv 211 [] [tI s0, tA s1] h 0 0 (f_X9_next_211 h s0 s1) := by
  unfold f_X9_next_211
  refine s_putI (i := 112) rfl xf_9_141 (fun q => by cases q) rfl rfl (fun h3 => ?_)
  refine s_goto (i := 113) rfl (tgt := 403) (by decide) ?_
  exact s_sub [] rfl (b_X9_next_403 X h3)
set_option maxRecDepth 20000 in
theorem b_X9_next_195 (X : XX) (h : XM) (l0 : Option Nat) (l2 : Int32) (s0 : Int32) (s1 : Option Nat) : SW X I_X9_next ρv 195 [(0, tA l0), (2, tI l2)] [tI s0, tA s1] h 0 0 (f_X9_next_195 h l0 l2 s0 s1) := by
  unfold f_X9_next_195
  refine s_putI (i := 102) rfl xf_9_138 (fun q => by cases q) rfl rfl (fun h4 => ?_)
  refine s_aload_n (i := 103) rfl 0 rfl ?_
  refine s_iload_n (i := 104) rfl 1 rfl ?_
  refine s_iconst (i := 105) rfl (v := (3 : Int32)) (by decide) ?_
  refine s_icmpge (i := 106) rfl (tgt := 208) (by decide) (fun z201 => ?_) (fun z201 => ?_)
  · refine s_iload_n (i := 107) rfl 1 rfl ?_
    refine s_goto (i := 108) rfl (tgt := 211) (by decide) ?_
    exact s_sub [] rfl (b_X9_next_211 X h4 l2 l0)
  · refine s_iload_n (i := 109) rfl 1 rfl ?_
    refine s_iconst (i := 110) rfl (v := (3 : Int32)) (by decide) ?_
    refine s_isub (i := 111) rfl ?_
    exact s_sub [] rfl (b_X9_next_211 X h4 (l2 - ((3 : Int32))) l0)
set_option maxRecDepth 20000 in
theorem b_X9_next_146 (X : XX) (h : XM) (l0 : Option Nat) : SW X I_X9_next ρv 146 [(0, tA l0)] [] h 0 0 (f_X9_next_146 h l0) := by
  unfold f_X9_next_146
  refine s_aload_n (i := 74) rfl 0 rfl ?_
  refine s_aload_n (i := 75) rfl 0 rfl ?_
  refine s_getI (i := 76) rfl xf_9_135.r rfl (fun v5 => ?_)
  refine s_aload_n (i := 77) rfl 0 rfl ?_
  refine s_getI (i := 78) rfl xf_9_132.r rfl (fun v6 => ?_)
  refine u_callVi (kk := 9) [tI v5, tI v6] l0 [] rfl (i := 79) rfl (c_X9_wordFrom h l0 v5 v6) xm_X9_wordFrom (tw977) rfl (Nat.le_of_ble_eq_true rfl) (xRm.of rfl) ⟨rfl, rfl⟩ (fun q7 => ?_)
  refine s_istore_n (i := 80) rfl (Nat.le_of_ble_eq_true rfl) (ls2 := [(2, tI q7.1), (0, tA l0)]) rfl ?_
  refine s_aload_n (i := 81) rfl 1 rfl ?_
  refine s_iload_n (i := 82) rfl 0 rfl ?_
  refine s_iconst (i := 83) rfl (v := (3 : Int32)) (by decide) ?_
  refine s_icmpge (i := 84) rfl (tgt := 169) (by decide) (fun z162 => ?_) (fun z162 => ?_)
  · refine s_iconst (i := 85) rfl (v := (3 : Int32)) (by decide) ?_
    refine s_goto (i := 86) rfl (tgt := 195) (by decide) ?_
    exact s_sub [1, 0] rfl (b_X9_next_195 X q7.2 l0 q7.1 ((3 : Int32)) l0)
  · refine s_iload_n (i := 87) rfl 0 rfl ?_
    refine s_bipush (i := 88) rfl (v := (9 : Int32)) (by decide) ?_
    refine s_icmpge (i := 89) rfl (tgt := 179) (by decide) (fun z172 => ?_) (fun z172 => ?_)
    · refine s_iconst (i := 90) rfl (v := (2 : Int32)) (by decide) ?_
      refine s_goto (i := 91) rfl (tgt := 195) (by decide) ?_
      exact s_sub [1, 0] rfl (b_X9_next_195 X q7.2 l0 q7.1 ((2 : Int32)) l0)
    · refine s_iload_n (i := 92) rfl 0 rfl ?_
      refine s_bipush (i := 93) rfl (v := (12 : Int32)) (by decide) ?_
      refine s_icmpne (i := 94) rfl (tgt := 189) (by decide) (fun z182 => ?_) (fun z182 => ?_)
      · refine s_iconst (i := 95) rfl (v := (-1 : Int32)) (by decide) ?_
        refine s_goto (i := 96) rfl (tgt := 195) (by decide) ?_
        exact s_sub [1, 0] rfl (b_X9_next_195 X q7.2 l0 q7.1 ((-1 : Int32)) l0)
      · refine s_iconst (i := 97) rfl (v := (4 : Int32)) (by decide) ?_
        refine s_iload_n (i := 98) rfl 0 rfl ?_
        refine s_iadd (i := 99) rfl ?_
        refine s_bipush (i := 100) rfl (v := (9 : Int32)) (by decide) ?_
        refine s_isub (i := 101) rfl ?_
        exact s_sub [1, 0] rfl (b_X9_next_195 X q7.2 l0 q7.1 ((((4 : Int32)) + q7.1) - ((9 : Int32))) l0)
set_option maxRecDepth 20000 in
theorem bb_X9_next_103 (X : XX) (k_103 : XM → Option Nat → Option (XM)) (hk_103 : ∀ h l0, SW X I_X9_next ρv 103 [(0, tA l0)] [] h 0 0 (k_103 h l0)) (h : XM) (l0 : Option Nat) : SW X I_X9_next ρv 103 [(0, tA l0)] [] h 0 0 (fb_X9_next_103 k_103 h l0) := by
  unfold fb_X9_next_103
  refine s_aload_n (i := 53) rfl 0 rfl ?_
  refine s_getI (i := 54) rfl xf_9_132.r rfl (fun v8 => ?_)
  refine s_aload_n (i := 55) rfl 0 rfl ?_
  refine s_getI (i := 56) rfl xf_9_90.r rfl (fun v9 => ?_)
  refine s_icmpge (i := 57) rfl (tgt := 146) (by decide) (fun z111 => ?_) (fun z111 => ?_)
  · refine s_aload_n (i := 58) rfl 0 rfl ?_
    refine s_getR (i := 59) rfl xf_9_26.r rfl (fun v10 => ?_)
    refine s_aload_n (i := 60) rfl 0 rfl ?_
    refine s_getI (i := 61) rfl xf_9_132.r rfl (fun v11 => ?_)
    refine s_iaload (i := 62) rfl (fun v12 => ?_)
    refine s_bipush (i := 63) rfl (v := (97 : Int32)) (by decide) ?_
    refine s_bipush (i := 64) rfl (v := (122 : Int32)) (by decide) ?_
    refine u_callSi [tI v12, tI ((97 : Int32)), tI ((122 : Int32))] [] rfl (i := 65) rfl (c_X9_in h v12 ((97 : Int32)) ((122 : Int32))) xm_X9_in (tw974) rfl (Nat.le_of_ble_eq_true rfl) (xRm.of rfl) ⟨rfl, rfl⟩ (fun q13 => ?_)
    refine s_ifeq (i := 66) rfl (tgt := 146) (by decide) (fun z130 => ?_) (fun z130 => ?_)
    · exact s_sub [0] rfl (b_X9_next_146 X q13.2 l0)
    · refine s_aload_n (i := 67) rfl 0 rfl ?_
      refine s_dup (i := 68) rfl rfl ?_
      refine s_getI (i := 69) rfl xf_9_132.r rfl (fun v14 => ?_)
      refine s_iconst (i := 70) rfl (v := (1 : Int32)) (by decide) ?_
      refine s_iadd (i := 71) rfl ?_
      refine s_putI (i := 72) rfl xf_9_132 (fun q => by cases q) rfl rfl (fun h15 => ?_)
      refine s_goto (i := 73) rfl (tgt := 103) (by decide) ?_
      exact s_sub [0] rfl (hk_103 h15 l0)
  · exact s_sub [0] rfl (b_X9_next_146 X h l0)
set_option maxRecDepth 20000 in
theorem b_X9_next_103 (X : XX) : ∀ (n : Nat) (h : XM) (l0 : Option Nat), SW X I_X9_next ρv 103 [(0, tA l0)] [] h 0 0 (f_X9_next_103 n h l0) := by
  intro n
  induction n with
  | zero =>
    intro h l0
    exact s_none
  | succ n ih =>
    intro h l0
    exact bb_X9_next_103 X (f_X9_next_103 n) ih h l0
set_option maxRecDepth 20000 in
theorem b_X9_next_290 (X : XX) (k_230 : XM → Option Nat → Int32 → Option (XM)) (hk_230 : ∀ h l0 l2, SW X I_X9_next ρv 230 [(0, tA l0), (2, tI l2)] [] h 0 0 (k_230 h l0 l2)) (h : XM) (l0 : Option Nat) (l2 : Int32) (s0 : Int32) (s1 : Option Nat) : SW X I_X9_next ρv 290 [(0, tA l0), (2, tI l2)] [tI s0, tA s1] h 0 0 (f_X9_next_290 k_230 h l0 l2 s0 s1) := by
  unfold f_X9_next_290
  refine s_putI (i := 153) rfl xf_9_141 (fun q => by cases q) rfl rfl (fun h16 => ?_)
  refine s_inc (i := 154) rfl 1 rfl (c9 := (1 : Int32)) (by decide) (Nat.le_of_ble_eq_true rfl) (fun v17 => ?_)
  refine s_ls (ls2 := [(2, tI v17), (0, tA l0)]) rfl ?_
  refine s_aload_n (i := 155) rfl 1 rfl ?_
  refine s_dup (i := 156) rfl rfl ?_
  refine s_getI (i := 157) rfl xf_9_132.r rfl (fun v18 => ?_)
  refine s_iconst (i := 158) rfl (v := (1 : Int32)) (by decide) ?_
  refine s_iadd (i := 159) rfl ?_
  refine s_putI (i := 160) rfl xf_9_132 (fun q => by cases q) rfl rfl (fun h19 => ?_)
  refine s_goto (i := 161) rfl (tgt := 230) (by decide) ?_
  exact s_sub [1, 0] rfl (hk_230 h19 l0 v17)
set_option maxRecDepth 20000 in
theorem b_X9_next_320 (X : XX) (h : XM) (s0 : Int32) (s1 : Option Nat) : SW X I_X9_next ρv 320 [] [tI s0, tA s1] h 0 0 (f_X9_next_320 h s0 s1) := by
  unfold f_X9_next_320
  refine s_putI (i := 169) rfl xf_9_138 (fun q => by cases q) rfl rfl (fun h20 => ?_)
  refine s_goto (i := 170) rfl (tgt := 403) (by decide) ?_
  exact s_sub [] rfl (b_X9_next_403 X h20)
set_option maxRecDepth 20000 in
theorem b_X9_next_309 (X : XX) (h : XM) (l0 : Option Nat) (l2 : Int32) : SW X I_X9_next ρv 309 [(0, tA l0), (2, tI l2)] [] h 0 0 (f_X9_next_309 h l0 l2) := by
  unfold f_X9_next_309
  refine s_aload_n (i := 162) rfl 0 rfl ?_
  refine s_iload_n (i := 163) rfl 1 rfl ?_
  refine s_iconst (i := 164) rfl (v := (4 : Int32)) (by decide) ?_
  refine s_icmple (i := 165) rfl (tgt := 319) (by decide) (fun z312 => ?_) (fun z312 => ?_)
  · refine s_iconst (i := 166) rfl (v := (-1 : Int32)) (by decide) ?_
    refine s_goto (i := 167) rfl (tgt := 320) (by decide) ?_
    exact s_sub [] rfl (b_X9_next_320 X h ((-1 : Int32)) l0)
  · refine s_iconst (i := 168) rfl (v := (1 : Int32)) (by decide) ?_
    exact s_sub [] rfl (b_X9_next_320 X h ((1 : Int32)) l0)
set_option maxRecDepth 20000 in
theorem bb_X9_next_230 (X : XX) (k_230 : XM → Option Nat → Int32 → Option (XM)) (hk_230 : ∀ h l0 l2, SW X I_X9_next ρv 230 [(0, tA l0), (2, tI l2)] [] h 0 0 (k_230 h l0 l2)) (h : XM) (l0 : Option Nat) (l2 : Int32) : SW X I_X9_next ρv 230 [(0, tA l0), (2, tI l2)] [] h 0 0 (fb_X9_next_230 k_230 h l0 l2) := by
  unfold fb_X9_next_230
  refine s_aload_n (i := 121) rfl 0 rfl ?_
  refine s_getI (i := 122) rfl xf_9_132.r rfl (fun v21 => ?_)
  refine s_aload_n (i := 123) rfl 0 rfl ?_
  refine s_getI (i := 124) rfl xf_9_90.r rfl (fun v22 => ?_)
  refine s_icmpge (i := 125) rfl (tgt := 309) (by decide) (fun z238 => ?_) (fun z238 => ?_)
  · refine s_aload_n (i := 126) rfl 0 rfl ?_
    refine s_getR (i := 127) rfl xf_9_26.r rfl (fun v23 => ?_)
    refine s_aload_n (i := 128) rfl 0 rfl ?_
    refine s_getI (i := 129) rfl xf_9_132.r rfl (fun v24 => ?_)
    refine s_iaload (i := 130) rfl (fun v25 => ?_)
    refine s_bipush (i := 131) rfl (v := (48 : Int32)) (by decide) ?_
    refine s_bipush (i := 132) rfl (v := (57 : Int32)) (by decide) ?_
    refine u_callSi [tI v25, tI ((48 : Int32)), tI ((57 : Int32))] [] rfl (i := 133) rfl (c_X9_in h v25 ((48 : Int32)) ((57 : Int32))) xm_X9_in (tw974) rfl (Nat.le_of_ble_eq_true rfl) (xRm.of rfl) ⟨rfl, rfl⟩ (fun q26 => ?_)
    refine s_ifeq (i := 134) rfl (tgt := 309) (by decide) (fun z257 => ?_) (fun z257 => ?_)
    · exact s_sub [0, 1] rfl (b_X9_next_309 X q26.2 l0 l2)
    · refine s_aload_n (i := 135) rfl 0 rfl ?_
      refine s_iload_n (i := 136) rfl 1 rfl ?_
      refine s_iconst (i := 137) rfl (v := (4 : Int32)) (by decide) ?_
      refine s_icmpge (i := 138) rfl (tgt := 289) (by decide) (fun z263 => ?_) (fun z263 => ?_)
      · refine s_bipush (i := 139) rfl (v := (10 : Int32)) (by decide) ?_
        refine s_aload_n (i := 140) rfl 0 rfl ?_
        refine s_getI (i := 141) rfl xf_9_141.r rfl (fun v27 => ?_)
        refine s_imul (i := 142) rfl ?_
        refine s_aload_n (i := 143) rfl 0 rfl ?_
        refine s_getR (i := 144) rfl xf_9_26.r rfl (fun v28 => ?_)
        refine s_aload_n (i := 145) rfl 0 rfl ?_
        refine s_getI (i := 146) rfl xf_9_132.r rfl (fun v29 => ?_)
        refine s_iaload (i := 147) rfl (fun v30 => ?_)
        refine s_iadd (i := 148) rfl ?_
        refine s_bipush (i := 149) rfl (v := (48 : Int32)) (by decide) ?_
        refine s_isub (i := 150) rfl ?_
        refine s_goto (i := 151) rfl (tgt := 290) (by decide) ?_
        exact s_sub [0, 1] rfl (b_X9_next_290 X k_230 hk_230 q26.2 l0 l2 (((((10 : Int32)) * v27) + v30) - ((48 : Int32))) l0)
      · refine s_iconst (i := 152) rfl (v := (0 : Int32)) (by decide) ?_
        exact s_sub [0, 1] rfl (b_X9_next_290 X k_230 hk_230 q26.2 l0 l2 ((0 : Int32)) l0)
  · exact s_sub [0, 1] rfl (b_X9_next_309 X h l0 l2)
set_option maxRecDepth 20000 in
theorem b_X9_next_230 (X : XX) : ∀ (n : Nat) (h : XM) (l0 : Option Nat) (l2 : Int32), SW X I_X9_next ρv 230 [(0, tA l0), (2, tI l2)] [] h 0 0 (f_X9_next_230 n h l0 l2) := by
  intro n
  induction n with
  | zero =>
    intro h l0 l2
    exact s_none
  | succ n ih =>
    intro h l0 l2
    exact bb_X9_next_230 X (f_X9_next_230 n) ih h l0 l2
set_option maxRecDepth 20000 in
theorem b_X9_next_390 (X : XX) (h : XM) (l0 : Option Nat) (s0 : Int32) (s1 : Option Nat) : SW X I_X9_next ρv 390 [(0, tA l0)] [tI s0, tA s1] h 0 0 (f_X9_next_390 h l0 s0 s1) := by
  unfold f_X9_next_390
  refine s_putI (i := 205) rfl xf_9_138 (fun q => by cases q) rfl rfl (fun h31 => ?_)
  refine s_aload_n (i := 206) rfl 0 rfl ?_
  refine s_dup (i := 207) rfl rfl ?_
  refine s_getI (i := 208) rfl xf_9_132.r rfl (fun v32 => ?_)
  refine s_iconst (i := 209) rfl (v := (1 : Int32)) (by decide) ?_
  refine s_iadd (i := 210) rfl ?_
  refine s_putI (i := 211) rfl xf_9_132 (fun q => by cases q) rfl rfl (fun h33 => ?_)
  exact s_sub [] rfl (b_X9_next_403 X h33)
set_option maxRecDepth 20000 in
theorem b_X9_next_379 (X : XX) (h : XM) (l0 : Option Nat) (l1 : Int32) (s0 : Int32) : SW X I_X9_next ρv 379 [(0, tA l0), (1, tI l1)] [tI s0] h 0 0 (f_X9_next_379 h l0 l1 s0) := by
  unfold f_X9_next_379
  refine s_istore_n (i := 198) rfl (Nat.le_of_ble_eq_true rfl) (ls2 := [(2, tI s0), (0, tA l0), (1, tI l1)]) rfl ?_
  refine s_aload_n (i := 199) rfl 1 rfl ?_
  refine s_iload_n (i := 200) rfl 0 rfl ?_
  refine s_ifeq (i := 201) rfl (tgt := 389) (by decide) (fun z382 => ?_) (fun z382 => ?_)
  · refine s_iconst (i := 204) rfl (v := (-1 : Int32)) (by decide) ?_
    exact s_sub [1] rfl (b_X9_next_390 X h l0 ((-1 : Int32)) l0)
  · refine s_iload_n (i := 202) rfl 2 rfl ?_
    refine s_goto (i := 203) rfl (tgt := 390) (by decide) ?_
    exact s_sub [1] rfl (b_X9_next_390 X h l0 l1 l0)
set_option maxRecDepth 20000 in
theorem b_X9_next_374 (X : XX) (h : XM) (l0 : Option Nat) (l1 : Int32) : SW X I_X9_next ρv 374 [(0, tA l0), (1, tI l1)] [] h 0 0 (f_X9_next_374 h l0 l1) := by
  unfold f_X9_next_374
  refine s_iconst (i := 195) rfl (v := (1 : Int32)) (by decide) ?_
  refine s_goto (i := 196) rfl (tgt := 379) (by decide) ?_
  exact s_sub [0, 1] rfl (b_X9_next_379 X h l0 l1 ((1 : Int32)))
set_option maxRecDepth 20000 in
theorem b_X9_next_52 (X : XX) (h : XM) (l0 : Option Nat) : SW X I_X9_next ρv 52 [(0, tA l0)] [] h 0 0 (f_X9_next_52 h l0) := by
  unfold f_X9_next_52
  refine s_aload_n (i := 26) rfl 0 rfl ?_
  refine s_aload_n (i := 27) rfl 0 rfl ?_
  refine s_getI (i := 28) rfl xf_9_132.r rfl (fun v34 => ?_)
  refine s_putI (i := 29) rfl xf_9_135 (fun q => by cases q) rfl rfl (fun h35 => ?_)
  refine s_aload_n (i := 30) rfl 0 rfl ?_
  refine s_iconst (i := 31) rfl (v := (0 : Int32)) (by decide) ?_
  refine s_putI (i := 32) rfl xf_9_138 (fun q => by cases q) rfl rfl (fun h36 => ?_)
  refine s_aload_n (i := 33) rfl 0 rfl ?_
  refine s_iconst (i := 34) rfl (v := (0 : Int32)) (by decide) ?_
  refine s_putI (i := 35) rfl xf_9_141 (fun q => by cases q) rfl rfl (fun h37 => ?_)
  refine s_aload_n (i := 36) rfl 0 rfl ?_
  refine s_getI (i := 37) rfl xf_9_132.r rfl (fun v38 => ?_)
  refine s_aload_n (i := 38) rfl 0 rfl ?_
  refine s_getI (i := 39) rfl xf_9_90.r rfl (fun v39 => ?_)
  refine s_icmpne (i := 40) rfl (tgt := 82) (by decide) (fun z78 => ?_) (fun z78 => ?_)
  · exact s_vret (i := 41) rfl rfl
  · refine s_aload_n (i := 42) rfl 0 rfl ?_
    refine s_getR (i := 43) rfl xf_9_26.r rfl (fun v40 => ?_)
    refine s_aload_n (i := 44) rfl 0 rfl ?_
    refine s_getI (i := 45) rfl xf_9_132.r rfl (fun v41 => ?_)
    refine s_iaload (i := 46) rfl (fun v42 => ?_)
    refine s_istore_n (i := 47) rfl (Nat.le_of_ble_eq_true rfl) (ls2 := [(1, tI v42), (0, tA l0)]) rfl ?_
    refine s_iload_n (i := 48) rfl 0 rfl ?_
    refine s_bipush (i := 49) rfl (v := (97 : Int32)) (by decide) ?_
    refine s_bipush (i := 50) rfl (v := (122 : Int32)) (by decide) ?_
    refine u_callSi [tI v42, tI ((97 : Int32)), tI ((122 : Int32))] [] rfl (i := 51) rfl (c_X9_in h37 v42 ((97 : Int32)) ((122 : Int32))) xm_X9_in (tw974) rfl (Nat.le_of_ble_eq_true rfl) (xRm.of rfl) ⟨rfl, rfl⟩ (fun q43 => ?_)
    refine s_ifeq (i := 52) rfl (tgt := 217) (by decide) (fun z100 => ?_) (fun z100 => ?_)
    · refine s_iload_n (i := 114) rfl 0 rfl ?_
      refine s_bipush (i := 115) rfl (v := (48 : Int32)) (by decide) ?_
      refine s_bipush (i := 116) rfl (v := (57 : Int32)) (by decide) ?_
      refine u_callSi [tI v42, tI ((48 : Int32)), tI ((57 : Int32))] [] rfl (i := 117) rfl (c_X9_in q43.2 v42 ((48 : Int32)) ((57 : Int32))) xm_X9_in (tw974) rfl (Nat.le_of_ble_eq_true rfl) (xRm.of rfl) ⟨rfl, rfl⟩ (fun q44 => ?_)
      refine s_ifeq (i := 118) rfl (tgt := 326) (by decide) (fun z225 => ?_) (fun z225 => ?_)
      · refine s_iload_n (i := 171) rfl 0 rfl ?_
        refine s_bipush (i := 172) rfl (v := (40 : Int32)) (by decide) ?_
        refine s_icmpeq (i := 173) rfl (tgt := 374) (by decide) (fun z329 => ?_) (fun z329 => ?_)
        · exact s_sub [1, 0] rfl (b_X9_next_374 X q44.2 l0 v42)
        · refine s_iload_n (i := 174) rfl 0 rfl ?_
          refine s_bipush (i := 175) rfl (v := (41 : Int32)) (by decide) ?_
          refine s_icmpeq (i := 176) rfl (tgt := 374) (by decide) (fun z335 => ?_) (fun z335 => ?_)
          · exact s_sub [1, 0] rfl (b_X9_next_374 X q44.2 l0 v42)
          · refine s_iload_n (i := 177) rfl 0 rfl ?_
            refine s_bipush (i := 178) rfl (v := (59 : Int32)) (by decide) ?_
            refine s_icmpeq (i := 179) rfl (tgt := 374) (by decide) (fun z341 => ?_) (fun z341 => ?_)
            · exact s_sub [1, 0] rfl (b_X9_next_374 X q44.2 l0 v42)
            · refine s_iload_n (i := 180) rfl 0 rfl ?_
              refine s_bipush (i := 181) rfl (v := (43 : Int32)) (by decide) ?_
              refine s_icmpeq (i := 182) rfl (tgt := 374) (by decide) (fun z347 => ?_) (fun z347 => ?_)
              · exact s_sub [1, 0] rfl (b_X9_next_374 X q44.2 l0 v42)
              · refine s_iload_n (i := 183) rfl 0 rfl ?_
                refine s_bipush (i := 184) rfl (v := (45 : Int32)) (by decide) ?_
                refine s_icmpeq (i := 185) rfl (tgt := 374) (by decide) (fun z353 => ?_) (fun z353 => ?_)
                · exact s_sub [1, 0] rfl (b_X9_next_374 X q44.2 l0 v42)
                · refine s_iload_n (i := 186) rfl 0 rfl ?_
                  refine s_bipush (i := 187) rfl (v := (42 : Int32)) (by decide) ?_
                  refine s_icmpeq (i := 188) rfl (tgt := 374) (by decide) (fun z359 => ?_) (fun z359 => ?_)
                  · exact s_sub [1, 0] rfl (b_X9_next_374 X q44.2 l0 v42)
                  · refine s_iload_n (i := 189) rfl 0 rfl ?_
                    refine s_bipush (i := 190) rfl (v := (60 : Int32)) (by decide) ?_
                    refine s_icmpeq (i := 191) rfl (tgt := 374) (by decide) (fun z365 => ?_) (fun z365 => ?_)
                    · exact s_sub [1, 0] rfl (b_X9_next_374 X q44.2 l0 v42)
                    · refine s_iload_n (i := 192) rfl 0 rfl ?_
                      refine s_bipush (i := 193) rfl (v := (61 : Int32)) (by decide) ?_
                      refine s_icmpne (i := 194) rfl (tgt := 378) (by decide) (fun z371 => ?_) (fun z371 => ?_)
                      · exact s_sub [1, 0] rfl (b_X9_next_374 X q44.2 l0 v42)
                      · refine s_iconst (i := 197) rfl (v := (0 : Int32)) (by decide) ?_
                        exact s_sub [1, 0] rfl (b_X9_next_379 X q44.2 l0 v42 ((0 : Int32)))
      · refine s_iconst (i := 119) rfl (v := (0 : Int32)) (by decide) ?_
        refine s_istore_n (i := 120) rfl (Nat.le_of_ble_eq_true rfl) (ls2 := [(2, tI ((0 : Int32))), (1, tI v42), (0, tA l0)]) rfl ?_
        exact s_sub [2, 0] rfl (b_X9_next_230 X FU q44.2 l0 ((0 : Int32)))
    · exact s_sub [1] rfl (b_X9_next_103 X FU q43.2 l0)
set_option maxRecDepth 20000 in
theorem bb_X9_next_0 (X : XX) (k_0 : XM → Option Nat → Option (XM)) (hk_0 : ∀ h l0, SW X I_X9_next ρv 0 [(0, tA l0)] [] h 0 0 (k_0 h l0)) (h : XM) (l0 : Option Nat) : SW X I_X9_next ρv 0 [(0, tA l0)] [] h 0 0 (fb_X9_next_0 k_0 h l0) := by
  unfold fb_X9_next_0
  refine s_aload_n (i := 0) rfl 0 rfl ?_
  refine s_getI (i := 1) rfl xf_9_132.r rfl (fun v45 => ?_)
  refine s_aload_n (i := 2) rfl 0 rfl ?_
  refine s_getI (i := 3) rfl xf_9_90.r rfl (fun v46 => ?_)
  refine s_icmpge (i := 4) rfl (tgt := 52) (by decide) (fun z8 => ?_) (fun z8 => ?_)
  · refine s_aload_n (i := 5) rfl 0 rfl ?_
    refine s_getR (i := 6) rfl xf_9_26.r rfl (fun v47 => ?_)
    refine s_aload_n (i := 7) rfl 0 rfl ?_
    refine s_getI (i := 8) rfl xf_9_132.r rfl (fun v48 => ?_)
    refine s_iaload (i := 9) rfl (fun v49 => ?_)
    refine s_bipush (i := 10) rfl (v := (32 : Int32)) (by decide) ?_
    refine s_icmpeq (i := 11) rfl (tgt := 39) (by decide) (fun z22 => ?_) (fun z22 => ?_)
    · exact s_sub [0] rfl (b_X9_next_39 X k_0 hk_0 h l0)
    · refine s_aload_n (i := 12) rfl 0 rfl ?_
      refine s_getR (i := 13) rfl xf_9_26.r rfl (fun v50 => ?_)
      refine s_aload_n (i := 14) rfl 0 rfl ?_
      refine s_getI (i := 15) rfl xf_9_132.r rfl (fun v51 => ?_)
      refine s_iaload (i := 16) rfl (fun v52 => ?_)
      refine s_bipush (i := 17) rfl (v := (10 : Int32)) (by decide) ?_
      refine s_icmpne (i := 18) rfl (tgt := 52) (by decide) (fun z36 => ?_) (fun z36 => ?_)
      · exact s_sub [0] rfl (b_X9_next_39 X k_0 hk_0 h l0)
      · exact s_sub [0] rfl (b_X9_next_52 X h l0)
  · exact s_sub [0] rfl (b_X9_next_52 X h l0)
set_option maxRecDepth 20000 in
theorem b_X9_next_0 (X : XX) : ∀ (n : Nat) (h : XM) (l0 : Option Nat), SW X I_X9_next ρv 0 [(0, tA l0)] [] h 0 0 (f_X9_next_0 n h l0) := by
  intro n
  induction n with
  | zero =>
    intro h l0
    exact s_none
  | succ n ih =>
    intro h l0
    exact bb_X9_next_0 X (f_X9_next_0 n) ih h l0
set_option maxRecDepth 20000 in
theorem c_X9_next (h : XM) (a0 : Option Nat) : MC I_X9_next y_X9_next [tA a0] h ρv (f_X9_next h a0) := by
  refine MC_of ⟨by decide +kernel, rfl, rfl, Nat.le_of_ble_eq_true rfl⟩ dT_X9_next (fun X => ?_)
  show SW X I_X9_next ρv 0 [(0, tA a0)] [] h 0 0 (f_X9_next h a0)
  unfold f_X9_next
  exact s_sub [0] rfl (b_X9_next_0 X FU h a0)
def y_X9_signOf : MethodName := ⟨"OpensAtNineModel", "signOf", "()I"⟩
def T_X9_signOf : List (Nat × Instr × Nat × Nat) := [(0, .aload_n 0, 1, 1), (1, .getfield 138, 3, 4), (4, .iconst 4, 1, 5), (5, .if_icmp .ne 8, 3, 8), (8, .bipush 11, 2, 10), (10, .goto 87, 3, 13), (13, .aload_n 0, 1, 14), (14, .getfield 138, 3, 17), (17, .iconst 5, 1, 18), (18, .if_icmp .ne 8, 3, 21), (21, .bipush 12, 2, 23), (23, .goto 74, 3, 26), (26, .aload_n 0, 1, 27), (27, .getfield 138, 3, 30), (30, .bipush 60, 2, 32), (32, .if_icmp .ne 8, 3, 35), (35, .bipush 14, 2, 37), (37, .goto 60, 3, 40), (40, .aload_n 0, 1, 41), (41, .getfield 138, 3, 44), (44, .bipush 61, 2, 46), (46, .if_icmp .ne 8, 3, 49), (49, .bipush 15, 2, 51), (51, .goto 46, 3, 54), (54, .aload_n 0, 1, 55), (55, .getfield 138, 3, 58), (58, .bipush 43, 2, 60), (60, .if_icmp .ne 8, 3, 63), (63, .bipush 16, 2, 65), (65, .goto 32, 3, 68), (68, .aload_n 0, 1, 69), (69, .getfield 138, 3, 72), (72, .bipush 45, 2, 74), (74, .if_icmp .ne 8, 3, 77), (77, .bipush 17, 2, 79), (79, .goto 18, 3, 82), (82, .aload_n 0, 1, 83), (83, .getfield 138, 3, 86), (86, .bipush 42, 2, 88), (88, .if_icmp .ne 8, 3, 91), (91, .bipush 18, 2, 93), (93, .goto 4, 3, 96), (96, .iconst (-1), 1, 97), (97, .ireturn, 1, 98)]
def I_X9_signOf : MI := (prog_11_method_24_code, 1, (some .int), "OpensAtNineModel", "signOf", T_X9_signOf, 0, 0, 1, 60)
theorem dT_X9_signOf : ∀ q ∈ T_X9_signOf, decode prog_11_method_24_code q.1 = .ok (q.2.1, q.2.2.1) ∧ q.2.2.2 = q.1 + q.2.2.1 := by decide +kernel
theorem xm_X9_signOf : xCM y_X9_signOf I_X9_signOf 9 0 := ⟨⟨tw1007, tw37⟩, tw84, tw1008, ⟨xT9, 49, rfl⟩, ⟨by decide +kernel, by decide +kernel, by decide +kernel⟩⟩
noncomputable def f_X9_signOf_97 (h : XM) (s0 : Int32) : Option (Int32 × XM) := some (s0, h)
noncomputable def f_X9_signOf (h : XM) (a0 : Option Nat) : Option (Int32 × XM) := (gI h 9 a0 26).bind fun v1 => if v1 = ((4 : Int32)) then (f_X9_signOf_97 h ((11 : Int32))) else ((gI h 9 a0 26).bind fun v2 => if v2 = ((5 : Int32)) then (f_X9_signOf_97 h ((12 : Int32))) else ((gI h 9 a0 26).bind fun v3 => if v3 = ((60 : Int32)) then (f_X9_signOf_97 h ((14 : Int32))) else ((gI h 9 a0 26).bind fun v4 => if v4 = ((61 : Int32)) then (f_X9_signOf_97 h ((15 : Int32))) else ((gI h 9 a0 26).bind fun v5 => if v5 = ((43 : Int32)) then (f_X9_signOf_97 h ((16 : Int32))) else ((gI h 9 a0 26).bind fun v6 => if v6 = ((45 : Int32)) then (f_X9_signOf_97 h ((17 : Int32))) else ((gI h 9 a0 26).bind fun v7 => if v7 = ((42 : Int32)) then (f_X9_signOf_97 h ((18 : Int32))) else (f_X9_signOf_97 h ((-1 : Int32)))))))))
theorem b_X9_signOf_97 (X : XX) (h : XM) (s0 : Int32) : SW X I_X9_signOf ρi 97 [] [tI s0] h 0 0 (f_X9_signOf_97 h s0) := by
  unfold f_X9_signOf_97
  exact s_iret (i := 43) rfl rfl
theorem c_X9_signOf (h : XM) (a0 : Option Nat) : MC I_X9_signOf y_X9_signOf [tA a0] h ρi (f_X9_signOf h a0) := by
  refine MC_of ⟨by decide +kernel, rfl, rfl, Nat.le_of_ble_eq_true rfl⟩ dT_X9_signOf (fun X => ?_)
  show SW X I_X9_signOf ρi 0 [(0, tA a0)] [] h 0 0 (f_X9_signOf h a0)
  unfold f_X9_signOf
  refine s_aload_n (i := 0) rfl 0 rfl ?_
  refine s_getI (i := 1) rfl xf_9_138.r rfl (fun v1 => ?_)
  refine s_iconst (i := 2) rfl (v := (4 : Int32)) (by decide) ?_
  refine s_icmpne (i := 3) rfl (tgt := 13) (by decide) (fun z5 => ?_) (fun z5 => ?_)
  · refine s_bipush (i := 4) rfl (v := (11 : Int32)) (by decide) ?_
    refine s_goto (i := 5) rfl (tgt := 97) (by decide) ?_
    exact s_sub [] rfl (b_X9_signOf_97 X h ((11 : Int32)))
  · refine s_aload_n (i := 6) rfl 0 rfl ?_
    refine s_getI (i := 7) rfl xf_9_138.r rfl (fun v2 => ?_)
    refine s_iconst (i := 8) rfl (v := (5 : Int32)) (by decide) ?_
    refine s_icmpne (i := 9) rfl (tgt := 26) (by decide) (fun z18 => ?_) (fun z18 => ?_)
    · refine s_bipush (i := 10) rfl (v := (12 : Int32)) (by decide) ?_
      refine s_goto (i := 11) rfl (tgt := 97) (by decide) ?_
      exact s_sub [] rfl (b_X9_signOf_97 X h ((12 : Int32)))
    · refine s_aload_n (i := 12) rfl 0 rfl ?_
      refine s_getI (i := 13) rfl xf_9_138.r rfl (fun v3 => ?_)
      refine s_bipush (i := 14) rfl (v := (60 : Int32)) (by decide) ?_
      refine s_icmpne (i := 15) rfl (tgt := 40) (by decide) (fun z32 => ?_) (fun z32 => ?_)
      · refine s_bipush (i := 16) rfl (v := (14 : Int32)) (by decide) ?_
        refine s_goto (i := 17) rfl (tgt := 97) (by decide) ?_
        exact s_sub [] rfl (b_X9_signOf_97 X h ((14 : Int32)))
      · refine s_aload_n (i := 18) rfl 0 rfl ?_
        refine s_getI (i := 19) rfl xf_9_138.r rfl (fun v4 => ?_)
        refine s_bipush (i := 20) rfl (v := (61 : Int32)) (by decide) ?_
        refine s_icmpne (i := 21) rfl (tgt := 54) (by decide) (fun z46 => ?_) (fun z46 => ?_)
        · refine s_bipush (i := 22) rfl (v := (15 : Int32)) (by decide) ?_
          refine s_goto (i := 23) rfl (tgt := 97) (by decide) ?_
          exact s_sub [] rfl (b_X9_signOf_97 X h ((15 : Int32)))
        · refine s_aload_n (i := 24) rfl 0 rfl ?_
          refine s_getI (i := 25) rfl xf_9_138.r rfl (fun v5 => ?_)
          refine s_bipush (i := 26) rfl (v := (43 : Int32)) (by decide) ?_
          refine s_icmpne (i := 27) rfl (tgt := 68) (by decide) (fun z60 => ?_) (fun z60 => ?_)
          · refine s_bipush (i := 28) rfl (v := (16 : Int32)) (by decide) ?_
            refine s_goto (i := 29) rfl (tgt := 97) (by decide) ?_
            exact s_sub [] rfl (b_X9_signOf_97 X h ((16 : Int32)))
          · refine s_aload_n (i := 30) rfl 0 rfl ?_
            refine s_getI (i := 31) rfl xf_9_138.r rfl (fun v6 => ?_)
            refine s_bipush (i := 32) rfl (v := (45 : Int32)) (by decide) ?_
            refine s_icmpne (i := 33) rfl (tgt := 82) (by decide) (fun z74 => ?_) (fun z74 => ?_)
            · refine s_bipush (i := 34) rfl (v := (17 : Int32)) (by decide) ?_
              refine s_goto (i := 35) rfl (tgt := 97) (by decide) ?_
              exact s_sub [] rfl (b_X9_signOf_97 X h ((17 : Int32)))
            · refine s_aload_n (i := 36) rfl 0 rfl ?_
              refine s_getI (i := 37) rfl xf_9_138.r rfl (fun v7 => ?_)
              refine s_bipush (i := 38) rfl (v := (42 : Int32)) (by decide) ?_
              refine s_icmpne (i := 39) rfl (tgt := 96) (by decide) (fun z88 => ?_) (fun z88 => ?_)
              · refine s_bipush (i := 40) rfl (v := (18 : Int32)) (by decide) ?_
                refine s_goto (i := 41) rfl (tgt := 97) (by decide) ?_
                exact s_sub [] rfl (b_X9_signOf_97 X h ((18 : Int32)))
              · refine s_iconst (i := 42) rfl (v := (-1 : Int32)) (by decide) ?_
                exact s_sub [] rfl (b_X9_signOf_97 X h ((-1 : Int32)))
def y_X9_rank : MethodName := ⟨"OpensAtNineModel", "rank", "(I)I"⟩
def T_X9_rank : List (Nat × Instr × Nat × Nat) := [(0, .iload_n 0, 1, 1), (1, .ifCond .ne 7, 3, 4), (4, .iconst 0, 1, 5), (5, .goto 66, 3, 8), (8, .iload_n 0, 1, 9), (9, .bipush 11, 2, 11), (11, .if_icmp .ne 7, 3, 14), (14, .iconst 1, 1, 15), (15, .goto 56, 3, 18), (18, .iload_n 0, 1, 19), (19, .bipush 12, 2, 21), (21, .if_icmp .ne 7, 3, 24), (24, .iconst 2, 1, 25), (25, .goto 46, 3, 28), (28, .iload_n 0, 1, 29), (29, .bipush 13, 2, 31), (31, .if_icmp .ne 7, 3, 34), (34, .iconst 3, 1, 35), (35, .goto 36, 3, 38), (38, .iload_n 0, 1, 39), (39, .bipush 15, 2, 41), (41, .if_icmp .gt 7, 3, 44), (44, .iconst 4, 1, 45), (45, .goto 26, 3, 48), (48, .iload_n 0, 1, 49), (49, .bipush 17, 2, 51), (51, .if_icmp .gt 7, 3, 54), (54, .iconst 5, 1, 55), (55, .goto 16, 3, 58), (58, .iload_n 0, 1, 59), (59, .bipush 18, 2, 61), (61, .if_icmp .ne 8, 3, 64), (64, .bipush 6, 2, 66), (66, .goto 5, 3, 69), (69, .bipush 7, 2, 71), (71, .ireturn, 1, 72)]
def I_X9_rank : MI := (prog_11_method_18_code, 1, (some .int), "OpensAtNineModel", "rank", T_X9_rank, 0, 0, 1, 60)
theorem dT_X9_rank : ∀ q ∈ T_X9_rank, decode prog_11_method_18_code q.1 = .ok (q.2.1, q.2.2.1) ∧ q.2.2.2 = q.1 + q.2.2.1 := by decide +kernel
theorem xm_X9_rank : xCS y_X9_rank I_X9_rank 1 := ⟨tw995, tw84, tw996, ⟨by decide +kernel, by decide +kernel, by decide +kernel⟩⟩
noncomputable def f_X9_rank_71 (h : XM) (s0 : Int32) : Option (Int32 × XM) := some (s0, h)
noncomputable def f_X9_rank (h : XM) (a0 : Int32) : Option (Int32 × XM) := if a0 = 0 then (f_X9_rank_71 h ((0 : Int32))) else (if a0 = ((11 : Int32)) then (f_X9_rank_71 h ((1 : Int32))) else (if a0 = ((12 : Int32)) then (f_X9_rank_71 h ((2 : Int32))) else (if a0 = ((13 : Int32)) then (f_X9_rank_71 h ((3 : Int32))) else (if ((15 : Int32)) < a0 then (if ((17 : Int32)) < a0 then (if a0 = ((18 : Int32)) then (f_X9_rank_71 h ((6 : Int32))) else (f_X9_rank_71 h ((7 : Int32)))) else (f_X9_rank_71 h ((5 : Int32)))) else (f_X9_rank_71 h ((4 : Int32)))))))
theorem b_X9_rank_71 (X : XX) (h : XM) (s0 : Int32) : SW X I_X9_rank ρi 71 [] [tI s0] h 0 0 (f_X9_rank_71 h s0) := by
  unfold f_X9_rank_71
  exact s_iret (i := 35) rfl rfl
theorem c_X9_rank (h : XM) (a0 : Int32) : MC I_X9_rank y_X9_rank [tI a0] h ρi (f_X9_rank h a0) := by
  refine MC_of ⟨by decide +kernel, rfl, rfl, Nat.le_of_ble_eq_true rfl⟩ dT_X9_rank (fun X => ?_)
  show SW X I_X9_rank ρi 0 [(0, tI a0)] [] h 0 0 (f_X9_rank h a0)
  unfold f_X9_rank
  refine s_iload_n (i := 0) rfl 0 rfl ?_
  refine s_ifne (i := 1) rfl (tgt := 8) (by decide) (fun z1 => ?_) (fun z1 => ?_)
  · refine s_iconst (i := 2) rfl (v := (0 : Int32)) (by decide) ?_
    refine s_goto (i := 3) rfl (tgt := 71) (by decide) ?_
    exact s_sub [] rfl (b_X9_rank_71 X h ((0 : Int32)))
  · refine s_iload_n (i := 4) rfl 0 rfl ?_
    refine s_bipush (i := 5) rfl (v := (11 : Int32)) (by decide) ?_
    refine s_icmpne (i := 6) rfl (tgt := 18) (by decide) (fun z11 => ?_) (fun z11 => ?_)
    · refine s_iconst (i := 7) rfl (v := (1 : Int32)) (by decide) ?_
      refine s_goto (i := 8) rfl (tgt := 71) (by decide) ?_
      exact s_sub [] rfl (b_X9_rank_71 X h ((1 : Int32)))
    · refine s_iload_n (i := 9) rfl 0 rfl ?_
      refine s_bipush (i := 10) rfl (v := (12 : Int32)) (by decide) ?_
      refine s_icmpne (i := 11) rfl (tgt := 28) (by decide) (fun z21 => ?_) (fun z21 => ?_)
      · refine s_iconst (i := 12) rfl (v := (2 : Int32)) (by decide) ?_
        refine s_goto (i := 13) rfl (tgt := 71) (by decide) ?_
        exact s_sub [] rfl (b_X9_rank_71 X h ((2 : Int32)))
      · refine s_iload_n (i := 14) rfl 0 rfl ?_
        refine s_bipush (i := 15) rfl (v := (13 : Int32)) (by decide) ?_
        refine s_icmpne (i := 16) rfl (tgt := 38) (by decide) (fun z31 => ?_) (fun z31 => ?_)
        · refine s_iconst (i := 17) rfl (v := (3 : Int32)) (by decide) ?_
          refine s_goto (i := 18) rfl (tgt := 71) (by decide) ?_
          exact s_sub [] rfl (b_X9_rank_71 X h ((3 : Int32)))
        · refine s_iload_n (i := 19) rfl 0 rfl ?_
          refine s_bipush (i := 20) rfl (v := (15 : Int32)) (by decide) ?_
          refine s_icmpgt (i := 21) rfl (tgt := 48) (by decide) (fun z41 => ?_) (fun z41 => ?_)
          · refine s_iload_n (i := 24) rfl 0 rfl ?_
            refine s_bipush (i := 25) rfl (v := (17 : Int32)) (by decide) ?_
            refine s_icmpgt (i := 26) rfl (tgt := 58) (by decide) (fun z51 => ?_) (fun z51 => ?_)
            · refine s_iload_n (i := 29) rfl 0 rfl ?_
              refine s_bipush (i := 30) rfl (v := (18 : Int32)) (by decide) ?_
              refine s_icmpne (i := 31) rfl (tgt := 69) (by decide) (fun z61 => ?_) (fun z61 => ?_)
              · refine s_bipush (i := 32) rfl (v := (6 : Int32)) (by decide) ?_
                refine s_goto (i := 33) rfl (tgt := 71) (by decide) ?_
                exact s_sub [] rfl (b_X9_rank_71 X h ((6 : Int32)))
              · refine s_bipush (i := 34) rfl (v := (7 : Int32)) (by decide) ?_
                exact s_sub [] rfl (b_X9_rank_71 X h ((7 : Int32)))
            · refine s_iconst (i := 27) rfl (v := (5 : Int32)) (by decide) ?_
              refine s_goto (i := 28) rfl (tgt := 71) (by decide) ?_
              exact s_sub [] rfl (b_X9_rank_71 X h ((5 : Int32)))
          · refine s_iconst (i := 22) rfl (v := (4 : Int32)) (by decide) ?_
            refine s_goto (i := 23) rfl (tgt := 71) (by decide) ?_
            exact s_sub [] rfl (b_X9_rank_71 X h ((4 : Int32)))
def y_X9_puts : MethodName := ⟨"OpensAtNineModel", "puts", "(I)V"⟩
def T_X9_puts : List (Nat × Instr × Nat × Nat) := [(0, .aload_n 0, 1, 1), (1, .getfield 29, 3, 4), (4, .sipush 200, 3, 7), (7, .aload_n 0, 1, 8), (8, .getfield 123, 3, 11), (11, .imul, 1, 12), (12, .aload_n 0, 1, 13), (13, .getfield 148, 3, 16), (16, .iadd, 1, 17), (17, .iload_n 1, 1, 18), (18, .iastore, 1, 19), (19, .aload_n 0, 1, 20), (20, .dup, 1, 21), (21, .getfield 148, 3, 24), (24, .iconst 1, 1, 25), (25, .iadd, 1, 26), (26, .putfield 148, 3, 29), (29, .return_, 1, 30)]
def I_X9_puts : MI := (prog_11_method_19_code, 2, none, "OpensAtNineModel", "puts", T_X9_puts, 0, 0, 1, 60)
theorem dT_X9_puts : ∀ q ∈ T_X9_puts, decode prog_11_method_19_code q.1 = .ok (q.2.1, q.2.2.1) ∧ q.2.2.2 = q.1 + q.2.2.1 := by decide +kernel
theorem xm_X9_puts : xCM y_X9_puts I_X9_puts 9 1 := ⟨⟨tw988, tw33⟩, tw84, tw989, ⟨xT9, 49, rfl⟩, ⟨by decide +kernel, by decide +kernel, by decide +kernel⟩⟩
noncomputable def f_X9_puts (h : XM) (a0 : Option Nat) (a1 : Int32) : Option (XM) := (gR h 9 a0 13).bind fun v1 => (gI h 9 a0 15).bind fun v2 => (gI h 9 a0 32).bind fun v3 => (sI h v1 ((((200 : Int32)) * v2) + v3) a1).bind fun h4 => (gI h4 9 a0 32).bind fun v5 => (pI h4 9 a0 32 (v5 + ((1 : Int32)))).bind fun h6 => some h6
theorem c_X9_puts (h : XM) (a0 : Option Nat) (a1 : Int32) : MC I_X9_puts y_X9_puts [tA a0, tI a1] h ρv (f_X9_puts h a0 a1) := by
  refine MC_of ⟨by decide +kernel, rfl, rfl, Nat.le_of_ble_eq_true rfl⟩ dT_X9_puts (fun X => ?_)
  show SW X I_X9_puts ρv 0 [(0, tA a0), (1, tI a1)] [] h 0 0 (f_X9_puts h a0 a1)
  unfold f_X9_puts
  refine s_aload_n (i := 0) rfl 0 rfl ?_
  refine s_getR (i := 1) rfl xf_9_29.r rfl (fun v1 => ?_)
  refine s_sipush (i := 2) rfl (v := (200 : Int32)) (by decide) ?_
  refine s_aload_n (i := 3) rfl 0 rfl ?_
  refine s_getI (i := 4) rfl xf_9_123.r rfl (fun v2 => ?_)
  refine s_imul (i := 5) rfl ?_
  refine s_aload_n (i := 6) rfl 0 rfl ?_
  refine s_getI (i := 7) rfl xf_9_148.r rfl (fun v3 => ?_)
  refine s_iadd (i := 8) rfl ?_
  refine s_iload_n (i := 9) rfl 1 rfl ?_
  refine s_iastore (i := 10) rfl (fun h4 => ?_)
  refine s_aload_n (i := 11) rfl 0 rfl ?_
  refine s_dup (i := 12) rfl rfl ?_
  refine s_getI (i := 13) rfl xf_9_148.r rfl (fun v5 => ?_)
  refine s_iconst (i := 14) rfl (v := (1 : Int32)) (by decide) ?_
  refine s_iadd (i := 15) rfl ?_
  refine s_putI (i := 16) rfl xf_9_148 (fun q => by cases q) rfl rfl (fun h6 => ?_)
  exact s_vret (i := 17) rfl rfl
def y_X9_unwinds : MethodName := ⟨"OpensAtNineModel", "unwinds", "(I)V"⟩
def T_X9_unwinds : List (Nat × Instr × Nat × Nat) := [(0, .aload_n 0, 1, 1), (1, .getfield 151, 3, 4), (4, .ifCond .le 75, 3, 7), (7, .aload_n 0, 1, 8), (8, .getfield 56, 3, 11), (11, .aload_n 0, 1, 12), (12, .getfield 151, 3, 15), (15, .iconst 1, 1, 16), (16, .isub, 1, 17), (17, .iaload, 1, 18), (18, .invokestatic 154, 3, 21), (21, .iload_n 1, 1, 22), (22, .if_icmp .lt 57, 3, 25), (25, .aload_n 0, 1, 26), (26, .dup, 1, 27), (27, .getfield 151, 3, 30), (30, .iconst 1, 1, 31), (31, .isub, 1, 32), (32, .putfield 151, 3, 35), (35, .aload_n 0, 1, 36), (36, .getfield 56, 3, 39), (39, .aload_n 0, 1, 40), (40, .getfield 151, 3, 43), (43, .iaload, 1, 44), (44, .istore_n 2, 1, 45), (45, .aload_n 0, 1, 46), (46, .dup, 1, 47), (47, .getfield 158, 3, 50), (50, .iload_n 2, 1, 51), (51, .bipush 13, 2, 53), (53, .if_icmp .eq 9, 3, 56), (56, .iload_n 2, 1, 57), (57, .bipush 19, 2, 59), (59, .if_icmp .ne 7, 3, 62), (62, .iconst 1, 1, 63), (63, .goto 4, 3, 66), (66, .iconst 0, 1, 67), (67, .isub, 1, 68), (68, .putfield 158, 3, 71), (71, .aload_n 0, 1, 72), (72, .iload_n 2, 1, 73), (73, .invokevirtual 161, 3, 76), (76, .goto (-76), 3, 79), (79, .return_, 1, 80)]
def I_X9_unwinds : MI := (prog_11_method_20_code, 3, none, "OpensAtNineModel", "unwinds", T_X9_unwinds, 0, 0, 2, 81)
theorem dT_X9_unwinds : ∀ q ∈ T_X9_unwinds, decode prog_11_method_20_code q.1 = .ok (q.2.1, q.2.2.1) ∧ q.2.2.2 = q.1 + q.2.2.1 := by decide +kernel
theorem xm_X9_unwinds : xCM y_X9_unwinds I_X9_unwinds 9 1 := ⟨⟨tw992, tw34⟩, tw84, tw993, ⟨xT9, 49, rfl⟩, ⟨by decide +kernel, by decide +kernel, by decide +kernel⟩⟩
noncomputable def f_X9_unwinds_67 (k_0 : XM → Option Nat → Int32 → Option (XM)) (h : XM) (l0 : Option Nat) (l1 : Int32) (l2 : Int32) (s0 : Int32) (s1 : Int32) (s2 : Option Nat) : Option (XM) := (pI h 9 s2 31 (s1 - s0)).bind fun h1 => (vc h1 9 l0 (f_X9_puts h1 l0 l2)).bind fun q2 => k_0 q2 l0 l1
noncomputable def f_X9_unwinds_62 (k_0 : XM → Option Nat → Int32 → Option (XM)) (h : XM) (l0 : Option Nat) (l1 : Int32) (l2 : Int32) (s0 : Int32) (s1 : Option Nat) : Option (XM) := f_X9_unwinds_67 k_0 h l0 l1 l2 ((1 : Int32)) s0 s1
noncomputable def f_X9_unwinds_79 (h : XM) : Option (XM) := some h
noncomputable def fb_X9_unwinds_0 (k_0 : XM → Option Nat → Int32 → Option (XM)) (h : XM) (l0 : Option Nat) (l1 : Int32) : Option (XM) := (gI h 9 l0 30).bind fun v3 => if 0 < v3 then ((gR h 9 l0 29).bind fun v4 => (gI h 9 l0 30).bind fun v5 => (rI h v4 (v5 - ((1 : Int32)))).bind fun v6 => (f_X9_rank h v6).bind fun q7 => if q7.1 < l1 then (f_X9_unwinds_79 q7.2) else ((gI q7.2 9 l0 30).bind fun v8 => (pI q7.2 9 l0 30 (v8 - ((1 : Int32)))).bind fun h9 => (gR h9 9 l0 29).bind fun v10 => (gI h9 9 l0 30).bind fun v11 => (rI h9 v10 v11).bind fun v12 => (gI h9 9 l0 31).bind fun v13 => if v12 = ((13 : Int32)) then (f_X9_unwinds_62 k_0 h9 l0 l1 v12 v13 l0) else (if v12 = ((19 : Int32)) then (f_X9_unwinds_62 k_0 h9 l0 l1 v12 v13 l0) else (f_X9_unwinds_67 k_0 h9 l0 l1 v12 ((0 : Int32)) v13 l0)))) else (f_X9_unwinds_79 h)
noncomputable def f_X9_unwinds_0 (n : Nat) : XM → Option Nat → Int32 → Option (XM) := Nat.rec (motive := fun _ => XM → Option Nat → Int32 → Option (XM)) (fun _ _ _ => none) (fun _ ih h l0 l1 => fb_X9_unwinds_0 ih h l0 l1) n
noncomputable def f_X9_unwinds (h : XM) (a0 : Option Nat) (a1 : Int32) : Option (XM) := f_X9_unwinds_0 FU h a0 a1
theorem b_X9_unwinds_67 (X : XX) (k_0 : XM → Option Nat → Int32 → Option (XM)) (hk_0 : ∀ h l0 l1, SW X I_X9_unwinds ρv 0 [(0, tA l0), (1, tI l1)] [] h 0 0 (k_0 h l0 l1)) (h : XM) (l0 : Option Nat) (l1 : Int32) (l2 : Int32) (s0 : Int32) (s1 : Int32) (s2 : Option Nat) : SW X I_X9_unwinds ρv 67 [(0, tA l0), (1, tI l1), (2, tI l2)] [tI s0, tI s1, tA s2] h 0 0 (f_X9_unwinds_67 k_0 h l0 l1 l2 s0 s1 s2) := by
  unfold f_X9_unwinds_67
  refine s_isub (i := 37) rfl ?_
  refine s_putI (i := 38) rfl xf_9_158 (fun q => by cases q) rfl rfl (fun h1 => ?_)
  refine s_aload_n (i := 39) rfl 0 rfl ?_
  refine s_iload_n (i := 40) rfl 2 rfl ?_
  refine u_callVv (kk := 9) [tI l2] l0 [] rfl (i := 41) rfl (c_X9_puts h1 l0 l2) xm_X9_puts (tw986) rfl (Nat.le_of_ble_eq_true rfl) (xRm.of rfl) ⟨rfl, rfl⟩ (fun q2 => ?_)
  refine s_goto (i := 42) rfl (tgt := 0) (by decide) ?_
  exact s_sub [0, 1] rfl (hk_0 q2 l0 l1)
theorem b_X9_unwinds_62 (X : XX) (k_0 : XM → Option Nat → Int32 → Option (XM)) (hk_0 : ∀ h l0 l1, SW X I_X9_unwinds ρv 0 [(0, tA l0), (1, tI l1)] [] h 0 0 (k_0 h l0 l1)) (h : XM) (l0 : Option Nat) (l1 : Int32) (l2 : Int32) (s0 : Int32) (s1 : Option Nat) : SW X I_X9_unwinds ρv 62 [(0, tA l0), (1, tI l1), (2, tI l2)] [tI s0, tA s1] h 0 0 (f_X9_unwinds_62 k_0 h l0 l1 l2 s0 s1) := by
  unfold f_X9_unwinds_62
  refine s_iconst (i := 34) rfl (v := (1 : Int32)) (by decide) ?_
  refine s_goto (i := 35) rfl (tgt := 67) (by decide) ?_
  exact s_sub [0, 1, 2] rfl (b_X9_unwinds_67 X k_0 hk_0 h l0 l1 l2 ((1 : Int32)) s0 s1)
theorem b_X9_unwinds_79 (X : XX) (h : XM) : SW X I_X9_unwinds ρv 79 [] [] h 0 0 (f_X9_unwinds_79 h) := by
  unfold f_X9_unwinds_79
  exact s_vret (i := 43) rfl rfl
theorem bb_X9_unwinds_0 (X : XX) (k_0 : XM → Option Nat → Int32 → Option (XM)) (hk_0 : ∀ h l0 l1, SW X I_X9_unwinds ρv 0 [(0, tA l0), (1, tI l1)] [] h 0 0 (k_0 h l0 l1)) (h : XM) (l0 : Option Nat) (l1 : Int32) : SW X I_X9_unwinds ρv 0 [(0, tA l0), (1, tI l1)] [] h 0 0 (fb_X9_unwinds_0 k_0 h l0 l1) := by
  unfold fb_X9_unwinds_0
  refine s_aload_n (i := 0) rfl 0 rfl ?_
  refine s_getI (i := 1) rfl xf_9_151.r rfl (fun v3 => ?_)
  refine s_ifle (i := 2) rfl (tgt := 79) (by decide) (fun z4 => ?_) (fun z4 => ?_)
  · refine s_aload_n (i := 3) rfl 0 rfl ?_
    refine s_getR (i := 4) rfl xf_9_56.r rfl (fun v4 => ?_)
    refine s_aload_n (i := 5) rfl 0 rfl ?_
    refine s_getI (i := 6) rfl xf_9_151.r rfl (fun v5 => ?_)
    refine s_iconst (i := 7) rfl (v := (1 : Int32)) (by decide) ?_
    refine s_isub (i := 8) rfl ?_
    refine s_iaload (i := 9) rfl (fun v6 => ?_)
    refine u_callSi [tI v6] [] rfl (i := 10) rfl (c_X9_rank h v6) xm_X9_rank (tw994) rfl (Nat.le_of_ble_eq_true rfl) (xRm.of rfl) ⟨rfl, rfl⟩ (fun q7 => ?_)
    refine s_iload_n (i := 11) rfl 1 rfl ?_
    refine s_icmplt (i := 12) rfl (tgt := 79) (by decide) (fun z22 => ?_) (fun z22 => ?_)
    · exact s_sub [] rfl (b_X9_unwinds_79 X q7.2)
    · refine s_aload_n (i := 13) rfl 0 rfl ?_
      refine s_dup (i := 14) rfl rfl ?_
      refine s_getI (i := 15) rfl xf_9_151.r rfl (fun v8 => ?_)
      refine s_iconst (i := 16) rfl (v := (1 : Int32)) (by decide) ?_
      refine s_isub (i := 17) rfl ?_
      refine s_putI (i := 18) rfl xf_9_151 (fun q => by cases q) rfl rfl (fun h9 => ?_)
      refine s_aload_n (i := 19) rfl 0 rfl ?_
      refine s_getR (i := 20) rfl xf_9_56.r rfl (fun v10 => ?_)
      refine s_aload_n (i := 21) rfl 0 rfl ?_
      refine s_getI (i := 22) rfl xf_9_151.r rfl (fun v11 => ?_)
      refine s_iaload (i := 23) rfl (fun v12 => ?_)
      refine s_istore_n (i := 24) rfl (Nat.le_of_ble_eq_true rfl) (ls2 := [(2, tI v12), (0, tA l0), (1, tI l1)]) rfl ?_
      refine s_aload_n (i := 25) rfl 1 rfl ?_
      refine s_dup (i := 26) rfl rfl ?_
      refine s_getI (i := 27) rfl xf_9_158.r rfl (fun v13 => ?_)
      refine s_iload_n (i := 28) rfl 0 rfl ?_
      refine s_bipush (i := 29) rfl (v := (13 : Int32)) (by decide) ?_
      refine s_icmpeq (i := 30) rfl (tgt := 62) (by decide) (fun z53 => ?_) (fun z53 => ?_)
      · exact s_sub [1, 2, 0] rfl (b_X9_unwinds_62 X k_0 hk_0 h9 l0 l1 v12 v13 l0)
      · refine s_iload_n (i := 31) rfl 0 rfl ?_
        refine s_bipush (i := 32) rfl (v := (19 : Int32)) (by decide) ?_
        refine s_icmpne (i := 33) rfl (tgt := 66) (by decide) (fun z59 => ?_) (fun z59 => ?_)
        · exact s_sub [1, 2, 0] rfl (b_X9_unwinds_62 X k_0 hk_0 h9 l0 l1 v12 v13 l0)
        · refine s_iconst (i := 36) rfl (v := (0 : Int32)) (by decide) ?_
          exact s_sub [1, 2, 0] rfl (b_X9_unwinds_67 X k_0 hk_0 h9 l0 l1 v12 ((0 : Int32)) v13 l0)
  · exact s_sub [] rfl (b_X9_unwinds_79 X h)
theorem b_X9_unwinds_0 (X : XX) : ∀ (n : Nat) (h : XM) (l0 : Option Nat) (l1 : Int32), SW X I_X9_unwinds ρv 0 [(0, tA l0), (1, tI l1)] [] h 0 0 (f_X9_unwinds_0 n h l0 l1) := by
  intro n
  induction n with
  | zero =>
    intro h l0 l1
    exact s_none
  | succ n ih =>
    intro h l0 l1
    exact bb_X9_unwinds_0 X (f_X9_unwinds_0 n) ih h l0 l1
theorem c_X9_unwinds (h : XM) (a0 : Option Nat) (a1 : Int32) : MC I_X9_unwinds y_X9_unwinds [tA a0, tI a1] h ρv (f_X9_unwinds h a0 a1) := by
  refine MC_of ⟨by decide +kernel, rfl, rfl, Nat.le_of_ble_eq_true rfl⟩ dT_X9_unwinds (fun X => ?_)
  show SW X I_X9_unwinds ρv 0 [(0, tA a0), (1, tI a1)] [] h 0 0 (f_X9_unwinds h a0 a1)
  unfold f_X9_unwinds
  exact s_sub [0, 1] rfl (b_X9_unwinds_0 X FU h a0 a1)
def y_X9_holds : MethodName := ⟨"OpensAtNineModel", "holds", "(I)V"⟩
def T_X9_holds : List (Nat × Instr × Nat × Nat) := [(0, .aload_n 0, 1, 1), (1, .getfield 56, 3, 4), (4, .aload_n 0, 1, 5), (5, .getfield 151, 3, 8), (8, .iload_n 1, 1, 9), (9, .iastore, 1, 10), (10, .aload_n 0, 1, 11), (11, .dup, 1, 12), (12, .getfield 151, 3, 15), (15, .iconst 1, 1, 16), (16, .iadd, 1, 17), (17, .putfield 151, 3, 20), (20, .return_, 1, 21)]
def I_X9_holds : MI := (prog_11_method_21_code, 2, none, "OpensAtNineModel", "holds", T_X9_holds, 0, 0, 1, 60)
theorem dT_X9_holds : ∀ q ∈ T_X9_holds, decode prog_11_method_21_code q.1 = .ok (q.2.1, q.2.2.1) ∧ q.2.2.2 = q.1 + q.2.2.1 := by decide +kernel
theorem xm_X9_holds : xCM y_X9_holds I_X9_holds 9 1 := ⟨⟨tw1003, tw36⟩, tw84, tw1004, ⟨xT9, 49, rfl⟩, ⟨by decide +kernel, by decide +kernel, by decide +kernel⟩⟩
noncomputable def f_X9_holds (h : XM) (a0 : Option Nat) (a1 : Int32) : Option (XM) := (gR h 9 a0 29).bind fun v1 => (gI h 9 a0 30).bind fun v2 => (sI h v1 v2 a1).bind fun h3 => (gI h3 9 a0 30).bind fun v4 => (pI h3 9 a0 30 (v4 + ((1 : Int32)))).bind fun h5 => some h5
theorem c_X9_holds (h : XM) (a0 : Option Nat) (a1 : Int32) : MC I_X9_holds y_X9_holds [tA a0, tI a1] h ρv (f_X9_holds h a0 a1) := by
  refine MC_of ⟨by decide +kernel, rfl, rfl, Nat.le_of_ble_eq_true rfl⟩ dT_X9_holds (fun X => ?_)
  show SW X I_X9_holds ρv 0 [(0, tA a0), (1, tI a1)] [] h 0 0 (f_X9_holds h a0 a1)
  unfold f_X9_holds
  refine s_aload_n (i := 0) rfl 0 rfl ?_
  refine s_getR (i := 1) rfl xf_9_56.r rfl (fun v1 => ?_)
  refine s_aload_n (i := 2) rfl 0 rfl ?_
  refine s_getI (i := 3) rfl xf_9_151.r rfl (fun v2 => ?_)
  refine s_iload_n (i := 4) rfl 1 rfl ?_
  refine s_iastore (i := 5) rfl (fun h3 => ?_)
  refine s_aload_n (i := 6) rfl 0 rfl ?_
  refine s_dup (i := 7) rfl rfl ?_
  refine s_getI (i := 8) rfl xf_9_151.r rfl (fun v4 => ?_)
  refine s_iconst (i := 9) rfl (v := (1 : Int32)) (by decide) ?_
  refine s_iadd (i := 10) rfl ?_
  refine s_putI (i := 11) rfl xf_9_151 (fun q => by cases q) rfl rfl (fun h5 => ?_)
  exact s_vret (i := 12) rfl rfl
def y_X9_between : MethodName := ⟨"OpensAtNineModel", "between", "(I)Z"⟩
def T_X9_between : List (Nat × Instr × Nat × Nat) := [(0, .aload_n 0, 1, 1), (1, .iload_n 1, 1, 2), (2, .invokestatic 154, 3, 5), (5, .iconst 4, 1, 6), (6, .if_icmp .ne 7, 3, 9), (9, .iconst 5, 1, 10), (10, .goto 7, 3, 13), (13, .iload_n 1, 1, 14), (14, .invokestatic 154, 3, 17), (17, .invokevirtual 168, 3, 20), (20, .iload_n 1, 1, 21), (21, .invokestatic 154, 3, 24), (24, .iconst 4, 1, 25), (25, .if_icmp .ne 30, 3, 28), (28, .aload_n 0, 1, 29), (29, .getfield 151, 3, 32), (32, .ifCond .le 23, 3, 35), (35, .aload_n 0, 1, 36), (36, .getfield 56, 3, 39), (39, .aload_n 0, 1, 40), (40, .getfield 151, 3, 43), (43, .iconst 1, 1, 44), (44, .isub, 1, 45), (45, .iaload, 1, 46), (46, .invokestatic 154, 3, 49), (49, .iconst 4, 1, 50), (50, .if_icmp .ne 5, 3, 53), (53, .iconst 0, 1, 54), (54, .ireturn, 1, 55), (55, .aload_n 0, 1, 56), (56, .iload_n 1, 1, 57), (57, .invokevirtual 165, 3, 60), (60, .iconst 1, 1, 61), (61, .ireturn, 1, 62)]
def I_X9_between : MI := (prog_11_method_23_code, 2, (some .boolean), "OpensAtNineModel", "between", T_X9_between, 0, 0, 3, 103)
theorem dT_X9_between : ∀ q ∈ T_X9_between, decode prog_11_method_23_code q.1 = .ok (q.2.1, q.2.2.1) ∧ q.2.2.2 = q.1 + q.2.2.1 := by decide +kernel
theorem xm_X9_between : xCM y_X9_between I_X9_between 9 1 := ⟨⟨tw1011, tw38⟩, tw84, tw1012, ⟨xT9, 49, rfl⟩, ⟨by decide +kernel, by decide +kernel, by decide +kernel⟩⟩
noncomputable def f_X9_between_55 (h : XM) (l0 : Option Nat) (l1 : Int32) : Option (Int32 × XM) := (vc h 9 l0 (f_X9_holds h l0 l1)).bind fun q1 => rz q1 ((1 : Int32))
noncomputable def f_X9_between_17 (h : XM) (l0 : Option Nat) (l1 : Int32) (s0 : Int32) (s1 : Option Nat) : Option (Int32 × XM) := (vc h 9 s1 (f_X9_unwinds h s1 s0)).bind fun q2 => (f_X9_rank q2 l1).bind fun q3 => if q3.1 = ((4 : Int32)) then ((gI q3.2 9 l0 30).bind fun v4 => if 0 < v4 then ((gR q3.2 9 l0 29).bind fun v5 => (gI q3.2 9 l0 30).bind fun v6 => (rI q3.2 v5 (v6 - ((1 : Int32)))).bind fun v7 => (f_X9_rank q3.2 v7).bind fun q8 => if q8.1 = ((4 : Int32)) then (rz q8.2 ((0 : Int32))) else (f_X9_between_55 q8.2 l0 l1)) else (f_X9_between_55 q3.2 l0 l1)) else (f_X9_between_55 q3.2 l0 l1)
noncomputable def f_X9_between (h : XM) (a0 : Option Nat) (a1 : Int32) : Option (Int32 × XM) := (f_X9_rank h a1).bind fun q9 => if q9.1 = ((4 : Int32)) then (f_X9_between_17 q9.2 a0 a1 ((5 : Int32)) a0) else ((f_X9_rank q9.2 a1).bind fun q10 => f_X9_between_17 q10.2 a0 a1 q10.1 a0)
theorem b_X9_between_55 (X : XX) (h : XM) (l0 : Option Nat) (l1 : Int32) : SW X I_X9_between ρi 55 [(0, tA l0), (1, tI l1)] [] h 0 0 (f_X9_between_55 h l0 l1) := by
  unfold f_X9_between_55
  refine s_aload_n (i := 29) rfl 0 rfl ?_
  refine s_iload_n (i := 30) rfl 1 rfl ?_
  refine u_callVv (kk := 9) [tI l1] l0 [] rfl (i := 31) rfl (c_X9_holds h l0 l1) xm_X9_holds (tw1001) rfl (Nat.le_of_ble_eq_true rfl) (xRm.of rfl) ⟨rfl, rfl⟩ (fun q1 => ?_)
  refine s_iconst (i := 32) rfl (v := (1 : Int32)) (by decide) ?_
  exact s_zret (i := 33) rfl rfl
theorem b_X9_between_17 (X : XX) (h : XM) (l0 : Option Nat) (l1 : Int32) (s0 : Int32) (s1 : Option Nat) : SW X I_X9_between ρi 17 [(0, tA l0), (1, tI l1)] [tI s0, tA s1] h 0 0 (f_X9_between_17 h l0 l1 s0 s1) := by
  unfold f_X9_between_17
  refine u_callVv (kk := 9) [tI s0] s1 [] rfl (i := 9) rfl (c_X9_unwinds h s1 s0) xm_X9_unwinds (tw990) rfl (Nat.le_of_ble_eq_true rfl) (xRm.of rfl) ⟨rfl, rfl⟩ (fun q2 => ?_)
  refine s_iload_n (i := 10) rfl 1 rfl ?_
  refine u_callSi [tI l1] [] rfl (i := 11) rfl (c_X9_rank q2 l1) xm_X9_rank (tw994) rfl (Nat.le_of_ble_eq_true rfl) (xRm.of rfl) ⟨rfl, rfl⟩ (fun q3 => ?_)
  refine s_iconst (i := 12) rfl (v := (4 : Int32)) (by decide) ?_
  refine s_icmpne (i := 13) rfl (tgt := 55) (by decide) (fun z25 => ?_) (fun z25 => ?_)
  · refine s_aload_n (i := 14) rfl 0 rfl ?_
    refine s_getI (i := 15) rfl xf_9_151.r rfl (fun v4 => ?_)
    refine s_ifle (i := 16) rfl (tgt := 55) (by decide) (fun z32 => ?_) (fun z32 => ?_)
    · refine s_aload_n (i := 17) rfl 0 rfl ?_
      refine s_getR (i := 18) rfl xf_9_56.r rfl (fun v5 => ?_)
      refine s_aload_n (i := 19) rfl 0 rfl ?_
      refine s_getI (i := 20) rfl xf_9_151.r rfl (fun v6 => ?_)
      refine s_iconst (i := 21) rfl (v := (1 : Int32)) (by decide) ?_
      refine s_isub (i := 22) rfl ?_
      refine s_iaload (i := 23) rfl (fun v7 => ?_)
      refine u_callSi [tI v7] [] rfl (i := 24) rfl (c_X9_rank q3.2 v7) xm_X9_rank (tw994) rfl (Nat.le_of_ble_eq_true rfl) (xRm.of rfl) ⟨rfl, rfl⟩ (fun q8 => ?_)
      refine s_iconst (i := 25) rfl (v := (4 : Int32)) (by decide) ?_
      refine s_icmpne (i := 26) rfl (tgt := 55) (by decide) (fun z50 => ?_) (fun z50 => ?_)
      · refine s_iconst (i := 27) rfl (v := (0 : Int32)) (by decide) ?_
        exact s_zret (i := 28) rfl rfl
      · exact s_sub [0, 1] rfl (b_X9_between_55 X q8.2 l0 l1)
    · exact s_sub [0, 1] rfl (b_X9_between_55 X q3.2 l0 l1)
  · exact s_sub [0, 1] rfl (b_X9_between_55 X q3.2 l0 l1)
theorem c_X9_between (h : XM) (a0 : Option Nat) (a1 : Int32) : MC I_X9_between y_X9_between [tA a0, tI a1] h ρi (f_X9_between h a0 a1) := by
  refine MC_of ⟨by decide +kernel, rfl, rfl, Nat.le_of_ble_eq_true rfl⟩ dT_X9_between (fun X => ?_)
  show SW X I_X9_between ρi 0 [(0, tA a0), (1, tI a1)] [] h 0 0 (f_X9_between h a0 a1)
  unfold f_X9_between
  refine s_aload_n (i := 0) rfl 0 rfl ?_
  refine s_iload_n (i := 1) rfl 1 rfl ?_
  refine u_callSi [tI a1] [tA a0] rfl (i := 2) rfl (c_X9_rank h a1) xm_X9_rank (tw994) rfl (Nat.le_of_ble_eq_true rfl) (xRm.of rfl) ⟨rfl, rfl⟩ (fun q9 => ?_)
  refine s_iconst (i := 3) rfl (v := (4 : Int32)) (by decide) ?_
  refine s_icmpne (i := 4) rfl (tgt := 13) (by decide) (fun z6 => ?_) (fun z6 => ?_)
  · refine s_iconst (i := 5) rfl (v := (5 : Int32)) (by decide) ?_
    refine s_goto (i := 6) rfl (tgt := 17) (by decide) ?_
    exact s_sub [0, 1] rfl (b_X9_between_17 X q9.2 a0 a1 ((5 : Int32)) a0)
  · refine s_iload_n (i := 7) rfl 1 rfl ?_
    refine u_callSi [tI a1] [tA a0] rfl (i := 8) rfl (c_X9_rank q9.2 a1) xm_X9_rank (tw994) rfl (Nat.le_of_ble_eq_true rfl) (xRm.of rfl) ⟨rfl, rfl⟩ (fun q10 => ?_)
    exact s_sub [0, 1] rfl (b_X9_between_17 X q10.2 a0 a1 q10.1 a0)
def y_X9_opensOne : MethodName := ⟨"OpensAtNineModel", "opensOne", "(I)Z"⟩
def T_X9_opensOne : List (Nat × Instr × Nat × Nat) := [(0, .aload_n 0, 1, 1), (1, .getfield 158, 3, 4), (4, .iconst 5, 1, 5), (5, .if_icmp .ne 5, 3, 8), (8, .iconst 0, 1, 9), (9, .ireturn, 1, 10), (10, .aload_n 0, 1, 11), (11, .dup, 1, 12), (12, .getfield 158, 3, 15), (15, .iconst 1, 1, 16), (16, .iadd, 1, 17), (17, .putfield 158, 3, 20), (20, .aload_n 0, 1, 21), (21, .iload_n 1, 1, 22), (22, .invokevirtual 165, 3, 25), (25, .iconst 1, 1, 26), (26, .ireturn, 1, 27)]
def I_X9_opensOne : MI := (prog_11_method_22_code, 2, (some .boolean), "OpensAtNineModel", "opensOne", T_X9_opensOne, 0, 0, 2, 81)
theorem dT_X9_opensOne : ∀ q ∈ T_X9_opensOne, decode prog_11_method_22_code q.1 = .ok (q.2.1, q.2.2.1) ∧ q.2.2.2 = q.1 + q.2.2.1 := by decide +kernel
theorem xm_X9_opensOne : xCM y_X9_opensOne I_X9_opensOne 9 1 := ⟨⟨tw999, tw35⟩, tw84, tw1000, ⟨xT9, 49, rfl⟩, ⟨by decide +kernel, by decide +kernel, by decide +kernel⟩⟩
noncomputable def f_X9_opensOne (h : XM) (a0 : Option Nat) (a1 : Int32) : Option (Int32 × XM) := (gI h 9 a0 31).bind fun v1 => if v1 = ((5 : Int32)) then (rz h ((0 : Int32))) else ((gI h 9 a0 31).bind fun v2 => (pI h 9 a0 31 (v2 + ((1 : Int32)))).bind fun h3 => (vc h3 9 a0 (f_X9_holds h3 a0 a1)).bind fun q4 => rz q4 ((1 : Int32)))
theorem c_X9_opensOne (h : XM) (a0 : Option Nat) (a1 : Int32) : MC I_X9_opensOne y_X9_opensOne [tA a0, tI a1] h ρi (f_X9_opensOne h a0 a1) := by
  refine MC_of ⟨by decide +kernel, rfl, rfl, Nat.le_of_ble_eq_true rfl⟩ dT_X9_opensOne (fun X => ?_)
  show SW X I_X9_opensOne ρi 0 [(0, tA a0), (1, tI a1)] [] h 0 0 (f_X9_opensOne h a0 a1)
  unfold f_X9_opensOne
  refine s_aload_n (i := 0) rfl 0 rfl ?_
  refine s_getI (i := 1) rfl xf_9_158.r rfl (fun v1 => ?_)
  refine s_iconst (i := 2) rfl (v := (5 : Int32)) (by decide) ?_
  refine s_icmpne (i := 3) rfl (tgt := 10) (by decide) (fun z5 => ?_) (fun z5 => ?_)
  · refine s_iconst (i := 4) rfl (v := (0 : Int32)) (by decide) ?_
    exact s_zret (i := 5) rfl rfl
  · refine s_aload_n (i := 6) rfl 0 rfl ?_
    refine s_dup (i := 7) rfl rfl ?_
    refine s_getI (i := 8) rfl xf_9_158.r rfl (fun v2 => ?_)
    refine s_iconst (i := 9) rfl (v := (1 : Int32)) (by decide) ?_
    refine s_iadd (i := 10) rfl ?_
    refine s_putI (i := 11) rfl xf_9_158 (fun q => by cases q) rfl rfl (fun h3 => ?_)
    refine s_aload_n (i := 12) rfl 0 rfl ?_
    refine s_iload_n (i := 13) rfl 1 rfl ?_
    refine u_callVv (kk := 9) [tI a1] a0 [] rfl (i := 14) rfl (c_X9_holds h3 a0 a1) xm_X9_holds (tw1001) rfl (Nat.le_of_ble_eq_true rfl) (xRm.of rfl) ⟨rfl, rfl⟩ (fun q4 => ?_)
    refine s_iconst (i := 15) rfl (v := (1 : Int32)) (by decide) ?_
    exact s_zret (i := 16) rfl rfl
def y_X9_eRead : MethodName := ⟨"OpensAtNineModel", "eRead", "()Z"⟩
def T_X9_eRead_0 : List (Nat × Instr × Nat × Nat) := [(0, .aload_n 0, 1, 1), (1, .iconst 0, 1, 2), (2, .putfield 151, 3, 5), (5, .aload_n 0, 1, 6), (6, .iconst 0, 1, 7), (7, .putfield 158, 3, 10), (10, .iconst 1, 1, 11), (11, .istore_n 1, 1, 12), (12, .iconst 1, 1, 13), (13, .istore_n 2, 1, 14), (14, .aload_n 0, 1, 15), (15, .invokevirtual 171, 3, 18), (18, .iload_n 1, 1, 19), (19, .ifCond .eq 131, 3, 22), (22, .aload_n 0, 1, 23), (23, .getfield 138, 3, 26), (26, .iconst 1, 1, 27), (27, .if_icmp .eq 11, 3, 30), (30, .aload_n 0, 1, 31), (31, .getfield 138, 3, 34), (34, .iconst 2, 1, 35), (35, .if_icmp .ne 40, 3, 38), (38, .aload_n 0, 1, 39), (39, .aload_n 0, 1, 40), (40, .getfield 138, 3, 43), (43, .iconst 1, 1, 44), (44, .if_icmp .ne 13, 3, 47), (47, .ldc 174, 2, 49), (49, .aload_n 0, 1, 50), (50, .getfield 141, 3, 53), (53, .iadd, 1, 54), (54, .goto 7, 3, 57), (57, .aload_n 0, 1, 58), (58, .getfield 141, 3, 61), (61, .invokevirtual 161, 3, 64), (64, .aload_n 0, 1, 65), (65, .bipush 7, 2, 67), (67, .invokevirtual 168, 3, 70), (70, .iconst 0, 1, 71), (71, .istore_n 1, 1, 72)]
def T_X9_eRead_1 : List (Nat × Instr × Nat × Nat) := [(72, .goto (-58), 3, 75), (75, .aload_n 0, 1, 76), (76, .getfield 138, 3, 79), (79, .bipush 6, 2, 81), (81, .if_icmp .ne 18, 3, 84), (84, .iload_n 2, 1, 85), (85, .ifCond .eq 14, 3, 88), (88, .aload_n 0, 1, 89), (89, .bipush 13, 2, 91), (91, .invokevirtual 175, 3, 94), (94, .ifCond .ne (-80), 3, 97), (97, .iconst 0, 1, 98), (98, .ireturn, 1, 99), (99, .aload_n 0, 1, 100), (100, .getfield 138, 3, 103), (103, .bipush 45, 2, 105), (105, .if_icmp .ne 19, 3, 108), (108, .aload_n 0, 1, 109), (109, .bipush 19, 2, 111), (111, .invokevirtual 175, 3, 114), (114, .ifCond .ne 5, 3, 117), (117, .iconst 0, 1, 118), (118, .ireturn, 1, 119), (119, .iconst 0, 1, 120), (120, .istore_n 2, 1, 121), (121, .goto (-107), 3, 124), (124, .aload_n 0, 1, 125), (125, .getfield 138, 3, 128), (128, .bipush 40, 2, 130), (130, .if_icmp .ne 18, 3, 133), (133, .aload_n 0, 1, 134), (134, .iconst 0, 1, 135), (135, .invokevirtual 175, 3, 138), (138, .ifCond .ne 5, 3, 141), (141, .iconst 0, 1, 142), (142, .ireturn, 1, 143), (143, .iconst 1, 1, 144), (144, .istore_n 2, 1, 145), (145, .goto (-131), 3, 148), (148, .iconst 0, 1, 149)]
def T_X9_eRead_2 : List (Nat × Instr × Nat × Nat) := [(149, .ireturn, 1, 150), (150, .aload_n 0, 1, 151), (151, .getfield 138, 3, 154), (154, .bipush 59, 2, 156), (156, .if_icmp .ne 21, 3, 159), (159, .aload_n 0, 1, 160), (160, .iconst 1, 1, 161), (161, .invokevirtual 168, 3, 164), (164, .aload_n 0, 1, 165), (165, .getfield 151, 3, 168), (168, .ifCond .ne 7, 3, 171), (171, .iconst 1, 1, 172), (172, .goto 4, 3, 175), (175, .iconst 0, 1, 176), (176, .ireturn, 1, 177), (177, .aload_n 0, 1, 178), (178, .getfield 138, 3, 181), (181, .bipush 41, 2, 183), (183, .if_icmp .ne 46, 3, 186), (186, .aload_n 0, 1, 187), (187, .iconst 1, 1, 188), (188, .invokevirtual 168, 3, 191), (191, .aload_n 0, 1, 192), (192, .getfield 151, 3, 195), (195, .ifCond .ne 5, 3, 198), (198, .iconst 0, 1, 199), (199, .ireturn, 1, 200), (200, .aload_n 0, 1, 201), (201, .dup, 1, 202), (202, .getfield 151, 3, 205), (205, .iconst 1, 1, 206), (206, .isub, 1, 207), (207, .putfield 151, 3, 210), (210, .aload_n 0, 1, 211), (211, .dup, 1, 212), (212, .getfield 158, 3, 215), (215, .iconst 1, 1, 216), (216, .isub, 1, 217), (217, .putfield 158, 3, 220), (220, .aload_n 0, 1, 221)]
def T_X9_eRead_3 : List (Nat × Instr × Nat × Nat) := [(221, .bipush 7, 2, 223), (223, .invokevirtual 168, 3, 226), (226, .goto (-212), 3, 229), (229, .aload_n 0, 1, 230), (230, .invokevirtual 178, 3, 233), (233, .istore_n 3, 1, 234), (234, .iload_n 3, 1, 235), (235, .iconst (-1), 1, 236), (236, .if_icmp .eq 11, 3, 239), (239, .aload_n 0, 1, 240), (240, .iload_n 3, 1, 241), (241, .invokevirtual 181, 3, 244), (244, .ifCond .ne 5, 3, 247), (247, .iconst 0, 1, 248), (248, .ireturn, 1, 249), (249, .iconst 1, 1, 250), (250, .istore_n 1, 1, 251), (251, .iload_n 3, 1, 252), (252, .bipush 12, 2, 254), (254, .if_icmp .gt 7, 3, 257), (257, .iconst 1, 1, 258), (258, .goto 4, 3, 261), (261, .iconst 0, 1, 262), (262, .istore_n 2, 1, 263), (263, .goto (-249), 3, 266)]
def T_X9_eRead : List (Nat × Instr × Nat × Nat) := [(0, .aload_n 0, 1, 1), (1, .iconst 0, 1, 2), (2, .putfield 151, 3, 5), (5, .aload_n 0, 1, 6), (6, .iconst 0, 1, 7), (7, .putfield 158, 3, 10), (10, .iconst 1, 1, 11), (11, .istore_n 1, 1, 12), (12, .iconst 1, 1, 13), (13, .istore_n 2, 1, 14), (14, .aload_n 0, 1, 15), (15, .invokevirtual 171, 3, 18), (18, .iload_n 1, 1, 19), (19, .ifCond .eq 131, 3, 22), (22, .aload_n 0, 1, 23), (23, .getfield 138, 3, 26), (26, .iconst 1, 1, 27), (27, .if_icmp .eq 11, 3, 30), (30, .aload_n 0, 1, 31), (31, .getfield 138, 3, 34), (34, .iconst 2, 1, 35), (35, .if_icmp .ne 40, 3, 38), (38, .aload_n 0, 1, 39), (39, .aload_n 0, 1, 40), (40, .getfield 138, 3, 43), (43, .iconst 1, 1, 44), (44, .if_icmp .ne 13, 3, 47), (47, .ldc 174, 2, 49), (49, .aload_n 0, 1, 50), (50, .getfield 141, 3, 53), (53, .iadd, 1, 54), (54, .goto 7, 3, 57), (57, .aload_n 0, 1, 58), (58, .getfield 141, 3, 61), (61, .invokevirtual 161, 3, 64), (64, .aload_n 0, 1, 65), (65, .bipush 7, 2, 67), (67, .invokevirtual 168, 3, 70), (70, .iconst 0, 1, 71), (71, .istore_n 1, 1, 72), (72, .goto (-58), 3, 75), (75, .aload_n 0, 1, 76), (76, .getfield 138, 3, 79), (79, .bipush 6, 2, 81), (81, .if_icmp .ne 18, 3, 84), (84, .iload_n 2, 1, 85), (85, .ifCond .eq 14, 3, 88), (88, .aload_n 0, 1, 89), (89, .bipush 13, 2, 91), (91, .invokevirtual 175, 3, 94), (94, .ifCond .ne (-80), 3, 97), (97, .iconst 0, 1, 98), (98, .ireturn, 1, 99), (99, .aload_n 0, 1, 100), (100, .getfield 138, 3, 103), (103, .bipush 45, 2, 105), (105, .if_icmp .ne 19, 3, 108), (108, .aload_n 0, 1, 109), (109, .bipush 19, 2, 111), (111, .invokevirtual 175, 3, 114), (114, .ifCond .ne 5, 3, 117), (117, .iconst 0, 1, 118), (118, .ireturn, 1, 119), (119, .iconst 0, 1, 120), (120, .istore_n 2, 1, 121), (121, .goto (-107), 3, 124), (124, .aload_n 0, 1, 125), (125, .getfield 138, 3, 128), (128, .bipush 40, 2, 130), (130, .if_icmp .ne 18, 3, 133), (133, .aload_n 0, 1, 134), (134, .iconst 0, 1, 135), (135, .invokevirtual 175, 3, 138), (138, .ifCond .ne 5, 3, 141), (141, .iconst 0, 1, 142), (142, .ireturn, 1, 143), (143, .iconst 1, 1, 144), (144, .istore_n 2, 1, 145), (145, .goto (-131), 3, 148), (148, .iconst 0, 1, 149), (149, .ireturn, 1, 150), (150, .aload_n 0, 1, 151), (151, .getfield 138, 3, 154), (154, .bipush 59, 2, 156), (156, .if_icmp .ne 21, 3, 159), (159, .aload_n 0, 1, 160), (160, .iconst 1, 1, 161), (161, .invokevirtual 168, 3, 164), (164, .aload_n 0, 1, 165), (165, .getfield 151, 3, 168), (168, .ifCond .ne 7, 3, 171), (171, .iconst 1, 1, 172), (172, .goto 4, 3, 175), (175, .iconst 0, 1, 176), (176, .ireturn, 1, 177), (177, .aload_n 0, 1, 178), (178, .getfield 138, 3, 181), (181, .bipush 41, 2, 183), (183, .if_icmp .ne 46, 3, 186), (186, .aload_n 0, 1, 187), (187, .iconst 1, 1, 188), (188, .invokevirtual 168, 3, 191), (191, .aload_n 0, 1, 192), (192, .getfield 151, 3, 195), (195, .ifCond .ne 5, 3, 198), (198, .iconst 0, 1, 199), (199, .ireturn, 1, 200), (200, .aload_n 0, 1, 201), (201, .dup, 1, 202), (202, .getfield 151, 3, 205), (205, .iconst 1, 1, 206), (206, .isub, 1, 207), (207, .putfield 151, 3, 210), (210, .aload_n 0, 1, 211), (211, .dup, 1, 212), (212, .getfield 158, 3, 215), (215, .iconst 1, 1, 216), (216, .isub, 1, 217), (217, .putfield 158, 3, 220), (220, .aload_n 0, 1, 221), (221, .bipush 7, 2, 223), (223, .invokevirtual 168, 3, 226), (226, .goto (-212), 3, 229), (229, .aload_n 0, 1, 230), (230, .invokevirtual 178, 3, 233), (233, .istore_n 3, 1, 234), (234, .iload_n 3, 1, 235), (235, .iconst (-1), 1, 236), (236, .if_icmp .eq 11, 3, 239), (239, .aload_n 0, 1, 240), (240, .iload_n 3, 1, 241), (241, .invokevirtual 181, 3, 244), (244, .ifCond .ne 5, 3, 247), (247, .iconst 0, 1, 248), (248, .ireturn, 1, 249), (249, .iconst 1, 1, 250), (250, .istore_n 1, 1, 251), (251, .iload_n 3, 1, 252), (252, .bipush 12, 2, 254), (254, .if_icmp .gt 7, 3, 257), (257, .iconst 1, 1, 258), (258, .goto 4, 3, 261), (261, .iconst 0, 1, 262), (262, .istore_n 2, 1, 263), (263, .goto (-249), 3, 266)]
def I_X9_eRead : MI := (prog_11_method_25_code, 4, (some .boolean), "OpensAtNineModel", "eRead", T_X9_eRead, 0, 0, 4, 124)
theorem dT_X9_eRead_0 : ∀ q ∈ T_X9_eRead_0, decode prog_11_method_25_code q.1 = .ok (q.2.1, q.2.2.1) ∧ q.2.2.2 = q.1 + q.2.2.1 := by decide +kernel
theorem dT_X9_eRead_1 : ∀ q ∈ T_X9_eRead_1, decode prog_11_method_25_code q.1 = .ok (q.2.1, q.2.2.1) ∧ q.2.2.2 = q.1 + q.2.2.1 := by decide +kernel
theorem dT_X9_eRead_2 : ∀ q ∈ T_X9_eRead_2, decode prog_11_method_25_code q.1 = .ok (q.2.1, q.2.2.1) ∧ q.2.2.2 = q.1 + q.2.2.1 := by decide +kernel
theorem dT_X9_eRead_3 : ∀ q ∈ T_X9_eRead_3, decode prog_11_method_25_code q.1 = .ok (q.2.1, q.2.2.1) ∧ q.2.2.2 = q.1 + q.2.2.1 := by decide +kernel
set_option maxRecDepth 20000 in
theorem dT_X9_eRead : ∀ q ∈ T_X9_eRead, decode prog_11_method_25_code q.1 = .ok (q.2.1, q.2.2.1) ∧ q.2.2.2 = q.1 + q.2.2.1 := by
  show ∀ q ∈ (T_X9_eRead_0 ++ (T_X9_eRead_1 ++ (T_X9_eRead_2 ++ (T_X9_eRead_3)))), decode prog_11_method_25_code q.1 = .ok (q.2.1, q.2.2.1) ∧ q.2.2.2 = q.1 + q.2.2.1
  exact List.forall_mem_append.mpr ⟨dT_X9_eRead_0, List.forall_mem_append.mpr ⟨dT_X9_eRead_1, List.forall_mem_append.mpr ⟨dT_X9_eRead_2, dT_X9_eRead_3⟩⟩⟩
theorem xm_X9_eRead : xCM y_X9_eRead I_X9_eRead 9 0 := ⟨⟨tw983, tw32⟩, tw84, tw984, ⟨xT9, 49, rfl⟩, ⟨by decide +kernel, by decide +kernel, by decide +kernel⟩⟩
noncomputable def f_X9_eRead_61 (k_14 : XM → Option Nat → Int32 → Int32 → Option (Int32 × XM)) (h : XM) (l0 : Option Nat) (l2 : Int32) (s0 : Int32) (s1 : Option Nat) : Option (Int32 × XM) := (vc h 9 s1 (f_X9_puts h s1 s0)).bind fun q1 => (vc q1 9 l0 (f_X9_unwinds q1 l0 ((7 : Int32)))).bind fun q2 => k_14 q2 l0 ((0 : Int32)) l2
noncomputable def f_X9_eRead_38 (k_14 : XM → Option Nat → Int32 → Int32 → Option (Int32 × XM)) (h : XM) (l0 : Option Nat) (l2 : Int32) : Option (Int32 × XM) := (gI h 9 l0 26).bind fun v3 => if v3 = ((1 : Int32)) then ((gI h 9 l0 27).bind fun v4 => f_X9_eRead_61 k_14 h l0 l2 (((100000 : Int32)) + v4) l0) else ((gI h 9 l0 27).bind fun v5 => f_X9_eRead_61 k_14 h l0 l2 v5 l0)
noncomputable def f_X9_eRead_99 (k_14 : XM → Option Nat → Int32 → Int32 → Option (Int32 × XM)) (h : XM) (l0 : Option Nat) (l1 : Int32) : Option (Int32 × XM) := (gI h 9 l0 26).bind fun v6 => if v6 = ((45 : Int32)) then ((vc h 9 l0 (f_X9_opensOne h l0 ((19 : Int32)))).bind fun q7 => if q7.1 = 0 then (rz q7.2 ((0 : Int32))) else (k_14 q7.2 l0 l1 ((0 : Int32)))) else ((gI h 9 l0 26).bind fun v8 => if v8 = ((40 : Int32)) then ((vc h 9 l0 (f_X9_opensOne h l0 ((0 : Int32)))).bind fun q9 => if q9.1 = 0 then (rz q9.2 ((0 : Int32))) else (k_14 q9.2 l0 l1 ((1 : Int32)))) else (rz h ((0 : Int32))))
noncomputable def f_X9_eRead_176 (h : XM) (s0 : Int32) : Option (Int32 × XM) := rz h s0
noncomputable def f_X9_eRead_247 (h : XM) : Option (Int32 × XM) := rz h ((0 : Int32))
noncomputable def f_X9_eRead_262 (k_14 : XM → Option Nat → Int32 → Int32 → Option (Int32 × XM)) (h : XM) (l0 : Option Nat) (l1 : Int32) (s0 : Int32) : Option (Int32 × XM) := k_14 h l0 l1 s0
noncomputable def fb_X9_eRead_14 (k_14 : XM → Option Nat → Int32 → Int32 → Option (Int32 × XM)) (h : XM) (l0 : Option Nat) (l1 : Int32) (l2 : Int32) : Option (Int32 × XM) := (vc h 9 l0 (f_X9_next h l0)).bind fun q10 => if l1 = 0 then ((gI q10 9 l0 26).bind fun v11 => if v11 = ((59 : Int32)) then ((vc q10 9 l0 (f_X9_unwinds q10 l0 ((1 : Int32)))).bind fun q12 => (gI q12 9 l0 30).bind fun v13 => if v13 = 0 then (f_X9_eRead_176 q12 ((1 : Int32))) else (f_X9_eRead_176 q12 ((0 : Int32)))) else ((gI q10 9 l0 26).bind fun v14 => if v14 = ((41 : Int32)) then ((vc q10 9 l0 (f_X9_unwinds q10 l0 ((1 : Int32)))).bind fun q15 => (gI q15 9 l0 30).bind fun v16 => if v16 = 0 then (rz q15 ((0 : Int32))) else ((gI q15 9 l0 30).bind fun v17 => (pI q15 9 l0 30 (v17 - ((1 : Int32)))).bind fun h18 => (gI h18 9 l0 31).bind fun v19 => (pI h18 9 l0 31 (v19 - ((1 : Int32)))).bind fun h20 => (vc h20 9 l0 (f_X9_unwinds h20 l0 ((7 : Int32)))).bind fun q21 => k_14 q21 l0 l1 l2)) else ((vc q10 9 l0 (f_X9_signOf q10 l0)).bind fun q22 => if q22.1 = ((-1 : Int32)) then (f_X9_eRead_247 q22.2) else ((vc q22.2 9 l0 (f_X9_between q22.2 l0 q22.1)).bind fun q23 => if q23.1 = 0 then (f_X9_eRead_247 q23.2) else (if ((12 : Int32)) < q22.1 then (f_X9_eRead_262 k_14 q23.2 l0 ((1 : Int32)) ((0 : Int32))) else (f_X9_eRead_262 k_14 q23.2 l0 ((1 : Int32)) ((1 : Int32)))))))) else ((gI q10 9 l0 26).bind fun v24 => if v24 = ((1 : Int32)) then (f_X9_eRead_38 k_14 q10 l0 l2) else ((gI q10 9 l0 26).bind fun v25 => if v25 = ((2 : Int32)) then (f_X9_eRead_38 k_14 q10 l0 l2) else ((gI q10 9 l0 26).bind fun v26 => if v26 = ((6 : Int32)) then (if l2 = 0 then (f_X9_eRead_99 k_14 q10 l0 l1) else ((vc q10 9 l0 (f_X9_opensOne q10 l0 ((13 : Int32)))).bind fun q27 => if q27.1 = 0 then (rz q27.2 ((0 : Int32))) else (k_14 q27.2 l0 l1 l2))) else (f_X9_eRead_99 k_14 q10 l0 l1))))
noncomputable def f_X9_eRead_14 (n : Nat) : XM → Option Nat → Int32 → Int32 → Option (Int32 × XM) := Nat.rec (motive := fun _ => XM → Option Nat → Int32 → Int32 → Option (Int32 × XM)) (fun _ _ _ _ => none) (fun _ ih h l0 l1 l2 => fb_X9_eRead_14 ih h l0 l1 l2) n
noncomputable def f_X9_eRead (h : XM) (a0 : Option Nat) : Option (Int32 × XM) := (pI h 9 a0 30 ((0 : Int32))).bind fun h28 => (pI h28 9 a0 31 ((0 : Int32))).bind fun h29 => f_X9_eRead_14 FU h29 a0 ((1 : Int32)) ((1 : Int32))
theorem b_X9_eRead_61 (X : XX) (k_14 : XM → Option Nat → Int32 → Int32 → Option (Int32 × XM)) (hk_14 : ∀ h l0 l1 l2, SW X I_X9_eRead ρi 14 [(0, tA l0), (1, tI l1), (2, tI l2)] [] h 0 0 (k_14 h l0 l1 l2)) (h : XM) (l0 : Option Nat) (l2 : Int32) (s0 : Int32) (s1 : Option Nat) : SW X I_X9_eRead ρi 61 [(0, tA l0), (2, tI l2)] [tI s0, tA s1] h 0 0 (f_X9_eRead_61 k_14 h l0 l2 s0 s1) := by
  unfold f_X9_eRead_61
  refine u_callVv (kk := 9) [tI s0] s1 [] rfl (i := 34) rfl (c_X9_puts h s1 s0) xm_X9_puts (tw986) rfl (Nat.le_of_ble_eq_true rfl) (xRm.of rfl) ⟨rfl, rfl⟩ (fun q1 => ?_)
  refine s_aload_n (i := 35) rfl 0 rfl ?_
  refine s_bipush (i := 36) rfl (v := (7 : Int32)) (by decide) ?_
  refine u_callVv (kk := 9) [tI ((7 : Int32))] l0 [] rfl (i := 37) rfl (c_X9_unwinds q1 l0 ((7 : Int32))) xm_X9_unwinds (tw990) rfl (Nat.le_of_ble_eq_true rfl) (xRm.of rfl) ⟨rfl, rfl⟩ (fun q2 => ?_)
  refine s_iconst (i := 38) rfl (v := (0 : Int32)) (by decide) ?_
  refine s_istore_n (i := 39) rfl (Nat.le_of_ble_eq_true rfl) (ls2 := [(1, tI ((0 : Int32))), (0, tA l0), (2, tI l2)]) rfl ?_
  refine s_goto (i := 40) rfl (tgt := 14) (by decide) ?_
  exact s_sub [1, 0, 2] rfl (hk_14 q2 l0 ((0 : Int32)) l2)
theorem b_X9_eRead_38 (X : XX) (k_14 : XM → Option Nat → Int32 → Int32 → Option (Int32 × XM)) (hk_14 : ∀ h l0 l1 l2, SW X I_X9_eRead ρi 14 [(0, tA l0), (1, tI l1), (2, tI l2)] [] h 0 0 (k_14 h l0 l1 l2)) (h : XM) (l0 : Option Nat) (l2 : Int32) : SW X I_X9_eRead ρi 38 [(0, tA l0), (2, tI l2)] [] h 0 0 (f_X9_eRead_38 k_14 h l0 l2) := by
  unfold f_X9_eRead_38
  refine s_aload_n (i := 22) rfl 0 rfl ?_
  refine s_aload_n (i := 23) rfl 0 rfl ?_
  refine s_getI (i := 24) rfl xf_9_138.r rfl (fun v3 => ?_)
  refine s_iconst (i := 25) rfl (v := (1 : Int32)) (by decide) ?_
  refine s_icmpne (i := 26) rfl (tgt := 57) (by decide) (fun z44 => ?_) (fun z44 => ?_)
  · refine s_ldc (i := 27) rfl (v := (100000 : Int32)) (tw985) ?_
    refine s_aload_n (i := 28) rfl 0 rfl ?_
    refine s_getI (i := 29) rfl xf_9_141.r rfl (fun v4 => ?_)
    refine s_iadd (i := 30) rfl ?_
    refine s_goto (i := 31) rfl (tgt := 61) (by decide) ?_
    exact s_sub [0, 1] rfl (b_X9_eRead_61 X k_14 hk_14 h l0 l2 (((100000 : Int32)) + v4) l0)
  · refine s_aload_n (i := 32) rfl 0 rfl ?_
    refine s_getI (i := 33) rfl xf_9_141.r rfl (fun v5 => ?_)
    exact s_sub [0, 1] rfl (b_X9_eRead_61 X k_14 hk_14 h l0 l2 v5 l0)
theorem b_X9_eRead_99 (X : XX) (k_14 : XM → Option Nat → Int32 → Int32 → Option (Int32 × XM)) (hk_14 : ∀ h l0 l1 l2, SW X I_X9_eRead ρi 14 [(0, tA l0), (1, tI l1), (2, tI l2)] [] h 0 0 (k_14 h l0 l1 l2)) (h : XM) (l0 : Option Nat) (l1 : Int32) : SW X I_X9_eRead ρi 99 [(0, tA l0), (1, tI l1)] [] h 0 0 (f_X9_eRead_99 k_14 h l0 l1) := by
  unfold f_X9_eRead_99
  refine s_aload_n (i := 53) rfl 0 rfl ?_
  refine s_getI (i := 54) rfl xf_9_138.r rfl (fun v6 => ?_)
  refine s_bipush (i := 55) rfl (v := (45 : Int32)) (by decide) ?_
  refine s_icmpne (i := 56) rfl (tgt := 124) (by decide) (fun z105 => ?_) (fun z105 => ?_)
  · refine s_aload_n (i := 57) rfl 0 rfl ?_
    refine s_bipush (i := 58) rfl (v := (19 : Int32)) (by decide) ?_
    refine u_callVi (kk := 9) [tI ((19 : Int32))] l0 [] rfl (i := 59) rfl (c_X9_opensOne h l0 ((19 : Int32))) xm_X9_opensOne (tw997) rfl (Nat.le_of_ble_eq_true rfl) (xRm.of rfl) ⟨rfl, rfl⟩ (fun q7 => ?_)
    refine s_ifne (i := 60) rfl (tgt := 119) (by decide) (fun z114 => ?_) (fun z114 => ?_)
    · refine s_iconst (i := 61) rfl (v := (0 : Int32)) (by decide) ?_
      exact s_zret (i := 62) rfl rfl
    · refine s_iconst (i := 63) rfl (v := (0 : Int32)) (by decide) ?_
      refine s_istore_n (i := 64) rfl (Nat.le_of_ble_eq_true rfl) (ls2 := [(2, tI ((0 : Int32))), (0, tA l0), (1, tI l1)]) rfl ?_
      refine s_goto (i := 65) rfl (tgt := 14) (by decide) ?_
      exact s_sub [1, 2, 0] rfl (hk_14 q7.2 l0 l1 ((0 : Int32)))
  · refine s_aload_n (i := 66) rfl 0 rfl ?_
    refine s_getI (i := 67) rfl xf_9_138.r rfl (fun v8 => ?_)
    refine s_bipush (i := 68) rfl (v := (40 : Int32)) (by decide) ?_
    refine s_icmpne (i := 69) rfl (tgt := 148) (by decide) (fun z130 => ?_) (fun z130 => ?_)
    · refine s_aload_n (i := 70) rfl 0 rfl ?_
      refine s_iconst (i := 71) rfl (v := (0 : Int32)) (by decide) ?_
      refine u_callVi (kk := 9) [tI ((0 : Int32))] l0 [] rfl (i := 72) rfl (c_X9_opensOne h l0 ((0 : Int32))) xm_X9_opensOne (tw997) rfl (Nat.le_of_ble_eq_true rfl) (xRm.of rfl) ⟨rfl, rfl⟩ (fun q9 => ?_)
      refine s_ifne (i := 73) rfl (tgt := 143) (by decide) (fun z138 => ?_) (fun z138 => ?_)
      · refine s_iconst (i := 74) rfl (v := (0 : Int32)) (by decide) ?_
        exact s_zret (i := 75) rfl rfl
      · refine s_iconst (i := 76) rfl (v := (1 : Int32)) (by decide) ?_
        refine s_istore_n (i := 77) rfl (Nat.le_of_ble_eq_true rfl) (ls2 := [(2, tI ((1 : Int32))), (0, tA l0), (1, tI l1)]) rfl ?_
        refine s_goto (i := 78) rfl (tgt := 14) (by decide) ?_
        exact s_sub [1, 2, 0] rfl (hk_14 q9.2 l0 l1 ((1 : Int32)))
    · refine s_iconst (i := 79) rfl (v := (0 : Int32)) (by decide) ?_
      exact s_zret (i := 80) rfl rfl
theorem b_X9_eRead_176 (X : XX) (h : XM) (s0 : Int32) : SW X I_X9_eRead ρi 176 [] [tI s0] h 0 0 (f_X9_eRead_176 h s0) := by
  unfold f_X9_eRead_176
  exact s_zret (i := 94) rfl rfl
theorem b_X9_eRead_247 (X : XX) (h : XM) : SW X I_X9_eRead ρi 247 [] [] h 0 0 (f_X9_eRead_247 h) := by
  unfold f_X9_eRead_247
  refine s_iconst (i := 133) rfl (v := (0 : Int32)) (by decide) ?_
  exact s_zret (i := 134) rfl rfl
theorem b_X9_eRead_262 (X : XX) (k_14 : XM → Option Nat → Int32 → Int32 → Option (Int32 × XM)) (hk_14 : ∀ h l0 l1 l2, SW X I_X9_eRead ρi 14 [(0, tA l0), (1, tI l1), (2, tI l2)] [] h 0 0 (k_14 h l0 l1 l2)) (h : XM) (l0 : Option Nat) (l1 : Int32) (s0 : Int32) : SW X I_X9_eRead ρi 262 [(0, tA l0), (1, tI l1)] [tI s0] h 0 0 (f_X9_eRead_262 k_14 h l0 l1 s0) := by
  unfold f_X9_eRead_262
  refine s_istore_n (i := 143) rfl (Nat.le_of_ble_eq_true rfl) (ls2 := [(2, tI s0), (0, tA l0), (1, tI l1)]) rfl ?_
  refine s_goto (i := 144) rfl (tgt := 14) (by decide) ?_
  exact s_sub [1, 2, 0] rfl (hk_14 h l0 l1 s0)
theorem bb_X9_eRead_14 (X : XX) (k_14 : XM → Option Nat → Int32 → Int32 → Option (Int32 × XM)) (hk_14 : ∀ h l0 l1 l2, SW X I_X9_eRead ρi 14 [(0, tA l0), (1, tI l1), (2, tI l2)] [] h 0 0 (k_14 h l0 l1 l2)) (h : XM) (l0 : Option Nat) (l1 : Int32) (l2 : Int32) : SW X I_X9_eRead ρi 14 [(0, tA l0), (1, tI l1), (2, tI l2)] [] h 0 0 (fb_X9_eRead_14 k_14 h l0 l1 l2) := by
  unfold fb_X9_eRead_14
  refine s_aload_n (i := 10) rfl 0 rfl ?_
  refine u_callVv (kk := 9) [] l0 [] rfl (i := 11) rfl (c_X9_next h l0) xm_X9_next (tw970) rfl (Nat.le_of_ble_eq_true rfl) (xRm.of rfl) ⟨rfl, rfl⟩ (fun q10 => ?_)
  refine s_iload_n (i := 12) rfl 1 rfl ?_
  refine s_ifeq (i := 13) rfl (tgt := 150) (by decide) (fun z19 => ?_) (fun z19 => ?_)
  · refine s_aload_n (i := 81) rfl 0 rfl ?_
    refine s_getI (i := 82) rfl xf_9_138.r rfl (fun v11 => ?_)
    refine s_bipush (i := 83) rfl (v := (59 : Int32)) (by decide) ?_
    refine s_icmpne (i := 84) rfl (tgt := 177) (by decide) (fun z156 => ?_) (fun z156 => ?_)
    · refine s_aload_n (i := 85) rfl 0 rfl ?_
      refine s_iconst (i := 86) rfl (v := (1 : Int32)) (by decide) ?_
      refine u_callVv (kk := 9) [tI ((1 : Int32))] l0 [] rfl (i := 87) rfl (c_X9_unwinds q10 l0 ((1 : Int32))) xm_X9_unwinds (tw990) rfl (Nat.le_of_ble_eq_true rfl) (xRm.of rfl) ⟨rfl, rfl⟩ (fun q12 => ?_)
      refine s_aload_n (i := 88) rfl 0 rfl ?_
      refine s_getI (i := 89) rfl xf_9_151.r rfl (fun v13 => ?_)
      refine s_ifne (i := 90) rfl (tgt := 175) (by decide) (fun z168 => ?_) (fun z168 => ?_)
      · refine s_iconst (i := 91) rfl (v := (1 : Int32)) (by decide) ?_
        refine s_goto (i := 92) rfl (tgt := 176) (by decide) ?_
        exact s_sub [] rfl (b_X9_eRead_176 X q12 ((1 : Int32)))
      · refine s_iconst (i := 93) rfl (v := (0 : Int32)) (by decide) ?_
        exact s_sub [] rfl (b_X9_eRead_176 X q12 ((0 : Int32)))
    · refine s_aload_n (i := 95) rfl 0 rfl ?_
      refine s_getI (i := 96) rfl xf_9_138.r rfl (fun v14 => ?_)
      refine s_bipush (i := 97) rfl (v := (41 : Int32)) (by decide) ?_
      refine s_icmpne (i := 98) rfl (tgt := 229) (by decide) (fun z183 => ?_) (fun z183 => ?_)
      · refine s_aload_n (i := 99) rfl 0 rfl ?_
        refine s_iconst (i := 100) rfl (v := (1 : Int32)) (by decide) ?_
        refine u_callVv (kk := 9) [tI ((1 : Int32))] l0 [] rfl (i := 101) rfl (c_X9_unwinds q10 l0 ((1 : Int32))) xm_X9_unwinds (tw990) rfl (Nat.le_of_ble_eq_true rfl) (xRm.of rfl) ⟨rfl, rfl⟩ (fun q15 => ?_)
        refine s_aload_n (i := 102) rfl 0 rfl ?_
        refine s_getI (i := 103) rfl xf_9_151.r rfl (fun v16 => ?_)
        refine s_ifne (i := 104) rfl (tgt := 200) (by decide) (fun z195 => ?_) (fun z195 => ?_)
        · refine s_iconst (i := 105) rfl (v := (0 : Int32)) (by decide) ?_
          exact s_zret (i := 106) rfl rfl
        · refine s_aload_n (i := 107) rfl 0 rfl ?_
          refine s_dup (i := 108) rfl rfl ?_
          refine s_getI (i := 109) rfl xf_9_151.r rfl (fun v17 => ?_)
          refine s_iconst (i := 110) rfl (v := (1 : Int32)) (by decide) ?_
          refine s_isub (i := 111) rfl ?_
          refine s_putI (i := 112) rfl xf_9_151 (fun q => by cases q) rfl rfl (fun h18 => ?_)
          refine s_aload_n (i := 113) rfl 0 rfl ?_
          refine s_dup (i := 114) rfl rfl ?_
          refine s_getI (i := 115) rfl xf_9_158.r rfl (fun v19 => ?_)
          refine s_iconst (i := 116) rfl (v := (1 : Int32)) (by decide) ?_
          refine s_isub (i := 117) rfl ?_
          refine s_putI (i := 118) rfl xf_9_158 (fun q => by cases q) rfl rfl (fun h20 => ?_)
          refine s_aload_n (i := 119) rfl 0 rfl ?_
          refine s_bipush (i := 120) rfl (v := (7 : Int32)) (by decide) ?_
          refine u_callVv (kk := 9) [tI ((7 : Int32))] l0 [] rfl (i := 121) rfl (c_X9_unwinds h20 l0 ((7 : Int32))) xm_X9_unwinds (tw990) rfl (Nat.le_of_ble_eq_true rfl) (xRm.of rfl) ⟨rfl, rfl⟩ (fun q21 => ?_)
          refine s_goto (i := 122) rfl (tgt := 14) (by decide) ?_
          exact s_sub [0, 1, 2] rfl (hk_14 q21 l0 l1 l2)
      · refine s_aload_n (i := 123) rfl 0 rfl ?_
        refine u_callVi (kk := 9) [] l0 [] rfl (i := 124) rfl (c_X9_signOf q10 l0) xm_X9_signOf (tw1005) rfl (Nat.le_of_ble_eq_true rfl) (xRm.of rfl) ⟨rfl, rfl⟩ (fun q22 => ?_)
        refine s_istore_n (i := 125) rfl (Nat.le_of_ble_eq_true rfl) (ls2 := [(3, tI q22.1), (0, tA l0), (1, tI l1), (2, tI l2)]) rfl ?_
        refine s_iload_n (i := 126) rfl 0 rfl ?_
        refine s_iconst (i := 127) rfl (v := (-1 : Int32)) (by decide) ?_
        refine s_icmpeq (i := 128) rfl (tgt := 247) (by decide) (fun z236 => ?_) (fun z236 => ?_)
        · exact s_sub [] rfl (b_X9_eRead_247 X q22.2)
        · refine s_aload_n (i := 129) rfl 1 rfl ?_
          refine s_iload_n (i := 130) rfl 0 rfl ?_
          refine u_callVi (kk := 9) [tI q22.1] l0 [] rfl (i := 131) rfl (c_X9_between q22.2 l0 q22.1) xm_X9_between (tw1009) rfl (Nat.le_of_ble_eq_true rfl) (xRm.of rfl) ⟨rfl, rfl⟩ (fun q23 => ?_)
          refine s_ifne (i := 132) rfl (tgt := 249) (by decide) (fun z244 => ?_) (fun z244 => ?_)
          · exact s_sub [] rfl (b_X9_eRead_247 X q23.2)
          · refine s_iconst (i := 135) rfl (v := (1 : Int32)) (by decide) ?_
            refine s_istore_n (i := 136) rfl (Nat.le_of_ble_eq_true rfl) (ls2 := [(1, tI ((1 : Int32))), (3, tI q22.1), (0, tA l0), (2, tI l2)]) rfl ?_
            refine s_iload_n (i := 137) rfl 1 rfl ?_
            refine s_bipush (i := 138) rfl (v := (12 : Int32)) (by decide) ?_
            refine s_icmpgt (i := 139) rfl (tgt := 261) (by decide) (fun z254 => ?_) (fun z254 => ?_)
            · refine s_iconst (i := 142) rfl (v := (0 : Int32)) (by decide) ?_
              exact s_sub [2, 0] rfl (b_X9_eRead_262 X k_14 hk_14 q23.2 l0 ((1 : Int32)) ((0 : Int32)))
            · refine s_iconst (i := 140) rfl (v := (1 : Int32)) (by decide) ?_
              refine s_goto (i := 141) rfl (tgt := 262) (by decide) ?_
              exact s_sub [2, 0] rfl (b_X9_eRead_262 X k_14 hk_14 q23.2 l0 ((1 : Int32)) ((1 : Int32)))
  · refine s_aload_n (i := 14) rfl 0 rfl ?_
    refine s_getI (i := 15) rfl xf_9_138.r rfl (fun v24 => ?_)
    refine s_iconst (i := 16) rfl (v := (1 : Int32)) (by decide) ?_
    refine s_icmpeq (i := 17) rfl (tgt := 38) (by decide) (fun z27 => ?_) (fun z27 => ?_)
    · exact s_sub [0, 2] rfl (b_X9_eRead_38 X k_14 hk_14 q10 l0 l2)
    · refine s_aload_n (i := 18) rfl 0 rfl ?_
      refine s_getI (i := 19) rfl xf_9_138.r rfl (fun v25 => ?_)
      refine s_iconst (i := 20) rfl (v := (2 : Int32)) (by decide) ?_
      refine s_icmpne (i := 21) rfl (tgt := 75) (by decide) (fun z35 => ?_) (fun z35 => ?_)
      · exact s_sub [0, 2] rfl (b_X9_eRead_38 X k_14 hk_14 q10 l0 l2)
      · refine s_aload_n (i := 41) rfl 0 rfl ?_
        refine s_getI (i := 42) rfl xf_9_138.r rfl (fun v26 => ?_)
        refine s_bipush (i := 43) rfl (v := (6 : Int32)) (by decide) ?_
        refine s_icmpne (i := 44) rfl (tgt := 99) (by decide) (fun z81 => ?_) (fun z81 => ?_)
        · refine s_iload_n (i := 45) rfl 2 rfl ?_
          refine s_ifeq (i := 46) rfl (tgt := 99) (by decide) (fun z85 => ?_) (fun z85 => ?_)
          · exact s_sub [0, 1] rfl (b_X9_eRead_99 X k_14 hk_14 q10 l0 l1)
          · refine s_aload_n (i := 47) rfl 0 rfl ?_
            refine s_bipush (i := 48) rfl (v := (13 : Int32)) (by decide) ?_
            refine u_callVi (kk := 9) [tI ((13 : Int32))] l0 [] rfl (i := 49) rfl (c_X9_opensOne q10 l0 ((13 : Int32))) xm_X9_opensOne (tw997) rfl (Nat.le_of_ble_eq_true rfl) (xRm.of rfl) ⟨rfl, rfl⟩ (fun q27 => ?_)
            refine s_ifne (i := 50) rfl (tgt := 14) (by decide) (fun z94 => ?_) (fun z94 => ?_)
            · refine s_iconst (i := 51) rfl (v := (0 : Int32)) (by decide) ?_
              exact s_zret (i := 52) rfl rfl
            · exact s_sub [0, 1, 2] rfl (hk_14 q27.2 l0 l1 l2)
        · exact s_sub [0, 1] rfl (b_X9_eRead_99 X k_14 hk_14 q10 l0 l1)
theorem b_X9_eRead_14 (X : XX) : ∀ (n : Nat) (h : XM) (l0 : Option Nat) (l1 : Int32) (l2 : Int32), SW X I_X9_eRead ρi 14 [(0, tA l0), (1, tI l1), (2, tI l2)] [] h 0 0 (f_X9_eRead_14 n h l0 l1 l2) := by
  intro n
  induction n with
  | zero =>
    intro h l0 l1 l2
    exact s_none
  | succ n ih =>
    intro h l0 l1 l2
    exact bb_X9_eRead_14 X (f_X9_eRead_14 n) ih h l0 l1 l2
theorem c_X9_eRead (h : XM) (a0 : Option Nat) : MC I_X9_eRead y_X9_eRead [tA a0] h ρi (f_X9_eRead h a0) := by
  refine MC_of ⟨by decide +kernel, rfl, rfl, Nat.le_of_ble_eq_true rfl⟩ dT_X9_eRead (fun X => ?_)
  show SW X I_X9_eRead ρi 0 [(0, tA a0)] [] h 0 0 (f_X9_eRead h a0)
  unfold f_X9_eRead
  refine s_aload_n (i := 0) rfl 0 rfl ?_
  refine s_iconst (i := 1) rfl (v := (0 : Int32)) (by decide) ?_
  refine s_putI (i := 2) rfl xf_9_151 (fun q => by cases q) rfl rfl (fun h28 => ?_)
  refine s_aload_n (i := 3) rfl 0 rfl ?_
  refine s_iconst (i := 4) rfl (v := (0 : Int32)) (by decide) ?_
  refine s_putI (i := 5) rfl xf_9_158 (fun q => by cases q) rfl rfl (fun h29 => ?_)
  refine s_iconst (i := 6) rfl (v := (1 : Int32)) (by decide) ?_
  refine s_istore_n (i := 7) rfl (Nat.le_of_ble_eq_true rfl) (ls2 := [(1, tI ((1 : Int32))), (0, tA a0)]) rfl ?_
  refine s_iconst (i := 8) rfl (v := (1 : Int32)) (by decide) ?_
  refine s_istore_n (i := 9) rfl (Nat.le_of_ble_eq_true rfl) (ls2 := [(2, tI ((1 : Int32))), (1, tI ((1 : Int32))), (0, tA a0)]) rfl ?_
  exact s_sub [2, 1, 0] rfl (b_X9_eRead_14 X FU h29 a0 ((1 : Int32)) ((1 : Int32)))
def y_X9_text : MethodName := ⟨"OpensAtNineModel", "text", "()I"⟩
def T_X9_text : List (Nat × Instr × Nat × Nat) := [(0, .aload_n 0, 1, 1), (1, .getfield 123, 3, 4), (4, .bipush 6, 2, 6), (6, .if_icmp .ne 6, 3, 9), (9, .bipush (-4), 2, 11), (11, .ireturn, 1, 12), (12, .aload_n 0, 1, 13), (13, .iconst 0, 1, 14), (14, .putfield 132, 3, 17), (17, .aload_n 0, 1, 18), (18, .iconst 0, 1, 19), (19, .putfield 148, 3, 22), (22, .iconst 1, 1, 23), (23, .istore_n 1, 1, 24), (24, .iconst 0, 1, 25), (25, .istore_n 2, 1, 26), (26, .iload_n 2, 1, 27), (27, .iconst 3, 1, 28), (28, .if_icmp .ge 73, 3, 31), (31, .iload_n 1, 1, 32), (32, .ifCond .eq 69, 3, 35), (35, .aload_n 0, 1, 36), (36, .invokevirtual 171, 3, 39), (39, .aload_n 0, 1, 40), (40, .getfield 138, 3, 43), (43, .iconst 3, 1, 44), (44, .if_icmp .ne 15, 3, 47), (47, .aload_n 0, 1, 48), (48, .getfield 141, 3, 51), (51, .iload_n 2, 1, 52), (52, .if_icmp .ne 7, 3, 55), (55, .iconst 1, 1, 56), (56, .goto 4, 3, 59), (59, .iconst 0, 1, 60), (60, .istore_n 1, 1, 61), (61, .aload_n 0, 1, 62), (62, .getfield 32, 3, 65), (65, .iconst 4, 1, 66), (66, .aload_n 0, 1, 67), (67, .getfield 123, 3, 70), (70, .imul, 1, 71), (71, .iload_n 2, 1, 72), (72, .iadd, 1, 73), (73, .aload_n 0, 1, 74), (74, .getfield 148, 3, 77), (77, .iastore, 1, 78), (78, .iload_n 1, 1, 79), (79, .ifCond .eq 14, 3, 82), (82, .aload_n 0, 1, 83), (83, .invokevirtual 184, 3, 86), (86, .ifCond .eq 7, 3, 89), (89, .iconst 1, 1, 90), (90, .goto 4, 3, 93), (93, .iconst 0, 1, 94), (94, .istore_n 1, 1, 95), (95, .iinc 2 1, 3, 98), (98, .goto (-72), 3, 101), (101, .iload_n 1, 1, 102), (102, .ifCond .eq 20, 3, 105), (105, .aload_n 0, 1, 106), (106, .invokevirtual 171, 3, 109), (109, .aload_n 0, 1, 110), (110, .getfield 138, 3, 113), (113, .ifCond .ne 7, 3, 116), (116, .iconst 1, 1, 117), (117, .goto 4, 3, 120), (120, .iconst 0, 1, 121), (121, .istore_n 1, 1, 122), (122, .aload_n 0, 1, 123), (123, .getfield 32, 3, 126), (126, .iconst 4, 1, 127), (127, .aload_n 0, 1, 128), (128, .getfield 123, 3, 131), (131, .imul, 1, 132), (132, .iconst 3, 1, 133), (133, .iadd, 1, 134), (134, .aload_n 0, 1, 135), (135, .getfield 148, 3, 138), (138, .iastore, 1, 139), (139, .aload_n 0, 1, 140), (140, .iconst 0, 1, 141), (141, .putfield 90, 3, 144), (144, .iload_n 1, 1, 145), (145, .ifCond .ne 11, 3, 148), (148, .bipush (-100), 2, 150), (150, .aload_n 0, 1, 151), (151, .getfield 135, 3, 154), (154, .isub, 1, 155), (155, .ireturn, 1, 156), (156, .aload_n 0, 1, 157), (157, .dup, 1, 158), (158, .getfield 123, 3, 161), (161, .iconst 1, 1, 162), (162, .iadd, 1, 163), (163, .putfield 123, 3, 166), (166, .aload_n 0, 1, 167), (167, .getfield 123, 3, 170), (170, .iconst 1, 1, 171), (171, .isub, 1, 172), (172, .ireturn, 1, 173)]
def I_X9_text : MI := (prog_11_method_26_code, 3, (some .int), "OpensAtNineModel", "text", T_X9_text, 0, 0, 5, 147)
theorem dT_X9_text : ∀ q ∈ T_X9_text, decode prog_11_method_26_code q.1 = .ok (q.2.1, q.2.2.1) ∧ q.2.2.2 = q.1 + q.2.2.1 := by decide +kernel
theorem xm_X9_text : xCM y_X9_text I_X9_text 9 0 := ⟨⟨tw967, tw968⟩, tw84, tw969, ⟨xT9, 49, rfl⟩, ⟨by decide +kernel, by decide +kernel, by decide +kernel⟩⟩
noncomputable def f_X9_text_94 (k_26 : XM → Option Nat → Int32 → Int32 → Option (Int32 × XM)) (h : XM) (l0 : Option Nat) (l2 : Int32) (s0 : Int32) : Option (Int32 × XM) := bnd (l2 + (1 : Int32)) fun v1 => k_26 h l0 s0 v1
noncomputable def f_X9_text_93 (k_26 : XM → Option Nat → Int32 → Int32 → Option (Int32 × XM)) (h : XM) (l0 : Option Nat) (l2 : Int32) : Option (Int32 × XM) := f_X9_text_94 k_26 h l0 l2 ((0 : Int32))
noncomputable def f_X9_text_60 (k_26 : XM → Option Nat → Int32 → Int32 → Option (Int32 × XM)) (h : XM) (l0 : Option Nat) (l2 : Int32) (s0 : Int32) : Option (Int32 × XM) := (gR h 9 l0 14).bind fun v2 => (gI h 9 l0 15).bind fun v3 => (gI h 9 l0 32).bind fun v4 => (sI h v2 ((((4 : Int32)) * v3) + l2) v4).bind fun h5 => if s0 = 0 then (f_X9_text_93 k_26 h5 l0 l2) else ((vc h5 9 l0 (f_X9_eRead h5 l0)).bind fun q6 => if q6.1 = 0 then (f_X9_text_93 k_26 q6.2 l0 l2) else (f_X9_text_94 k_26 q6.2 l0 l2 ((1 : Int32))))
noncomputable def f_X9_text_59 (k_26 : XM → Option Nat → Int32 → Int32 → Option (Int32 × XM)) (h : XM) (l0 : Option Nat) (l2 : Int32) : Option (Int32 × XM) := f_X9_text_60 k_26 h l0 l2 ((0 : Int32))
noncomputable def f_X9_text_122 (h : XM) (l0 : Option Nat) (l1 : Int32) : Option (Int32 × XM) := (gR h 9 l0 14).bind fun v7 => (gI h 9 l0 15).bind fun v8 => (gI h 9 l0 32).bind fun v9 => (sI h v7 ((((4 : Int32)) * v8) + ((3 : Int32))) v9).bind fun h10 => (pI h10 9 l0 12 ((0 : Int32))).bind fun h11 => if l1 = 0 then ((gI h11 9 l0 25).bind fun v12 => some (((-100 : Int32)) - v12, h11)) else ((gI h11 9 l0 15).bind fun v13 => (pI h11 9 l0 15 (v13 + ((1 : Int32)))).bind fun h14 => (gI h14 9 l0 15).bind fun v15 => some (v15 - ((1 : Int32)), h14))
noncomputable def f_X9_text_121 (h : XM) (l0 : Option Nat) (s0 : Int32) : Option (Int32 × XM) := f_X9_text_122 h l0 s0
noncomputable def f_X9_text_101 (h : XM) (l0 : Option Nat) (l1 : Int32) : Option (Int32 × XM) := if l1 = 0 then (f_X9_text_122 h l0 l1) else ((vc h 9 l0 (f_X9_next h l0)).bind fun q16 => (gI q16 9 l0 26).bind fun v17 => if v17 = 0 then (f_X9_text_121 q16 l0 ((1 : Int32))) else (f_X9_text_121 q16 l0 ((0 : Int32))))
noncomputable def fb_X9_text_26 (k_26 : XM → Option Nat → Int32 → Int32 → Option (Int32 × XM)) (h : XM) (l0 : Option Nat) (l1 : Int32) (l2 : Int32) : Option (Int32 × XM) := if l2 < ((3 : Int32)) then (if l1 = 0 then (f_X9_text_101 h l0 l1) else ((vc h 9 l0 (f_X9_next h l0)).bind fun q18 => (gI q18 9 l0 26).bind fun v19 => if v19 = ((3 : Int32)) then ((gI q18 9 l0 27).bind fun v20 => if v20 = l2 then (f_X9_text_60 k_26 q18 l0 l2 ((1 : Int32))) else (f_X9_text_59 k_26 q18 l0 l2)) else (f_X9_text_59 k_26 q18 l0 l2))) else (f_X9_text_101 h l0 l1)
noncomputable def f_X9_text_26 (n : Nat) : XM → Option Nat → Int32 → Int32 → Option (Int32 × XM) := Nat.rec (motive := fun _ => XM → Option Nat → Int32 → Int32 → Option (Int32 × XM)) (fun _ _ _ _ => none) (fun _ ih h l0 l1 l2 => fb_X9_text_26 ih h l0 l1 l2) n
noncomputable def f_X9_text (h : XM) (a0 : Option Nat) : Option (Int32 × XM) := (gI h 9 a0 15).bind fun v21 => if v21 = ((6 : Int32)) then (some ((-4 : Int32), h)) else ((pI h 9 a0 24 ((0 : Int32))).bind fun h22 => (pI h22 9 a0 32 ((0 : Int32))).bind fun h23 => f_X9_text_26 FU h23 a0 ((1 : Int32)) ((0 : Int32)))
theorem b_X9_text_94 (X : XX) (k_26 : XM → Option Nat → Int32 → Int32 → Option (Int32 × XM)) (hk_26 : ∀ h l0 l1 l2, SW X I_X9_text ρi 26 [(0, tA l0), (1, tI l1), (2, tI l2)] [] h 0 0 (k_26 h l0 l1 l2)) (h : XM) (l0 : Option Nat) (l2 : Int32) (s0 : Int32) : SW X I_X9_text ρi 94 [(0, tA l0), (2, tI l2)] [tI s0] h 0 0 (f_X9_text_94 k_26 h l0 l2 s0) := by
  unfold f_X9_text_94
  refine s_istore_n (i := 54) rfl (Nat.le_of_ble_eq_true rfl) (ls2 := [(1, tI s0), (0, tA l0), (2, tI l2)]) rfl ?_
  refine s_inc (i := 55) rfl 2 rfl (c9 := (1 : Int32)) (by decide) (Nat.le_of_ble_eq_true rfl) (fun v1 => ?_)
  refine s_ls (ls2 := [(2, tI v1), (1, tI s0), (0, tA l0)]) rfl ?_
  refine s_goto (i := 56) rfl (tgt := 26) (by decide) ?_
  exact s_sub [2, 1, 0] rfl (hk_26 h l0 s0 v1)
theorem b_X9_text_93 (X : XX) (k_26 : XM → Option Nat → Int32 → Int32 → Option (Int32 × XM)) (hk_26 : ∀ h l0 l1 l2, SW X I_X9_text ρi 26 [(0, tA l0), (1, tI l1), (2, tI l2)] [] h 0 0 (k_26 h l0 l1 l2)) (h : XM) (l0 : Option Nat) (l2 : Int32) : SW X I_X9_text ρi 93 [(0, tA l0), (2, tI l2)] [] h 0 0 (f_X9_text_93 k_26 h l0 l2) := by
  unfold f_X9_text_93
  refine s_iconst (i := 53) rfl (v := (0 : Int32)) (by decide) ?_
  exact s_sub [0, 1] rfl (b_X9_text_94 X k_26 hk_26 h l0 l2 ((0 : Int32)))
theorem b_X9_text_60 (X : XX) (k_26 : XM → Option Nat → Int32 → Int32 → Option (Int32 × XM)) (hk_26 : ∀ h l0 l1 l2, SW X I_X9_text ρi 26 [(0, tA l0), (1, tI l1), (2, tI l2)] [] h 0 0 (k_26 h l0 l1 l2)) (h : XM) (l0 : Option Nat) (l2 : Int32) (s0 : Int32) : SW X I_X9_text ρi 60 [(0, tA l0), (2, tI l2)] [tI s0] h 0 0 (f_X9_text_60 k_26 h l0 l2 s0) := by
  unfold f_X9_text_60
  refine s_istore_n (i := 34) rfl (Nat.le_of_ble_eq_true rfl) (ls2 := [(1, tI s0), (0, tA l0), (2, tI l2)]) rfl ?_
  refine s_aload_n (i := 35) rfl 1 rfl ?_
  refine s_getR (i := 36) rfl xf_9_32.r rfl (fun v2 => ?_)
  refine s_iconst (i := 37) rfl (v := (4 : Int32)) (by decide) ?_
  refine s_aload_n (i := 38) rfl 1 rfl ?_
  refine s_getI (i := 39) rfl xf_9_123.r rfl (fun v3 => ?_)
  refine s_imul (i := 40) rfl ?_
  refine s_iload_n (i := 41) rfl 2 rfl ?_
  refine s_iadd (i := 42) rfl ?_
  refine s_aload_n (i := 43) rfl 1 rfl ?_
  refine s_getI (i := 44) rfl xf_9_148.r rfl (fun v4 => ?_)
  refine s_iastore (i := 45) rfl (fun h5 => ?_)
  refine s_iload_n (i := 46) rfl 0 rfl ?_
  refine s_ifeq (i := 47) rfl (tgt := 93) (by decide) (fun z79 => ?_) (fun z79 => ?_)
  · exact s_sub [1, 2] rfl (b_X9_text_93 X k_26 hk_26 h5 l0 l2)
  · refine s_aload_n (i := 48) rfl 1 rfl ?_
    refine u_callVi (kk := 9) [] l0 [] rfl (i := 49) rfl (c_X9_eRead h5 l0) xm_X9_eRead (tw981) rfl (Nat.le_of_ble_eq_true rfl) (xRm.of rfl) ⟨rfl, rfl⟩ (fun q6 => ?_)
    refine s_ifeq (i := 50) rfl (tgt := 93) (by decide) (fun z86 => ?_) (fun z86 => ?_)
    · exact s_sub [1, 2] rfl (b_X9_text_93 X k_26 hk_26 q6.2 l0 l2)
    · refine s_iconst (i := 51) rfl (v := (1 : Int32)) (by decide) ?_
      refine s_goto (i := 52) rfl (tgt := 94) (by decide) ?_
      exact s_sub [1, 2] rfl (b_X9_text_94 X k_26 hk_26 q6.2 l0 l2 ((1 : Int32)))
theorem b_X9_text_59 (X : XX) (k_26 : XM → Option Nat → Int32 → Int32 → Option (Int32 × XM)) (hk_26 : ∀ h l0 l1 l2, SW X I_X9_text ρi 26 [(0, tA l0), (1, tI l1), (2, tI l2)] [] h 0 0 (k_26 h l0 l1 l2)) (h : XM) (l0 : Option Nat) (l2 : Int32) : SW X I_X9_text ρi 59 [(0, tA l0), (2, tI l2)] [] h 0 0 (f_X9_text_59 k_26 h l0 l2) := by
  unfold f_X9_text_59
  refine s_iconst (i := 33) rfl (v := (0 : Int32)) (by decide) ?_
  exact s_sub [0, 1] rfl (b_X9_text_60 X k_26 hk_26 h l0 l2 ((0 : Int32)))
theorem b_X9_text_122 (X : XX) (h : XM) (l0 : Option Nat) (l1 : Int32) : SW X I_X9_text ρi 122 [(0, tA l0), (1, tI l1)] [] h 0 0 (f_X9_text_122 h l0 l1) := by
  unfold f_X9_text_122
  refine s_aload_n (i := 68) rfl 0 rfl ?_
  refine s_getR (i := 69) rfl xf_9_32.r rfl (fun v7 => ?_)
  refine s_iconst (i := 70) rfl (v := (4 : Int32)) (by decide) ?_
  refine s_aload_n (i := 71) rfl 0 rfl ?_
  refine s_getI (i := 72) rfl xf_9_123.r rfl (fun v8 => ?_)
  refine s_imul (i := 73) rfl ?_
  refine s_iconst (i := 74) rfl (v := (3 : Int32)) (by decide) ?_
  refine s_iadd (i := 75) rfl ?_
  refine s_aload_n (i := 76) rfl 0 rfl ?_
  refine s_getI (i := 77) rfl xf_9_148.r rfl (fun v9 => ?_)
  refine s_iastore (i := 78) rfl (fun h10 => ?_)
  refine s_aload_n (i := 79) rfl 0 rfl ?_
  refine s_iconst (i := 80) rfl (v := (0 : Int32)) (by decide) ?_
  refine s_putI (i := 81) rfl xf_9_90 (fun q => by cases q) rfl rfl (fun h11 => ?_)
  refine s_iload_n (i := 82) rfl 1 rfl ?_
  refine s_ifne (i := 83) rfl (tgt := 156) (by decide) (fun z145 => ?_) (fun z145 => ?_)
  · refine s_bipush (i := 84) rfl (v := (-100 : Int32)) (by decide) ?_
    refine s_aload_n (i := 85) rfl 0 rfl ?_
    refine s_getI (i := 86) rfl xf_9_135.r rfl (fun v12 => ?_)
    refine s_isub (i := 87) rfl ?_
    exact s_iret (i := 88) rfl rfl
  · refine s_aload_n (i := 89) rfl 0 rfl ?_
    refine s_dup (i := 90) rfl rfl ?_
    refine s_getI (i := 91) rfl xf_9_123.r rfl (fun v13 => ?_)
    refine s_iconst (i := 92) rfl (v := (1 : Int32)) (by decide) ?_
    refine s_iadd (i := 93) rfl ?_
    refine s_putI (i := 94) rfl xf_9_123 (fun q => by cases q) rfl rfl (fun h14 => ?_)
    refine s_aload_n (i := 95) rfl 0 rfl ?_
    refine s_getI (i := 96) rfl xf_9_123.r rfl (fun v15 => ?_)
    refine s_iconst (i := 97) rfl (v := (1 : Int32)) (by decide) ?_
    refine s_isub (i := 98) rfl ?_
    exact s_iret (i := 99) rfl rfl
theorem b_X9_text_121 (X : XX) (h : XM) (l0 : Option Nat) (s0 : Int32) : SW X I_X9_text ρi 121 [(0, tA l0)] [tI s0] h 0 0 (f_X9_text_121 h l0 s0) := by
  unfold f_X9_text_121
  refine s_istore_n (i := 67) rfl (Nat.le_of_ble_eq_true rfl) (ls2 := [(1, tI s0), (0, tA l0)]) rfl ?_
  exact s_sub [1, 0] rfl (b_X9_text_122 X h l0 s0)
theorem b_X9_text_101 (X : XX) (h : XM) (l0 : Option Nat) (l1 : Int32) : SW X I_X9_text ρi 101 [(0, tA l0), (1, tI l1)] [] h 0 0 (f_X9_text_101 h l0 l1) := by
  unfold f_X9_text_101
  refine s_iload_n (i := 57) rfl 1 rfl ?_
  refine s_ifeq (i := 58) rfl (tgt := 122) (by decide) (fun z102 => ?_) (fun z102 => ?_)
  · exact s_sub [0, 1] rfl (b_X9_text_122 X h l0 l1)
  · refine s_aload_n (i := 59) rfl 0 rfl ?_
    refine u_callVv (kk := 9) [] l0 [] rfl (i := 60) rfl (c_X9_next h l0) xm_X9_next (tw970) rfl (Nat.le_of_ble_eq_true rfl) (xRm.of rfl) ⟨rfl, rfl⟩ (fun q16 => ?_)
    refine s_aload_n (i := 61) rfl 0 rfl ?_
    refine s_getI (i := 62) rfl xf_9_138.r rfl (fun v17 => ?_)
    refine s_ifne (i := 63) rfl (tgt := 120) (by decide) (fun z113 => ?_) (fun z113 => ?_)
    · refine s_iconst (i := 64) rfl (v := (1 : Int32)) (by decide) ?_
      refine s_goto (i := 65) rfl (tgt := 121) (by decide) ?_
      exact s_sub [0] rfl (b_X9_text_121 X q16 l0 ((1 : Int32)))
    · refine s_iconst (i := 66) rfl (v := (0 : Int32)) (by decide) ?_
      exact s_sub [0] rfl (b_X9_text_121 X q16 l0 ((0 : Int32)))
theorem bb_X9_text_26 (X : XX) (k_26 : XM → Option Nat → Int32 → Int32 → Option (Int32 × XM)) (hk_26 : ∀ h l0 l1 l2, SW X I_X9_text ρi 26 [(0, tA l0), (1, tI l1), (2, tI l2)] [] h 0 0 (k_26 h l0 l1 l2)) (h : XM) (l0 : Option Nat) (l1 : Int32) (l2 : Int32) : SW X I_X9_text ρi 26 [(0, tA l0), (1, tI l1), (2, tI l2)] [] h 0 0 (fb_X9_text_26 k_26 h l0 l1 l2) := by
  unfold fb_X9_text_26
  refine s_iload_n (i := 16) rfl 2 rfl ?_
  refine s_iconst (i := 17) rfl (v := (3 : Int32)) (by decide) ?_
  refine s_icmpge (i := 18) rfl (tgt := 101) (by decide) (fun z28 => ?_) (fun z28 => ?_)
  · refine s_iload_n (i := 19) rfl 1 rfl ?_
    refine s_ifeq (i := 20) rfl (tgt := 101) (by decide) (fun z32 => ?_) (fun z32 => ?_)
    · exact s_sub [0, 1] rfl (b_X9_text_101 X h l0 l1)
    · refine s_aload_n (i := 21) rfl 0 rfl ?_
      refine u_callVv (kk := 9) [] l0 [] rfl (i := 22) rfl (c_X9_next h l0) xm_X9_next (tw970) rfl (Nat.le_of_ble_eq_true rfl) (xRm.of rfl) ⟨rfl, rfl⟩ (fun q18 => ?_)
      refine s_aload_n (i := 23) rfl 0 rfl ?_
      refine s_getI (i := 24) rfl xf_9_138.r rfl (fun v19 => ?_)
      refine s_iconst (i := 25) rfl (v := (3 : Int32)) (by decide) ?_
      refine s_icmpne (i := 26) rfl (tgt := 59) (by decide) (fun z44 => ?_) (fun z44 => ?_)
      · refine s_aload_n (i := 27) rfl 0 rfl ?_
        refine s_getI (i := 28) rfl xf_9_141.r rfl (fun v20 => ?_)
        refine s_iload_n (i := 29) rfl 2 rfl ?_
        refine s_icmpne (i := 30) rfl (tgt := 59) (by decide) (fun z52 => ?_) (fun z52 => ?_)
        · refine s_iconst (i := 31) rfl (v := (1 : Int32)) (by decide) ?_
          refine s_goto (i := 32) rfl (tgt := 60) (by decide) ?_
          exact s_sub [0, 2] rfl (b_X9_text_60 X k_26 hk_26 q18 l0 l2 ((1 : Int32)))
        · exact s_sub [0, 2] rfl (b_X9_text_59 X k_26 hk_26 q18 l0 l2)
      · exact s_sub [0, 2] rfl (b_X9_text_59 X k_26 hk_26 q18 l0 l2)
  · exact s_sub [0, 1] rfl (b_X9_text_101 X h l0 l1)
theorem b_X9_text_26 (X : XX) : ∀ (n : Nat) (h : XM) (l0 : Option Nat) (l1 : Int32) (l2 : Int32), SW X I_X9_text ρi 26 [(0, tA l0), (1, tI l1), (2, tI l2)] [] h 0 0 (f_X9_text_26 n h l0 l1 l2) := by
  intro n
  induction n with
  | zero =>
    intro h l0 l1 l2
    exact s_none
  | succ n ih =>
    intro h l0 l1 l2
    exact bb_X9_text_26 X (f_X9_text_26 n) ih h l0 l1 l2
theorem c_X9_text (h : XM) (a0 : Option Nat) : MC I_X9_text y_X9_text [tA a0] h ρi (f_X9_text h a0) := by
  refine MC_of ⟨by decide +kernel, rfl, rfl, Nat.le_of_ble_eq_true rfl⟩ dT_X9_text (fun X => ?_)
  show SW X I_X9_text ρi 0 [(0, tA a0)] [] h 0 0 (f_X9_text h a0)
  unfold f_X9_text
  refine s_aload_n (i := 0) rfl 0 rfl ?_
  refine s_getI (i := 1) rfl xf_9_123.r rfl (fun v21 => ?_)
  refine s_bipush (i := 2) rfl (v := (6 : Int32)) (by decide) ?_
  refine s_icmpne (i := 3) rfl (tgt := 12) (by decide) (fun z6 => ?_) (fun z6 => ?_)
  · refine s_bipush (i := 4) rfl (v := (-4 : Int32)) (by decide) ?_
    exact s_iret (i := 5) rfl rfl
  · refine s_aload_n (i := 6) rfl 0 rfl ?_
    refine s_iconst (i := 7) rfl (v := (0 : Int32)) (by decide) ?_
    refine s_putI (i := 8) rfl xf_9_132 (fun q => by cases q) rfl rfl (fun h22 => ?_)
    refine s_aload_n (i := 9) rfl 0 rfl ?_
    refine s_iconst (i := 10) rfl (v := (0 : Int32)) (by decide) ?_
    refine s_putI (i := 11) rfl xf_9_148 (fun q => by cases q) rfl rfl (fun h23 => ?_)
    refine s_iconst (i := 12) rfl (v := (1 : Int32)) (by decide) ?_
    refine s_istore_n (i := 13) rfl (Nat.le_of_ble_eq_true rfl) (ls2 := [(1, tI ((1 : Int32))), (0, tA a0)]) rfl ?_
    refine s_iconst (i := 14) rfl (v := (0 : Int32)) (by decide) ?_
    refine s_istore_n (i := 15) rfl (Nat.le_of_ble_eq_true rfl) (ls2 := [(2, tI ((0 : Int32))), (1, tI ((1 : Int32))), (0, tA a0)]) rfl ?_
    exact s_sub [2, 1, 0] rfl (b_X9_text_26 X FU h23 a0 ((1 : Int32)) ((0 : Int32)))
