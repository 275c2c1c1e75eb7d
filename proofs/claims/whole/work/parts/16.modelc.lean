/-! 16.model: the methods as functions, and that the bytecode does so (written by wip/whole/gen/gen_parts.py) -/
def y_X9_isByte : MethodName := ⟨"OpensAtNineModel", "isByte", "(I)Z"⟩
def T_X9_isByte : List (Nat × Instr × Nat × Nat) := [(0, .iload_n 0, 1, 1), (1, .iconst 0, 1, 2), (2, .sipush 255, 3, 5), (5, .invokestatic 100, 3, 8), (8, .ireturn, 1, 9)]
def I_X9_isByte : MI := (prog_11_method_14_code, 1, (some .boolean), "OpensAtNineModel", "isByte", T_X9_isByte, 0, 0, 2, 82)
theorem dT_X9_isByte : ∀ q ∈ T_X9_isByte, decode prog_11_method_14_code q.1 = .ok (q.2.1, q.2.2.1) ∧ q.2.2.2 = q.1 + q.2.2.1 := by decide +kernel
theorem xm_X9_isByte : xCS y_X9_isByte I_X9_isByte 1 := ⟨tw1187, tw84, tw1188, ⟨by decide +kernel, by decide +kernel, by decide +kernel⟩⟩
noncomputable def f_X9_isByte (h : XM) (a0 : Int32) : Option (Int32 × XM) := (f_X9_in h a0 ((0 : Int32)) ((255 : Int32))).bind fun q1 => rz q1.2 q1.1
theorem c_X9_isByte (h : XM) (a0 : Int32) : MC I_X9_isByte y_X9_isByte [tI a0] h ρi (f_X9_isByte h a0) := by
  refine MC_of ⟨by decide +kernel, rfl, rfl, Nat.le_of_ble_eq_true rfl⟩ dT_X9_isByte (fun X => ?_)
  show SW X I_X9_isByte ρi 0 [(0, tI a0)] [] h 0 0 (f_X9_isByte h a0)
  unfold f_X9_isByte
  refine s_iload_n (i := 0) rfl 0 rfl ?_
  refine s_iconst (i := 1) rfl (v := (0 : Int32)) (by decide) ?_
  refine s_sipush (i := 2) rfl (v := (255 : Int32)) (by decide) ?_
  refine u_callSi [tI a0, tI ((0 : Int32)), tI ((255 : Int32))] [] rfl (i := 3) rfl (c_X9_in h a0 ((0 : Int32)) ((255 : Int32))) xm_X9_in (tw974) rfl (Nat.le_of_ble_eq_true rfl) (xRm.of rfl) ⟨rfl, rfl⟩ (fun q1 => ?_)
  exact s_zret (i := 4) rfl rfl
def y_X9_feed : MethodName := ⟨"OpensAtNineModel", "feed", "(IIIIII)I"⟩
def T_X9_feed : List (Nat × Instr × Nat × Nat) := [(0, .iload_n 1, 1, 1), (1, .iconst 1, 1, 2), (2, .iconst 5, 1, 3), (3, .invokestatic 100, 3, 6), (6, .ifCond .eq 41, 3, 9), (9, .iload_n 2, 1, 10), (10, .invokestatic 129, 3, 13), (13, .ifCond .eq 34, 3, 16), (16, .iload_n 3, 1, 17), (17, .invokestatic 129, 3, 20), (20, .ifCond .eq 27, 3, 23), (23, .iload 4, 2, 25), (25, .invokestatic 129, 3, 28), (28, .ifCond .eq 19, 3, 31), (31, .iload 5, 2, 33), (33, .invokestatic 129, 3, 36), (36, .ifCond .eq 11, 3, 39), (39, .iload 6, 2, 41), (41, .invokestatic 129, 3, 44), (44, .ifCond .ne 6, 3, 47), (47, .bipush (-2), 2, 49), (49, .ireturn, 1, 50), (50, .aload_n 0, 1, 51), (51, .getfield 90, 3, 54), (54, .iload_n 1, 1, 55), (55, .iadd, 1, 56), (56, .sipush 160, 3, 59), (59, .if_icmp .le 6, 3, 62), (62, .bipush (-4), 2, 64), (64, .ireturn, 1, 65), (65, .iconst 0, 1, 66), (66, .istore 7, 2, 68), (68, .iload 7, 2, 70), (70, .iload_n 1, 1, 71), (71, .if_icmp .ge 71, 3, 74), (74, .aload_n 0, 1, 75), (75, .getfield 26, 3, 78), (78, .aload_n 0, 1, 79), (79, .getfield 90, 3, 82), (82, .iload 7, 2, 84), (84, .ifCond .ne 7, 3, 87), (87, .iload_n 2, 1, 88), (88, .goto 37, 3, 91), (91, .iload 7, 2, 93), (93, .iconst 1, 1, 94), (94, .if_icmp .ne 7, 3, 97), (97, .iload_n 3, 1, 98), (98, .goto 27, 3, 101), (101, .iload 7, 2, 103), (103, .iconst 2, 1, 104), (104, .if_icmp .ne 8, 3, 107), (107, .iload 4, 2, 109), (109, .goto 16, 3, 112), (112, .iload 7, 2, 114), (114, .iconst 3, 1, 115), (115, .if_icmp .ne 8, 3, 118), (118, .iload 5, 2, 120), (120, .goto 5, 3, 123), (123, .iload 6, 2, 125), (125, .iastore, 1, 126), (126, .aload_n 0, 1, 127), (127, .dup, 1, 128), (128, .getfield 90, 3, 131), (131, .iconst 1, 1, 132), (132, .iadd, 1, 133), (133, .putfield 90, 3, 136), (136, .iinc 7 1, 3, 139), (139, .goto (-71), 3, 142), (142, .aload_n 0, 1, 143), (143, .getfield 90, 3, 146), (146, .ireturn, 1, 147)]
def I_X9_feed : MI := (prog_11_method_15_code, 8, (some .int), "OpensAtNineModel", "feed", T_X9_feed, 0, 0, 3, 102)
theorem dT_X9_feed : ∀ q ∈ T_X9_feed, decode prog_11_method_15_code q.1 = .ok (q.2.1, q.2.2.1) ∧ q.2.2.2 = q.1 + q.2.2.1 := by decide +kernel
theorem xm_X9_feed : xCM y_X9_feed I_X9_feed 9 6 := ⟨⟨tw1183, tw1184⟩, tw84, tw1185, ⟨xT9, 49, rfl⟩, ⟨by decide +kernel, by decide +kernel, by decide +kernel⟩⟩
noncomputable def f_X9_feed_47 (h : XM) : Option (Int32 × XM) := some ((-2 : Int32), h)
noncomputable def f_X9_feed_125 (k_68 : XM → Option Nat → Int32 → Int32 → Int32 → Int32 → Int32 → Int32 → Int32 → Option (Int32 × XM)) (h : XM) (l0 : Option Nat) (l1 : Int32) (l2 : Int32) (l3 : Int32) (l4 : Int32) (l5 : Int32) (l6 : Int32) (l7 : Int32) (s0 : Int32) (s1 : Int32) (s2 : Option Nat) : Option (Int32 × XM) := (sI h s2 s1 s0).bind fun h1 => (gI h1 9 l0 12).bind fun v2 => (pI h1 9 l0 12 (v2 + ((1 : Int32)))).bind fun h3 => bnd (l7 + (1 : Int32)) fun v4 => k_68 h3 l0 l1 l2 l3 l4 l5 l6 v4
noncomputable def fb_X9_feed_68 (k_68 : XM → Option Nat → Int32 → Int32 → Int32 → Int32 → Int32 → Int32 → Int32 → Option (Int32 × XM)) (h : XM) (l0 : Option Nat) (l1 : Int32) (l2 : Int32) (l3 : Int32) (l4 : Int32) (l5 : Int32) (l6 : Int32) (l7 : Int32) : Option (Int32 × XM) := if l7 < l1 then ((gR h 9 l0 11).bind fun v5 => (gI h 9 l0 12).bind fun v6 => if l7 = 0 then (f_X9_feed_125 k_68 h l0 l1 l2 l3 l4 l5 l6 l7 l2 v6 v5) else (if l7 = ((1 : Int32)) then (f_X9_feed_125 k_68 h l0 l1 l2 l3 l4 l5 l6 l7 l3 v6 v5) else (if l7 = ((2 : Int32)) then (f_X9_feed_125 k_68 h l0 l1 l2 l3 l4 l5 l6 l7 l4 v6 v5) else (if l7 = ((3 : Int32)) then (f_X9_feed_125 k_68 h l0 l1 l2 l3 l4 l5 l6 l7 l5 v6 v5) else (f_X9_feed_125 k_68 h l0 l1 l2 l3 l4 l5 l6 l7 l6 v6 v5))))) else ((gI h 9 l0 12).bind fun v7 => some (v7, h))
noncomputable def f_X9_feed_68 (n : Nat) : XM → Option Nat → Int32 → Int32 → Int32 → Int32 → Int32 → Int32 → Int32 → Option (Int32 × XM) := Nat.rec (motive := fun _ => XM → Option Nat → Int32 → Int32 → Int32 → Int32 → Int32 → Int32 → Int32 → Option (Int32 × XM)) (fun _ _ _ _ _ _ _ _ _ => none) (fun _ ih h l0 l1 l2 l3 l4 l5 l6 l7 => fb_X9_feed_68 ih h l0 l1 l2 l3 l4 l5 l6 l7) n
noncomputable def f_X9_feed (h : XM) (a0 : Option Nat) (a1 : Int32) (a2 : Int32) (a3 : Int32) (a4 : Int32) (a5 : Int32) (a6 : Int32) : Option (Int32 × XM) := (f_X9_in h a1 ((1 : Int32)) ((5 : Int32))).bind fun q8 => if q8.1 = 0 then (f_X9_feed_47 q8.2) else ((f_X9_isByte q8.2 a2).bind fun q9 => if q9.1 = 0 then (f_X9_feed_47 q9.2) else ((f_X9_isByte q9.2 a3).bind fun q10 => if q10.1 = 0 then (f_X9_feed_47 q10.2) else ((f_X9_isByte q10.2 a4).bind fun q11 => if q11.1 = 0 then (f_X9_feed_47 q11.2) else ((f_X9_isByte q11.2 a5).bind fun q12 => if q12.1 = 0 then (f_X9_feed_47 q12.2) else ((f_X9_isByte q12.2 a6).bind fun q13 => if q13.1 = 0 then (f_X9_feed_47 q13.2) else ((gI q13.2 9 a0 12).bind fun v14 => if ((160 : Int32)) < (v14 + a1) then (some ((-4 : Int32), q13.2)) else (f_X9_feed_68 FU q13.2 a0 a1 a2 a3 a4 a5 a6 ((0 : Int32)))))))))
theorem b_X9_feed_47 (X : XX) (h : XM) : SW X I_X9_feed ρi 47 [] [] h 0 0 (f_X9_feed_47 h) := by
  unfold f_X9_feed_47
  refine s_bipush (i := 20) rfl (v := (-2 : Int32)) (by decide) ?_
  exact s_iret (i := 21) rfl rfl
theorem b_X9_feed_125 (X : XX) (k_68 : XM → Option Nat → Int32 → Int32 → Int32 → Int32 → Int32 → Int32 → Int32 → Option (Int32 × XM)) (hk_68 : ∀ h l0 l1 l2 l3 l4 l5 l6 l7, SW X I_X9_feed ρi 68 [(0, tA l0), (1, tI l1), (2, tI l2), (3, tI l3), (4, tI l4), (5, tI l5), (6, tI l6), (7, tI l7)] [] h 0 0 (k_68 h l0 l1 l2 l3 l4 l5 l6 l7)) (h : XM) (l0 : Option Nat) (l1 : Int32) (l2 : Int32) (l3 : Int32) (l4 : Int32) (l5 : Int32) (l6 : Int32) (l7 : Int32) (s0 : Int32) (s1 : Int32) (s2 : Option Nat) : SW X I_X9_feed ρi 125 [(0, tA l0), (1, tI l1), (2, tI l2), (3, tI l3), (4, tI l4), (5, tI l5), (6, tI l6), (7, tI l7)] [tI s0, tI s1, tA s2] h 0 0 (f_X9_feed_125 k_68 h l0 l1 l2 l3 l4 l5 l6 l7 s0 s1 s2) := by
  unfold f_X9_feed_125
  refine s_iastore (i := 59) rfl (fun h1 => ?_)
  refine s_aload_n (i := 60) rfl 0 rfl ?_
  refine s_dup (i := 61) rfl rfl ?_
  refine s_getI (i := 62) rfl xf_9_90.r rfl (fun v2 => ?_)
  refine s_iconst (i := 63) rfl (v := (1 : Int32)) (by decide) ?_
  refine s_iadd (i := 64) rfl ?_
  refine s_putI (i := 65) rfl xf_9_90 (fun q => by cases q) rfl rfl (fun h3 => ?_)
  refine s_inc (i := 66) rfl 7 rfl (c9 := (1 : Int32)) (by decide) (Nat.le_of_ble_eq_true rfl) (fun v4 => ?_)
  refine s_ls (ls2 := [(7, tI v4), (0, tA l0), (1, tI l1), (2, tI l2), (3, tI l3), (4, tI l4), (5, tI l5), (6, tI l6)]) rfl ?_
  refine s_goto (i := 67) rfl (tgt := 68) (by decide) ?_
  exact s_sub [1, 2, 3, 4, 5, 6, 7, 0] rfl (hk_68 h3 l0 l1 l2 l3 l4 l5 l6 v4)
theorem bb_X9_feed_68 (X : XX) (k_68 : XM → Option Nat → Int32 → Int32 → Int32 → Int32 → Int32 → Int32 → Int32 → Option (Int32 × XM)) (hk_68 : ∀ h l0 l1 l2 l3 l4 l5 l6 l7, SW X I_X9_feed ρi 68 [(0, tA l0), (1, tI l1), (2, tI l2), (3, tI l3), (4, tI l4), (5, tI l5), (6, tI l6), (7, tI l7)] [] h 0 0 (k_68 h l0 l1 l2 l3 l4 l5 l6 l7)) (h : XM) (l0 : Option Nat) (l1 : Int32) (l2 : Int32) (l3 : Int32) (l4 : Int32) (l5 : Int32) (l6 : Int32) (l7 : Int32) : SW X I_X9_feed ρi 68 [(0, tA l0), (1, tI l1), (2, tI l2), (3, tI l3), (4, tI l4), (5, tI l5), (6, tI l6), (7, tI l7)] [] h 0 0 (fb_X9_feed_68 k_68 h l0 l1 l2 l3 l4 l5 l6 l7) := by
  unfold fb_X9_feed_68
  refine s_iload (i := 32) rfl 7 rfl ?_
  refine s_iload_n (i := 33) rfl 1 rfl ?_
  refine s_icmpge (i := 34) rfl (tgt := 142) (by decide) (fun z71 => ?_) (fun z71 => ?_)
  · refine s_aload_n (i := 35) rfl 0 rfl ?_
    refine s_getR (i := 36) rfl xf_9_26.r rfl (fun v5 => ?_)
    refine s_aload_n (i := 37) rfl 0 rfl ?_
    refine s_getI (i := 38) rfl xf_9_90.r rfl (fun v6 => ?_)
    refine s_iload (i := 39) rfl 7 rfl ?_
    refine s_ifne (i := 40) rfl (tgt := 91) (by decide) (fun z84 => ?_) (fun z84 => ?_)
    · refine s_iload_n (i := 41) rfl 2 rfl ?_
      refine s_goto (i := 42) rfl (tgt := 125) (by decide) ?_
      exact s_sub [0, 1, 2, 3, 4, 5, 6, 7] rfl (b_X9_feed_125 X k_68 hk_68 h l0 l1 l2 l3 l4 l5 l6 l7 l2 v6 v5)
    · refine s_iload (i := 43) rfl 7 rfl ?_
      refine s_iconst (i := 44) rfl (v := (1 : Int32)) (by decide) ?_
      refine s_icmpne (i := 45) rfl (tgt := 101) (by decide) (fun z94 => ?_) (fun z94 => ?_)
      · refine s_iload_n (i := 46) rfl 3 rfl ?_
        refine s_goto (i := 47) rfl (tgt := 125) (by decide) ?_
        exact s_sub [0, 1, 2, 3, 4, 5, 6, 7] rfl (b_X9_feed_125 X k_68 hk_68 h l0 l1 l2 l3 l4 l5 l6 l7 l3 v6 v5)
      · refine s_iload (i := 48) rfl 7 rfl ?_
        refine s_iconst (i := 49) rfl (v := (2 : Int32)) (by decide) ?_
        refine s_icmpne (i := 50) rfl (tgt := 112) (by decide) (fun z104 => ?_) (fun z104 => ?_)
        · refine s_iload (i := 51) rfl 4 rfl ?_
          refine s_goto (i := 52) rfl (tgt := 125) (by decide) ?_
          exact s_sub [0, 1, 2, 3, 4, 5, 6, 7] rfl (b_X9_feed_125 X k_68 hk_68 h l0 l1 l2 l3 l4 l5 l6 l7 l4 v6 v5)
        · refine s_iload (i := 53) rfl 7 rfl ?_
          refine s_iconst (i := 54) rfl (v := (3 : Int32)) (by decide) ?_
          refine s_icmpne (i := 55) rfl (tgt := 123) (by decide) (fun z115 => ?_) (fun z115 => ?_)
          · refine s_iload (i := 56) rfl 5 rfl ?_
            refine s_goto (i := 57) rfl (tgt := 125) (by decide) ?_
            exact s_sub [0, 1, 2, 3, 4, 5, 6, 7] rfl (b_X9_feed_125 X k_68 hk_68 h l0 l1 l2 l3 l4 l5 l6 l7 l5 v6 v5)
          · refine s_iload (i := 58) rfl 6 rfl ?_
            exact s_sub [0, 1, 2, 3, 4, 5, 6, 7] rfl (b_X9_feed_125 X k_68 hk_68 h l0 l1 l2 l3 l4 l5 l6 l7 l6 v6 v5)
  · refine s_aload_n (i := 68) rfl 0 rfl ?_
    refine s_getI (i := 69) rfl xf_9_90.r rfl (fun v7 => ?_)
    exact s_iret (i := 70) rfl rfl
theorem b_X9_feed_68 (X : XX) : ∀ (n : Nat) (h : XM) (l0 : Option Nat) (l1 : Int32) (l2 : Int32) (l3 : Int32) (l4 : Int32) (l5 : Int32) (l6 : Int32) (l7 : Int32), SW X I_X9_feed ρi 68 [(0, tA l0), (1, tI l1), (2, tI l2), (3, tI l3), (4, tI l4), (5, tI l5), (6, tI l6), (7, tI l7)] [] h 0 0 (f_X9_feed_68 n h l0 l1 l2 l3 l4 l5 l6 l7) := by
  intro n
  induction n with
  | zero =>
    intro h l0 l1 l2 l3 l4 l5 l6 l7
    exact s_none
  | succ n ih =>
    intro h l0 l1 l2 l3 l4 l5 l6 l7
    exact bb_X9_feed_68 X (f_X9_feed_68 n) ih h l0 l1 l2 l3 l4 l5 l6 l7
theorem c_X9_feed (h : XM) (a0 : Option Nat) (a1 : Int32) (a2 : Int32) (a3 : Int32) (a4 : Int32) (a5 : Int32) (a6 : Int32) : MC I_X9_feed y_X9_feed [tA a0, tI a1, tI a2, tI a3, tI a4, tI a5, tI a6] h ρi (f_X9_feed h a0 a1 a2 a3 a4 a5 a6) := by
  refine MC_of ⟨by decide +kernel, rfl, rfl, Nat.le_of_ble_eq_true rfl⟩ dT_X9_feed (fun X => ?_)
  show SW X I_X9_feed ρi 0 [(0, tA a0), (1, tI a1), (2, tI a2), (3, tI a3), (4, tI a4), (5, tI a5), (6, tI a6)] [] h 0 0 (f_X9_feed h a0 a1 a2 a3 a4 a5 a6)
  unfold f_X9_feed
  refine s_iload_n (i := 0) rfl 1 rfl ?_
  refine s_iconst (i := 1) rfl (v := (1 : Int32)) (by decide) ?_
  refine s_iconst (i := 2) rfl (v := (5 : Int32)) (by decide) ?_
  refine u_callSi [tI a1, tI ((1 : Int32)), tI ((5 : Int32))] [] rfl (i := 3) rfl (c_X9_in h a1 ((1 : Int32)) ((5 : Int32))) xm_X9_in (tw974) rfl (Nat.le_of_ble_eq_true rfl) (xRm.of rfl) ⟨rfl, rfl⟩ (fun q8 => ?_)
  refine s_ifeq (i := 4) rfl (tgt := 47) (by decide) (fun z6 => ?_) (fun z6 => ?_)
  · exact s_sub [] rfl (b_X9_feed_47 X q8.2)
  · refine s_iload_n (i := 5) rfl 2 rfl ?_
    refine u_callSi [tI a2] [] rfl (i := 6) rfl (c_X9_isByte q8.2 a2) xm_X9_isByte (tw1186) rfl (Nat.le_of_ble_eq_true rfl) (xRm.of rfl) ⟨rfl, rfl⟩ (fun q9 => ?_)
    refine s_ifeq (i := 7) rfl (tgt := 47) (by decide) (fun z13 => ?_) (fun z13 => ?_)
    · exact s_sub [] rfl (b_X9_feed_47 X q9.2)
    · refine s_iload_n (i := 8) rfl 3 rfl ?_
      refine u_callSi [tI a3] [] rfl (i := 9) rfl (c_X9_isByte q9.2 a3) xm_X9_isByte (tw1186) rfl (Nat.le_of_ble_eq_true rfl) (xRm.of rfl) ⟨rfl, rfl⟩ (fun q10 => ?_)
      refine s_ifeq (i := 10) rfl (tgt := 47) (by decide) (fun z20 => ?_) (fun z20 => ?_)
      · exact s_sub [] rfl (b_X9_feed_47 X q10.2)
      · refine s_iload (i := 11) rfl 4 rfl ?_
        refine u_callSi [tI a4] [] rfl (i := 12) rfl (c_X9_isByte q10.2 a4) xm_X9_isByte (tw1186) rfl (Nat.le_of_ble_eq_true rfl) (xRm.of rfl) ⟨rfl, rfl⟩ (fun q11 => ?_)
        refine s_ifeq (i := 13) rfl (tgt := 47) (by decide) (fun z28 => ?_) (fun z28 => ?_)
        · exact s_sub [] rfl (b_X9_feed_47 X q11.2)
        · refine s_iload (i := 14) rfl 5 rfl ?_
          refine u_callSi [tI a5] [] rfl (i := 15) rfl (c_X9_isByte q11.2 a5) xm_X9_isByte (tw1186) rfl (Nat.le_of_ble_eq_true rfl) (xRm.of rfl) ⟨rfl, rfl⟩ (fun q12 => ?_)
          refine s_ifeq (i := 16) rfl (tgt := 47) (by decide) (fun z36 => ?_) (fun z36 => ?_)
          · exact s_sub [] rfl (b_X9_feed_47 X q12.2)
          · refine s_iload (i := 17) rfl 6 rfl ?_
            refine u_callSi [tI a6] [] rfl (i := 18) rfl (c_X9_isByte q12.2 a6) xm_X9_isByte (tw1186) rfl (Nat.le_of_ble_eq_true rfl) (xRm.of rfl) ⟨rfl, rfl⟩ (fun q13 => ?_)
            refine s_ifne (i := 19) rfl (tgt := 50) (by decide) (fun z44 => ?_) (fun z44 => ?_)
            · exact s_sub [] rfl (b_X9_feed_47 X q13.2)
            · refine s_aload_n (i := 22) rfl 0 rfl ?_
              refine s_getI (i := 23) rfl xf_9_90.r rfl (fun v14 => ?_)
              refine s_iload_n (i := 24) rfl 1 rfl ?_
              refine s_iadd (i := 25) rfl ?_
              refine s_sipush (i := 26) rfl (v := (160 : Int32)) (by decide) ?_
              refine s_icmple (i := 27) rfl (tgt := 65) (by decide) (fun z59 => ?_) (fun z59 => ?_)
              · refine s_bipush (i := 28) rfl (v := (-4 : Int32)) (by decide) ?_
                exact s_iret (i := 29) rfl rfl
              · refine s_iconst (i := 30) rfl (v := (0 : Int32)) (by decide) ?_
                refine s_istore (i := 31) rfl (Nat.le_of_ble_eq_true rfl) (ls2 := [(7, tI ((0 : Int32))), (0, tA a0), (1, tI a1), (2, tI a2), (3, tI a3), (4, tI a4), (5, tI a5), (6, tI a6)]) rfl ?_
                exact s_sub [1, 2, 3, 4, 5, 6, 7, 0] rfl (b_X9_feed_68 X FU q13.2 a0 a1 a2 a3 a4 a5 a6 ((0 : Int32)))
def y_X9_two : MethodName := ⟨"OpensAtNineModel", "two", "(III)I"⟩
def T_X9_two : List (Nat × Instr × Nat × Nat) := [(0, .iload_n 0, 1, 1), (1, .tableswitch 101 11 17 #[43, 57, 101, 71, 82, 93, 97], 43, 44), (44, .iload_n 1, 1, 45), (45, .ifCond .ne 7, 3, 48), (48, .iload_n 2, 1, 49), (49, .ifCond .eq 7, 3, 52), (52, .iconst 1, 1, 53), (53, .goto 4, 3, 56), (56, .iconst 0, 1, 57), (57, .ireturn, 1, 58), (58, .iload_n 1, 1, 59), (59, .ifCond .eq 11, 3, 62), (62, .iload_n 2, 1, 63), (63, .ifCond .eq 7, 3, 66), (66, .iconst 1, 1, 67), (67, .goto 4, 3, 70), (70, .iconst 0, 1, 71), (71, .ireturn, 1, 72), (72, .iload_n 1, 1, 73), (73, .iload_n 2, 1, 74), (74, .if_icmp .ge 7, 3, 77), (77, .iconst 1, 1, 78), (78, .goto 4, 3, 81), (81, .iconst 0, 1, 82), (82, .ireturn, 1, 83), (83, .iload_n 1, 1, 84), (84, .iload_n 2, 1, 85), (85, .if_icmp .ne 7, 3, 88), (88, .iconst 1, 1, 89), (89, .goto 4, 3, 92), (92, .iconst 0, 1, 93), (93, .ireturn, 1, 94), (94, .iload_n 1, 1, 95), (95, .iload_n 2, 1, 96), (96, .iadd, 1, 97), (97, .ireturn, 1, 98), (98, .iload_n 1, 1, 99), (99, .iload_n 2, 1, 100), (100, .isub, 1, 101), (101, .ireturn, 1, 102), (102, .iload_n 1, 1, 103), (103, .iload_n 2, 1, 104), (104, .imul, 1, 105), (105, .ireturn, 1, 106)]
def I_X9_two : MI := (prog_11_method_27_code, 3, (some .int), "OpensAtNineModel", "two", T_X9_two, 0, 0, 1, 60)
theorem dT_X9_two : ∀ q ∈ T_X9_two, decode prog_11_method_27_code q.1 = .ok (q.2.1, q.2.2.1) ∧ q.2.2.2 = q.1 + q.2.2.1 := by decide +kernel
theorem xm_X9_two : xCS y_X9_two I_X9_two 3 := ⟨tw1211, tw84, tw1212, ⟨by decide +kernel, by decide +kernel, by decide +kernel⟩⟩
noncomputable def f_X9_two_102 (h : XM) (l1 : Int32) (l2 : Int32) : Option (Int32 × XM) := some (l1 * l2, h)
noncomputable def f_X9_two_57 (h : XM) (s0 : Int32) : Option (Int32 × XM) := some (s0, h)
noncomputable def f_X9_two_52 (h : XM) : Option (Int32 × XM) := f_X9_two_57 h ((1 : Int32))
noncomputable def f_X9_two_71 (h : XM) (s0 : Int32) : Option (Int32 × XM) := some (s0, h)
noncomputable def f_X9_two_70 (h : XM) : Option (Int32 × XM) := f_X9_two_71 h ((0 : Int32))
noncomputable def f_X9_two_82 (h : XM) (s0 : Int32) : Option (Int32 × XM) := some (s0, h)
noncomputable def f_X9_two_93 (h : XM) (s0 : Int32) : Option (Int32 × XM) := some (s0, h)
noncomputable def f_X9_two (h : XM) (a0 : Int32) (a1 : Int32) (a2 : Int32) : Option (Int32 × XM) := if a0 = (11 : Int32) then (if a1 = 0 then (if a2 = 0 then (f_X9_two_57 h ((0 : Int32))) else (f_X9_two_52 h)) else (f_X9_two_52 h)) else (if a0 = (12 : Int32) then (if a1 = 0 then (f_X9_two_70 h) else (if a2 = 0 then (f_X9_two_70 h) else (f_X9_two_71 h ((1 : Int32))))) else (if a0 = (14 : Int32) then (if a1 < a2 then (f_X9_two_82 h ((1 : Int32))) else (f_X9_two_82 h ((0 : Int32)))) else (if a0 = (15 : Int32) then (if a1 = a2 then (f_X9_two_93 h ((1 : Int32))) else (f_X9_two_93 h ((0 : Int32)))) else (if a0 = (16 : Int32) then (some (a1 + a2, h)) else (if a0 = (17 : Int32) then (some (a1 - a2, h)) else (f_X9_two_102 h a1 a2))))))
theorem b_X9_two_102 (X : XX) (h : XM) (l1 : Int32) (l2 : Int32) : SW X I_X9_two ρi 102 [(1, tI l1), (2, tI l2)] [] h 0 0 (f_X9_two_102 h l1 l2) := by
  unfold f_X9_two_102
  refine s_iload_n (i := 40) rfl 0 rfl ?_
  refine s_iload_n (i := 41) rfl 1 rfl ?_
  refine s_imul (i := 42) rfl ?_
  exact s_iret (i := 43) rfl rfl
theorem b_X9_two_57 (X : XX) (h : XM) (s0 : Int32) : SW X I_X9_two ρi 57 [] [tI s0] h 0 0 (f_X9_two_57 h s0) := by
  unfold f_X9_two_57
  exact s_iret (i := 9) rfl rfl
theorem b_X9_two_52 (X : XX) (h : XM) : SW X I_X9_two ρi 52 [] [] h 0 0 (f_X9_two_52 h) := by
  unfold f_X9_two_52
  refine s_iconst (i := 6) rfl (v := (1 : Int32)) (by decide) ?_
  refine s_goto (i := 7) rfl (tgt := 57) (by decide) ?_
  exact s_sub [] rfl (b_X9_two_57 X h ((1 : Int32)))
theorem b_X9_two_71 (X : XX) (h : XM) (s0 : Int32) : SW X I_X9_two ρi 71 [] [tI s0] h 0 0 (f_X9_two_71 h s0) := by
  unfold f_X9_two_71
  exact s_iret (i := 17) rfl rfl
theorem b_X9_two_70 (X : XX) (h : XM) : SW X I_X9_two ρi 70 [] [] h 0 0 (f_X9_two_70 h) := by
  unfold f_X9_two_70
  refine s_iconst (i := 16) rfl (v := (0 : Int32)) (by decide) ?_
  exact s_sub [] rfl (b_X9_two_71 X h ((0 : Int32)))
theorem b_X9_two_82 (X : XX) (h : XM) (s0 : Int32) : SW X I_X9_two ρi 82 [] [tI s0] h 0 0 (f_X9_two_82 h s0) := by
  unfold f_X9_two_82
  exact s_iret (i := 24) rfl rfl
theorem b_X9_two_93 (X : XX) (h : XM) (s0 : Int32) : SW X I_X9_two ρi 93 [] [tI s0] h 0 0 (f_X9_two_93 h s0) := by
  unfold f_X9_two_93
  exact s_iret (i := 31) rfl rfl
theorem c_X9_two (h : XM) (a0 : Int32) (a1 : Int32) (a2 : Int32) : MC I_X9_two y_X9_two [tI a0, tI a1, tI a2] h ρi (f_X9_two h a0 a1 a2) := by
  refine MC_of ⟨by decide +kernel, rfl, rfl, Nat.le_of_ble_eq_true rfl⟩ dT_X9_two (fun X => ?_)
  show SW X I_X9_two ρi 0 [(0, tI a0), (1, tI a1), (2, tI a2)] [] h 0 0 (f_X9_two h a0 a1 a2)
  unfold f_X9_two
  refine s_iload_n (i := 0) rfl 0 rfl ?_
  refine s_if (P := a0 = (11 : Int32)) (fun z1_11 => ?_) (fun z1_11 => ?_)
  · refine s_table 44 (i := 1) rfl rfl (by rw [z1_11]; rfl) ?_
    refine s_iload_n (i := 2) rfl 1 rfl ?_
    refine s_ifne (i := 3) rfl (tgt := 52) (by decide) (fun z45 => ?_) (fun z45 => ?_)
    · refine s_iload_n (i := 4) rfl 2 rfl ?_
      refine s_ifeq (i := 5) rfl (tgt := 56) (by decide) (fun z49 => ?_) (fun z49 => ?_)
      · refine s_iconst (i := 8) rfl (v := (0 : Int32)) (by decide) ?_
        exact s_sub [] rfl (b_X9_two_57 X h ((0 : Int32)))
      · exact s_sub [] rfl (b_X9_two_52 X h)
    · exact s_sub [] rfl (b_X9_two_52 X h)
  refine s_if (P := a0 = (12 : Int32)) (fun z1_12 => ?_) (fun z1_12 => ?_)
  · refine s_table 58 (i := 1) rfl rfl (by rw [z1_12]; rfl) ?_
    refine s_iload_n (i := 10) rfl 1 rfl ?_
    refine s_ifeq (i := 11) rfl (tgt := 70) (by decide) (fun z59 => ?_) (fun z59 => ?_)
    · exact s_sub [] rfl (b_X9_two_70 X h)
    · refine s_iload_n (i := 12) rfl 2 rfl ?_
      refine s_ifeq (i := 13) rfl (tgt := 70) (by decide) (fun z63 => ?_) (fun z63 => ?_)
      · exact s_sub [] rfl (b_X9_two_70 X h)
      · refine s_iconst (i := 14) rfl (v := (1 : Int32)) (by decide) ?_
        refine s_goto (i := 15) rfl (tgt := 71) (by decide) ?_
        exact s_sub [] rfl (b_X9_two_71 X h ((1 : Int32)))
  refine s_if (P := a0 = (14 : Int32)) (fun z1_14 => ?_) (fun z1_14 => ?_)
  · refine s_table 72 (i := 1) rfl rfl (by rw [z1_14]; rfl) ?_
    refine s_iload_n (i := 18) rfl 1 rfl ?_
    refine s_iload_n (i := 19) rfl 2 rfl ?_
    refine s_icmpge (i := 20) rfl (tgt := 81) (by decide) (fun z74 => ?_) (fun z74 => ?_)
    · refine s_iconst (i := 21) rfl (v := (1 : Int32)) (by decide) ?_
      refine s_goto (i := 22) rfl (tgt := 82) (by decide) ?_
      exact s_sub [] rfl (b_X9_two_82 X h ((1 : Int32)))
    · refine s_iconst (i := 23) rfl (v := (0 : Int32)) (by decide) ?_
      exact s_sub [] rfl (b_X9_two_82 X h ((0 : Int32)))
  refine s_if (P := a0 = (15 : Int32)) (fun z1_15 => ?_) (fun z1_15 => ?_)
  · refine s_table 83 (i := 1) rfl rfl (by rw [z1_15]; rfl) ?_
    refine s_iload_n (i := 25) rfl 1 rfl ?_
    refine s_iload_n (i := 26) rfl 2 rfl ?_
    refine s_icmpne (i := 27) rfl (tgt := 92) (by decide) (fun z85 => ?_) (fun z85 => ?_)
    · refine s_iconst (i := 28) rfl (v := (1 : Int32)) (by decide) ?_
      refine s_goto (i := 29) rfl (tgt := 93) (by decide) ?_
      exact s_sub [] rfl (b_X9_two_93 X h ((1 : Int32)))
    · refine s_iconst (i := 30) rfl (v := (0 : Int32)) (by decide) ?_
      exact s_sub [] rfl (b_X9_two_93 X h ((0 : Int32)))
  refine s_if (P := a0 = (16 : Int32)) (fun z1_16 => ?_) (fun z1_16 => ?_)
  · refine s_table 94 (i := 1) rfl rfl (by rw [z1_16]; rfl) ?_
    refine s_iload_n (i := 32) rfl 1 rfl ?_
    refine s_iload_n (i := 33) rfl 2 rfl ?_
    refine s_iadd (i := 34) rfl ?_
    exact s_iret (i := 35) rfl rfl
  refine s_if (P := a0 = (17 : Int32)) (fun z1_17 => ?_) (fun z1_17 => ?_)
  · refine s_table 98 (i := 1) rfl rfl (by rw [z1_17]; rfl) ?_
    refine s_iload_n (i := 36) rfl 1 rfl ?_
    refine s_iload_n (i := 37) rfl 2 rfl ?_
    refine s_isub (i := 38) rfl ?_
    exact s_iret (i := 39) rfl rfl
  refine s_table 102 (i := 1) rfl rfl (by
    rw [swT_out (fun k h1 h2 => by
      rcases (show k = 11 ∨ k = 12 ∨ k = 13 ∨ k = 14 ∨ k = 15 ∨ k = 16 ∨ k = 17 by omega) with e | e | e | e | e | e | e <;> subst e
      · exact Or.inr z1_11
      · exact Or.inr z1_12
      · exact Or.inl rfl
      · exact Or.inr z1_14
      · exact Or.inr z1_15
      · exact Or.inr z1_16
      · exact Or.inr z1_17)]
    rfl) ?_
  exact s_sub [1, 2] rfl (b_X9_two_102 X h a1 a2)
def y_X9_says : MethodName := ⟨"OpensAtNineModel", "says", "(I)I"⟩
def T_X9_says_0 : List (Nat × Instr × Nat × Nat) := [(0, .iconst 0, 1, 1), (1, .istore_n 2, 1, 2), (2, .aload_n 0, 1, 3), (3, .getfield 32, 3, 6), (6, .iconst 4, 1, 7), (7, .aload_n 0, 1, 8), (8, .getfield 126, 3, 11), (11, .imul, 1, 12), (12, .iload_n 1, 1, 13), (13, .iadd, 1, 14), (14, .iaload, 1, 15), (15, .istore_n 3, 1, 16), (16, .iload_n 3, 1, 17), (17, .aload_n 0, 1, 18), (18, .getfield 32, 3, 21), (21, .iconst 4, 1, 22), (22, .aload_n 0, 1, 23), (23, .getfield 126, 3, 26), (26, .imul, 1, 27), (27, .iload_n 1, 1, 28), (28, .iadd, 1, 29), (29, .iconst 1, 1, 30), (30, .iadd, 1, 31), (31, .iaload, 1, 32), (32, .if_icmp .ge 165, 3, 35), (35, .aload_n 0, 1, 36), (36, .getfield 29, 3, 39), (39, .sipush 200, 3, 42), (42, .aload_n 0, 1, 43), (43, .getfield 126, 3, 46), (46, .imul, 1, 47), (47, .iload_n 3, 1, 48), (48, .iadd, 1, 49), (49, .iaload, 1, 50), (50, .istore 4, 2, 52), (52, .iload 4, 2, 54), (54, .ldc 174, 2, 56), (56, .if_icmp .ge 10, 3, 59), (59, .iload 4, 2, 61), (61, .bipush 11, 2, 63)]
def T_X9_says_1 : List (Nat × Instr × Nat × Nat) := [(63, .if_icmp .ge 37, 3, 66), (66, .aload_n 0, 1, 67), (67, .getfield 59, 3, 70), (70, .iload_n 2, 1, 71), (71, .iload 4, 2, 73), (73, .bipush 11, 2, 75), (75, .if_icmp .ge 13, 3, 78), (78, .aload_n 0, 1, 79), (79, .getfield 62, 3, 82), (82, .iload 4, 2, 84), (84, .iaload, 1, 85), (85, .goto 8, 3, 88), (88, .iload 4, 2, 90), (90, .ldc 174, 2, 92), (92, .isub, 1, 93), (93, .iastore, 1, 94), (94, .iinc 2 1, 3, 97), (97, .goto 94, 3, 100), (100, .iload 4, 2, 102), (102, .bipush 13, 2, 104), (104, .if_icmp .ne 30, 3, 107), (107, .aload_n 0, 1, 108), (108, .getfield 59, 3, 111), (111, .iload_n 2, 1, 112), (112, .iconst 1, 1, 113), (113, .isub, 1, 114), (114, .aload_n 0, 1, 115), (115, .getfield 59, 3, 118), (118, .iload_n 2, 1, 119), (119, .iconst 1, 1, 120), (120, .isub, 1, 121), (121, .iaload, 1, 122), (122, .ifCond .ne 7, 3, 125), (125, .iconst 1, 1, 126), (126, .goto 4, 3, 129), (129, .iconst 0, 1, 130), (130, .iastore, 1, 131), (131, .goto 60, 3, 134), (134, .iload 4, 2, 136), (136, .bipush 19, 2, 138)]
def T_X9_says_2 : List (Nat × Instr × Nat × Nat) := [(138, .if_icmp .ne 23, 3, 141), (141, .aload_n 0, 1, 142), (142, .getfield 59, 3, 145), (145, .iload_n 2, 1, 146), (146, .iconst 1, 1, 147), (147, .isub, 1, 148), (148, .aload_n 0, 1, 149), (149, .getfield 59, 3, 152), (152, .iload_n 2, 1, 153), (153, .iconst 1, 1, 154), (154, .isub, 1, 155), (155, .iaload, 1, 156), (156, .ineg, 1, 157), (157, .iastore, 1, 158), (158, .goto 33, 3, 161), (161, .iinc 2 (-1), 3, 164), (164, .aload_n 0, 1, 165), (165, .getfield 59, 3, 168), (168, .iload_n 2, 1, 169), (169, .iconst 1, 1, 170), (170, .isub, 1, 171), (171, .iload 4, 2, 173), (173, .aload_n 0, 1, 174), (174, .getfield 59, 3, 177), (177, .iload_n 2, 1, 178), (178, .iconst 1, 1, 179), (179, .isub, 1, 180), (180, .iaload, 1, 181), (181, .aload_n 0, 1, 182), (182, .getfield 59, 3, 185), (185, .iload_n 2, 1, 186), (186, .iaload, 1, 187), (187, .invokestatic 188, 3, 190), (190, .iastore, 1, 191), (191, .iinc 3 1, 3, 194), (194, .goto (-178), 3, 197), (197, .aload_n 0, 1, 198), (198, .getfield 59, 3, 201), (201, .iconst 0, 1, 202), (202, .iaload, 1, 203)]
def T_X9_says_3 : List (Nat × Instr × Nat × Nat) := [(203, .ireturn, 1, 204)]
def T_X9_says : List (Nat × Instr × Nat × Nat) := [(0, .iconst 0, 1, 1), (1, .istore_n 2, 1, 2), (2, .aload_n 0, 1, 3), (3, .getfield 32, 3, 6), (6, .iconst 4, 1, 7), (7, .aload_n 0, 1, 8), (8, .getfield 126, 3, 11), (11, .imul, 1, 12), (12, .iload_n 1, 1, 13), (13, .iadd, 1, 14), (14, .iaload, 1, 15), (15, .istore_n 3, 1, 16), (16, .iload_n 3, 1, 17), (17, .aload_n 0, 1, 18), (18, .getfield 32, 3, 21), (21, .iconst 4, 1, 22), (22, .aload_n 0, 1, 23), (23, .getfield 126, 3, 26), (26, .imul, 1, 27), (27, .iload_n 1, 1, 28), (28, .iadd, 1, 29), (29, .iconst 1, 1, 30), (30, .iadd, 1, 31), (31, .iaload, 1, 32), (32, .if_icmp .ge 165, 3, 35), (35, .aload_n 0, 1, 36), (36, .getfield 29, 3, 39), (39, .sipush 200, 3, 42), (42, .aload_n 0, 1, 43), (43, .getfield 126, 3, 46), (46, .imul, 1, 47), (47, .iload_n 3, 1, 48), (48, .iadd, 1, 49), (49, .iaload, 1, 50), (50, .istore 4, 2, 52), (52, .iload 4, 2, 54), (54, .ldc 174, 2, 56), (56, .if_icmp .ge 10, 3, 59), (59, .iload 4, 2, 61), (61, .bipush 11, 2, 63), (63, .if_icmp .ge 37, 3, 66), (66, .aload_n 0, 1, 67), (67, .getfield 59, 3, 70), (70, .iload_n 2, 1, 71), (71, .iload 4, 2, 73), (73, .bipush 11, 2, 75), (75, .if_icmp .ge 13, 3, 78), (78, .aload_n 0, 1, 79), (79, .getfield 62, 3, 82), (82, .iload 4, 2, 84), (84, .iaload, 1, 85), (85, .goto 8, 3, 88), (88, .iload 4, 2, 90), (90, .ldc 174, 2, 92), (92, .isub, 1, 93), (93, .iastore, 1, 94), (94, .iinc 2 1, 3, 97), (97, .goto 94, 3, 100), (100, .iload 4, 2, 102), (102, .bipush 13, 2, 104), (104, .if_icmp .ne 30, 3, 107), (107, .aload_n 0, 1, 108), (108, .getfield 59, 3, 111), (111, .iload_n 2, 1, 112), (112, .iconst 1, 1, 113), (113, .isub, 1, 114), (114, .aload_n 0, 1, 115), (115, .getfield 59, 3, 118), (118, .iload_n 2, 1, 119), (119, .iconst 1, 1, 120), (120, .isub, 1, 121), (121, .iaload, 1, 122), (122, .ifCond .ne 7, 3, 125), (125, .iconst 1, 1, 126), (126, .goto 4, 3, 129), (129, .iconst 0, 1, 130), (130, .iastore, 1, 131), (131, .goto 60, 3, 134), (134, .iload 4, 2, 136), (136, .bipush 19, 2, 138), (138, .if_icmp .ne 23, 3, 141), (141, .aload_n 0, 1, 142), (142, .getfield 59, 3, 145), (145, .iload_n 2, 1, 146), (146, .iconst 1, 1, 147), (147, .isub, 1, 148), (148, .aload_n 0, 1, 149), (149, .getfield 59, 3, 152), (152, .iload_n 2, 1, 153), (153, .iconst 1, 1, 154), (154, .isub, 1, 155), (155, .iaload, 1, 156), (156, .ineg, 1, 157), (157, .iastore, 1, 158), (158, .goto 33, 3, 161), (161, .iinc 2 (-1), 3, 164), (164, .aload_n 0, 1, 165), (165, .getfield 59, 3, 168), (168, .iload_n 2, 1, 169), (169, .iconst 1, 1, 170), (170, .isub, 1, 171), (171, .iload 4, 2, 173), (173, .aload_n 0, 1, 174), (174, .getfield 59, 3, 177), (177, .iload_n 2, 1, 178), (178, .iconst 1, 1, 179), (179, .isub, 1, 180), (180, .iaload, 1, 181), (181, .aload_n 0, 1, 182), (182, .getfield 59, 3, 185), (185, .iload_n 2, 1, 186), (186, .iaload, 1, 187), (187, .invokestatic 188, 3, 190), (190, .iastore, 1, 191), (191, .iinc 3 1, 3, 194), (194, .goto (-178), 3, 197), (197, .aload_n 0, 1, 198), (198, .getfield 59, 3, 201), (201, .iconst 0, 1, 202), (202, .iaload, 1, 203), (203, .ireturn, 1, 204)]
def I_X9_says : MI := (prog_11_method_28_code, 5, (some .int), "OpensAtNineModel", "says", T_X9_says, 0, 0, 2, 82)
theorem dT_X9_says_0 : ∀ q ∈ T_X9_says_0, decode prog_11_method_28_code q.1 = .ok (q.2.1, q.2.2.1) ∧ q.2.2.2 = q.1 + q.2.2.1 := by decide +kernel
theorem dT_X9_says_1 : ∀ q ∈ T_X9_says_1, decode prog_11_method_28_code q.1 = .ok (q.2.1, q.2.2.1) ∧ q.2.2.2 = q.1 + q.2.2.1 := by decide +kernel
theorem dT_X9_says_2 : ∀ q ∈ T_X9_says_2, decode prog_11_method_28_code q.1 = .ok (q.2.1, q.2.2.1) ∧ q.2.2.2 = q.1 + q.2.2.1 := by decide +kernel
theorem dT_X9_says_3 : ∀ q ∈ T_X9_says_3, decode prog_11_method_28_code q.1 = .ok (q.2.1, q.2.2.1) ∧ q.2.2.2 = q.1 + q.2.2.1 := by decide +kernel
set_option maxRecDepth 20000 in
theorem dT_X9_says : ∀ q ∈ T_X9_says, decode prog_11_method_28_code q.1 = .ok (q.2.1, q.2.2.1) ∧ q.2.2.2 = q.1 + q.2.2.1 := by
  show ∀ q ∈ (T_X9_says_0 ++ (T_X9_says_1 ++ (T_X9_says_2 ++ (T_X9_says_3)))), decode prog_11_method_28_code q.1 = .ok (q.2.1, q.2.2.1) ∧ q.2.2.2 = q.1 + q.2.2.1
  exact List.forall_mem_append.mpr ⟨dT_X9_says_0, List.forall_mem_append.mpr ⟨dT_X9_says_1, List.forall_mem_append.mpr ⟨dT_X9_says_2, dT_X9_says_3⟩⟩⟩
theorem xm_X9_says : xCM y_X9_says I_X9_says 9 1 := ⟨⟨tw1208, tw42⟩, tw84, tw1209, ⟨xT9, 49, rfl⟩, ⟨by decide +kernel, by decide +kernel, by decide +kernel⟩⟩
noncomputable def f_X9_says_191 (k_16 : XM → Option Nat → Int32 → Int32 → Int32 → Option (Int32 × XM)) (h : XM) (l0 : Option Nat) (l1 : Int32) (l2 : Int32) (l3 : Int32) : Option (Int32 × XM) := bnd (l3 + (1 : Int32)) fun v1 => k_16 h l0 l1 l2 v1
noncomputable def f_X9_says_93 (k_16 : XM → Option Nat → Int32 → Int32 → Int32 → Option (Int32 × XM)) (h : XM) (l0 : Option Nat) (l1 : Int32) (l2 : Int32) (l3 : Int32) (s0 : Int32) (s1 : Int32) (s2 : Option Nat) : Option (Int32 × XM) := (sI h s2 s1 s0).bind fun h2 => bnd (l2 + (1 : Int32)) fun v3 => f_X9_says_191 k_16 h2 l0 l1 v3 l3
noncomputable def f_X9_says_66 (k_16 : XM → Option Nat → Int32 → Int32 → Int32 → Option (Int32 × XM)) (h : XM) (l0 : Option Nat) (l1 : Int32) (l2 : Int32) (l3 : Int32) (l4 : Int32) : Option (Int32 × XM) := (gR h 9 l0 33).bind fun v4 => if l4 < ((11 : Int32)) then ((gR h 9 l0 34).bind fun v5 => (rI h v5 l4).bind fun v6 => f_X9_says_93 k_16 h l0 l1 l2 l3 v6 l2 v4) else (f_X9_says_93 k_16 h l0 l1 l2 l3 (l4 - ((100000 : Int32))) l2 v4)
noncomputable def f_X9_says_130 (k_16 : XM → Option Nat → Int32 → Int32 → Int32 → Option (Int32 × XM)) (h : XM) (l0 : Option Nat) (l1 : Int32) (l2 : Int32) (l3 : Int32) (s0 : Int32) (s1 : Int32) (s2 : Option Nat) : Option (Int32 × XM) := (sI h s2 s1 s0).bind fun h7 => f_X9_says_191 k_16 h7 l0 l1 l2 l3
noncomputable def fb_X9_says_16 (k_16 : XM → Option Nat → Int32 → Int32 → Int32 → Option (Int32 × XM)) (h : XM) (l0 : Option Nat) (l1 : Int32) (l2 : Int32) (l3 : Int32) : Option (Int32 × XM) := (gR h 9 l0 14).bind fun v8 => (gI h 9 l0 16).bind fun v9 => (rI h v8 (((((4 : Int32)) * v9) + l1) + ((1 : Int32)))).bind fun v10 => if l3 < v10 then ((gR h 9 l0 13).bind fun v11 => (gI h 9 l0 16).bind fun v12 => (rI h v11 ((((200 : Int32)) * v12) + l3)).bind fun v13 => if v13 < ((100000 : Int32)) then (if v13 < ((11 : Int32)) then (f_X9_says_66 k_16 h l0 l1 l2 l3 v13) else (if v13 = ((13 : Int32)) then ((gR h 9 l0 33).bind fun v14 => (gR h 9 l0 33).bind fun v15 => (rI h v15 (l2 - ((1 : Int32)))).bind fun v16 => if v16 = 0 then (f_X9_says_130 k_16 h l0 l1 l2 l3 ((1 : Int32)) (l2 - ((1 : Int32))) v14) else (f_X9_says_130 k_16 h l0 l1 l2 l3 ((0 : Int32)) (l2 - ((1 : Int32))) v14)) else (if v13 = ((19 : Int32)) then ((gR h 9 l0 33).bind fun v17 => (gR h 9 l0 33).bind fun v18 => (rI h v18 (l2 - ((1 : Int32)))).bind fun v19 => (sI h v17 (l2 - ((1 : Int32))) (-v19)).bind fun h20 => f_X9_says_191 k_16 h20 l0 l1 l2 l3) else (bnd (l2 + (-1 : Int32)) fun v21 => (gR h 9 l0 33).bind fun v22 => (gR h 9 l0 33).bind fun v23 => (rI h v23 (v21 - ((1 : Int32)))).bind fun v24 => (gR h 9 l0 33).bind fun v25 => (rI h v25 v21).bind fun v26 => (f_X9_two h v13 v24 v26).bind fun q27 => (sI q27.2 v22 (v21 - ((1 : Int32))) q27.1).bind fun h28 => f_X9_says_191 k_16 h28 l0 l1 v21 l3)))) else (f_X9_says_66 k_16 h l0 l1 l2 l3 v13)) else ((gR h 9 l0 33).bind fun v29 => (rI h v29 ((0 : Int32))).bind fun v30 => some (v30, h))
noncomputable def f_X9_says_16 (n : Nat) : XM → Option Nat → Int32 → Int32 → Int32 → Option (Int32 × XM) := Nat.rec (motive := fun _ => XM → Option Nat → Int32 → Int32 → Int32 → Option (Int32 × XM)) (fun _ _ _ _ _ => none) (fun _ ih h l0 l1 l2 l3 => fb_X9_says_16 ih h l0 l1 l2 l3) n
noncomputable def f_X9_says (h : XM) (a0 : Option Nat) (a1 : Int32) : Option (Int32 × XM) := (gR h 9 a0 14).bind fun v31 => (gI h 9 a0 16).bind fun v32 => (rI h v31 ((((4 : Int32)) * v32) + a1)).bind fun v33 => f_X9_says_16 FU h a0 a1 ((0 : Int32)) v33
theorem b_X9_says_191 (X : XX) (k_16 : XM → Option Nat → Int32 → Int32 → Int32 → Option (Int32 × XM)) (hk_16 : ∀ h l0 l1 l2 l3, SW X I_X9_says ρi 16 [(0, tA l0), (1, tI l1), (2, tI l2), (3, tI l3)] [] h 0 0 (k_16 h l0 l1 l2 l3)) (h : XM) (l0 : Option Nat) (l1 : Int32) (l2 : Int32) (l3 : Int32) : SW X I_X9_says ρi 191 [(0, tA l0), (1, tI l1), (2, tI l2), (3, tI l3)] [] h 0 0 (f_X9_says_191 k_16 h l0 l1 l2 l3) := by
  unfold f_X9_says_191
  refine s_inc (i := 114) rfl 3 rfl (c9 := (1 : Int32)) (by decide) (Nat.le_of_ble_eq_true rfl) (fun v1 => ?_)
  refine s_ls (ls2 := [(3, tI v1), (0, tA l0), (1, tI l1), (2, tI l2)]) rfl ?_
  refine s_goto (i := 115) rfl (tgt := 16) (by decide) ?_
  exact s_sub [1, 2, 3, 0] rfl (hk_16 h l0 l1 l2 v1)
theorem b_X9_says_93 (X : XX) (k_16 : XM → Option Nat → Int32 → Int32 → Int32 → Option (Int32 × XM)) (hk_16 : ∀ h l0 l1 l2 l3, SW X I_X9_says ρi 16 [(0, tA l0), (1, tI l1), (2, tI l2), (3, tI l3)] [] h 0 0 (k_16 h l0 l1 l2 l3)) (h : XM) (l0 : Option Nat) (l1 : Int32) (l2 : Int32) (l3 : Int32) (s0 : Int32) (s1 : Int32) (s2 : Option Nat) : SW X I_X9_says ρi 93 [(0, tA l0), (1, tI l1), (2, tI l2), (3, tI l3)] [tI s0, tI s1, tA s2] h 0 0 (f_X9_says_93 k_16 h l0 l1 l2 l3 s0 s1 s2) := by
  unfold f_X9_says_93
  refine s_iastore (i := 55) rfl (fun h2 => ?_)
  refine s_inc (i := 56) rfl 2 rfl (c9 := (1 : Int32)) (by decide) (Nat.le_of_ble_eq_true rfl) (fun v3 => ?_)
  refine s_ls (ls2 := [(2, tI v3), (0, tA l0), (1, tI l1), (3, tI l3)]) rfl ?_
  refine s_goto (i := 57) rfl (tgt := 191) (by decide) ?_
  exact s_sub [1, 2, 0, 3] rfl (b_X9_says_191 X k_16 hk_16 h2 l0 l1 v3 l3)
theorem b_X9_says_66 (X : XX) (k_16 : XM → Option Nat → Int32 → Int32 → Int32 → Option (Int32 × XM)) (hk_16 : ∀ h l0 l1 l2 l3, SW X I_X9_says ρi 16 [(0, tA l0), (1, tI l1), (2, tI l2), (3, tI l3)] [] h 0 0 (k_16 h l0 l1 l2 l3)) (h : XM) (l0 : Option Nat) (l1 : Int32) (l2 : Int32) (l3 : Int32) (l4 : Int32) : SW X I_X9_says ρi 66 [(0, tA l0), (1, tI l1), (2, tI l2), (3, tI l3), (4, tI l4)] [] h 0 0 (f_X9_says_66 k_16 h l0 l1 l2 l3 l4) := by
  unfold f_X9_says_66
  refine s_aload_n (i := 41) rfl 0 rfl ?_
  refine s_getR (i := 42) rfl xf_9_59.r rfl (fun v4 => ?_)
  refine s_iload_n (i := 43) rfl 2 rfl ?_
  refine s_iload (i := 44) rfl 4 rfl ?_
  refine s_bipush (i := 45) rfl (v := (11 : Int32)) (by decide) ?_
  refine s_icmpge (i := 46) rfl (tgt := 88) (by decide) (fun z75 => ?_) (fun z75 => ?_)
  · refine s_aload_n (i := 47) rfl 0 rfl ?_
    refine s_getR (i := 48) rfl xf_9_62.r rfl (fun v5 => ?_)
    refine s_iload (i := 49) rfl 4 rfl ?_
    refine s_iaload (i := 50) rfl (fun v6 => ?_)
    refine s_goto (i := 51) rfl (tgt := 93) (by decide) ?_
    exact s_sub [0, 1, 2, 3] rfl (b_X9_says_93 X k_16 hk_16 h l0 l1 l2 l3 v6 l2 v4)
  · refine s_iload (i := 52) rfl 4 rfl ?_
    refine s_ldc (i := 53) rfl (v := (100000 : Int32)) (tw985) ?_
    refine s_isub (i := 54) rfl ?_
    exact s_sub [0, 1, 2, 3] rfl (b_X9_says_93 X k_16 hk_16 h l0 l1 l2 l3 (l4 - ((100000 : Int32))) l2 v4)
theorem b_X9_says_130 (X : XX) (k_16 : XM → Option Nat → Int32 → Int32 → Int32 → Option (Int32 × XM)) (hk_16 : ∀ h l0 l1 l2 l3, SW X I_X9_says ρi 16 [(0, tA l0), (1, tI l1), (2, tI l2), (3, tI l3)] [] h 0 0 (k_16 h l0 l1 l2 l3)) (h : XM) (l0 : Option Nat) (l1 : Int32) (l2 : Int32) (l3 : Int32) (s0 : Int32) (s1 : Int32) (s2 : Option Nat) : SW X I_X9_says ρi 130 [(0, tA l0), (1, tI l1), (2, tI l2), (3, tI l3)] [tI s0, tI s1, tA s2] h 0 0 (f_X9_says_130 k_16 h l0 l1 l2 l3 s0 s1 s2) := by
  unfold f_X9_says_130
  refine s_iastore (i := 76) rfl (fun h7 => ?_)
  refine s_goto (i := 77) rfl (tgt := 191) (by decide) ?_
  exact s_sub [0, 1, 2, 3] rfl (b_X9_says_191 X k_16 hk_16 h7 l0 l1 l2 l3)
theorem bb_X9_says_16 (X : XX) (k_16 : XM → Option Nat → Int32 → Int32 → Int32 → Option (Int32 × XM)) (hk_16 : ∀ h l0 l1 l2 l3, SW X I_X9_says ρi 16 [(0, tA l0), (1, tI l1), (2, tI l2), (3, tI l3)] [] h 0 0 (k_16 h l0 l1 l2 l3)) (h : XM) (l0 : Option Nat) (l1 : Int32) (l2 : Int32) (l3 : Int32) : SW X I_X9_says ρi 16 [(0, tA l0), (1, tI l1), (2, tI l2), (3, tI l3)] [] h 0 0 (fb_X9_says_16 k_16 h l0 l1 l2 l3) := by
  unfold fb_X9_says_16
  refine s_iload_n (i := 12) rfl 3 rfl ?_
  refine s_aload_n (i := 13) rfl 0 rfl ?_
  refine s_getR (i := 14) rfl xf_9_32.r rfl (fun v8 => ?_)
  refine s_iconst (i := 15) rfl (v := (4 : Int32)) (by decide) ?_
  refine s_aload_n (i := 16) rfl 0 rfl ?_
  refine s_getI (i := 17) rfl xf_9_126.r rfl (fun v9 => ?_)
  refine s_imul (i := 18) rfl ?_
  refine s_iload_n (i := 19) rfl 1 rfl ?_
  refine s_iadd (i := 20) rfl ?_
  refine s_iconst (i := 21) rfl (v := (1 : Int32)) (by decide) ?_
  refine s_iadd (i := 22) rfl ?_
  refine s_iaload (i := 23) rfl (fun v10 => ?_)
  refine s_icmpge (i := 24) rfl (tgt := 197) (by decide) (fun z32 => ?_) (fun z32 => ?_)
  · refine s_aload_n (i := 25) rfl 0 rfl ?_
    refine s_getR (i := 26) rfl xf_9_29.r rfl (fun v11 => ?_)
    refine s_sipush (i := 27) rfl (v := (200 : Int32)) (by decide) ?_
    refine s_aload_n (i := 28) rfl 0 rfl ?_
    refine s_getI (i := 29) rfl xf_9_126.r rfl (fun v12 => ?_)
    refine s_imul (i := 30) rfl ?_
    refine s_iload_n (i := 31) rfl 3 rfl ?_
    refine s_iadd (i := 32) rfl ?_
    refine s_iaload (i := 33) rfl (fun v13 => ?_)
    refine s_istore (i := 34) rfl (Nat.le_of_ble_eq_true rfl) (ls2 := [(4, tI v13), (0, tA l0), (1, tI l1), (2, tI l2), (3, tI l3)]) rfl ?_
    refine s_iload (i := 35) rfl 0 rfl ?_
    refine s_ldc (i := 36) rfl (v := (100000 : Int32)) (tw985) ?_
    refine s_icmpge (i := 37) rfl (tgt := 66) (by decide) (fun z56 => ?_) (fun z56 => ?_)
    · refine s_iload (i := 38) rfl 0 rfl ?_
      refine s_bipush (i := 39) rfl (v := (11 : Int32)) (by decide) ?_
      refine s_icmpge (i := 40) rfl (tgt := 100) (by decide) (fun z63 => ?_) (fun z63 => ?_)
      · exact s_sub [1, 2, 3, 4, 0] rfl (b_X9_says_66 X k_16 hk_16 h l0 l1 l2 l3 v13)
      · refine s_iload (i := 58) rfl 0 rfl ?_
        refine s_bipush (i := 59) rfl (v := (13 : Int32)) (by decide) ?_
        refine s_icmpne (i := 60) rfl (tgt := 134) (by decide) (fun z104 => ?_) (fun z104 => ?_)
        · refine s_aload_n (i := 61) rfl 1 rfl ?_
          refine s_getR (i := 62) rfl xf_9_59.r rfl (fun v14 => ?_)
          refine s_iload_n (i := 63) rfl 3 rfl ?_
          refine s_iconst (i := 64) rfl (v := (1 : Int32)) (by decide) ?_
          refine s_isub (i := 65) rfl ?_
          refine s_aload_n (i := 66) rfl 1 rfl ?_
          refine s_getR (i := 67) rfl xf_9_59.r rfl (fun v15 => ?_)
          refine s_iload_n (i := 68) rfl 3 rfl ?_
          refine s_iconst (i := 69) rfl (v := (1 : Int32)) (by decide) ?_
          refine s_isub (i := 70) rfl ?_
          refine s_iaload (i := 71) rfl (fun v16 => ?_)
          refine s_ifne (i := 72) rfl (tgt := 129) (by decide) (fun z122 => ?_) (fun z122 => ?_)
          · refine s_iconst (i := 73) rfl (v := (1 : Int32)) (by decide) ?_
            refine s_goto (i := 74) rfl (tgt := 130) (by decide) ?_
            exact s_sub [1, 2, 3, 4] rfl (b_X9_says_130 X k_16 hk_16 h l0 l1 l2 l3 ((1 : Int32)) (l2 - ((1 : Int32))) v14)
          · refine s_iconst (i := 75) rfl (v := (0 : Int32)) (by decide) ?_
            exact s_sub [1, 2, 3, 4] rfl (b_X9_says_130 X k_16 hk_16 h l0 l1 l2 l3 ((0 : Int32)) (l2 - ((1 : Int32))) v14)
        · refine s_iload (i := 78) rfl 0 rfl ?_
          refine s_bipush (i := 79) rfl (v := (19 : Int32)) (by decide) ?_
          refine s_icmpne (i := 80) rfl (tgt := 161) (by decide) (fun z138 => ?_) (fun z138 => ?_)
          · refine s_aload_n (i := 81) rfl 1 rfl ?_
            refine s_getR (i := 82) rfl xf_9_59.r rfl (fun v17 => ?_)
            refine s_iload_n (i := 83) rfl 3 rfl ?_
            refine s_iconst (i := 84) rfl (v := (1 : Int32)) (by decide) ?_
            refine s_isub (i := 85) rfl ?_
            refine s_aload_n (i := 86) rfl 1 rfl ?_
            refine s_getR (i := 87) rfl xf_9_59.r rfl (fun v18 => ?_)
            refine s_iload_n (i := 88) rfl 3 rfl ?_
            refine s_iconst (i := 89) rfl (v := (1 : Int32)) (by decide) ?_
            refine s_isub (i := 90) rfl ?_
            refine s_iaload (i := 91) rfl (fun v19 => ?_)
            refine s_ineg (i := 92) rfl ?_
            refine s_iastore (i := 93) rfl (fun h20 => ?_)
            refine s_goto (i := 94) rfl (tgt := 191) (by decide) ?_
            exact s_sub [1, 2, 3, 4] rfl (b_X9_says_191 X k_16 hk_16 h20 l0 l1 l2 l3)
          · refine s_inc (i := 95) rfl 3 rfl (c9 := (-1 : Int32)) (by decide) (Nat.le_of_ble_eq_true rfl) (fun v21 => ?_)
            refine s_ls (ls2 := [(2, tI v21), (4, tI v13), (0, tA l0), (1, tI l1), (3, tI l3)]) rfl ?_
            refine s_aload_n (i := 96) rfl 2 rfl ?_
            refine s_getR (i := 97) rfl xf_9_59.r rfl (fun v22 => ?_)
            refine s_iload_n (i := 98) rfl 0 rfl ?_
            refine s_iconst (i := 99) rfl (v := (1 : Int32)) (by decide) ?_
            refine s_isub (i := 100) rfl ?_
            refine s_iload (i := 101) rfl 1 rfl ?_
            refine s_aload_n (i := 102) rfl 2 rfl ?_
            refine s_getR (i := 103) rfl xf_9_59.r rfl (fun v23 => ?_)
            refine s_iload_n (i := 104) rfl 0 rfl ?_
            refine s_iconst (i := 105) rfl (v := (1 : Int32)) (by decide) ?_
            refine s_isub (i := 106) rfl ?_
            refine s_iaload (i := 107) rfl (fun v24 => ?_)
            refine s_aload_n (i := 108) rfl 2 rfl ?_
            refine s_getR (i := 109) rfl xf_9_59.r rfl (fun v25 => ?_)
            refine s_iload_n (i := 110) rfl 0 rfl ?_
            refine s_iaload (i := 111) rfl (fun v26 => ?_)
            refine u_callSi [tI v13, tI v24, tI v26] [tI (v21 - ((1 : Int32))), tA v22] rfl (i := 112) rfl (c_X9_two h v13 v24 v26) xm_X9_two (tw1210) rfl (Nat.le_of_ble_eq_true rfl) (xRm.of rfl) ⟨rfl, rfl⟩ (fun q27 => ?_)
            refine s_iastore (i := 113) rfl (fun h28 => ?_)
            exact s_sub [2, 3, 0, 4] rfl (b_X9_says_191 X k_16 hk_16 h28 l0 l1 v21 l3)
    · exact s_sub [1, 2, 3, 4, 0] rfl (b_X9_says_66 X k_16 hk_16 h l0 l1 l2 l3 v13)
  · refine s_aload_n (i := 116) rfl 0 rfl ?_
    refine s_getR (i := 117) rfl xf_9_59.r rfl (fun v29 => ?_)
    refine s_iconst (i := 118) rfl (v := (0 : Int32)) (by decide) ?_
    refine s_iaload (i := 119) rfl (fun v30 => ?_)
    exact s_iret (i := 120) rfl rfl
theorem b_X9_says_16 (X : XX) : ∀ (n : Nat) (h : XM) (l0 : Option Nat) (l1 : Int32) (l2 : Int32) (l3 : Int32), SW X I_X9_says ρi 16 [(0, tA l0), (1, tI l1), (2, tI l2), (3, tI l3)] [] h 0 0 (f_X9_says_16 n h l0 l1 l2 l3) := by
  intro n
  induction n with
  | zero =>
    intro h l0 l1 l2 l3
    exact s_none
  | succ n ih =>
    intro h l0 l1 l2 l3
    exact bb_X9_says_16 X (f_X9_says_16 n) ih h l0 l1 l2 l3
theorem c_X9_says (h : XM) (a0 : Option Nat) (a1 : Int32) : MC I_X9_says y_X9_says [tA a0, tI a1] h ρi (f_X9_says h a0 a1) := by
  refine MC_of ⟨by decide +kernel, rfl, rfl, Nat.le_of_ble_eq_true rfl⟩ dT_X9_says (fun X => ?_)
  show SW X I_X9_says ρi 0 [(0, tA a0), (1, tI a1)] [] h 0 0 (f_X9_says h a0 a1)
  unfold f_X9_says
  refine s_iconst (i := 0) rfl (v := (0 : Int32)) (by decide) ?_
  refine s_istore_n (i := 1) rfl (Nat.le_of_ble_eq_true rfl) (ls2 := [(2, tI ((0 : Int32))), (0, tA a0), (1, tI a1)]) rfl ?_
  refine s_aload_n (i := 2) rfl 1 rfl ?_
  refine s_getR (i := 3) rfl xf_9_32.r rfl (fun v31 => ?_)
  refine s_iconst (i := 4) rfl (v := (4 : Int32)) (by decide) ?_
  refine s_aload_n (i := 5) rfl 1 rfl ?_
  refine s_getI (i := 6) rfl xf_9_126.r rfl (fun v32 => ?_)
  refine s_imul (i := 7) rfl ?_
  refine s_iload_n (i := 8) rfl 2 rfl ?_
  refine s_iadd (i := 9) rfl ?_
  refine s_iaload (i := 10) rfl (fun v33 => ?_)
  refine s_istore_n (i := 11) rfl (Nat.le_of_ble_eq_true rfl) (ls2 := [(3, tI v33), (2, tI ((0 : Int32))), (0, tA a0), (1, tI a1)]) rfl ?_
  exact s_sub [2, 3, 1, 0] rfl (b_X9_says_16 X FU h a0 a1 ((0 : Int32)) v33)
def y_X9_force : MethodName := ⟨"OpensAtNineModel", "force", "(I)I"⟩
def T_X9_force : List (Nat × Instr × Nat × Nat) := [(0, .iload_n 1, 1, 1), (1, .iconst 0, 1, 2), (2, .aload_n 0, 1, 3), (3, .getfield 123, 3, 6), (6, .iconst 1, 1, 7), (7, .isub, 1, 8), (8, .invokestatic 100, 3, 11), (11, .ifCond .ne 6, 3, 14), (14, .bipush (-2), 2, 16), (16, .ireturn, 1, 17), (17, .aload_n 0, 1, 18), (18, .getfield 126, 3, 21), (21, .istore_n 2, 1, 22), (22, .aload_n 0, 1, 23), (23, .iload_n 1, 1, 24), (24, .putfield 126, 3, 27), (27, .iload_n 2, 1, 28), (28, .ireturn, 1, 29)]
def I_X9_force : MI := (prog_11_method_29_code, 3, (some .int), "OpensAtNineModel", "force", T_X9_force, 0, 0, 2, 82)
theorem dT_X9_force : ∀ q ∈ T_X9_force, decode prog_11_method_29_code q.1 = .ok (q.2.1, q.2.2.1) ∧ q.2.2.2 = q.1 + q.2.2.1 := by decide +kernel
theorem xm_X9_force : xCM y_X9_force I_X9_force 9 1 := ⟨⟨tw1191, tw1192⟩, tw84, tw1193, ⟨xT9, 49, rfl⟩, ⟨by decide +kernel, by decide +kernel, by decide +kernel⟩⟩
noncomputable def f_X9_force (h : XM) (a0 : Option Nat) (a1 : Int32) : Option (Int32 × XM) := (gI h 9 a0 15).bind fun v1 => (f_X9_in h a1 ((0 : Int32)) (v1 - ((1 : Int32)))).bind fun q2 => if q2.1 = 0 then (some ((-2 : Int32), q2.2)) else ((gI q2.2 9 a0 16).bind fun v3 => (pI q2.2 9 a0 16 a1).bind fun h4 => some (v3, h4))
theorem c_X9_force (h : XM) (a0 : Option Nat) (a1 : Int32) : MC I_X9_force y_X9_force [tA a0, tI a1] h ρi (f_X9_force h a0 a1) := by
  refine MC_of ⟨by decide +kernel, rfl, rfl, Nat.le_of_ble_eq_true rfl⟩ dT_X9_force (fun X => ?_)
  show SW X I_X9_force ρi 0 [(0, tA a0), (1, tI a1)] [] h 0 0 (f_X9_force h a0 a1)
  unfold f_X9_force
  refine s_iload_n (i := 0) rfl 1 rfl ?_
  refine s_iconst (i := 1) rfl (v := (0 : Int32)) (by decide) ?_
  refine s_aload_n (i := 2) rfl 0 rfl ?_
  refine s_getI (i := 3) rfl xf_9_123.r rfl (fun v1 => ?_)
  refine s_iconst (i := 4) rfl (v := (1 : Int32)) (by decide) ?_
  refine s_isub (i := 5) rfl ?_
  refine u_callSi [tI a1, tI ((0 : Int32)), tI (v1 - ((1 : Int32)))] [] rfl (i := 6) rfl (c_X9_in h a1 ((0 : Int32)) (v1 - ((1 : Int32)))) xm_X9_in (tw974) rfl (Nat.le_of_ble_eq_true rfl) (xRm.of rfl) ⟨rfl, rfl⟩ (fun q2 => ?_)
  refine s_ifne (i := 7) rfl (tgt := 17) (by decide) (fun z11 => ?_) (fun z11 => ?_)
  · refine s_bipush (i := 8) rfl (v := (-2 : Int32)) (by decide) ?_
    exact s_iret (i := 9) rfl rfl
  · refine s_aload_n (i := 10) rfl 0 rfl ?_
    refine s_getI (i := 11) rfl xf_9_126.r rfl (fun v3 => ?_)
    refine s_istore_n (i := 12) rfl (Nat.le_of_ble_eq_true rfl) (ls2 := [(2, tI v3), (0, tA a0), (1, tI a1)]) rfl ?_
    refine s_aload_n (i := 13) rfl 1 rfl ?_
    refine s_iload_n (i := 14) rfl 2 rfl ?_
    refine s_putI (i := 15) rfl xf_9_126 (fun q => by cases q) rfl rfl (fun h4 => ?_)
    refine s_iload_n (i := 16) rfl 0 rfl ?_
    exact s_iret (i := 17) rfl rfl
def y_X9_worksOut : MethodName := ⟨"OpensAtNineModel", "worksOut", "(IIIIII)I"⟩
def T_X9_worksOut : List (Nat × Instr × Nat × Nat) := [(0, .aload_n 0, 1, 1), (1, .getfield 62, 3, 4), (4, .iconst 0, 1, 5), (5, .iload_n 2, 1, 6), (6, .iastore, 1, 7), (7, .aload_n 0, 1, 8), (8, .getfield 62, 3, 11), (11, .iconst 1, 1, 12), (12, .iload_n 2, 1, 13), (13, .aload_n 0, 1, 14), (14, .getfield 7, 3, 17), (17, .irem, 1, 18), (18, .iastore, 1, 19), (19, .aload_n 0, 1, 20), (20, .getfield 62, 3, 23), (23, .iconst 2, 1, 24), (24, .iload_n 3, 1, 25), (25, .iastore, 1, 26), (26, .aload_n 0, 1, 27), (27, .getfield 62, 3, 30), (30, .iconst 3, 1, 31), (31, .iload 4, 2, 33), (33, .iastore, 1, 34), (34, .aload_n 0, 1, 35), (35, .getfield 62, 3, 38), (38, .iconst 4, 1, 39), (39, .iload 5, 2, 41), (41, .iastore, 1, 42), (42, .aload_n 0, 1, 43), (43, .getfield 62, 3, 46), (46, .iconst 5, 1, 47), (47, .iload 6, 2, 49), (49, .iastore, 1, 50), (50, .aload_n 0, 1, 51), (51, .iload_n 1, 1, 52), (52, .invokevirtual 214, 3, 55), (55, .istore 7, 2, 57), (57, .iload_n 1, 1, 58), (58, .ifCond .ne 16, 3, 61), (61, .iload 7, 2, 63), (63, .ifCond .ne 7, 3, 66), (66, .iconst 0, 1, 67), (67, .goto 15, 3, 70), (70, .iconst 1, 1, 71), (71, .goto 11, 3, 74), (74, .iload 7, 2, 76), (76, .iconst 0, 1, 77), (77, .bipush 99, 2, 79), (79, .invokestatic 217, 3, 82), (82, .ireturn, 1, 83)]
def I_X9_worksOut : MI := (prog_11_method_31_code, 8, (some .int), "OpensAtNineModel", "worksOut", T_X9_worksOut, 0, 0, 3, 106)
theorem dT_X9_worksOut : ∀ q ∈ T_X9_worksOut, decode prog_11_method_31_code q.1 = .ok (q.2.1, q.2.2.1) ∧ q.2.2.2 = q.1 + q.2.2.1 := by decide +kernel
theorem xm_X9_worksOut : xCM y_X9_worksOut I_X9_worksOut 9 6 := ⟨⟨tw1204, tw41⟩, tw84, tw1205, ⟨xT9, 49, rfl⟩, ⟨by decide +kernel, by decide +kernel, by decide +kernel⟩⟩
noncomputable def f_X9_worksOut_82 (h : XM) (s0 : Int32) : Option (Int32 × XM) := some (s0, h)
noncomputable def f_X9_worksOut (h : XM) (a0 : Option Nat) (a1 : Int32) (a2 : Int32) (a3 : Int32) (a4 : Int32) (a5 : Int32) (a6 : Int32) : Option (Int32 × XM) := (gR h 9 a0 34).bind fun v1 => (sI h v1 ((0 : Int32)) a2).bind fun h2 => (gR h2 9 a0 34).bind fun v3 => (gI h2 9 a0 0).bind fun v4 => (irem a2 v4).bind fun v5 => (sI h2 v3 ((1 : Int32)) v5).bind fun h6 => (gR h6 9 a0 34).bind fun v7 => (sI h6 v7 ((2 : Int32)) a3).bind fun h8 => (gR h8 9 a0 34).bind fun v9 => (sI h8 v9 ((3 : Int32)) a4).bind fun h10 => (gR h10 9 a0 34).bind fun v11 => (sI h10 v11 ((4 : Int32)) a5).bind fun h12 => (gR h12 9 a0 34).bind fun v13 => (sI h12 v13 ((5 : Int32)) a6).bind fun h14 => (vc h14 9 a0 (f_X9_says h14 a0 a1)).bind fun q15 => if a1 = 0 then (if q15.1 = 0 then (f_X9_worksOut_82 q15.2 ((0 : Int32))) else (f_X9_worksOut_82 q15.2 ((1 : Int32)))) else ((f_X9_within q15.2 q15.1 ((0 : Int32)) ((99 : Int32))).bind fun q16 => f_X9_worksOut_82 q16.2 q16.1)
theorem b_X9_worksOut_82 (X : XX) (h : XM) (s0 : Int32) : SW X I_X9_worksOut ρi 82 [] [tI s0] h 0 0 (f_X9_worksOut_82 h s0) := by
  unfold f_X9_worksOut_82
  exact s_iret (i := 49) rfl rfl
theorem c_X9_worksOut (h : XM) (a0 : Option Nat) (a1 : Int32) (a2 : Int32) (a3 : Int32) (a4 : Int32) (a5 : Int32) (a6 : Int32) : MC I_X9_worksOut y_X9_worksOut [tA a0, tI a1, tI a2, tI a3, tI a4, tI a5, tI a6] h ρi (f_X9_worksOut h a0 a1 a2 a3 a4 a5 a6) := by
  refine MC_of ⟨by decide +kernel, rfl, rfl, Nat.le_of_ble_eq_true rfl⟩ dT_X9_worksOut (fun X => ?_)
  show SW X I_X9_worksOut ρi 0 [(0, tA a0), (1, tI a1), (2, tI a2), (3, tI a3), (4, tI a4), (5, tI a5), (6, tI a6)] [] h 0 0 (f_X9_worksOut h a0 a1 a2 a3 a4 a5 a6)
  unfold f_X9_worksOut
  refine s_aload_n (i := 0) rfl 0 rfl ?_
  refine s_getR (i := 1) rfl xf_9_62.r rfl (fun v1 => ?_)
  refine s_iconst (i := 2) rfl (v := (0 : Int32)) (by decide) ?_
  refine s_iload_n (i := 3) rfl 2 rfl ?_
  refine s_iastore (i := 4) rfl (fun h2 => ?_)
  refine s_aload_n (i := 5) rfl 0 rfl ?_
  refine s_getR (i := 6) rfl xf_9_62.r rfl (fun v3 => ?_)
  refine s_iconst (i := 7) rfl (v := (1 : Int32)) (by decide) ?_
  refine s_iload_n (i := 8) rfl 2 rfl ?_
  refine s_aload_n (i := 9) rfl 0 rfl ?_
  refine s_getI (i := 10) rfl xf_9_7.r rfl (fun v4 => ?_)
  refine s_irem (i := 11) rfl (fun v5 => ?_)
  refine s_iastore (i := 12) rfl (fun h6 => ?_)
  refine s_aload_n (i := 13) rfl 0 rfl ?_
  refine s_getR (i := 14) rfl xf_9_62.r rfl (fun v7 => ?_)
  refine s_iconst (i := 15) rfl (v := (2 : Int32)) (by decide) ?_
  refine s_iload_n (i := 16) rfl 3 rfl ?_
  refine s_iastore (i := 17) rfl (fun h8 => ?_)
  refine s_aload_n (i := 18) rfl 0 rfl ?_
  refine s_getR (i := 19) rfl xf_9_62.r rfl (fun v9 => ?_)
  refine s_iconst (i := 20) rfl (v := (3 : Int32)) (by decide) ?_
  refine s_iload (i := 21) rfl 4 rfl ?_
  refine s_iastore (i := 22) rfl (fun h10 => ?_)
  refine s_aload_n (i := 23) rfl 0 rfl ?_
  refine s_getR (i := 24) rfl xf_9_62.r rfl (fun v11 => ?_)
  refine s_iconst (i := 25) rfl (v := (4 : Int32)) (by decide) ?_
  refine s_iload (i := 26) rfl 5 rfl ?_
  refine s_iastore (i := 27) rfl (fun h12 => ?_)
  refine s_aload_n (i := 28) rfl 0 rfl ?_
  refine s_getR (i := 29) rfl xf_9_62.r rfl (fun v13 => ?_)
  refine s_iconst (i := 30) rfl (v := (5 : Int32)) (by decide) ?_
  refine s_iload (i := 31) rfl 6 rfl ?_
  refine s_iastore (i := 32) rfl (fun h14 => ?_)
  refine s_aload_n (i := 33) rfl 0 rfl ?_
  refine s_iload_n (i := 34) rfl 1 rfl ?_
  refine u_callVi (kk := 9) [tI a1] a0 [] rfl (i := 35) rfl (c_X9_says h14 a0 a1) xm_X9_says (tw1206) rfl (Nat.le_of_ble_eq_true rfl) (xRm.of rfl) ⟨rfl, rfl⟩ (fun q15 => ?_)
  refine s_istore (i := 36) rfl (Nat.le_of_ble_eq_true rfl) (ls2 := [(7, tI q15.1), (0, tA a0), (1, tI a1), (2, tI a2), (3, tI a3), (4, tI a4), (5, tI a5), (6, tI a6)]) rfl ?_
  refine s_iload_n (i := 37) rfl 2 rfl ?_
  refine s_ifne (i := 38) rfl (tgt := 74) (by decide) (fun z58 => ?_) (fun z58 => ?_)
  · refine s_iload (i := 39) rfl 0 rfl ?_
    refine s_ifne (i := 40) rfl (tgt := 70) (by decide) (fun z63 => ?_) (fun z63 => ?_)
    · refine s_iconst (i := 41) rfl (v := (0 : Int32)) (by decide) ?_
      refine s_goto (i := 42) rfl (tgt := 82) (by decide) ?_
      exact s_sub [] rfl (b_X9_worksOut_82 X q15.2 ((0 : Int32)))
    · refine s_iconst (i := 43) rfl (v := (1 : Int32)) (by decide) ?_
      refine s_goto (i := 44) rfl (tgt := 82) (by decide) ?_
      exact s_sub [] rfl (b_X9_worksOut_82 X q15.2 ((1 : Int32)))
  · refine s_iload (i := 45) rfl 0 rfl ?_
    refine s_iconst (i := 46) rfl (v := (0 : Int32)) (by decide) ?_
    refine s_bipush (i := 47) rfl (v := (99 : Int32)) (by decide) ?_
    refine u_callSi [tI q15.1, tI ((0 : Int32)), tI ((99 : Int32))] [] rfl (i := 48) rfl (c_X9_within q15.2 q15.1 ((0 : Int32)) ((99 : Int32))) xm_X9_within (tw1213) rfl (Nat.le_of_ble_eq_true rfl) (xRm.of rfl) ⟨rfl, rfl⟩ (fun q16 => ?_)
    exact s_sub [] rfl (b_X9_worksOut_82 X q16.2 q16.1)
def y_X9_asksOf : MethodName := ⟨"OpensAtNineModel", "asksOf", "(IIIIII)I"⟩
def T_X9_asksOf : List (Nat × Instr × Nat × Nat) := [(0, .aload_n 0, 1, 1), (1, .getfield 192, 3, 4), (4, .ifCond .ne 17, 3, 7), (7, .aload_n 0, 1, 8), (8, .iload_n 1, 1, 9), (9, .iload_n 2, 1, 10), (10, .iload_n 3, 1, 11), (11, .iload 4, 2, 13), (13, .iload 5, 2, 15), (15, .iload 6, 2, 17), (17, .invokevirtual 196, 3, 20), (20, .ireturn, 1, 21), (21, .iload_n 1, 1, 22), (22, .i2l, 1, 23), (23, .ldc2_w 200, 3, 26), (26, .lmul, 1, 27), (27, .iload_n 2, 1, 28), (28, .i2l, 1, 29), (29, .ladd, 1, 30), (30, .ldc2_w 202, 3, 33), (33, .lmul, 1, 34), (34, .iload_n 3, 1, 35), (35, .i2l, 1, 36), (36, .ladd, 1, 37), (37, .ldc2_w 204, 3, 40), (40, .lmul, 1, 41), (41, .iload 4, 2, 43), (43, .i2l, 1, 44), (44, .ladd, 1, 45), (45, .ldc2_w 206, 3, 48), (48, .lmul, 1, 49), (49, .iload 5, 2, 51), (51, .i2l, 1, 52), (52, .ladd, 1, 53), (53, .ldc2_w 206, 3, 56), (56, .lmul, 1, 57), (57, .iload 6, 2, 59), (59, .i2l, 1, 60), (60, .ladd, 1, 61), (61, .lstore 7, 2, 63), (63, .lload 7, 2, 65), (65, .ldc2_w 208, 3, 68), (68, .lmul, 1, 69), (69, .lload 7, 2, 71), (71, .ldc2_w 210, 3, 74), (74, .ldiv, 1, 75), (75, .ladd, 1, 76), (76, .ldc2_w 212, 3, 79), (79, .lrem, 1, 80), (80, .l2i, 1, 81), (81, .istore 9, 2, 83), (83, .aload_n 0, 1, 84), (84, .getfield 65, 3, 87), (87, .iload 9, 2, 89), (89, .laload, 1, 90), (90, .lload 7, 2, 92), (92, .lcmp, 1, 93), (93, .ifCond .eq 32, 3, 96), (96, .aload_n 0, 1, 97), (97, .getfield 65, 3, 100), (100, .iload 9, 2, 102), (102, .lload 7, 2, 104), (104, .lastore, 1, 105), (105, .aload_n 0, 1, 106), (106, .getfield 69, 3, 109), (109, .iload 9, 2, 111), (111, .aload_n 0, 1, 112), (112, .iload_n 1, 1, 113), (113, .iload_n 2, 1, 114), (114, .iload_n 3, 1, 115), (115, .iload 4, 2, 117), (117, .iload 5, 2, 119), (119, .iload 6, 2, 121), (121, .invokevirtual 196, 3, 124), (124, .iastore, 1, 125), (125, .aload_n 0, 1, 126), (126, .getfield 69, 3, 129), (129, .iload 9, 2, 131), (131, .iaload, 1, 132), (132, .ireturn, 1, 133)]
def I_X9_asksOf : MI := (prog_11_method_30_code, 10, (some .int), "OpensAtNineModel", "asksOf", T_X9_asksOf, 0, 0, 4, 133)
theorem dT_X9_asksOf : ∀ q ∈ T_X9_asksOf, decode prog_11_method_30_code q.1 = .ok (q.2.1, q.2.2.1) ∧ q.2.2.2 = q.1 + q.2.2.1 := by decide +kernel
theorem xm_X9_asksOf : xCM y_X9_asksOf I_X9_asksOf 9 6 := ⟨⟨tw1200, tw40⟩, tw84, tw1201, ⟨xT9, 49, rfl⟩, ⟨by decide +kernel, by decide +kernel, by decide +kernel⟩⟩
noncomputable def f_X9_asksOf_125 (h : XM) (l0 : Option Nat) (l9 : Int32) : Option (Int32 × XM) := (gR h 9 l0 36).bind fun v1 => (rI h v1 l9).bind fun v2 => some (v2, h)
noncomputable def f_X9_asksOf (h : XM) (a0 : Option Nat) (a1 : Int32) (a2 : Int32) (a3 : Int32) (a4 : Int32) (a5 : Int32) (a6 : Int32) : Option (Int32 × XM) := (gI h 9 a0 37).bind fun v3 => if v3 = 0 then ((vc h 9 a0 (f_X9_worksOut h a0 a1 a2 a3 a4 a5 a6)).bind fun q4 => some (q4.1, q4.2)) else (bnd ((((((((((a1.toInt64 * ((10000 : Int64))) + a2.toInt64) * ((1000 : Int64))) + a3.toInt64) * ((100 : Int64))) + a4.toInt64) * ((10 : Int64))) + a5.toInt64) * ((10 : Int64))) + a6.toInt64) fun v5 => (ldiv v5 ((4099 : Int64))).bind fun v6 => (lrem ((v5 * ((31 : Int64))) + v6) ((4096 : Int64))).bind fun v7 => (gR h 9 a0 35).bind fun v8 => (rL h v8 v7.toInt32).bind fun v9 => if (lg_cmp v9 v5) = 0 then (f_X9_asksOf_125 h a0 v7.toInt32) else ((gR h 9 a0 35).bind fun v10 => (sL h v10 v7.toInt32 v5).bind fun h11 => (gR h11 9 a0 36).bind fun v12 => (vc h11 9 a0 (f_X9_worksOut h11 a0 a1 a2 a3 a4 a5 a6)).bind fun q13 => (sI q13.2 v12 v7.toInt32 q13.1).bind fun h14 => f_X9_asksOf_125 h14 a0 v7.toInt32))
theorem b_X9_asksOf_125 (X : XX) (h : XM) (l0 : Option Nat) (l9 : Int32) : SW X I_X9_asksOf ρi 125 [(0, tA l0), (9, tI l9)] [] h 0 0 (f_X9_asksOf_125 h l0 l9) := by
  unfold f_X9_asksOf_125
  refine s_aload_n (i := 75) rfl 0 rfl ?_
  refine s_getR (i := 76) rfl xf_9_69.r rfl (fun v1 => ?_)
  refine s_iload (i := 77) rfl 1 rfl ?_
  refine s_iaload (i := 78) rfl (fun v2 => ?_)
  exact s_iret (i := 79) rfl rfl
theorem c_X9_asksOf (h : XM) (a0 : Option Nat) (a1 : Int32) (a2 : Int32) (a3 : Int32) (a4 : Int32) (a5 : Int32) (a6 : Int32) : MC I_X9_asksOf y_X9_asksOf [tA a0, tI a1, tI a2, tI a3, tI a4, tI a5, tI a6] h ρi (f_X9_asksOf h a0 a1 a2 a3 a4 a5 a6) := by
  refine MC_of ⟨by decide +kernel, rfl, rfl, Nat.le_of_ble_eq_true rfl⟩ dT_X9_asksOf (fun X => ?_)
  show SW X I_X9_asksOf ρi 0 [(0, tA a0), (1, tI a1), (2, tI a2), (3, tI a3), (4, tI a4), (5, tI a5), (6, tI a6)] [] h 0 0 (f_X9_asksOf h a0 a1 a2 a3 a4 a5 a6)
  unfold f_X9_asksOf
  refine s_aload_n (i := 0) rfl 0 rfl ?_
  refine s_getI (i := 1) rfl xf_9_192.r rfl (fun v3 => ?_)
  refine s_ifne (i := 2) rfl (tgt := 21) (by decide) (fun z4 => ?_) (fun z4 => ?_)
  · refine s_aload_n (i := 3) rfl 0 rfl ?_
    refine s_iload_n (i := 4) rfl 1 rfl ?_
    refine s_iload_n (i := 5) rfl 2 rfl ?_
    refine s_iload_n (i := 6) rfl 3 rfl ?_
    refine s_iload (i := 7) rfl 4 rfl ?_
    refine s_iload (i := 8) rfl 5 rfl ?_
    refine s_iload (i := 9) rfl 6 rfl ?_
    refine u_callVi (kk := 9) [tI a1, tI a2, tI a3, tI a4, tI a5, tI a6] a0 [] rfl (i := 10) rfl (c_X9_worksOut h a0 a1 a2 a3 a4 a5 a6) xm_X9_worksOut (tw1202) rfl (Nat.le_of_ble_eq_true rfl) (xRm.of rfl) ⟨rfl, rfl⟩ (fun q4 => ?_)
    exact s_iret (i := 11) rfl rfl
  · refine s_iload_n (i := 12) rfl 1 rfl ?_
    refine s_i2l (i := 13) rfl ?_
    refine s_ldc2 (i := 14) rfl (v := (10000 : Int64)) (tw1216) ?_
    refine s_lmul (i := 15) rfl ?_
    refine s_iload_n (i := 16) rfl 2 rfl ?_
    refine s_i2l (i := 17) rfl ?_
    refine s_ladd (i := 18) rfl ?_
    refine s_ldc2 (i := 19) rfl (v := (1000 : Int64)) (tw1217) ?_
    refine s_lmul (i := 20) rfl ?_
    refine s_iload_n (i := 21) rfl 3 rfl ?_
    refine s_i2l (i := 22) rfl ?_
    refine s_ladd (i := 23) rfl ?_
    refine s_ldc2 (i := 24) rfl (v := (100 : Int64)) (tw1218) ?_
    refine s_lmul (i := 25) rfl ?_
    refine s_iload (i := 26) rfl 4 rfl ?_
    refine s_i2l (i := 27) rfl ?_
    refine s_ladd (i := 28) rfl ?_
    refine s_ldc2 (i := 29) rfl (v := (10 : Int64)) (tw1219) ?_
    refine s_lmul (i := 30) rfl ?_
    refine s_iload (i := 31) rfl 5 rfl ?_
    refine s_i2l (i := 32) rfl ?_
    refine s_ladd (i := 33) rfl ?_
    refine s_ldc2 (i := 34) rfl (v := (10 : Int64)) (tw1219) ?_
    refine s_lmul (i := 35) rfl ?_
    refine s_iload (i := 36) rfl 6 rfl ?_
    refine s_i2l (i := 37) rfl ?_
    refine s_ladd (i := 38) rfl ?_
    refine s_bndL (fun v5 => ?_)
    refine s_lstore (i := 39) rfl (Nat.le_of_ble_eq_true rfl) (ls2 := [(7, tL v5), (0, tA a0), (1, tI a1), (2, tI a2), (3, tI a3), (4, tI a4), (5, tI a5), (6, tI a6)]) rfl ?_
    refine s_lload (i := 40) rfl 0 rfl ?_
    refine s_ldc2 (i := 41) rfl (v := (31 : Int64)) (tw1220) ?_
    refine s_lmul (i := 42) rfl ?_
    refine s_lload (i := 43) rfl 0 rfl ?_
    refine s_ldc2 (i := 44) rfl (v := (4099 : Int64)) (tw1221) ?_
    refine s_ldiv (i := 45) rfl (fun v6 => ?_)
    refine s_ladd (i := 46) rfl ?_
    refine s_ldc2 (i := 47) rfl (v := (4096 : Int64)) (tw1222) ?_
    refine s_lrem (i := 48) rfl (fun v7 => ?_)
    refine s_l2i (i := 49) rfl ?_
    refine s_istore (i := 50) rfl (Nat.le_of_ble_eq_true rfl) (ls2 := [(9, tI v7.toInt32), (7, tL v5), (0, tA a0), (1, tI a1), (2, tI a2), (3, tI a3), (4, tI a4), (5, tI a5), (6, tI a6)]) rfl ?_
    refine s_aload_n (i := 51) rfl 2 rfl ?_
    refine s_getR (i := 52) rfl xf_9_65.r rfl (fun v8 => ?_)
    refine s_iload (i := 53) rfl 0 rfl ?_
    refine s_laload (i := 54) rfl (fun v9 => ?_)
    refine s_lload (i := 55) rfl 1 rfl ?_
    refine s_lcmp (i := 56) rfl ?_
    refine s_ifeq (i := 57) rfl (tgt := 125) (by decide) (fun z93 => ?_) (fun z93 => ?_)
    · exact s_sub [2, 0] rfl (b_X9_asksOf_125 X h a0 v7.toInt32)
    · refine s_aload_n (i := 58) rfl 2 rfl ?_
      refine s_getR (i := 59) rfl xf_9_65.r rfl (fun v10 => ?_)
      refine s_iload (i := 60) rfl 0 rfl ?_
      refine s_lload (i := 61) rfl 1 rfl ?_
      refine s_lastore (i := 62) rfl (fun h11 => ?_)
      refine s_aload_n (i := 63) rfl 2 rfl ?_
      refine s_getR (i := 64) rfl xf_9_69.r rfl (fun v12 => ?_)
      refine s_iload (i := 65) rfl 0 rfl ?_
      refine s_aload_n (i := 66) rfl 2 rfl ?_
      refine s_iload_n (i := 67) rfl 3 rfl ?_
      refine s_iload_n (i := 68) rfl 4 rfl ?_
      refine s_iload_n (i := 69) rfl 5 rfl ?_
      refine s_iload (i := 70) rfl 6 rfl ?_
      refine s_iload (i := 71) rfl 7 rfl ?_
      refine s_iload (i := 72) rfl 8 rfl ?_
      refine u_callVi (kk := 9) [tI a1, tI a2, tI a3, tI a4, tI a5, tI a6] a0 [tI v7.toInt32, tA v12] rfl (i := 73) rfl (c_X9_worksOut h11 a0 a1 a2 a3 a4 a5 a6) xm_X9_worksOut (tw1202) rfl (Nat.le_of_ble_eq_true rfl) (xRm.of rfl) ⟨rfl, rfl⟩ (fun q13 => ?_)
      refine s_iastore (i := 74) rfl (fun h14 => ?_)
      exact s_sub [2, 0] rfl (b_X9_asksOf_125 X h14 a0 v7.toInt32)
def y_X9_asks : MethodName := ⟨"OpensAtNineModel", "asks", "(IIIII)I"⟩
def T_X9_asks : List (Nat × Instr × Nat × Nat) := [(0, .iload_n 1, 1, 1), (1, .iconst 0, 1, 2), (2, .iconst 2, 1, 3), (3, .invokestatic 100, 3, 6), (6, .ifCond .eq 51, 3, 9), (9, .iload_n 2, 1, 10), (10, .iconst 0, 1, 11), (11, .sipush 9999, 3, 14), (14, .invokestatic 100, 3, 17), (17, .ifCond .eq 40, 3, 20), (20, .iload_n 3, 1, 21), (21, .iconst 0, 1, 22), (22, .sipush 999, 3, 25), (25, .invokestatic 100, 3, 28), (28, .ifCond .eq 29, 3, 31), (31, .iload 4, 2, 33), (33, .iconst 0, 1, 34), (34, .bipush 99, 2, 36), (36, .invokestatic 100, 3, 39), (39, .ifCond .eq 18, 3, 42), (42, .iload 5, 2, 44), (44, .iconst 0, 1, 45), (45, .bipush 99, 2, 47), (47, .invokestatic 100, 3, 50), (50, .ifCond .eq 7, 3, 53), (53, .iconst 1, 1, 54), (54, .goto 4, 3, 57), (57, .iconst 0, 1, 58), (58, .istore 6, 2, 60), (60, .iload 6, 2, 62), (62, .ifCond .eq 25, 3, 65), (65, .aload_n 0, 1, 66), (66, .iload_n 1, 1, 67), (67, .iload_n 2, 1, 68), (68, .iload_n 3, 1, 69), (69, .iload 4, 2, 71), (71, .iload 5, 2, 73), (73, .bipush 10, 2, 75), (75, .idiv, 1, 76), (76, .iload 5, 2, 78), (78, .bipush 10, 2, 80), (80, .irem, 1, 81), (81, .invokevirtual 220, 3, 84), (84, .goto 5, 3, 87), (87, .bipush (-2), 2, 89), (89, .ireturn, 1, 90)]
def I_X9_asks : MI := (prog_11_method_32_code, 7, (some .int), "OpensAtNineModel", "asks", T_X9_asks, 0, 0, 5, 162)
theorem dT_X9_asks : ∀ q ∈ T_X9_asks, decode prog_11_method_32_code q.1 = .ok (q.2.1, q.2.2.1) ∧ q.2.2.2 = q.1 + q.2.2.1 := by decide +kernel
theorem xm_X9_asks : xCM y_X9_asks I_X9_asks 9 5 := ⟨⟨tw1195, tw1196⟩, tw84, tw1197, ⟨xT9, 49, rfl⟩, ⟨by decide +kernel, by decide +kernel, by decide +kernel⟩⟩
noncomputable def f_X9_asks_89 (h : XM) (s0 : Int32) : Option (Int32 × XM) := some (s0, h)
noncomputable def f_X9_asks_58 (h : XM) (l0 : Option Nat) (l1 : Int32) (l2 : Int32) (l3 : Int32) (l4 : Int32) (l5 : Int32) (s0 : Int32) : Option (Int32 × XM) := if s0 = 0 then (f_X9_asks_89 h ((-2 : Int32))) else ((idiv l5 ((10 : Int32))).bind fun v1 => (irem l5 ((10 : Int32))).bind fun v2 => (vc h 9 l0 (f_X9_asksOf h l0 l1 l2 l3 l4 v1 v2)).bind fun q3 => f_X9_asks_89 q3.2 q3.1)
noncomputable def f_X9_asks_57 (h : XM) (l0 : Option Nat) (l1 : Int32) (l2 : Int32) (l3 : Int32) (l4 : Int32) (l5 : Int32) : Option (Int32 × XM) := f_X9_asks_58 h l0 l1 l2 l3 l4 l5 ((0 : Int32))
noncomputable def f_X9_asks (h : XM) (a0 : Option Nat) (a1 : Int32) (a2 : Int32) (a3 : Int32) (a4 : Int32) (a5 : Int32) : Option (Int32 × XM) := (f_X9_in h a1 ((0 : Int32)) ((2 : Int32))).bind fun q4 => if q4.1 = 0 then (f_X9_asks_57 q4.2 a0 a1 a2 a3 a4 a5) else ((f_X9_in q4.2 a2 ((0 : Int32)) ((9999 : Int32))).bind fun q5 => if q5.1 = 0 then (f_X9_asks_57 q5.2 a0 a1 a2 a3 a4 a5) else ((f_X9_in q5.2 a3 ((0 : Int32)) ((999 : Int32))).bind fun q6 => if q6.1 = 0 then (f_X9_asks_57 q6.2 a0 a1 a2 a3 a4 a5) else ((f_X9_in q6.2 a4 ((0 : Int32)) ((99 : Int32))).bind fun q7 => if q7.1 = 0 then (f_X9_asks_57 q7.2 a0 a1 a2 a3 a4 a5) else ((f_X9_in q7.2 a5 ((0 : Int32)) ((99 : Int32))).bind fun q8 => if q8.1 = 0 then (f_X9_asks_57 q8.2 a0 a1 a2 a3 a4 a5) else (f_X9_asks_58 q8.2 a0 a1 a2 a3 a4 a5 ((1 : Int32)))))))
theorem b_X9_asks_89 (X : XX) (h : XM) (s0 : Int32) : SW X I_X9_asks ρi 89 [] [tI s0] h 0 0 (f_X9_asks_89 h s0) := by
  unfold f_X9_asks_89
  exact s_iret (i := 45) rfl rfl
theorem b_X9_asks_58 (X : XX) (h : XM) (l0 : Option Nat) (l1 : Int32) (l2 : Int32) (l3 : Int32) (l4 : Int32) (l5 : Int32) (s0 : Int32) : SW X I_X9_asks ρi 58 [(0, tA l0), (1, tI l1), (2, tI l2), (3, tI l3), (4, tI l4), (5, tI l5)] [tI s0] h 0 0 (f_X9_asks_58 h l0 l1 l2 l3 l4 l5 s0) := by
  unfold f_X9_asks_58
  refine s_istore (i := 28) rfl (Nat.le_of_ble_eq_true rfl) (ls2 := [(6, tI s0), (0, tA l0), (1, tI l1), (2, tI l2), (3, tI l3), (4, tI l4), (5, tI l5)]) rfl ?_
  refine s_iload (i := 29) rfl 0 rfl ?_
  refine s_ifeq (i := 30) rfl (tgt := 87) (by decide) (fun z62 => ?_) (fun z62 => ?_)
  · refine s_bipush (i := 44) rfl (v := (-2 : Int32)) (by decide) ?_
    exact s_sub [] rfl (b_X9_asks_89 X h ((-2 : Int32)))
  · refine s_aload_n (i := 31) rfl 1 rfl ?_
    refine s_iload_n (i := 32) rfl 2 rfl ?_
    refine s_iload_n (i := 33) rfl 3 rfl ?_
    refine s_iload_n (i := 34) rfl 4 rfl ?_
    refine s_iload (i := 35) rfl 5 rfl ?_
    refine s_iload (i := 36) rfl 6 rfl ?_
    refine s_bipush (i := 37) rfl (v := (10 : Int32)) (by decide) ?_
    refine s_idiv (i := 38) rfl (fun v1 => ?_)
    refine s_iload (i := 39) rfl 6 rfl ?_
    refine s_bipush (i := 40) rfl (v := (10 : Int32)) (by decide) ?_
    refine s_irem (i := 41) rfl (fun v2 => ?_)
    refine u_callVi (kk := 9) [tI l1, tI l2, tI l3, tI l4, tI v1, tI v2] l0 [] rfl (i := 42) rfl (c_X9_asksOf h l0 l1 l2 l3 l4 v1 v2) xm_X9_asksOf (tw1198) rfl (Nat.le_of_ble_eq_true rfl) (xRm.of rfl) ⟨rfl, rfl⟩ (fun q3 => ?_)
    refine s_goto (i := 43) rfl (tgt := 89) (by decide) ?_
    exact s_sub [] rfl (b_X9_asks_89 X q3.2 q3.1)
theorem b_X9_asks_57 (X : XX) (h : XM) (l0 : Option Nat) (l1 : Int32) (l2 : Int32) (l3 : Int32) (l4 : Int32) (l5 : Int32) : SW X I_X9_asks ρi 57 [(0, tA l0), (1, tI l1), (2, tI l2), (3, tI l3), (4, tI l4), (5, tI l5)] [] h 0 0 (f_X9_asks_57 h l0 l1 l2 l3 l4 l5) := by
  unfold f_X9_asks_57
  refine s_iconst (i := 27) rfl (v := (0 : Int32)) (by decide) ?_
  exact s_sub [0, 1, 2, 3, 4, 5] rfl (b_X9_asks_58 X h l0 l1 l2 l3 l4 l5 ((0 : Int32)))
theorem c_X9_asks (h : XM) (a0 : Option Nat) (a1 : Int32) (a2 : Int32) (a3 : Int32) (a4 : Int32) (a5 : Int32) : MC I_X9_asks y_X9_asks [tA a0, tI a1, tI a2, tI a3, tI a4, tI a5] h ρi (f_X9_asks h a0 a1 a2 a3 a4 a5) := by
  refine MC_of ⟨by decide +kernel, rfl, rfl, Nat.le_of_ble_eq_true rfl⟩ dT_X9_asks (fun X => ?_)
  show SW X I_X9_asks ρi 0 [(0, tA a0), (1, tI a1), (2, tI a2), (3, tI a3), (4, tI a4), (5, tI a5)] [] h 0 0 (f_X9_asks h a0 a1 a2 a3 a4 a5)
  unfold f_X9_asks
  refine s_iload_n (i := 0) rfl 1 rfl ?_
  refine s_iconst (i := 1) rfl (v := (0 : Int32)) (by decide) ?_
  refine s_iconst (i := 2) rfl (v := (2 : Int32)) (by decide) ?_
  refine u_callSi [tI a1, tI ((0 : Int32)), tI ((2 : Int32))] [] rfl (i := 3) rfl (c_X9_in h a1 ((0 : Int32)) ((2 : Int32))) xm_X9_in (tw974) rfl (Nat.le_of_ble_eq_true rfl) (xRm.of rfl) ⟨rfl, rfl⟩ (fun q4 => ?_)
  refine s_ifeq (i := 4) rfl (tgt := 57) (by decide) (fun z6 => ?_) (fun z6 => ?_)
  · exact s_sub [0, 1, 2, 3, 4, 5] rfl (b_X9_asks_57 X q4.2 a0 a1 a2 a3 a4 a5)
  · refine s_iload_n (i := 5) rfl 2 rfl ?_
    refine s_iconst (i := 6) rfl (v := (0 : Int32)) (by decide) ?_
    refine s_sipush (i := 7) rfl (v := (9999 : Int32)) (by decide) ?_
    refine u_callSi [tI a2, tI ((0 : Int32)), tI ((9999 : Int32))] [] rfl (i := 8) rfl (c_X9_in q4.2 a2 ((0 : Int32)) ((9999 : Int32))) xm_X9_in (tw974) rfl (Nat.le_of_ble_eq_true rfl) (xRm.of rfl) ⟨rfl, rfl⟩ (fun q5 => ?_)
    refine s_ifeq (i := 9) rfl (tgt := 57) (by decide) (fun z17 => ?_) (fun z17 => ?_)
    · exact s_sub [0, 1, 2, 3, 4, 5] rfl (b_X9_asks_57 X q5.2 a0 a1 a2 a3 a4 a5)
    · refine s_iload_n (i := 10) rfl 3 rfl ?_
      refine s_iconst (i := 11) rfl (v := (0 : Int32)) (by decide) ?_
      refine s_sipush (i := 12) rfl (v := (999 : Int32)) (by decide) ?_
      refine u_callSi [tI a3, tI ((0 : Int32)), tI ((999 : Int32))] [] rfl (i := 13) rfl (c_X9_in q5.2 a3 ((0 : Int32)) ((999 : Int32))) xm_X9_in (tw974) rfl (Nat.le_of_ble_eq_true rfl) (xRm.of rfl) ⟨rfl, rfl⟩ (fun q6 => ?_)
      refine s_ifeq (i := 14) rfl (tgt := 57) (by decide) (fun z28 => ?_) (fun z28 => ?_)
      · exact s_sub [0, 1, 2, 3, 4, 5] rfl (b_X9_asks_57 X q6.2 a0 a1 a2 a3 a4 a5)
      · refine s_iload (i := 15) rfl 4 rfl ?_
        refine s_iconst (i := 16) rfl (v := (0 : Int32)) (by decide) ?_
        refine s_bipush (i := 17) rfl (v := (99 : Int32)) (by decide) ?_
        refine u_callSi [tI a4, tI ((0 : Int32)), tI ((99 : Int32))] [] rfl (i := 18) rfl (c_X9_in q6.2 a4 ((0 : Int32)) ((99 : Int32))) xm_X9_in (tw974) rfl (Nat.le_of_ble_eq_true rfl) (xRm.of rfl) ⟨rfl, rfl⟩ (fun q7 => ?_)
        refine s_ifeq (i := 19) rfl (tgt := 57) (by decide) (fun z39 => ?_) (fun z39 => ?_)
        · exact s_sub [0, 1, 2, 3, 4, 5] rfl (b_X9_asks_57 X q7.2 a0 a1 a2 a3 a4 a5)
        · refine s_iload (i := 20) rfl 5 rfl ?_
          refine s_iconst (i := 21) rfl (v := (0 : Int32)) (by decide) ?_
          refine s_bipush (i := 22) rfl (v := (99 : Int32)) (by decide) ?_
          refine u_callSi [tI a5, tI ((0 : Int32)), tI ((99 : Int32))] [] rfl (i := 23) rfl (c_X9_in q7.2 a5 ((0 : Int32)) ((99 : Int32))) xm_X9_in (tw974) rfl (Nat.le_of_ble_eq_true rfl) (xRm.of rfl) ⟨rfl, rfl⟩ (fun q8 => ?_)
          refine s_ifeq (i := 24) rfl (tgt := 57) (by decide) (fun z50 => ?_) (fun z50 => ?_)
          · exact s_sub [0, 1, 2, 3, 4, 5] rfl (b_X9_asks_57 X q8.2 a0 a1 a2 a3 a4 a5)
          · refine s_iconst (i := 25) rfl (v := (1 : Int32)) (by decide) ?_
            refine s_goto (i := 26) rfl (tgt := 58) (by decide) ?_
            exact s_sub [0, 1, 2, 3, 4, 5] rfl (b_X9_asks_58 X q8.2 a0 a1 a2 a3 a4 a5 ((1 : Int32)))
def y_X9_coin : MethodName := ⟨"OpensAtNineModel", "coin", "(IIII)I"⟩
def T_X9_coin : List (Nat × Instr × Nat × Nat) := [(0, .aload_n 0, 1, 1), (1, .iload_n 1, 1, 2), (2, .invokevirtual 119, 3, 5), (5, .ifCond .eq 33, 3, 8), (8, .iload_n 2, 1, 9), (9, .iconst 0, 1, 10), (10, .iconst 5, 1, 11), (11, .invokestatic 100, 3, 14), (14, .ifCond .eq 24, 3, 17), (17, .iload_n 3, 1, 18), (18, .iconst 0, 1, 19), (19, .bipush 30, 2, 21), (21, .invokestatic 100, 3, 24), (24, .ifCond .eq 14, 3, 27), (27, .iload 4, 2, 29), (29, .iconst 0, 1, 30), (30, .bipush 9, 2, 32), (32, .invokestatic 100, 3, 35), (35, .ifCond .ne 6, 3, 38), (38, .bipush (-2), 2, 40), (40, .ireturn, 1, 41), (41, .aload_n 0, 1, 42), (42, .getfield 104, 3, 45), (45, .bipush 7, 2, 47), (47, .if_icmp .ne 6, 3, 50), (50, .bipush (-4), 2, 52), (52, .ireturn, 1, 53), (53, .aload_n 0, 1, 54), (54, .getfield 13, 3, 57), (57, .aload_n 0, 1, 58), (58, .getfield 104, 3, 61), (61, .iload_n 1, 1, 62), (62, .iastore, 1, 63), (63, .aload_n 0, 1, 64), (64, .getfield 17, 3, 67), (67, .aload_n 0, 1, 68), (68, .getfield 104, 3, 71), (71, .iload_n 2, 1, 72), (72, .iastore, 1, 73), (73, .aload_n 0, 1, 74), (74, .getfield 20, 3, 77), (77, .aload_n 0, 1, 78), (78, .getfield 104, 3, 81), (81, .iload_n 3, 1, 82), (82, .iastore, 1, 83), (83, .aload_n 0, 1, 84), (84, .getfield 23, 3, 87), (87, .aload_n 0, 1, 88), (88, .getfield 104, 3, 91), (91, .iload 4, 2, 93), (93, .iastore, 1, 94), (94, .aload_n 0, 1, 95), (95, .dup, 1, 96), (96, .getfield 110, 3, 99), (99, .iconst 1, 1, 100), (100, .aload_n 0, 1, 101), (101, .getfield 104, 3, 104), (104, .ishl, 1, 105), (105, .iconst (-1), 1, 106), (106, .ixor, 1, 107), (107, .iand, 1, 108), (108, .putfield 110, 3, 111), (111, .aload_n 0, 1, 112), (112, .dup, 1, 113), (113, .getfield 104, 3, 116), (116, .iconst 1, 1, 117), (117, .iadd, 1, 118), (118, .putfield 104, 3, 121), (121, .aload_n 0, 1, 122), (122, .getfield 104, 3, 125), (125, .iconst 1, 1, 126), (126, .isub, 1, 127), (127, .ireturn, 1, 128)]
def I_X9_coin : MI := (prog_11_method_33_code, 5, (some .int), "OpensAtNineModel", "coin", T_X9_coin, 0, 0, 3, 103)
theorem dT_X9_coin : ∀ q ∈ T_X9_coin, decode prog_11_method_33_code q.1 = .ok (q.2.1, q.2.2.1) ∧ q.2.2.2 = q.1 + q.2.2.1 := by decide +kernel
theorem xm_X9_coin : xCM y_X9_coin I_X9_coin 9 4 := ⟨⟨tw1224, tw1225⟩, tw84, tw1226, ⟨xT9, 49, rfl⟩, ⟨by decide +kernel, by decide +kernel, by decide +kernel⟩⟩
noncomputable def f_X9_coin_38 (h : XM) : Option (Int32 × XM) := some ((-2 : Int32), h)
noncomputable def f_X9_coin (h : XM) (a0 : Option Nat) (a1 : Int32) (a2 : Int32) (a3 : Int32) (a4 : Int32) : Option (Int32 × XM) := (vc h 9 a0 (f_X9_isOne h a0 a1)).bind fun q1 => if q1.1 = 0 then (f_X9_coin_38 q1.2) else ((f_X9_in q1.2 a2 ((0 : Int32)) ((5 : Int32))).bind fun q2 => if q2.1 = 0 then (f_X9_coin_38 q2.2) else ((f_X9_in q2.2 a3 ((0 : Int32)) ((30 : Int32))).bind fun q3 => if q3.1 = 0 then (f_X9_coin_38 q3.2) else ((f_X9_in q3.2 a4 ((0 : Int32)) ((9 : Int32))).bind fun q4 => if q4.1 = 0 then (f_X9_coin_38 q4.2) else ((gI q4.2 9 a0 5).bind fun v5 => if v5 = ((7 : Int32)) then (some ((-4 : Int32), q4.2)) else ((gR q4.2 9 a0 6).bind fun v6 => (gI q4.2 9 a0 5).bind fun v7 => (sI q4.2 v6 v7 a1).bind fun h8 => (gR h8 9 a0 7).bind fun v9 => (gI h8 9 a0 5).bind fun v10 => (sI h8 v9 v10 a2).bind fun h11 => (gR h11 9 a0 8).bind fun v12 => (gI h11 9 a0 5).bind fun v13 => (sI h11 v12 v13 a3).bind fun h14 => (gR h14 9 a0 9).bind fun v15 => (gI h14 9 a0 5).bind fun v16 => (sI h14 v15 v16 a4).bind fun h17 => (gI h17 9 a0 10).bind fun v18 => (gI h17 9 a0 5).bind fun v19 => (pI h17 9 a0 10 (v18 &&& ((((1 : Int32)) <<< (v19 &&& 31)) ^^^ ((-1 : Int32))))).bind fun h20 => (gI h20 9 a0 5).bind fun v21 => (pI h20 9 a0 5 (v21 + ((1 : Int32)))).bind fun h22 => (gI h22 9 a0 5).bind fun v23 => some (v23 - ((1 : Int32)), h22))))))
theorem b_X9_coin_38 (X : XX) (h : XM) : SW X I_X9_coin ρi 38 [] [] h 0 0 (f_X9_coin_38 h) := by
  unfold f_X9_coin_38
  refine s_bipush (i := 19) rfl (v := (-2 : Int32)) (by decide) ?_
  exact s_iret (i := 20) rfl rfl
theorem c_X9_coin (h : XM) (a0 : Option Nat) (a1 : Int32) (a2 : Int32) (a3 : Int32) (a4 : Int32) : MC I_X9_coin y_X9_coin [tA a0, tI a1, tI a2, tI a3, tI a4] h ρi (f_X9_coin h a0 a1 a2 a3 a4) := by
  refine MC_of ⟨by decide +kernel, rfl, rfl, Nat.le_of_ble_eq_true rfl⟩ dT_X9_coin (fun X => ?_)
  show SW X I_X9_coin ρi 0 [(0, tA a0), (1, tI a1), (2, tI a2), (3, tI a3), (4, tI a4)] [] h 0 0 (f_X9_coin h a0 a1 a2 a3 a4)
  unfold f_X9_coin
  refine s_aload_n (i := 0) rfl 0 rfl ?_
  refine s_iload_n (i := 1) rfl 1 rfl ?_
  refine u_callVi (kk := 9) [tI a1] a0 [] rfl (i := 2) rfl (c_X9_isOne h a0 a1) xm_X9_isOne (tw1174) rfl (Nat.le_of_ble_eq_true rfl) (xRm.of rfl) ⟨rfl, rfl⟩ (fun q1 => ?_)
  refine s_ifeq (i := 3) rfl (tgt := 38) (by decide) (fun z5 => ?_) (fun z5 => ?_)
  · exact s_sub [] rfl (b_X9_coin_38 X q1.2)
  · refine s_iload_n (i := 4) rfl 2 rfl ?_
    refine s_iconst (i := 5) rfl (v := (0 : Int32)) (by decide) ?_
    refine s_iconst (i := 6) rfl (v := (5 : Int32)) (by decide) ?_
    refine u_callSi [tI a2, tI ((0 : Int32)), tI ((5 : Int32))] [] rfl (i := 7) rfl (c_X9_in q1.2 a2 ((0 : Int32)) ((5 : Int32))) xm_X9_in (tw974) rfl (Nat.le_of_ble_eq_true rfl) (xRm.of rfl) ⟨rfl, rfl⟩ (fun q2 => ?_)
    refine s_ifeq (i := 8) rfl (tgt := 38) (by decide) (fun z14 => ?_) (fun z14 => ?_)
    · exact s_sub [] rfl (b_X9_coin_38 X q2.2)
    · refine s_iload_n (i := 9) rfl 3 rfl ?_
      refine s_iconst (i := 10) rfl (v := (0 : Int32)) (by decide) ?_
      refine s_bipush (i := 11) rfl (v := (30 : Int32)) (by decide) ?_
      refine u_callSi [tI a3, tI ((0 : Int32)), tI ((30 : Int32))] [] rfl (i := 12) rfl (c_X9_in q2.2 a3 ((0 : Int32)) ((30 : Int32))) xm_X9_in (tw974) rfl (Nat.le_of_ble_eq_true rfl) (xRm.of rfl) ⟨rfl, rfl⟩ (fun q3 => ?_)
      refine s_ifeq (i := 13) rfl (tgt := 38) (by decide) (fun z24 => ?_) (fun z24 => ?_)
      · exact s_sub [] rfl (b_X9_coin_38 X q3.2)
      · refine s_iload (i := 14) rfl 4 rfl ?_
        refine s_iconst (i := 15) rfl (v := (0 : Int32)) (by decide) ?_
        refine s_bipush (i := 16) rfl (v := (9 : Int32)) (by decide) ?_
        refine u_callSi [tI a4, tI ((0 : Int32)), tI ((9 : Int32))] [] rfl (i := 17) rfl (c_X9_in q3.2 a4 ((0 : Int32)) ((9 : Int32))) xm_X9_in (tw974) rfl (Nat.le_of_ble_eq_true rfl) (xRm.of rfl) ⟨rfl, rfl⟩ (fun q4 => ?_)
        refine s_ifne (i := 18) rfl (tgt := 41) (by decide) (fun z35 => ?_) (fun z35 => ?_)
        · exact s_sub [] rfl (b_X9_coin_38 X q4.2)
        · refine s_aload_n (i := 21) rfl 0 rfl ?_
          refine s_getI (i := 22) rfl xf_9_104.r rfl (fun v5 => ?_)
          refine s_bipush (i := 23) rfl (v := (7 : Int32)) (by decide) ?_
          refine s_icmpne (i := 24) rfl (tgt := 53) (by decide) (fun z47 => ?_) (fun z47 => ?_)
          · refine s_bipush (i := 25) rfl (v := (-4 : Int32)) (by decide) ?_
            exact s_iret (i := 26) rfl rfl
          · refine s_aload_n (i := 27) rfl 0 rfl ?_
            refine s_getR (i := 28) rfl xf_9_13.r rfl (fun v6 => ?_)
            refine s_aload_n (i := 29) rfl 0 rfl ?_
            refine s_getI (i := 30) rfl xf_9_104.r rfl (fun v7 => ?_)
            refine s_iload_n (i := 31) rfl 1 rfl ?_
            refine s_iastore (i := 32) rfl (fun h8 => ?_)
            refine s_aload_n (i := 33) rfl 0 rfl ?_
            refine s_getR (i := 34) rfl xf_9_17.r rfl (fun v9 => ?_)
            refine s_aload_n (i := 35) rfl 0 rfl ?_
            refine s_getI (i := 36) rfl xf_9_104.r rfl (fun v10 => ?_)
            refine s_iload_n (i := 37) rfl 2 rfl ?_
            refine s_iastore (i := 38) rfl (fun h11 => ?_)
            refine s_aload_n (i := 39) rfl 0 rfl ?_
            refine s_getR (i := 40) rfl xf_9_20.r rfl (fun v12 => ?_)
            refine s_aload_n (i := 41) rfl 0 rfl ?_
            refine s_getI (i := 42) rfl xf_9_104.r rfl (fun v13 => ?_)
            refine s_iload_n (i := 43) rfl 3 rfl ?_
            refine s_iastore (i := 44) rfl (fun h14 => ?_)
            refine s_aload_n (i := 45) rfl 0 rfl ?_
            refine s_getR (i := 46) rfl xf_9_23.r rfl (fun v15 => ?_)
            refine s_aload_n (i := 47) rfl 0 rfl ?_
            refine s_getI (i := 48) rfl xf_9_104.r rfl (fun v16 => ?_)
            refine s_iload (i := 49) rfl 4 rfl ?_
            refine s_iastore (i := 50) rfl (fun h17 => ?_)
            refine s_aload_n (i := 51) rfl 0 rfl ?_
            refine s_dup (i := 52) rfl rfl ?_
            refine s_getI (i := 53) rfl xf_9_110.r rfl (fun v18 => ?_)
            refine s_iconst (i := 54) rfl (v := (1 : Int32)) (by decide) ?_
            refine s_aload_n (i := 55) rfl 0 rfl ?_
            refine s_getI (i := 56) rfl xf_9_104.r rfl (fun v19 => ?_)
            refine s_ishl (i := 57) rfl ?_
            refine s_iconst (i := 58) rfl (v := (-1 : Int32)) (by decide) ?_
            refine s_ixor (i := 59) rfl ?_
            refine s_iand (i := 60) rfl ?_
            refine s_putI (i := 61) rfl xf_9_110 (fun q => by cases q) rfl rfl (fun h20 => ?_)
            refine s_aload_n (i := 62) rfl 0 rfl ?_
            refine s_dup (i := 63) rfl rfl ?_
            refine s_getI (i := 64) rfl xf_9_104.r rfl (fun v21 => ?_)
            refine s_iconst (i := 65) rfl (v := (1 : Int32)) (by decide) ?_
            refine s_iadd (i := 66) rfl ?_
            refine s_putI (i := 67) rfl xf_9_104 (fun q => by cases q) rfl rfl (fun h22 => ?_)
            refine s_aload_n (i := 68) rfl 0 rfl ?_
            refine s_getI (i := 69) rfl xf_9_104.r rfl (fun v23 => ?_)
            refine s_iconst (i := 70) rfl (v := (1 : Int32)) (by decide) ?_
            refine s_isub (i := 71) rfl ?_
            exact s_iret (i := 72) rfl rfl
def y_X9_sell : MethodName := ⟨"OpensAtNineModel", "sell", "(II)I"⟩
def T_X9_sell : List (Nat × Instr × Nat × Nat) := [(0, .aload_n 0, 1, 1), (1, .iload_n 1, 1, 2), (2, .invokevirtual 223, 3, 5), (5, .ifCond .ne 6, 3, 8), (8, .bipush (-5), 2, 10), (10, .ireturn, 1, 11), (11, .aload_n 0, 1, 12), (12, .iload_n 2, 1, 13), (13, .invokevirtual 119, 3, 16), (16, .ifCond .ne 6, 3, 19), (19, .bipush (-7), 2, 21), (21, .ireturn, 1, 22), (22, .aload_n 0, 1, 23), (23, .iload_n 1, 1, 24), (24, .invokevirtual 226, 3, 27), (27, .ifCond .ne 6, 3, 30), (30, .bipush (-3), 2, 32), (32, .ireturn, 1, 33), (33, .aload_n 0, 1, 34), (34, .getfield 13, 3, 37), (37, .iload_n 1, 1, 38), (38, .iaload, 1, 39), (39, .istore_n 3, 1, 40), (40, .aload_n 0, 1, 41), (41, .getfield 13, 3, 44), (44, .iload_n 1, 1, 45), (45, .iload_n 2, 1, 46), (46, .iastore, 1, 47), (47, .iload_n 3, 1, 48), (48, .ireturn, 1, 49)]
def I_X9_sell : MI := (prog_11_method_34_code, 4, (some .int), "OpensAtNineModel", "sell", T_X9_sell, 0, 0, 3, 103)
theorem dT_X9_sell : ∀ q ∈ T_X9_sell, decode prog_11_method_34_code q.1 = .ok (q.2.1, q.2.2.1) ∧ q.2.2.2 = q.1 + q.2.2.1 := by decide +kernel
theorem xm_X9_sell : xCM y_X9_sell I_X9_sell 9 2 := ⟨⟨tw1228, tw1229⟩, tw84, tw1230, ⟨xT9, 49, rfl⟩, ⟨by decide +kernel, by decide +kernel, by decide +kernel⟩⟩
noncomputable def f_X9_sell (h : XM) (a0 : Option Nat) (a1 : Int32) (a2 : Int32) : Option (Int32 × XM) := (vc h 9 a0 (f_X9_isCoin h a0 a1)).bind fun q1 => if q1.1 = 0 then (some ((-5 : Int32), q1.2)) else ((vc q1.2 9 a0 (f_X9_isOne q1.2 a0 a2)).bind fun q2 => if q2.1 = 0 then (some ((-7 : Int32), q2.2)) else ((vc q2.2 9 a0 (f_X9_isLeft q2.2 a0 a1)).bind fun q3 => if q3.1 = 0 then (some ((-3 : Int32), q3.2)) else ((gR q3.2 9 a0 6).bind fun v4 => (rI q3.2 v4 a1).bind fun v5 => (gR q3.2 9 a0 6).bind fun v6 => (sI q3.2 v6 a1 a2).bind fun h7 => some (v5, h7))))
theorem c_X9_sell (h : XM) (a0 : Option Nat) (a1 : Int32) (a2 : Int32) : MC I_X9_sell y_X9_sell [tA a0, tI a1, tI a2] h ρi (f_X9_sell h a0 a1 a2) := by
  refine MC_of ⟨by decide +kernel, rfl, rfl, Nat.le_of_ble_eq_true rfl⟩ dT_X9_sell (fun X => ?_)
  show SW X I_X9_sell ρi 0 [(0, tA a0), (1, tI a1), (2, tI a2)] [] h 0 0 (f_X9_sell h a0 a1 a2)
  unfold f_X9_sell
  refine s_aload_n (i := 0) rfl 0 rfl ?_
  refine s_iload_n (i := 1) rfl 1 rfl ?_
  refine u_callVi (kk := 9) [tI a1] a0 [] rfl (i := 2) rfl (c_X9_isCoin h a0 a1) xm_X9_isCoin (tw1231) rfl (Nat.le_of_ble_eq_true rfl) (xRm.of rfl) ⟨rfl, rfl⟩ (fun q1 => ?_)
  refine s_ifne (i := 3) rfl (tgt := 11) (by decide) (fun z5 => ?_) (fun z5 => ?_)
  · refine s_bipush (i := 4) rfl (v := (-5 : Int32)) (by decide) ?_
    exact s_iret (i := 5) rfl rfl
  · refine s_aload_n (i := 6) rfl 0 rfl ?_
    refine s_iload_n (i := 7) rfl 2 rfl ?_
    refine u_callVi (kk := 9) [tI a2] a0 [] rfl (i := 8) rfl (c_X9_isOne q1.2 a0 a2) xm_X9_isOne (tw1174) rfl (Nat.le_of_ble_eq_true rfl) (xRm.of rfl) ⟨rfl, rfl⟩ (fun q2 => ?_)
    refine s_ifne (i := 9) rfl (tgt := 22) (by decide) (fun z16 => ?_) (fun z16 => ?_)
    · refine s_bipush (i := 10) rfl (v := (-7 : Int32)) (by decide) ?_
      exact s_iret (i := 11) rfl rfl
    · refine s_aload_n (i := 12) rfl 0 rfl ?_
      refine s_iload_n (i := 13) rfl 1 rfl ?_
      refine u_callVi (kk := 9) [tI a1] a0 [] rfl (i := 14) rfl (c_X9_isLeft q2.2 a0 a1) xm_X9_isLeft (tw1235) rfl (Nat.le_of_ble_eq_true rfl) (xRm.of rfl) ⟨rfl, rfl⟩ (fun q3 => ?_)
      refine s_ifne (i := 15) rfl (tgt := 33) (by decide) (fun z27 => ?_) (fun z27 => ?_)
      · refine s_bipush (i := 16) rfl (v := (-3 : Int32)) (by decide) ?_
        exact s_iret (i := 17) rfl rfl
      · refine s_aload_n (i := 18) rfl 0 rfl ?_
        refine s_getR (i := 19) rfl xf_9_13.r rfl (fun v4 => ?_)
        refine s_iload_n (i := 20) rfl 1 rfl ?_
        refine s_iaload (i := 21) rfl (fun v5 => ?_)
        refine s_istore_n (i := 22) rfl (Nat.le_of_ble_eq_true rfl) (ls2 := [(3, tI v5), (0, tA a0), (1, tI a1), (2, tI a2)]) rfl ?_
        refine s_aload_n (i := 23) rfl 1 rfl ?_
        refine s_getR (i := 24) rfl xf_9_13.r rfl (fun v6 => ?_)
        refine s_iload_n (i := 25) rfl 2 rfl ?_
        refine s_iload_n (i := 26) rfl 3 rfl ?_
        refine s_iastore (i := 27) rfl (fun h7 => ?_)
        refine s_iload_n (i := 28) rfl 0 rfl ?_
        exact s_iret (i := 29) rfl rfl
def y_X9_countsNow : MethodName := ⟨"OpensAtNineModel", "countsNow", "(I)I"⟩
def T_X9_countsNow : List (Nat × Instr × Nat × Nat) := [(0, .aload_n 0, 1, 1), (1, .getfield 17, 3, 4), (4, .iload_n 1, 1, 5), (5, .iaload, 1, 6), (6, .istore_n 2, 1, 7), (7, .aload_n 0, 1, 8), (8, .getfield 20, 3, 11), (11, .iload_n 1, 1, 12), (12, .iaload, 1, 13), (13, .istore_n 3, 1, 14), (14, .iload_n 3, 1, 15), (15, .aload_n 0, 1, 16), (16, .getfield 23, 3, 19), (19, .iload_n 1, 1, 20), (20, .iaload, 1, 21), (21, .isub, 1, 22), (22, .iconst 0, 1, 23), (23, .bipush 30, 2, 25), (25, .invokestatic 217, 3, 28), (28, .istore 4, 2, 30), (30, .iload_n 2, 1, 31), (31, .tableswitch 85 1 5 #[33, 38, 41, 57, 69], 33, 64), (64, .bipush 7, 2, 66), (66, .iload_n 3, 1, 67), (67, .imul, 1, 68), (68, .ireturn, 1, 69), (69, .iload 4, 2, 71), (71, .ireturn, 1, 72), (72, .aload_n 0, 1, 73), (73, .getfield 113, 3, 76), (76, .iconst 2, 1, 77), (77, .irem, 1, 78), (78, .ifCond .ne 7, 3, 81), (81, .iconst 0, 1, 82), (82, .goto 5, 3, 85), (85, .iload 4, 2, 87), (87, .ireturn, 1, 88), (88, .bipush 14, 2, 90), (90, .iload_n 3, 1, 91), (91, .imul, 1, 92), (92, .aload_n 0, 1, 93), (93, .getfield 23, 3, 96), (96, .iload_n 1, 1, 97), (97, .iaload, 1, 98), (98, .iadd, 1, 99), (99, .ireturn, 1, 100), (100, .iload_n 3, 1, 101), (101, .aload_n 0, 1, 102), (102, .getfield 113, 3, 105), (105, .aload_n 0, 1, 106), (106, .getfield 23, 3, 109), (109, .iload_n 1, 1, 110), (110, .iaload, 1, 111), (111, .iconst 1, 1, 112), (112, .iadd, 1, 113), (113, .irem, 1, 114), (114, .iadd, 1, 115), (115, .ireturn, 1, 116), (116, .iload_n 3, 1, 117), (117, .ireturn, 1, 118)]
def I_X9_countsNow : MI := (prog_11_method_35_code, 5, (some .int), "OpensAtNineModel", "countsNow", T_X9_countsNow, 0, 0, 2, 82)
theorem dT_X9_countsNow : ∀ q ∈ T_X9_countsNow, decode prog_11_method_35_code q.1 = .ok (q.2.1, q.2.2.1) ∧ q.2.2.2 = q.1 + q.2.2.1 := by decide +kernel
theorem xm_X9_countsNow : xCM y_X9_countsNow I_X9_countsNow 9 1 := ⟨⟨tw1245, tw45⟩, tw84, tw1246, ⟨xT9, 49, rfl⟩, ⟨by decide +kernel, by decide +kernel, by decide +kernel⟩⟩
noncomputable def f_X9_countsNow_87 (h : XM) (s0 : Int32) : Option (Int32 × XM) := some (s0, h)
noncomputable def f_X9_countsNow (h : XM) (a0 : Option Nat) (a1 : Int32) : Option (Int32 × XM) := (gR h 9 a0 7).bind fun v1 => (rI h v1 a1).bind fun v2 => (gR h 9 a0 8).bind fun v3 => (rI h v3 a1).bind fun v4 => (gR h 9 a0 9).bind fun v5 => (rI h v5 a1).bind fun v6 => (f_X9_within h (v4 - v6) ((0 : Int32)) ((30 : Int32))).bind fun q7 => if v2 = (1 : Int32) then (some (((7 : Int32)) * v4, q7.2)) else (if v2 = (2 : Int32) then (some (q7.1, q7.2)) else (if v2 = (3 : Int32) then ((gI q7.2 9 a0 1).bind fun v8 => (irem v8 ((2 : Int32))).bind fun v9 => if v9 = 0 then (f_X9_countsNow_87 q7.2 ((0 : Int32))) else (f_X9_countsNow_87 q7.2 q7.1)) else (if v2 = (4 : Int32) then ((gR q7.2 9 a0 9).bind fun v10 => (rI q7.2 v10 a1).bind fun v11 => some ((((14 : Int32)) * v4) + v11, q7.2)) else (if v2 = (5 : Int32) then ((gI q7.2 9 a0 1).bind fun v12 => (gR q7.2 9 a0 9).bind fun v13 => (rI q7.2 v13 a1).bind fun v14 => (irem v12 (v14 + ((1 : Int32)))).bind fun v15 => some (v4 + v15, q7.2)) else (some (v4, q7.2))))))
theorem b_X9_countsNow_87 (X : XX) (h : XM) (s0 : Int32) : SW X I_X9_countsNow ρi 87 [] [tI s0] h 0 0 (f_X9_countsNow_87 h s0) := by
  unfold f_X9_countsNow_87
  exact s_iret (i := 36) rfl rfl
theorem c_X9_countsNow (h : XM) (a0 : Option Nat) (a1 : Int32) : MC I_X9_countsNow y_X9_countsNow [tA a0, tI a1] h ρi (f_X9_countsNow h a0 a1) := by
  refine MC_of ⟨by decide +kernel, rfl, rfl, Nat.le_of_ble_eq_true rfl⟩ dT_X9_countsNow (fun X => ?_)
  show SW X I_X9_countsNow ρi 0 [(0, tA a0), (1, tI a1)] [] h 0 0 (f_X9_countsNow h a0 a1)
  unfold f_X9_countsNow
  refine s_aload_n (i := 0) rfl 0 rfl ?_
  refine s_getR (i := 1) rfl xf_9_17.r rfl (fun v1 => ?_)
  refine s_iload_n (i := 2) rfl 1 rfl ?_
  refine s_iaload (i := 3) rfl (fun v2 => ?_)
  refine s_istore_n (i := 4) rfl (Nat.le_of_ble_eq_true rfl) (ls2 := [(2, tI v2), (0, tA a0), (1, tI a1)]) rfl ?_
  refine s_aload_n (i := 5) rfl 1 rfl ?_
  refine s_getR (i := 6) rfl xf_9_20.r rfl (fun v3 => ?_)
  refine s_iload_n (i := 7) rfl 2 rfl ?_
  refine s_iaload (i := 8) rfl (fun v4 => ?_)
  refine s_istore_n (i := 9) rfl (Nat.le_of_ble_eq_true rfl) (ls2 := [(3, tI v4), (2, tI v2), (0, tA a0), (1, tI a1)]) rfl ?_
  refine s_iload_n (i := 10) rfl 0 rfl ?_
  refine s_aload_n (i := 11) rfl 2 rfl ?_
  refine s_getR (i := 12) rfl xf_9_23.r rfl (fun v5 => ?_)
  refine s_iload_n (i := 13) rfl 3 rfl ?_
  refine s_iaload (i := 14) rfl (fun v6 => ?_)
  refine s_isub (i := 15) rfl ?_
  refine s_iconst (i := 16) rfl (v := (0 : Int32)) (by decide) ?_
  refine s_bipush (i := 17) rfl (v := (30 : Int32)) (by decide) ?_
  refine u_callSi [tI (v4 - v6), tI ((0 : Int32)), tI ((30 : Int32))] [] rfl (i := 18) rfl (c_X9_within h (v4 - v6) ((0 : Int32)) ((30 : Int32))) xm_X9_within (tw1213) rfl (Nat.le_of_ble_eq_true rfl) (xRm.of rfl) ⟨rfl, rfl⟩ (fun q7 => ?_)
  refine s_istore (i := 19) rfl (Nat.le_of_ble_eq_true rfl) (ls2 := [(4, tI q7.1), (3, tI v4), (2, tI v2), (0, tA a0), (1, tI a1)]) rfl ?_
  refine s_iload_n (i := 20) rfl 2 rfl ?_
  refine s_if (P := v2 = (1 : Int32)) (fun z31_1 => ?_) (fun z31_1 => ?_)
  · refine s_table 64 (i := 21) rfl rfl (by rw [z31_1]; rfl) ?_
    refine s_bipush (i := 22) rfl (v := (7 : Int32)) (by decide) ?_
    refine s_iload_n (i := 23) rfl 1 rfl ?_
    refine s_imul (i := 24) rfl ?_
    exact s_iret (i := 25) rfl rfl
  refine s_if (P := v2 = (2 : Int32)) (fun z31_2 => ?_) (fun z31_2 => ?_)
  · refine s_table 69 (i := 21) rfl rfl (by rw [z31_2]; rfl) ?_
    refine s_iload (i := 26) rfl 0 rfl ?_
    exact s_iret (i := 27) rfl rfl
  refine s_if (P := v2 = (3 : Int32)) (fun z31_3 => ?_) (fun z31_3 => ?_)
  · refine s_table 72 (i := 21) rfl rfl (by rw [z31_3]; rfl) ?_
    refine s_aload_n (i := 28) rfl 3 rfl ?_
    refine s_getI (i := 29) rfl xf_9_113.r rfl (fun v8 => ?_)
    refine s_iconst (i := 30) rfl (v := (2 : Int32)) (by decide) ?_
    refine s_irem (i := 31) rfl (fun v9 => ?_)
    refine s_ifne (i := 32) rfl (tgt := 85) (by decide) (fun z78 => ?_) (fun z78 => ?_)
    · refine s_iconst (i := 33) rfl (v := (0 : Int32)) (by decide) ?_
      refine s_goto (i := 34) rfl (tgt := 87) (by decide) ?_
      exact s_sub [] rfl (b_X9_countsNow_87 X q7.2 ((0 : Int32)))
    · refine s_iload (i := 35) rfl 0 rfl ?_
      exact s_sub [] rfl (b_X9_countsNow_87 X q7.2 q7.1)
  refine s_if (P := v2 = (4 : Int32)) (fun z31_4 => ?_) (fun z31_4 => ?_)
  · refine s_table 88 (i := 21) rfl rfl (by rw [z31_4]; rfl) ?_
    refine s_bipush (i := 37) rfl (v := (14 : Int32)) (by decide) ?_
    refine s_iload_n (i := 38) rfl 1 rfl ?_
    refine s_imul (i := 39) rfl ?_
    refine s_aload_n (i := 40) rfl 3 rfl ?_
    refine s_getR (i := 41) rfl xf_9_23.r rfl (fun v10 => ?_)
    refine s_iload_n (i := 42) rfl 4 rfl ?_
    refine s_iaload (i := 43) rfl (fun v11 => ?_)
    refine s_iadd (i := 44) rfl ?_
    exact s_iret (i := 45) rfl rfl
  refine s_if (P := v2 = (5 : Int32)) (fun z31_5 => ?_) (fun z31_5 => ?_)
  · refine s_table 100 (i := 21) rfl rfl (by rw [z31_5]; rfl) ?_
    refine s_iload_n (i := 46) rfl 1 rfl ?_
    refine s_aload_n (i := 47) rfl 3 rfl ?_
    refine s_getI (i := 48) rfl xf_9_113.r rfl (fun v12 => ?_)
    refine s_aload_n (i := 49) rfl 3 rfl ?_
    refine s_getR (i := 50) rfl xf_9_23.r rfl (fun v13 => ?_)
    refine s_iload_n (i := 51) rfl 4 rfl ?_
    refine s_iaload (i := 52) rfl (fun v14 => ?_)
    refine s_iconst (i := 53) rfl (v := (1 : Int32)) (by decide) ?_
    refine s_iadd (i := 54) rfl ?_
    refine s_irem (i := 55) rfl (fun v15 => ?_)
    refine s_iadd (i := 56) rfl ?_
    exact s_iret (i := 57) rfl rfl
  refine s_table 116 (i := 21) rfl rfl (by
    rw [swT_out (fun k h1 h2 => by
      rcases (show k = 1 ∨ k = 2 ∨ k = 3 ∨ k = 4 ∨ k = 5 by omega) with e | e | e | e | e <;> subst e
      · exact Or.inr z31_1
      · exact Or.inr z31_2
      · exact Or.inr z31_3
      · exact Or.inr z31_4
      · exact Or.inr z31_5)]
    rfl) ?_
  refine s_iload_n (i := 58) rfl 1 rfl ?_
  exact s_iret (i := 59) rfl rfl
def y_X9_costsOf : MethodName := ⟨"OpensAtNineModel", "costsOf", "(I)I"⟩
def T_X9_costsOf : List (Nat × Instr × Nat × Nat) := [(0, .aload_n 0, 1, 1), (1, .getfield 17, 3, 4), (4, .iload_n 1, 1, 5), (5, .iaload, 1, 6), (6, .iconst 3, 1, 7), (7, .if_icmp .ne 14, 3, 10), (10, .aload_n 0, 1, 11), (11, .getfield 20, 3, 14), (14, .iload_n 1, 1, 15), (15, .iaload, 1, 16), (16, .iconst 3, 1, 17), (17, .idiv, 1, 18), (18, .goto 30, 3, 21), (21, .aload_n 0, 1, 22), (22, .getfield 17, 3, 25), (25, .iload_n 1, 1, 26), (26, .iaload, 1, 27), (27, .iconst 4, 1, 28), (28, .if_icmp .ne 14, 3, 31), (31, .iconst 2, 1, 32), (32, .aload_n 0, 1, 33), (33, .getfield 20, 3, 36), (36, .iload_n 1, 1, 37), (37, .iaload, 1, 38), (38, .imul, 1, 39), (39, .goto 9, 3, 42), (42, .aload_n 0, 1, 43), (43, .getfield 20, 3, 46), (46, .iload_n 1, 1, 47), (47, .iaload, 1, 48), (48, .ireturn, 1, 49)]
def I_X9_costsOf : MI := (prog_11_method_36_code, 2, (some .int), "OpensAtNineModel", "costsOf", T_X9_costsOf, 0, 0, 1, 60)
theorem dT_X9_costsOf : ∀ q ∈ T_X9_costsOf, decode prog_11_method_36_code q.1 = .ok (q.2.1, q.2.2.1) ∧ q.2.2.2 = q.1 + q.2.2.1 := by decide +kernel
theorem xm_X9_costsOf : xCM y_X9_costsOf I_X9_costsOf 9 1 := ⟨⟨tw1249, tw46⟩, tw84, tw1250, ⟨xT9, 49, rfl⟩, ⟨by decide +kernel, by decide +kernel, by decide +kernel⟩⟩
noncomputable def f_X9_costsOf_48 (h : XM) (s0 : Int32) : Option (Int32 × XM) := some (s0, h)
noncomputable def f_X9_costsOf (h : XM) (a0 : Option Nat) (a1 : Int32) : Option (Int32 × XM) := (gR h 9 a0 7).bind fun v1 => (rI h v1 a1).bind fun v2 => if v2 = ((3 : Int32)) then ((gR h 9 a0 8).bind fun v3 => (rI h v3 a1).bind fun v4 => (idiv v4 ((3 : Int32))).bind fun v5 => f_X9_costsOf_48 h v5) else ((gR h 9 a0 7).bind fun v6 => (rI h v6 a1).bind fun v7 => if v7 = ((4 : Int32)) then ((gR h 9 a0 8).bind fun v8 => (rI h v8 a1).bind fun v9 => f_X9_costsOf_48 h (((2 : Int32)) * v9)) else ((gR h 9 a0 8).bind fun v10 => (rI h v10 a1).bind fun v11 => f_X9_costsOf_48 h v11))
theorem b_X9_costsOf_48 (X : XX) (h : XM) (s0 : Int32) : SW X I_X9_costsOf ρi 48 [] [tI s0] h 0 0 (f_X9_costsOf_48 h s0) := by
  unfold f_X9_costsOf_48
  exact s_iret (i := 30) rfl rfl
theorem c_X9_costsOf (h : XM) (a0 : Option Nat) (a1 : Int32) : MC I_X9_costsOf y_X9_costsOf [tA a0, tI a1] h ρi (f_X9_costsOf h a0 a1) := by
  refine MC_of ⟨by decide +kernel, rfl, rfl, Nat.le_of_ble_eq_true rfl⟩ dT_X9_costsOf (fun X => ?_)
  show SW X I_X9_costsOf ρi 0 [(0, tA a0), (1, tI a1)] [] h 0 0 (f_X9_costsOf h a0 a1)
  unfold f_X9_costsOf
  refine s_aload_n (i := 0) rfl 0 rfl ?_
  refine s_getR (i := 1) rfl xf_9_17.r rfl (fun v1 => ?_)
  refine s_iload_n (i := 2) rfl 1 rfl ?_
  refine s_iaload (i := 3) rfl (fun v2 => ?_)
  refine s_iconst (i := 4) rfl (v := (3 : Int32)) (by decide) ?_
  refine s_icmpne (i := 5) rfl (tgt := 21) (by decide) (fun z7 => ?_) (fun z7 => ?_)
  · refine s_aload_n (i := 6) rfl 0 rfl ?_
    refine s_getR (i := 7) rfl xf_9_20.r rfl (fun v3 => ?_)
    refine s_iload_n (i := 8) rfl 1 rfl ?_
    refine s_iaload (i := 9) rfl (fun v4 => ?_)
    refine s_iconst (i := 10) rfl (v := (3 : Int32)) (by decide) ?_
    refine s_idiv (i := 11) rfl (fun v5 => ?_)
    refine s_goto (i := 12) rfl (tgt := 48) (by decide) ?_
    exact s_sub [] rfl (b_X9_costsOf_48 X h v5)
  · refine s_aload_n (i := 13) rfl 0 rfl ?_
    refine s_getR (i := 14) rfl xf_9_17.r rfl (fun v6 => ?_)
    refine s_iload_n (i := 15) rfl 1 rfl ?_
    refine s_iaload (i := 16) rfl (fun v7 => ?_)
    refine s_iconst (i := 17) rfl (v := (4 : Int32)) (by decide) ?_
    refine s_icmpne (i := 18) rfl (tgt := 42) (by decide) (fun z28 => ?_) (fun z28 => ?_)
    · refine s_iconst (i := 19) rfl (v := (2 : Int32)) (by decide) ?_
      refine s_aload_n (i := 20) rfl 0 rfl ?_
      refine s_getR (i := 21) rfl xf_9_20.r rfl (fun v8 => ?_)
      refine s_iload_n (i := 22) rfl 1 rfl ?_
      refine s_iaload (i := 23) rfl (fun v9 => ?_)
      refine s_imul (i := 24) rfl ?_
      refine s_goto (i := 25) rfl (tgt := 48) (by decide) ?_
      exact s_sub [] rfl (b_X9_costsOf_48 X h (((2 : Int32)) * v9))
    · refine s_aload_n (i := 26) rfl 0 rfl ?_
      refine s_getR (i := 27) rfl xf_9_20.r rfl (fun v10 => ?_)
      refine s_iload_n (i := 28) rfl 1 rfl ?_
      refine s_iaload (i := 29) rfl (fun v11 => ?_)
      exact s_sub [] rfl (b_X9_costsOf_48 X h v11)
def y_X9_leftOf : MethodName := ⟨"OpensAtNineModel", "leftOf", "(I)I"⟩
def T_X9_leftOf : List (Nat × Instr × Nat × Nat) := [(0, .iconst 0, 1, 1), (1, .istore_n 2, 1, 2), (2, .iconst 0, 1, 3), (3, .istore_n 3, 1, 4), (4, .iload_n 3, 1, 5), (5, .aload_n 0, 1, 6), (6, .getfield 104, 3, 9), (9, .if_icmp .ge 35, 3, 12), (12, .iload_n 2, 1, 13), (13, .aload_n 0, 1, 14), (14, .iload_n 3, 1, 15), (15, .invokevirtual 226, 3, 18), (18, .ifCond .eq 17, 3, 21), (21, .aload_n 0, 1, 22), (22, .getfield 13, 3, 25), (25, .iload_n 3, 1, 26), (26, .iaload, 1, 27), (27, .iload_n 1, 1, 28), (28, .if_icmp .ne 7, 3, 31), (31, .iconst 1, 1, 32), (32, .goto 4, 3, 35), (35, .iconst 0, 1, 36), (36, .iadd, 1, 37), (37, .istore_n 2, 1, 38), (38, .iinc 3 1, 3, 41), (41, .goto (-37), 3, 44), (44, .iload_n 2, 1, 45), (45, .ireturn, 1, 46)]
def I_X9_leftOf : MI := (prog_11_method_37_code, 4, (some .int), "OpensAtNineModel", "leftOf", T_X9_leftOf, 0, 0, 2, 81)
theorem dT_X9_leftOf : ∀ q ∈ T_X9_leftOf, decode prog_11_method_37_code q.1 = .ok (q.2.1, q.2.2.1) ∧ q.2.2.2 = q.1 + q.2.2.1 := by decide +kernel
theorem xm_X9_leftOf : xCM y_X9_leftOf I_X9_leftOf 9 1 := ⟨⟨tw1269, tw50⟩, tw84, tw1270, ⟨xT9, 49, rfl⟩, ⟨by decide +kernel, by decide +kernel, by decide +kernel⟩⟩
noncomputable def f_X9_leftOf_36 (k_4 : XM → Option Nat → Int32 → Int32 → Int32 → Option (Int32 × XM)) (h : XM) (l0 : Option Nat) (l1 : Int32) (l3 : Int32) (s0 : Int32) (s1 : Int32) : Option (Int32 × XM) := bnd (s1 + s0) fun v1 => bnd (l3 + (1 : Int32)) fun v2 => k_4 h l0 l1 v1 v2
noncomputable def f_X9_leftOf_35 (k_4 : XM → Option Nat → Int32 → Int32 → Int32 → Option (Int32 × XM)) (h : XM) (l0 : Option Nat) (l1 : Int32) (l3 : Int32) (s0 : Int32) : Option (Int32 × XM) := f_X9_leftOf_36 k_4 h l0 l1 l3 ((0 : Int32)) s0
noncomputable def fb_X9_leftOf_4 (k_4 : XM → Option Nat → Int32 → Int32 → Int32 → Option (Int32 × XM)) (h : XM) (l0 : Option Nat) (l1 : Int32) (l2 : Int32) (l3 : Int32) : Option (Int32 × XM) := (gI h 9 l0 5).bind fun v3 => if l3 < v3 then ((vc h 9 l0 (f_X9_isLeft h l0 l3)).bind fun q4 => if q4.1 = 0 then (f_X9_leftOf_35 k_4 q4.2 l0 l1 l3 l2) else ((gR q4.2 9 l0 6).bind fun v5 => (rI q4.2 v5 l3).bind fun v6 => if v6 = l1 then (f_X9_leftOf_36 k_4 q4.2 l0 l1 l3 ((1 : Int32)) l2) else (f_X9_leftOf_35 k_4 q4.2 l0 l1 l3 l2))) else (some (l2, h))
noncomputable def f_X9_leftOf_4 (n : Nat) : XM → Option Nat → Int32 → Int32 → Int32 → Option (Int32 × XM) := Nat.rec (motive := fun _ => XM → Option Nat → Int32 → Int32 → Int32 → Option (Int32 × XM)) (fun _ _ _ _ _ => none) (fun _ ih h l0 l1 l2 l3 => fb_X9_leftOf_4 ih h l0 l1 l2 l3) n
noncomputable def f_X9_leftOf (h : XM) (a0 : Option Nat) (a1 : Int32) : Option (Int32 × XM) := f_X9_leftOf_4 FU h a0 a1 ((0 : Int32)) ((0 : Int32))
theorem b_X9_leftOf_36 (X : XX) (k_4 : XM → Option Nat → Int32 → Int32 → Int32 → Option (Int32 × XM)) (hk_4 : ∀ h l0 l1 l2 l3, SW X I_X9_leftOf ρi 4 [(0, tA l0), (1, tI l1), (2, tI l2), (3, tI l3)] [] h 0 0 (k_4 h l0 l1 l2 l3)) (h : XM) (l0 : Option Nat) (l1 : Int32) (l3 : Int32) (s0 : Int32) (s1 : Int32) : SW X I_X9_leftOf ρi 36 [(0, tA l0), (1, tI l1), (3, tI l3)] [tI s0, tI s1] h 0 0 (f_X9_leftOf_36 k_4 h l0 l1 l3 s0 s1) := by
  unfold f_X9_leftOf_36
  refine s_iadd (i := 22) rfl ?_
  refine s_bnd (fun v1 => ?_)
  refine s_istore_n (i := 23) rfl (Nat.le_of_ble_eq_true rfl) (ls2 := [(2, tI v1), (0, tA l0), (1, tI l1), (3, tI l3)]) rfl ?_
  refine s_inc (i := 24) rfl 3 rfl (c9 := (1 : Int32)) (by decide) (Nat.le_of_ble_eq_true rfl) (fun v2 => ?_)
  refine s_ls (ls2 := [(3, tI v2), (2, tI v1), (0, tA l0), (1, tI l1)]) rfl ?_
  refine s_goto (i := 25) rfl (tgt := 4) (by decide) ?_
  exact s_sub [2, 3, 1, 0] rfl (hk_4 h l0 l1 v1 v2)
theorem b_X9_leftOf_35 (X : XX) (k_4 : XM → Option Nat → Int32 → Int32 → Int32 → Option (Int32 × XM)) (hk_4 : ∀ h l0 l1 l2 l3, SW X I_X9_leftOf ρi 4 [(0, tA l0), (1, tI l1), (2, tI l2), (3, tI l3)] [] h 0 0 (k_4 h l0 l1 l2 l3)) (h : XM) (l0 : Option Nat) (l1 : Int32) (l3 : Int32) (s0 : Int32) : SW X I_X9_leftOf ρi 35 [(0, tA l0), (1, tI l1), (3, tI l3)] [tI s0] h 0 0 (f_X9_leftOf_35 k_4 h l0 l1 l3 s0) := by
  unfold f_X9_leftOf_35
  refine s_iconst (i := 21) rfl (v := (0 : Int32)) (by decide) ?_
  exact s_sub [0, 1, 2] rfl (b_X9_leftOf_36 X k_4 hk_4 h l0 l1 l3 ((0 : Int32)) s0)
theorem bb_X9_leftOf_4 (X : XX) (k_4 : XM → Option Nat → Int32 → Int32 → Int32 → Option (Int32 × XM)) (hk_4 : ∀ h l0 l1 l2 l3, SW X I_X9_leftOf ρi 4 [(0, tA l0), (1, tI l1), (2, tI l2), (3, tI l3)] [] h 0 0 (k_4 h l0 l1 l2 l3)) (h : XM) (l0 : Option Nat) (l1 : Int32) (l2 : Int32) (l3 : Int32) : SW X I_X9_leftOf ρi 4 [(0, tA l0), (1, tI l1), (2, tI l2), (3, tI l3)] [] h 0 0 (fb_X9_leftOf_4 k_4 h l0 l1 l2 l3) := by
  unfold fb_X9_leftOf_4
  refine s_iload_n (i := 4) rfl 3 rfl ?_
  refine s_aload_n (i := 5) rfl 0 rfl ?_
  refine s_getI (i := 6) rfl xf_9_104.r rfl (fun v3 => ?_)
  refine s_icmpge (i := 7) rfl (tgt := 44) (by decide) (fun z9 => ?_) (fun z9 => ?_)
  · refine s_iload_n (i := 8) rfl 2 rfl ?_
    refine s_aload_n (i := 9) rfl 0 rfl ?_
    refine s_iload_n (i := 10) rfl 3 rfl ?_
    refine u_callVi (kk := 9) [tI l3] l0 [tI l2] rfl (i := 11) rfl (c_X9_isLeft h l0 l3) xm_X9_isLeft (tw1235) rfl (Nat.le_of_ble_eq_true rfl) (xRm.of rfl) ⟨rfl, rfl⟩ (fun q4 => ?_)
    refine s_ifeq (i := 12) rfl (tgt := 35) (by decide) (fun z18 => ?_) (fun z18 => ?_)
    · exact s_sub [0, 1, 3] rfl (b_X9_leftOf_35 X k_4 hk_4 q4.2 l0 l1 l3 l2)
    · refine s_aload_n (i := 13) rfl 0 rfl ?_
      refine s_getR (i := 14) rfl xf_9_13.r rfl (fun v5 => ?_)
      refine s_iload_n (i := 15) rfl 3 rfl ?_
      refine s_iaload (i := 16) rfl (fun v6 => ?_)
      refine s_iload_n (i := 17) rfl 1 rfl ?_
      refine s_icmpne (i := 18) rfl (tgt := 35) (by decide) (fun z28 => ?_) (fun z28 => ?_)
      · refine s_iconst (i := 19) rfl (v := (1 : Int32)) (by decide) ?_
        refine s_goto (i := 20) rfl (tgt := 36) (by decide) ?_
        exact s_sub [0, 1, 3] rfl (b_X9_leftOf_36 X k_4 hk_4 q4.2 l0 l1 l3 ((1 : Int32)) l2)
      · exact s_sub [0, 1, 3] rfl (b_X9_leftOf_35 X k_4 hk_4 q4.2 l0 l1 l3 l2)
  · refine s_iload_n (i := 26) rfl 2 rfl ?_
    exact s_iret (i := 27) rfl rfl
theorem b_X9_leftOf_4 (X : XX) : ∀ (n : Nat) (h : XM) (l0 : Option Nat) (l1 : Int32) (l2 : Int32) (l3 : Int32), SW X I_X9_leftOf ρi 4 [(0, tA l0), (1, tI l1), (2, tI l2), (3, tI l3)] [] h 0 0 (f_X9_leftOf_4 n h l0 l1 l2 l3) := by
  intro n
  induction n with
  | zero =>
    intro h l0 l1 l2 l3
    exact s_none
  | succ n ih =>
    intro h l0 l1 l2 l3
    exact bb_X9_leftOf_4 X (f_X9_leftOf_4 n) ih h l0 l1 l2 l3
theorem c_X9_leftOf (h : XM) (a0 : Option Nat) (a1 : Int32) : MC I_X9_leftOf y_X9_leftOf [tA a0, tI a1] h ρi (f_X9_leftOf h a0 a1) := by
  refine MC_of ⟨by decide +kernel, rfl, rfl, Nat.le_of_ble_eq_true rfl⟩ dT_X9_leftOf (fun X => ?_)
  show SW X I_X9_leftOf ρi 0 [(0, tA a0), (1, tI a1)] [] h 0 0 (f_X9_leftOf h a0 a1)
  unfold f_X9_leftOf
  refine s_iconst (i := 0) rfl (v := (0 : Int32)) (by decide) ?_
  refine s_istore_n (i := 1) rfl (Nat.le_of_ble_eq_true rfl) (ls2 := [(2, tI ((0 : Int32))), (0, tA a0), (1, tI a1)]) rfl ?_
  refine s_iconst (i := 2) rfl (v := (0 : Int32)) (by decide) ?_
  refine s_istore_n (i := 3) rfl (Nat.le_of_ble_eq_true rfl) (ls2 := [(3, tI ((0 : Int32))), (2, tI ((0 : Int32))), (0, tA a0), (1, tI a1)]) rfl ?_
  exact s_sub [2, 3, 1, 0] rfl (b_X9_leftOf_4 X FU h a0 a1 ((0 : Int32)) ((0 : Int32)))
def y_X9_told : MethodName := ⟨"OpensAtNineModel", "told", "(II)I"⟩
def T_X9_told : List (Nat × Instr × Nat × Nat) := [(0, .aload_n 0, 1, 1), (1, .iload_n 1, 1, 2), (2, .invokevirtual 223, 3, 5), (5, .ifCond .ne 6, 3, 8), (8, .bipush (-5), 2, 10), (10, .ireturn, 1, 11), (11, .iload_n 2, 1, 12), (12, .tableswitch 93 0 6 #[44, 51, 58, 65, 72, 81, 87], 44, 56), (56, .aload_n 0, 1, 57), (57, .getfield 13, 3, 60), (60, .iload_n 1, 1, 61), (61, .iaload, 1, 62), (62, .ireturn, 1, 63), (63, .aload_n 0, 1, 64), (64, .getfield 17, 3, 67), (67, .iload_n 1, 1, 68), (68, .iaload, 1, 69), (69, .ireturn, 1, 70), (70, .aload_n 0, 1, 71), (71, .getfield 20, 3, 74), (74, .iload_n 1, 1, 75), (75, .iaload, 1, 76), (76, .ireturn, 1, 77), (77, .aload_n 0, 1, 78), (78, .getfield 23, 3, 81), (81, .iload_n 1, 1, 82), (82, .iaload, 1, 83), (83, .ireturn, 1, 84), (84, .aload_n 0, 1, 85), (85, .getfield 110, 3, 88), (88, .iload_n 1, 1, 89), (89, .ishr, 1, 90), (90, .iconst 1, 1, 91), (91, .iand, 1, 92), (92, .ireturn, 1, 93), (93, .aload_n 0, 1, 94), (94, .iload_n 1, 1, 95), (95, .invokevirtual 229, 3, 98), (98, .ireturn, 1, 99), (99, .aload_n 0, 1, 100), (100, .iload_n 1, 1, 101), (101, .invokevirtual 232, 3, 104), (104, .ireturn, 1, 105), (105, .bipush (-7), 2, 107), (107, .ireturn, 1, 108)]
def I_X9_told : MI := (prog_11_method_38_code, 3, (some .int), "OpensAtNineModel", "told", T_X9_told, 0, 0, 3, 106)
theorem dT_X9_told : ∀ q ∈ T_X9_told, decode prog_11_method_38_code q.1 = .ok (q.2.1, q.2.2.1) ∧ q.2.2.2 = q.1 + q.2.2.1 := by decide +kernel
theorem xm_X9_told : xCM y_X9_told I_X9_told 9 2 := ⟨⟨tw1240, tw1241⟩, tw84, tw1242, ⟨xT9, 49, rfl⟩, ⟨by decide +kernel, by decide +kernel, by decide +kernel⟩⟩
noncomputable def f_X9_told (h : XM) (a0 : Option Nat) (a1 : Int32) (a2 : Int32) : Option (Int32 × XM) := (vc h 9 a0 (f_X9_isCoin h a0 a1)).bind fun q1 => if q1.1 = 0 then (some ((-5 : Int32), q1.2)) else (if a2 = (0 : Int32) then ((gR q1.2 9 a0 6).bind fun v2 => (rI q1.2 v2 a1).bind fun v3 => some (v3, q1.2)) else (if a2 = (1 : Int32) then ((gR q1.2 9 a0 7).bind fun v4 => (rI q1.2 v4 a1).bind fun v5 => some (v5, q1.2)) else (if a2 = (2 : Int32) then ((gR q1.2 9 a0 8).bind fun v6 => (rI q1.2 v6 a1).bind fun v7 => some (v7, q1.2)) else (if a2 = (3 : Int32) then ((gR q1.2 9 a0 9).bind fun v8 => (rI q1.2 v8 a1).bind fun v9 => some (v9, q1.2)) else (if a2 = (4 : Int32) then ((gI q1.2 9 a0 10).bind fun v10 => some ((v10 >>> (a1 &&& 31)) &&& ((1 : Int32)), q1.2)) else (if a2 = (5 : Int32) then ((vc q1.2 9 a0 (f_X9_countsNow q1.2 a0 a1)).bind fun q11 => some (q11.1, q11.2)) else (if a2 = (6 : Int32) then ((vc q1.2 9 a0 (f_X9_costsOf q1.2 a0 a1)).bind fun q12 => some (q12.1, q12.2)) else (some ((-7 : Int32), q1.2)))))))))
theorem c_X9_told (h : XM) (a0 : Option Nat) (a1 : Int32) (a2 : Int32) : MC I_X9_told y_X9_told [tA a0, tI a1, tI a2] h ρi (f_X9_told h a0 a1 a2) := by
  refine MC_of ⟨by decide +kernel, rfl, rfl, Nat.le_of_ble_eq_true rfl⟩ dT_X9_told (fun X => ?_)
  show SW X I_X9_told ρi 0 [(0, tA a0), (1, tI a1), (2, tI a2)] [] h 0 0 (f_X9_told h a0 a1 a2)
  unfold f_X9_told
  refine s_aload_n (i := 0) rfl 0 rfl ?_
  refine s_iload_n (i := 1) rfl 1 rfl ?_
  refine u_callVi (kk := 9) [tI a1] a0 [] rfl (i := 2) rfl (c_X9_isCoin h a0 a1) xm_X9_isCoin (tw1231) rfl (Nat.le_of_ble_eq_true rfl) (xRm.of rfl) ⟨rfl, rfl⟩ (fun q1 => ?_)
  refine s_ifne (i := 3) rfl (tgt := 11) (by decide) (fun z5 => ?_) (fun z5 => ?_)
  · refine s_bipush (i := 4) rfl (v := (-5 : Int32)) (by decide) ?_
    exact s_iret (i := 5) rfl rfl
  · refine s_iload_n (i := 6) rfl 2 rfl ?_
    refine s_if (P := a2 = (0 : Int32)) (fun z12_0 => ?_) (fun z12_0 => ?_)
    · refine s_table 56 (i := 7) rfl rfl (by rw [z12_0]; rfl) ?_
      refine s_aload_n (i := 8) rfl 0 rfl ?_
      refine s_getR (i := 9) rfl xf_9_13.r rfl (fun v2 => ?_)
      refine s_iload_n (i := 10) rfl 1 rfl ?_
      refine s_iaload (i := 11) rfl (fun v3 => ?_)
      exact s_iret (i := 12) rfl rfl
    refine s_if (P := a2 = (1 : Int32)) (fun z12_1 => ?_) (fun z12_1 => ?_)
    · refine s_table 63 (i := 7) rfl rfl (by rw [z12_1]; rfl) ?_
      refine s_aload_n (i := 13) rfl 0 rfl ?_
      refine s_getR (i := 14) rfl xf_9_17.r rfl (fun v4 => ?_)
      refine s_iload_n (i := 15) rfl 1 rfl ?_
      refine s_iaload (i := 16) rfl (fun v5 => ?_)
      exact s_iret (i := 17) rfl rfl
    refine s_if (P := a2 = (2 : Int32)) (fun z12_2 => ?_) (fun z12_2 => ?_)
    · refine s_table 70 (i := 7) rfl rfl (by rw [z12_2]; rfl) ?_
      refine s_aload_n (i := 18) rfl 0 rfl ?_
      refine s_getR (i := 19) rfl xf_9_20.r rfl (fun v6 => ?_)
      refine s_iload_n (i := 20) rfl 1 rfl ?_
      refine s_iaload (i := 21) rfl (fun v7 => ?_)
      exact s_iret (i := 22) rfl rfl
    refine s_if (P := a2 = (3 : Int32)) (fun z12_3 => ?_) (fun z12_3 => ?_)
    · refine s_table 77 (i := 7) rfl rfl (by rw [z12_3]; rfl) ?_
      refine s_aload_n (i := 23) rfl 0 rfl ?_
      refine s_getR (i := 24) rfl xf_9_23.r rfl (fun v8 => ?_)
      refine s_iload_n (i := 25) rfl 1 rfl ?_
      refine s_iaload (i := 26) rfl (fun v9 => ?_)
      exact s_iret (i := 27) rfl rfl
    refine s_if (P := a2 = (4 : Int32)) (fun z12_4 => ?_) (fun z12_4 => ?_)
    · refine s_table 84 (i := 7) rfl rfl (by rw [z12_4]; rfl) ?_
      refine s_aload_n (i := 28) rfl 0 rfl ?_
      refine s_getI (i := 29) rfl xf_9_110.r rfl (fun v10 => ?_)
      refine s_iload_n (i := 30) rfl 1 rfl ?_
      refine s_ishr (i := 31) rfl ?_
      refine s_iconst (i := 32) rfl (v := (1 : Int32)) (by decide) ?_
      refine s_iand (i := 33) rfl ?_
      exact s_iret (i := 34) rfl rfl
    refine s_if (P := a2 = (5 : Int32)) (fun z12_5 => ?_) (fun z12_5 => ?_)
    · refine s_table 93 (i := 7) rfl rfl (by rw [z12_5]; rfl) ?_
      refine s_aload_n (i := 35) rfl 0 rfl ?_
      refine s_iload_n (i := 36) rfl 1 rfl ?_
      refine u_callVi (kk := 9) [tI a1] a0 [] rfl (i := 37) rfl (c_X9_countsNow q1.2 a0 a1) xm_X9_countsNow (tw1243) rfl (Nat.le_of_ble_eq_true rfl) (xRm.of rfl) ⟨rfl, rfl⟩ (fun q11 => ?_)
      exact s_iret (i := 38) rfl rfl
    refine s_if (P := a2 = (6 : Int32)) (fun z12_6 => ?_) (fun z12_6 => ?_)
    · refine s_table 99 (i := 7) rfl rfl (by rw [z12_6]; rfl) ?_
      refine s_aload_n (i := 39) rfl 0 rfl ?_
      refine s_iload_n (i := 40) rfl 1 rfl ?_
      refine u_callVi (kk := 9) [tI a1] a0 [] rfl (i := 41) rfl (c_X9_costsOf q1.2 a0 a1) xm_X9_costsOf (tw1247) rfl (Nat.le_of_ble_eq_true rfl) (xRm.of rfl) ⟨rfl, rfl⟩ (fun q12 => ?_)
      exact s_iret (i := 42) rfl rfl
    refine s_table 105 (i := 7) rfl rfl (by
      rw [swT_out (fun k h1 h2 => by
        rcases (show k = 0 ∨ k = 1 ∨ k = 2 ∨ k = 3 ∨ k = 4 ∨ k = 5 ∨ k = 6 by omega) with e | e | e | e | e | e | e <;> subst e
        · exact Or.inr z12_0
        · exact Or.inr z12_1
        · exact Or.inr z12_2
        · exact Or.inr z12_3
        · exact Or.inr z12_4
        · exact Or.inr z12_5
        · exact Or.inr z12_6)]
      rfl) ?_
    refine s_bipush (i := 43) rfl (v := (-7 : Int32)) (by decide) ?_
    exact s_iret (i := 44) rfl rfl
def y_X9_canPut : MethodName := ⟨"OpensAtNineModel", "canPut", "(I)Z"⟩
def T_X9_canPut : List (Nat × Instr × Nat × Nat) := [(0, .aload_n 0, 1, 1), (1, .iload_n 1, 1, 2), (2, .invokevirtual 226, 3, 5), (5, .ifCond .eq 20, 3, 8), (8, .aload_n 0, 1, 9), (9, .aload_n 0, 1, 10), (10, .getfield 13, 3, 13), (13, .iload_n 1, 1, 14), (14, .iaload, 1, 15), (15, .invokevirtual 235, 3, 18), (18, .ifCond .ne 7, 3, 21), (21, .iconst 1, 1, 22), (22, .goto 4, 3, 25), (25, .iconst 0, 1, 26), (26, .ireturn, 1, 27)]
def I_X9_canPut : MI := (prog_11_method_39_code, 2, (some .boolean), "OpensAtNineModel", "canPut", T_X9_canPut, 0, 0, 2, 81)
theorem dT_X9_canPut : ∀ q ∈ T_X9_canPut, decode prog_11_method_39_code q.1 = .ok (q.2.1, q.2.2.1) ∧ q.2.2.2 = q.1 + q.2.2.1 := by decide +kernel
theorem xm_X9_canPut : xCM y_X9_canPut I_X9_canPut 9 1 := ⟨⟨tw1257, tw47⟩, tw84, tw1258, ⟨xT9, 49, rfl⟩, ⟨by decide +kernel, by decide +kernel, by decide +kernel⟩⟩
noncomputable def f_X9_canPut_26 (h : XM) (s0 : Int32) : Option (Int32 × XM) := rz h s0
noncomputable def f_X9_canPut_25 (h : XM) : Option (Int32 × XM) := f_X9_canPut_26 h ((0 : Int32))
noncomputable def f_X9_canPut (h : XM) (a0 : Option Nat) (a1 : Int32) : Option (Int32 × XM) := (vc h 9 a0 (f_X9_isLeft h a0 a1)).bind fun q1 => if q1.1 = 0 then (f_X9_canPut_25 q1.2) else ((gR q1.2 9 a0 6).bind fun v2 => (rI q1.2 v2 a1).bind fun v3 => (vc q1.2 9 a0 (f_X9_isInside q1.2 a0 v3)).bind fun q4 => if q4.1 = 0 then (f_X9_canPut_26 q4.2 ((1 : Int32))) else (f_X9_canPut_25 q4.2))
theorem b_X9_canPut_26 (X : XX) (h : XM) (s0 : Int32) : SW X I_X9_canPut ρi 26 [] [tI s0] h 0 0 (f_X9_canPut_26 h s0) := by
  unfold f_X9_canPut_26
  exact s_zret (i := 14) rfl rfl
theorem b_X9_canPut_25 (X : XX) (h : XM) : SW X I_X9_canPut ρi 25 [] [] h 0 0 (f_X9_canPut_25 h) := by
  unfold f_X9_canPut_25
  refine s_iconst (i := 13) rfl (v := (0 : Int32)) (by decide) ?_
  exact s_sub [] rfl (b_X9_canPut_26 X h ((0 : Int32)))
theorem c_X9_canPut (h : XM) (a0 : Option Nat) (a1 : Int32) : MC I_X9_canPut y_X9_canPut [tA a0, tI a1] h ρi (f_X9_canPut h a0 a1) := by
  refine MC_of ⟨by decide +kernel, rfl, rfl, Nat.le_of_ble_eq_true rfl⟩ dT_X9_canPut (fun X => ?_)
  show SW X I_X9_canPut ρi 0 [(0, tA a0), (1, tI a1)] [] h 0 0 (f_X9_canPut h a0 a1)
  unfold f_X9_canPut
  refine s_aload_n (i := 0) rfl 0 rfl ?_
  refine s_iload_n (i := 1) rfl 1 rfl ?_
  refine u_callVi (kk := 9) [tI a1] a0 [] rfl (i := 2) rfl (c_X9_isLeft h a0 a1) xm_X9_isLeft (tw1235) rfl (Nat.le_of_ble_eq_true rfl) (xRm.of rfl) ⟨rfl, rfl⟩ (fun q1 => ?_)
  refine s_ifeq (i := 3) rfl (tgt := 25) (by decide) (fun z5 => ?_) (fun z5 => ?_)
  · exact s_sub [] rfl (b_X9_canPut_25 X q1.2)
  · refine s_aload_n (i := 4) rfl 0 rfl ?_
    refine s_aload_n (i := 5) rfl 0 rfl ?_
    refine s_getR (i := 6) rfl xf_9_13.r rfl (fun v2 => ?_)
    refine s_iload_n (i := 7) rfl 1 rfl ?_
    refine s_iaload (i := 8) rfl (fun v3 => ?_)
    refine u_callVi (kk := 9) [tI v3] a0 [] rfl (i := 9) rfl (c_X9_isInside q1.2 a0 v3) xm_X9_isInside (tw1259) rfl (Nat.le_of_ble_eq_true rfl) (xRm.of rfl) ⟨rfl, rfl⟩ (fun q4 => ?_)
    refine s_ifne (i := 10) rfl (tgt := 25) (by decide) (fun z18 => ?_) (fun z18 => ?_)
    · refine s_iconst (i := 11) rfl (v := (1 : Int32)) (by decide) ?_
      refine s_goto (i := 12) rfl (tgt := 26) (by decide) ?_
      exact s_sub [] rfl (b_X9_canPut_26 X q4.2 ((1 : Int32)))
    · exact s_sub [] rfl (b_X9_canPut_25 X q4.2)
def y_X9_paysIn : MethodName := ⟨"OpensAtNineModel", "paysIn", "(I)Z"⟩
def T_X9_paysIn : List (Nat × Instr × Nat × Nat) := [(0, .aload_n 0, 1, 1), (1, .getfield 13, 3, 4), (4, .iload_n 1, 1, 5), (5, .iaload, 1, 6), (6, .istore_n 2, 1, 7), (7, .aload_n 0, 1, 8), (8, .iload_n 1, 1, 9), (9, .invokevirtual 229, 3, 12), (12, .istore_n 3, 1, 13), (13, .aload_n 0, 1, 14), (14, .aload_n 0, 1, 15), (15, .getfield 113, 3, 18), (18, .iload_n 3, 1, 19), (19, .iadd, 1, 20), (20, .iconst 0, 1, 21), (21, .sipush 9999, 3, 24), (24, .invokestatic 217, 3, 27), (27, .putfield 113, 3, 30), (30, .aload_n 0, 1, 31), (31, .dup, 1, 32), (32, .getfield 110, 3, 35), (35, .iconst 1, 1, 36), (36, .iload_n 1, 1, 37), (37, .ishl, 1, 38), (38, .ior, 1, 39), (39, .putfield 110, 3, 42), (42, .aload_n 0, 1, 43), (43, .iconst 0, 1, 44), (44, .aload_n 0, 1, 45), (45, .getfield 113, 3, 48), (48, .iload_n 3, 1, 49), (49, .aload_n 0, 1, 50), (50, .getfield 116, 3, 53), (53, .aload_n 0, 1, 54), (54, .iload_n 2, 1, 55), (55, .invokevirtual 238, 3, 58), (58, .iload_n 2, 1, 59), (59, .invokevirtual 220, 3, 62), (62, .iconst 1, 1, 63), (63, .if_icmp .ne 7, 3, 66), (66, .iconst 1, 1, 67), (67, .goto 4, 3, 70), (70, .iconst 0, 1, 71), (71, .istore 4, 2, 73), (73, .aload_n 0, 1, 74), (74, .aload_n 0, 1, 75), (75, .getfield 116, 3, 78), (78, .iconst 1, 1, 79), (79, .iadd, 1, 80), (80, .iconst 0, 1, 81), (81, .bipush 99, 2, 83), (83, .invokestatic 217, 3, 86), (86, .putfield 116, 3, 89), (89, .aload_n 0, 1, 90), (90, .dup, 1, 91), (91, .getfield 107, 3, 94), (94, .iload 4, 2, 96), (96, .ifCond .eq 9, 3, 99), (99, .iconst 1, 1, 100), (100, .iload_n 2, 1, 101), (101, .ishl, 1, 102), (102, .goto 4, 3, 105), (105, .iconst 0, 1, 106), (106, .ior, 1, 107), (107, .putfield 107, 3, 110), (110, .iload 4, 2, 112), (112, .ireturn, 1, 113)]
def I_X9_paysIn : MI := (prog_11_method_40_code, 5, (some .boolean), "OpensAtNineModel", "paysIn", T_X9_paysIn, 0, 0, 5, 162)
theorem dT_X9_paysIn : ∀ q ∈ T_X9_paysIn, decode prog_11_method_40_code q.1 = .ok (q.2.1, q.2.2.1) ∧ q.2.2.2 = q.1 + q.2.2.1 := by decide +kernel
theorem xm_X9_paysIn : xCM y_X9_paysIn I_X9_paysIn 9 1 := ⟨⟨tw1265, tw49⟩, tw84, tw1266, ⟨xT9, 49, rfl⟩, ⟨by decide +kernel, by decide +kernel, by decide +kernel⟩⟩
noncomputable def f_X9_paysIn_106 (h : XM) (l4 : Int32) (s0 : Int32) (s1 : Int32) (s2 : Option Nat) : Option (Int32 × XM) := (pI h 9 s2 4 (s1 ||| s0)).bind fun h1 => rz h1 l4
noncomputable def f_X9_paysIn_71 (h : XM) (l0 : Option Nat) (l2 : Int32) (s0 : Int32) : Option (Int32 × XM) := (gI h 9 l0 2).bind fun v2 => (f_X9_within h (v2 + ((1 : Int32))) ((0 : Int32)) ((99 : Int32))).bind fun q3 => (pI q3.2 9 l0 2 q3.1).bind fun h4 => (gI h4 9 l0 4).bind fun v5 => if s0 = 0 then (f_X9_paysIn_106 h4 s0 ((0 : Int32)) v5 l0) else (f_X9_paysIn_106 h4 s0 (((1 : Int32)) <<< (l2 &&& 31)) v5 l0)
noncomputable def f_X9_paysIn (h : XM) (a0 : Option Nat) (a1 : Int32) : Option (Int32 × XM) := (gR h 9 a0 6).bind fun v6 => (rI h v6 a1).bind fun v7 => (vc h 9 a0 (f_X9_countsNow h a0 a1)).bind fun q8 => (gI q8.2 9 a0 1).bind fun v9 => (f_X9_within q8.2 (v9 + q8.1) ((0 : Int32)) ((9999 : Int32))).bind fun q10 => (pI q10.2 9 a0 1 q10.1).bind fun h11 => (gI h11 9 a0 10).bind fun v12 => (pI h11 9 a0 10 (v12 ||| (((1 : Int32)) <<< (a1 &&& 31)))).bind fun h13 => (gI h13 9 a0 1).bind fun v14 => (gI h13 9 a0 2).bind fun v15 => (vc h13 9 a0 (f_X9_leftOf h13 a0 v7)).bind fun q16 => (vc q16.2 9 a0 (f_X9_asksOf q16.2 a0 ((0 : Int32)) v14 q8.1 v15 q16.1 v7)).bind fun q17 => if q17.1 = ((1 : Int32)) then (f_X9_paysIn_71 q17.2 a0 v7 ((1 : Int32))) else (f_X9_paysIn_71 q17.2 a0 v7 ((0 : Int32)))
theorem b_X9_paysIn_106 (X : XX) (h : XM) (l4 : Int32) (s0 : Int32) (s1 : Int32) (s2 : Option Nat) : SW X I_X9_paysIn ρi 106 [(4, tI l4)] [tI s0, tI s1, tA s2] h 0 0 (f_X9_paysIn_106 h l4 s0 s1 s2) := by
  unfold f_X9_paysIn_106
  refine s_ior (i := 63) rfl ?_
  refine s_putI (i := 64) rfl xf_9_107 (fun q => by cases q) rfl rfl (fun h1 => ?_)
  refine s_iload (i := 65) rfl 0 rfl ?_
  exact s_zret (i := 66) rfl rfl
theorem b_X9_paysIn_71 (X : XX) (h : XM) (l0 : Option Nat) (l2 : Int32) (s0 : Int32) : SW X I_X9_paysIn ρi 71 [(0, tA l0), (2, tI l2)] [tI s0] h 0 0 (f_X9_paysIn_71 h l0 l2 s0) := by
  unfold f_X9_paysIn_71
  refine s_istore (i := 43) rfl (Nat.le_of_ble_eq_true rfl) (ls2 := [(4, tI s0), (0, tA l0), (2, tI l2)]) rfl ?_
  refine s_aload_n (i := 44) rfl 1 rfl ?_
  refine s_aload_n (i := 45) rfl 1 rfl ?_
  refine s_getI (i := 46) rfl xf_9_116.r rfl (fun v2 => ?_)
  refine s_iconst (i := 47) rfl (v := (1 : Int32)) (by decide) ?_
  refine s_iadd (i := 48) rfl ?_
  refine s_iconst (i := 49) rfl (v := (0 : Int32)) (by decide) ?_
  refine s_bipush (i := 50) rfl (v := (99 : Int32)) (by decide) ?_
  refine u_callSi [tI (v2 + ((1 : Int32))), tI ((0 : Int32)), tI ((99 : Int32))] [tA l0] rfl (i := 51) rfl (c_X9_within h (v2 + ((1 : Int32))) ((0 : Int32)) ((99 : Int32))) xm_X9_within (tw1213) rfl (Nat.le_of_ble_eq_true rfl) (xRm.of rfl) ⟨rfl, rfl⟩ (fun q3 => ?_)
  refine s_putI (i := 52) rfl xf_9_116 (fun q => by cases q) rfl rfl (fun h4 => ?_)
  refine s_aload_n (i := 53) rfl 1 rfl ?_
  refine s_dup (i := 54) rfl rfl ?_
  refine s_getI (i := 55) rfl xf_9_107.r rfl (fun v5 => ?_)
  refine s_iload (i := 56) rfl 0 rfl ?_
  refine s_ifeq (i := 57) rfl (tgt := 105) (by decide) (fun z96 => ?_) (fun z96 => ?_)
  · refine s_iconst (i := 62) rfl (v := (0 : Int32)) (by decide) ?_
    exact s_sub [0] rfl (b_X9_paysIn_106 X h4 s0 ((0 : Int32)) v5 l0)
  · refine s_iconst (i := 58) rfl (v := (1 : Int32)) (by decide) ?_
    refine s_iload_n (i := 59) rfl 2 rfl ?_
    refine s_ishl (i := 60) rfl ?_
    refine s_goto (i := 61) rfl (tgt := 106) (by decide) ?_
    exact s_sub [0] rfl (b_X9_paysIn_106 X h4 s0 (((1 : Int32)) <<< (l2 &&& 31)) v5 l0)
theorem c_X9_paysIn (h : XM) (a0 : Option Nat) (a1 : Int32) : MC I_X9_paysIn y_X9_paysIn [tA a0, tI a1] h ρi (f_X9_paysIn h a0 a1) := by
  refine MC_of ⟨by decide +kernel, rfl, rfl, Nat.le_of_ble_eq_true rfl⟩ dT_X9_paysIn (fun X => ?_)
  show SW X I_X9_paysIn ρi 0 [(0, tA a0), (1, tI a1)] [] h 0 0 (f_X9_paysIn h a0 a1)
  unfold f_X9_paysIn
  refine s_aload_n (i := 0) rfl 0 rfl ?_
  refine s_getR (i := 1) rfl xf_9_13.r rfl (fun v6 => ?_)
  refine s_iload_n (i := 2) rfl 1 rfl ?_
  refine s_iaload (i := 3) rfl (fun v7 => ?_)
  refine s_istore_n (i := 4) rfl (Nat.le_of_ble_eq_true rfl) (ls2 := [(2, tI v7), (0, tA a0), (1, tI a1)]) rfl ?_
  refine s_aload_n (i := 5) rfl 1 rfl ?_
  refine s_iload_n (i := 6) rfl 2 rfl ?_
  refine u_callVi (kk := 9) [tI a1] a0 [] rfl (i := 7) rfl (c_X9_countsNow h a0 a1) xm_X9_countsNow (tw1243) rfl (Nat.le_of_ble_eq_true rfl) (xRm.of rfl) ⟨rfl, rfl⟩ (fun q8 => ?_)
  refine s_istore_n (i := 8) rfl (Nat.le_of_ble_eq_true rfl) (ls2 := [(3, tI q8.1), (2, tI v7), (0, tA a0), (1, tI a1)]) rfl ?_
  refine s_aload_n (i := 9) rfl 2 rfl ?_
  refine s_aload_n (i := 10) rfl 2 rfl ?_
  refine s_getI (i := 11) rfl xf_9_113.r rfl (fun v9 => ?_)
  refine s_iload_n (i := 12) rfl 0 rfl ?_
  refine s_iadd (i := 13) rfl ?_
  refine s_iconst (i := 14) rfl (v := (0 : Int32)) (by decide) ?_
  refine s_sipush (i := 15) rfl (v := (9999 : Int32)) (by decide) ?_
  refine u_callSi [tI (v9 + q8.1), tI ((0 : Int32)), tI ((9999 : Int32))] [tA a0] rfl (i := 16) rfl (c_X9_within q8.2 (v9 + q8.1) ((0 : Int32)) ((9999 : Int32))) xm_X9_within (tw1213) rfl (Nat.le_of_ble_eq_true rfl) (xRm.of rfl) ⟨rfl, rfl⟩ (fun q10 => ?_)
  refine s_putI (i := 17) rfl xf_9_113 (fun q => by cases q) rfl rfl (fun h11 => ?_)
  refine s_aload_n (i := 18) rfl 2 rfl ?_
  refine s_dup (i := 19) rfl rfl ?_
  refine s_getI (i := 20) rfl xf_9_110.r rfl (fun v12 => ?_)
  refine s_iconst (i := 21) rfl (v := (1 : Int32)) (by decide) ?_
  refine s_iload_n (i := 22) rfl 3 rfl ?_
  refine s_ishl (i := 23) rfl ?_
  refine s_ior (i := 24) rfl ?_
  refine s_putI (i := 25) rfl xf_9_110 (fun q => by cases q) rfl rfl (fun h13 => ?_)
  refine s_aload_n (i := 26) rfl 2 rfl ?_
  refine s_iconst (i := 27) rfl (v := (0 : Int32)) (by decide) ?_
  refine s_aload_n (i := 28) rfl 2 rfl ?_
  refine s_getI (i := 29) rfl xf_9_113.r rfl (fun v14 => ?_)
  refine s_iload_n (i := 30) rfl 0 rfl ?_
  refine s_aload_n (i := 31) rfl 2 rfl ?_
  refine s_getI (i := 32) rfl xf_9_116.r rfl (fun v15 => ?_)
  refine s_aload_n (i := 33) rfl 2 rfl ?_
  refine s_iload_n (i := 34) rfl 1 rfl ?_
  refine u_callVi (kk := 9) [tI v7] a0 [tI v15, tI q8.1, tI v14, tI ((0 : Int32)), tA a0] rfl (i := 35) rfl (c_X9_leftOf h13 a0 v7) xm_X9_leftOf (tw1267) rfl (Nat.le_of_ble_eq_true rfl) (xRm.of rfl) ⟨rfl, rfl⟩ (fun q16 => ?_)
  refine s_iload_n (i := 36) rfl 1 rfl ?_
  refine u_callVi (kk := 9) [tI ((0 : Int32)), tI v14, tI q8.1, tI v15, tI q16.1, tI v7] a0 [] rfl (i := 37) rfl (c_X9_asksOf q16.2 a0 ((0 : Int32)) v14 q8.1 v15 q16.1 v7) xm_X9_asksOf (tw1198) rfl (Nat.le_of_ble_eq_true rfl) (xRm.of rfl) ⟨rfl, rfl⟩ (fun q17 => ?_)
  refine s_iconst (i := 38) rfl (v := (1 : Int32)) (by decide) ?_
  refine s_icmpne (i := 39) rfl (tgt := 70) (by decide) (fun z63 => ?_) (fun z63 => ?_)
  · refine s_iconst (i := 40) rfl (v := (1 : Int32)) (by decide) ?_
    refine s_goto (i := 41) rfl (tgt := 71) (by decide) ?_
    exact s_sub [2, 1] rfl (b_X9_paysIn_71 X q17.2 a0 v7 ((1 : Int32)))
  · refine s_iconst (i := 42) rfl (v := (0 : Int32)) (by decide) ?_
    exact s_sub [2, 1] rfl (b_X9_paysIn_71 X q17.2 a0 v7 ((0 : Int32)))
def y_X9_put : MethodName := ⟨"OpensAtNineModel", "put", "(I)I"⟩
def T_X9_put : List (Nat × Instr × Nat × Nat) := [(0, .aload_n 0, 1, 1), (1, .iload_n 1, 1, 2), (2, .invokevirtual 223, 3, 5), (5, .ifCond .ne 6, 3, 8), (8, .bipush (-5), 2, 10), (10, .ireturn, 1, 11), (11, .aload_n 0, 1, 12), (12, .iload_n 1, 1, 13), (13, .invokevirtual 241, 3, 16), (16, .ifCond .ne 6, 3, 19), (19, .bipush (-3), 2, 21), (21, .ireturn, 1, 22), (22, .aload_n 0, 1, 23), (23, .iload_n 1, 1, 24), (24, .invokevirtual 244, 3, 27), (27, .ifCond .eq 7, 3, 30), (30, .iconst 1, 1, 31), (31, .goto 4, 3, 34), (34, .iconst 0, 1, 35), (35, .ireturn, 1, 36)]
def I_X9_put : MI := (prog_11_method_41_code, 2, (some .int), "OpensAtNineModel", "put", T_X9_put, 0, 0, 6, 186)
theorem dT_X9_put : ∀ q ∈ T_X9_put, decode prog_11_method_41_code q.1 = .ok (q.2.1, q.2.2.1) ∧ q.2.2.2 = q.1 + q.2.2.1 := by decide +kernel
theorem xm_X9_put : xCM y_X9_put I_X9_put 9 1 := ⟨⟨tw1252, tw1253⟩, tw84, tw1254, ⟨xT9, 49, rfl⟩, ⟨by decide +kernel, by decide +kernel, by decide +kernel⟩⟩
noncomputable def f_X9_put_35 (h : XM) (s0 : Int32) : Option (Int32 × XM) := some (s0, h)
noncomputable def f_X9_put (h : XM) (a0 : Option Nat) (a1 : Int32) : Option (Int32 × XM) := (vc h 9 a0 (f_X9_isCoin h a0 a1)).bind fun q1 => if q1.1 = 0 then (some ((-5 : Int32), q1.2)) else ((vc q1.2 9 a0 (f_X9_canPut q1.2 a0 a1)).bind fun q2 => if q2.1 = 0 then (some ((-3 : Int32), q2.2)) else ((vc q2.2 9 a0 (f_X9_paysIn q2.2 a0 a1)).bind fun q3 => if q3.1 = 0 then (f_X9_put_35 q3.2 ((0 : Int32))) else (f_X9_put_35 q3.2 ((1 : Int32)))))
theorem b_X9_put_35 (X : XX) (h : XM) (s0 : Int32) : SW X I_X9_put ρi 35 [] [tI s0] h 0 0 (f_X9_put_35 h s0) := by
  unfold f_X9_put_35
  exact s_iret (i := 19) rfl rfl
theorem c_X9_put (h : XM) (a0 : Option Nat) (a1 : Int32) : MC I_X9_put y_X9_put [tA a0, tI a1] h ρi (f_X9_put h a0 a1) := by
  refine MC_of ⟨by decide +kernel, rfl, rfl, Nat.le_of_ble_eq_true rfl⟩ dT_X9_put (fun X => ?_)
  show SW X I_X9_put ρi 0 [(0, tA a0), (1, tI a1)] [] h 0 0 (f_X9_put h a0 a1)
  unfold f_X9_put
  refine s_aload_n (i := 0) rfl 0 rfl ?_
  refine s_iload_n (i := 1) rfl 1 rfl ?_
  refine u_callVi (kk := 9) [tI a1] a0 [] rfl (i := 2) rfl (c_X9_isCoin h a0 a1) xm_X9_isCoin (tw1231) rfl (Nat.le_of_ble_eq_true rfl) (xRm.of rfl) ⟨rfl, rfl⟩ (fun q1 => ?_)
  refine s_ifne (i := 3) rfl (tgt := 11) (by decide) (fun z5 => ?_) (fun z5 => ?_)
  · refine s_bipush (i := 4) rfl (v := (-5 : Int32)) (by decide) ?_
    exact s_iret (i := 5) rfl rfl
  · refine s_aload_n (i := 6) rfl 0 rfl ?_
    refine s_iload_n (i := 7) rfl 1 rfl ?_
    refine u_callVi (kk := 9) [tI a1] a0 [] rfl (i := 8) rfl (c_X9_canPut q1.2 a0 a1) xm_X9_canPut (tw1255) rfl (Nat.le_of_ble_eq_true rfl) (xRm.of rfl) ⟨rfl, rfl⟩ (fun q2 => ?_)
    refine s_ifne (i := 9) rfl (tgt := 22) (by decide) (fun z16 => ?_) (fun z16 => ?_)
    · refine s_bipush (i := 10) rfl (v := (-3 : Int32)) (by decide) ?_
      exact s_iret (i := 11) rfl rfl
    · refine s_aload_n (i := 12) rfl 0 rfl ?_
      refine s_iload_n (i := 13) rfl 1 rfl ?_
      refine u_callVi (kk := 9) [tI a1] a0 [] rfl (i := 14) rfl (c_X9_paysIn q2.2 a0 a1) xm_X9_paysIn (tw1263) rfl (Nat.le_of_ble_eq_true rfl) (xRm.of rfl) ⟨rfl, rfl⟩ (fun q3 => ?_)
      refine s_ifeq (i := 15) rfl (tgt := 34) (by decide) (fun z27 => ?_) (fun z27 => ?_)
      · refine s_iconst (i := 18) rfl (v := (0 : Int32)) (by decide) ?_
        exact s_sub [] rfl (b_X9_put_35 X q3.2 ((0 : Int32)))
      · refine s_iconst (i := 16) rfl (v := (1 : Int32)) (by decide) ?_
        refine s_goto (i := 17) rfl (tgt := 35) (by decide) ?_
        exact s_sub [] rfl (b_X9_put_35 X q3.2 ((1 : Int32)))
def y_X9_worthOf : MethodName := ⟨"OpensAtNineModel", "worthOf", "(I)I"⟩
def T_X9_worthOf : List (Nat × Instr × Nat × Nat) := [(0, .aload_n 0, 1, 1), (1, .iload_n 1, 1, 2), (2, .invokevirtual 238, 3, 5), (5, .istore_n 2, 1, 6), (6, .aload_n 0, 1, 7), (7, .iload_n 1, 1, 8), (8, .invokevirtual 235, 3, 11), (11, .ifCond .eq 22, 3, 14), (14, .aload_n 0, 1, 15), (15, .iconst 1, 1, 16), (16, .aload_n 0, 1, 17), (17, .getfield 113, 3, 20), (20, .iconst 0, 1, 21), (21, .aload_n 0, 1, 22), (22, .getfield 116, 3, 25), (25, .iload_n 2, 1, 26), (26, .iload_n 1, 1, 27), (27, .invokevirtual 220, 3, 30), (30, .goto 4, 3, 33), (33, .iconst 0, 1, 34), (34, .istore_n 3, 1, 35), (35, .iload_n 3, 1, 36), (36, .aload_n 0, 1, 37), (37, .iconst 2, 1, 38), (38, .aload_n 0, 1, 39), (39, .getfield 113, 3, 42), (42, .iconst 0, 1, 43), (43, .aload_n 0, 1, 44), (44, .getfield 116, 3, 47), (47, .iload_n 2, 1, 48), (48, .iload_n 1, 1, 49), (49, .invokevirtual 220, 3, 52), (52, .isub, 1, 53), (53, .ireturn, 1, 54)]
def I_X9_worthOf : MI := (prog_11_method_42_code, 4, (some .int), "OpensAtNineModel", "worthOf", T_X9_worthOf, 0, 0, 5, 162)
theorem dT_X9_worthOf : ∀ q ∈ T_X9_worthOf, decode prog_11_method_42_code q.1 = .ok (q.2.1, q.2.2.1) ∧ q.2.2.2 = q.1 + q.2.2.1 := by decide +kernel
theorem xm_X9_worthOf : xCM y_X9_worthOf I_X9_worthOf 9 1 := ⟨⟨tw1277, tw51⟩, tw84, tw1278, ⟨xT9, 49, rfl⟩, ⟨by decide +kernel, by decide +kernel, by decide +kernel⟩⟩
noncomputable def f_X9_worthOf_34 (h : XM) (l0 : Option Nat) (l1 : Int32) (l2 : Int32) (s0 : Int32) : Option (Int32 × XM) := (gI h 9 l0 1).bind fun v1 => (gI h 9 l0 2).bind fun v2 => (vc h 9 l0 (f_X9_asksOf h l0 ((2 : Int32)) v1 ((0 : Int32)) v2 l2 l1)).bind fun q3 => some (s0 - q3.1, q3.2)
noncomputable def f_X9_worthOf (h : XM) (a0 : Option Nat) (a1 : Int32) : Option (Int32 × XM) := (vc h 9 a0 (f_X9_leftOf h a0 a1)).bind fun q4 => (vc q4.2 9 a0 (f_X9_isInside q4.2 a0 a1)).bind fun q5 => if q5.1 = 0 then (f_X9_worthOf_34 q5.2 a0 a1 q4.1 ((0 : Int32))) else ((gI q5.2 9 a0 1).bind fun v6 => (gI q5.2 9 a0 2).bind fun v7 => (vc q5.2 9 a0 (f_X9_asksOf q5.2 a0 ((1 : Int32)) v6 ((0 : Int32)) v7 q4.1 a1)).bind fun q8 => f_X9_worthOf_34 q8.2 a0 a1 q4.1 q8.1)
theorem b_X9_worthOf_34 (X : XX) (h : XM) (l0 : Option Nat) (l1 : Int32) (l2 : Int32) (s0 : Int32) : SW X I_X9_worthOf ρi 34 [(0, tA l0), (1, tI l1), (2, tI l2)] [tI s0] h 0 0 (f_X9_worthOf_34 h l0 l1 l2 s0) := by
  unfold f_X9_worthOf_34
  refine s_istore_n (i := 20) rfl (Nat.le_of_ble_eq_true rfl) (ls2 := [(3, tI s0), (0, tA l0), (1, tI l1), (2, tI l2)]) rfl ?_
  refine s_iload_n (i := 21) rfl 0 rfl ?_
  refine s_aload_n (i := 22) rfl 1 rfl ?_
  refine s_iconst (i := 23) rfl (v := (2 : Int32)) (by decide) ?_
  refine s_aload_n (i := 24) rfl 1 rfl ?_
  refine s_getI (i := 25) rfl xf_9_113.r rfl (fun v1 => ?_)
  refine s_iconst (i := 26) rfl (v := (0 : Int32)) (by decide) ?_
  refine s_aload_n (i := 27) rfl 1 rfl ?_
  refine s_getI (i := 28) rfl xf_9_116.r rfl (fun v2 => ?_)
  refine s_iload_n (i := 29) rfl 3 rfl ?_
  refine s_iload_n (i := 30) rfl 2 rfl ?_
  refine u_callVi (kk := 9) [tI ((2 : Int32)), tI v1, tI ((0 : Int32)), tI v2, tI l2, tI l1] l0 [tI s0] rfl (i := 31) rfl (c_X9_asksOf h l0 ((2 : Int32)) v1 ((0 : Int32)) v2 l2 l1) xm_X9_asksOf (tw1198) rfl (Nat.le_of_ble_eq_true rfl) (xRm.of rfl) ⟨rfl, rfl⟩ (fun q3 => ?_)
  refine s_isub (i := 32) rfl ?_
  exact s_iret (i := 33) rfl rfl
theorem c_X9_worthOf (h : XM) (a0 : Option Nat) (a1 : Int32) : MC I_X9_worthOf y_X9_worthOf [tA a0, tI a1] h ρi (f_X9_worthOf h a0 a1) := by
  refine MC_of ⟨by decide +kernel, rfl, rfl, Nat.le_of_ble_eq_true rfl⟩ dT_X9_worthOf (fun X => ?_)
  show SW X I_X9_worthOf ρi 0 [(0, tA a0), (1, tI a1)] [] h 0 0 (f_X9_worthOf h a0 a1)
  unfold f_X9_worthOf
  refine s_aload_n (i := 0) rfl 0 rfl ?_
  refine s_iload_n (i := 1) rfl 1 rfl ?_
  refine u_callVi (kk := 9) [tI a1] a0 [] rfl (i := 2) rfl (c_X9_leftOf h a0 a1) xm_X9_leftOf (tw1267) rfl (Nat.le_of_ble_eq_true rfl) (xRm.of rfl) ⟨rfl, rfl⟩ (fun q4 => ?_)
  refine s_istore_n (i := 3) rfl (Nat.le_of_ble_eq_true rfl) (ls2 := [(2, tI q4.1), (0, tA a0), (1, tI a1)]) rfl ?_
  refine s_aload_n (i := 4) rfl 1 rfl ?_
  refine s_iload_n (i := 5) rfl 2 rfl ?_
  refine u_callVi (kk := 9) [tI a1] a0 [] rfl (i := 6) rfl (c_X9_isInside q4.2 a0 a1) xm_X9_isInside (tw1259) rfl (Nat.le_of_ble_eq_true rfl) (xRm.of rfl) ⟨rfl, rfl⟩ (fun q5 => ?_)
  refine s_ifeq (i := 7) rfl (tgt := 33) (by decide) (fun z11 => ?_) (fun z11 => ?_)
  · refine s_iconst (i := 19) rfl (v := (0 : Int32)) (by decide) ?_
    exact s_sub [1, 2, 0] rfl (b_X9_worthOf_34 X q5.2 a0 a1 q4.1 ((0 : Int32)))
  · refine s_aload_n (i := 8) rfl 1 rfl ?_
    refine s_iconst (i := 9) rfl (v := (1 : Int32)) (by decide) ?_
    refine s_aload_n (i := 10) rfl 1 rfl ?_
    refine s_getI (i := 11) rfl xf_9_113.r rfl (fun v6 => ?_)
    refine s_iconst (i := 12) rfl (v := (0 : Int32)) (by decide) ?_
    refine s_aload_n (i := 13) rfl 1 rfl ?_
    refine s_getI (i := 14) rfl xf_9_116.r rfl (fun v7 => ?_)
    refine s_iload_n (i := 15) rfl 0 rfl ?_
    refine s_iload_n (i := 16) rfl 2 rfl ?_
    refine u_callVi (kk := 9) [tI ((1 : Int32)), tI v6, tI ((0 : Int32)), tI v7, tI q4.1, tI a1] a0 [] rfl (i := 17) rfl (c_X9_asksOf q5.2 a0 ((1 : Int32)) v6 ((0 : Int32)) v7 q4.1 a1) xm_X9_asksOf (tw1198) rfl (Nat.le_of_ble_eq_true rfl) (xRm.of rfl) ⟨rfl, rfl⟩ (fun q8 => ?_)
    refine s_goto (i := 18) rfl (tgt := 34) (by decide) ?_
    exact s_sub [1, 2, 0] rfl (b_X9_worthOf_34 X q8.2 a0 a1 q4.1 q8.1)
def y_X9_worth : MethodName := ⟨"OpensAtNineModel", "worth", "(I)I"⟩
def T_X9_worth : List (Nat × Instr × Nat × Nat) := [(0, .aload_n 0, 1, 1), (1, .iload_n 1, 1, 2), (2, .invokevirtual 119, 3, 5), (5, .ifCond .eq 11, 3, 8), (8, .aload_n 0, 1, 9), (9, .iload_n 1, 1, 10), (10, .invokevirtual 247, 3, 13), (13, .goto 5, 3, 16), (16, .ldc 250, 2, 18), (18, .ireturn, 1, 19)]
def I_X9_worth : MI := (prog_11_method_43_code, 2, (some .int), "OpensAtNineModel", "worth", T_X9_worth, 0, 0, 6, 185)
theorem dT_X9_worth : ∀ q ∈ T_X9_worth, decode prog_11_method_43_code q.1 = .ok (q.2.1, q.2.2.1) ∧ q.2.2.2 = q.1 + q.2.2.1 := by decide +kernel
theorem xm_X9_worth : xCM y_X9_worth I_X9_worth 9 1 := ⟨⟨tw1272, tw1273⟩, tw84, tw1274, ⟨xT9, 49, rfl⟩, ⟨by decide +kernel, by decide +kernel, by decide +kernel⟩⟩
noncomputable def f_X9_worth_18 (h : XM) (s0 : Int32) : Option (Int32 × XM) := some (s0, h)
noncomputable def f_X9_worth (h : XM) (a0 : Option Nat) (a1 : Int32) : Option (Int32 × XM) := (vc h 9 a0 (f_X9_isOne h a0 a1)).bind fun q1 => if q1.1 = 0 then (f_X9_worth_18 q1.2 ((-100000 : Int32))) else ((vc q1.2 9 a0 (f_X9_worthOf q1.2 a0 a1)).bind fun q2 => f_X9_worth_18 q2.2 q2.1)
theorem b_X9_worth_18 (X : XX) (h : XM) (s0 : Int32) : SW X I_X9_worth ρi 18 [] [tI s0] h 0 0 (f_X9_worth_18 h s0) := by
  unfold f_X9_worth_18
  exact s_iret (i := 9) rfl rfl
theorem c_X9_worth (h : XM) (a0 : Option Nat) (a1 : Int32) : MC I_X9_worth y_X9_worth [tA a0, tI a1] h ρi (f_X9_worth h a0 a1) := by
  refine MC_of ⟨by decide +kernel, rfl, rfl, Nat.le_of_ble_eq_true rfl⟩ dT_X9_worth (fun X => ?_)
  show SW X I_X9_worth ρi 0 [(0, tA a0), (1, tI a1)] [] h 0 0 (f_X9_worth h a0 a1)
  unfold f_X9_worth
  refine s_aload_n (i := 0) rfl 0 rfl ?_
  refine s_iload_n (i := 1) rfl 1 rfl ?_
  refine u_callVi (kk := 9) [tI a1] a0 [] rfl (i := 2) rfl (c_X9_isOne h a0 a1) xm_X9_isOne (tw1174) rfl (Nat.le_of_ble_eq_true rfl) (xRm.of rfl) ⟨rfl, rfl⟩ (fun q1 => ?_)
  refine s_ifeq (i := 3) rfl (tgt := 16) (by decide) (fun z5 => ?_) (fun z5 => ?_)
  · refine s_ldc (i := 8) rfl (v := (-100000 : Int32)) (tw1279) ?_
    exact s_sub [] rfl (b_X9_worth_18 X q1.2 ((-100000 : Int32)))
  · refine s_aload_n (i := 4) rfl 0 rfl ?_
    refine s_iload_n (i := 5) rfl 1 rfl ?_
    refine u_callVi (kk := 9) [tI a1] a0 [] rfl (i := 6) rfl (c_X9_worthOf q1.2 a0 a1) xm_X9_worthOf (tw1275) rfl (Nat.le_of_ble_eq_true rfl) (xRm.of rfl) ⟨rfl, rfl⟩ (fun q2 => ?_)
    refine s_goto (i := 7) rfl (tgt := 18) (by decide) ?_
    exact s_sub [] rfl (b_X9_worth_18 X q2.2 q2.1)
def y_X9_keeps : MethodName := ⟨"OpensAtNineModel", "keeps", "(I)V"⟩
def T_X9_keeps : List (Nat × Instr × Nat × Nat) := [(0, .aload_n 0, 1, 1), (1, .getfield 72, 3, 4), (4, .iconst 4, 1, 5), (5, .iload_n 1, 1, 6), (6, .imul, 1, 7), (7, .aload_n 0, 1, 8), (8, .getfield 113, 3, 11), (11, .iastore, 1, 12), (12, .aload_n 0, 1, 13), (13, .getfield 72, 3, 16), (16, .iconst 4, 1, 17), (17, .iload_n 1, 1, 18), (18, .imul, 1, 19), (19, .iconst 1, 1, 20), (20, .iadd, 1, 21), (21, .aload_n 0, 1, 22), (22, .getfield 116, 3, 25), (25, .iastore, 1, 26), (26, .aload_n 0, 1, 27), (27, .getfield 72, 3, 30), (30, .iconst 4, 1, 31), (31, .iload_n 1, 1, 32), (32, .imul, 1, 33), (33, .iconst 2, 1, 34), (34, .iadd, 1, 35), (35, .aload_n 0, 1, 36), (36, .getfield 107, 3, 39), (39, .iastore, 1, 40), (40, .aload_n 0, 1, 41), (41, .getfield 72, 3, 44), (44, .iconst 4, 1, 45), (45, .iload_n 1, 1, 46), (46, .imul, 1, 47), (47, .iconst 3, 1, 48), (48, .iadd, 1, 49), (49, .aload_n 0, 1, 50), (50, .getfield 110, 3, 53), (53, .iastore, 1, 54), (54, .return_, 1, 55)]
def I_X9_keeps : MI := (prog_11_method_44_code, 2, none, "OpensAtNineModel", "keeps", T_X9_keeps, 0, 0, 1, 60)
theorem dT_X9_keeps : ∀ q ∈ T_X9_keeps, decode prog_11_method_44_code q.1 = .ok (q.2.1, q.2.2.1) ∧ q.2.2.2 = q.1 + q.2.2.1 := by decide +kernel
theorem xm_X9_keeps : xCM y_X9_keeps I_X9_keeps 9 1 := ⟨⟨tw1294, tw54⟩, tw84, tw1295, ⟨xT9, 49, rfl⟩, ⟨by decide +kernel, by decide +kernel, by decide +kernel⟩⟩
noncomputable def f_X9_keeps (h : XM) (a0 : Option Nat) (a1 : Int32) : Option (XM) := (gR h 9 a0 38).bind fun v1 => (gI h 9 a0 1).bind fun v2 => (sI h v1 (((4 : Int32)) * a1) v2).bind fun h3 => (gR h3 9 a0 38).bind fun v4 => (gI h3 9 a0 2).bind fun v5 => (sI h3 v4 ((((4 : Int32)) * a1) + ((1 : Int32))) v5).bind fun h6 => (gR h6 9 a0 38).bind fun v7 => (gI h6 9 a0 4).bind fun v8 => (sI h6 v7 ((((4 : Int32)) * a1) + ((2 : Int32))) v8).bind fun h9 => (gR h9 9 a0 38).bind fun v10 => (gI h9 9 a0 10).bind fun v11 => (sI h9 v10 ((((4 : Int32)) * a1) + ((3 : Int32))) v11).bind fun h12 => some h12
theorem c_X9_keeps (h : XM) (a0 : Option Nat) (a1 : Int32) : MC I_X9_keeps y_X9_keeps [tA a0, tI a1] h ρv (f_X9_keeps h a0 a1) := by
  refine MC_of ⟨by decide +kernel, rfl, rfl, Nat.le_of_ble_eq_true rfl⟩ dT_X9_keeps (fun X => ?_)
  show SW X I_X9_keeps ρv 0 [(0, tA a0), (1, tI a1)] [] h 0 0 (f_X9_keeps h a0 a1)
  unfold f_X9_keeps
  refine s_aload_n (i := 0) rfl 0 rfl ?_
  refine s_getR (i := 1) rfl xf_9_72.r rfl (fun v1 => ?_)
  refine s_iconst (i := 2) rfl (v := (4 : Int32)) (by decide) ?_
  refine s_iload_n (i := 3) rfl 1 rfl ?_
  refine s_imul (i := 4) rfl ?_
  refine s_aload_n (i := 5) rfl 0 rfl ?_
  refine s_getI (i := 6) rfl xf_9_113.r rfl (fun v2 => ?_)
  refine s_iastore (i := 7) rfl (fun h3 => ?_)
  refine s_aload_n (i := 8) rfl 0 rfl ?_
  refine s_getR (i := 9) rfl xf_9_72.r rfl (fun v4 => ?_)
  refine s_iconst (i := 10) rfl (v := (4 : Int32)) (by decide) ?_
  refine s_iload_n (i := 11) rfl 1 rfl ?_
  refine s_imul (i := 12) rfl ?_
  refine s_iconst (i := 13) rfl (v := (1 : Int32)) (by decide) ?_
  refine s_iadd (i := 14) rfl ?_
  refine s_aload_n (i := 15) rfl 0 rfl ?_
  refine s_getI (i := 16) rfl xf_9_116.r rfl (fun v5 => ?_)
  refine s_iastore (i := 17) rfl (fun h6 => ?_)
  refine s_aload_n (i := 18) rfl 0 rfl ?_
  refine s_getR (i := 19) rfl xf_9_72.r rfl (fun v7 => ?_)
  refine s_iconst (i := 20) rfl (v := (4 : Int32)) (by decide) ?_
  refine s_iload_n (i := 21) rfl 1 rfl ?_
  refine s_imul (i := 22) rfl ?_
  refine s_iconst (i := 23) rfl (v := (2 : Int32)) (by decide) ?_
  refine s_iadd (i := 24) rfl ?_
  refine s_aload_n (i := 25) rfl 0 rfl ?_
  refine s_getI (i := 26) rfl xf_9_107.r rfl (fun v8 => ?_)
  refine s_iastore (i := 27) rfl (fun h9 => ?_)
  refine s_aload_n (i := 28) rfl 0 rfl ?_
  refine s_getR (i := 29) rfl xf_9_72.r rfl (fun v10 => ?_)
  refine s_iconst (i := 30) rfl (v := (4 : Int32)) (by decide) ?_
  refine s_iload_n (i := 31) rfl 1 rfl ?_
  refine s_imul (i := 32) rfl ?_
  refine s_iconst (i := 33) rfl (v := (3 : Int32)) (by decide) ?_
  refine s_iadd (i := 34) rfl ?_
  refine s_aload_n (i := 35) rfl 0 rfl ?_
  refine s_getI (i := 36) rfl xf_9_110.r rfl (fun v11 => ?_)
  refine s_iastore (i := 37) rfl (fun h12 => ?_)
  exact s_vret (i := 38) rfl rfl
def y_X9_laysBack : MethodName := ⟨"OpensAtNineModel", "laysBack", "(I)V"⟩
def T_X9_laysBack : List (Nat × Instr × Nat × Nat) := [(0, .aload_n 0, 1, 1), (1, .aload_n 0, 1, 2), (2, .getfield 72, 3, 5), (5, .iconst 4, 1, 6), (6, .iload_n 1, 1, 7), (7, .imul, 1, 8), (8, .iaload, 1, 9), (9, .putfield 113, 3, 12), (12, .aload_n 0, 1, 13), (13, .aload_n 0, 1, 14), (14, .getfield 72, 3, 17), (17, .iconst 4, 1, 18), (18, .iload_n 1, 1, 19), (19, .imul, 1, 20), (20, .iconst 1, 1, 21), (21, .iadd, 1, 22), (22, .iaload, 1, 23), (23, .putfield 116, 3, 26), (26, .aload_n 0, 1, 27), (27, .aload_n 0, 1, 28), (28, .getfield 72, 3, 31), (31, .iconst 4, 1, 32), (32, .iload_n 1, 1, 33), (33, .imul, 1, 34), (34, .iconst 2, 1, 35), (35, .iadd, 1, 36), (36, .iaload, 1, 37), (37, .putfield 107, 3, 40), (40, .aload_n 0, 1, 41), (41, .aload_n 0, 1, 42), (42, .getfield 72, 3, 45), (45, .iconst 4, 1, 46), (46, .iload_n 1, 1, 47), (47, .imul, 1, 48), (48, .iconst 3, 1, 49), (49, .iadd, 1, 50), (50, .iaload, 1, 51), (51, .putfield 110, 3, 54), (54, .return_, 1, 55)]
def I_X9_laysBack : MI := (prog_11_method_45_code, 2, none, "OpensAtNineModel", "laysBack", T_X9_laysBack, 0, 0, 1, 60)
theorem dT_X9_laysBack : ∀ q ∈ T_X9_laysBack, decode prog_11_method_45_code q.1 = .ok (q.2.1, q.2.2.1) ∧ q.2.2.2 = q.1 + q.2.2.1 := by decide +kernel
theorem xm_X9_laysBack : xCM y_X9_laysBack I_X9_laysBack 9 1 := ⟨⟨tw1298, tw55⟩, tw84, tw1299, ⟨xT9, 49, rfl⟩, ⟨by decide +kernel, by decide +kernel, by decide +kernel⟩⟩
noncomputable def f_X9_laysBack (h : XM) (a0 : Option Nat) (a1 : Int32) : Option (XM) := (gR h 9 a0 38).bind fun v1 => (rI h v1 (((4 : Int32)) * a1)).bind fun v2 => (pI h 9 a0 1 v2).bind fun h3 => (gR h3 9 a0 38).bind fun v4 => (rI h3 v4 ((((4 : Int32)) * a1) + ((1 : Int32)))).bind fun v5 => (pI h3 9 a0 2 v5).bind fun h6 => (gR h6 9 a0 38).bind fun v7 => (rI h6 v7 ((((4 : Int32)) * a1) + ((2 : Int32)))).bind fun v8 => (pI h6 9 a0 4 v8).bind fun h9 => (gR h9 9 a0 38).bind fun v10 => (rI h9 v10 ((((4 : Int32)) * a1) + ((3 : Int32)))).bind fun v11 => (pI h9 9 a0 10 v11).bind fun h12 => some h12
theorem c_X9_laysBack (h : XM) (a0 : Option Nat) (a1 : Int32) : MC I_X9_laysBack y_X9_laysBack [tA a0, tI a1] h ρv (f_X9_laysBack h a0 a1) := by
  refine MC_of ⟨by decide +kernel, rfl, rfl, Nat.le_of_ble_eq_true rfl⟩ dT_X9_laysBack (fun X => ?_)
  show SW X I_X9_laysBack ρv 0 [(0, tA a0), (1, tI a1)] [] h 0 0 (f_X9_laysBack h a0 a1)
  unfold f_X9_laysBack
  refine s_aload_n (i := 0) rfl 0 rfl ?_
  refine s_aload_n (i := 1) rfl 0 rfl ?_
  refine s_getR (i := 2) rfl xf_9_72.r rfl (fun v1 => ?_)
  refine s_iconst (i := 3) rfl (v := (4 : Int32)) (by decide) ?_
  refine s_iload_n (i := 4) rfl 1 rfl ?_
  refine s_imul (i := 5) rfl ?_
  refine s_iaload (i := 6) rfl (fun v2 => ?_)
  refine s_putI (i := 7) rfl xf_9_113 (fun q => by cases q) rfl rfl (fun h3 => ?_)
  refine s_aload_n (i := 8) rfl 0 rfl ?_
  refine s_aload_n (i := 9) rfl 0 rfl ?_
  refine s_getR (i := 10) rfl xf_9_72.r rfl (fun v4 => ?_)
  refine s_iconst (i := 11) rfl (v := (4 : Int32)) (by decide) ?_
  refine s_iload_n (i := 12) rfl 1 rfl ?_
  refine s_imul (i := 13) rfl ?_
  refine s_iconst (i := 14) rfl (v := (1 : Int32)) (by decide) ?_
  refine s_iadd (i := 15) rfl ?_
  refine s_iaload (i := 16) rfl (fun v5 => ?_)
  refine s_putI (i := 17) rfl xf_9_116 (fun q => by cases q) rfl rfl (fun h6 => ?_)
  refine s_aload_n (i := 18) rfl 0 rfl ?_
  refine s_aload_n (i := 19) rfl 0 rfl ?_
  refine s_getR (i := 20) rfl xf_9_72.r rfl (fun v7 => ?_)
  refine s_iconst (i := 21) rfl (v := (4 : Int32)) (by decide) ?_
  refine s_iload_n (i := 22) rfl 1 rfl ?_
  refine s_imul (i := 23) rfl ?_
  refine s_iconst (i := 24) rfl (v := (2 : Int32)) (by decide) ?_
  refine s_iadd (i := 25) rfl ?_
  refine s_iaload (i := 26) rfl (fun v8 => ?_)
  refine s_putI (i := 27) rfl xf_9_107 (fun q => by cases q) rfl rfl (fun h9 => ?_)
  refine s_aload_n (i := 28) rfl 0 rfl ?_
  refine s_aload_n (i := 29) rfl 0 rfl ?_
  refine s_getR (i := 30) rfl xf_9_72.r rfl (fun v10 => ?_)
  refine s_iconst (i := 31) rfl (v := (4 : Int32)) (by decide) ?_
  refine s_iload_n (i := 32) rfl 1 rfl ?_
  refine s_imul (i := 33) rfl ?_
  refine s_iconst (i := 34) rfl (v := (3 : Int32)) (by decide) ?_
  refine s_iadd (i := 35) rfl ?_
  refine s_iaload (i := 36) rfl (fun v11 => ?_)
  refine s_putI (i := 37) rfl xf_9_110 (fun q => by cases q) rfl rfl (fun h12 => ?_)
  exact s_vret (i := 38) rfl rfl
def y_X9_waysIn : MethodName := ⟨"OpensAtNineModel", "waysIn", "(IIII)V"⟩
def T_X9_waysIn : List (Nat × Instr × Nat × Nat) := [(0, .iload_n 1, 1, 1), (1, .aload_n 0, 1, 2), (2, .getfield 107, 3, 5), (5, .iconst (-1), 1, 6), (6, .ixor, 1, 7), (7, .iand, 1, 8), (8, .ifCond .ne 36, 3, 11), (11, .aload_n 0, 1, 12), (12, .getfield 251, 3, 15), (15, .iconst (-1), 1, 16), (16, .if_icmp .eq 11, 3, 19), (19, .iload_n 3, 1, 20), (20, .aload_n 0, 1, 21), (21, .getfield 251, 3, 24), (24, .if_icmp .ge 19, 3, 27), (27, .aload_n 0, 1, 28), (28, .iload_n 3, 1, 29), (29, .putfield 251, 3, 32), (32, .aload_n 0, 1, 33), (33, .iload_n 2, 1, 34), (34, .putfield 254, 3, 37), (37, .aload_n 0, 1, 38), (38, .iload 4, 2, 40), (40, .putfield 257, 3, 43), (43, .return_, 1, 44), (44, .aload_n 0, 1, 45), (45, .iload_n 2, 1, 46), (46, .invokevirtual 260, 3, 49), (49, .iconst 0, 1, 50), (50, .istore 5, 2, 52), (52, .iload 5, 2, 54), (54, .aload_n 0, 1, 55), (55, .getfield 104, 3, 58), (58, .if_icmp .ge 71, 3, 61), (61, .aload_n 0, 1, 62), (62, .iload 5, 2, 64), (64, .invokevirtual 241, 3, 67), (67, .ifCond .eq 56, 3, 70), (70, .iload_n 1, 1, 71), (71, .aload_n 0, 1, 72), (72, .getfield 13, 3, 75), (75, .iload 5, 2, 77), (77, .iaload, 1, 78), (78, .ishr, 1, 79), (79, .iconst 1, 1, 80), (80, .iand, 1, 81), (81, .iconst 1, 1, 82), (82, .if_icmp .ne 41, 3, 85), (85, .aload_n 0, 1, 86), (86, .iload 5, 2, 88), (88, .invokevirtual 244, 3, 91), (91, .pop, 1, 92), (92, .aload_n 0, 1, 93), (93, .iload_n 1, 1, 94), (94, .iload_n 2, 1, 95), (95, .iconst 1, 1, 96), (96, .iadd, 1, 97), (97, .iload_n 3, 1, 98), (98, .aload_n 0, 1, 99), (99, .iload 5, 2, 101), (101, .invokevirtual 232, 3, 104), (104, .iadd, 1, 105), (105, .bipush 10, 2, 107), (107, .iload 4, 2, 109), (109, .imul, 1, 110), (110, .iload 5, 2, 112), (112, .iadd, 1, 113), (113, .iconst 1, 1, 114), (114, .iadd, 1, 115), (115, .invokevirtual 263, 3, 118), (118, .aload_n 0, 1, 119), (119, .iload_n 2, 1, 120), (120, .invokevirtual 267, 3, 123), (123, .iinc 5 1, 3, 126), (126, .goto (-74), 3, 129), (129, .return_, 1, 130)]
def I_X9_waysIn (d : Nat) : MI := (prog_11_method_46_code, 6, none, "OpensAtNineModel", "waysIn", T_X9_waysIn, 0, 0, 6 + d, 186 + d * 25)
theorem dT_X9_waysIn : ∀ q ∈ T_X9_waysIn, decode prog_11_method_46_code q.1 = .ok (q.2.1, q.2.2.1) ∧ q.2.2.2 = q.1 + q.2.2.1 := by decide +kernel
theorem xm_X9_waysIn (d : Nat) : xCM y_X9_waysIn (I_X9_waysIn d) 9 4 := ⟨⟨tw1290, tw53⟩, tw84, tw1291, ⟨xT9, 49, rfl⟩, ⟨by decide +kernel, by decide +kernel, by decide +kernel⟩⟩
noncomputable def f_X9_waysIn_43 (r_X9_waysIn : XM → Option Nat → Int32 → Int32 → Int32 → Int32 → Option (XM)) (h : XM) : Option (XM) := some h
noncomputable def f_X9_waysIn_27 (r_X9_waysIn : XM → Option Nat → Int32 → Int32 → Int32 → Int32 → Option (XM)) (h : XM) (l0 : Option Nat) (l2 : Int32) (l3 : Int32) (l4 : Int32) : Option (XM) := (pI h 9 l0 39 l3).bind fun h1 => (pI h1 9 l0 40 l2).bind fun h2 => (pI h2 9 l0 41 l4).bind fun h3 => f_X9_waysIn_43 r_X9_waysIn h3
noncomputable def f_X9_waysIn_123 (r_X9_waysIn : XM → Option Nat → Int32 → Int32 → Int32 → Int32 → Option (XM)) (k_52 : XM → Option Nat → Int32 → Int32 → Int32 → Int32 → Int32 → Option (XM)) (h : XM) (l0 : Option Nat) (l1 : Int32) (l2 : Int32) (l3 : Int32) (l4 : Int32) (l5 : Int32) : Option (XM) := bnd (l5 + (1 : Int32)) fun v4 => k_52 h l0 l1 l2 l3 l4 v4
noncomputable def fb_X9_waysIn_52 (r_X9_waysIn : XM → Option Nat → Int32 → Int32 → Int32 → Int32 → Option (XM)) (k_52 : XM → Option Nat → Int32 → Int32 → Int32 → Int32 → Int32 → Option (XM)) (h : XM) (l0 : Option Nat) (l1 : Int32) (l2 : Int32) (l3 : Int32) (l4 : Int32) (l5 : Int32) : Option (XM) := (gI h 9 l0 5).bind fun v5 => if l5 < v5 then ((vc h 9 l0 (f_X9_canPut h l0 l5)).bind fun q6 => if q6.1 = 0 then (f_X9_waysIn_123 r_X9_waysIn k_52 q6.2 l0 l1 l2 l3 l4 l5) else ((gR q6.2 9 l0 6).bind fun v7 => (rI q6.2 v7 l5).bind fun v8 => if ((l1 >>> (v8 &&& 31)) &&& ((1 : Int32))) = ((1 : Int32)) then ((vc q6.2 9 l0 (f_X9_paysIn q6.2 l0 l5)).bind fun q9 => (vc q9.2 9 l0 (f_X9_costsOf q9.2 l0 l5)).bind fun q10 => (vc q10.2 9 l0 (r_X9_waysIn q10.2 l0 l1 (l2 + ((1 : Int32))) (l3 + q10.1) (((((10 : Int32)) * l4) + l5) + ((1 : Int32))))).bind fun q11 => (vc q11 9 l0 (f_X9_laysBack q11 l0 l2)).bind fun q12 => f_X9_waysIn_123 r_X9_waysIn k_52 q12 l0 l1 l2 l3 l4 l5) else (f_X9_waysIn_123 r_X9_waysIn k_52 q6.2 l0 l1 l2 l3 l4 l5))) else (some h)
noncomputable def f_X9_waysIn_52 (r_X9_waysIn : XM → Option Nat → Int32 → Int32 → Int32 → Int32 → Option (XM)) (n : Nat) : XM → Option Nat → Int32 → Int32 → Int32 → Int32 → Int32 → Option (XM) := Nat.rec (motive := fun _ => XM → Option Nat → Int32 → Int32 → Int32 → Int32 → Int32 → Option (XM)) (fun _ _ _ _ _ _ _ => none) (fun _ ih h l0 l1 l2 l3 l4 l5 => fb_X9_waysIn_52 r_X9_waysIn ih h l0 l1 l2 l3 l4 l5) n
noncomputable def fe_X9_waysIn (r_X9_waysIn : XM → Option Nat → Int32 → Int32 → Int32 → Int32 → Option (XM)) (h : XM) (a0 : Option Nat) (a1 : Int32) (a2 : Int32) (a3 : Int32) (a4 : Int32) : Option (XM) := (gI h 9 a0 4).bind fun v13 => if (a1 &&& (v13 ^^^ ((-1 : Int32)))) = 0 then ((gI h 9 a0 39).bind fun v14 => if v14 = ((-1 : Int32)) then (f_X9_waysIn_27 r_X9_waysIn h a0 a2 a3 a4) else ((gI h 9 a0 39).bind fun v15 => if a3 < v15 then (f_X9_waysIn_27 r_X9_waysIn h a0 a2 a3 a4) else (f_X9_waysIn_43 r_X9_waysIn h))) else ((vc h 9 a0 (f_X9_keeps h a0 a2)).bind fun q16 => f_X9_waysIn_52 r_X9_waysIn FU q16 a0 a1 a2 a3 a4 ((0 : Int32)))
noncomputable def g_X9_waysIn (d : Nat) : (XM → Option Nat → Int32 → Int32 → Int32 → Int32 → Option (XM)) := Nat.rec (motive := fun _ => (XM → Option Nat → Int32 → Int32 → Int32 → Int32 → Option (XM))) ((fun _ _ _ _ _ _ => none)) (fun _ g => ((fun h a0 a1 a2 a3 a4 => fe_X9_waysIn g h a0 a1 a2 a3 a4))) d
noncomputable def f_X9_waysIn (d : Nat) : XM → Option Nat → Int32 → Int32 → Int32 → Int32 → Option (XM) := (g_X9_waysIn d)
theorem b_X9_waysIn_43 (X : XX) (d : Nat) (r_X9_waysIn : XM → Option Nat → Int32 → Int32 → Int32 → Int32 → Option (XM)) (hr_X9_waysIn : ∀ h a0 a1 a2 a3 a4, MC (I_X9_waysIn d) y_X9_waysIn [tA a0, tI a1, tI a2, tI a3, tI a4] h ρv (r_X9_waysIn h a0 a1 a2 a3 a4)) (h : XM) : SW X (I_X9_waysIn (d + 1)) ρv 43 [] [] h 0 0 (f_X9_waysIn_43 r_X9_waysIn h) := by
  unfold f_X9_waysIn_43
  exact s_vret (i := 24) rfl rfl
theorem b_X9_waysIn_27 (X : XX) (d : Nat) (r_X9_waysIn : XM → Option Nat → Int32 → Int32 → Int32 → Int32 → Option (XM)) (hr_X9_waysIn : ∀ h a0 a1 a2 a3 a4, MC (I_X9_waysIn d) y_X9_waysIn [tA a0, tI a1, tI a2, tI a3, tI a4] h ρv (r_X9_waysIn h a0 a1 a2 a3 a4)) (h : XM) (l0 : Option Nat) (l2 : Int32) (l3 : Int32) (l4 : Int32) : SW X (I_X9_waysIn (d + 1)) ρv 27 [(0, tA l0), (2, tI l2), (3, tI l3), (4, tI l4)] [] h 0 0 (f_X9_waysIn_27 r_X9_waysIn h l0 l2 l3 l4) := by
  unfold f_X9_waysIn_27
  refine s_aload_n (i := 15) rfl 0 rfl ?_
  refine s_iload_n (i := 16) rfl 2 rfl ?_
  refine s_putI (i := 17) rfl xf_9_251 (fun q => by cases q) rfl rfl (fun h1 => ?_)
  refine s_aload_n (i := 18) rfl 0 rfl ?_
  refine s_iload_n (i := 19) rfl 1 rfl ?_
  refine s_putI (i := 20) rfl xf_9_254 (fun q => by cases q) rfl rfl (fun h2 => ?_)
  refine s_aload_n (i := 21) rfl 0 rfl ?_
  refine s_iload (i := 22) rfl 3 rfl ?_
  refine s_putI (i := 23) rfl xf_9_257 (fun q => by cases q) rfl rfl (fun h3 => ?_)
  exact s_sub [] rfl (b_X9_waysIn_43 X d r_X9_waysIn hr_X9_waysIn h3)
theorem b_X9_waysIn_123 (X : XX) (d : Nat) (r_X9_waysIn : XM → Option Nat → Int32 → Int32 → Int32 → Int32 → Option (XM)) (hr_X9_waysIn : ∀ h a0 a1 a2 a3 a4, MC (I_X9_waysIn d) y_X9_waysIn [tA a0, tI a1, tI a2, tI a3, tI a4] h ρv (r_X9_waysIn h a0 a1 a2 a3 a4)) (k_52 : XM → Option Nat → Int32 → Int32 → Int32 → Int32 → Int32 → Option (XM)) (hk_52 : ∀ h l0 l1 l2 l3 l4 l5, SW X (I_X9_waysIn (d + 1)) ρv 52 [(0, tA l0), (1, tI l1), (2, tI l2), (3, tI l3), (4, tI l4), (5, tI l5)] [] h 0 0 (k_52 h l0 l1 l2 l3 l4 l5)) (h : XM) (l0 : Option Nat) (l1 : Int32) (l2 : Int32) (l3 : Int32) (l4 : Int32) (l5 : Int32) : SW X (I_X9_waysIn (d + 1)) ρv 123 [(0, tA l0), (1, tI l1), (2, tI l2), (3, tI l3), (4, tI l4), (5, tI l5)] [] h 0 0 (f_X9_waysIn_123 r_X9_waysIn k_52 h l0 l1 l2 l3 l4 l5) := by
  unfold f_X9_waysIn_123
  refine s_inc (i := 73) rfl 5 rfl (c9 := (1 : Int32)) (by decide) (Nat.le_of_ble_eq_true rfl) (fun v4 => ?_)
  refine s_ls (ls2 := [(5, tI v4), (0, tA l0), (1, tI l1), (2, tI l2), (3, tI l3), (4, tI l4)]) rfl ?_
  refine s_goto (i := 74) rfl (tgt := 52) (by decide) ?_
  exact s_sub [1, 2, 3, 4, 5, 0] rfl (hk_52 h l0 l1 l2 l3 l4 v4)
theorem bb_X9_waysIn_52 (X : XX) (d : Nat) (r_X9_waysIn : XM → Option Nat → Int32 → Int32 → Int32 → Int32 → Option (XM)) (hr_X9_waysIn : ∀ h a0 a1 a2 a3 a4, MC (I_X9_waysIn d) y_X9_waysIn [tA a0, tI a1, tI a2, tI a3, tI a4] h ρv (r_X9_waysIn h a0 a1 a2 a3 a4)) (k_52 : XM → Option Nat → Int32 → Int32 → Int32 → Int32 → Int32 → Option (XM)) (hk_52 : ∀ h l0 l1 l2 l3 l4 l5, SW X (I_X9_waysIn (d + 1)) ρv 52 [(0, tA l0), (1, tI l1), (2, tI l2), (3, tI l3), (4, tI l4), (5, tI l5)] [] h 0 0 (k_52 h l0 l1 l2 l3 l4 l5)) (h : XM) (l0 : Option Nat) (l1 : Int32) (l2 : Int32) (l3 : Int32) (l4 : Int32) (l5 : Int32) : SW X (I_X9_waysIn (d + 1)) ρv 52 [(0, tA l0), (1, tI l1), (2, tI l2), (3, tI l3), (4, tI l4), (5, tI l5)] [] h 0 0 (fb_X9_waysIn_52 r_X9_waysIn k_52 h l0 l1 l2 l3 l4 l5) := by
  unfold fb_X9_waysIn_52
  refine s_iload (i := 30) rfl 5 rfl ?_
  refine s_aload_n (i := 31) rfl 0 rfl ?_
  refine s_getI (i := 32) rfl xf_9_104.r rfl (fun v5 => ?_)
  refine s_icmpge (i := 33) rfl (tgt := 129) (by decide) (fun z58 => ?_) (fun z58 => ?_)
  · refine s_aload_n (i := 34) rfl 0 rfl ?_
    refine s_iload (i := 35) rfl 5 rfl ?_
    refine u_callVi (kk := 9) [tI l5] l0 [] rfl (i := 36) rfl (c_X9_canPut h l0 l5) xm_X9_canPut (tw1255) rfl (Nat.le_of_ble_eq_true rfl) (xRm.in (show 2 + 1 ≤ 6 + (d + 1) by omega) (show 8 + (2 + 11) + 81 ≤ 186 + (d + 1) * 25 by omega)) ⟨rfl, rfl⟩ (fun q6 => ?_)
    refine s_ifeq (i := 37) rfl (tgt := 123) (by decide) (fun z67 => ?_) (fun z67 => ?_)
    · exact s_sub [0, 1, 2, 3, 4, 5] rfl (b_X9_waysIn_123 X d r_X9_waysIn hr_X9_waysIn k_52 hk_52 q6.2 l0 l1 l2 l3 l4 l5)
    · refine s_iload_n (i := 38) rfl 1 rfl ?_
      refine s_aload_n (i := 39) rfl 0 rfl ?_
      refine s_getR (i := 40) rfl xf_9_13.r rfl (fun v7 => ?_)
      refine s_iload (i := 41) rfl 5 rfl ?_
      refine s_iaload (i := 42) rfl (fun v8 => ?_)
      refine s_ishr (i := 43) rfl ?_
      refine s_iconst (i := 44) rfl (v := (1 : Int32)) (by decide) ?_
      refine s_iand (i := 45) rfl ?_
      refine s_iconst (i := 46) rfl (v := (1 : Int32)) (by decide) ?_
      refine s_icmpne (i := 47) rfl (tgt := 123) (by decide) (fun z82 => ?_) (fun z82 => ?_)
      · refine s_aload_n (i := 48) rfl 0 rfl ?_
        refine s_iload (i := 49) rfl 5 rfl ?_
        refine u_callVi (kk := 9) [tI l5] l0 [] rfl (i := 50) rfl (c_X9_paysIn q6.2 l0 l5) xm_X9_paysIn (tw1263) rfl (Nat.le_of_ble_eq_true rfl) (xRm.in (show 5 + 1 ≤ 6 + (d + 1) by omega) (show 8 + (5 + 11) + 162 ≤ 186 + (d + 1) * 25 by omega)) ⟨rfl, rfl⟩ (fun q9 => ?_)
        refine s_pop (i := 51) rfl rfl ?_
        refine s_aload_n (i := 52) rfl 0 rfl ?_
        refine s_iload_n (i := 53) rfl 1 rfl ?_
        refine s_iload_n (i := 54) rfl 2 rfl ?_
        refine s_iconst (i := 55) rfl (v := (1 : Int32)) (by decide) ?_
        refine s_iadd (i := 56) rfl ?_
        refine s_iload_n (i := 57) rfl 3 rfl ?_
        refine s_aload_n (i := 58) rfl 0 rfl ?_
        refine s_iload (i := 59) rfl 5 rfl ?_
        refine u_callVi (kk := 9) [tI l5] l0 [tI l3, tI (l2 + ((1 : Int32))), tI l1, tA l0] rfl (i := 60) rfl (c_X9_costsOf q9.2 l0 l5) xm_X9_costsOf (tw1247) rfl (Nat.le_of_ble_eq_true rfl) (xRm.in (show 1 + 1 ≤ 6 + (d + 1) by omega) (show 8 + (2 + 11) + 60 ≤ 186 + (d + 1) * 25 by omega)) ⟨rfl, rfl⟩ (fun q10 => ?_)
        refine s_iadd (i := 61) rfl ?_
        refine s_bipush (i := 62) rfl (v := (10 : Int32)) (by decide) ?_
        refine s_iload (i := 63) rfl 4 rfl ?_
        refine s_imul (i := 64) rfl ?_
        refine s_iload (i := 65) rfl 5 rfl ?_
        refine s_iadd (i := 66) rfl ?_
        refine s_iconst (i := 67) rfl (v := (1 : Int32)) (by decide) ?_
        refine s_iadd (i := 68) rfl ?_
        refine u_callVv (kk := 9) [tI l1, tI (l2 + ((1 : Int32))), tI (l3 + q10.1), tI (((((10 : Int32)) * l4) + l5) + ((1 : Int32)))] l0 [] rfl (i := 69) rfl (hr_X9_waysIn q10.2 l0 l1 (l2 + ((1 : Int32))) (l3 + q10.1) (((((10 : Int32)) * l4) + l5) + ((1 : Int32)))) (xm_X9_waysIn _) (tw1288) rfl (Nat.le_of_ble_eq_true rfl) (xRm.in (show 6 + d + 1 ≤ 6 + (d + 1) by omega) (show 8 + (6 + 11) + (186 + d * 25) ≤ 186 + (d + 1) * 25 by rw [Nat.succ_mul]; omega)) ⟨rfl, rfl⟩ (fun q11 => ?_)
        refine s_aload_n (i := 70) rfl 0 rfl ?_
        refine s_iload_n (i := 71) rfl 2 rfl ?_
        refine u_callVv (kk := 9) [tI l2] l0 [] rfl (i := 72) rfl (c_X9_laysBack q11 l0 l2) xm_X9_laysBack (tw1296) rfl (Nat.le_of_ble_eq_true rfl) (xRm.in (show 1 + 1 ≤ 6 + (d + 1) by omega) (show 8 + (2 + 11) + 60 ≤ 186 + (d + 1) * 25 by omega)) ⟨rfl, rfl⟩ (fun q12 => ?_)
        exact s_sub [0, 1, 2, 3, 4, 5] rfl (b_X9_waysIn_123 X d r_X9_waysIn hr_X9_waysIn k_52 hk_52 q12 l0 l1 l2 l3 l4 l5)
      · exact s_sub [0, 1, 2, 3, 4, 5] rfl (b_X9_waysIn_123 X d r_X9_waysIn hr_X9_waysIn k_52 hk_52 q6.2 l0 l1 l2 l3 l4 l5)
  · exact s_vret (i := 75) rfl rfl
theorem b_X9_waysIn_52 (X : XX) (d : Nat) (r_X9_waysIn : XM → Option Nat → Int32 → Int32 → Int32 → Int32 → Option (XM)) (hr_X9_waysIn : ∀ h a0 a1 a2 a3 a4, MC (I_X9_waysIn d) y_X9_waysIn [tA a0, tI a1, tI a2, tI a3, tI a4] h ρv (r_X9_waysIn h a0 a1 a2 a3 a4)) : ∀ (n : Nat) (h : XM) (l0 : Option Nat) (l1 : Int32) (l2 : Int32) (l3 : Int32) (l4 : Int32) (l5 : Int32), SW X (I_X9_waysIn (d + 1)) ρv 52 [(0, tA l0), (1, tI l1), (2, tI l2), (3, tI l3), (4, tI l4), (5, tI l5)] [] h 0 0 (f_X9_waysIn_52 r_X9_waysIn n h l0 l1 l2 l3 l4 l5) := by
  intro n
  induction n with
  | zero =>
    intro h l0 l1 l2 l3 l4 l5
    exact s_none
  | succ n ih =>
    intro h l0 l1 l2 l3 l4 l5
    exact bb_X9_waysIn_52 X d r_X9_waysIn hr_X9_waysIn (f_X9_waysIn_52 r_X9_waysIn n) ih h l0 l1 l2 l3 l4 l5
theorem ce_X9_waysIn (d : Nat) (r_X9_waysIn : XM → Option Nat → Int32 → Int32 → Int32 → Int32 → Option (XM)) (hr_X9_waysIn : ∀ h a0 a1 a2 a3 a4, MC (I_X9_waysIn d) y_X9_waysIn [tA a0, tI a1, tI a2, tI a3, tI a4] h ρv (r_X9_waysIn h a0 a1 a2 a3 a4)) (h : XM) (a0 : Option Nat) (a1 : Int32) (a2 : Int32) (a3 : Int32) (a4 : Int32) : MC (I_X9_waysIn (d + 1)) y_X9_waysIn [tA a0, tI a1, tI a2, tI a3, tI a4] h ρv (fe_X9_waysIn r_X9_waysIn h a0 a1 a2 a3 a4) := by
  refine MC_of ⟨by decide +kernel, rfl, rfl, Nat.le_of_ble_eq_true rfl⟩ dT_X9_waysIn (fun X => ?_)
  show SW X (I_X9_waysIn (d + 1)) ρv 0 [(0, tA a0), (1, tI a1), (2, tI a2), (3, tI a3), (4, tI a4)] [] h 0 0 (fe_X9_waysIn r_X9_waysIn h a0 a1 a2 a3 a4)
  unfold fe_X9_waysIn
  refine s_iload_n (i := 0) rfl 1 rfl ?_
  refine s_aload_n (i := 1) rfl 0 rfl ?_
  refine s_getI (i := 2) rfl xf_9_107.r rfl (fun v13 => ?_)
  refine s_iconst (i := 3) rfl (v := (-1 : Int32)) (by decide) ?_
  refine s_ixor (i := 4) rfl ?_
  refine s_iand (i := 5) rfl ?_
  refine s_ifne (i := 6) rfl (tgt := 44) (by decide) (fun z8 => ?_) (fun z8 => ?_)
  · refine s_aload_n (i := 7) rfl 0 rfl ?_
    refine s_getI (i := 8) rfl xf_9_251.r rfl (fun v14 => ?_)
    refine s_iconst (i := 9) rfl (v := (-1 : Int32)) (by decide) ?_
    refine s_icmpeq (i := 10) rfl (tgt := 27) (by decide) (fun z16 => ?_) (fun z16 => ?_)
    · exact s_sub [0, 2, 3, 4] rfl (b_X9_waysIn_27 X d r_X9_waysIn hr_X9_waysIn h a0 a2 a3 a4)
    · refine s_iload_n (i := 11) rfl 3 rfl ?_
      refine s_aload_n (i := 12) rfl 0 rfl ?_
      refine s_getI (i := 13) rfl xf_9_251.r rfl (fun v15 => ?_)
      refine s_icmpge (i := 14) rfl (tgt := 43) (by decide) (fun z24 => ?_) (fun z24 => ?_)
      · exact s_sub [0, 2, 3, 4] rfl (b_X9_waysIn_27 X d r_X9_waysIn hr_X9_waysIn h a0 a2 a3 a4)
      · exact s_sub [] rfl (b_X9_waysIn_43 X d r_X9_waysIn hr_X9_waysIn h)
  · refine s_aload_n (i := 25) rfl 0 rfl ?_
    refine s_iload_n (i := 26) rfl 2 rfl ?_
    refine u_callVv (kk := 9) [tI a2] a0 [] rfl (i := 27) rfl (c_X9_keeps h a0 a2) xm_X9_keeps (tw1292) rfl (Nat.le_of_ble_eq_true rfl) (xRm.in (show 1 + 1 ≤ 6 + (d + 1) by omega) (show 8 + (2 + 11) + 60 ≤ 186 + (d + 1) * 25 by omega)) ⟨rfl, rfl⟩ (fun q16 => ?_)
    refine s_iconst (i := 28) rfl (v := (0 : Int32)) (by decide) ?_
    refine s_istore (i := 29) rfl (Nat.le_of_ble_eq_true rfl) (ls2 := [(5, tI ((0 : Int32))), (0, tA a0), (1, tI a1), (2, tI a2), (3, tI a3), (4, tI a4)]) rfl ?_
    exact s_sub [1, 2, 3, 4, 5, 0] rfl (b_X9_waysIn_52 X d r_X9_waysIn hr_X9_waysIn FU q16 a0 a1 a2 a3 a4 ((0 : Int32)))
theorem cg_X9_waysIn : ∀ d : Nat, (∀ (h : XM) (a0 : Option Nat) (a1 : Int32) (a2 : Int32) (a3 : Int32) (a4 : Int32), MC (I_X9_waysIn d) y_X9_waysIn [tA a0, tI a1, tI a2, tI a3, tI a4] h ρv (f_X9_waysIn d h a0 a1 a2 a3 a4)) := by
  intro d
  induction d with
  | zero => exact fun _ _ _ _ _ _ => MC_none
  | succ d ih => exact fun h a0 a1 a2 a3 a4 => ce_X9_waysIn d (f_X9_waysIn d) ih h a0 a1 a2 a3 a4
theorem c_X9_waysIn (d : Nat) (h : XM) (a0 : Option Nat) (a1 : Int32) (a2 : Int32) (a3 : Int32) (a4 : Int32) : MC (I_X9_waysIn d) y_X9_waysIn [tA a0, tI a1, tI a2, tI a3, tI a4] h ρv (f_X9_waysIn d h a0 a1 a2 a3 a4) := (cg_X9_waysIn d) h a0 a1 a2 a3 a4
def y_X9_findsCheapest : MethodName := ⟨"OpensAtNineModel", "findsCheapest", "(I)V"⟩
def T_X9_findsCheapest : List (Nat × Instr × Nat × Nat) := [(0, .aload_n 0, 1, 1), (1, .iconst (-1), 1, 2), (2, .putfield 251, 3, 5), (5, .aload_n 0, 1, 6), (6, .iconst (-1), 1, 7), (7, .putfield 254, 3, 10), (10, .aload_n 0, 1, 11), (11, .iconst (-1), 1, 12), (12, .putfield 257, 3, 15), (15, .aload_n 0, 1, 16), (16, .iload_n 1, 1, 17), (17, .iconst 0, 1, 18), (18, .iconst 0, 1, 19), (19, .iconst 0, 1, 20), (20, .invokevirtual 263, 3, 23), (23, .return_, 1, 24)]
def I_X9_findsCheapest : MI := (prog_11_method_47_code, 2, none, "OpensAtNineModel", "findsCheapest", T_X9_findsCheapest, 0, 0, 19, 511)
theorem dT_X9_findsCheapest : ∀ q ∈ T_X9_findsCheapest, decode prog_11_method_47_code q.1 = .ok (q.2.1, q.2.2.1) ∧ q.2.2.2 = q.1 + q.2.2.1 := by decide +kernel
theorem xm_X9_findsCheapest : xCM y_X9_findsCheapest I_X9_findsCheapest 9 1 := ⟨⟨tw1286, tw52⟩, tw84, tw1287, ⟨xT9, 49, rfl⟩, ⟨by decide +kernel, by decide +kernel, by decide +kernel⟩⟩
noncomputable def f_X9_findsCheapest (h : XM) (a0 : Option Nat) (a1 : Int32) : Option (XM) := (pI h 9 a0 39 ((-1 : Int32))).bind fun h1 => (pI h1 9 a0 40 ((-1 : Int32))).bind fun h2 => (pI h2 9 a0 41 ((-1 : Int32))).bind fun h3 => (vc h3 9 a0 (f_X9_waysIn 12 h3 a0 a1 ((0 : Int32)) ((0 : Int32)) ((0 : Int32)))).bind fun q4 => some q4
theorem c_X9_findsCheapest (h : XM) (a0 : Option Nat) (a1 : Int32) : MC I_X9_findsCheapest y_X9_findsCheapest [tA a0, tI a1] h ρv (f_X9_findsCheapest h a0 a1) := by
  refine MC_of ⟨by decide +kernel, rfl, rfl, Nat.le_of_ble_eq_true rfl⟩ dT_X9_findsCheapest (fun X => ?_)
  show SW X I_X9_findsCheapest ρv 0 [(0, tA a0), (1, tI a1)] [] h 0 0 (f_X9_findsCheapest h a0 a1)
  unfold f_X9_findsCheapest
  refine s_aload_n (i := 0) rfl 0 rfl ?_
  refine s_iconst (i := 1) rfl (v := (-1 : Int32)) (by decide) ?_
  refine s_putI (i := 2) rfl xf_9_251 (fun q => by cases q) rfl rfl (fun h1 => ?_)
  refine s_aload_n (i := 3) rfl 0 rfl ?_
  refine s_iconst (i := 4) rfl (v := (-1 : Int32)) (by decide) ?_
  refine s_putI (i := 5) rfl xf_9_254 (fun q => by cases q) rfl rfl (fun h2 => ?_)
  refine s_aload_n (i := 6) rfl 0 rfl ?_
  refine s_iconst (i := 7) rfl (v := (-1 : Int32)) (by decide) ?_
  refine s_putI (i := 8) rfl xf_9_257 (fun q => by cases q) rfl rfl (fun h3 => ?_)
  refine s_aload_n (i := 9) rfl 0 rfl ?_
  refine s_iload_n (i := 10) rfl 1 rfl ?_
  refine s_iconst (i := 11) rfl (v := (0 : Int32)) (by decide) ?_
  refine s_iconst (i := 12) rfl (v := (0 : Int32)) (by decide) ?_
  refine s_iconst (i := 13) rfl (v := (0 : Int32)) (by decide) ?_
  refine u_callVv (kk := 9) [tI a1, tI ((0 : Int32)), tI ((0 : Int32)), tI ((0 : Int32))] a0 [] rfl (i := 14) rfl (c_X9_waysIn 12 h3 a0 a1 ((0 : Int32)) ((0 : Int32)) ((0 : Int32))) (xm_X9_waysIn _) (tw1288) rfl (Nat.le_of_ble_eq_true rfl) (xRm.of rfl) ⟨rfl, rfl⟩ (fun q4 => ?_)
  exact s_vret (i := 15) rfl rfl
def y_X9_gang : MethodName := ⟨"OpensAtNineModel", "gang", "(II)I"⟩
def T_X9_gang : List (Nat × Instr × Nat × Nat) := [(0, .iload_n 1, 1, 1), (1, .iconst 1, 1, 2), (2, .iconst 1, 1, 3), (3, .aload_n 0, 1, 4), (4, .getfield 97, 3, 7), (7, .ishl, 1, 8), (8, .iconst 1, 1, 9), (9, .isub, 1, 10), (10, .invokestatic 100, 3, 13), (13, .ifCond .ne 6, 3, 16), (16, .bipush (-5), 2, 18), (18, .ireturn, 1, 19), (19, .iload_n 2, 1, 20), (20, .iconst 0, 1, 21), (21, .iconst 2, 1, 22), (22, .invokestatic 100, 3, 25), (25, .ifCond .ne 6, 3, 28), (28, .bipush (-7), 2, 30), (30, .ireturn, 1, 31), (31, .aload_n 0, 1, 32), (32, .iload_n 1, 1, 33), (33, .invokevirtual 270, 3, 36), (36, .iload_n 2, 1, 37), (37, .ifCond .ne 10, 3, 40), (40, .aload_n 0, 1, 41), (41, .getfield 251, 3, 44), (44, .goto 19, 3, 47), (47, .iload_n 2, 1, 48), (48, .iconst 1, 1, 49), (49, .if_icmp .ne 10, 3, 52), (52, .aload_n 0, 1, 53), (53, .getfield 254, 3, 56), (56, .goto 7, 3, 59), (59, .aload_n 0, 1, 60), (60, .getfield 257, 3, 63), (63, .ireturn, 1, 64)]
def I_X9_gang : MI := (prog_11_method_48_code, 3, (some .int), "OpensAtNineModel", "gang", T_X9_gang, 0, 0, 20, 532)
theorem dT_X9_gang : ∀ q ∈ T_X9_gang, decode prog_11_method_48_code q.1 = .ok (q.2.1, q.2.2.1) ∧ q.2.2.2 = q.1 + q.2.2.1 := by decide +kernel
theorem xm_X9_gang : xCM y_X9_gang I_X9_gang 9 2 := ⟨⟨tw1281, tw1282⟩, tw84, tw1283, ⟨xT9, 49, rfl⟩, ⟨by decide +kernel, by decide +kernel, by decide +kernel⟩⟩
noncomputable def f_X9_gang_63 (h : XM) (s0 : Int32) : Option (Int32 × XM) := some (s0, h)
noncomputable def f_X9_gang (h : XM) (a0 : Option Nat) (a1 : Int32) (a2 : Int32) : Option (Int32 × XM) := (gI h 9 a0 3).bind fun v1 => (f_X9_in h a1 ((1 : Int32)) ((((1 : Int32)) <<< (v1 &&& 31)) - ((1 : Int32)))).bind fun q2 => if q2.1 = 0 then (some ((-5 : Int32), q2.2)) else ((f_X9_in q2.2 a2 ((0 : Int32)) ((2 : Int32))).bind fun q3 => if q3.1 = 0 then (some ((-7 : Int32), q3.2)) else ((vc q3.2 9 a0 (f_X9_findsCheapest q3.2 a0 a1)).bind fun q4 => if a2 = 0 then ((gI q4 9 a0 39).bind fun v5 => f_X9_gang_63 q4 v5) else (if a2 = ((1 : Int32)) then ((gI q4 9 a0 40).bind fun v6 => f_X9_gang_63 q4 v6) else ((gI q4 9 a0 41).bind fun v7 => f_X9_gang_63 q4 v7))))
theorem b_X9_gang_63 (X : XX) (h : XM) (s0 : Int32) : SW X I_X9_gang ρi 63 [] [tI s0] h 0 0 (f_X9_gang_63 h s0) := by
  unfold f_X9_gang_63
  exact s_iret (i := 35) rfl rfl
theorem c_X9_gang (h : XM) (a0 : Option Nat) (a1 : Int32) (a2 : Int32) : MC I_X9_gang y_X9_gang [tA a0, tI a1, tI a2] h ρi (f_X9_gang h a0 a1 a2) := by
  refine MC_of ⟨by decide +kernel, rfl, rfl, Nat.le_of_ble_eq_true rfl⟩ dT_X9_gang (fun X => ?_)
  show SW X I_X9_gang ρi 0 [(0, tA a0), (1, tI a1), (2, tI a2)] [] h 0 0 (f_X9_gang h a0 a1 a2)
  unfold f_X9_gang
  refine s_iload_n (i := 0) rfl 1 rfl ?_
  refine s_iconst (i := 1) rfl (v := (1 : Int32)) (by decide) ?_
  refine s_iconst (i := 2) rfl (v := (1 : Int32)) (by decide) ?_
  refine s_aload_n (i := 3) rfl 0 rfl ?_
  refine s_getI (i := 4) rfl xf_9_97.r rfl (fun v1 => ?_)
  refine s_ishl (i := 5) rfl ?_
  refine s_iconst (i := 6) rfl (v := (1 : Int32)) (by decide) ?_
  refine s_isub (i := 7) rfl ?_
  refine u_callSi [tI a1, tI ((1 : Int32)), tI ((((1 : Int32)) <<< (v1 &&& 31)) - ((1 : Int32)))] [] rfl (i := 8) rfl (c_X9_in h a1 ((1 : Int32)) ((((1 : Int32)) <<< (v1 &&& 31)) - ((1 : Int32)))) xm_X9_in (tw974) rfl (Nat.le_of_ble_eq_true rfl) (xRm.of rfl) ⟨rfl, rfl⟩ (fun q2 => ?_)
  refine s_ifne (i := 9) rfl (tgt := 19) (by decide) (fun z13 => ?_) (fun z13 => ?_)
  · refine s_bipush (i := 10) rfl (v := (-5 : Int32)) (by decide) ?_
    exact s_iret (i := 11) rfl rfl
  · refine s_iload_n (i := 12) rfl 2 rfl ?_
    refine s_iconst (i := 13) rfl (v := (0 : Int32)) (by decide) ?_
    refine s_iconst (i := 14) rfl (v := (2 : Int32)) (by decide) ?_
    refine u_callSi [tI a2, tI ((0 : Int32)), tI ((2 : Int32))] [] rfl (i := 15) rfl (c_X9_in q2.2 a2 ((0 : Int32)) ((2 : Int32))) xm_X9_in (tw974) rfl (Nat.le_of_ble_eq_true rfl) (xRm.of rfl) ⟨rfl, rfl⟩ (fun q3 => ?_)
    refine s_ifne (i := 16) rfl (tgt := 31) (by decide) (fun z25 => ?_) (fun z25 => ?_)
    · refine s_bipush (i := 17) rfl (v := (-7 : Int32)) (by decide) ?_
      exact s_iret (i := 18) rfl rfl
    · refine s_aload_n (i := 19) rfl 0 rfl ?_
      refine s_iload_n (i := 20) rfl 1 rfl ?_
      refine u_callVv (kk := 9) [tI a1] a0 [] rfl (i := 21) rfl (c_X9_findsCheapest q3.2 a0 a1) xm_X9_findsCheapest (tw1284) rfl (Nat.le_of_ble_eq_true rfl) (xRm.of rfl) ⟨rfl, rfl⟩ (fun q4 => ?_)
      refine s_iload_n (i := 22) rfl 2 rfl ?_
      refine s_ifne (i := 23) rfl (tgt := 47) (by decide) (fun z37 => ?_) (fun z37 => ?_)
      · refine s_aload_n (i := 24) rfl 0 rfl ?_
        refine s_getI (i := 25) rfl xf_9_251.r rfl (fun v5 => ?_)
        refine s_goto (i := 26) rfl (tgt := 63) (by decide) ?_
        exact s_sub [] rfl (b_X9_gang_63 X q4 v5)
      · refine s_iload_n (i := 27) rfl 2 rfl ?_
        refine s_iconst (i := 28) rfl (v := (1 : Int32)) (by decide) ?_
        refine s_icmpne (i := 29) rfl (tgt := 59) (by decide) (fun z49 => ?_) (fun z49 => ?_)
        · refine s_aload_n (i := 30) rfl 0 rfl ?_
          refine s_getI (i := 31) rfl xf_9_254.r rfl (fun v6 => ?_)
          refine s_goto (i := 32) rfl (tgt := 63) (by decide) ?_
          exact s_sub [] rfl (b_X9_gang_63 X q4 v6)
        · refine s_aload_n (i := 33) rfl 0 rfl ?_
          refine s_getI (i := 34) rfl xf_9_257.r rfl (fun v7 => ?_)
          exact s_sub [] rfl (b_X9_gang_63 X q4 v7)
def y_X9_goesCheapest : MethodName := ⟨"OpensAtNineModel", "goesCheapest", "()V"⟩
def T_X9_goesCheapest : List (Nat × Instr × Nat × Nat) := [(0, .iconst 1, 1, 1), (1, .istore_n 1, 1, 2), (2, .iconst 1, 1, 3), (3, .istore_n 2, 1, 4), (4, .iload_n 2, 1, 5), (5, .aload_n 0, 1, 6), (6, .getfield 254, 3, 9), (9, .if_icmp .ge 14, 3, 12), (12, .iload_n 1, 1, 13), (13, .bipush 10, 2, 15), (15, .imul, 1, 16), (16, .istore_n 1, 1, 17), (17, .iinc 2 1, 3, 20), (20, .goto (-16), 3, 23), (23, .iconst 0, 1, 24), (24, .istore_n 2, 1, 25), (25, .iload_n 2, 1, 26), (26, .aload_n 0, 1, 27), (27, .getfield 254, 3, 30), (30, .if_icmp .ge 30, 3, 33), (33, .aload_n 0, 1, 34), (34, .aload_n 0, 1, 35), (35, .getfield 257, 3, 38), (38, .iload_n 1, 1, 39), (39, .idiv, 1, 40), (40, .bipush 10, 2, 42), (42, .irem, 1, 43), (43, .iconst 1, 1, 44), (44, .isub, 1, 45), (45, .invokevirtual 244, 3, 48), (48, .pop, 1, 49), (49, .iload_n 1, 1, 50), (50, .bipush 10, 2, 52), (52, .idiv, 1, 53), (53, .istore_n 1, 1, 54), (54, .iinc 2 1, 3, 57), (57, .goto (-32), 3, 60), (60, .return_, 1, 61)]
def I_X9_goesCheapest : MI := (prog_11_method_49_code, 3, none, "OpensAtNineModel", "goesCheapest", T_X9_goesCheapest, 0, 0, 6, 186)
theorem dT_X9_goesCheapest : ∀ q ∈ T_X9_goesCheapest, decode prog_11_method_49_code q.1 = .ok (q.2.1, q.2.2.1) ∧ q.2.2.2 = q.1 + q.2.2.1 := by decide +kernel
theorem xm_X9_goesCheapest : xCM y_X9_goesCheapest I_X9_goesCheapest 9 0 := ⟨⟨tw1306, tw56⟩, tw84, tw1307, ⟨xT9, 49, rfl⟩, ⟨by decide +kernel, by decide +kernel, by decide +kernel⟩⟩
noncomputable def fb_X9_goesCheapest_25 (k_25 : XM → Option Nat → Int32 → Int32 → Option (XM)) (h : XM) (l0 : Option Nat) (l1 : Int32) (l2 : Int32) : Option (XM) := (gI h 9 l0 40).bind fun v1 => if l2 < v1 then ((gI h 9 l0 41).bind fun v2 => (idiv v2 l1).bind fun v3 => (irem v3 ((10 : Int32))).bind fun v4 => (vc h 9 l0 (f_X9_paysIn h l0 (v4 - ((1 : Int32))))).bind fun q5 => (idiv l1 ((10 : Int32))).bind fun v6 => bnd (l2 + (1 : Int32)) fun v7 => k_25 q5.2 l0 v6 v7) else (some h)
noncomputable def f_X9_goesCheapest_25 (n : Nat) : XM → Option Nat → Int32 → Int32 → Option (XM) := Nat.rec (motive := fun _ => XM → Option Nat → Int32 → Int32 → Option (XM)) (fun _ _ _ _ => none) (fun _ ih h l0 l1 l2 => fb_X9_goesCheapest_25 ih h l0 l1 l2) n
noncomputable def fb_X9_goesCheapest_4 (k_4 : XM → Option Nat → Int32 → Int32 → Option (XM)) (h : XM) (l0 : Option Nat) (l1 : Int32) (l2 : Int32) : Option (XM) := (gI h 9 l0 40).bind fun v8 => if l2 < v8 then (bnd (l1 * ((10 : Int32))) fun v9 => bnd (l2 + (1 : Int32)) fun v10 => k_4 h l0 v9 v10) else (f_X9_goesCheapest_25 FU h l0 l1 ((0 : Int32)))
noncomputable def f_X9_goesCheapest_4 (n : Nat) : XM → Option Nat → Int32 → Int32 → Option (XM) := Nat.rec (motive := fun _ => XM → Option Nat → Int32 → Int32 → Option (XM)) (fun _ _ _ _ => none) (fun _ ih h l0 l1 l2 => fb_X9_goesCheapest_4 ih h l0 l1 l2) n
noncomputable def f_X9_goesCheapest (h : XM) (a0 : Option Nat) : Option (XM) := f_X9_goesCheapest_4 FU h a0 ((1 : Int32)) ((1 : Int32))
theorem bb_X9_goesCheapest_25 (X : XX) (k_25 : XM → Option Nat → Int32 → Int32 → Option (XM)) (hk_25 : ∀ h l0 l1 l2, SW X I_X9_goesCheapest ρv 25 [(0, tA l0), (1, tI l1), (2, tI l2)] [] h 0 0 (k_25 h l0 l1 l2)) (h : XM) (l0 : Option Nat) (l1 : Int32) (l2 : Int32) : SW X I_X9_goesCheapest ρv 25 [(0, tA l0), (1, tI l1), (2, tI l2)] [] h 0 0 (fb_X9_goesCheapest_25 k_25 h l0 l1 l2) := by
  unfold fb_X9_goesCheapest_25
  refine s_iload_n (i := 16) rfl 2 rfl ?_
  refine s_aload_n (i := 17) rfl 0 rfl ?_
  refine s_getI (i := 18) rfl xf_9_254.r rfl (fun v1 => ?_)
  refine s_icmpge (i := 19) rfl (tgt := 60) (by decide) (fun z30 => ?_) (fun z30 => ?_)
  · refine s_aload_n (i := 20) rfl 0 rfl ?_
    refine s_aload_n (i := 21) rfl 0 rfl ?_
    refine s_getI (i := 22) rfl xf_9_257.r rfl (fun v2 => ?_)
    refine s_iload_n (i := 23) rfl 1 rfl ?_
    refine s_idiv (i := 24) rfl (fun v3 => ?_)
    refine s_bipush (i := 25) rfl (v := (10 : Int32)) (by decide) ?_
    refine s_irem (i := 26) rfl (fun v4 => ?_)
    refine s_iconst (i := 27) rfl (v := (1 : Int32)) (by decide) ?_
    refine s_isub (i := 28) rfl ?_
    refine u_callVi (kk := 9) [tI (v4 - ((1 : Int32)))] l0 [] rfl (i := 29) rfl (c_X9_paysIn h l0 (v4 - ((1 : Int32)))) xm_X9_paysIn (tw1263) rfl (Nat.le_of_ble_eq_true rfl) (xRm.of rfl) ⟨rfl, rfl⟩ (fun q5 => ?_)
    refine s_pop (i := 30) rfl rfl ?_
    refine s_iload_n (i := 31) rfl 1 rfl ?_
    refine s_bipush (i := 32) rfl (v := (10 : Int32)) (by decide) ?_
    refine s_idiv (i := 33) rfl (fun v6 => ?_)
    refine s_istore_n (i := 34) rfl (Nat.le_of_ble_eq_true rfl) (ls2 := [(1, tI v6), (0, tA l0), (2, tI l2)]) rfl ?_
    refine s_inc (i := 35) rfl 2 rfl (c9 := (1 : Int32)) (by decide) (Nat.le_of_ble_eq_true rfl) (fun v7 => ?_)
    refine s_ls (ls2 := [(2, tI v7), (1, tI v6), (0, tA l0)]) rfl ?_
    refine s_goto (i := 36) rfl (tgt := 25) (by decide) ?_
    exact s_sub [2, 1, 0] rfl (hk_25 q5.2 l0 v6 v7)
  · exact s_vret (i := 37) rfl rfl
theorem b_X9_goesCheapest_25 (X : XX) : ∀ (n : Nat) (h : XM) (l0 : Option Nat) (l1 : Int32) (l2 : Int32), SW X I_X9_goesCheapest ρv 25 [(0, tA l0), (1, tI l1), (2, tI l2)] [] h 0 0 (f_X9_goesCheapest_25 n h l0 l1 l2) := by
  intro n
  induction n with
  | zero =>
    intro h l0 l1 l2
    exact s_none
  | succ n ih =>
    intro h l0 l1 l2
    exact bb_X9_goesCheapest_25 X (f_X9_goesCheapest_25 n) ih h l0 l1 l2
theorem bb_X9_goesCheapest_4 (X : XX) (k_4 : XM → Option Nat → Int32 → Int32 → Option (XM)) (hk_4 : ∀ h l0 l1 l2, SW X I_X9_goesCheapest ρv 4 [(0, tA l0), (1, tI l1), (2, tI l2)] [] h 0 0 (k_4 h l0 l1 l2)) (h : XM) (l0 : Option Nat) (l1 : Int32) (l2 : Int32) : SW X I_X9_goesCheapest ρv 4 [(0, tA l0), (1, tI l1), (2, tI l2)] [] h 0 0 (fb_X9_goesCheapest_4 k_4 h l0 l1 l2) := by
  unfold fb_X9_goesCheapest_4
  refine s_iload_n (i := 4) rfl 2 rfl ?_
  refine s_aload_n (i := 5) rfl 0 rfl ?_
  refine s_getI (i := 6) rfl xf_9_254.r rfl (fun v8 => ?_)
  refine s_icmpge (i := 7) rfl (tgt := 23) (by decide) (fun z9 => ?_) (fun z9 => ?_)
  · refine s_iload_n (i := 8) rfl 1 rfl ?_
    refine s_bipush (i := 9) rfl (v := (10 : Int32)) (by decide) ?_
    refine s_imul (i := 10) rfl ?_
    refine s_bnd (fun v9 => ?_)
    refine s_istore_n (i := 11) rfl (Nat.le_of_ble_eq_true rfl) (ls2 := [(1, tI v9), (0, tA l0), (2, tI l2)]) rfl ?_
    refine s_inc (i := 12) rfl 2 rfl (c9 := (1 : Int32)) (by decide) (Nat.le_of_ble_eq_true rfl) (fun v10 => ?_)
    refine s_ls (ls2 := [(2, tI v10), (1, tI v9), (0, tA l0)]) rfl ?_
    refine s_goto (i := 13) rfl (tgt := 4) (by decide) ?_
    exact s_sub [2, 1, 0] rfl (hk_4 h l0 v9 v10)
  · refine s_iconst (i := 14) rfl (v := (0 : Int32)) (by decide) ?_
    refine s_istore_n (i := 15) rfl (Nat.le_of_ble_eq_true rfl) (ls2 := [(2, tI ((0 : Int32))), (0, tA l0), (1, tI l1)]) rfl ?_
    exact s_sub [1, 2, 0] rfl (b_X9_goesCheapest_25 X FU h l0 l1 ((0 : Int32)))
theorem b_X9_goesCheapest_4 (X : XX) : ∀ (n : Nat) (h : XM) (l0 : Option Nat) (l1 : Int32) (l2 : Int32), SW X I_X9_goesCheapest ρv 4 [(0, tA l0), (1, tI l1), (2, tI l2)] [] h 0 0 (f_X9_goesCheapest_4 n h l0 l1 l2) := by
  intro n
  induction n with
  | zero =>
    intro h l0 l1 l2
    exact s_none
  | succ n ih =>
    intro h l0 l1 l2
    exact bb_X9_goesCheapest_4 X (f_X9_goesCheapest_4 n) ih h l0 l1 l2
theorem c_X9_goesCheapest (h : XM) (a0 : Option Nat) : MC I_X9_goesCheapest y_X9_goesCheapest [tA a0] h ρv (f_X9_goesCheapest h a0) := by
  refine MC_of ⟨by decide +kernel, rfl, rfl, Nat.le_of_ble_eq_true rfl⟩ dT_X9_goesCheapest (fun X => ?_)
  show SW X I_X9_goesCheapest ρv 0 [(0, tA a0)] [] h 0 0 (f_X9_goesCheapest h a0)
  unfold f_X9_goesCheapest
  refine s_iconst (i := 0) rfl (v := (1 : Int32)) (by decide) ?_
  refine s_istore_n (i := 1) rfl (Nat.le_of_ble_eq_true rfl) (ls2 := [(1, tI ((1 : Int32))), (0, tA a0)]) rfl ?_
  refine s_iconst (i := 2) rfl (v := (1 : Int32)) (by decide) ?_
  refine s_istore_n (i := 3) rfl (Nat.le_of_ble_eq_true rfl) (ls2 := [(2, tI ((1 : Int32))), (1, tI ((1 : Int32))), (0, tA a0)]) rfl ?_
  exact s_sub [2, 1, 0] rfl (b_X9_goesCheapest_4 X FU h a0 ((1 : Int32)) ((1 : Int32)))
def y_X9_spare : MethodName := ⟨"OpensAtNineModel", "spare", "(II)I"⟩
def T_X9_spare : List (Nat × Instr × Nat × Nat) := [(0, .aload_n 0, 1, 1), (1, .iload_n 1, 1, 2), (2, .invokevirtual 119, 3, 5), (5, .ifCond .eq 16, 3, 8), (8, .aload_n 0, 1, 9), (9, .iload_n 2, 1, 10), (10, .invokevirtual 119, 3, 13), (13, .ifCond .eq 8, 3, 16), (16, .iload_n 1, 1, 17), (17, .iload_n 2, 1, 18), (18, .if_icmp .ne 6, 3, 21), (21, .ldc 250, 2, 23), (23, .ireturn, 1, 24), (24, .aload_n 0, 1, 25), (25, .iconst 1, 1, 26), (26, .iload_n 1, 1, 27), (27, .ishl, 1, 28), (28, .iconst 1, 1, 29), (29, .iload_n 2, 1, 30), (30, .ishl, 1, 31), (31, .ior, 1, 32), (32, .invokevirtual 270, 3, 35), (35, .aload_n 0, 1, 36), (36, .getfield 251, 3, 39), (39, .istore_n 3, 1, 40), (40, .aload_n 0, 1, 41), (41, .iconst 1, 1, 42), (42, .iload_n 1, 1, 43), (43, .ishl, 1, 44), (44, .invokevirtual 270, 3, 47), (47, .aload_n 0, 1, 48), (48, .getfield 251, 3, 51), (51, .istore 4, 2, 53), (53, .iload_n 3, 1, 54), (54, .iconst (-1), 1, 55), (55, .if_icmp .eq 9, 3, 58), (58, .iload 4, 2, 60), (60, .iconst (-1), 1, 61), (61, .if_icmp .ne 5, 3, 64), (64, .iconst (-1), 1, 65), (65, .ireturn, 1, 66), (66, .aload_n 0, 1, 67), (67, .bipush 15, 2, 69), (69, .invokevirtual 260, 3, 72), (72, .aload_n 0, 1, 73), (73, .invokevirtual 273, 3, 76), (76, .aload_n 0, 1, 77), (77, .iconst 1, 1, 78), (78, .iload_n 2, 1, 79), (79, .ishl, 1, 80), (80, .invokevirtual 270, 3, 83), (83, .aload_n 0, 1, 84), (84, .bipush 15, 2, 86), (86, .invokevirtual 267, 3, 89), (89, .aload_n 0, 1, 90), (90, .getfield 251, 3, 93), (93, .iconst (-1), 1, 94), (94, .if_icmp .ne 7, 3, 97), (97, .iconst (-1), 1, 98), (98, .goto 12, 3, 101), (101, .iload 4, 2, 103), (103, .aload_n 0, 1, 104), (104, .getfield 251, 3, 107), (107, .iadd, 1, 108), (108, .iload_n 3, 1, 109), (109, .isub, 1, 110), (110, .ireturn, 1, 111)]
def I_X9_spare : MI := (prog_11_method_50_code, 5, (some .int), "OpensAtNineModel", "spare", T_X9_spare, 0, 0, 20, 532)
theorem dT_X9_spare : ∀ q ∈ T_X9_spare, decode prog_11_method_50_code q.1 = .ok (q.2.1, q.2.2.1) ∧ q.2.2.2 = q.1 + q.2.2.1 := by decide +kernel
theorem xm_X9_spare : xCM y_X9_spare I_X9_spare 9 2 := ⟨⟨tw1301, tw1302⟩, tw84, tw1303, ⟨xT9, 49, rfl⟩, ⟨by decide +kernel, by decide +kernel, by decide +kernel⟩⟩
noncomputable def f_X9_spare_21 (h : XM) : Option (Int32 × XM) := some ((-100000 : Int32), h)
noncomputable def f_X9_spare_64 (h : XM) : Option (Int32 × XM) := some ((-1 : Int32), h)
noncomputable def f_X9_spare_110 (h : XM) (s0 : Int32) : Option (Int32 × XM) := some (s0, h)
noncomputable def f_X9_spare (h : XM) (a0 : Option Nat) (a1 : Int32) (a2 : Int32) : Option (Int32 × XM) := (vc h 9 a0 (f_X9_isOne h a0 a1)).bind fun q1 => if q1.1 = 0 then (f_X9_spare_21 q1.2) else ((vc q1.2 9 a0 (f_X9_isOne q1.2 a0 a2)).bind fun q2 => if q2.1 = 0 then (f_X9_spare_21 q2.2) else (if a1 = a2 then (f_X9_spare_21 q2.2) else ((vc q2.2 9 a0 (f_X9_findsCheapest q2.2 a0 ((((1 : Int32)) <<< (a1 &&& 31)) ||| (((1 : Int32)) <<< (a2 &&& 31))))).bind fun q3 => (gI q3 9 a0 39).bind fun v4 => (vc q3 9 a0 (f_X9_findsCheapest q3 a0 (((1 : Int32)) <<< (a1 &&& 31)))).bind fun q5 => (gI q5 9 a0 39).bind fun v6 => if v4 = ((-1 : Int32)) then (f_X9_spare_64 q5) else (if v6 = ((-1 : Int32)) then (f_X9_spare_64 q5) else ((vc q5 9 a0 (f_X9_keeps q5 a0 ((15 : Int32)))).bind fun q7 => (vc q7 9 a0 (f_X9_goesCheapest q7 a0)).bind fun q8 => (vc q8 9 a0 (f_X9_findsCheapest q8 a0 (((1 : Int32)) <<< (a2 &&& 31)))).bind fun q9 => (vc q9 9 a0 (f_X9_laysBack q9 a0 ((15 : Int32)))).bind fun q10 => (gI q10 9 a0 39).bind fun v11 => if v11 = ((-1 : Int32)) then (f_X9_spare_110 q10 ((-1 : Int32))) else ((gI q10 9 a0 39).bind fun v12 => f_X9_spare_110 q10 ((v6 + v12) - v4)))))))
theorem b_X9_spare_21 (X : XX) (h : XM) : SW X I_X9_spare ρi 21 [] [] h 0 0 (f_X9_spare_21 h) := by
  unfold f_X9_spare_21
  refine s_ldc (i := 11) rfl (v := (-100000 : Int32)) (tw1279) ?_
  exact s_iret (i := 12) rfl rfl
theorem b_X9_spare_64 (X : XX) (h : XM) : SW X I_X9_spare ρi 64 [] [] h 0 0 (f_X9_spare_64 h) := by
  unfold f_X9_spare_64
  refine s_iconst (i := 39) rfl (v := (-1 : Int32)) (by decide) ?_
  exact s_iret (i := 40) rfl rfl
theorem b_X9_spare_110 (X : XX) (h : XM) (s0 : Int32) : SW X I_X9_spare ρi 110 [] [tI s0] h 0 0 (f_X9_spare_110 h s0) := by
  unfold f_X9_spare_110
  exact s_iret (i := 66) rfl rfl
theorem c_X9_spare (h : XM) (a0 : Option Nat) (a1 : Int32) (a2 : Int32) : MC I_X9_spare y_X9_spare [tA a0, tI a1, tI a2] h ρi (f_X9_spare h a0 a1 a2) := by
  refine MC_of ⟨by decide +kernel, rfl, rfl, Nat.le_of_ble_eq_true rfl⟩ dT_X9_spare (fun X => ?_)
  show SW X I_X9_spare ρi 0 [(0, tA a0), (1, tI a1), (2, tI a2)] [] h 0 0 (f_X9_spare h a0 a1 a2)
  unfold f_X9_spare
  refine s_aload_n (i := 0) rfl 0 rfl ?_
  refine s_iload_n (i := 1) rfl 1 rfl ?_
  refine u_callVi (kk := 9) [tI a1] a0 [] rfl (i := 2) rfl (c_X9_isOne h a0 a1) xm_X9_isOne (tw1174) rfl (Nat.le_of_ble_eq_true rfl) (xRm.of rfl) ⟨rfl, rfl⟩ (fun q1 => ?_)
  refine s_ifeq (i := 3) rfl (tgt := 21) (by decide) (fun z5 => ?_) (fun z5 => ?_)
  · exact s_sub [] rfl (b_X9_spare_21 X q1.2)
  · refine s_aload_n (i := 4) rfl 0 rfl ?_
    refine s_iload_n (i := 5) rfl 2 rfl ?_
    refine u_callVi (kk := 9) [tI a2] a0 [] rfl (i := 6) rfl (c_X9_isOne q1.2 a0 a2) xm_X9_isOne (tw1174) rfl (Nat.le_of_ble_eq_true rfl) (xRm.of rfl) ⟨rfl, rfl⟩ (fun q2 => ?_)
    refine s_ifeq (i := 7) rfl (tgt := 21) (by decide) (fun z13 => ?_) (fun z13 => ?_)
    · exact s_sub [] rfl (b_X9_spare_21 X q2.2)
    · refine s_iload_n (i := 8) rfl 1 rfl ?_
      refine s_iload_n (i := 9) rfl 2 rfl ?_
      refine s_icmpne (i := 10) rfl (tgt := 24) (by decide) (fun z18 => ?_) (fun z18 => ?_)
      · exact s_sub [] rfl (b_X9_spare_21 X q2.2)
      · refine s_aload_n (i := 13) rfl 0 rfl ?_
        refine s_iconst (i := 14) rfl (v := (1 : Int32)) (by decide) ?_
        refine s_iload_n (i := 15) rfl 1 rfl ?_
        refine s_ishl (i := 16) rfl ?_
        refine s_iconst (i := 17) rfl (v := (1 : Int32)) (by decide) ?_
        refine s_iload_n (i := 18) rfl 2 rfl ?_
        refine s_ishl (i := 19) rfl ?_
        refine s_ior (i := 20) rfl ?_
        refine u_callVv (kk := 9) [tI ((((1 : Int32)) <<< (a1 &&& 31)) ||| (((1 : Int32)) <<< (a2 &&& 31)))] a0 [] rfl (i := 21) rfl (c_X9_findsCheapest q2.2 a0 ((((1 : Int32)) <<< (a1 &&& 31)) ||| (((1 : Int32)) <<< (a2 &&& 31)))) xm_X9_findsCheapest (tw1284) rfl (Nat.le_of_ble_eq_true rfl) (xRm.of rfl) ⟨rfl, rfl⟩ (fun q3 => ?_)
        refine s_aload_n (i := 22) rfl 0 rfl ?_
        refine s_getI (i := 23) rfl xf_9_251.r rfl (fun v4 => ?_)
        refine s_istore_n (i := 24) rfl (Nat.le_of_ble_eq_true rfl) (ls2 := [(3, tI v4), (0, tA a0), (1, tI a1), (2, tI a2)]) rfl ?_
        refine s_aload_n (i := 25) rfl 1 rfl ?_
        refine s_iconst (i := 26) rfl (v := (1 : Int32)) (by decide) ?_
        refine s_iload_n (i := 27) rfl 2 rfl ?_
        refine s_ishl (i := 28) rfl ?_
        refine u_callVv (kk := 9) [tI (((1 : Int32)) <<< (a1 &&& 31))] a0 [] rfl (i := 29) rfl (c_X9_findsCheapest q3 a0 (((1 : Int32)) <<< (a1 &&& 31))) xm_X9_findsCheapest (tw1284) rfl (Nat.le_of_ble_eq_true rfl) (xRm.of rfl) ⟨rfl, rfl⟩ (fun q5 => ?_)
        refine s_aload_n (i := 30) rfl 1 rfl ?_
        refine s_getI (i := 31) rfl xf_9_251.r rfl (fun v6 => ?_)
        refine s_istore (i := 32) rfl (Nat.le_of_ble_eq_true rfl) (ls2 := [(4, tI v6), (3, tI v4), (0, tA a0), (1, tI a1), (2, tI a2)]) rfl ?_
        refine s_iload_n (i := 33) rfl 1 rfl ?_
        refine s_iconst (i := 34) rfl (v := (-1 : Int32)) (by decide) ?_
        refine s_icmpeq (i := 35) rfl (tgt := 64) (by decide) (fun z55 => ?_) (fun z55 => ?_)
        · exact s_sub [] rfl (b_X9_spare_64 X q5)
        · refine s_iload (i := 36) rfl 0 rfl ?_
          refine s_iconst (i := 37) rfl (v := (-1 : Int32)) (by decide) ?_
          refine s_icmpne (i := 38) rfl (tgt := 66) (by decide) (fun z61 => ?_) (fun z61 => ?_)
          · exact s_sub [] rfl (b_X9_spare_64 X q5)
          · refine s_aload_n (i := 41) rfl 2 rfl ?_
            refine s_bipush (i := 42) rfl (v := (15 : Int32)) (by decide) ?_
            refine u_callVv (kk := 9) [tI ((15 : Int32))] a0 [] rfl (i := 43) rfl (c_X9_keeps q5 a0 ((15 : Int32))) xm_X9_keeps (tw1292) rfl (Nat.le_of_ble_eq_true rfl) (xRm.of rfl) ⟨rfl, rfl⟩ (fun q7 => ?_)
            refine s_aload_n (i := 44) rfl 2 rfl ?_
            refine u_callVv (kk := 9) [] a0 [] rfl (i := 45) rfl (c_X9_goesCheapest q7 a0) xm_X9_goesCheapest (tw1304) rfl (Nat.le_of_ble_eq_true rfl) (xRm.of rfl) ⟨rfl, rfl⟩ (fun q8 => ?_)
            refine s_aload_n (i := 46) rfl 2 rfl ?_
            refine s_iconst (i := 47) rfl (v := (1 : Int32)) (by decide) ?_
            refine s_iload_n (i := 48) rfl 4 rfl ?_
            refine s_ishl (i := 49) rfl ?_
            refine u_callVv (kk := 9) [tI (((1 : Int32)) <<< (a2 &&& 31))] a0 [] rfl (i := 50) rfl (c_X9_findsCheapest q8 a0 (((1 : Int32)) <<< (a2 &&& 31))) xm_X9_findsCheapest (tw1284) rfl (Nat.le_of_ble_eq_true rfl) (xRm.of rfl) ⟨rfl, rfl⟩ (fun q9 => ?_)
            refine s_aload_n (i := 51) rfl 2 rfl ?_
            refine s_bipush (i := 52) rfl (v := (15 : Int32)) (by decide) ?_
            refine u_callVv (kk := 9) [tI ((15 : Int32))] a0 [] rfl (i := 53) rfl (c_X9_laysBack q9 a0 ((15 : Int32))) xm_X9_laysBack (tw1296) rfl (Nat.le_of_ble_eq_true rfl) (xRm.of rfl) ⟨rfl, rfl⟩ (fun q10 => ?_)
            refine s_aload_n (i := 54) rfl 2 rfl ?_
            refine s_getI (i := 55) rfl xf_9_251.r rfl (fun v11 => ?_)
            refine s_iconst (i := 56) rfl (v := (-1 : Int32)) (by decide) ?_
            refine s_icmpne (i := 57) rfl (tgt := 101) (by decide) (fun z94 => ?_) (fun z94 => ?_)
            · refine s_iconst (i := 58) rfl (v := (-1 : Int32)) (by decide) ?_
              refine s_goto (i := 59) rfl (tgt := 110) (by decide) ?_
              exact s_sub [] rfl (b_X9_spare_110 X q10 ((-1 : Int32)))
            · refine s_iload (i := 60) rfl 0 rfl ?_
              refine s_aload_n (i := 61) rfl 2 rfl ?_
              refine s_getI (i := 62) rfl xf_9_251.r rfl (fun v12 => ?_)
              refine s_iadd (i := 63) rfl ?_
              refine s_iload_n (i := 64) rfl 1 rfl ?_
              refine s_isub (i := 65) rfl ?_
              exact s_sub [] rfl (b_X9_spare_110 X q10 ((v6 + v12) - v4))
def y_X9_restsFrom : MethodName := ⟨"OpensAtNineModel", "restsFrom", "(II)V"⟩
def T_X9_restsFrom : List (Nat × Instr × Nat × Nat) := [(0, .aload_n 0, 1, 1), (1, .dup, 1, 2), (2, .getfield 276, 3, 5), (5, .iconst 1, 1, 6), (6, .aload_n 0, 1, 7), (7, .getfield 113, 3, 10), (10, .aload_n 0, 1, 11), (11, .getfield 7, 3, 14), (14, .irem, 1, 15), (15, .ishl, 1, 16), (16, .ior, 1, 17), (17, .putfield 276, 3, 20), (20, .aload_n 0, 1, 21), (21, .iload_n 2, 1, 22), (22, .invokevirtual 260, 3, 25), (25, .iconst 0, 1, 26), (26, .istore_n 3, 1, 27), (27, .iload_n 3, 1, 28), (28, .aload_n 0, 1, 29), (29, .getfield 104, 3, 32), (32, .if_icmp .ge 73, 3, 35), (35, .aload_n 0, 1, 36), (36, .iload_n 3, 1, 37), (37, .invokevirtual 226, 3, 40), (40, .ifCond .eq 59, 3, 43), (43, .aload_n 0, 1, 44), (44, .getfield 13, 3, 47), (47, .iload_n 3, 1, 48), (48, .iaload, 1, 49), (49, .iload_n 1, 1, 50), (50, .if_icmp .ne 49, 3, 53), (53, .aload_n 0, 1, 54), (54, .aload_n 0, 1, 55), (55, .getfield 113, 3, 58), (58, .aload_n 0, 1, 59), (59, .iload_n 3, 1, 60), (60, .invokevirtual 229, 3, 63), (63, .iadd, 1, 64), (64, .iconst 0, 1, 65), (65, .sipush 9999, 3, 68), (68, .invokestatic 217, 3, 71), (71, .putfield 113, 3, 74), (74, .aload_n 0, 1, 75), (75, .dup, 1, 76), (76, .getfield 110, 3, 79), (79, .iconst 1, 1, 80), (80, .iload_n 3, 1, 81), (81, .ishl, 1, 82), (82, .ior, 1, 83), (83, .putfield 110, 3, 86), (86, .aload_n 0, 1, 87), (87, .iload_n 1, 1, 88), (88, .iload_n 2, 1, 89), (89, .iconst 1, 1, 90), (90, .iadd, 1, 91), (91, .invokevirtual 279, 3, 94), (94, .aload_n 0, 1, 95), (95, .iload_n 2, 1, 96), (96, .invokevirtual 267, 3, 99), (99, .iinc 3 1, 3, 102), (102, .goto (-75), 3, 105), (105, .return_, 1, 106)]
def I_X9_restsFrom (d : Nat) : MI := (prog_11_method_51_code, 4, none, "OpensAtNineModel", "restsFrom", T_X9_restsFrom, 0, 0, 3 + d, 106 + d * 23)
theorem dT_X9_restsFrom : ∀ q ∈ T_X9_restsFrom, decode prog_11_method_51_code q.1 = .ok (q.2.1, q.2.2.1) ∧ q.2.2.2 = q.1 + q.2.2.1 := by decide +kernel
theorem xm_X9_restsFrom (d : Nat) : xCM y_X9_restsFrom (I_X9_restsFrom d) 9 2 := ⟨⟨tw1314, tw57⟩, tw84, tw1315, ⟨xT9, 49, rfl⟩, ⟨by decide +kernel, by decide +kernel, by decide +kernel⟩⟩
noncomputable def f_X9_restsFrom_99 (r_X9_restsFrom : XM → Option Nat → Int32 → Int32 → Option (XM)) (k_27 : XM → Option Nat → Int32 → Int32 → Int32 → Option (XM)) (h : XM) (l0 : Option Nat) (l1 : Int32) (l2 : Int32) (l3 : Int32) : Option (XM) := bnd (l3 + (1 : Int32)) fun v1 => k_27 h l0 l1 l2 v1
noncomputable def fb_X9_restsFrom_27 (r_X9_restsFrom : XM → Option Nat → Int32 → Int32 → Option (XM)) (k_27 : XM → Option Nat → Int32 → Int32 → Int32 → Option (XM)) (h : XM) (l0 : Option Nat) (l1 : Int32) (l2 : Int32) (l3 : Int32) : Option (XM) := (gI h 9 l0 5).bind fun v2 => if l3 < v2 then ((vc h 9 l0 (f_X9_isLeft h l0 l3)).bind fun q3 => if q3.1 = 0 then (f_X9_restsFrom_99 r_X9_restsFrom k_27 q3.2 l0 l1 l2 l3) else ((gR q3.2 9 l0 6).bind fun v4 => (rI q3.2 v4 l3).bind fun v5 => if v5 = l1 then ((gI q3.2 9 l0 1).bind fun v6 => (vc q3.2 9 l0 (f_X9_countsNow q3.2 l0 l3)).bind fun q7 => (f_X9_within q7.2 (v6 + q7.1) ((0 : Int32)) ((9999 : Int32))).bind fun q8 => (pI q8.2 9 l0 1 q8.1).bind fun h9 => (gI h9 9 l0 10).bind fun v10 => (pI h9 9 l0 10 (v10 ||| (((1 : Int32)) <<< (l3 &&& 31)))).bind fun h11 => (vc h11 9 l0 (r_X9_restsFrom h11 l0 l1 (l2 + ((1 : Int32))))).bind fun q12 => (vc q12 9 l0 (f_X9_laysBack q12 l0 l2)).bind fun q13 => f_X9_restsFrom_99 r_X9_restsFrom k_27 q13 l0 l1 l2 l3) else (f_X9_restsFrom_99 r_X9_restsFrom k_27 q3.2 l0 l1 l2 l3))) else (some h)
noncomputable def f_X9_restsFrom_27 (r_X9_restsFrom : XM → Option Nat → Int32 → Int32 → Option (XM)) (n : Nat) : XM → Option Nat → Int32 → Int32 → Int32 → Option (XM) := Nat.rec (motive := fun _ => XM → Option Nat → Int32 → Int32 → Int32 → Option (XM)) (fun _ _ _ _ _ => none) (fun _ ih h l0 l1 l2 l3 => fb_X9_restsFrom_27 r_X9_restsFrom ih h l0 l1 l2 l3) n
noncomputable def fe_X9_restsFrom (r_X9_restsFrom : XM → Option Nat → Int32 → Int32 → Option (XM)) (h : XM) (a0 : Option Nat) (a1 : Int32) (a2 : Int32) : Option (XM) := (gI h 9 a0 42).bind fun v14 => (gI h 9 a0 1).bind fun v15 => (gI h 9 a0 0).bind fun v16 => (irem v15 v16).bind fun v17 => (pI h 9 a0 42 (v14 ||| (((1 : Int32)) <<< (v17 &&& 31)))).bind fun h18 => (vc h18 9 a0 (f_X9_keeps h18 a0 a2)).bind fun q19 => f_X9_restsFrom_27 r_X9_restsFrom FU q19 a0 a1 a2 ((0 : Int32))
noncomputable def g_X9_restsFrom (d : Nat) : (XM → Option Nat → Int32 → Int32 → Option (XM)) := Nat.rec (motive := fun _ => (XM → Option Nat → Int32 → Int32 → Option (XM))) ((fun _ _ _ _ => none)) (fun _ g => ((fun h a0 a1 a2 => fe_X9_restsFrom g h a0 a1 a2))) d
noncomputable def f_X9_restsFrom (d : Nat) : XM → Option Nat → Int32 → Int32 → Option (XM) := (g_X9_restsFrom d)
theorem b_X9_restsFrom_99 (X : XX) (d : Nat) (r_X9_restsFrom : XM → Option Nat → Int32 → Int32 → Option (XM)) (hr_X9_restsFrom : ∀ h a0 a1 a2, MC (I_X9_restsFrom d) y_X9_restsFrom [tA a0, tI a1, tI a2] h ρv (r_X9_restsFrom h a0 a1 a2)) (k_27 : XM → Option Nat → Int32 → Int32 → Int32 → Option (XM)) (hk_27 : ∀ h l0 l1 l2 l3, SW X (I_X9_restsFrom (d + 1)) ρv 27 [(0, tA l0), (1, tI l1), (2, tI l2), (3, tI l3)] [] h 0 0 (k_27 h l0 l1 l2 l3)) (h : XM) (l0 : Option Nat) (l1 : Int32) (l2 : Int32) (l3 : Int32) : SW X (I_X9_restsFrom (d + 1)) ρv 99 [(0, tA l0), (1, tI l1), (2, tI l2), (3, tI l3)] [] h 0 0 (f_X9_restsFrom_99 r_X9_restsFrom k_27 h l0 l1 l2 l3) := by
  unfold f_X9_restsFrom_99
  refine s_inc (i := 59) rfl 3 rfl (c9 := (1 : Int32)) (by decide) (Nat.le_of_ble_eq_true rfl) (fun v1 => ?_)
  refine s_ls (ls2 := [(3, tI v1), (0, tA l0), (1, tI l1), (2, tI l2)]) rfl ?_
  refine s_goto (i := 60) rfl (tgt := 27) (by decide) ?_
  exact s_sub [1, 2, 3, 0] rfl (hk_27 h l0 l1 l2 v1)
theorem bb_X9_restsFrom_27 (X : XX) (d : Nat) (r_X9_restsFrom : XM → Option Nat → Int32 → Int32 → Option (XM)) (hr_X9_restsFrom : ∀ h a0 a1 a2, MC (I_X9_restsFrom d) y_X9_restsFrom [tA a0, tI a1, tI a2] h ρv (r_X9_restsFrom h a0 a1 a2)) (k_27 : XM → Option Nat → Int32 → Int32 → Int32 → Option (XM)) (hk_27 : ∀ h l0 l1 l2 l3, SW X (I_X9_restsFrom (d + 1)) ρv 27 [(0, tA l0), (1, tI l1), (2, tI l2), (3, tI l3)] [] h 0 0 (k_27 h l0 l1 l2 l3)) (h : XM) (l0 : Option Nat) (l1 : Int32) (l2 : Int32) (l3 : Int32) : SW X (I_X9_restsFrom (d + 1)) ρv 27 [(0, tA l0), (1, tI l1), (2, tI l2), (3, tI l3)] [] h 0 0 (fb_X9_restsFrom_27 r_X9_restsFrom k_27 h l0 l1 l2 l3) := by
  unfold fb_X9_restsFrom_27
  refine s_iload_n (i := 17) rfl 3 rfl ?_
  refine s_aload_n (i := 18) rfl 0 rfl ?_
  refine s_getI (i := 19) rfl xf_9_104.r rfl (fun v2 => ?_)
  refine s_icmpge (i := 20) rfl (tgt := 105) (by decide) (fun z32 => ?_) (fun z32 => ?_)
  · refine s_aload_n (i := 21) rfl 0 rfl ?_
    refine s_iload_n (i := 22) rfl 3 rfl ?_
    refine u_callVi (kk := 9) [tI l3] l0 [] rfl (i := 23) rfl (c_X9_isLeft h l0 l3) xm_X9_isLeft (tw1235) rfl (Nat.le_of_ble_eq_true rfl) (xRm.in (show 1 + 1 ≤ 3 + (d + 1) by omega) (show 8 + (2 + 11) + 60 ≤ 106 + (d + 1) * 23 by omega)) ⟨rfl, rfl⟩ (fun q3 => ?_)
    refine s_ifeq (i := 24) rfl (tgt := 99) (by decide) (fun z40 => ?_) (fun z40 => ?_)
    · exact s_sub [0, 1, 2, 3] rfl (b_X9_restsFrom_99 X d r_X9_restsFrom hr_X9_restsFrom k_27 hk_27 q3.2 l0 l1 l2 l3)
    · refine s_aload_n (i := 25) rfl 0 rfl ?_
      refine s_getR (i := 26) rfl xf_9_13.r rfl (fun v4 => ?_)
      refine s_iload_n (i := 27) rfl 3 rfl ?_
      refine s_iaload (i := 28) rfl (fun v5 => ?_)
      refine s_iload_n (i := 29) rfl 1 rfl ?_
      refine s_icmpne (i := 30) rfl (tgt := 99) (by decide) (fun z50 => ?_) (fun z50 => ?_)
      · refine s_aload_n (i := 31) rfl 0 rfl ?_
        refine s_aload_n (i := 32) rfl 0 rfl ?_
        refine s_getI (i := 33) rfl xf_9_113.r rfl (fun v6 => ?_)
        refine s_aload_n (i := 34) rfl 0 rfl ?_
        refine s_iload_n (i := 35) rfl 3 rfl ?_
        refine u_callVi (kk := 9) [tI l3] l0 [tI v6, tA l0] rfl (i := 36) rfl (c_X9_countsNow q3.2 l0 l3) xm_X9_countsNow (tw1243) rfl (Nat.le_of_ble_eq_true rfl) (xRm.in (show 2 + 1 ≤ 3 + (d + 1) by omega) (show 8 + (5 + 11) + 82 ≤ 106 + (d + 1) * 23 by omega)) ⟨rfl, rfl⟩ (fun q7 => ?_)
        refine s_iadd (i := 37) rfl ?_
        refine s_iconst (i := 38) rfl (v := (0 : Int32)) (by decide) ?_
        refine s_sipush (i := 39) rfl (v := (9999 : Int32)) (by decide) ?_
        refine u_callSi [tI (v6 + q7.1), tI ((0 : Int32)), tI ((9999 : Int32))] [tA l0] rfl (i := 40) rfl (c_X9_within q7.2 (v6 + q7.1) ((0 : Int32)) ((9999 : Int32))) xm_X9_within (tw1213) rfl (Nat.le_of_ble_eq_true rfl) (xRm.in (show 1 + 1 ≤ 3 + (d + 1) by omega) (show 8 + (3 + 11) + 60 ≤ 106 + (d + 1) * 23 by omega)) ⟨rfl, rfl⟩ (fun q8 => ?_)
        refine s_putI (i := 41) rfl xf_9_113 (fun q => by cases q) rfl rfl (fun h9 => ?_)
        refine s_aload_n (i := 42) rfl 0 rfl ?_
        refine s_dup (i := 43) rfl rfl ?_
        refine s_getI (i := 44) rfl xf_9_110.r rfl (fun v10 => ?_)
        refine s_iconst (i := 45) rfl (v := (1 : Int32)) (by decide) ?_
        refine s_iload_n (i := 46) rfl 3 rfl ?_
        refine s_ishl (i := 47) rfl ?_
        refine s_ior (i := 48) rfl ?_
        refine s_putI (i := 49) rfl xf_9_110 (fun q => by cases q) rfl rfl (fun h11 => ?_)
        refine s_aload_n (i := 50) rfl 0 rfl ?_
        refine s_iload_n (i := 51) rfl 1 rfl ?_
        refine s_iload_n (i := 52) rfl 2 rfl ?_
        refine s_iconst (i := 53) rfl (v := (1 : Int32)) (by decide) ?_
        refine s_iadd (i := 54) rfl ?_
        refine u_callVv (kk := 9) [tI l1, tI (l2 + ((1 : Int32)))] l0 [] rfl (i := 55) rfl (hr_X9_restsFrom h11 l0 l1 (l2 + ((1 : Int32)))) (xm_X9_restsFrom _) (tw1312) rfl (Nat.le_of_ble_eq_true rfl) (xRm.in (show 3 + d + 1 ≤ 3 + (d + 1) by omega) (show 8 + (4 + 11) + (106 + d * 23) ≤ 106 + (d + 1) * 23 by rw [Nat.succ_mul]; omega)) ⟨rfl, rfl⟩ (fun q12 => ?_)
        refine s_aload_n (i := 56) rfl 0 rfl ?_
        refine s_iload_n (i := 57) rfl 2 rfl ?_
        refine u_callVv (kk := 9) [tI l2] l0 [] rfl (i := 58) rfl (c_X9_laysBack q12 l0 l2) xm_X9_laysBack (tw1296) rfl (Nat.le_of_ble_eq_true rfl) (xRm.in (show 1 + 1 ≤ 3 + (d + 1) by omega) (show 8 + (2 + 11) + 60 ≤ 106 + (d + 1) * 23 by omega)) ⟨rfl, rfl⟩ (fun q13 => ?_)
        exact s_sub [0, 1, 2, 3] rfl (b_X9_restsFrom_99 X d r_X9_restsFrom hr_X9_restsFrom k_27 hk_27 q13 l0 l1 l2 l3)
      · exact s_sub [0, 1, 2, 3] rfl (b_X9_restsFrom_99 X d r_X9_restsFrom hr_X9_restsFrom k_27 hk_27 q3.2 l0 l1 l2 l3)
  · exact s_vret (i := 61) rfl rfl
theorem b_X9_restsFrom_27 (X : XX) (d : Nat) (r_X9_restsFrom : XM → Option Nat → Int32 → Int32 → Option (XM)) (hr_X9_restsFrom : ∀ h a0 a1 a2, MC (I_X9_restsFrom d) y_X9_restsFrom [tA a0, tI a1, tI a2] h ρv (r_X9_restsFrom h a0 a1 a2)) : ∀ (n : Nat) (h : XM) (l0 : Option Nat) (l1 : Int32) (l2 : Int32) (l3 : Int32), SW X (I_X9_restsFrom (d + 1)) ρv 27 [(0, tA l0), (1, tI l1), (2, tI l2), (3, tI l3)] [] h 0 0 (f_X9_restsFrom_27 r_X9_restsFrom n h l0 l1 l2 l3) := by
  intro n
  induction n with
  | zero =>
    intro h l0 l1 l2 l3
    exact s_none
  | succ n ih =>
    intro h l0 l1 l2 l3
    exact bb_X9_restsFrom_27 X d r_X9_restsFrom hr_X9_restsFrom (f_X9_restsFrom_27 r_X9_restsFrom n) ih h l0 l1 l2 l3
theorem ce_X9_restsFrom (d : Nat) (r_X9_restsFrom : XM → Option Nat → Int32 → Int32 → Option (XM)) (hr_X9_restsFrom : ∀ h a0 a1 a2, MC (I_X9_restsFrom d) y_X9_restsFrom [tA a0, tI a1, tI a2] h ρv (r_X9_restsFrom h a0 a1 a2)) (h : XM) (a0 : Option Nat) (a1 : Int32) (a2 : Int32) : MC (I_X9_restsFrom (d + 1)) y_X9_restsFrom [tA a0, tI a1, tI a2] h ρv (fe_X9_restsFrom r_X9_restsFrom h a0 a1 a2) := by
  refine MC_of ⟨by decide +kernel, rfl, rfl, Nat.le_of_ble_eq_true rfl⟩ dT_X9_restsFrom (fun X => ?_)
  show SW X (I_X9_restsFrom (d + 1)) ρv 0 [(0, tA a0), (1, tI a1), (2, tI a2)] [] h 0 0 (fe_X9_restsFrom r_X9_restsFrom h a0 a1 a2)
  unfold fe_X9_restsFrom
  refine s_aload_n (i := 0) rfl 0 rfl ?_
  refine s_dup (i := 1) rfl rfl ?_
  refine s_getI (i := 2) rfl xf_9_276.r rfl (fun v14 => ?_)
  refine s_iconst (i := 3) rfl (v := (1 : Int32)) (by decide) ?_
  refine s_aload_n (i := 4) rfl 0 rfl ?_
  refine s_getI (i := 5) rfl xf_9_113.r rfl (fun v15 => ?_)
  refine s_aload_n (i := 6) rfl 0 rfl ?_
  refine s_getI (i := 7) rfl xf_9_7.r rfl (fun v16 => ?_)
  refine s_irem (i := 8) rfl (fun v17 => ?_)
  refine s_ishl (i := 9) rfl ?_
  refine s_ior (i := 10) rfl ?_
  refine s_putI (i := 11) rfl xf_9_276 (fun q => by cases q) rfl rfl (fun h18 => ?_)
  refine s_aload_n (i := 12) rfl 0 rfl ?_
  refine s_iload_n (i := 13) rfl 2 rfl ?_
  refine u_callVv (kk := 9) [tI a2] a0 [] rfl (i := 14) rfl (c_X9_keeps h18 a0 a2) xm_X9_keeps (tw1292) rfl (Nat.le_of_ble_eq_true rfl) (xRm.in (show 1 + 1 ≤ 3 + (d + 1) by omega) (show 8 + (2 + 11) + 60 ≤ 106 + (d + 1) * 23 by omega)) ⟨rfl, rfl⟩ (fun q19 => ?_)
  refine s_iconst (i := 15) rfl (v := (0 : Int32)) (by decide) ?_
  refine s_istore_n (i := 16) rfl (Nat.le_of_ble_eq_true rfl) (ls2 := [(3, tI ((0 : Int32))), (0, tA a0), (1, tI a1), (2, tI a2)]) rfl ?_
  exact s_sub [1, 2, 3, 0] rfl (b_X9_restsFrom_27 X d r_X9_restsFrom hr_X9_restsFrom FU q19 a0 a1 a2 ((0 : Int32)))
theorem cg_X9_restsFrom : ∀ d : Nat, (∀ (h : XM) (a0 : Option Nat) (a1 : Int32) (a2 : Int32), MC (I_X9_restsFrom d) y_X9_restsFrom [tA a0, tI a1, tI a2] h ρv (f_X9_restsFrom d h a0 a1 a2)) := by
  intro d
  induction d with
  | zero => exact fun _ _ _ _ => MC_none
  | succ d ih => exact fun h a0 a1 a2 => ce_X9_restsFrom d (f_X9_restsFrom d) ih h a0 a1 a2
theorem c_X9_restsFrom (d : Nat) (h : XM) (a0 : Option Nat) (a1 : Int32) (a2 : Int32) : MC (I_X9_restsFrom d) y_X9_restsFrom [tA a0, tI a1, tI a2] h ρv (f_X9_restsFrom d h a0 a1 a2) := (cg_X9_restsFrom d) h a0 a1 a2
def y_X9_reach : MethodName := ⟨"OpensAtNineModel", "reach", "(I)I"⟩
def T_X9_reach : List (Nat × Instr × Nat × Nat) := [(0, .aload_n 0, 1, 1), (1, .iload_n 1, 1, 2), (2, .invokevirtual 119, 3, 5), (5, .ifCond .ne 6, 3, 8), (8, .bipush (-5), 2, 10), (10, .ireturn, 1, 11), (11, .aload_n 0, 1, 12), (12, .iconst 0, 1, 13), (13, .putfield 276, 3, 16), (16, .aload_n 0, 1, 17), (17, .iload_n 1, 1, 18), (18, .iconst 0, 1, 19), (19, .invokevirtual 279, 3, 22), (22, .aload_n 0, 1, 23), (23, .getfield 276, 3, 26), (26, .ireturn, 1, 27)]
def I_X9_reach : MI := (prog_11_method_52_code, 2, (some .int), "OpensAtNineModel", "reach", T_X9_reach, 0, 0, 16, 405)
theorem dT_X9_reach : ∀ q ∈ T_X9_reach, decode prog_11_method_52_code q.1 = .ok (q.2.1, q.2.2.1) ∧ q.2.2.2 = q.1 + q.2.2.1 := by decide +kernel
theorem xm_X9_reach : xCM y_X9_reach I_X9_reach 9 1 := ⟨⟨tw1309, tw1310⟩, tw84, tw1311, ⟨xT9, 49, rfl⟩, ⟨by decide +kernel, by decide +kernel, by decide +kernel⟩⟩
noncomputable def f_X9_reach (h : XM) (a0 : Option Nat) (a1 : Int32) : Option (Int32 × XM) := (vc h 9 a0 (f_X9_isOne h a0 a1)).bind fun q1 => if q1.1 = 0 then (some ((-5 : Int32), q1.2)) else ((pI q1.2 9 a0 42 ((0 : Int32))).bind fun h2 => (vc h2 9 a0 (f_X9_restsFrom 12 h2 a0 a1 ((0 : Int32)))).bind fun q3 => (gI q3 9 a0 42).bind fun v4 => some (v4, q3))
theorem c_X9_reach (h : XM) (a0 : Option Nat) (a1 : Int32) : MC I_X9_reach y_X9_reach [tA a0, tI a1] h ρi (f_X9_reach h a0 a1) := by
  refine MC_of ⟨by decide +kernel, rfl, rfl, Nat.le_of_ble_eq_true rfl⟩ dT_X9_reach (fun X => ?_)
  show SW X I_X9_reach ρi 0 [(0, tA a0), (1, tI a1)] [] h 0 0 (f_X9_reach h a0 a1)
  unfold f_X9_reach
  refine s_aload_n (i := 0) rfl 0 rfl ?_
  refine s_iload_n (i := 1) rfl 1 rfl ?_
  refine u_callVi (kk := 9) [tI a1] a0 [] rfl (i := 2) rfl (c_X9_isOne h a0 a1) xm_X9_isOne (tw1174) rfl (Nat.le_of_ble_eq_true rfl) (xRm.of rfl) ⟨rfl, rfl⟩ (fun q1 => ?_)
  refine s_ifne (i := 3) rfl (tgt := 11) (by decide) (fun z5 => ?_) (fun z5 => ?_)
  · refine s_bipush (i := 4) rfl (v := (-5 : Int32)) (by decide) ?_
    exact s_iret (i := 5) rfl rfl
  · refine s_aload_n (i := 6) rfl 0 rfl ?_
    refine s_iconst (i := 7) rfl (v := (0 : Int32)) (by decide) ?_
    refine s_putI (i := 8) rfl xf_9_276 (fun q => by cases q) rfl rfl (fun h2 => ?_)
    refine s_aload_n (i := 9) rfl 0 rfl ?_
    refine s_iload_n (i := 10) rfl 1 rfl ?_
    refine s_iconst (i := 11) rfl (v := (0 : Int32)) (by decide) ?_
    refine u_callVv (kk := 9) [tI a1, tI ((0 : Int32))] a0 [] rfl (i := 12) rfl (c_X9_restsFrom 12 h2 a0 a1 ((0 : Int32))) (xm_X9_restsFrom _) (tw1312) rfl (Nat.le_of_ble_eq_true rfl) (xRm.of rfl) ⟨rfl, rfl⟩ (fun q3 => ?_)
    refine s_aload_n (i := 13) rfl 0 rfl ?_
    refine s_getI (i := 14) rfl xf_9_276.r rfl (fun v4 => ?_)
    exact s_iret (i := 15) rfl rfl
def y_X9_wouldOpen : MethodName := ⟨"OpensAtNineModel", "wouldOpen", "(II)Z"⟩
def T_X9_wouldOpen : List (Nat × Instr × Nat × Nat) := [(0, .aload_n 0, 1, 1), (1, .iload_n 2, 1, 2), (2, .invokevirtual 260, 3, 5), (5, .aload_n 0, 1, 6), (6, .iload_n 1, 1, 7), (7, .invokevirtual 244, 3, 10), (10, .istore_n 3, 1, 11), (11, .aload_n 0, 1, 12), (12, .iload_n 2, 1, 13), (13, .invokevirtual 267, 3, 16), (16, .iload_n 3, 1, 17), (17, .ireturn, 1, 18)]
def I_X9_wouldOpen : MI := (prog_11_method_53_code, 4, (some .boolean), "OpensAtNineModel", "wouldOpen", T_X9_wouldOpen, 0, 0, 6, 186)
theorem dT_X9_wouldOpen : ∀ q ∈ T_X9_wouldOpen, decode prog_11_method_53_code q.1 = .ok (q.2.1, q.2.2.1) ∧ q.2.2.2 = q.1 + q.2.2.1 := by decide +kernel
theorem xm_X9_wouldOpen : xCM y_X9_wouldOpen I_X9_wouldOpen 9 2 := ⟨⟨tw1322, tw58⟩, tw84, tw1323, ⟨xT9, 49, rfl⟩, ⟨by decide +kernel, by decide +kernel, by decide +kernel⟩⟩
noncomputable def f_X9_wouldOpen (h : XM) (a0 : Option Nat) (a1 : Int32) (a2 : Int32) : Option (Int32 × XM) := (vc h 9 a0 (f_X9_keeps h a0 a2)).bind fun q1 => (vc q1 9 a0 (f_X9_paysIn q1 a0 a1)).bind fun q2 => (vc q2.2 9 a0 (f_X9_laysBack q2.2 a0 a2)).bind fun q3 => rz q3 q2.1
theorem c_X9_wouldOpen (h : XM) (a0 : Option Nat) (a1 : Int32) (a2 : Int32) : MC I_X9_wouldOpen y_X9_wouldOpen [tA a0, tI a1, tI a2] h ρi (f_X9_wouldOpen h a0 a1 a2) := by
  refine MC_of ⟨by decide +kernel, rfl, rfl, Nat.le_of_ble_eq_true rfl⟩ dT_X9_wouldOpen (fun X => ?_)
  show SW X I_X9_wouldOpen ρi 0 [(0, tA a0), (1, tI a1), (2, tI a2)] [] h 0 0 (f_X9_wouldOpen h a0 a1 a2)
  unfold f_X9_wouldOpen
  refine s_aload_n (i := 0) rfl 0 rfl ?_
  refine s_iload_n (i := 1) rfl 2 rfl ?_
  refine u_callVv (kk := 9) [tI a2] a0 [] rfl (i := 2) rfl (c_X9_keeps h a0 a2) xm_X9_keeps (tw1292) rfl (Nat.le_of_ble_eq_true rfl) (xRm.of rfl) ⟨rfl, rfl⟩ (fun q1 => ?_)
  refine s_aload_n (i := 3) rfl 0 rfl ?_
  refine s_iload_n (i := 4) rfl 1 rfl ?_
  refine u_callVi (kk := 9) [tI a1] a0 [] rfl (i := 5) rfl (c_X9_paysIn q1 a0 a1) xm_X9_paysIn (tw1263) rfl (Nat.le_of_ble_eq_true rfl) (xRm.of rfl) ⟨rfl, rfl⟩ (fun q2 => ?_)
  refine s_istore_n (i := 6) rfl (Nat.le_of_ble_eq_true rfl) (ls2 := [(3, tI q2.1), (0, tA a0), (1, tI a1), (2, tI a2)]) rfl ?_
  refine s_aload_n (i := 7) rfl 1 rfl ?_
  refine s_iload_n (i := 8) rfl 3 rfl ?_
  refine u_callVv (kk := 9) [tI a2] a0 [] rfl (i := 9) rfl (c_X9_laysBack q2.2 a0 a2) xm_X9_laysBack (tw1296) rfl (Nat.le_of_ble_eq_true rfl) (xRm.of rfl) ⟨rfl, rfl⟩ (fun q3 => ?_)
  refine s_iload_n (i := 10) rfl 0 rfl ?_
  exact s_zret (i := 11) rfl rfl
