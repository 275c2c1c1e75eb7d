/-! 15.nine: the methods as functions, and that the bytecode does so (written by wip/whole/gen/gen_parts.py) -/
def y_X8_leftAtWorst : MethodName := ⟨"OpensAtNine", "leftAtWorst", "(II)I"⟩
def T_X8_leftAtWorst : List (Nat × Instr × Nat × Nat) := [(0, .iconst 0, 1, 1), (1, .istore_n 2, 1, 2), (2, .iconst 0, 1, 3), (3, .istore_n 3, 1, 4), (4, .iconst 2, 1, 5), (5, .istore 4, 2, 7), (7, .iload 4, 2, 9), (9, .bipush 20, 2, 11), (11, .if_icmp .gt 39, 3, 14), (14, .iload_n 0, 1, 15), (15, .iload 4, 2, 17), (17, .ishr, 1, 18), (18, .iconst 1, 1, 19), (19, .iand, 1, 20), (20, .ifCond .ne 6, 3, 23), (23, .goto 21, 3, 26), (26, .iload_n 1, 1, 27), (27, .iload 4, 2, 29), (29, .invokestatic 243, 3, 32), (32, .ifCond .ne 9, 3, 35), (35, .iinc 2 1, 3, 38), (38, .goto 6, 3, 41), (41, .iinc 3 1, 3, 44), (44, .iinc 4 1, 3, 47), (47, .goto (-40), 3, 50), (50, .iload_n 2, 1, 51), (51, .iload_n 3, 1, 52), (52, .invokestatic 248, 3, 55), (55, .ireturn, 1, 56)]
def I_X8_leftAtWorst : MI := (prog_1_method_29_code, 5, (some .int), "OpensAtNine", "leftAtWorst", T_X8_leftAtWorst, 0, 0, 2, 82)
theorem dT_X8_leftAtWorst : ∀ q ∈ T_X8_leftAtWorst, decode prog_1_method_29_code q.1 = .ok (q.2.1, q.2.2.1) ∧ q.2.2.2 = q.1 + q.2.2.1 := by decide +kernel
theorem xm_X8_leftAtWorst : xCS y_X8_leftAtWorst I_X8_leftAtWorst 2 := ⟨tw864, tw69, tw865, ⟨by decide +kernel, by decide +kernel, by decide +kernel⟩⟩
noncomputable def f_X8_leftAtWorst_44 (k_7 : XM → Int32 → Int32 → Int32 → Int32 → Int32 → Option (Int32 × XM)) (h : XM) (l0 : Int32) (l1 : Int32) (l2 : Int32) (l3 : Int32) (l4 : Int32) : Option (Int32 × XM) := bnd (l4 + (1 : Int32)) fun v1 => k_7 h l0 l1 l2 l3 v1
noncomputable def fb_X8_leftAtWorst_7 (k_7 : XM → Int32 → Int32 → Int32 → Int32 → Int32 → Option (Int32 × XM)) (h : XM) (l0 : Int32) (l1 : Int32) (l2 : Int32) (l3 : Int32) (l4 : Int32) : Option (Int32 × XM) := if ((20 : Int32)) < l4 then (bnd (if l2 < l3 then l3 else l2) fun v2 => some (v2, h)) else (if ((l0 >>> (l4 &&& 31)) &&& ((1 : Int32))) = 0 then (f_X8_leftAtWorst_44 k_7 h l0 l1 l2 l3 l4) else ((f_J9_floorMod h l1 l4).bind fun q3 => if q3.1 = 0 then (bnd (l2 + (1 : Int32)) fun v4 => f_X8_leftAtWorst_44 k_7 q3.2 l0 l1 v4 l3 l4) else (bnd (l3 + (1 : Int32)) fun v5 => f_X8_leftAtWorst_44 k_7 q3.2 l0 l1 l2 v5 l4)))
noncomputable def f_X8_leftAtWorst_7 (n : Nat) : XM → Int32 → Int32 → Int32 → Int32 → Int32 → Option (Int32 × XM) := Nat.rec (motive := fun _ => XM → Int32 → Int32 → Int32 → Int32 → Int32 → Option (Int32 × XM)) (fun _ _ _ _ _ _ => none) (fun _ ih h l0 l1 l2 l3 l4 => fb_X8_leftAtWorst_7 ih h l0 l1 l2 l3 l4) n
noncomputable def f_X8_leftAtWorst (h : XM) (a0 : Int32) (a1 : Int32) : Option (Int32 × XM) := f_X8_leftAtWorst_7 FU h a0 a1 ((0 : Int32)) ((0 : Int32)) ((2 : Int32))
theorem b_X8_leftAtWorst_44 (X : XX) (k_7 : XM → Int32 → Int32 → Int32 → Int32 → Int32 → Option (Int32 × XM)) (hk_7 : ∀ h l0 l1 l2 l3 l4, SW X I_X8_leftAtWorst ρi 7 [(0, tI l0), (1, tI l1), (2, tI l2), (3, tI l3), (4, tI l4)] [] h 0 0 (k_7 h l0 l1 l2 l3 l4)) (h : XM) (l0 : Int32) (l1 : Int32) (l2 : Int32) (l3 : Int32) (l4 : Int32) : SW X I_X8_leftAtWorst ρi 44 [(0, tI l0), (1, tI l1), (2, tI l2), (3, tI l3), (4, tI l4)] [] h 0 0 (f_X8_leftAtWorst_44 k_7 h l0 l1 l2 l3 l4) := by
  unfold f_X8_leftAtWorst_44
  refine s_inc (i := 23) rfl 4 rfl (c9 := (1 : Int32)) (by decide) (Nat.le_of_ble_eq_true rfl) (fun v1 => ?_)
  refine s_ls (ls2 := [(4, tI v1), (0, tI l0), (1, tI l1), (2, tI l2), (3, tI l3)]) rfl ?_
  refine s_goto (i := 24) rfl (tgt := 7) (by decide) ?_
  exact s_sub [1, 2, 3, 4, 0] rfl (hk_7 h l0 l1 l2 l3 v1)
theorem bb_X8_leftAtWorst_7 (X : XX) (k_7 : XM → Int32 → Int32 → Int32 → Int32 → Int32 → Option (Int32 × XM)) (hk_7 : ∀ h l0 l1 l2 l3 l4, SW X I_X8_leftAtWorst ρi 7 [(0, tI l0), (1, tI l1), (2, tI l2), (3, tI l3), (4, tI l4)] [] h 0 0 (k_7 h l0 l1 l2 l3 l4)) (h : XM) (l0 : Int32) (l1 : Int32) (l2 : Int32) (l3 : Int32) (l4 : Int32) : SW X I_X8_leftAtWorst ρi 7 [(0, tI l0), (1, tI l1), (2, tI l2), (3, tI l3), (4, tI l4)] [] h 0 0 (fb_X8_leftAtWorst_7 k_7 h l0 l1 l2 l3 l4) := by
  unfold fb_X8_leftAtWorst_7
  refine s_iload (i := 6) rfl 4 rfl ?_
  refine s_bipush (i := 7) rfl (v := (20 : Int32)) (by decide) ?_
  refine s_icmpgt (i := 8) rfl (tgt := 50) (by decide) (fun z11 => ?_) (fun z11 => ?_)
  · refine s_iload_n (i := 25) rfl 2 rfl ?_
    refine s_iload_n (i := 26) rfl 3 rfl ?_
    refine s_mmax (i := 27) rfl ⟨tw867, tw559, tw82, tw560⟩ (Nat.le_of_ble_eq_true rfl) ⟨by decide, by decide⟩ ?_
    refine s_bnd (fun v2 => ?_)
    exact s_iret (i := 28) rfl rfl
  · refine s_iload_n (i := 9) rfl 0 rfl ?_
    refine s_iload (i := 10) rfl 4 rfl ?_
    refine s_ishr (i := 11) rfl ?_
    refine s_iconst (i := 12) rfl (v := (1 : Int32)) (by decide) ?_
    refine s_iand (i := 13) rfl ?_
    refine s_ifne (i := 14) rfl (tgt := 26) (by decide) (fun z20 => ?_) (fun z20 => ?_)
    · refine s_goto (i := 15) rfl (tgt := 44) (by decide) ?_
      exact s_sub [0, 1, 2, 3, 4] rfl (b_X8_leftAtWorst_44 X k_7 hk_7 h l0 l1 l2 l3 l4)
    · refine s_iload_n (i := 16) rfl 1 rfl ?_
      refine s_iload (i := 17) rfl 4 rfl ?_
      refine u_callSi [tI l1, tI l4] [] rfl (i := 18) rfl (c_J9_floorMod h l1 l4) xm_J9_floorMod (tw866) rfl (Nat.le_of_ble_eq_true rfl) (xRm.of rfl) ⟨rfl, rfl⟩ (fun q3 => ?_)
      refine s_ifne (i := 19) rfl (tgt := 41) (by decide) (fun z32 => ?_) (fun z32 => ?_)
      · refine s_inc (i := 20) rfl 2 rfl (c9 := (1 : Int32)) (by decide) (Nat.le_of_ble_eq_true rfl) (fun v4 => ?_)
        refine s_ls (ls2 := [(2, tI v4), (0, tI l0), (1, tI l1), (3, tI l3), (4, tI l4)]) rfl ?_
        refine s_goto (i := 21) rfl (tgt := 44) (by decide) ?_
        exact s_sub [1, 2, 0, 3, 4] rfl (b_X8_leftAtWorst_44 X k_7 hk_7 q3.2 l0 l1 v4 l3 l4)
      · refine s_inc (i := 22) rfl 3 rfl (c9 := (1 : Int32)) (by decide) (Nat.le_of_ble_eq_true rfl) (fun v5 => ?_)
        refine s_ls (ls2 := [(3, tI v5), (0, tI l0), (1, tI l1), (2, tI l2), (4, tI l4)]) rfl ?_
        exact s_sub [1, 2, 3, 0, 4] rfl (b_X8_leftAtWorst_44 X k_7 hk_7 q3.2 l0 l1 l2 v5 l4)
theorem b_X8_leftAtWorst_7 (X : XX) : ∀ (n : Nat) (h : XM) (l0 : Int32) (l1 : Int32) (l2 : Int32) (l3 : Int32) (l4 : Int32), SW X I_X8_leftAtWorst ρi 7 [(0, tI l0), (1, tI l1), (2, tI l2), (3, tI l3), (4, tI l4)] [] h 0 0 (f_X8_leftAtWorst_7 n h l0 l1 l2 l3 l4) := by
  intro n
  induction n with
  | zero =>
    intro h l0 l1 l2 l3 l4
    exact s_none
  | succ n ih =>
    intro h l0 l1 l2 l3 l4
    exact bb_X8_leftAtWorst_7 X (f_X8_leftAtWorst_7 n) ih h l0 l1 l2 l3 l4
theorem c_X8_leftAtWorst (h : XM) (a0 : Int32) (a1 : Int32) : MC I_X8_leftAtWorst y_X8_leftAtWorst [tI a0, tI a1] h ρi (f_X8_leftAtWorst h a0 a1) := by
  refine MC_of ⟨by decide +kernel, rfl, rfl, Nat.le_of_ble_eq_true rfl⟩ dT_X8_leftAtWorst (fun X => ?_)
  show SW X I_X8_leftAtWorst ρi 0 [(0, tI a0), (1, tI a1)] [] h 0 0 (f_X8_leftAtWorst h a0 a1)
  unfold f_X8_leftAtWorst
  refine s_iconst (i := 0) rfl (v := (0 : Int32)) (by decide) ?_
  refine s_istore_n (i := 1) rfl (Nat.le_of_ble_eq_true rfl) (ls2 := [(2, tI ((0 : Int32))), (0, tI a0), (1, tI a1)]) rfl ?_
  refine s_iconst (i := 2) rfl (v := (0 : Int32)) (by decide) ?_
  refine s_istore_n (i := 3) rfl (Nat.le_of_ble_eq_true rfl) (ls2 := [(3, tI ((0 : Int32))), (2, tI ((0 : Int32))), (0, tI a0), (1, tI a1)]) rfl ?_
  refine s_iconst (i := 4) rfl (v := (2 : Int32)) (by decide) ?_
  refine s_istore (i := 5) rfl (Nat.le_of_ble_eq_true rfl) (ls2 := [(4, tI ((2 : Int32))), (3, tI ((0 : Int32))), (2, tI ((0 : Int32))), (0, tI a0), (1, tI a1)]) rfl ?_
  exact s_sub [3, 4, 2, 1, 0] rfl (b_X8_leftAtWorst_7 X FU h a0 a1 ((0 : Int32)) ((0 : Int32)) ((2 : Int32)))
def y_X8_next : MethodName := ⟨"OpensAtNine", "next", "(III)I"⟩
def T_X8_next : List (Nat × Instr × Nat × Nat) := [(0, .aload_n 0, 1, 1), (1, .iload_n 1, 1, 2), (2, .iload_n 2, 1, 3), (3, .invokevirtual 230, 3, 6), (6, .istore 4, 2, 8), (8, .iload 4, 2, 10), (10, .ifCond .eq 6, 3, 13), (13, .iload 4, 2, 15), (15, .ireturn, 1, 16), (16, .iload_n 3, 1, 17), (17, .ifCond .lt 8, 3, 20), (20, .iload_n 3, 1, 21), (21, .iconst 1, 1, 22), (22, .if_icmp .le 6, 3, 25), (25, .bipush (-7), 2, 27), (27, .ireturn, 1, 28), (28, .aload_n 0, 1, 29), (29, .getfield 64, 3, 32), (32, .iload_n 1, 1, 33), (33, .aaload, 1, 34), (34, .iload_n 2, 1, 35), (35, .invokevirtual 234, 3, 38), (38, .istore 5, 2, 40), (40, .aload_n 0, 1, 41), (41, .getfield 64, 3, 44), (44, .iload_n 1, 1, 45), (45, .aaload, 1, 46), (46, .iload_n 2, 1, 47), (47, .invokevirtual 237, 3, 50), (50, .istore 6, 2, 52), (52, .iconst 0, 1, 53), (53, .istore 7, 2, 55), (55, .iconst 0, 1, 56), (56, .istore 8, 2, 58), (58, .iconst 1, 1, 59), (59, .istore 9, 2, 61), (61, .iload 9, 2, 63), (63, .bipush 30, 2, 65), (65, .if_icmp .gt 41, 3, 68), (68, .iload 5, 2, 70), (70, .iload 6, 2, 72), (72, .iload 9, 2, 74), (74, .iadd, 1, 75), (75, .invokestatic 240, 3, 78), (78, .istore 10, 2, 80), (80, .iload 7, 2, 82), (82, .ifCond .eq 10, 3, 85), (85, .iload 10, 2, 87), (87, .iload 8, 2, 89), (89, .if_icmp .ge 11, 3, 92), (92, .iload 9, 2, 94), (94, .istore 7, 2, 96), (96, .iload 10, 2, 98), (98, .istore 8, 2, 100), (100, .iinc 9 1, 3, 103), (103, .goto (-42), 3, 106), (106, .iload_n 3, 1, 107), (107, .ifCond .ne 8, 3, 110), (110, .iload 7, 2, 112), (112, .goto 5, 3, 115), (115, .iload 8, 2, 117), (117, .ireturn, 1, 118)]
def I_X8_next : MI := (prog_1_method_28_code, 11, (some .int), "OpensAtNine", "next", T_X8_next, 0, 0, 4, 130)
theorem dT_X8_next : ∀ q ∈ T_X8_next, decode prog_1_method_28_code q.1 = .ok (q.2.1, q.2.2.1) ∧ q.2.2.2 = q.1 + q.2.2.1 := by decide +kernel
theorem xm_X8_next : xCM y_X8_next I_X8_next 8 3 := ⟨⟨tw856, tw857⟩, tw69, tw858, ⟨xT8, 11, rfl⟩, ⟨by decide +kernel, by decide +kernel, by decide +kernel⟩⟩
noncomputable def f_X8_next_25 (h : XM) : Option (Int32 × XM) := some ((-7 : Int32), h)
noncomputable def f_X8_next_100 (k_61 : XM → Int32 → Int32 → Int32 → Int32 → Int32 → Int32 → Option (Int32 × XM)) (h : XM) (l3 : Int32) (l5 : Int32) (l6 : Int32) (l7 : Int32) (l8 : Int32) (l9 : Int32) : Option (Int32 × XM) := bnd (l9 + (1 : Int32)) fun v1 => k_61 h l3 l5 l6 l7 l8 v1
noncomputable def f_X8_next_92 (k_61 : XM → Int32 → Int32 → Int32 → Int32 → Int32 → Int32 → Option (Int32 × XM)) (h : XM) (l3 : Int32) (l5 : Int32) (l6 : Int32) (l9 : Int32) (l10 : Int32) : Option (Int32 × XM) := f_X8_next_100 k_61 h l3 l5 l6 l9 l10 l9
noncomputable def f_X8_next_117 (h : XM) (s0 : Int32) : Option (Int32 × XM) := some (s0, h)
noncomputable def fb_X8_next_61 (k_61 : XM → Int32 → Int32 → Int32 → Int32 → Int32 → Int32 → Option (Int32 × XM)) (h : XM) (l3 : Int32) (l5 : Int32) (l6 : Int32) (l7 : Int32) (l8 : Int32) (l9 : Int32) : Option (Int32 × XM) := if ((30 : Int32)) < l9 then (if l3 = 0 then (f_X8_next_117 h l7) else (f_X8_next_117 h l8)) else ((f_X8_leftAtWorst h l5 (l6 + l9)).bind fun q2 => if l7 = 0 then (f_X8_next_92 k_61 q2.2 l3 l5 l6 l9 q2.1) else (if q2.1 < l8 then (f_X8_next_92 k_61 q2.2 l3 l5 l6 l9 q2.1) else (f_X8_next_100 k_61 q2.2 l3 l5 l6 l7 l8 l9)))
noncomputable def f_X8_next_61 (n : Nat) : XM → Int32 → Int32 → Int32 → Int32 → Int32 → Int32 → Option (Int32 × XM) := Nat.rec (motive := fun _ => XM → Int32 → Int32 → Int32 → Int32 → Int32 → Int32 → Option (Int32 × XM)) (fun _ _ _ _ _ _ _ => none) (fun _ ih h l3 l5 l6 l7 l8 l9 => fb_X8_next_61 ih h l3 l5 l6 l7 l8 l9) n
noncomputable def f_X8_next (h : XM) (a0 : Option Nat) (a1 : Int32) (a2 : Int32) (a3 : Int32) : Option (Int32 × XM) := (vc h 8 a0 (f_X8_refusedStart h a0 a1 a2)).bind fun q3 => if q3.1 = 0 then (if a3 < 0 then (f_X8_next_25 q3.2) else (if ((1 : Int32)) < a3 then (f_X8_next_25 q3.2) else ((gR q3.2 8 a0 8).bind fun v4 => (rR 14 q3.2 v4 a1).bind fun v5 => (vc q3.2 4 v5 (f_X4_numbersBy q3.2 v5 a2)).bind fun q6 => (gR q6.2 8 a0 8).bind fun v7 => (rR 14 q6.2 v7 a1).bind fun v8 => (vc q6.2 4 v8 (f_X4_sumBehind q6.2 v8 a2)).bind fun q9 => f_X8_next_61 FU q9.2 a3 q6.1 q9.1 ((0 : Int32)) ((0 : Int32)) ((1 : Int32))))) else (some (q3.1, q3.2))
theorem b_X8_next_25 (X : XX) (h : XM) : SW X I_X8_next ρi 25 [] [] h 0 0 (f_X8_next_25 h) := by
  unfold f_X8_next_25
  refine s_bipush (i := 14) rfl (v := (-7 : Int32)) (by decide) ?_
  exact s_iret (i := 15) rfl rfl
theorem b_X8_next_100 (X : XX) (k_61 : XM → Int32 → Int32 → Int32 → Int32 → Int32 → Int32 → Option (Int32 × XM)) (hk_61 : ∀ h l3 l5 l6 l7 l8 l9, SW X I_X8_next ρi 61 [(3, tI l3), (5, tI l5), (6, tI l6), (7, tI l7), (8, tI l8), (9, tI l9)] [] h 0 0 (k_61 h l3 l5 l6 l7 l8 l9)) (h : XM) (l3 : Int32) (l5 : Int32) (l6 : Int32) (l7 : Int32) (l8 : Int32) (l9 : Int32) : SW X I_X8_next ρi 100 [(3, tI l3), (5, tI l5), (6, tI l6), (7, tI l7), (8, tI l8), (9, tI l9)] [] h 0 0 (f_X8_next_100 k_61 h l3 l5 l6 l7 l8 l9) := by
  unfold f_X8_next_100
  refine s_inc (i := 54) rfl 5 rfl (c9 := (1 : Int32)) (by decide) (Nat.le_of_ble_eq_true rfl) (fun v1 => ?_)
  refine s_ls (ls2 := [(9, tI v1), (3, tI l3), (5, tI l5), (6, tI l6), (7, tI l7), (8, tI l8)]) rfl ?_
  refine s_goto (i := 55) rfl (tgt := 61) (by decide) ?_
  exact s_sub [1, 2, 3, 4, 5, 0] rfl (hk_61 h l3 l5 l6 l7 l8 v1)
theorem b_X8_next_92 (X : XX) (k_61 : XM → Int32 → Int32 → Int32 → Int32 → Int32 → Int32 → Option (Int32 × XM)) (hk_61 : ∀ h l3 l5 l6 l7 l8 l9, SW X I_X8_next ρi 61 [(3, tI l3), (5, tI l5), (6, tI l6), (7, tI l7), (8, tI l8), (9, tI l9)] [] h 0 0 (k_61 h l3 l5 l6 l7 l8 l9)) (h : XM) (l3 : Int32) (l5 : Int32) (l6 : Int32) (l9 : Int32) (l10 : Int32) : SW X I_X8_next ρi 92 [(3, tI l3), (5, tI l5), (6, tI l6), (9, tI l9), (10, tI l10)] [] h 0 0 (f_X8_next_92 k_61 h l3 l5 l6 l9 l10) := by
  unfold f_X8_next_92
  refine s_iload (i := 50) rfl 3 rfl ?_
  refine s_istore (i := 51) rfl (Nat.le_of_ble_eq_true rfl) (ls2 := [(7, tI l9), (3, tI l3), (5, tI l5), (6, tI l6), (9, tI l9), (10, tI l10)]) rfl ?_
  refine s_iload (i := 52) rfl 5 rfl ?_
  refine s_istore (i := 53) rfl (Nat.le_of_ble_eq_true rfl) (ls2 := [(8, tI l10), (7, tI l9), (3, tI l3), (5, tI l5), (6, tI l6), (9, tI l9), (10, tI l10)]) rfl ?_
  exact s_sub [2, 3, 4, 1, 0, 5] rfl (b_X8_next_100 X k_61 hk_61 h l3 l5 l6 l9 l10 l9)
theorem b_X8_next_117 (X : XX) (h : XM) (s0 : Int32) : SW X I_X8_next ρi 117 [] [tI s0] h 0 0 (f_X8_next_117 h s0) := by
  unfold f_X8_next_117
  exact s_iret (i := 61) rfl rfl
theorem bb_X8_next_61 (X : XX) (k_61 : XM → Int32 → Int32 → Int32 → Int32 → Int32 → Int32 → Option (Int32 × XM)) (hk_61 : ∀ h l3 l5 l6 l7 l8 l9, SW X I_X8_next ρi 61 [(3, tI l3), (5, tI l5), (6, tI l6), (7, tI l7), (8, tI l8), (9, tI l9)] [] h 0 0 (k_61 h l3 l5 l6 l7 l8 l9)) (h : XM) (l3 : Int32) (l5 : Int32) (l6 : Int32) (l7 : Int32) (l8 : Int32) (l9 : Int32) : SW X I_X8_next ρi 61 [(3, tI l3), (5, tI l5), (6, tI l6), (7, tI l7), (8, tI l8), (9, tI l9)] [] h 0 0 (fb_X8_next_61 k_61 h l3 l5 l6 l7 l8 l9) := by
  unfold fb_X8_next_61
  refine s_iload (i := 36) rfl 5 rfl ?_
  refine s_bipush (i := 37) rfl (v := (30 : Int32)) (by decide) ?_
  refine s_icmpgt (i := 38) rfl (tgt := 106) (by decide) (fun z65 => ?_) (fun z65 => ?_)
  · refine s_iload_n (i := 56) rfl 0 rfl ?_
    refine s_ifne (i := 57) rfl (tgt := 115) (by decide) (fun z107 => ?_) (fun z107 => ?_)
    · refine s_iload (i := 58) rfl 3 rfl ?_
      refine s_goto (i := 59) rfl (tgt := 117) (by decide) ?_
      exact s_sub [] rfl (b_X8_next_117 X h l7)
    · refine s_iload (i := 60) rfl 4 rfl ?_
      exact s_sub [] rfl (b_X8_next_117 X h l8)
  · refine s_iload (i := 39) rfl 1 rfl ?_
    refine s_iload (i := 40) rfl 2 rfl ?_
    refine s_iload (i := 41) rfl 5 rfl ?_
    refine s_iadd (i := 42) rfl ?_
    refine u_callSi [tI l5, tI (l6 + l9)] [] rfl (i := 43) rfl (c_X8_leftAtWorst h l5 (l6 + l9)) xm_X8_leftAtWorst (tw863) rfl (Nat.le_of_ble_eq_true rfl) (xRm.of rfl) ⟨rfl, rfl⟩ (fun q2 => ?_)
    refine s_istore (i := 44) rfl (Nat.le_of_ble_eq_true rfl) (ls2 := [(10, tI q2.1), (3, tI l3), (5, tI l5), (6, tI l6), (7, tI l7), (8, tI l8), (9, tI l9)]) rfl ?_
    refine s_iload (i := 45) rfl 4 rfl ?_
    refine s_ifeq (i := 46) rfl (tgt := 92) (by decide) (fun z82 => ?_) (fun z82 => ?_)
    · exact s_sub [1, 2, 3, 6, 0] rfl (b_X8_next_92 X k_61 hk_61 q2.2 l3 l5 l6 l9 q2.1)
    · refine s_iload (i := 47) rfl 0 rfl ?_
      refine s_iload (i := 48) rfl 5 rfl ?_
      refine s_icmpge (i := 49) rfl (tgt := 100) (by decide) (fun z89 => ?_) (fun z89 => ?_)
      · exact s_sub [1, 2, 3, 6, 0] rfl (b_X8_next_92 X k_61 hk_61 q2.2 l3 l5 l6 l9 q2.1)
      · exact s_sub [1, 2, 3, 4, 5, 6] rfl (b_X8_next_100 X k_61 hk_61 q2.2 l3 l5 l6 l7 l8 l9)
theorem b_X8_next_61 (X : XX) : ∀ (n : Nat) (h : XM) (l3 : Int32) (l5 : Int32) (l6 : Int32) (l7 : Int32) (l8 : Int32) (l9 : Int32), SW X I_X8_next ρi 61 [(3, tI l3), (5, tI l5), (6, tI l6), (7, tI l7), (8, tI l8), (9, tI l9)] [] h 0 0 (f_X8_next_61 n h l3 l5 l6 l7 l8 l9) := by
  intro n
  induction n with
  | zero =>
    intro h l3 l5 l6 l7 l8 l9
    exact s_none
  | succ n ih =>
    intro h l3 l5 l6 l7 l8 l9
    exact bb_X8_next_61 X (f_X8_next_61 n) ih h l3 l5 l6 l7 l8 l9
theorem c_X8_next (h : XM) (a0 : Option Nat) (a1 : Int32) (a2 : Int32) (a3 : Int32) : MC I_X8_next y_X8_next [tA a0, tI a1, tI a2, tI a3] h ρi (f_X8_next h a0 a1 a2 a3) := by
  refine MC_of ⟨by decide +kernel, rfl, rfl, Nat.le_of_ble_eq_true rfl⟩ dT_X8_next (fun X => ?_)
  show SW X I_X8_next ρi 0 [(0, tA a0), (1, tI a1), (2, tI a2), (3, tI a3)] [] h 0 0 (f_X8_next h a0 a1 a2 a3)
  unfold f_X8_next
  refine s_aload_n (i := 0) rfl 0 rfl ?_
  refine s_iload_n (i := 1) rfl 1 rfl ?_
  refine s_iload_n (i := 2) rfl 2 rfl ?_
  refine u_callVi (kk := 8) [tI a1, tI a2] a0 [] rfl (i := 3) rfl (c_X8_refusedStart h a0 a1 a2) xm_X8_refusedStart (tw833) rfl (Nat.le_of_ble_eq_true rfl) (xRm.of rfl) ⟨rfl, rfl⟩ (fun q3 => ?_)
  refine s_istore (i := 4) rfl (Nat.le_of_ble_eq_true rfl) (ls2 := [(4, tI q3.1), (0, tA a0), (1, tI a1), (2, tI a2), (3, tI a3)]) rfl ?_
  refine s_iload (i := 5) rfl 0 rfl ?_
  refine s_ifeq (i := 6) rfl (tgt := 16) (by decide) (fun z10 => ?_) (fun z10 => ?_)
  · refine s_iload_n (i := 9) rfl 4 rfl ?_
    refine s_iflt (i := 10) rfl (tgt := 25) (by decide) (fun z17 => ?_) (fun z17 => ?_)
    · exact s_sub [] rfl (b_X8_next_25 X q3.2)
    · refine s_iload_n (i := 11) rfl 4 rfl ?_
      refine s_iconst (i := 12) rfl (v := (1 : Int32)) (by decide) ?_
      refine s_icmple (i := 13) rfl (tgt := 28) (by decide) (fun z22 => ?_) (fun z22 => ?_)
      · exact s_sub [] rfl (b_X8_next_25 X q3.2)
      · refine s_aload_n (i := 16) rfl 1 rfl ?_
        refine s_getR (i := 17) rfl xf_8_64.r rfl (fun v4 => ?_)
        refine s_iload_n (i := 18) rfl 2 rfl ?_
        refine s_aaload (i := 19) rfl (kk := 14) ⟨by decide, by decide⟩ (fun v5 => ?_)
        refine s_iload_n (i := 20) rfl 3 rfl ?_
        refine u_callVi (kk := 4) [tI a2] v5 [] rfl (i := 21) rfl (c_X4_numbersBy q3.2 v5 a2) xm_X4_numbersBy (tw844) rfl (Nat.le_of_ble_eq_true rfl) (xRm.of rfl) ⟨rfl, rfl⟩ (fun q6 => ?_)
        refine s_istore (i := 22) rfl (Nat.le_of_ble_eq_true rfl) (ls2 := [(5, tI q6.1), (4, tI q3.1), (0, tA a0), (1, tI a1), (2, tI a2), (3, tI a3)]) rfl ?_
        refine s_aload_n (i := 23) rfl 2 rfl ?_
        refine s_getR (i := 24) rfl xf_8_64.r rfl (fun v7 => ?_)
        refine s_iload_n (i := 25) rfl 3 rfl ?_
        refine s_aaload (i := 26) rfl (kk := 14) ⟨by decide, by decide⟩ (fun v8 => ?_)
        refine s_iload_n (i := 27) rfl 4 rfl ?_
        refine u_callVi (kk := 4) [tI a2] v8 [] rfl (i := 28) rfl (c_X4_sumBehind q6.2 v8 a2) xm_X4_sumBehind (tw859) rfl (Nat.le_of_ble_eq_true rfl) (xRm.of rfl) ⟨rfl, rfl⟩ (fun q9 => ?_)
        refine s_istore (i := 29) rfl (Nat.le_of_ble_eq_true rfl) (ls2 := [(6, tI q9.1), (5, tI q6.1), (4, tI q3.1), (0, tA a0), (1, tI a1), (2, tI a2), (3, tI a3)]) rfl ?_
        refine s_iconst (i := 30) rfl (v := (0 : Int32)) (by decide) ?_
        refine s_istore (i := 31) rfl (Nat.le_of_ble_eq_true rfl) (ls2 := [(7, tI ((0 : Int32))), (6, tI q9.1), (5, tI q6.1), (4, tI q3.1), (0, tA a0), (1, tI a1), (2, tI a2), (3, tI a3)]) rfl ?_
        refine s_iconst (i := 32) rfl (v := (0 : Int32)) (by decide) ?_
        refine s_istore (i := 33) rfl (Nat.le_of_ble_eq_true rfl) (ls2 := [(8, tI ((0 : Int32))), (7, tI ((0 : Int32))), (6, tI q9.1), (5, tI q6.1), (4, tI q3.1), (0, tA a0), (1, tI a1), (2, tI a2), (3, tI a3)]) rfl ?_
        refine s_iconst (i := 34) rfl (v := (1 : Int32)) (by decide) ?_
        refine s_istore (i := 35) rfl (Nat.le_of_ble_eq_true rfl) (ls2 := [(9, tI ((1 : Int32))), (8, tI ((0 : Int32))), (7, tI ((0 : Int32))), (6, tI q9.1), (5, tI q6.1), (4, tI q3.1), (0, tA a0), (1, tI a1), (2, tI a2), (3, tI a3)]) rfl ?_
        exact s_sub [9, 4, 3, 2, 1, 0] rfl (b_X8_next_61 X FU q9.2 a3 q6.1 q9.1 ((0 : Int32)) ((0 : Int32)) ((1 : Int32)))
  · refine s_iload (i := 7) rfl 0 rfl ?_
    exact s_iret (i := 8) rfl rfl
def y_X8_firstWrong : MethodName := ⟨"OpensAtNine", "firstWrong", "(LOpensAtNine$Sheet;II)I"⟩
def T_X8_firstWrong : List (Nat × Instr × Nat × Nat) := [(0, .aload_n 0, 1, 1), (1, .getfield 33, 3, 4), (4, .aload_n 0, 1, 5), (5, .getfield 26, 3, 8), (8, .invokevirtual 189, 3, 11), (11, .aload_n 0, 1, 12), (12, .getfield 33, 3, 15), (15, .iload_n 2, 1, 16), (16, .putfield 112, 3, 19), (19, .aload_n 0, 1, 20), (20, .getfield 33, 3, 23), (23, .iload_n 3, 1, 24), (24, .putfield 87, 3, 27), (27, .iconst 0, 1, 28), (28, .istore 4, 2, 30), (30, .iload 4, 2, 32), (32, .aload_n 1, 1, 33), (33, .getfield 260, 3, 36), (36, .iconst 2, 1, 37), (37, .idiv, 1, 38), (38, .if_icmp .ge 71, 3, 41), (41, .aload_n 1, 1, 42), (42, .iconst 2, 1, 43), (43, .iload 4, 2, 45), (45, .imul, 1, 46), (46, .invokevirtual 265, 3, 49), (49, .istore 5, 2, 51), (51, .aload_n 0, 1, 52), (52, .getfield 33, 3, 55), (55, .iload 5, 2, 57), (57, .invokevirtual 165, 3, 60), (60, .ifCond .ne 6, 3, 63), (63, .iload 4, 2, 65), (65, .ireturn, 1, 66), (66, .aload_n 0, 1, 67), (67, .getfield 33, 3, 70), (70, .iload 5, 2, 72), (72, .invokevirtual 168, 3, 75), (75, .ifCond .eq 7, 3, 78), (78, .iconst 1, 1, 79), (79, .goto 4, 3, 82), (82, .iconst 0, 1, 83), (83, .istore 6, 2, 85), (85, .aload_n 1, 1, 86), (86, .iconst 2, 1, 87), (87, .iload 4, 2, 89), (89, .imul, 1, 90), (90, .iconst 1, 1, 91), (91, .iadd, 1, 92), (92, .invokevirtual 265, 3, 95), (95, .iload 6, 2, 97), (97, .if_icmp .eq 6, 3, 100), (100, .iload 4, 2, 102), (102, .ireturn, 1, 103), (103, .iinc 4 1, 3, 106), (106, .goto (-76), 3, 109), (109, .iconst (-1), 1, 110), (110, .ireturn, 1, 111)]
def I_X8_firstWrong : MI := (prog_1_method_35_code, 7, (some .int), "OpensAtNine", "firstWrong", T_X8_firstWrong, 0, 0, 5, 161)
theorem dT_X8_firstWrong : ∀ q ∈ T_X8_firstWrong, decode prog_1_method_35_code q.1 = .ok (q.2.1, q.2.2.1) ∧ q.2.2.2 = q.1 + q.2.2.1 := by decide +kernel
theorem xm_X8_firstWrong : xCM y_X8_firstWrong I_X8_firstWrong 8 3 := ⟨⟨tw874, tw28⟩, tw69, tw875, ⟨xT8, 11, rfl⟩, ⟨by decide +kernel, by decide +kernel, by decide +kernel⟩⟩
noncomputable def f_X8_firstWrong_83 (k_30 : XM → Option Nat → Option Nat → Int32 → Option (Int32 × XM)) (h : XM) (l0 : Option Nat) (l1 : Option Nat) (l4 : Int32) (s0 : Int32) : Option (Int32 × XM) := (vc h 4 l1 (f_X4_at h l1 ((((2 : Int32)) * l4) + ((1 : Int32))))).bind fun q1 => if q1.1 = s0 then (bnd (l4 + (1 : Int32)) fun v2 => k_30 q1.2 l0 l1 v2) else (some (l4, q1.2))
noncomputable def fb_X8_firstWrong_30 (k_30 : XM → Option Nat → Option Nat → Int32 → Option (Int32 × XM)) (h : XM) (l0 : Option Nat) (l1 : Option Nat) (l4 : Int32) : Option (Int32 × XM) := (gI h 4 l1 2).bind fun v3 => (idiv v3 ((2 : Int32))).bind fun v4 => if l4 < v4 then ((vc h 4 l1 (f_X4_at h l1 (((2 : Int32)) * l4))).bind fun q5 => (gR q5.2 8 l0 4).bind fun v6 => (vc q5.2 1 v6 (f_X1_mayPut q5.2 v6 q5.1)).bind fun q7 => if q7.1 = 0 then (some (l4, q7.2)) else ((gR q7.2 8 l0 4).bind fun v8 => (vc q7.2 1 v8 (f_X1_putIn q7.2 v8 q5.1)).bind fun q9 => if q9.1 = 0 then (f_X8_firstWrong_83 k_30 q9.2 l0 l1 l4 ((0 : Int32))) else (f_X8_firstWrong_83 k_30 q9.2 l0 l1 l4 ((1 : Int32))))) else (some ((-1 : Int32), h))
noncomputable def f_X8_firstWrong_30 (n : Nat) : XM → Option Nat → Option Nat → Int32 → Option (Int32 × XM) := Nat.rec (motive := fun _ => XM → Option Nat → Option Nat → Int32 → Option (Int32 × XM)) (fun _ _ _ _ => none) (fun _ ih h l0 l1 l4 => fb_X8_firstWrong_30 ih h l0 l1 l4) n
noncomputable def f_X8_firstWrong (h : XM) (a0 : Option Nat) (a1 : Option Nat) (a2 : Int32) (a3 : Int32) : Option (Int32 × XM) := (gR h 8 a0 4).bind fun v10 => (gR h 8 a0 2).bind fun v11 => (vc h 1 v10 (f_X1_become h v10 v11)).bind fun q12 => (gR q12 8 a0 4).bind fun v13 => (pI q12 1 v13 11 a2).bind fun h14 => (gR h14 8 a0 4).bind fun v15 => (pI h14 1 v15 4 a3).bind fun h16 => f_X8_firstWrong_30 FU h16 a0 a1 ((0 : Int32))
theorem b_X8_firstWrong_83 (X : XX) (k_30 : XM → Option Nat → Option Nat → Int32 → Option (Int32 × XM)) (hk_30 : ∀ h l0 l1 l4, SW X I_X8_firstWrong ρi 30 [(0, tA l0), (1, tA l1), (4, tI l4)] [] h 0 0 (k_30 h l0 l1 l4)) (h : XM) (l0 : Option Nat) (l1 : Option Nat) (l4 : Int32) (s0 : Int32) : SW X I_X8_firstWrong ρi 83 [(0, tA l0), (1, tA l1), (4, tI l4)] [tI s0] h 0 0 (f_X8_firstWrong_83 k_30 h l0 l1 l4 s0) := by
  unfold f_X8_firstWrong_83
  refine s_istore (i := 42) rfl (Nat.le_of_ble_eq_true rfl) (ls2 := [(6, tI s0), (0, tA l0), (1, tA l1), (4, tI l4)]) rfl ?_
  refine s_aload_n (i := 43) rfl 2 rfl ?_
  refine s_iconst (i := 44) rfl (v := (2 : Int32)) (by decide) ?_
  refine s_iload (i := 45) rfl 3 rfl ?_
  refine s_imul (i := 46) rfl ?_
  refine s_iconst (i := 47) rfl (v := (1 : Int32)) (by decide) ?_
  refine s_iadd (i := 48) rfl ?_
  refine u_callVi (kk := 4) [tI ((((2 : Int32)) * l4) + ((1 : Int32)))] l1 [] rfl (i := 49) rfl (c_X4_at h l1 ((((2 : Int32)) * l4) + ((1 : Int32)))) xm_X4_at (tw876) rfl (Nat.le_of_ble_eq_true rfl) (xRm.of rfl) ⟨rfl, rfl⟩ (fun q1 => ?_)
  refine s_iload (i := 50) rfl 0 rfl ?_
  refine s_icmpeq (i := 51) rfl (tgt := 103) (by decide) (fun z97 => ?_) (fun z97 => ?_)
  · refine s_inc (i := 54) rfl 3 rfl (c9 := (1 : Int32)) (by decide) (Nat.le_of_ble_eq_true rfl) (fun v2 => ?_)
    refine s_ls (ls2 := [(4, tI v2), (6, tI s0), (0, tA l0), (1, tA l1)]) rfl ?_
    refine s_goto (i := 55) rfl (tgt := 30) (by decide) ?_
    exact s_sub [2, 3, 0] rfl (hk_30 q1.2 l0 l1 v2)
  · refine s_iload (i := 52) rfl 3 rfl ?_
    exact s_iret (i := 53) rfl rfl
theorem bb_X8_firstWrong_30 (X : XX) (k_30 : XM → Option Nat → Option Nat → Int32 → Option (Int32 × XM)) (hk_30 : ∀ h l0 l1 l4, SW X I_X8_firstWrong ρi 30 [(0, tA l0), (1, tA l1), (4, tI l4)] [] h 0 0 (k_30 h l0 l1 l4)) (h : XM) (l0 : Option Nat) (l1 : Option Nat) (l4 : Int32) : SW X I_X8_firstWrong ρi 30 [(0, tA l0), (1, tA l1), (4, tI l4)] [] h 0 0 (fb_X8_firstWrong_30 k_30 h l0 l1 l4) := by
  unfold fb_X8_firstWrong_30
  refine s_iload (i := 15) rfl 2 rfl ?_
  refine s_aload_n (i := 16) rfl 1 rfl ?_
  refine s_getI (i := 17) rfl xf_8_260.r rfl (fun v3 => ?_)
  refine s_iconst (i := 18) rfl (v := (2 : Int32)) (by decide) ?_
  refine s_idiv (i := 19) rfl (fun v4 => ?_)
  refine s_icmpge (i := 20) rfl (tgt := 109) (by decide) (fun z38 => ?_) (fun z38 => ?_)
  · refine s_aload_n (i := 21) rfl 1 rfl ?_
    refine s_iconst (i := 22) rfl (v := (2 : Int32)) (by decide) ?_
    refine s_iload (i := 23) rfl 2 rfl ?_
    refine s_imul (i := 24) rfl ?_
    refine u_callVi (kk := 4) [tI (((2 : Int32)) * l4)] l1 [] rfl (i := 25) rfl (c_X4_at h l1 (((2 : Int32)) * l4)) xm_X4_at (tw876) rfl (Nat.le_of_ble_eq_true rfl) (xRm.of rfl) ⟨rfl, rfl⟩ (fun q5 => ?_)
    refine s_istore (i := 26) rfl (Nat.le_of_ble_eq_true rfl) (ls2 := [(5, tI q5.1), (0, tA l0), (1, tA l1), (4, tI l4)]) rfl ?_
    refine s_aload_n (i := 27) rfl 1 rfl ?_
    refine s_getR (i := 28) rfl xf_8_33.r rfl (fun v6 => ?_)
    refine s_iload (i := 29) rfl 0 rfl ?_
    refine u_callVi (kk := 1) [tI q5.1] v6 [] rfl (i := 30) rfl (c_X1_mayPut q5.2 v6 q5.1) xm_X1_mayPut (tw632) rfl (Nat.le_of_ble_eq_true rfl) (xRm.of rfl) ⟨rfl, rfl⟩ (fun q7 => ?_)
    refine s_ifne (i := 31) rfl (tgt := 66) (by decide) (fun z60 => ?_) (fun z60 => ?_)
    · refine s_iload (i := 32) rfl 3 rfl ?_
      exact s_iret (i := 33) rfl rfl
    · refine s_aload_n (i := 34) rfl 1 rfl ?_
      refine s_getR (i := 35) rfl xf_8_33.r rfl (fun v8 => ?_)
      refine s_iload (i := 36) rfl 0 rfl ?_
      refine u_callVi (kk := 1) [tI q5.1] v8 [] rfl (i := 37) rfl (c_X1_putIn q7.2 v8 q5.1) xm_X1_putIn (tw640) rfl (Nat.le_of_ble_eq_true rfl) (xRm.of rfl) ⟨rfl, rfl⟩ (fun q9 => ?_)
      refine s_ifeq (i := 38) rfl (tgt := 82) (by decide) (fun z75 => ?_) (fun z75 => ?_)
      · refine s_iconst (i := 41) rfl (v := (0 : Int32)) (by decide) ?_
        exact s_sub [1, 2, 3] rfl (b_X8_firstWrong_83 X k_30 hk_30 q9.2 l0 l1 l4 ((0 : Int32)))
      · refine s_iconst (i := 39) rfl (v := (1 : Int32)) (by decide) ?_
        refine s_goto (i := 40) rfl (tgt := 83) (by decide) ?_
        exact s_sub [1, 2, 3] rfl (b_X8_firstWrong_83 X k_30 hk_30 q9.2 l0 l1 l4 ((1 : Int32)))
  · refine s_iconst (i := 56) rfl (v := (-1 : Int32)) (by decide) ?_
    exact s_iret (i := 57) rfl rfl
theorem b_X8_firstWrong_30 (X : XX) : ∀ (n : Nat) (h : XM) (l0 : Option Nat) (l1 : Option Nat) (l4 : Int32), SW X I_X8_firstWrong ρi 30 [(0, tA l0), (1, tA l1), (4, tI l4)] [] h 0 0 (f_X8_firstWrong_30 n h l0 l1 l4) := by
  intro n
  induction n with
  | zero =>
    intro h l0 l1 l4
    exact s_none
  | succ n ih =>
    intro h l0 l1 l4
    exact bb_X8_firstWrong_30 X (f_X8_firstWrong_30 n) ih h l0 l1 l4
theorem c_X8_firstWrong (h : XM) (a0 : Option Nat) (a1 : Option Nat) (a2 : Int32) (a3 : Int32) : MC I_X8_firstWrong y_X8_firstWrong [tA a0, tA a1, tI a2, tI a3] h ρi (f_X8_firstWrong h a0 a1 a2 a3) := by
  refine MC_of ⟨by decide +kernel, rfl, rfl, Nat.le_of_ble_eq_true rfl⟩ dT_X8_firstWrong (fun X => ?_)
  show SW X I_X8_firstWrong ρi 0 [(0, tA a0), (1, tA a1), (2, tI a2), (3, tI a3)] [] h 0 0 (f_X8_firstWrong h a0 a1 a2 a3)
  unfold f_X8_firstWrong
  refine s_aload_n (i := 0) rfl 0 rfl ?_
  refine s_getR (i := 1) rfl xf_8_33.r rfl (fun v10 => ?_)
  refine s_aload_n (i := 2) rfl 0 rfl ?_
  refine s_getR (i := 3) rfl xf_8_26.r rfl (fun v11 => ?_)
  refine u_callVv (kk := 1) [tA v11] v10 [] rfl (i := 4) rfl (c_X1_become h v10 v11) xm_X1_become (tw728) rfl (Nat.le_of_ble_eq_true rfl) (xRm.of rfl) ⟨rfl, rfl⟩ (fun q12 => ?_)
  refine s_aload_n (i := 5) rfl 0 rfl ?_
  refine s_getR (i := 6) rfl xf_8_33.r rfl (fun v13 => ?_)
  refine s_iload_n (i := 7) rfl 2 rfl ?_
  refine s_putI (i := 8) rfl xf_8_112 (fun q => by cases q) rfl rfl (fun h14 => ?_)
  refine s_aload_n (i := 9) rfl 0 rfl ?_
  refine s_getR (i := 10) rfl xf_8_33.r rfl (fun v15 => ?_)
  refine s_iload_n (i := 11) rfl 3 rfl ?_
  refine s_putI (i := 12) rfl xf_8_87 (fun q => by cases q) rfl rfl (fun h16 => ?_)
  refine s_iconst (i := 13) rfl (v := (0 : Int32)) (by decide) ?_
  refine s_istore (i := 14) rfl (Nat.le_of_ble_eq_true rfl) (ls2 := [(4, tI ((0 : Int32))), (0, tA a0), (1, tA a1), (2, tI a2), (3, tI a3)]) rfl ?_
  exact s_sub [1, 2, 0] rfl (b_X8_firstWrong_30 X FU h16 a0 a1 ((0 : Int32)))
def y_X8_judge : MethodName := ⟨"OpensAtNine", "judge", "(I)I"⟩
def T_X8_judge : List (Nat × Instr × Nat × Nat) := [(0, .aload_n 0, 1, 1), (1, .iload_n 1, 1, 2), (2, .invokevirtual 251, 3, 5), (5, .istore_n 2, 1, 6), (6, .iload_n 2, 1, 7), (7, .ifCond .eq 7, 3, 10), (10, .iload_n 2, 1, 11), (11, .goto 27, 3, 14), (14, .aload_n 0, 1, 15), (15, .aload_n 0, 1, 16), (16, .getfield 64, 3, 19), (19, .iload_n 1, 1, 20), (20, .aaload, 1, 21), (21, .aload_n 0, 1, 22), (22, .getfield 26, 3, 25), (25, .getfield 112, 3, 28), (28, .aload_n 0, 1, 29), (29, .getfield 26, 3, 32), (32, .getfield 87, 3, 35), (35, .invokevirtual 261, 3, 38), (38, .ireturn, 1, 39)]
def I_X8_judge : MI := (prog_1_method_32_code, 3, (some .int), "OpensAtNine", "judge", T_X8_judge, 0, 0, 6, 187)
theorem dT_X8_judge : ∀ q ∈ T_X8_judge, decode prog_1_method_32_code q.1 = .ok (q.2.1, q.2.2.1) ∧ q.2.2.2 = q.1 + q.2.2.1 := by decide +kernel
theorem xm_X8_judge : xCM y_X8_judge I_X8_judge 8 1 := ⟨⟨tw869, tw870⟩, tw69, tw871, ⟨xT8, 11, rfl⟩, ⟨by decide +kernel, by decide +kernel, by decide +kernel⟩⟩
noncomputable def f_X8_judge_38 (h : XM) (s0 : Int32) : Option (Int32 × XM) := some (s0, h)
noncomputable def f_X8_judge (h : XM) (a0 : Option Nat) (a1 : Int32) : Option (Int32 × XM) := (vc h 8 a0 (f_X8_refusedRows h a0 a1)).bind fun q1 => if q1.1 = 0 then ((gR q1.2 8 a0 8).bind fun v2 => (rR 14 q1.2 v2 a1).bind fun v3 => (gR q1.2 8 a0 2).bind fun v4 => (gI q1.2 1 v4 11).bind fun v5 => (gR q1.2 8 a0 2).bind fun v6 => (gI q1.2 1 v6 4).bind fun v7 => (vc q1.2 8 a0 (f_X8_firstWrong q1.2 a0 v3 v5 v7)).bind fun q8 => f_X8_judge_38 q8.2 q8.1) else (f_X8_judge_38 q1.2 q1.1)
theorem b_X8_judge_38 (X : XX) (h : XM) (s0 : Int32) : SW X I_X8_judge ρi 38 [] [tI s0] h 0 0 (f_X8_judge_38 h s0) := by
  unfold f_X8_judge_38
  exact s_iret (i := 20) rfl rfl
theorem c_X8_judge (h : XM) (a0 : Option Nat) (a1 : Int32) : MC I_X8_judge y_X8_judge [tA a0, tI a1] h ρi (f_X8_judge h a0 a1) := by
  refine MC_of ⟨by decide +kernel, rfl, rfl, Nat.le_of_ble_eq_true rfl⟩ dT_X8_judge (fun X => ?_)
  show SW X I_X8_judge ρi 0 [(0, tA a0), (1, tI a1)] [] h 0 0 (f_X8_judge h a0 a1)
  unfold f_X8_judge
  refine s_aload_n (i := 0) rfl 0 rfl ?_
  refine s_iload_n (i := 1) rfl 1 rfl ?_
  refine u_callVi (kk := 8) [tI a1] a0 [] rfl (i := 2) rfl (c_X8_refusedRows h a0 a1) xm_X8_refusedRows (tw837) rfl (Nat.le_of_ble_eq_true rfl) (xRm.of rfl) ⟨rfl, rfl⟩ (fun q1 => ?_)
  refine s_istore_n (i := 3) rfl (Nat.le_of_ble_eq_true rfl) (ls2 := [(2, tI q1.1), (0, tA a0), (1, tI a1)]) rfl ?_
  refine s_iload_n (i := 4) rfl 0 rfl ?_
  refine s_ifeq (i := 5) rfl (tgt := 14) (by decide) (fun z7 => ?_) (fun z7 => ?_)
  · refine s_aload_n (i := 8) rfl 1 rfl ?_
    refine s_aload_n (i := 9) rfl 1 rfl ?_
    refine s_getR (i := 10) rfl xf_8_64.r rfl (fun v2 => ?_)
    refine s_iload_n (i := 11) rfl 2 rfl ?_
    refine s_aaload (i := 12) rfl (kk := 14) ⟨by decide, by decide⟩ (fun v3 => ?_)
    refine s_aload_n (i := 13) rfl 1 rfl ?_
    refine s_getR (i := 14) rfl xf_8_26.r rfl (fun v4 => ?_)
    refine s_getI (i := 15) rfl xf_8_112.r rfl (fun v5 => ?_)
    refine s_aload_n (i := 16) rfl 1 rfl ?_
    refine s_getR (i := 17) rfl xf_8_26.r rfl (fun v6 => ?_)
    refine s_getI (i := 18) rfl xf_8_87.r rfl (fun v7 => ?_)
    refine u_callVi (kk := 8) [tA v3, tI v5, tI v7] a0 [] rfl (i := 19) rfl (c_X8_firstWrong q1.2 a0 v3 v5 v7) xm_X8_firstWrong (tw872) rfl (Nat.le_of_ble_eq_true rfl) (xRm.of rfl) ⟨rfl, rfl⟩ (fun q8 => ?_)
    exact s_sub [] rfl (b_X8_judge_38 X q8.2 q8.1)
  · refine s_iload_n (i := 6) rfl 0 rfl ?_
    refine s_goto (i := 7) rfl (tgt := 38) (by decide) ?_
    exact s_sub [] rfl (b_X8_judge_38 X q1.2 q1.1)
def y_X8_laws : MethodName := ⟨"OpensAtNine", "laws", "(I)I"⟩
def T_X8_laws : List (Nat × Instr × Nat × Nat) := [(0, .aload_n 0, 1, 1), (1, .iload_n 1, 1, 2), (2, .invokevirtual 251, 3, 5), (5, .istore_n 2, 1, 6), (6, .iload_n 2, 1, 7), (7, .ifCond .eq 5, 3, 10), (10, .iload_n 2, 1, 11), (11, .ireturn, 1, 12), (12, .iconst 0, 1, 13), (13, .istore_n 3, 1, 14), (14, .iconst 0, 1, 15), (15, .istore 4, 2, 17), (17, .iload 4, 2, 19), (19, .aload_n 0, 1, 20), (20, .getfield 79, 3, 23), (23, .if_icmp .ge 39, 3, 26), (26, .aload_n 0, 1, 27), (27, .aload_n 0, 1, 28), (28, .getfield 64, 3, 31), (31, .iload_n 1, 1, 32), (32, .aaload, 1, 33), (33, .iload 4, 2, 35), (35, .aload_n 0, 1, 36), (36, .getfield 26, 3, 39), (39, .getfield 87, 3, 42), (42, .invokevirtual 261, 3, 45), (45, .iconst (-1), 1, 46), (46, .if_icmp .ne 10, 3, 49), (49, .iload_n 3, 1, 50), (50, .iconst 1, 1, 51), (51, .iload 4, 2, 53), (53, .ishl, 1, 54), (54, .ior, 1, 55), (55, .istore_n 3, 1, 56), (56, .iinc 4 1, 3, 59), (59, .goto (-42), 3, 62), (62, .iload_n 3, 1, 63), (63, .ireturn, 1, 64)]
def I_X8_laws : MI := (prog_1_method_33_code, 5, (some .int), "OpensAtNine", "laws", T_X8_laws, 0, 0, 6, 187)
theorem dT_X8_laws : ∀ q ∈ T_X8_laws, decode prog_1_method_33_code q.1 = .ok (q.2.1, q.2.2.1) ∧ q.2.2.2 = q.1 + q.2.2.1 := by decide +kernel
theorem xm_X8_laws : xCM y_X8_laws I_X8_laws 8 1 := ⟨⟨tw881, tw882⟩, tw69, tw883, ⟨xT8, 11, rfl⟩, ⟨by decide +kernel, by decide +kernel, by decide +kernel⟩⟩
noncomputable def f_X8_laws_56 (k_17 : XM → Option Nat → Int32 → Int32 → Int32 → Option (Int32 × XM)) (h : XM) (l0 : Option Nat) (l1 : Int32) (l3 : Int32) (l4 : Int32) : Option (Int32 × XM) := bnd (l4 + (1 : Int32)) fun v1 => k_17 h l0 l1 l3 v1
noncomputable def fb_X8_laws_17 (k_17 : XM → Option Nat → Int32 → Int32 → Int32 → Option (Int32 × XM)) (h : XM) (l0 : Option Nat) (l1 : Int32) (l3 : Int32) (l4 : Int32) : Option (Int32 × XM) := (gI h 8 l0 9).bind fun v2 => if l4 < v2 then ((gR h 8 l0 8).bind fun v3 => (rR 14 h v3 l1).bind fun v4 => (gR h 8 l0 2).bind fun v5 => (gI h 1 v5 4).bind fun v6 => (vc h 8 l0 (f_X8_firstWrong h l0 v4 l4 v6)).bind fun q7 => if q7.1 = ((-1 : Int32)) then (bnd (l3 ||| (((1 : Int32)) <<< (l4 &&& 31))) fun v8 => f_X8_laws_56 k_17 q7.2 l0 l1 v8 l4) else (f_X8_laws_56 k_17 q7.2 l0 l1 l3 l4)) else (some (l3, h))
noncomputable def f_X8_laws_17 (n : Nat) : XM → Option Nat → Int32 → Int32 → Int32 → Option (Int32 × XM) := Nat.rec (motive := fun _ => XM → Option Nat → Int32 → Int32 → Int32 → Option (Int32 × XM)) (fun _ _ _ _ _ => none) (fun _ ih h l0 l1 l3 l4 => fb_X8_laws_17 ih h l0 l1 l3 l4) n
noncomputable def f_X8_laws (h : XM) (a0 : Option Nat) (a1 : Int32) : Option (Int32 × XM) := (vc h 8 a0 (f_X8_refusedRows h a0 a1)).bind fun q9 => if q9.1 = 0 then (f_X8_laws_17 FU q9.2 a0 a1 ((0 : Int32)) ((0 : Int32))) else (some (q9.1, q9.2))
theorem b_X8_laws_56 (X : XX) (k_17 : XM → Option Nat → Int32 → Int32 → Int32 → Option (Int32 × XM)) (hk_17 : ∀ h l0 l1 l3 l4, SW X I_X8_laws ρi 17 [(0, tA l0), (1, tI l1), (3, tI l3), (4, tI l4)] [] h 0 0 (k_17 h l0 l1 l3 l4)) (h : XM) (l0 : Option Nat) (l1 : Int32) (l3 : Int32) (l4 : Int32) : SW X I_X8_laws ρi 56 [(0, tA l0), (1, tI l1), (3, tI l3), (4, tI l4)] [] h 0 0 (f_X8_laws_56 k_17 h l0 l1 l3 l4) := by
  unfold f_X8_laws_56
  refine s_inc (i := 34) rfl 3 rfl (c9 := (1 : Int32)) (by decide) (Nat.le_of_ble_eq_true rfl) (fun v1 => ?_)
  refine s_ls (ls2 := [(4, tI v1), (0, tA l0), (1, tI l1), (3, tI l3)]) rfl ?_
  refine s_goto (i := 35) rfl (tgt := 17) (by decide) ?_
  exact s_sub [1, 2, 3, 0] rfl (hk_17 h l0 l1 l3 v1)
theorem bb_X8_laws_17 (X : XX) (k_17 : XM → Option Nat → Int32 → Int32 → Int32 → Option (Int32 × XM)) (hk_17 : ∀ h l0 l1 l3 l4, SW X I_X8_laws ρi 17 [(0, tA l0), (1, tI l1), (3, tI l3), (4, tI l4)] [] h 0 0 (k_17 h l0 l1 l3 l4)) (h : XM) (l0 : Option Nat) (l1 : Int32) (l3 : Int32) (l4 : Int32) : SW X I_X8_laws ρi 17 [(0, tA l0), (1, tI l1), (3, tI l3), (4, tI l4)] [] h 0 0 (fb_X8_laws_17 k_17 h l0 l1 l3 l4) := by
  unfold fb_X8_laws_17
  refine s_iload (i := 12) rfl 3 rfl ?_
  refine s_aload_n (i := 13) rfl 0 rfl ?_
  refine s_getI (i := 14) rfl xf_8_79.r rfl (fun v2 => ?_)
  refine s_icmpge (i := 15) rfl (tgt := 62) (by decide) (fun z23 => ?_) (fun z23 => ?_)
  · refine s_aload_n (i := 16) rfl 0 rfl ?_
    refine s_aload_n (i := 17) rfl 0 rfl ?_
    refine s_getR (i := 18) rfl xf_8_64.r rfl (fun v3 => ?_)
    refine s_iload_n (i := 19) rfl 1 rfl ?_
    refine s_aaload (i := 20) rfl (kk := 14) ⟨by decide, by decide⟩ (fun v4 => ?_)
    refine s_iload (i := 21) rfl 3 rfl ?_
    refine s_aload_n (i := 22) rfl 0 rfl ?_
    refine s_getR (i := 23) rfl xf_8_26.r rfl (fun v5 => ?_)
    refine s_getI (i := 24) rfl xf_8_87.r rfl (fun v6 => ?_)
    refine u_callVi (kk := 8) [tA v4, tI l4, tI v6] l0 [] rfl (i := 25) rfl (c_X8_firstWrong h l0 v4 l4 v6) xm_X8_firstWrong (tw872) rfl (Nat.le_of_ble_eq_true rfl) (xRm.of rfl) ⟨rfl, rfl⟩ (fun q7 => ?_)
    refine s_iconst (i := 26) rfl (v := (-1 : Int32)) (by decide) ?_
    refine s_icmpne (i := 27) rfl (tgt := 56) (by decide) (fun z46 => ?_) (fun z46 => ?_)
    · refine s_iload_n (i := 28) rfl 2 rfl ?_
      refine s_iconst (i := 29) rfl (v := (1 : Int32)) (by decide) ?_
      refine s_iload (i := 30) rfl 3 rfl ?_
      refine s_ishl (i := 31) rfl ?_
      refine s_ior (i := 32) rfl ?_
      refine s_bnd (fun v8 => ?_)
      refine s_istore_n (i := 33) rfl (Nat.le_of_ble_eq_true rfl) (ls2 := [(3, tI v8), (0, tA l0), (1, tI l1), (4, tI l4)]) rfl ?_
      exact s_sub [1, 2, 0, 3] rfl (b_X8_laws_56 X k_17 hk_17 q7.2 l0 l1 v8 l4)
    · exact s_sub [0, 1, 2, 3] rfl (b_X8_laws_56 X k_17 hk_17 q7.2 l0 l1 l3 l4)
  · refine s_iload_n (i := 36) rfl 2 rfl ?_
    exact s_iret (i := 37) rfl rfl
theorem b_X8_laws_17 (X : XX) : ∀ (n : Nat) (h : XM) (l0 : Option Nat) (l1 : Int32) (l3 : Int32) (l4 : Int32), SW X I_X8_laws ρi 17 [(0, tA l0), (1, tI l1), (3, tI l3), (4, tI l4)] [] h 0 0 (f_X8_laws_17 n h l0 l1 l3 l4) := by
  intro n
  induction n with
  | zero =>
    intro h l0 l1 l3 l4
    exact s_none
  | succ n ih =>
    intro h l0 l1 l3 l4
    exact bb_X8_laws_17 X (f_X8_laws_17 n) ih h l0 l1 l3 l4
theorem c_X8_laws (h : XM) (a0 : Option Nat) (a1 : Int32) : MC I_X8_laws y_X8_laws [tA a0, tI a1] h ρi (f_X8_laws h a0 a1) := by
  refine MC_of ⟨by decide +kernel, rfl, rfl, Nat.le_of_ble_eq_true rfl⟩ dT_X8_laws (fun X => ?_)
  show SW X I_X8_laws ρi 0 [(0, tA a0), (1, tI a1)] [] h 0 0 (f_X8_laws h a0 a1)
  unfold f_X8_laws
  refine s_aload_n (i := 0) rfl 0 rfl ?_
  refine s_iload_n (i := 1) rfl 1 rfl ?_
  refine u_callVi (kk := 8) [tI a1] a0 [] rfl (i := 2) rfl (c_X8_refusedRows h a0 a1) xm_X8_refusedRows (tw837) rfl (Nat.le_of_ble_eq_true rfl) (xRm.of rfl) ⟨rfl, rfl⟩ (fun q9 => ?_)
  refine s_istore_n (i := 3) rfl (Nat.le_of_ble_eq_true rfl) (ls2 := [(2, tI q9.1), (0, tA a0), (1, tI a1)]) rfl ?_
  refine s_iload_n (i := 4) rfl 0 rfl ?_
  refine s_ifeq (i := 5) rfl (tgt := 12) (by decide) (fun z7 => ?_) (fun z7 => ?_)
  · refine s_iconst (i := 8) rfl (v := (0 : Int32)) (by decide) ?_
    refine s_istore_n (i := 9) rfl (Nat.le_of_ble_eq_true rfl) (ls2 := [(3, tI ((0 : Int32))), (2, tI q9.1), (0, tA a0), (1, tI a1)]) rfl ?_
    refine s_iconst (i := 10) rfl (v := (0 : Int32)) (by decide) ?_
    refine s_istore (i := 11) rfl (Nat.le_of_ble_eq_true rfl) (ls2 := [(4, tI ((0 : Int32))), (3, tI ((0 : Int32))), (2, tI q9.1), (0, tA a0), (1, tI a1)]) rfl ?_
    exact s_sub [3, 4, 1, 0] rfl (b_X8_laws_17 X FU q9.2 a0 a1 ((0 : Int32)) ((0 : Int32)))
  · refine s_iload_n (i := 6) rfl 0 rfl ?_
    exact s_iret (i := 7) rfl rfl
def y_X8_numbers : MethodName := ⟨"OpensAtNine", "numbers", "(I)I"⟩
def T_X8_numbers : List (Nat × Instr × Nat × Nat) := [(0, .aload_n 0, 1, 1), (1, .iload_n 1, 1, 2), (2, .invokevirtual 251, 3, 5), (5, .istore_n 2, 1, 6), (6, .iload_n 2, 1, 7), (7, .ifCond .eq 5, 3, 10), (10, .iload_n 2, 1, 11), (11, .ireturn, 1, 12), (12, .iconst 0, 1, 13), (13, .istore_n 3, 1, 14), (14, .iconst 2, 1, 15), (15, .istore 4, 2, 17), (17, .iload 4, 2, 19), (19, .bipush 20, 2, 21), (21, .if_icmp .gt 39, 3, 24), (24, .aload_n 0, 1, 25), (25, .aload_n 0, 1, 26), (26, .getfield 64, 3, 29), (29, .iload_n 1, 1, 30), (30, .aaload, 1, 31), (31, .aload_n 0, 1, 32), (32, .getfield 26, 3, 35), (35, .getfield 112, 3, 38), (38, .iload 4, 2, 40), (40, .invokevirtual 261, 3, 43), (43, .iconst (-1), 1, 44), (44, .if_icmp .ne 10, 3, 47), (47, .iload_n 3, 1, 48), (48, .iconst 1, 1, 49), (49, .iload 4, 2, 51), (51, .ishl, 1, 52), (52, .ior, 1, 53), (53, .istore_n 3, 1, 54), (54, .iinc 4 1, 3, 57), (57, .goto (-40), 3, 60), (60, .iload_n 3, 1, 61), (61, .ireturn, 1, 62)]
def I_X8_numbers : MI := (prog_1_method_34_code, 5, (some .int), "OpensAtNine", "numbers", T_X8_numbers, 0, 0, 6, 187)
theorem dT_X8_numbers : ∀ q ∈ T_X8_numbers, decode prog_1_method_34_code q.1 = .ok (q.2.1, q.2.2.1) ∧ q.2.2.2 = q.1 + q.2.2.1 := by decide +kernel
theorem xm_X8_numbers : xCM y_X8_numbers I_X8_numbers 8 1 := ⟨⟨tw885, tw886⟩, tw69, tw887, ⟨xT8, 11, rfl⟩, ⟨by decide +kernel, by decide +kernel, by decide +kernel⟩⟩
noncomputable def f_X8_numbers_54 (k_17 : XM → Option Nat → Int32 → Int32 → Int32 → Option (Int32 × XM)) (h : XM) (l0 : Option Nat) (l1 : Int32) (l3 : Int32) (l4 : Int32) : Option (Int32 × XM) := bnd (l4 + (1 : Int32)) fun v1 => k_17 h l0 l1 l3 v1
noncomputable def fb_X8_numbers_17 (k_17 : XM → Option Nat → Int32 → Int32 → Int32 → Option (Int32 × XM)) (h : XM) (l0 : Option Nat) (l1 : Int32) (l3 : Int32) (l4 : Int32) : Option (Int32 × XM) := if ((20 : Int32)) < l4 then (some (l3, h)) else ((gR h 8 l0 8).bind fun v2 => (rR 14 h v2 l1).bind fun v3 => (gR h 8 l0 2).bind fun v4 => (gI h 1 v4 11).bind fun v5 => (vc h 8 l0 (f_X8_firstWrong h l0 v3 v5 l4)).bind fun q6 => if q6.1 = ((-1 : Int32)) then (bnd (l3 ||| (((1 : Int32)) <<< (l4 &&& 31))) fun v7 => f_X8_numbers_54 k_17 q6.2 l0 l1 v7 l4) else (f_X8_numbers_54 k_17 q6.2 l0 l1 l3 l4))
noncomputable def f_X8_numbers_17 (n : Nat) : XM → Option Nat → Int32 → Int32 → Int32 → Option (Int32 × XM) := Nat.rec (motive := fun _ => XM → Option Nat → Int32 → Int32 → Int32 → Option (Int32 × XM)) (fun _ _ _ _ _ => none) (fun _ ih h l0 l1 l3 l4 => fb_X8_numbers_17 ih h l0 l1 l3 l4) n
noncomputable def f_X8_numbers (h : XM) (a0 : Option Nat) (a1 : Int32) : Option (Int32 × XM) := (vc h 8 a0 (f_X8_refusedRows h a0 a1)).bind fun q8 => if q8.1 = 0 then (f_X8_numbers_17 FU q8.2 a0 a1 ((0 : Int32)) ((2 : Int32))) else (some (q8.1, q8.2))
theorem b_X8_numbers_54 (X : XX) (k_17 : XM → Option Nat → Int32 → Int32 → Int32 → Option (Int32 × XM)) (hk_17 : ∀ h l0 l1 l3 l4, SW X I_X8_numbers ρi 17 [(0, tA l0), (1, tI l1), (3, tI l3), (4, tI l4)] [] h 0 0 (k_17 h l0 l1 l3 l4)) (h : XM) (l0 : Option Nat) (l1 : Int32) (l3 : Int32) (l4 : Int32) : SW X I_X8_numbers ρi 54 [(0, tA l0), (1, tI l1), (3, tI l3), (4, tI l4)] [] h 0 0 (f_X8_numbers_54 k_17 h l0 l1 l3 l4) := by
  unfold f_X8_numbers_54
  refine s_inc (i := 33) rfl 3 rfl (c9 := (1 : Int32)) (by decide) (Nat.le_of_ble_eq_true rfl) (fun v1 => ?_)
  refine s_ls (ls2 := [(4, tI v1), (0, tA l0), (1, tI l1), (3, tI l3)]) rfl ?_
  refine s_goto (i := 34) rfl (tgt := 17) (by decide) ?_
  exact s_sub [1, 2, 3, 0] rfl (hk_17 h l0 l1 l3 v1)
theorem bb_X8_numbers_17 (X : XX) (k_17 : XM → Option Nat → Int32 → Int32 → Int32 → Option (Int32 × XM)) (hk_17 : ∀ h l0 l1 l3 l4, SW X I_X8_numbers ρi 17 [(0, tA l0), (1, tI l1), (3, tI l3), (4, tI l4)] [] h 0 0 (k_17 h l0 l1 l3 l4)) (h : XM) (l0 : Option Nat) (l1 : Int32) (l3 : Int32) (l4 : Int32) : SW X I_X8_numbers ρi 17 [(0, tA l0), (1, tI l1), (3, tI l3), (4, tI l4)] [] h 0 0 (fb_X8_numbers_17 k_17 h l0 l1 l3 l4) := by
  unfold fb_X8_numbers_17
  refine s_iload (i := 12) rfl 3 rfl ?_
  refine s_bipush (i := 13) rfl (v := (20 : Int32)) (by decide) ?_
  refine s_icmpgt (i := 14) rfl (tgt := 60) (by decide) (fun z21 => ?_) (fun z21 => ?_)
  · refine s_iload_n (i := 35) rfl 2 rfl ?_
    exact s_iret (i := 36) rfl rfl
  · refine s_aload_n (i := 15) rfl 0 rfl ?_
    refine s_aload_n (i := 16) rfl 0 rfl ?_
    refine s_getR (i := 17) rfl xf_8_64.r rfl (fun v2 => ?_)
    refine s_iload_n (i := 18) rfl 1 rfl ?_
    refine s_aaload (i := 19) rfl (kk := 14) ⟨by decide, by decide⟩ (fun v3 => ?_)
    refine s_aload_n (i := 20) rfl 0 rfl ?_
    refine s_getR (i := 21) rfl xf_8_26.r rfl (fun v4 => ?_)
    refine s_getI (i := 22) rfl xf_8_112.r rfl (fun v5 => ?_)
    refine s_iload (i := 23) rfl 3 rfl ?_
    refine u_callVi (kk := 8) [tA v3, tI v5, tI l4] l0 [] rfl (i := 24) rfl (c_X8_firstWrong h l0 v3 v5 l4) xm_X8_firstWrong (tw872) rfl (Nat.le_of_ble_eq_true rfl) (xRm.of rfl) ⟨rfl, rfl⟩ (fun q6 => ?_)
    refine s_iconst (i := 25) rfl (v := (-1 : Int32)) (by decide) ?_
    refine s_icmpne (i := 26) rfl (tgt := 54) (by decide) (fun z44 => ?_) (fun z44 => ?_)
    · refine s_iload_n (i := 27) rfl 2 rfl ?_
      refine s_iconst (i := 28) rfl (v := (1 : Int32)) (by decide) ?_
      refine s_iload (i := 29) rfl 3 rfl ?_
      refine s_ishl (i := 30) rfl ?_
      refine s_ior (i := 31) rfl ?_
      refine s_bnd (fun v7 => ?_)
      refine s_istore_n (i := 32) rfl (Nat.le_of_ble_eq_true rfl) (ls2 := [(3, tI v7), (0, tA l0), (1, tI l1), (4, tI l4)]) rfl ?_
      exact s_sub [1, 2, 0, 3] rfl (b_X8_numbers_54 X k_17 hk_17 q6.2 l0 l1 v7 l4)
    · exact s_sub [0, 1, 2, 3] rfl (b_X8_numbers_54 X k_17 hk_17 q6.2 l0 l1 l3 l4)
theorem b_X8_numbers_17 (X : XX) : ∀ (n : Nat) (h : XM) (l0 : Option Nat) (l1 : Int32) (l3 : Int32) (l4 : Int32), SW X I_X8_numbers ρi 17 [(0, tA l0), (1, tI l1), (3, tI l3), (4, tI l4)] [] h 0 0 (f_X8_numbers_17 n h l0 l1 l3 l4) := by
  intro n
  induction n with
  | zero =>
    intro h l0 l1 l3 l4
    exact s_none
  | succ n ih =>
    intro h l0 l1 l3 l4
    exact bb_X8_numbers_17 X (f_X8_numbers_17 n) ih h l0 l1 l3 l4
theorem c_X8_numbers (h : XM) (a0 : Option Nat) (a1 : Int32) : MC I_X8_numbers y_X8_numbers [tA a0, tI a1] h ρi (f_X8_numbers h a0 a1) := by
  refine MC_of ⟨by decide +kernel, rfl, rfl, Nat.le_of_ble_eq_true rfl⟩ dT_X8_numbers (fun X => ?_)
  show SW X I_X8_numbers ρi 0 [(0, tA a0), (1, tI a1)] [] h 0 0 (f_X8_numbers h a0 a1)
  unfold f_X8_numbers
  refine s_aload_n (i := 0) rfl 0 rfl ?_
  refine s_iload_n (i := 1) rfl 1 rfl ?_
  refine u_callVi (kk := 8) [tI a1] a0 [] rfl (i := 2) rfl (c_X8_refusedRows h a0 a1) xm_X8_refusedRows (tw837) rfl (Nat.le_of_ble_eq_true rfl) (xRm.of rfl) ⟨rfl, rfl⟩ (fun q8 => ?_)
  refine s_istore_n (i := 3) rfl (Nat.le_of_ble_eq_true rfl) (ls2 := [(2, tI q8.1), (0, tA a0), (1, tI a1)]) rfl ?_
  refine s_iload_n (i := 4) rfl 0 rfl ?_
  refine s_ifeq (i := 5) rfl (tgt := 12) (by decide) (fun z7 => ?_) (fun z7 => ?_)
  · refine s_iconst (i := 8) rfl (v := (0 : Int32)) (by decide) ?_
    refine s_istore_n (i := 9) rfl (Nat.le_of_ble_eq_true rfl) (ls2 := [(3, tI ((0 : Int32))), (2, tI q8.1), (0, tA a0), (1, tI a1)]) rfl ?_
    refine s_iconst (i := 10) rfl (v := (2 : Int32)) (by decide) ?_
    refine s_istore (i := 11) rfl (Nat.le_of_ble_eq_true rfl) (ls2 := [(4, tI ((2 : Int32))), (3, tI ((0 : Int32))), (2, tI q8.1), (0, tA a0), (1, tI a1)]) rfl ?_
    exact s_sub [3, 4, 1, 0] rfl (b_X8_numbers_17 X FU q8.2 a0 a1 ((0 : Int32)) ((2 : Int32)))
  · refine s_iload_n (i := 6) rfl 0 rfl ?_
    exact s_iret (i := 7) rfl rfl
def y_X8_film : MethodName := ⟨"OpensAtNine", "film", "(I)I"⟩
def T_X8_film : List (Nat × Instr × Nat × Nat) := [(0, .iload_n 1, 1, 1), (1, .invokestatic 254, 3, 4), (4, .ifCond .ne 6, 3, 7), (7, .bipush (-2), 2, 9), (9, .ireturn, 1, 10), (10, .aload_n 0, 1, 11), (11, .getfield 64, 3, 14), (14, .iload_n 1, 1, 15), (15, .aaload, 1, 16), (16, .astore_n 2, 1, 17), (17, .aload_n 2, 1, 18), (18, .iconst 2, 1, 19), (19, .bipush 14, 2, 21), (21, .invokevirtual 268, 3, 24), (24, .aload_n 0, 1, 25), (25, .getfield 33, 3, 28), (28, .aload_n 0, 1, 29), (29, .getfield 26, 3, 32), (32, .invokevirtual 189, 3, 35), (35, .iconst 0, 1, 36), (36, .istore_n 3, 1, 37), (37, .iconst 0, 1, 38), (38, .istore 4, 2, 40), (40, .iload 4, 2, 42), (42, .bipush 7, 2, 44), (44, .if_icmp .ge 62, 3, 47), (47, .aload_n 0, 1, 48), (48, .getfield 33, 3, 51), (51, .iload 4, 2, 53), (53, .invokevirtual 165, 3, 56), (56, .ifCond .ne 6, 3, 59), (59, .goto 41, 3, 62), (62, .aload_n 2, 1, 63), (63, .iconst 2, 1, 64), (64, .iload_n 3, 1, 65), (65, .imul, 1, 66), (66, .iload 4, 2, 68), (68, .invokevirtual 270, 3, 71), (71, .aload_n 2, 1, 72), (72, .iconst 2, 1, 73), (73, .iload_n 3, 1, 74), (74, .imul, 1, 75), (75, .iconst 1, 1, 76), (76, .iadd, 1, 77), (77, .aload_n 0, 1, 78), (78, .getfield 33, 3, 81), (81, .iload 4, 2, 83), (83, .invokevirtual 168, 3, 86), (86, .ifCond .eq 7, 3, 89), (89, .iconst 1, 1, 90), (90, .goto 4, 3, 93), (93, .iconst 0, 1, 94), (94, .invokevirtual 270, 3, 97), (97, .iinc 3 1, 3, 100), (100, .iinc 4 1, 3, 103), (103, .goto (-63), 3, 106), (106, .aload_n 2, 1, 107), (107, .iconst 2, 1, 108), (108, .iload_n 3, 1, 109), (109, .imul, 1, 110), (110, .putfield 260, 3, 113), (113, .iload_n 3, 1, 114), (114, .ireturn, 1, 115)]
def I_X8_film : MI := (prog_1_method_36_code, 5, (some .int), "OpensAtNine", "film", T_X8_film, 0, 0, 5, 161)
theorem dT_X8_film : ∀ q ∈ T_X8_film, decode prog_1_method_36_code q.1 = .ok (q.2.1, q.2.2.1) ∧ q.2.2.2 = q.1 + q.2.2.1 := by decide +kernel
theorem xm_X8_film : xCM y_X8_film I_X8_film 8 1 := ⟨⟨tw889, tw890⟩, tw69, tw891, ⟨xT8, 11, rfl⟩, ⟨by decide +kernel, by decide +kernel, by decide +kernel⟩⟩
noncomputable def f_X8_film_100 (k_40 : XM → Option Nat → Option Nat → Int32 → Int32 → Option (Int32 × XM)) (h : XM) (l0 : Option Nat) (l2 : Option Nat) (l3 : Int32) (l4 : Int32) : Option (Int32 × XM) := bnd (l4 + (1 : Int32)) fun v1 => k_40 h l0 l2 l3 v1
noncomputable def f_X8_film_94 (k_40 : XM → Option Nat → Option Nat → Int32 → Int32 → Option (Int32 × XM)) (h : XM) (l0 : Option Nat) (l2 : Option Nat) (l3 : Int32) (l4 : Int32) (s0 : Int32) (s1 : Int32) (s2 : Option Nat) : Option (Int32 × XM) := (vc h 4 s2 (f_X4_write h s2 s1 s0)).bind fun q2 => bnd (l3 + (1 : Int32)) fun v3 => f_X8_film_100 k_40 q2 l0 l2 v3 l4
noncomputable def fb_X8_film_40 (k_40 : XM → Option Nat → Option Nat → Int32 → Int32 → Option (Int32 × XM)) (h : XM) (l0 : Option Nat) (l2 : Option Nat) (l3 : Int32) (l4 : Int32) : Option (Int32 × XM) := if l4 < ((7 : Int32)) then ((gR h 8 l0 4).bind fun v4 => (vc h 1 v4 (f_X1_mayPut h v4 l4)).bind fun q5 => if q5.1 = 0 then (f_X8_film_100 k_40 q5.2 l0 l2 l3 l4) else ((vc q5.2 4 l2 (f_X4_write q5.2 l2 (((2 : Int32)) * l3) l4)).bind fun q6 => (gR q6 8 l0 4).bind fun v7 => (vc q6 1 v7 (f_X1_putIn q6 v7 l4)).bind fun q8 => if q8.1 = 0 then (f_X8_film_94 k_40 q8.2 l0 l2 l3 l4 ((0 : Int32)) ((((2 : Int32)) * l3) + ((1 : Int32))) l2) else (f_X8_film_94 k_40 q8.2 l0 l2 l3 l4 ((1 : Int32)) ((((2 : Int32)) * l3) + ((1 : Int32))) l2))) else ((pI h 4 l2 2 (((2 : Int32)) * l3)).bind fun h9 => some (l3, h9))
noncomputable def f_X8_film_40 (n : Nat) : XM → Option Nat → Option Nat → Int32 → Int32 → Option (Int32 × XM) := Nat.rec (motive := fun _ => XM → Option Nat → Option Nat → Int32 → Int32 → Option (Int32 × XM)) (fun _ _ _ _ _ => none) (fun _ ih h l0 l2 l3 l4 => fb_X8_film_40 ih h l0 l2 l3 l4) n
noncomputable def f_X8_film (h : XM) (a0 : Option Nat) (a1 : Int32) : Option (Int32 × XM) := (f_X8_isSheet h a1).bind fun q10 => if q10.1 = 0 then (some ((-2 : Int32), q10.2)) else ((gR q10.2 8 a0 8).bind fun v11 => (rR 14 q10.2 v11 a1).bind fun v12 => (vc q10.2 4 v12 (f_X4_become q10.2 v12 ((2 : Int32)) ((14 : Int32)))).bind fun q13 => (gR q13 8 a0 4).bind fun v14 => (gR q13 8 a0 2).bind fun v15 => (vc q13 1 v14 (f_X1_become q13 v14 v15)).bind fun q16 => f_X8_film_40 FU q16 a0 v12 ((0 : Int32)) ((0 : Int32)))
theorem b_X8_film_100 (X : XX) (k_40 : XM → Option Nat → Option Nat → Int32 → Int32 → Option (Int32 × XM)) (hk_40 : ∀ h l0 l2 l3 l4, SW X I_X8_film ρi 40 [(0, tA l0), (2, tA l2), (3, tI l3), (4, tI l4)] [] h 0 0 (k_40 h l0 l2 l3 l4)) (h : XM) (l0 : Option Nat) (l2 : Option Nat) (l3 : Int32) (l4 : Int32) : SW X I_X8_film ρi 100 [(0, tA l0), (2, tA l2), (3, tI l3), (4, tI l4)] [] h 0 0 (f_X8_film_100 k_40 h l0 l2 l3 l4) := by
  unfold f_X8_film_100
  refine s_inc (i := 54) rfl 3 rfl (c9 := (1 : Int32)) (by decide) (Nat.le_of_ble_eq_true rfl) (fun v1 => ?_)
  refine s_ls (ls2 := [(4, tI v1), (0, tA l0), (2, tA l2), (3, tI l3)]) rfl ?_
  refine s_goto (i := 55) rfl (tgt := 40) (by decide) ?_
  exact s_sub [1, 2, 3, 0] rfl (hk_40 h l0 l2 l3 v1)
theorem b_X8_film_94 (X : XX) (k_40 : XM → Option Nat → Option Nat → Int32 → Int32 → Option (Int32 × XM)) (hk_40 : ∀ h l0 l2 l3 l4, SW X I_X8_film ρi 40 [(0, tA l0), (2, tA l2), (3, tI l3), (4, tI l4)] [] h 0 0 (k_40 h l0 l2 l3 l4)) (h : XM) (l0 : Option Nat) (l2 : Option Nat) (l3 : Int32) (l4 : Int32) (s0 : Int32) (s1 : Int32) (s2 : Option Nat) : SW X I_X8_film ρi 94 [(0, tA l0), (2, tA l2), (3, tI l3), (4, tI l4)] [tI s0, tI s1, tA s2] h 0 0 (f_X8_film_94 k_40 h l0 l2 l3 l4 s0 s1 s2) := by
  unfold f_X8_film_94
  refine u_callVv (kk := 4) [tI s1, tI s0] s2 [] rfl (i := 52) rfl (c_X4_write h s2 s1 s0) xm_X4_write (tw899) rfl (Nat.le_of_ble_eq_true rfl) (xRm.of rfl) ⟨rfl, rfl⟩ (fun q2 => ?_)
  refine s_inc (i := 53) rfl 2 rfl (c9 := (1 : Int32)) (by decide) (Nat.le_of_ble_eq_true rfl) (fun v3 => ?_)
  refine s_ls (ls2 := [(3, tI v3), (0, tA l0), (2, tA l2), (4, tI l4)]) rfl ?_
  exact s_sub [1, 2, 0, 3] rfl (b_X8_film_100 X k_40 hk_40 q2 l0 l2 v3 l4)
theorem bb_X8_film_40 (X : XX) (k_40 : XM → Option Nat → Option Nat → Int32 → Int32 → Option (Int32 × XM)) (hk_40 : ∀ h l0 l2 l3 l4, SW X I_X8_film ρi 40 [(0, tA l0), (2, tA l2), (3, tI l3), (4, tI l4)] [] h 0 0 (k_40 h l0 l2 l3 l4)) (h : XM) (l0 : Option Nat) (l2 : Option Nat) (l3 : Int32) (l4 : Int32) : SW X I_X8_film ρi 40 [(0, tA l0), (2, tA l2), (3, tI l3), (4, tI l4)] [] h 0 0 (fb_X8_film_40 k_40 h l0 l2 l3 l4) := by
  unfold fb_X8_film_40
  refine s_iload (i := 23) rfl 3 rfl ?_
  refine s_bipush (i := 24) rfl (v := (7 : Int32)) (by decide) ?_
  refine s_icmpge (i := 25) rfl (tgt := 106) (by decide) (fun z44 => ?_) (fun z44 => ?_)
  · refine s_aload_n (i := 26) rfl 0 rfl ?_
    refine s_getR (i := 27) rfl xf_8_33.r rfl (fun v4 => ?_)
    refine s_iload (i := 28) rfl 3 rfl ?_
    refine u_callVi (kk := 1) [tI l4] v4 [] rfl (i := 29) rfl (c_X1_mayPut h v4 l4) xm_X1_mayPut (tw632) rfl (Nat.le_of_ble_eq_true rfl) (xRm.of rfl) ⟨rfl, rfl⟩ (fun q5 => ?_)
    refine s_ifne (i := 30) rfl (tgt := 62) (by decide) (fun z56 => ?_) (fun z56 => ?_)
    · refine s_goto (i := 31) rfl (tgt := 100) (by decide) ?_
      exact s_sub [0, 1, 2, 3] rfl (b_X8_film_100 X k_40 hk_40 q5.2 l0 l2 l3 l4)
    · refine s_aload_n (i := 32) rfl 1 rfl ?_
      refine s_iconst (i := 33) rfl (v := (2 : Int32)) (by decide) ?_
      refine s_iload_n (i := 34) rfl 2 rfl ?_
      refine s_imul (i := 35) rfl ?_
      refine s_iload (i := 36) rfl 3 rfl ?_
      refine u_callVv (kk := 4) [tI (((2 : Int32)) * l3), tI l4] l2 [] rfl (i := 37) rfl (c_X4_write q5.2 l2 (((2 : Int32)) * l3) l4) xm_X4_write (tw899) rfl (Nat.le_of_ble_eq_true rfl) (xRm.of rfl) ⟨rfl, rfl⟩ (fun q6 => ?_)
      refine s_aload_n (i := 38) rfl 1 rfl ?_
      refine s_iconst (i := 39) rfl (v := (2 : Int32)) (by decide) ?_
      refine s_iload_n (i := 40) rfl 2 rfl ?_
      refine s_imul (i := 41) rfl ?_
      refine s_iconst (i := 42) rfl (v := (1 : Int32)) (by decide) ?_
      refine s_iadd (i := 43) rfl ?_
      refine s_aload_n (i := 44) rfl 0 rfl ?_
      refine s_getR (i := 45) rfl xf_8_33.r rfl (fun v7 => ?_)
      refine s_iload (i := 46) rfl 3 rfl ?_
      refine u_callVi (kk := 1) [tI l4] v7 [tI ((((2 : Int32)) * l3) + ((1 : Int32))), tA l2] rfl (i := 47) rfl (c_X1_putIn q6 v7 l4) xm_X1_putIn (tw640) rfl (Nat.le_of_ble_eq_true rfl) (xRm.of rfl) ⟨rfl, rfl⟩ (fun q8 => ?_)
      refine s_ifeq (i := 48) rfl (tgt := 93) (by decide) (fun z86 => ?_) (fun z86 => ?_)
      · refine s_iconst (i := 51) rfl (v := (0 : Int32)) (by decide) ?_
        exact s_sub [0, 1, 2, 3] rfl (b_X8_film_94 X k_40 hk_40 q8.2 l0 l2 l3 l4 ((0 : Int32)) ((((2 : Int32)) * l3) + ((1 : Int32))) l2)
      · refine s_iconst (i := 49) rfl (v := (1 : Int32)) (by decide) ?_
        refine s_goto (i := 50) rfl (tgt := 94) (by decide) ?_
        exact s_sub [0, 1, 2, 3] rfl (b_X8_film_94 X k_40 hk_40 q8.2 l0 l2 l3 l4 ((1 : Int32)) ((((2 : Int32)) * l3) + ((1 : Int32))) l2)
  · refine s_aload_n (i := 56) rfl 1 rfl ?_
    refine s_iconst (i := 57) rfl (v := (2 : Int32)) (by decide) ?_
    refine s_iload_n (i := 58) rfl 2 rfl ?_
    refine s_imul (i := 59) rfl ?_
    refine s_putI (i := 60) rfl xf_8_260 (fun q => by cases q) rfl rfl (fun h9 => ?_)
    refine s_iload_n (i := 61) rfl 2 rfl ?_
    exact s_iret (i := 62) rfl rfl
theorem b_X8_film_40 (X : XX) : ∀ (n : Nat) (h : XM) (l0 : Option Nat) (l2 : Option Nat) (l3 : Int32) (l4 : Int32), SW X I_X8_film ρi 40 [(0, tA l0), (2, tA l2), (3, tI l3), (4, tI l4)] [] h 0 0 (f_X8_film_40 n h l0 l2 l3 l4) := by
  intro n
  induction n with
  | zero =>
    intro h l0 l2 l3 l4
    exact s_none
  | succ n ih =>
    intro h l0 l2 l3 l4
    exact bb_X8_film_40 X (f_X8_film_40 n) ih h l0 l2 l3 l4
theorem c_X8_film (h : XM) (a0 : Option Nat) (a1 : Int32) : MC I_X8_film y_X8_film [tA a0, tI a1] h ρi (f_X8_film h a0 a1) := by
  refine MC_of ⟨by decide +kernel, rfl, rfl, Nat.le_of_ble_eq_true rfl⟩ dT_X8_film (fun X => ?_)
  show SW X I_X8_film ρi 0 [(0, tA a0), (1, tI a1)] [] h 0 0 (f_X8_film h a0 a1)
  unfold f_X8_film
  refine s_iload_n (i := 0) rfl 1 rfl ?_
  refine u_callSi [tI a1] [] rfl (i := 1) rfl (c_X8_isSheet h a1) xm_X8_isSheet (tw841) rfl (Nat.le_of_ble_eq_true rfl) (xRm.of rfl) ⟨rfl, rfl⟩ (fun q10 => ?_)
  refine s_ifne (i := 2) rfl (tgt := 10) (by decide) (fun z4 => ?_) (fun z4 => ?_)
  · refine s_bipush (i := 3) rfl (v := (-2 : Int32)) (by decide) ?_
    exact s_iret (i := 4) rfl rfl
  · refine s_aload_n (i := 5) rfl 0 rfl ?_
    refine s_getR (i := 6) rfl xf_8_64.r rfl (fun v11 => ?_)
    refine s_iload_n (i := 7) rfl 1 rfl ?_
    refine s_aaload (i := 8) rfl (kk := 14) ⟨by decide, by decide⟩ (fun v12 => ?_)
    refine s_astore_n (i := 9) rfl (Nat.le_of_ble_eq_true rfl) (ls2 := [(2, tA v12), (0, tA a0), (1, tI a1)]) rfl ?_
    refine s_aload_n (i := 10) rfl 0 rfl ?_
    refine s_iconst (i := 11) rfl (v := (2 : Int32)) (by decide) ?_
    refine s_bipush (i := 12) rfl (v := (14 : Int32)) (by decide) ?_
    refine u_callVv (kk := 4) [tI ((2 : Int32)), tI ((14 : Int32))] v12 [] rfl (i := 13) rfl (c_X4_become q10.2 v12 ((2 : Int32)) ((14 : Int32))) xm_X4_become (tw892) rfl (Nat.le_of_ble_eq_true rfl) (xRm.of rfl) ⟨rfl, rfl⟩ (fun q13 => ?_)
    refine s_aload_n (i := 14) rfl 1 rfl ?_
    refine s_getR (i := 15) rfl xf_8_33.r rfl (fun v14 => ?_)
    refine s_aload_n (i := 16) rfl 1 rfl ?_
    refine s_getR (i := 17) rfl xf_8_26.r rfl (fun v15 => ?_)
    refine u_callVv (kk := 1) [tA v15] v14 [] rfl (i := 18) rfl (c_X1_become q13 v14 v15) xm_X1_become (tw728) rfl (Nat.le_of_ble_eq_true rfl) (xRm.of rfl) ⟨rfl, rfl⟩ (fun q16 => ?_)
    refine s_iconst (i := 19) rfl (v := (0 : Int32)) (by decide) ?_
    refine s_istore_n (i := 20) rfl (Nat.le_of_ble_eq_true rfl) (ls2 := [(3, tI ((0 : Int32))), (2, tA v12), (0, tA a0), (1, tI a1)]) rfl ?_
    refine s_iconst (i := 21) rfl (v := (0 : Int32)) (by decide) ?_
    refine s_istore (i := 22) rfl (Nat.le_of_ble_eq_true rfl) (ls2 := [(4, tI ((0 : Int32))), (3, tI ((0 : Int32))), (2, tA v12), (0, tA a0), (1, tI a1)]) rfl ?_
    exact s_sub [3, 2, 1, 0] rfl (b_X8_film_40 X FU q16 a0 v12 ((0 : Int32)) ((0 : Int32)))
def y_X8_insideBy : MethodName := ⟨"OpensAtNine", "insideBy", "(I)I"⟩
def T_X8_insideBy : List (Nat × Instr × Nat × Nat) := [(0, .aload_n 0, 1, 1), (1, .getfield 33, 3, 4), (4, .aload_n 0, 1, 5), (5, .getfield 26, 3, 8), (8, .invokevirtual 189, 3, 11), (11, .iload_n 1, 1, 12), (12, .i2l, 1, 13), (13, .lconst 1, 1, 14), (14, .ladd, 1, 15), (15, .lstore_n 2, 1, 16), (16, .iconst 0, 1, 17), (17, .istore 4, 2, 19), (19, .iload 4, 2, 21), (21, .bipush 14, 2, 23), (23, .if_icmp .ge 64, 3, 26), (26, .aload_n 0, 1, 27), (27, .getfield 33, 3, 30), (30, .getfield 109, 3, 33), (33, .ifCond .le 54, 3, 36), (36, .lload_n 2, 1, 37), (37, .ldc2_w 281, 3, 40), (40, .lmul, 1, 41), (41, .ldc2_w 283, 3, 44), (44, .lrem, 1, 45), (45, .lstore_n 2, 1, 46), (46, .lload_n 2, 1, 47), (47, .aload_n 0, 1, 48), (48, .getfield 33, 3, 51), (51, .getfield 109, 3, 54), (54, .i2l, 1, 55), (55, .lrem, 1, 56), (56, .l2i, 1, 57), (57, .istore 5, 2, 59), (59, .aload_n 0, 1, 60), (60, .getfield 33, 3, 63), (63, .iload 5, 2, 65), (65, .invokevirtual 165, 3, 68), (68, .ifCond .eq 13, 3, 71), (71, .aload_n 0, 1, 72), (72, .getfield 33, 3, 75), (75, .iload 5, 2, 77), (77, .invokevirtual 168, 3, 80), (80, .pop, 1, 81), (81, .iinc 4 1, 3, 84), (84, .goto (-65), 3, 87), (87, .aload_n 0, 1, 88), (88, .getfield 33, 3, 91), (91, .getfield 106, 3, 94), (94, .invokestatic 225, 3, 97), (97, .ireturn, 1, 98)]
def I_X8_insideBy : MI := (prog_1_method_40_code, 6, (some .int), "OpensAtNine", "insideBy", T_X8_insideBy, 0, 0, 5, 161)
theorem dT_X8_insideBy : ∀ q ∈ T_X8_insideBy, decode prog_1_method_40_code q.1 = .ok (q.2.1, q.2.2.1) ∧ q.2.2.2 = q.1 + q.2.2.1 := by decide +kernel
theorem xm_X8_insideBy : xCM y_X8_insideBy I_X8_insideBy 8 1 := ⟨⟨tw910, tw29⟩, tw69, tw911, ⟨xT8, 11, rfl⟩, ⟨by decide +kernel, by decide +kernel, by decide +kernel⟩⟩
noncomputable def f_X8_insideBy_81 (k_19 : XM → Option Nat → Int64 → Int32 → Option (Int32 × XM)) (h : XM) (l0 : Option Nat) (l2 : Int64) (l4 : Int32) : Option (Int32 × XM) := bnd (l4 + (1 : Int32)) fun v1 => k_19 h l0 l2 v1
noncomputable def f_X8_insideBy_87 (h : XM) (l0 : Option Nat) : Option (Int32 × XM) := (gR h 8 l0 4).bind fun v2 => (gI h 1 v2 8).bind fun v3 => (f_J6_bitCount h v3).bind fun q4 => some (q4.1, q4.2)
noncomputable def fb_X8_insideBy_19 (k_19 : XM → Option Nat → Int64 → Int32 → Option (Int32 × XM)) (h : XM) (l0 : Option Nat) (l2 : Int64) (l4 : Int32) : Option (Int32 × XM) := if l4 < ((14 : Int32)) then ((gR h 8 l0 4).bind fun v5 => (gI h 1 v5 9).bind fun v6 => if 0 < v6 then ((lrem (l2 * ((48271 : Int64))) ((2147483647 : Int64))).bind fun v7 => (gR h 8 l0 4).bind fun v8 => (gI h 1 v8 9).bind fun v9 => (lrem v7 v9.toInt64).bind fun v10 => (gR h 8 l0 4).bind fun v11 => (vc h 1 v11 (f_X1_mayPut h v11 v10.toInt32)).bind fun q12 => if q12.1 = 0 then (f_X8_insideBy_81 k_19 q12.2 l0 v7 l4) else ((gR q12.2 8 l0 4).bind fun v13 => (vc q12.2 1 v13 (f_X1_putIn q12.2 v13 v10.toInt32)).bind fun q14 => f_X8_insideBy_81 k_19 q14.2 l0 v7 l4)) else (f_X8_insideBy_87 h l0)) else (f_X8_insideBy_87 h l0)
noncomputable def f_X8_insideBy_19 (n : Nat) : XM → Option Nat → Int64 → Int32 → Option (Int32 × XM) := Nat.rec (motive := fun _ => XM → Option Nat → Int64 → Int32 → Option (Int32 × XM)) (fun _ _ _ _ => none) (fun _ ih h l0 l2 l4 => fb_X8_insideBy_19 ih h l0 l2 l4) n
noncomputable def f_X8_insideBy (h : XM) (a0 : Option Nat) (a1 : Int32) : Option (Int32 × XM) := (gR h 8 a0 4).bind fun v15 => (gR h 8 a0 2).bind fun v16 => (vc h 1 v15 (f_X1_become h v15 v16)).bind fun q17 => bnd (a1.toInt64 + ((1 : Int64))) fun v18 => f_X8_insideBy_19 FU q17 a0 v18 ((0 : Int32))
theorem b_X8_insideBy_81 (X : XX) (k_19 : XM → Option Nat → Int64 → Int32 → Option (Int32 × XM)) (hk_19 : ∀ h l0 l2 l4, SW X I_X8_insideBy ρi 19 [(0, tA l0), (2, tL l2), (4, tI l4)] [] h 0 0 (k_19 h l0 l2 l4)) (h : XM) (l0 : Option Nat) (l2 : Int64) (l4 : Int32) : SW X I_X8_insideBy ρi 81 [(0, tA l0), (2, tL l2), (4, tI l4)] [] h 0 0 (f_X8_insideBy_81 k_19 h l0 l2 l4) := by
  unfold f_X8_insideBy_81
  refine s_inc (i := 43) rfl 2 rfl (c9 := (1 : Int32)) (by decide) (Nat.le_of_ble_eq_true rfl) (fun v1 => ?_)
  refine s_ls (ls2 := [(4, tI v1), (0, tA l0), (2, tL l2)]) rfl ?_
  refine s_goto (i := 44) rfl (tgt := 19) (by decide) ?_
  exact s_sub [1, 2, 0] rfl (hk_19 h l0 l2 v1)
theorem b_X8_insideBy_87 (X : XX) (h : XM) (l0 : Option Nat) : SW X I_X8_insideBy ρi 87 [(0, tA l0)] [] h 0 0 (f_X8_insideBy_87 h l0) := by
  unfold f_X8_insideBy_87
  refine s_aload_n (i := 45) rfl 0 rfl ?_
  refine s_getR (i := 46) rfl xf_8_33.r rfl (fun v2 => ?_)
  refine s_getI (i := 47) rfl xf_8_106.r rfl (fun v3 => ?_)
  refine u_callSi [tI v3] [] rfl (i := 48) rfl (c_J6_bitCount h v3) xm_J6_bitCount (tw828) rfl (Nat.le_of_ble_eq_true rfl) (xRm.of rfl) ⟨rfl, rfl⟩ (fun q4 => ?_)
  exact s_iret (i := 49) rfl rfl
theorem bb_X8_insideBy_19 (X : XX) (k_19 : XM → Option Nat → Int64 → Int32 → Option (Int32 × XM)) (hk_19 : ∀ h l0 l2 l4, SW X I_X8_insideBy ρi 19 [(0, tA l0), (2, tL l2), (4, tI l4)] [] h 0 0 (k_19 h l0 l2 l4)) (h : XM) (l0 : Option Nat) (l2 : Int64) (l4 : Int32) : SW X I_X8_insideBy ρi 19 [(0, tA l0), (2, tL l2), (4, tI l4)] [] h 0 0 (fb_X8_insideBy_19 k_19 h l0 l2 l4) := by
  unfold fb_X8_insideBy_19
  refine s_iload (i := 12) rfl 2 rfl ?_
  refine s_bipush (i := 13) rfl (v := (14 : Int32)) (by decide) ?_
  refine s_icmpge (i := 14) rfl (tgt := 87) (by decide) (fun z23 => ?_) (fun z23 => ?_)
  · refine s_aload_n (i := 15) rfl 0 rfl ?_
    refine s_getR (i := 16) rfl xf_8_33.r rfl (fun v5 => ?_)
    refine s_getI (i := 17) rfl xf_8_109.r rfl (fun v6 => ?_)
    refine s_ifle (i := 18) rfl (tgt := 87) (by decide) (fun z33 => ?_) (fun z33 => ?_)
    · refine s_lload_n (i := 19) rfl 1 rfl ?_
      refine s_ldc2 (i := 20) rfl (v := (48271 : Int64)) (tw912) ?_
      refine s_lmul (i := 21) rfl ?_
      refine s_ldc2 (i := 22) rfl (v := (2147483647 : Int64)) (tw913) ?_
      refine s_lrem (i := 23) rfl (fun v7 => ?_)
      refine s_lstore_n (i := 24) rfl (Nat.le_of_ble_eq_true rfl) (ls2 := [(2, tL v7), (0, tA l0), (4, tI l4)]) rfl ?_
      refine s_lload_n (i := 25) rfl 0 rfl ?_
      refine s_aload_n (i := 26) rfl 1 rfl ?_
      refine s_getR (i := 27) rfl xf_8_33.r rfl (fun v8 => ?_)
      refine s_getI (i := 28) rfl xf_8_109.r rfl (fun v9 => ?_)
      refine s_i2l (i := 29) rfl ?_
      refine s_lrem (i := 30) rfl (fun v10 => ?_)
      refine s_l2i (i := 31) rfl ?_
      refine s_istore (i := 32) rfl (Nat.le_of_ble_eq_true rfl) (ls2 := [(5, tI v10.toInt32), (2, tL v7), (0, tA l0), (4, tI l4)]) rfl ?_
      refine s_aload_n (i := 33) rfl 2 rfl ?_
      refine s_getR (i := 34) rfl xf_8_33.r rfl (fun v11 => ?_)
      refine s_iload (i := 35) rfl 0 rfl ?_
      refine u_callVi (kk := 1) [tI v10.toInt32] v11 [] rfl (i := 36) rfl (c_X1_mayPut h v11 v10.toInt32) xm_X1_mayPut (tw632) rfl (Nat.le_of_ble_eq_true rfl) (xRm.of rfl) ⟨rfl, rfl⟩ (fun q12 => ?_)
      refine s_ifeq (i := 37) rfl (tgt := 81) (by decide) (fun z68 => ?_) (fun z68 => ?_)
      · exact s_sub [2, 1, 3] rfl (b_X8_insideBy_81 X k_19 hk_19 q12.2 l0 v7 l4)
      · refine s_aload_n (i := 38) rfl 2 rfl ?_
        refine s_getR (i := 39) rfl xf_8_33.r rfl (fun v13 => ?_)
        refine s_iload (i := 40) rfl 0 rfl ?_
        refine u_callVi (kk := 1) [tI v10.toInt32] v13 [] rfl (i := 41) rfl (c_X1_putIn q12.2 v13 v10.toInt32) xm_X1_putIn (tw640) rfl (Nat.le_of_ble_eq_true rfl) (xRm.of rfl) ⟨rfl, rfl⟩ (fun q14 => ?_)
        refine s_pop (i := 42) rfl rfl ?_
        exact s_sub [2, 1, 3] rfl (b_X8_insideBy_81 X k_19 hk_19 q14.2 l0 v7 l4)
    · exact s_sub [0] rfl (b_X8_insideBy_87 X h l0)
  · exact s_sub [0] rfl (b_X8_insideBy_87 X h l0)
theorem b_X8_insideBy_19 (X : XX) : ∀ (n : Nat) (h : XM) (l0 : Option Nat) (l2 : Int64) (l4 : Int32), SW X I_X8_insideBy ρi 19 [(0, tA l0), (2, tL l2), (4, tI l4)] [] h 0 0 (f_X8_insideBy_19 n h l0 l2 l4) := by
  intro n
  induction n with
  | zero =>
    intro h l0 l2 l4
    exact s_none
  | succ n ih =>
    intro h l0 l2 l4
    exact bb_X8_insideBy_19 X (f_X8_insideBy_19 n) ih h l0 l2 l4
theorem c_X8_insideBy (h : XM) (a0 : Option Nat) (a1 : Int32) : MC I_X8_insideBy y_X8_insideBy [tA a0, tI a1] h ρi (f_X8_insideBy h a0 a1) := by
  refine MC_of ⟨by decide +kernel, rfl, rfl, Nat.le_of_ble_eq_true rfl⟩ dT_X8_insideBy (fun X => ?_)
  show SW X I_X8_insideBy ρi 0 [(0, tA a0), (1, tI a1)] [] h 0 0 (f_X8_insideBy h a0 a1)
  unfold f_X8_insideBy
  refine s_aload_n (i := 0) rfl 0 rfl ?_
  refine s_getR (i := 1) rfl xf_8_33.r rfl (fun v15 => ?_)
  refine s_aload_n (i := 2) rfl 0 rfl ?_
  refine s_getR (i := 3) rfl xf_8_26.r rfl (fun v16 => ?_)
  refine u_callVv (kk := 1) [tA v16] v15 [] rfl (i := 4) rfl (c_X1_become h v15 v16) xm_X1_become (tw728) rfl (Nat.le_of_ble_eq_true rfl) (xRm.of rfl) ⟨rfl, rfl⟩ (fun q17 => ?_)
  refine s_iload_n (i := 5) rfl 1 rfl ?_
  refine s_i2l (i := 6) rfl ?_
  refine s_lconst (i := 7) rfl (v := (1 : Int64)) (by decide) ?_
  refine s_ladd (i := 8) rfl ?_
  refine s_bndL (fun v18 => ?_)
  refine s_lstore_n (i := 9) rfl (Nat.le_of_ble_eq_true rfl) (ls2 := [(2, tL v18), (0, tA a0), (1, tI a1)]) rfl ?_
  refine s_iconst (i := 10) rfl (v := (0 : Int32)) (by decide) ?_
  refine s_istore (i := 11) rfl (Nat.le_of_ble_eq_true rfl) (ls2 := [(4, tI ((0 : Int32))), (2, tL v18), (0, tA a0), (1, tI a1)]) rfl ?_
  exact s_sub [2, 1, 0] rfl (b_X8_insideBy_19 X FU q17 a0 v18 ((0 : Int32)))
def y_X8_drawn : MethodName := ⟨"OpensAtNine", "drawn", "(I)I"⟩
def T_X8_drawn : List (Nat × Instr × Nat × Nat) := [(0, .iload_n 1, 1, 1), (1, .ifCond .lt 10, 3, 4), (4, .iload_n 1, 1, 5), (5, .ldc_w 272, 3, 8), (8, .if_icmp .le 8, 3, 11), (11, .bipush (-2), 2, 13), (13, .goto 8, 3, 16), (16, .aload_n 0, 1, 17), (17, .iload_n 1, 1, 18), (18, .invokevirtual 273, 3, 21), (21, .ireturn, 1, 22)]
def I_X8_drawn : MI := (prog_1_method_37_code, 2, (some .int), "OpensAtNine", "drawn", T_X8_drawn, 0, 0, 6, 186)
theorem dT_X8_drawn : ∀ q ∈ T_X8_drawn, decode prog_1_method_37_code q.1 = .ok (q.2.1, q.2.2.1) ∧ q.2.2.2 = q.1 + q.2.2.1 := by decide +kernel
theorem xm_X8_drawn : xCM y_X8_drawn I_X8_drawn 8 1 := ⟨⟨tw904, tw905⟩, tw69, tw906, ⟨xT8, 11, rfl⟩, ⟨by decide +kernel, by decide +kernel, by decide +kernel⟩⟩
noncomputable def f_X8_drawn_21 (h : XM) (s0 : Int32) : Option (Int32 × XM) := some (s0, h)
noncomputable def f_X8_drawn_11 (h : XM) : Option (Int32 × XM) := f_X8_drawn_21 h ((-2 : Int32))
noncomputable def f_X8_drawn (h : XM) (a0 : Option Nat) (a1 : Int32) : Option (Int32 × XM) := if a1 < 0 then (f_X8_drawn_11 h) else (if ((99999 : Int32)) < a1 then (f_X8_drawn_11 h) else ((vc h 8 a0 (f_X8_insideBy h a0 a1)).bind fun q1 => f_X8_drawn_21 q1.2 q1.1))
theorem b_X8_drawn_21 (X : XX) (h : XM) (s0 : Int32) : SW X I_X8_drawn ρi 21 [] [tI s0] h 0 0 (f_X8_drawn_21 h s0) := by
  unfold f_X8_drawn_21
  exact s_iret (i := 10) rfl rfl
theorem b_X8_drawn_11 (X : XX) (h : XM) : SW X I_X8_drawn ρi 11 [] [] h 0 0 (f_X8_drawn_11 h) := by
  unfold f_X8_drawn_11
  refine s_bipush (i := 5) rfl (v := (-2 : Int32)) (by decide) ?_
  refine s_goto (i := 6) rfl (tgt := 21) (by decide) ?_
  exact s_sub [] rfl (b_X8_drawn_21 X h ((-2 : Int32)))
theorem c_X8_drawn (h : XM) (a0 : Option Nat) (a1 : Int32) : MC I_X8_drawn y_X8_drawn [tA a0, tI a1] h ρi (f_X8_drawn h a0 a1) := by
  refine MC_of ⟨by decide +kernel, rfl, rfl, Nat.le_of_ble_eq_true rfl⟩ dT_X8_drawn (fun X => ?_)
  show SW X I_X8_drawn ρi 0 [(0, tA a0), (1, tI a1)] [] h 0 0 (f_X8_drawn h a0 a1)
  unfold f_X8_drawn
  refine s_iload_n (i := 0) rfl 1 rfl ?_
  refine s_iflt (i := 1) rfl (tgt := 11) (by decide) (fun z1 => ?_) (fun z1 => ?_)
  · exact s_sub [] rfl (b_X8_drawn_11 X h)
  · refine s_iload_n (i := 2) rfl 1 rfl ?_
    refine s_ldcw (i := 3) rfl (v := (99999 : Int32)) (tw907) ?_
    refine s_icmple (i := 4) rfl (tgt := 16) (by decide) (fun z8 => ?_) (fun z8 => ?_)
    · exact s_sub [] rfl (b_X8_drawn_11 X h)
    · refine s_aload_n (i := 7) rfl 0 rfl ?_
      refine s_iload_n (i := 8) rfl 1 rfl ?_
      refine u_callVi (kk := 8) [tI a1] a0 [] rfl (i := 9) rfl (c_X8_insideBy h a0 a1) xm_X8_insideBy (tw908) rfl (Nat.le_of_ble_eq_true rfl) (xRm.of rfl) ⟨rfl, rfl⟩ (fun q1 => ?_)
      exact s_sub [] rfl (b_X8_drawn_21 X q1.2 q1.1)
def y_X8_commonDivisor : MethodName := ⟨"OpensAtNine", "commonDivisor", "(II)I"⟩
def T_X8_commonDivisor : List (Nat × Instr × Nat × Nat) := [(0, .iload_n 1, 1, 1), (1, .istore_n 2, 1, 2), (2, .iload_n 2, 1, 3), (3, .iconst 1, 1, 4), (4, .if_icmp .le 23, 3, 7), (7, .iload_n 0, 1, 8), (8, .iload_n 2, 1, 9), (9, .irem, 1, 10), (10, .ifCond .ne 11, 3, 13), (13, .iload_n 1, 1, 14), (14, .iload_n 2, 1, 15), (15, .irem, 1, 16), (16, .ifCond .ne 5, 3, 19), (19, .iload_n 2, 1, 20), (20, .ireturn, 1, 21), (21, .iinc 2 (-1), 3, 24), (24, .goto (-22), 3, 27), (27, .iconst 1, 1, 28), (28, .ireturn, 1, 29)]
def I_X8_commonDivisor : MI := (prog_1_method_39_code, 3, (some .int), "OpensAtNine", "commonDivisor", T_X8_commonDivisor, 0, 0, 1, 60)
theorem dT_X8_commonDivisor : ∀ q ∈ T_X8_commonDivisor, decode prog_1_method_39_code q.1 = .ok (q.2.1, q.2.2.1) ∧ q.2.2.2 = q.1 + q.2.2.1 := by decide +kernel
theorem xm_X8_commonDivisor : xCS y_X8_commonDivisor I_X8_commonDivisor 2 := ⟨tw920, tw69, tw921, ⟨by decide +kernel, by decide +kernel, by decide +kernel⟩⟩
noncomputable def f_X8_commonDivisor_21 (k_2 : XM → Int32 → Int32 → Int32 → Option (Int32 × XM)) (h : XM) (l0 : Int32) (l1 : Int32) (l2 : Int32) : Option (Int32 × XM) := bnd (l2 + (-1 : Int32)) fun v1 => k_2 h l0 l1 v1
noncomputable def fb_X8_commonDivisor_2 (k_2 : XM → Int32 → Int32 → Int32 → Option (Int32 × XM)) (h : XM) (l0 : Int32) (l1 : Int32) (l2 : Int32) : Option (Int32 × XM) := if ((1 : Int32)) < l2 then ((irem l0 l2).bind fun v2 => if v2 = 0 then ((irem l1 l2).bind fun v3 => if v3 = 0 then (some (l2, h)) else (f_X8_commonDivisor_21 k_2 h l0 l1 l2)) else (f_X8_commonDivisor_21 k_2 h l0 l1 l2)) else (some ((1 : Int32), h))
noncomputable def f_X8_commonDivisor_2 (n : Nat) : XM → Int32 → Int32 → Int32 → Option (Int32 × XM) := Nat.rec (motive := fun _ => XM → Int32 → Int32 → Int32 → Option (Int32 × XM)) (fun _ _ _ _ => none) (fun _ ih h l0 l1 l2 => fb_X8_commonDivisor_2 ih h l0 l1 l2) n
noncomputable def f_X8_commonDivisor (h : XM) (a0 : Int32) (a1 : Int32) : Option (Int32 × XM) := f_X8_commonDivisor_2 FU h a0 a1 a1
theorem b_X8_commonDivisor_21 (X : XX) (k_2 : XM → Int32 → Int32 → Int32 → Option (Int32 × XM)) (hk_2 : ∀ h l0 l1 l2, SW X I_X8_commonDivisor ρi 2 [(0, tI l0), (1, tI l1), (2, tI l2)] [] h 0 0 (k_2 h l0 l1 l2)) (h : XM) (l0 : Int32) (l1 : Int32) (l2 : Int32) : SW X I_X8_commonDivisor ρi 21 [(0, tI l0), (1, tI l1), (2, tI l2)] [] h 0 0 (f_X8_commonDivisor_21 k_2 h l0 l1 l2) := by
  unfold f_X8_commonDivisor_21
  refine s_inc (i := 15) rfl 2 rfl (c9 := (-1 : Int32)) (by decide) (Nat.le_of_ble_eq_true rfl) (fun v1 => ?_)
  refine s_ls (ls2 := [(2, tI v1), (0, tI l0), (1, tI l1)]) rfl ?_
  refine s_goto (i := 16) rfl (tgt := 2) (by decide) ?_
  exact s_sub [1, 2, 0] rfl (hk_2 h l0 l1 v1)
theorem bb_X8_commonDivisor_2 (X : XX) (k_2 : XM → Int32 → Int32 → Int32 → Option (Int32 × XM)) (hk_2 : ∀ h l0 l1 l2, SW X I_X8_commonDivisor ρi 2 [(0, tI l0), (1, tI l1), (2, tI l2)] [] h 0 0 (k_2 h l0 l1 l2)) (h : XM) (l0 : Int32) (l1 : Int32) (l2 : Int32) : SW X I_X8_commonDivisor ρi 2 [(0, tI l0), (1, tI l1), (2, tI l2)] [] h 0 0 (fb_X8_commonDivisor_2 k_2 h l0 l1 l2) := by
  unfold fb_X8_commonDivisor_2
  refine s_iload_n (i := 2) rfl 2 rfl ?_
  refine s_iconst (i := 3) rfl (v := (1 : Int32)) (by decide) ?_
  refine s_icmple (i := 4) rfl (tgt := 27) (by decide) (fun z4 => ?_) (fun z4 => ?_)
  · refine s_iload_n (i := 5) rfl 0 rfl ?_
    refine s_iload_n (i := 6) rfl 2 rfl ?_
    refine s_irem (i := 7) rfl (fun v2 => ?_)
    refine s_ifne (i := 8) rfl (tgt := 21) (by decide) (fun z10 => ?_) (fun z10 => ?_)
    · refine s_iload_n (i := 9) rfl 1 rfl ?_
      refine s_iload_n (i := 10) rfl 2 rfl ?_
      refine s_irem (i := 11) rfl (fun v3 => ?_)
      refine s_ifne (i := 12) rfl (tgt := 21) (by decide) (fun z16 => ?_) (fun z16 => ?_)
      · refine s_iload_n (i := 13) rfl 2 rfl ?_
        exact s_iret (i := 14) rfl rfl
      · exact s_sub [0, 1, 2] rfl (b_X8_commonDivisor_21 X k_2 hk_2 h l0 l1 l2)
    · exact s_sub [0, 1, 2] rfl (b_X8_commonDivisor_21 X k_2 hk_2 h l0 l1 l2)
  · refine s_iconst (i := 17) rfl (v := (1 : Int32)) (by decide) ?_
    exact s_iret (i := 18) rfl rfl
theorem b_X8_commonDivisor_2 (X : XX) : ∀ (n : Nat) (h : XM) (l0 : Int32) (l1 : Int32) (l2 : Int32), SW X I_X8_commonDivisor ρi 2 [(0, tI l0), (1, tI l1), (2, tI l2)] [] h 0 0 (f_X8_commonDivisor_2 n h l0 l1 l2) := by
  intro n
  induction n with
  | zero =>
    intro h l0 l1 l2
    exact s_none
  | succ n ih =>
    intro h l0 l1 l2
    exact bb_X8_commonDivisor_2 X (f_X8_commonDivisor_2 n) ih h l0 l1 l2
theorem c_X8_commonDivisor (h : XM) (a0 : Int32) (a1 : Int32) : MC I_X8_commonDivisor y_X8_commonDivisor [tI a0, tI a1] h ρi (f_X8_commonDivisor h a0 a1) := by
  refine MC_of ⟨by decide +kernel, rfl, rfl, Nat.le_of_ble_eq_true rfl⟩ dT_X8_commonDivisor (fun X => ?_)
  show SW X I_X8_commonDivisor ρi 0 [(0, tI a0), (1, tI a1)] [] h 0 0 (f_X8_commonDivisor h a0 a1)
  unfold f_X8_commonDivisor
  refine s_iload_n (i := 0) rfl 1 rfl ?_
  refine s_istore_n (i := 1) rfl (Nat.le_of_ble_eq_true rfl) (ls2 := [(2, tI a1), (0, tI a0), (1, tI a1)]) rfl ?_
  exact s_sub [1, 2, 0] rfl (b_X8_commonDivisor_2 X FU h a0 a1 a1)
def y_X8_mean : MethodName := ⟨"OpensAtNine", "mean", "(III)J"⟩
def T_X8_mean : List (Nat × Instr × Nat × Nat) := [(0, .iload_n 1, 1, 1), (1, .ifCond .lt 21, 3, 4), (4, .iload_n 1, 1, 5), (5, .ldc_w 272, 3, 8), (8, .if_icmp .gt 14, 3, 11), (11, .iload_n 2, 1, 12), (12, .iconst 1, 1, 13), (13, .if_icmp .lt 9, 3, 16), (16, .iload_n 2, 1, 17), (17, .bipush 40, 2, 19), (19, .if_icmp .le 7, 3, 22), (22, .ldc2_w 276, 3, 25), (25, .lreturn, 1, 26), (26, .iload_n 3, 1, 27), (27, .ifCond .lt 8, 3, 30), (30, .iload_n 3, 1, 31), (31, .iconst 1, 1, 32), (32, .if_icmp .le 7, 3, 35), (35, .ldc2_w 276, 3, 38), (38, .lreturn, 1, 39), (39, .iconst 0, 1, 40), (40, .istore 4, 2, 42), (42, .iconst 0, 1, 43), (43, .istore 5, 2, 45), (45, .iload 5, 2, 47), (47, .iload_n 2, 1, 48), (48, .if_icmp .ge 22, 3, 51), (51, .iload 4, 2, 53), (53, .aload_n 0, 1, 54), (54, .iload_n 1, 1, 55), (55, .iload 5, 2, 57), (57, .iadd, 1, 58), (58, .invokevirtual 273, 3, 61), (61, .iadd, 1, 62), (62, .istore 4, 2, 64), (64, .iinc 5 1, 3, 67), (67, .goto (-22), 3, 70), (70, .iload 4, 2, 72), (72, .iload_n 2, 1, 73), (73, .invokestatic 278, 3, 76), (76, .istore 5, 2, 78), (78, .iload 5, 2, 80), (80, .iconst 1, 1, 81), (81, .if_icmp .ge 7, 3, 84), (84, .ldc2_w 276, 3, 87), (87, .lreturn, 1, 88), (88, .iload_n 3, 1, 89), (89, .ifCond .ne 8, 3, 92), (92, .iload 4, 2, 94), (94, .goto 4, 3, 97), (97, .iload_n 2, 1, 98), (98, .iload 5, 2, 100), (100, .idiv, 1, 101), (101, .i2l, 1, 102), (102, .lreturn, 1, 103)]
def I_X8_mean : MI := (prog_1_method_38_code, 6, (some .long), "OpensAtNine", "mean", T_X8_mean, 0, 0, 6, 186)
theorem dT_X8_mean : ∀ q ∈ T_X8_mean, decode prog_1_method_38_code q.1 = .ok (q.2.1, q.2.2.1) ∧ q.2.2.2 = q.1 + q.2.2.1 := by decide +kernel
theorem xm_X8_mean : xCM y_X8_mean I_X8_mean 8 3 := ⟨⟨tw915, tw916⟩, tw69, tw917, ⟨xT8, 11, rfl⟩, ⟨by decide +kernel, by decide +kernel, by decide +kernel⟩⟩
noncomputable def f_X8_mean_22 (h : XM) : Option (Int64 × XM) := some ((-4611686018427387904 : Int64), h)
noncomputable def f_X8_mean_35 (h : XM) : Option (Int64 × XM) := some ((-4611686018427387904 : Int64), h)
noncomputable def f_X8_mean_98 (h : XM) (l5 : Int32) (s0 : Int32) : Option (Int64 × XM) := (idiv s0 l5).bind fun v1 => some (v1.toInt64, h)
noncomputable def fb_X8_mean_45 (k_45 : XM → Option Nat → Int32 → Int32 → Int32 → Int32 → Int32 → Option (Int64 × XM)) (h : XM) (l0 : Option Nat) (l1 : Int32) (l2 : Int32) (l3 : Int32) (l4 : Int32) (l5 : Int32) : Option (Int64 × XM) := if l5 < l2 then ((vc h 8 l0 (f_X8_insideBy h l0 (l1 + l5))).bind fun q2 => bnd (l4 + q2.1) fun v3 => bnd (l5 + (1 : Int32)) fun v4 => k_45 q2.2 l0 l1 l2 l3 v3 v4) else ((f_X8_commonDivisor h l4 l2).bind fun q5 => if q5.1 < ((1 : Int32)) then (some ((-4611686018427387904 : Int64), q5.2)) else (if l3 = 0 then (f_X8_mean_98 q5.2 q5.1 l4) else (f_X8_mean_98 q5.2 q5.1 l2)))
noncomputable def f_X8_mean_45 (n : Nat) : XM → Option Nat → Int32 → Int32 → Int32 → Int32 → Int32 → Option (Int64 × XM) := Nat.rec (motive := fun _ => XM → Option Nat → Int32 → Int32 → Int32 → Int32 → Int32 → Option (Int64 × XM)) (fun _ _ _ _ _ _ _ => none) (fun _ ih h l0 l1 l2 l3 l4 l5 => fb_X8_mean_45 ih h l0 l1 l2 l3 l4 l5) n
noncomputable def f_X8_mean (h : XM) (a0 : Option Nat) (a1 : Int32) (a2 : Int32) (a3 : Int32) : Option (Int64 × XM) := if a1 < 0 then (f_X8_mean_22 h) else (if ((99999 : Int32)) < a1 then (f_X8_mean_22 h) else (if a2 < ((1 : Int32)) then (f_X8_mean_22 h) else (if ((40 : Int32)) < a2 then (f_X8_mean_22 h) else (if a3 < 0 then (f_X8_mean_35 h) else (if ((1 : Int32)) < a3 then (f_X8_mean_35 h) else (f_X8_mean_45 FU h a0 a1 a2 a3 ((0 : Int32)) ((0 : Int32))))))))
theorem b_X8_mean_22 (X : XX) (h : XM) : SW X I_X8_mean ρl 22 [] [] h 0 0 (f_X8_mean_22 h) := by
  unfold f_X8_mean_22
  refine s_ldc2 (i := 11) rfl (v := (-4611686018427387904 : Int64)) (tw918) ?_
  exact s_lret (i := 12) rfl rfl
theorem b_X8_mean_35 (X : XX) (h : XM) : SW X I_X8_mean ρl 35 [] [] h 0 0 (f_X8_mean_35 h) := by
  unfold f_X8_mean_35
  refine s_ldc2 (i := 18) rfl (v := (-4611686018427387904 : Int64)) (tw918) ?_
  exact s_lret (i := 19) rfl rfl
theorem b_X8_mean_98 (X : XX) (h : XM) (l5 : Int32) (s0 : Int32) : SW X I_X8_mean ρl 98 [(5, tI l5)] [tI s0] h 0 0 (f_X8_mean_98 h l5 s0) := by
  unfold f_X8_mean_98
  refine s_iload (i := 51) rfl 0 rfl ?_
  refine s_idiv (i := 52) rfl (fun v1 => ?_)
  refine s_i2l (i := 53) rfl ?_
  exact s_lret (i := 54) rfl rfl
theorem bb_X8_mean_45 (X : XX) (k_45 : XM → Option Nat → Int32 → Int32 → Int32 → Int32 → Int32 → Option (Int64 × XM)) (hk_45 : ∀ h l0 l1 l2 l3 l4 l5, SW X I_X8_mean ρl 45 [(0, tA l0), (1, tI l1), (2, tI l2), (3, tI l3), (4, tI l4), (5, tI l5)] [] h 0 0 (k_45 h l0 l1 l2 l3 l4 l5)) (h : XM) (l0 : Option Nat) (l1 : Int32) (l2 : Int32) (l3 : Int32) (l4 : Int32) (l5 : Int32) : SW X I_X8_mean ρl 45 [(0, tA l0), (1, tI l1), (2, tI l2), (3, tI l3), (4, tI l4), (5, tI l5)] [] h 0 0 (fb_X8_mean_45 k_45 h l0 l1 l2 l3 l4 l5) := by
  unfold fb_X8_mean_45
  refine s_iload (i := 24) rfl 5 rfl ?_
  refine s_iload_n (i := 25) rfl 2 rfl ?_
  refine s_icmpge (i := 26) rfl (tgt := 70) (by decide) (fun z48 => ?_) (fun z48 => ?_)
  · refine s_iload (i := 27) rfl 4 rfl ?_
    refine s_aload_n (i := 28) rfl 0 rfl ?_
    refine s_iload_n (i := 29) rfl 1 rfl ?_
    refine s_iload (i := 30) rfl 5 rfl ?_
    refine s_iadd (i := 31) rfl ?_
    refine u_callVi (kk := 8) [tI (l1 + l5)] l0 [tI l4] rfl (i := 32) rfl (c_X8_insideBy h l0 (l1 + l5)) xm_X8_insideBy (tw908) rfl (Nat.le_of_ble_eq_true rfl) (xRm.of rfl) ⟨rfl, rfl⟩ (fun q2 => ?_)
    refine s_iadd (i := 33) rfl ?_
    refine s_bnd (fun v3 => ?_)
    refine s_istore (i := 34) rfl (Nat.le_of_ble_eq_true rfl) (ls2 := [(4, tI v3), (0, tA l0), (1, tI l1), (2, tI l2), (3, tI l3), (5, tI l5)]) rfl ?_
    refine s_inc (i := 35) rfl 5 rfl (c9 := (1 : Int32)) (by decide) (Nat.le_of_ble_eq_true rfl) (fun v4 => ?_)
    refine s_ls (ls2 := [(5, tI v4), (4, tI v3), (0, tA l0), (1, tI l1), (2, tI l2), (3, tI l3)]) rfl ?_
    refine s_goto (i := 36) rfl (tgt := 45) (by decide) ?_
    exact s_sub [2, 3, 4, 5, 1, 0] rfl (hk_45 q2.2 l0 l1 l2 l3 v3 v4)
  · refine s_iload (i := 37) rfl 4 rfl ?_
    refine s_iload_n (i := 38) rfl 2 rfl ?_
    refine u_callSi [tI l4, tI l2] [] rfl (i := 39) rfl (c_X8_commonDivisor h l4 l2) xm_X8_commonDivisor (tw919) rfl (Nat.le_of_ble_eq_true rfl) (xRm.of rfl) ⟨rfl, rfl⟩ (fun q5 => ?_)
    refine s_istore (i := 40) rfl (Nat.le_of_ble_eq_true rfl) (ls2 := [(5, tI q5.1), (0, tA l0), (1, tI l1), (2, tI l2), (3, tI l3), (4, tI l4)]) rfl ?_
    refine s_iload (i := 41) rfl 0 rfl ?_
    refine s_iconst (i := 42) rfl (v := (1 : Int32)) (by decide) ?_
    refine s_icmpge (i := 43) rfl (tgt := 88) (by decide) (fun z81 => ?_) (fun z81 => ?_)
    · refine s_ldc2 (i := 44) rfl (v := (-4611686018427387904 : Int64)) (tw918) ?_
      exact s_lret (i := 45) rfl rfl
    · refine s_iload_n (i := 46) rfl 4 rfl ?_
      refine s_ifne (i := 47) rfl (tgt := 97) (by decide) (fun z89 => ?_) (fun z89 => ?_)
      · refine s_iload (i := 48) rfl 5 rfl ?_
        refine s_goto (i := 49) rfl (tgt := 98) (by decide) ?_
        exact s_sub [0] rfl (b_X8_mean_98 X q5.2 q5.1 l4)
      · refine s_iload_n (i := 50) rfl 3 rfl ?_
        exact s_sub [0] rfl (b_X8_mean_98 X q5.2 q5.1 l2)
theorem b_X8_mean_45 (X : XX) : ∀ (n : Nat) (h : XM) (l0 : Option Nat) (l1 : Int32) (l2 : Int32) (l3 : Int32) (l4 : Int32) (l5 : Int32), SW X I_X8_mean ρl 45 [(0, tA l0), (1, tI l1), (2, tI l2), (3, tI l3), (4, tI l4), (5, tI l5)] [] h 0 0 (f_X8_mean_45 n h l0 l1 l2 l3 l4 l5) := by
  intro n
  induction n with
  | zero =>
    intro h l0 l1 l2 l3 l4 l5
    exact s_none
  | succ n ih =>
    intro h l0 l1 l2 l3 l4 l5
    exact bb_X8_mean_45 X (f_X8_mean_45 n) ih h l0 l1 l2 l3 l4 l5
theorem c_X8_mean (h : XM) (a0 : Option Nat) (a1 : Int32) (a2 : Int32) (a3 : Int32) : MC I_X8_mean y_X8_mean [tA a0, tI a1, tI a2, tI a3] h ρl (f_X8_mean h a0 a1 a2 a3) := by
  refine MC_of ⟨by decide +kernel, rfl, rfl, Nat.le_of_ble_eq_true rfl⟩ dT_X8_mean (fun X => ?_)
  show SW X I_X8_mean ρl 0 [(0, tA a0), (1, tI a1), (2, tI a2), (3, tI a3)] [] h 0 0 (f_X8_mean h a0 a1 a2 a3)
  unfold f_X8_mean
  refine s_iload_n (i := 0) rfl 1 rfl ?_
  refine s_iflt (i := 1) rfl (tgt := 22) (by decide) (fun z1 => ?_) (fun z1 => ?_)
  · exact s_sub [] rfl (b_X8_mean_22 X h)
  · refine s_iload_n (i := 2) rfl 1 rfl ?_
    refine s_ldcw (i := 3) rfl (v := (99999 : Int32)) (tw907) ?_
    refine s_icmpgt (i := 4) rfl (tgt := 22) (by decide) (fun z8 => ?_) (fun z8 => ?_)
    · exact s_sub [] rfl (b_X8_mean_22 X h)
    · refine s_iload_n (i := 5) rfl 2 rfl ?_
      refine s_iconst (i := 6) rfl (v := (1 : Int32)) (by decide) ?_
      refine s_icmplt (i := 7) rfl (tgt := 22) (by decide) (fun z13 => ?_) (fun z13 => ?_)
      · exact s_sub [] rfl (b_X8_mean_22 X h)
      · refine s_iload_n (i := 8) rfl 2 rfl ?_
        refine s_bipush (i := 9) rfl (v := (40 : Int32)) (by decide) ?_
        refine s_icmple (i := 10) rfl (tgt := 26) (by decide) (fun z19 => ?_) (fun z19 => ?_)
        · exact s_sub [] rfl (b_X8_mean_22 X h)
        · refine s_iload_n (i := 13) rfl 3 rfl ?_
          refine s_iflt (i := 14) rfl (tgt := 35) (by decide) (fun z27 => ?_) (fun z27 => ?_)
          · exact s_sub [] rfl (b_X8_mean_35 X h)
          · refine s_iload_n (i := 15) rfl 3 rfl ?_
            refine s_iconst (i := 16) rfl (v := (1 : Int32)) (by decide) ?_
            refine s_icmple (i := 17) rfl (tgt := 39) (by decide) (fun z32 => ?_) (fun z32 => ?_)
            · exact s_sub [] rfl (b_X8_mean_35 X h)
            · refine s_iconst (i := 20) rfl (v := (0 : Int32)) (by decide) ?_
              refine s_istore (i := 21) rfl (Nat.le_of_ble_eq_true rfl) (ls2 := [(4, tI ((0 : Int32))), (0, tA a0), (1, tI a1), (2, tI a2), (3, tI a3)]) rfl ?_
              refine s_iconst (i := 22) rfl (v := (0 : Int32)) (by decide) ?_
              refine s_istore (i := 23) rfl (Nat.le_of_ble_eq_true rfl) (ls2 := [(5, tI ((0 : Int32))), (4, tI ((0 : Int32))), (0, tA a0), (1, tI a1), (2, tI a2), (3, tI a3)]) rfl ?_
              exact s_sub [2, 3, 4, 5, 1, 0] rfl (b_X8_mean_45 X FU h a0 a1 a2 a3 ((0 : Int32)) ((0 : Int32)))
def y_X8_image : MethodName := ⟨"OpensAtNine", "image", "()I"⟩
def T_X8_image : List (Nat × Instr × Nat × Nat) := [(0, .aload_n 0, 1, 1), (1, .getfield 30, 3, 4), (4, .aload_n 0, 1, 5), (5, .getfield 26, 3, 8), (8, .invokevirtual 189, 3, 11), (11, .aload_n 0, 1, 12), (12, .iconst 1, 1, 13), (13, .putfield 285, 3, 16), (16, .aload_n 0, 1, 17), (17, .getfield 26, 3, 20), (20, .getfield 109, 3, 23), (23, .ireturn, 1, 24)]
def I_X8_image : MI := (prog_1_method_41_code, 1, (some .int), "OpensAtNine", "image", T_X8_image, 0, 0, 2, 82)
theorem dT_X8_image : ∀ q ∈ T_X8_image, decode prog_1_method_41_code q.1 = .ok (q.2.1, q.2.2.1) ∧ q.2.2.2 = q.1 + q.2.2.1 := by decide +kernel
theorem xm_X8_image : xCM y_X8_image I_X8_image 8 0 := ⟨⟨tw923, tw924⟩, tw69, tw925, ⟨xT8, 11, rfl⟩, ⟨by decide +kernel, by decide +kernel, by decide +kernel⟩⟩
noncomputable def f_X8_image (h : XM) (a0 : Option Nat) : Option (Int32 × XM) := (gR h 8 a0 3).bind fun v1 => (gR h 8 a0 2).bind fun v2 => (vc h 1 v1 (f_X1_become h v1 v2)).bind fun q3 => (pZ q3 8 a0 10 ((1 : Int32))).bind fun h4 => (gR h4 8 a0 2).bind fun v5 => (gI h4 1 v5 9).bind fun v6 => some (v6, h4)
theorem c_X8_image (h : XM) (a0 : Option Nat) : MC I_X8_image y_X8_image [tA a0] h ρi (f_X8_image h a0) := by
  refine MC_of ⟨by decide +kernel, rfl, rfl, Nat.le_of_ble_eq_true rfl⟩ dT_X8_image (fun X => ?_)
  show SW X I_X8_image ρi 0 [(0, tA a0)] [] h 0 0 (f_X8_image h a0)
  unfold f_X8_image
  refine s_aload_n (i := 0) rfl 0 rfl ?_
  refine s_getR (i := 1) rfl xf_8_30.r rfl (fun v1 => ?_)
  refine s_aload_n (i := 2) rfl 0 rfl ?_
  refine s_getR (i := 3) rfl xf_8_26.r rfl (fun v2 => ?_)
  refine u_callVv (kk := 1) [tA v2] v1 [] rfl (i := 4) rfl (c_X1_become h v1 v2) xm_X1_become (tw728) rfl (Nat.le_of_ble_eq_true rfl) (xRm.of rfl) ⟨rfl, rfl⟩ (fun q3 => ?_)
  refine s_aload_n (i := 5) rfl 0 rfl ?_
  refine s_iconst (i := 6) rfl (v := (1 : Int32)) (by decide) ?_
  refine s_putZ (i := 7) rfl xf_8_285 (fun q => by cases q) rfl rfl (fun h4 => ?_)
  refine s_aload_n (i := 8) rfl 0 rfl ?_
  refine s_getR (i := 9) rfl xf_8_26.r rfl (fun v5 => ?_)
  refine s_getI (i := 10) rfl xf_8_109.r rfl (fun v6 => ?_)
  exact s_iret (i := 11) rfl rfl
def y_X8_back : MethodName := ⟨"OpensAtNine", "back", "()I"⟩
def T_X8_back : List (Nat × Instr × Nat × Nat) := [(0, .aload_n 0, 1, 1), (1, .getfield 285, 3, 4), (4, .ifCond .ne 6, 3, 7), (7, .bipush (-3), 2, 9), (9, .ireturn, 1, 10), (10, .aload_n 0, 1, 11), (11, .getfield 26, 3, 14), (14, .aload_n 0, 1, 15), (15, .getfield 30, 3, 18), (18, .invokevirtual 189, 3, 21), (21, .aload_n 0, 1, 22), (22, .getfield 26, 3, 25), (25, .getfield 109, 3, 28), (28, .ireturn, 1, 29)]
def I_X8_back : MI := (prog_1_method_42_code, 1, (some .int), "OpensAtNine", "back", T_X8_back, 0, 0, 2, 82)
theorem dT_X8_back : ∀ q ∈ T_X8_back, decode prog_1_method_42_code q.1 = .ok (q.2.1, q.2.2.1) ∧ q.2.2.2 = q.1 + q.2.2.1 := by decide +kernel
theorem xm_X8_back : xCM y_X8_back I_X8_back 8 0 := ⟨⟨tw927, tw928⟩, tw69, tw929, ⟨xT8, 11, rfl⟩, ⟨by decide +kernel, by decide +kernel, by decide +kernel⟩⟩
noncomputable def f_X8_back (h : XM) (a0 : Option Nat) : Option (Int32 × XM) := (gI h 8 a0 10).bind fun v1 => if v1 = 0 then (some ((-3 : Int32), h)) else ((gR h 8 a0 2).bind fun v2 => (gR h 8 a0 3).bind fun v3 => (vc h 1 v2 (f_X1_become h v2 v3)).bind fun q4 => (gR q4 8 a0 2).bind fun v5 => (gI q4 1 v5 9).bind fun v6 => some (v6, q4))
theorem c_X8_back (h : XM) (a0 : Option Nat) : MC I_X8_back y_X8_back [tA a0] h ρi (f_X8_back h a0) := by
  refine MC_of ⟨by decide +kernel, rfl, rfl, Nat.le_of_ble_eq_true rfl⟩ dT_X8_back (fun X => ?_)
  show SW X I_X8_back ρi 0 [(0, tA a0)] [] h 0 0 (f_X8_back h a0)
  unfold f_X8_back
  refine s_aload_n (i := 0) rfl 0 rfl ?_
  refine s_getI (i := 1) rfl xf_8_285.r rfl (fun v1 => ?_)
  refine s_ifne (i := 2) rfl (tgt := 10) (by decide) (fun z4 => ?_) (fun z4 => ?_)
  · refine s_bipush (i := 3) rfl (v := (-3 : Int32)) (by decide) ?_
    exact s_iret (i := 4) rfl rfl
  · refine s_aload_n (i := 5) rfl 0 rfl ?_
    refine s_getR (i := 6) rfl xf_8_26.r rfl (fun v2 => ?_)
    refine s_aload_n (i := 7) rfl 0 rfl ?_
    refine s_getR (i := 8) rfl xf_8_30.r rfl (fun v3 => ?_)
    refine u_callVv (kk := 1) [tA v3] v2 [] rfl (i := 9) rfl (c_X1_become h v2 v3) xm_X1_become (tw728) rfl (Nat.le_of_ble_eq_true rfl) (xRm.of rfl) ⟨rfl, rfl⟩ (fun q4 => ?_)
    refine s_aload_n (i := 10) rfl 0 rfl ?_
    refine s_getR (i := 11) rfl xf_8_26.r rfl (fun v5 => ?_)
    refine s_getI (i := 12) rfl xf_8_109.r rfl (fun v6 => ?_)
    exact s_iret (i := 13) rfl rfl
def y_X8_sheet : MethodName := ⟨"OpensAtNine", "sheet", "(III)I"⟩
def T_X8_sheet : List (Nat × Instr × Nat × Nat) := [(0, .iload_n 1, 1, 1), (1, .invokestatic 254, 3, 4), (4, .ifCond .eq 13, 3, 7), (7, .iload_n 2, 1, 8), (8, .iconst (-1), 1, 9), (9, .if_icmp .lt 8, 3, 12), (12, .iload_n 2, 1, 13), (13, .iconst 2, 1, 14), (14, .if_icmp .le 6, 3, 17), (17, .bipush (-2), 2, 19), (19, .ireturn, 1, 20), (20, .iload_n 2, 1, 21), (21, .iconst (-1), 1, 22), (22, .if_icmp .ne 16, 3, 25), (25, .aload_n 0, 1, 26), (26, .getfield 64, 3, 29), (29, .iload_n 1, 1, 30), (30, .aaload, 1, 31), (31, .iconst (-1), 1, 32), (32, .iconst 0, 1, 33), (33, .invokevirtual 268, 3, 36), (36, .iconst 1, 1, 37), (37, .ireturn, 1, 38), (38, .iload_n 3, 1, 39), (39, .bipush 40, 2, 41), (41, .if_icmp .le 6, 3, 44), (44, .bipush (-2), 2, 46), (46, .ireturn, 1, 47), (47, .iload_n 3, 1, 48), (48, .ifCond .ge 6, 3, 51), (51, .bipush (-14), 2, 53), (53, .ireturn, 1, 54), (54, .aload_n 0, 1, 55), (55, .getfield 64, 3, 58), (58, .iload_n 1, 1, 59), (59, .aaload, 1, 60), (60, .iload_n 2, 1, 61), (61, .iload_n 3, 1, 62), (62, .invokevirtual 268, 3, 65), (65, .iconst 1, 1, 66), (66, .ireturn, 1, 67)]
def I_X8_sheet : MI := (prog_1_method_43_code, 4, (some .int), "OpensAtNine", "sheet", T_X8_sheet, 0, 0, 3, 105)
theorem dT_X8_sheet : ∀ q ∈ T_X8_sheet, decode prog_1_method_43_code q.1 = .ok (q.2.1, q.2.2.1) ∧ q.2.2.2 = q.1 + q.2.2.1 := by decide +kernel
theorem xm_X8_sheet : xCM y_X8_sheet I_X8_sheet 8 3 := ⟨⟨tw931, tw932⟩, tw69, tw933, ⟨xT8, 11, rfl⟩, ⟨by decide +kernel, by decide +kernel, by decide +kernel⟩⟩
noncomputable def f_X8_sheet_17 (h : XM) : Option (Int32 × XM) := some ((-2 : Int32), h)
noncomputable def f_X8_sheet (h : XM) (a0 : Option Nat) (a1 : Int32) (a2 : Int32) (a3 : Int32) : Option (Int32 × XM) := (f_X8_isSheet h a1).bind fun q1 => if q1.1 = 0 then (f_X8_sheet_17 q1.2) else (if a2 < ((-1 : Int32)) then (f_X8_sheet_17 q1.2) else (if ((2 : Int32)) < a2 then (f_X8_sheet_17 q1.2) else (if a2 = ((-1 : Int32)) then ((gR q1.2 8 a0 8).bind fun v2 => (rR 14 q1.2 v2 a1).bind fun v3 => (vc q1.2 4 v3 (f_X4_become q1.2 v3 ((-1 : Int32)) ((0 : Int32)))).bind fun q4 => some ((1 : Int32), q4)) else (if ((40 : Int32)) < a3 then (some ((-2 : Int32), q1.2)) else (if a3 < 0 then (some ((-14 : Int32), q1.2)) else ((gR q1.2 8 a0 8).bind fun v5 => (rR 14 q1.2 v5 a1).bind fun v6 => (vc q1.2 4 v6 (f_X4_become q1.2 v6 a2 a3)).bind fun q7 => some ((1 : Int32), q7)))))))
theorem b_X8_sheet_17 (X : XX) (h : XM) : SW X I_X8_sheet ρi 17 [] [] h 0 0 (f_X8_sheet_17 h) := by
  unfold f_X8_sheet_17
  refine s_bipush (i := 9) rfl (v := (-2 : Int32)) (by decide) ?_
  exact s_iret (i := 10) rfl rfl
theorem c_X8_sheet (h : XM) (a0 : Option Nat) (a1 : Int32) (a2 : Int32) (a3 : Int32) : MC I_X8_sheet y_X8_sheet [tA a0, tI a1, tI a2, tI a3] h ρi (f_X8_sheet h a0 a1 a2 a3) := by
  refine MC_of ⟨by decide +kernel, rfl, rfl, Nat.le_of_ble_eq_true rfl⟩ dT_X8_sheet (fun X => ?_)
  show SW X I_X8_sheet ρi 0 [(0, tA a0), (1, tI a1), (2, tI a2), (3, tI a3)] [] h 0 0 (f_X8_sheet h a0 a1 a2 a3)
  unfold f_X8_sheet
  refine s_iload_n (i := 0) rfl 1 rfl ?_
  refine u_callSi [tI a1] [] rfl (i := 1) rfl (c_X8_isSheet h a1) xm_X8_isSheet (tw841) rfl (Nat.le_of_ble_eq_true rfl) (xRm.of rfl) ⟨rfl, rfl⟩ (fun q1 => ?_)
  refine s_ifeq (i := 2) rfl (tgt := 17) (by decide) (fun z4 => ?_) (fun z4 => ?_)
  · exact s_sub [] rfl (b_X8_sheet_17 X q1.2)
  · refine s_iload_n (i := 3) rfl 2 rfl ?_
    refine s_iconst (i := 4) rfl (v := (-1 : Int32)) (by decide) ?_
    refine s_icmplt (i := 5) rfl (tgt := 17) (by decide) (fun z9 => ?_) (fun z9 => ?_)
    · exact s_sub [] rfl (b_X8_sheet_17 X q1.2)
    · refine s_iload_n (i := 6) rfl 2 rfl ?_
      refine s_iconst (i := 7) rfl (v := (2 : Int32)) (by decide) ?_
      refine s_icmple (i := 8) rfl (tgt := 20) (by decide) (fun z14 => ?_) (fun z14 => ?_)
      · exact s_sub [] rfl (b_X8_sheet_17 X q1.2)
      · refine s_iload_n (i := 11) rfl 2 rfl ?_
        refine s_iconst (i := 12) rfl (v := (-1 : Int32)) (by decide) ?_
        refine s_icmpne (i := 13) rfl (tgt := 38) (by decide) (fun z22 => ?_) (fun z22 => ?_)
        · refine s_aload_n (i := 14) rfl 0 rfl ?_
          refine s_getR (i := 15) rfl xf_8_64.r rfl (fun v2 => ?_)
          refine s_iload_n (i := 16) rfl 1 rfl ?_
          refine s_aaload (i := 17) rfl (kk := 14) ⟨by decide, by decide⟩ (fun v3 => ?_)
          refine s_iconst (i := 18) rfl (v := (-1 : Int32)) (by decide) ?_
          refine s_iconst (i := 19) rfl (v := (0 : Int32)) (by decide) ?_
          refine u_callVv (kk := 4) [tI ((-1 : Int32)), tI ((0 : Int32))] v3 [] rfl (i := 20) rfl (c_X4_become q1.2 v3 ((-1 : Int32)) ((0 : Int32))) xm_X4_become (tw892) rfl (Nat.le_of_ble_eq_true rfl) (xRm.of rfl) ⟨rfl, rfl⟩ (fun q4 => ?_)
          refine s_iconst (i := 21) rfl (v := (1 : Int32)) (by decide) ?_
          exact s_iret (i := 22) rfl rfl
        · refine s_iload_n (i := 23) rfl 3 rfl ?_
          refine s_bipush (i := 24) rfl (v := (40 : Int32)) (by decide) ?_
          refine s_icmple (i := 25) rfl (tgt := 47) (by decide) (fun z41 => ?_) (fun z41 => ?_)
          · refine s_bipush (i := 26) rfl (v := (-2 : Int32)) (by decide) ?_
            exact s_iret (i := 27) rfl rfl
          · refine s_iload_n (i := 28) rfl 3 rfl ?_
            refine s_ifge (i := 29) rfl (tgt := 54) (by decide) (fun z48 => ?_) (fun z48 => ?_)
            · refine s_bipush (i := 30) rfl (v := (-14 : Int32)) (by decide) ?_
              exact s_iret (i := 31) rfl rfl
            · refine s_aload_n (i := 32) rfl 0 rfl ?_
              refine s_getR (i := 33) rfl xf_8_64.r rfl (fun v5 => ?_)
              refine s_iload_n (i := 34) rfl 1 rfl ?_
              refine s_aaload (i := 35) rfl (kk := 14) ⟨by decide, by decide⟩ (fun v6 => ?_)
              refine s_iload_n (i := 36) rfl 2 rfl ?_
              refine s_iload_n (i := 37) rfl 3 rfl ?_
              refine u_callVv (kk := 4) [tI a2, tI a3] v6 [] rfl (i := 38) rfl (c_X4_become q1.2 v6 a2 a3) xm_X4_become (tw892) rfl (Nat.le_of_ble_eq_true rfl) (xRm.of rfl) ⟨rfl, rfl⟩ (fun q7 => ?_)
              refine s_iconst (i := 39) rfl (v := (1 : Int32)) (by decide) ?_
              exact s_iret (i := 40) rfl rfl
def y_X8_cell : MethodName := ⟨"OpensAtNine", "cell", "(III)I"⟩
def T_X8_cell : List (Nat × Instr × Nat × Nat) := [(0, .iload_n 1, 1, 1), (1, .invokestatic 254, 3, 4), (4, .ifCond .ne 6, 3, 7), (7, .bipush (-2), 2, 9), (9, .ireturn, 1, 10), (10, .aload_n 0, 1, 11), (11, .getfield 64, 3, 14), (14, .iload_n 1, 1, 15), (15, .aaload, 1, 16), (16, .getfield 257, 3, 19), (19, .iconst (-1), 1, 20), (20, .if_icmp .ne 6, 3, 23), (23, .bipush (-11), 2, 25), (25, .ireturn, 1, 26), (26, .iload_n 2, 1, 27), (27, .ifCond .lt 16, 3, 30), (30, .iload_n 2, 1, 31), (31, .aload_n 0, 1, 32), (32, .getfield 64, 3, 35), (35, .iload_n 1, 1, 36), (36, .aaload, 1, 37), (37, .getfield 260, 3, 40), (40, .if_icmp .lt 6, 3, 43), (43, .bipush (-12), 2, 45), (45, .ireturn, 1, 46), (46, .aload_n 0, 1, 47), (47, .getfield 64, 3, 50), (50, .iload_n 1, 1, 51), (51, .aaload, 1, 52), (52, .iload_n 2, 1, 53), (53, .iload_n 3, 1, 54), (54, .invokevirtual 270, 3, 57), (57, .iconst 1, 1, 58), (58, .ireturn, 1, 59)]
def I_X8_cell : MI := (prog_1_method_44_code, 4, (some .int), "OpensAtNine", "cell", T_X8_cell, 0, 0, 2, 82)
theorem dT_X8_cell : ∀ q ∈ T_X8_cell, decode prog_1_method_44_code q.1 = .ok (q.2.1, q.2.2.1) ∧ q.2.2.2 = q.1 + q.2.2.1 := by decide +kernel
theorem xm_X8_cell : xCM y_X8_cell I_X8_cell 8 3 := ⟨⟨tw935, tw936⟩, tw69, tw937, ⟨xT8, 11, rfl⟩, ⟨by decide +kernel, by decide +kernel, by decide +kernel⟩⟩
noncomputable def f_X8_cell_43 (h : XM) : Option (Int32 × XM) := some ((-12 : Int32), h)
noncomputable def f_X8_cell (h : XM) (a0 : Option Nat) (a1 : Int32) (a2 : Int32) (a3 : Int32) : Option (Int32 × XM) := (f_X8_isSheet h a1).bind fun q1 => if q1.1 = 0 then (some ((-2 : Int32), q1.2)) else ((gR q1.2 8 a0 8).bind fun v2 => (rR 14 q1.2 v2 a1).bind fun v3 => (gI q1.2 4 v3 1).bind fun v4 => if v4 = ((-1 : Int32)) then (some ((-11 : Int32), q1.2)) else (if a2 < 0 then (f_X8_cell_43 q1.2) else ((gR q1.2 8 a0 8).bind fun v5 => (rR 14 q1.2 v5 a1).bind fun v6 => (gI q1.2 4 v6 2).bind fun v7 => if a2 < v7 then ((gR q1.2 8 a0 8).bind fun v8 => (rR 14 q1.2 v8 a1).bind fun v9 => (vc q1.2 4 v9 (f_X4_write q1.2 v9 a2 a3)).bind fun q10 => some ((1 : Int32), q10)) else (f_X8_cell_43 q1.2))))
theorem b_X8_cell_43 (X : XX) (h : XM) : SW X I_X8_cell ρi 43 [] [] h 0 0 (f_X8_cell_43 h) := by
  unfold f_X8_cell_43
  refine s_bipush (i := 23) rfl (v := (-12 : Int32)) (by decide) ?_
  exact s_iret (i := 24) rfl rfl
theorem c_X8_cell (h : XM) (a0 : Option Nat) (a1 : Int32) (a2 : Int32) (a3 : Int32) : MC I_X8_cell y_X8_cell [tA a0, tI a1, tI a2, tI a3] h ρi (f_X8_cell h a0 a1 a2 a3) := by
  refine MC_of ⟨by decide +kernel, rfl, rfl, Nat.le_of_ble_eq_true rfl⟩ dT_X8_cell (fun X => ?_)
  show SW X I_X8_cell ρi 0 [(0, tA a0), (1, tI a1), (2, tI a2), (3, tI a3)] [] h 0 0 (f_X8_cell h a0 a1 a2 a3)
  unfold f_X8_cell
  refine s_iload_n (i := 0) rfl 1 rfl ?_
  refine u_callSi [tI a1] [] rfl (i := 1) rfl (c_X8_isSheet h a1) xm_X8_isSheet (tw841) rfl (Nat.le_of_ble_eq_true rfl) (xRm.of rfl) ⟨rfl, rfl⟩ (fun q1 => ?_)
  refine s_ifne (i := 2) rfl (tgt := 10) (by decide) (fun z4 => ?_) (fun z4 => ?_)
  · refine s_bipush (i := 3) rfl (v := (-2 : Int32)) (by decide) ?_
    exact s_iret (i := 4) rfl rfl
  · refine s_aload_n (i := 5) rfl 0 rfl ?_
    refine s_getR (i := 6) rfl xf_8_64.r rfl (fun v2 => ?_)
    refine s_iload_n (i := 7) rfl 1 rfl ?_
    refine s_aaload (i := 8) rfl (kk := 14) ⟨by decide, by decide⟩ (fun v3 => ?_)
    refine s_getI (i := 9) rfl xf_8_257.r rfl (fun v4 => ?_)
    refine s_iconst (i := 10) rfl (v := (-1 : Int32)) (by decide) ?_
    refine s_icmpne (i := 11) rfl (tgt := 26) (by decide) (fun z20 => ?_) (fun z20 => ?_)
    · refine s_bipush (i := 12) rfl (v := (-11 : Int32)) (by decide) ?_
      exact s_iret (i := 13) rfl rfl
    · refine s_iload_n (i := 14) rfl 2 rfl ?_
      refine s_iflt (i := 15) rfl (tgt := 43) (by decide) (fun z27 => ?_) (fun z27 => ?_)
      · exact s_sub [] rfl (b_X8_cell_43 X q1.2)
      · refine s_iload_n (i := 16) rfl 2 rfl ?_
        refine s_aload_n (i := 17) rfl 0 rfl ?_
        refine s_getR (i := 18) rfl xf_8_64.r rfl (fun v5 => ?_)
        refine s_iload_n (i := 19) rfl 1 rfl ?_
        refine s_aaload (i := 20) rfl (kk := 14) ⟨by decide, by decide⟩ (fun v6 => ?_)
        refine s_getI (i := 21) rfl xf_8_260.r rfl (fun v7 => ?_)
        refine s_icmplt (i := 22) rfl (tgt := 46) (by decide) (fun z40 => ?_) (fun z40 => ?_)
        · refine s_aload_n (i := 25) rfl 0 rfl ?_
          refine s_getR (i := 26) rfl xf_8_64.r rfl (fun v8 => ?_)
          refine s_iload_n (i := 27) rfl 1 rfl ?_
          refine s_aaload (i := 28) rfl (kk := 14) ⟨by decide, by decide⟩ (fun v9 => ?_)
          refine s_iload_n (i := 29) rfl 2 rfl ?_
          refine s_iload_n (i := 30) rfl 3 rfl ?_
          refine u_callVv (kk := 4) [tI a2, tI a3] v9 [] rfl (i := 31) rfl (c_X4_write q1.2 v9 a2 a3) xm_X4_write (tw899) rfl (Nat.le_of_ble_eq_true rfl) (xRm.of rfl) ⟨rfl, rfl⟩ (fun q10 => ?_)
          refine s_iconst (i := 32) rfl (v := (1 : Int32)) (by decide) ?_
          exact s_iret (i := 33) rfl rfl
        · exact s_sub [] rfl (b_X8_cell_43 X q1.2)
def y_X8_copy : MethodName := ⟨"OpensAtNine", "copy", "(IIIII)I"⟩
def T_X8_copy : List (Nat × Instr × Nat × Nat) := [(0, .iload_n 1, 1, 1), (1, .invokestatic 254, 3, 4), (4, .ifCond .eq 10, 3, 7), (7, .iload_n 3, 1, 8), (8, .invokestatic 254, 3, 11), (11, .ifCond .ne 6, 3, 14), (14, .bipush (-2), 2, 16), (16, .ireturn, 1, 17), (17, .aload_n 0, 1, 18), (18, .getfield 64, 3, 21), (21, .iload_n 1, 1, 22), (22, .aaload, 1, 23), (23, .astore 6, 2, 25), (25, .aload_n 0, 1, 26), (26, .getfield 64, 3, 29), (29, .iload_n 3, 1, 30), (30, .aaload, 1, 31), (31, .astore 7, 2, 33), (33, .aload 6, 2, 35), (35, .getfield 257, 3, 38), (38, .iconst (-1), 1, 39), (39, .if_icmp .eq 12, 3, 42), (42, .aload 7, 2, 44), (44, .getfield 257, 3, 47), (47, .iconst (-1), 1, 48), (48, .if_icmp .ne 6, 3, 51), (51, .bipush (-11), 2, 53), (53, .ireturn, 1, 54), (54, .aload 6, 2, 56), (56, .getfield 257, 3, 59), (59, .aload 7, 2, 61), (61, .getfield 257, 3, 64), (64, .if_icmp .eq 6, 3, 67), (67, .bipush (-13), 2, 69), (69, .ireturn, 1, 70), (70, .aload 6, 2, 72), (72, .iload_n 2, 1, 73), (73, .iload 5, 2, 75), (75, .invokevirtual 289, 3, 78), (78, .ifCond .eq 15, 3, 81), (81, .aload 7, 2, 83), (83, .iload 4, 2, 85), (85, .iload 5, 2, 87), (87, .invokevirtual 289, 3, 90), (90, .ifCond .ne 6, 3, 93), (93, .bipush (-12), 2, 95), (95, .ireturn, 1, 96), (96, .aload 6, 2, 98), (98, .getfield 292, 3, 101), (101, .iload_n 2, 1, 102), (102, .aload 7, 2, 104), (104, .getfield 292, 3, 107), (107, .iload 4, 2, 109), (109, .iload 5, 2, 111), (111, .invokestatic 295, 3, 114), (114, .iload 5, 2, 116), (116, .ireturn, 1, 117)]
def I_X8_copy : MI := (prog_1_method_45_code, 8, (some .int), "OpensAtNine", "copy", T_X8_copy, 0, 0, 2, 82)
theorem dT_X8_copy : ∀ q ∈ T_X8_copy, decode prog_1_method_45_code q.1 = .ok (q.2.1, q.2.2.1) ∧ q.2.2.2 = q.1 + q.2.2.1 := by decide +kernel
theorem xm_X8_copy : xCM y_X8_copy I_X8_copy 8 5 := ⟨⟨tw939, tw940⟩, tw69, tw941, ⟨xT8, 11, rfl⟩, ⟨by decide +kernel, by decide +kernel, by decide +kernel⟩⟩
noncomputable def f_X8_copy_14 (h : XM) : Option (Int32 × XM) := some ((-2 : Int32), h)
noncomputable def f_X8_copy_51 (h : XM) : Option (Int32 × XM) := some ((-11 : Int32), h)
noncomputable def f_X8_copy_93 (h : XM) : Option (Int32 × XM) := some ((-12 : Int32), h)
noncomputable def f_X8_copy (h : XM) (a0 : Option Nat) (a1 : Int32) (a2 : Int32) (a3 : Int32) (a4 : Int32) (a5 : Int32) : Option (Int32 × XM) := (f_X8_isSheet h a1).bind fun q1 => if q1.1 = 0 then (f_X8_copy_14 q1.2) else ((f_X8_isSheet q1.2 a3).bind fun q2 => if q2.1 = 0 then (f_X8_copy_14 q2.2) else ((gR q2.2 8 a0 8).bind fun v3 => (rR 14 q2.2 v3 a1).bind fun v4 => (gR q2.2 8 a0 8).bind fun v5 => (rR 14 q2.2 v5 a3).bind fun v6 => (gI q2.2 4 v4 1).bind fun v7 => if v7 = ((-1 : Int32)) then (f_X8_copy_51 q2.2) else ((gI q2.2 4 v6 1).bind fun v8 => if v8 = ((-1 : Int32)) then (f_X8_copy_51 q2.2) else ((gI q2.2 4 v4 1).bind fun v9 => (gI q2.2 4 v6 1).bind fun v10 => if v9 = v10 then ((vc q2.2 4 v4 (f_X4_hasRow q2.2 v4 a2 a5)).bind fun q11 => if q11.1 = 0 then (f_X8_copy_93 q11.2) else ((vc q11.2 4 v6 (f_X4_hasRow q11.2 v6 a4 a5)).bind fun q12 => if q12.1 = 0 then (f_X8_copy_93 q12.2) else ((gR q12.2 4 v4 0).bind fun v13 => (gR q12.2 4 v6 0).bind fun v14 => (cp q12.2 v13 a2 v14 a4 a5).bind fun h15 => some (a5, h15)))) else (some ((-13 : Int32), q2.2))))))
theorem b_X8_copy_14 (X : XX) (h : XM) : SW X I_X8_copy ρi 14 [] [] h 0 0 (f_X8_copy_14 h) := by
  unfold f_X8_copy_14
  refine s_bipush (i := 6) rfl (v := (-2 : Int32)) (by decide) ?_
  exact s_iret (i := 7) rfl rfl
theorem b_X8_copy_51 (X : XX) (h : XM) : SW X I_X8_copy ρi 51 [] [] h 0 0 (f_X8_copy_51 h) := by
  unfold f_X8_copy_51
  refine s_bipush (i := 26) rfl (v := (-11 : Int32)) (by decide) ?_
  exact s_iret (i := 27) rfl rfl
theorem b_X8_copy_93 (X : XX) (h : XM) : SW X I_X8_copy ρi 93 [] [] h 0 0 (f_X8_copy_93 h) := by
  unfold f_X8_copy_93
  refine s_bipush (i := 45) rfl (v := (-12 : Int32)) (by decide) ?_
  exact s_iret (i := 46) rfl rfl
theorem c_X8_copy (h : XM) (a0 : Option Nat) (a1 : Int32) (a2 : Int32) (a3 : Int32) (a4 : Int32) (a5 : Int32) : MC I_X8_copy y_X8_copy [tA a0, tI a1, tI a2, tI a3, tI a4, tI a5] h ρi (f_X8_copy h a0 a1 a2 a3 a4 a5) := by
  refine MC_of ⟨by decide +kernel, rfl, rfl, Nat.le_of_ble_eq_true rfl⟩ dT_X8_copy (fun X => ?_)
  show SW X I_X8_copy ρi 0 [(0, tA a0), (1, tI a1), (2, tI a2), (3, tI a3), (4, tI a4), (5, tI a5)] [] h 0 0 (f_X8_copy h a0 a1 a2 a3 a4 a5)
  unfold f_X8_copy
  refine s_iload_n (i := 0) rfl 1 rfl ?_
  refine u_callSi [tI a1] [] rfl (i := 1) rfl (c_X8_isSheet h a1) xm_X8_isSheet (tw841) rfl (Nat.le_of_ble_eq_true rfl) (xRm.of rfl) ⟨rfl, rfl⟩ (fun q1 => ?_)
  refine s_ifeq (i := 2) rfl (tgt := 14) (by decide) (fun z4 => ?_) (fun z4 => ?_)
  · exact s_sub [] rfl (b_X8_copy_14 X q1.2)
  · refine s_iload_n (i := 3) rfl 3 rfl ?_
    refine u_callSi [tI a3] [] rfl (i := 4) rfl (c_X8_isSheet q1.2 a3) xm_X8_isSheet (tw841) rfl (Nat.le_of_ble_eq_true rfl) (xRm.of rfl) ⟨rfl, rfl⟩ (fun q2 => ?_)
    refine s_ifne (i := 5) rfl (tgt := 17) (by decide) (fun z11 => ?_) (fun z11 => ?_)
    · exact s_sub [] rfl (b_X8_copy_14 X q2.2)
    · refine s_aload_n (i := 8) rfl 0 rfl ?_
      refine s_getR (i := 9) rfl xf_8_64.r rfl (fun v3 => ?_)
      refine s_iload_n (i := 10) rfl 1 rfl ?_
      refine s_aaload (i := 11) rfl (kk := 14) ⟨by decide, by decide⟩ (fun v4 => ?_)
      refine s_astore (i := 12) rfl (Nat.le_of_ble_eq_true rfl) (ls2 := [(6, tA v4), (0, tA a0), (1, tI a1), (2, tI a2), (3, tI a3), (4, tI a4), (5, tI a5)]) rfl ?_
      refine s_aload_n (i := 13) rfl 1 rfl ?_
      refine s_getR (i := 14) rfl xf_8_64.r rfl (fun v5 => ?_)
      refine s_iload_n (i := 15) rfl 4 rfl ?_
      refine s_aaload (i := 16) rfl (kk := 14) ⟨by decide, by decide⟩ (fun v6 => ?_)
      refine s_astore (i := 17) rfl (Nat.le_of_ble_eq_true rfl) (ls2 := [(7, tA v6), (6, tA v4), (0, tA a0), (1, tI a1), (2, tI a2), (3, tI a3), (4, tI a4), (5, tI a5)]) rfl ?_
      refine s_aload (i := 18) rfl 1 rfl ?_
      refine s_getI (i := 19) rfl xf_8_257.r rfl (fun v7 => ?_)
      refine s_iconst (i := 20) rfl (v := (-1 : Int32)) (by decide) ?_
      refine s_icmpeq (i := 21) rfl (tgt := 51) (by decide) (fun z39 => ?_) (fun z39 => ?_)
      · exact s_sub [] rfl (b_X8_copy_51 X q2.2)
      · refine s_aload (i := 22) rfl 0 rfl ?_
        refine s_getI (i := 23) rfl xf_8_257.r rfl (fun v8 => ?_)
        refine s_iconst (i := 24) rfl (v := (-1 : Int32)) (by decide) ?_
        refine s_icmpne (i := 25) rfl (tgt := 54) (by decide) (fun z48 => ?_) (fun z48 => ?_)
        · exact s_sub [] rfl (b_X8_copy_51 X q2.2)
        · refine s_aload (i := 28) rfl 1 rfl ?_
          refine s_getI (i := 29) rfl xf_8_257.r rfl (fun v9 => ?_)
          refine s_aload (i := 30) rfl 0 rfl ?_
          refine s_getI (i := 31) rfl xf_8_257.r rfl (fun v10 => ?_)
          refine s_icmpeq (i := 32) rfl (tgt := 70) (by decide) (fun z64 => ?_) (fun z64 => ?_)
          · refine s_aload (i := 35) rfl 1 rfl ?_
            refine s_iload_n (i := 36) rfl 4 rfl ?_
            refine s_iload (i := 37) rfl 7 rfl ?_
            refine u_callVi (kk := 4) [tI a2, tI a5] v4 [] rfl (i := 38) rfl (c_X4_hasRow q2.2 v4 a2 a5) xm_X4_hasRow (tw942) rfl (Nat.le_of_ble_eq_true rfl) (xRm.of rfl) ⟨rfl, rfl⟩ (fun q11 => ?_)
            refine s_ifeq (i := 39) rfl (tgt := 93) (by decide) (fun z78 => ?_) (fun z78 => ?_)
            · exact s_sub [] rfl (b_X8_copy_93 X q11.2)
            · refine s_aload (i := 40) rfl 0 rfl ?_
              refine s_iload (i := 41) rfl 6 rfl ?_
              refine s_iload (i := 42) rfl 7 rfl ?_
              refine u_callVi (kk := 4) [tI a4, tI a5] v6 [] rfl (i := 43) rfl (c_X4_hasRow q11.2 v6 a4 a5) xm_X4_hasRow (tw942) rfl (Nat.le_of_ble_eq_true rfl) (xRm.of rfl) ⟨rfl, rfl⟩ (fun q12 => ?_)
              refine s_ifne (i := 44) rfl (tgt := 96) (by decide) (fun z90 => ?_) (fun z90 => ?_)
              · exact s_sub [] rfl (b_X8_copy_93 X q12.2)
              · refine s_aload (i := 47) rfl 1 rfl ?_
                refine s_getR (i := 48) rfl xf_8_292 rfl (fun v13 => ?_)
                refine s_iload_n (i := 49) rfl 4 rfl ?_
                refine s_aload (i := 50) rfl 0 rfl ?_
                refine s_getR (i := 51) rfl xf_8_292 rfl (fun v14 => ?_)
                refine s_iload (i := 52) rfl 6 rfl ?_
                refine s_iload (i := 53) rfl 7 rfl ?_
                refine s_copy (i := 54) rfl ⟨tw946, tw450, tw449, tw83⟩ (Nat.le_of_ble_eq_true rfl) ⟨by decide, by decide⟩ (fun h15 => ?_)
                refine s_iload (i := 55) rfl 7 rfl ?_
                exact s_iret (i := 56) rfl rfl
          · refine s_bipush (i := 33) rfl (v := (-13 : Int32)) (by decide) ?_
            exact s_iret (i := 34) rfl rfl
def y_X8_coinsBy : MethodName := ⟨"OpensAtNine", "coinsBy", "(IIII)I"⟩
def T_X8_coinsBy : List (Nat × Instr × Nat × Nat) := [(0, .iload_n 1, 1, 1), (1, .invokestatic 254, 3, 4), (4, .ifCond .eq 24, 3, 7), (7, .iload_n 2, 1, 8), (8, .ifCond .lt 20, 3, 11), (11, .iload_n 2, 1, 12), (12, .iconst 2, 1, 13), (13, .if_icmp .gt 15, 3, 16), (16, .iload 4, 2, 18), (18, .ifCond .lt 10, 3, 21), (21, .iload 4, 2, 23), (23, .bipush 7, 2, 25), (25, .if_icmp .le 6, 3, 28), (28, .bipush (-2), 2, 30), (30, .ireturn, 1, 31), (31, .aload_n 0, 1, 32), (32, .getfield 64, 3, 35), (35, .iload_n 1, 1, 36), (36, .aaload, 1, 37), (37, .astore 5, 2, 39), (39, .aload 5, 2, 41), (41, .getfield 257, 3, 44), (44, .iconst (-1), 1, 45), (45, .if_icmp .ne 6, 3, 48), (48, .bipush (-11), 2, 50), (50, .ireturn, 1, 51), (51, .aload 5, 2, 53), (53, .getfield 257, 3, 56), (56, .iload_n 2, 1, 57), (57, .if_icmp .eq 6, 3, 60), (60, .bipush (-13), 2, 62), (62, .ireturn, 1, 63), (63, .iconst 0, 1, 64), (64, .istore 6, 2, 66), (66, .iconst 0, 1, 67), (67, .istore 7, 2, 69), (69, .iload 7, 2, 71), (71, .iload 4, 2, 73), (73, .if_icmp .ge 92, 3, 76), (76, .iload_n 3, 1, 77), (77, .ifCond .lt 27, 3, 80), (80, .iload_n 3, 1, 81), (81, .aload 5, 2, 83), (83, .getfield 260, 3, 86), (86, .if_icmp .gt 18, 3, 89), (89, .aload 5, 2, 91), (91, .iload_n 3, 1, 92), (92, .iconst 4, 1, 93), (93, .iload 7, 2, 95), (95, .imul, 1, 96), (96, .iadd, 1, 97), (97, .iconst 4, 1, 98), (98, .invokevirtual 289, 3, 101), (101, .ifCond .ne 6, 3, 104), (104, .bipush (-12), 2, 106), (106, .ireturn, 1, 107), (107, .iload_n 3, 1, 108), (108, .iconst 4, 1, 109), (109, .iload 7, 2, 111), (111, .imul, 1, 112), (112, .iadd, 1, 113), (113, .istore 8, 2, 115), (115, .aload_n 0, 1, 116), (116, .aload 5, 2, 118), (118, .iload 8, 2, 120), (120, .invokevirtual 265, 3, 123), (123, .aload 5, 2, 125), (125, .iload 8, 2, 127), (127, .iconst 1, 1, 128), (128, .iadd, 1, 129), (129, .invokevirtual 265, 3, 132), (132, .aload 5, 2, 134), (134, .iload 8, 2, 136), (136, .iconst 2, 1, 137), (137, .iadd, 1, 138), (138, .invokevirtual 265, 3, 141), (141, .aload 5, 2, 143), (143, .iload 8, 2, 145), (145, .iconst 3, 1, 146), (146, .iadd, 1, 147), (147, .invokevirtual 265, 3, 150), (150, .invokevirtual 301, 3, 153), (153, .ifCond .lt 6, 3, 156), (156, .iinc 6 1, 3, 159), (159, .iinc 7 1, 3, 162), (162, .goto (-93), 3, 165), (165, .iload 6, 2, 167), (167, .ireturn, 1, 168)]
def I_X8_coinsBy : MI := (prog_1_method_46_code, 9, (some .int), "OpensAtNine", "coinsBy", T_X8_coinsBy, 9, 27, 3, 108)
theorem dT_X8_coinsBy : ∀ q ∈ T_X8_coinsBy, decode prog_1_method_46_code q.1 = .ok (q.2.1, q.2.2.1) ∧ q.2.2.2 = q.1 + q.2.2.1 := by decide +kernel
theorem xm_X8_coinsBy : xCM y_X8_coinsBy I_X8_coinsBy 8 4 := ⟨⟨tw948, tw949⟩, tw69, tw950, ⟨xT8, 11, rfl⟩, ⟨by decide +kernel, by decide +kernel, by decide +kernel⟩⟩
noncomputable def f_X8_coinsBy_28 (h : XM) : Option (Int32 × XM) := some ((-2 : Int32), h)
noncomputable def f_X8_coinsBy_104 (h : XM) : Option (Int32 × XM) := some ((-12 : Int32), h)
noncomputable def f_X8_coinsBy_159 (k_69 : XM → Option Nat → Int32 → Int32 → Option Nat → Int32 → Int32 → Option (Int32 × XM)) (h : XM) (l0 : Option Nat) (l3 : Int32) (l4 : Int32) (l5 : Option Nat) (l6 : Int32) (l7 : Int32) : Option (Int32 × XM) := bnd (l7 + (1 : Int32)) fun v1 => k_69 h l0 l3 l4 l5 l6 v1
noncomputable def fb_X8_coinsBy_69 (k_69 : XM → Option Nat → Int32 → Int32 → Option Nat → Int32 → Int32 → Option (Int32 × XM)) (h : XM) (l0 : Option Nat) (l3 : Int32) (l4 : Int32) (l5 : Option Nat) (l6 : Int32) (l7 : Int32) : Option (Int32 × XM) := if l7 < l4 then (if l3 < 0 then (f_X8_coinsBy_104 h) else ((gI h 4 l5 2).bind fun v2 => if v2 < l3 then (f_X8_coinsBy_104 h) else ((vc h 4 l5 (f_X4_hasRow h l5 (l3 + (((4 : Int32)) * l7)) ((4 : Int32)))).bind fun q3 => if q3.1 = 0 then (f_X8_coinsBy_104 q3.2) else (bnd (l3 + (((4 : Int32)) * l7)) fun v4 => (vc q3.2 4 l5 (f_X4_at q3.2 l5 v4)).bind fun q5 => (vc q5.2 4 l5 (f_X4_at q5.2 l5 (v4 + ((1 : Int32))))).bind fun q6 => (vc q6.2 4 l5 (f_X4_at q6.2 l5 (v4 + ((2 : Int32))))).bind fun q7 => (vc q7.2 4 l5 (f_X4_at q7.2 l5 (v4 + ((3 : Int32))))).bind fun q8 => (vc q8.2 8 l0 (f_X8_coin q8.2 l0 q5.1 q6.1 q7.1 q8.1)).bind fun q9 => if q9.1 < 0 then (f_X8_coinsBy_159 k_69 q9.2 l0 l3 l4 l5 l6 l7) else (bnd (l6 + (1 : Int32)) fun v10 => f_X8_coinsBy_159 k_69 q9.2 l0 l3 l4 l5 v10 l7))))) else (some (l6, h))
noncomputable def f_X8_coinsBy_69 (n : Nat) : XM → Option Nat → Int32 → Int32 → Option Nat → Int32 → Int32 → Option (Int32 × XM) := Nat.rec (motive := fun _ => XM → Option Nat → Int32 → Int32 → Option Nat → Int32 → Int32 → Option (Int32 × XM)) (fun _ _ _ _ _ _ _ => none) (fun _ ih h l0 l3 l4 l5 l6 l7 => fb_X8_coinsBy_69 ih h l0 l3 l4 l5 l6 l7) n
noncomputable def f_X8_coinsBy (h : XM) (a0 : Option Nat) (a1 : Int32) (a2 : Int32) (a3 : Int32) (a4 : Int32) : Option (Int32 × XM) := (f_X8_isSheet h a1).bind fun q11 => if q11.1 = 0 then (f_X8_coinsBy_28 q11.2) else (if a2 < 0 then (f_X8_coinsBy_28 q11.2) else (if ((2 : Int32)) < a2 then (f_X8_coinsBy_28 q11.2) else (if a4 < 0 then (f_X8_coinsBy_28 q11.2) else (if ((7 : Int32)) < a4 then (f_X8_coinsBy_28 q11.2) else ((gR q11.2 8 a0 8).bind fun v12 => (rR 14 q11.2 v12 a1).bind fun v13 => (gI q11.2 4 v13 1).bind fun v14 => if v14 = ((-1 : Int32)) then (some ((-11 : Int32), q11.2)) else ((gI q11.2 4 v13 1).bind fun v15 => if v15 = a2 then (f_X8_coinsBy_69 9 q11.2 a0 a3 a4 v13 ((0 : Int32)) ((0 : Int32))) else (some ((-13 : Int32), q11.2))))))))
theorem b_X8_coinsBy_28 (X : XX) (h : XM) : SW X I_X8_coinsBy ρi 28 [] [] h 0 0 (f_X8_coinsBy_28 h) := by
  unfold f_X8_coinsBy_28
  refine s_bipush (i := 13) rfl (v := (-2 : Int32)) (by decide) ?_
  refine s_bud 0 0 (by omega) (by omega) ?_
  exact s_iret (i := 14) rfl rfl
theorem b_X8_coinsBy_104 (X : XX) (h : XM) : SW X I_X8_coinsBy ρi 104 [] [] h 0 0 (f_X8_coinsBy_104 h) := by
  unfold f_X8_coinsBy_104
  refine s_bipush (i := 54) rfl (v := (-12 : Int32)) (by decide) ?_
  refine s_bud 0 0 (by omega) (by omega) ?_
  exact s_iret (i := 55) rfl rfl
theorem b_X8_coinsBy_159 (X : XX) (k_69 : XM → Option Nat → Int32 → Int32 → Option Nat → Int32 → Int32 → Option (Int32 × XM)) (bc bs : Nat) (hb : 0 ≤ bc ∧ 0 ≤ bs) (hk_69 : ∀ h l0 l3 l4 l5 l6 l7, SW X I_X8_coinsBy ρi 69 [(0, tA l0), (3, tI l3), (4, tI l4), (5, tA l5), (6, tI l6), (7, tI l7)] [] h bc bs (k_69 h l0 l3 l4 l5 l6 l7)) (h : XM) (l0 : Option Nat) (l3 : Int32) (l4 : Int32) (l5 : Option Nat) (l6 : Int32) (l7 : Int32) : SW X I_X8_coinsBy ρi 159 [(0, tA l0), (3, tI l3), (4, tI l4), (5, tA l5), (6, tI l6), (7, tI l7)] [] h (0 + bc) (0 + bs) (f_X8_coinsBy_159 k_69 h l0 l3 l4 l5 l6 l7) := by
  unfold f_X8_coinsBy_159
  refine s_inc (i := 84) rfl 5 rfl (c9 := (1 : Int32)) (by decide) (Nat.le_of_ble_eq_true rfl) (fun v1 => ?_)
  refine s_ls (ls2 := [(7, tI v1), (0, tA l0), (3, tI l3), (4, tI l4), (5, tA l5), (6, tI l6)]) rfl ?_
  refine s_bud (0 + bc) (0 + bs) (by omega) (by omega) ?_
  refine s_goto (i := 85) rfl (tgt := 69) (by decide) ?_
  refine s_bud bc bs (by omega) (by omega) ?_
  exact s_sub [1, 2, 3, 4, 5, 0] rfl (hk_69 h l0 l3 l4 l5 l6 v1)
theorem bb_X8_coinsBy_69 (X : XX) (k_69 : XM → Option Nat → Int32 → Int32 → Option Nat → Int32 → Int32 → Option (Int32 × XM)) (bc bs : Nat) (hb : 0 ≤ bc ∧ 0 ≤ bs) (hk_69 : ∀ h l0 l3 l4 l5 l6 l7, SW X I_X8_coinsBy ρi 69 [(0, tA l0), (3, tI l3), (4, tI l4), (5, tA l5), (6, tI l6), (7, tI l7)] [] h bc bs (k_69 h l0 l3 l4 l5 l6 l7)) (h : XM) (l0 : Option Nat) (l3 : Int32) (l4 : Int32) (l5 : Option Nat) (l6 : Int32) (l7 : Int32) : SW X I_X8_coinsBy ρi 69 [(0, tA l0), (3, tI l3), (4, tI l4), (5, tA l5), (6, tI l6), (7, tI l7)] [] h (1 + bc) (3 + bs) (fb_X8_coinsBy_69 k_69 h l0 l3 l4 l5 l6 l7) := by
  unfold fb_X8_coinsBy_69
  refine s_iload (i := 36) rfl 5 rfl ?_
  refine s_bud (1 + bc) (3 + bs) (by omega) (by omega) ?_
  refine s_iload (i := 37) rfl 2 rfl ?_
  refine s_bud (1 + bc) (3 + bs) (by omega) (by omega) ?_
  refine s_icmpge (i := 38) rfl (tgt := 165) (by decide) (fun z73 => ?_) (fun z73 => ?_)
  · refine s_bud (1 + bc) (3 + bs) (by omega) (by omega) ?_
    refine s_iload_n (i := 39) rfl 1 rfl ?_
    refine s_bud (1 + bc) (3 + bs) (by omega) (by omega) ?_
    refine s_iflt (i := 40) rfl (tgt := 104) (by decide) (fun z77 => ?_) (fun z77 => ?_)
    · refine s_bud 0 0 (by omega) (by omega) ?_
      exact s_sub [] rfl (b_X8_coinsBy_104 X h)
    · refine s_bud (1 + bc) (3 + bs) (by omega) (by omega) ?_
      refine s_iload_n (i := 41) rfl 1 rfl ?_
      refine s_bud (1 + bc) (3 + bs) (by omega) (by omega) ?_
      refine s_aload (i := 42) rfl 3 rfl ?_
      refine s_bud (1 + bc) (3 + bs) (by omega) (by omega) ?_
      refine s_getI (i := 43) rfl xf_8_260.r rfl (fun v2 => ?_)
      refine s_bud (1 + bc) (3 + bs) (by omega) (by omega) ?_
      refine s_icmpgt (i := 44) rfl (tgt := 104) (by decide) (fun z86 => ?_) (fun z86 => ?_)
      · refine s_bud 0 0 (by omega) (by omega) ?_
        exact s_sub [] rfl (b_X8_coinsBy_104 X h)
      · refine s_bud (1 + bc) (3 + bs) (by omega) (by omega) ?_
        refine s_aload (i := 45) rfl 3 rfl ?_
        refine s_bud (1 + bc) (3 + bs) (by omega) (by omega) ?_
        refine s_iload_n (i := 46) rfl 1 rfl ?_
        refine s_bud (1 + bc) (3 + bs) (by omega) (by omega) ?_
        refine s_iconst (i := 47) rfl (v := (4 : Int32)) (by decide) ?_
        refine s_bud (1 + bc) (3 + bs) (by omega) (by omega) ?_
        refine s_iload (i := 48) rfl 5 rfl ?_
        refine s_bud (1 + bc) (3 + bs) (by omega) (by omega) ?_
        refine s_imul (i := 49) rfl ?_
        refine s_bud (1 + bc) (3 + bs) (by omega) (by omega) ?_
        refine s_iadd (i := 50) rfl ?_
        refine s_bud (1 + bc) (3 + bs) (by omega) (by omega) ?_
        refine s_iconst (i := 51) rfl (v := (4 : Int32)) (by decide) ?_
        refine s_bud (1 + bc) (3 + bs) (by omega) (by omega) ?_
        refine u_callVi (kk := 4) [tI (l3 + (((4 : Int32)) * l7)), tI ((4 : Int32))] l5 [] rfl (i := 52) rfl (c_X4_hasRow h l5 (l3 + (((4 : Int32)) * l7)) ((4 : Int32))) xm_X4_hasRow (tw942) rfl (Nat.le_of_ble_eq_true rfl) (xRm.of rfl) ⟨rfl, rfl⟩ (fun q3 => ?_)
        refine s_bud (1 + bc) (3 + bs) (by omega) (by omega) ?_
        refine s_ifne (i := 53) rfl (tgt := 107) (by decide) (fun z101 => ?_) (fun z101 => ?_)
        · refine s_bud 0 0 (by omega) (by omega) ?_
          exact s_sub [] rfl (b_X8_coinsBy_104 X q3.2)
        · refine s_bud (1 + bc) (3 + bs) (by omega) (by omega) ?_
          refine s_iload_n (i := 56) rfl 1 rfl ?_
          refine s_bud (1 + bc) (3 + bs) (by omega) (by omega) ?_
          refine s_iconst (i := 57) rfl (v := (4 : Int32)) (by decide) ?_
          refine s_bud (1 + bc) (3 + bs) (by omega) (by omega) ?_
          refine s_iload (i := 58) rfl 5 rfl ?_
          refine s_bud (1 + bc) (3 + bs) (by omega) (by omega) ?_
          refine s_imul (i := 59) rfl ?_
          refine s_bud (1 + bc) (3 + bs) (by omega) (by omega) ?_
          refine s_iadd (i := 60) rfl ?_
          refine s_bud (1 + bc) (3 + bs) (by omega) (by omega) ?_
          refine s_bnd (fun v4 => ?_)
          refine s_istore (i := 61) rfl (Nat.le_of_ble_eq_true rfl) (ls2 := [(8, tI v4), (0, tA l0), (3, tI l3), (4, tI l4), (5, tA l5), (6, tI l6), (7, tI l7)]) rfl ?_
          refine s_bud (1 + bc) (3 + bs) (by omega) (by omega) ?_
          refine s_aload_n (i := 62) rfl 1 rfl ?_
          refine s_bud (1 + bc) (3 + bs) (by omega) (by omega) ?_
          refine s_aload (i := 63) rfl 4 rfl ?_
          refine s_bud (1 + bc) (3 + bs) (by omega) (by omega) ?_
          refine s_iload (i := 64) rfl 0 rfl ?_
          refine s_bud (1 + bc) (3 + bs) (by omega) (by omega) ?_
          refine u_callVi (kk := 4) [tI v4] l5 [tA l0] rfl (i := 65) rfl (c_X4_at q3.2 l5 v4) xm_X4_at (tw876) rfl (Nat.le_of_ble_eq_true rfl) (xRm.of rfl) ⟨rfl, rfl⟩ (fun q5 => ?_)
          refine s_bud (1 + bc) (3 + bs) (by omega) (by omega) ?_
          refine s_aload (i := 66) rfl 4 rfl ?_
          refine s_bud (1 + bc) (3 + bs) (by omega) (by omega) ?_
          refine s_iload (i := 67) rfl 0 rfl ?_
          refine s_bud (1 + bc) (3 + bs) (by omega) (by omega) ?_
          refine s_iconst (i := 68) rfl (v := (1 : Int32)) (by decide) ?_
          refine s_bud (1 + bc) (3 + bs) (by omega) (by omega) ?_
          refine s_iadd (i := 69) rfl ?_
          refine s_bud (1 + bc) (3 + bs) (by omega) (by omega) ?_
          refine u_callVi (kk := 4) [tI (v4 + ((1 : Int32)))] l5 [tI q5.1, tA l0] rfl (i := 70) rfl (c_X4_at q5.2 l5 (v4 + ((1 : Int32)))) xm_X4_at (tw876) rfl (Nat.le_of_ble_eq_true rfl) (xRm.of rfl) ⟨rfl, rfl⟩ (fun q6 => ?_)
          refine s_bud (1 + bc) (3 + bs) (by omega) (by omega) ?_
          refine s_aload (i := 71) rfl 4 rfl ?_
          refine s_bud (1 + bc) (3 + bs) (by omega) (by omega) ?_
          refine s_iload (i := 72) rfl 0 rfl ?_
          refine s_bud (1 + bc) (3 + bs) (by omega) (by omega) ?_
          refine s_iconst (i := 73) rfl (v := (2 : Int32)) (by decide) ?_
          refine s_bud (1 + bc) (3 + bs) (by omega) (by omega) ?_
          refine s_iadd (i := 74) rfl ?_
          refine s_bud (1 + bc) (3 + bs) (by omega) (by omega) ?_
          refine u_callVi (kk := 4) [tI (v4 + ((2 : Int32)))] l5 [tI q6.1, tI q5.1, tA l0] rfl (i := 75) rfl (c_X4_at q6.2 l5 (v4 + ((2 : Int32)))) xm_X4_at (tw876) rfl (Nat.le_of_ble_eq_true rfl) (xRm.of rfl) ⟨rfl, rfl⟩ (fun q7 => ?_)
          refine s_bud (1 + bc) (3 + bs) (by omega) (by omega) ?_
          refine s_aload (i := 76) rfl 4 rfl ?_
          refine s_bud (1 + bc) (3 + bs) (by omega) (by omega) ?_
          refine s_iload (i := 77) rfl 0 rfl ?_
          refine s_bud (1 + bc) (3 + bs) (by omega) (by omega) ?_
          refine s_iconst (i := 78) rfl (v := (3 : Int32)) (by decide) ?_
          refine s_bud (1 + bc) (3 + bs) (by omega) (by omega) ?_
          refine s_iadd (i := 79) rfl ?_
          refine s_bud (1 + bc) (3 + bs) (by omega) (by omega) ?_
          refine u_callVi (kk := 4) [tI (v4 + ((3 : Int32)))] l5 [tI q7.1, tI q6.1, tI q5.1, tA l0] rfl (i := 80) rfl (c_X4_at q7.2 l5 (v4 + ((3 : Int32)))) xm_X4_at (tw876) rfl (Nat.le_of_ble_eq_true rfl) (xRm.of rfl) ⟨rfl, rfl⟩ (fun q8 => ?_)
          refine s_bud (1 + bc) (3 + bs) (by omega) (by omega) ?_
          refine s_bud (1 + (0 + bc)) (3 + (0 + bs)) (by omega) (by omega) ?_
          refine t_callVi (kk := 8) [tI q5.1, tI q6.1, tI q7.1, tI q8.1] l0 [] rfl (i := 81) rfl (c_X8_coin q8.2 l0 q5.1 q6.1 q7.1 q8.1) xm_X8_coin (tw951) rfl (Nat.le_of_ble_eq_true rfl) (xRm.of rfl) (fun q9 => ?_)
          refine s_bud (0 + bc) (0 + bs) (by omega) (by omega) ?_
          refine s_iflt (i := 82) rfl (tgt := 159) (by decide) (fun z153 => ?_) (fun z153 => ?_)
          · refine s_bud (0 + bc) (0 + bs) (by omega) (by omega) ?_
            exact s_sub [1, 2, 3, 4, 5, 6] rfl (b_X8_coinsBy_159 X k_69 bc bs hb hk_69 q9.2 l0 l3 l4 l5 l6 l7)
          · refine s_bud (0 + bc) (0 + bs) (by omega) (by omega) ?_
            refine s_inc (i := 83) rfl 5 rfl (c9 := (1 : Int32)) (by decide) (Nat.le_of_ble_eq_true rfl) (fun v10 => ?_)
            refine s_ls (ls2 := [(6, tI v10), (8, tI v4), (0, tA l0), (3, tI l3), (4, tI l4), (5, tA l5), (7, tI l7)]) rfl ?_
            refine s_bud (0 + bc) (0 + bs) (by omega) (by omega) ?_
            exact s_sub [2, 3, 4, 5, 0, 6] rfl (b_X8_coinsBy_159 X k_69 bc bs hb hk_69 q9.2 l0 l3 l4 l5 v10 l7)
  · refine s_bud 0 0 (by omega) (by omega) ?_
    refine s_iload (i := 86) rfl 4 rfl ?_
    refine s_bud 0 0 (by omega) (by omega) ?_
    exact s_iret (i := 87) rfl rfl
theorem b_X8_coinsBy_69 (X : XX) : ∀ (n : Nat) (h : XM) (l0 : Option Nat) (l3 : Int32) (l4 : Int32) (l5 : Option Nat) (l6 : Int32) (l7 : Int32), SW X I_X8_coinsBy ρi 69 [(0, tA l0), (3, tI l3), (4, tI l4), (5, tA l5), (6, tI l6), (7, tI l7)] [] h (n * 1 + 0) (n * 3 + 0) (f_X8_coinsBy_69 n h l0 l3 l4 l5 l6 l7) := by
  intro n
  induction n with
  | zero =>
    intro h l0 l3 l4 l5 l6 l7
    exact s_none
  | succ n ih =>
    intro h l0 l3 l4 l5 l6 l7
    refine s_bud (1 + (n * 1 + 0)) (3 + (n * 3 + 0)) (by rw [Nat.succ_mul]; omega) (by rw [Nat.succ_mul]; omega) ?_
    exact bb_X8_coinsBy_69 X (f_X8_coinsBy_69 n) (n * 1 + 0) (n * 3 + 0) ⟨by omega, by omega⟩ ih h l0 l3 l4 l5 l6 l7
theorem c_X8_coinsBy (h : XM) (a0 : Option Nat) (a1 : Int32) (a2 : Int32) (a3 : Int32) (a4 : Int32) : MC I_X8_coinsBy y_X8_coinsBy [tA a0, tI a1, tI a2, tI a3, tI a4] h ρi (f_X8_coinsBy h a0 a1 a2 a3 a4) := by
  refine MC_of ⟨by decide +kernel, rfl, rfl, Nat.le_of_ble_eq_true rfl⟩ dT_X8_coinsBy (fun X => ?_)
  show SW X I_X8_coinsBy ρi 0 [(0, tA a0), (1, tI a1), (2, tI a2), (3, tI a3), (4, tI a4)] [] h 9 27 (f_X8_coinsBy h a0 a1 a2 a3 a4)
  unfold f_X8_coinsBy
  refine s_iload_n (i := 0) rfl 1 rfl ?_
  refine s_bud 9 27 (by omega) (by omega) ?_
  refine u_callSi [tI a1] [] rfl (i := 1) rfl (c_X8_isSheet h a1) xm_X8_isSheet (tw841) rfl (Nat.le_of_ble_eq_true rfl) (xRm.of rfl) ⟨rfl, rfl⟩ (fun q11 => ?_)
  refine s_bud 9 27 (by omega) (by omega) ?_
  refine s_ifeq (i := 2) rfl (tgt := 28) (by decide) (fun z4 => ?_) (fun z4 => ?_)
  · refine s_bud 0 0 (by omega) (by omega) ?_
    exact s_sub [] rfl (b_X8_coinsBy_28 X q11.2)
  · refine s_bud 9 27 (by omega) (by omega) ?_
    refine s_iload_n (i := 3) rfl 2 rfl ?_
    refine s_bud 9 27 (by omega) (by omega) ?_
    refine s_iflt (i := 4) rfl (tgt := 28) (by decide) (fun z8 => ?_) (fun z8 => ?_)
    · refine s_bud 0 0 (by omega) (by omega) ?_
      exact s_sub [] rfl (b_X8_coinsBy_28 X q11.2)
    · refine s_bud 9 27 (by omega) (by omega) ?_
      refine s_iload_n (i := 5) rfl 2 rfl ?_
      refine s_bud 9 27 (by omega) (by omega) ?_
      refine s_iconst (i := 6) rfl (v := (2 : Int32)) (by decide) ?_
      refine s_bud 9 27 (by omega) (by omega) ?_
      refine s_icmpgt (i := 7) rfl (tgt := 28) (by decide) (fun z13 => ?_) (fun z13 => ?_)
      · refine s_bud 0 0 (by omega) (by omega) ?_
        exact s_sub [] rfl (b_X8_coinsBy_28 X q11.2)
      · refine s_bud 9 27 (by omega) (by omega) ?_
        refine s_iload (i := 8) rfl 4 rfl ?_
        refine s_bud 9 27 (by omega) (by omega) ?_
        refine s_iflt (i := 9) rfl (tgt := 28) (by decide) (fun z18 => ?_) (fun z18 => ?_)
        · refine s_bud 0 0 (by omega) (by omega) ?_
          exact s_sub [] rfl (b_X8_coinsBy_28 X q11.2)
        · refine s_bud 9 27 (by omega) (by omega) ?_
          refine s_iload (i := 10) rfl 4 rfl ?_
          refine s_bud 9 27 (by omega) (by omega) ?_
          refine s_bipush (i := 11) rfl (v := (7 : Int32)) (by decide) ?_
          refine s_bud 9 27 (by omega) (by omega) ?_
          refine s_icmple (i := 12) rfl (tgt := 31) (by decide) (fun z25 => ?_) (fun z25 => ?_)
          · refine s_bud 0 0 (by omega) (by omega) ?_
            exact s_sub [] rfl (b_X8_coinsBy_28 X q11.2)
          · refine s_bud 9 27 (by omega) (by omega) ?_
            refine s_aload_n (i := 15) rfl 0 rfl ?_
            refine s_bud 9 27 (by omega) (by omega) ?_
            refine s_getR (i := 16) rfl xf_8_64.r rfl (fun v12 => ?_)
            refine s_bud 9 27 (by omega) (by omega) ?_
            refine s_iload_n (i := 17) rfl 1 rfl ?_
            refine s_bud 9 27 (by omega) (by omega) ?_
            refine s_aaload (i := 18) rfl (kk := 14) ⟨by decide, by decide⟩ (fun v13 => ?_)
            refine s_bud 9 27 (by omega) (by omega) ?_
            refine s_astore (i := 19) rfl (Nat.le_of_ble_eq_true rfl) (ls2 := [(5, tA v13), (0, tA a0), (1, tI a1), (2, tI a2), (3, tI a3), (4, tI a4)]) rfl ?_
            refine s_bud 9 27 (by omega) (by omega) ?_
            refine s_aload (i := 20) rfl 0 rfl ?_
            refine s_bud 9 27 (by omega) (by omega) ?_
            refine s_getI (i := 21) rfl xf_8_257.r rfl (fun v14 => ?_)
            refine s_bud 9 27 (by omega) (by omega) ?_
            refine s_iconst (i := 22) rfl (v := (-1 : Int32)) (by decide) ?_
            refine s_bud 9 27 (by omega) (by omega) ?_
            refine s_icmpne (i := 23) rfl (tgt := 51) (by decide) (fun z45 => ?_) (fun z45 => ?_)
            · refine s_bud 0 0 (by omega) (by omega) ?_
              refine s_bipush (i := 24) rfl (v := (-11 : Int32)) (by decide) ?_
              refine s_bud 0 0 (by omega) (by omega) ?_
              exact s_iret (i := 25) rfl rfl
            · refine s_bud 9 27 (by omega) (by omega) ?_
              refine s_aload (i := 26) rfl 0 rfl ?_
              refine s_bud 9 27 (by omega) (by omega) ?_
              refine s_getI (i := 27) rfl xf_8_257.r rfl (fun v15 => ?_)
              refine s_bud 9 27 (by omega) (by omega) ?_
              refine s_iload_n (i := 28) rfl 3 rfl ?_
              refine s_bud 9 27 (by omega) (by omega) ?_
              refine s_icmpeq (i := 29) rfl (tgt := 63) (by decide) (fun z57 => ?_) (fun z57 => ?_)
              · refine s_bud 9 27 (by omega) (by omega) ?_
                refine s_iconst (i := 32) rfl (v := (0 : Int32)) (by decide) ?_
                refine s_bud 9 27 (by omega) (by omega) ?_
                refine s_istore (i := 33) rfl (Nat.le_of_ble_eq_true rfl) (ls2 := [(6, tI ((0 : Int32))), (5, tA v13), (0, tA a0), (1, tI a1), (2, tI a2), (3, tI a3), (4, tI a4)]) rfl ?_
                refine s_bud 9 27 (by omega) (by omega) ?_
                refine s_iconst (i := 34) rfl (v := (0 : Int32)) (by decide) ?_
                refine s_bud 9 27 (by omega) (by omega) ?_
                refine s_istore (i := 35) rfl (Nat.le_of_ble_eq_true rfl) (ls2 := [(7, tI ((0 : Int32))), (6, tI ((0 : Int32))), (5, tA v13), (0, tA a0), (1, tI a1), (2, tI a2), (3, tI a3), (4, tI a4)]) rfl ?_
                refine s_bud (9 * 1 + 0) (9 * 3 + 0) (by omega) (by omega) ?_
                exact s_sub [3, 6, 7, 2, 1, 0] rfl (b_X8_coinsBy_69 X 9 q11.2 a0 a3 a4 v13 ((0 : Int32)) ((0 : Int32)))
              · refine s_bud 0 0 (by omega) (by omega) ?_
                refine s_bipush (i := 30) rfl (v := (-13 : Int32)) (by decide) ?_
                refine s_bud 0 0 (by omega) (by omega) ?_
                exact s_iret (i := 31) rfl rfl
def y_X8_taken : MethodName := ⟨"OpensAtNine", "taken", "(II)I"⟩
def T_X8_taken : List (Nat × Instr × Nat × Nat) := [(0, .iload_n 2, 1, 1), (1, .ifCond .lt 9, 3, 4), (4, .iload_n 2, 1, 5), (5, .bipush 6, 2, 7), (7, .if_icmp .le 6, 3, 10), (10, .bipush (-2), 2, 12), (12, .ireturn, 1, 13), (13, .iload_n 1, 1, 14), (14, .ifCond .lt 9, 3, 17), (17, .iload_n 1, 1, 18), (18, .bipush 11, 2, 20), (20, .if_icmp .lt 6, 3, 23), (23, .bipush (-12), 2, 25), (25, .ireturn, 1, 26), (26, .iload_n 1, 1, 27), (27, .iconst 4, 1, 28), (28, .if_icmp .ge 51, 3, 31), (31, .aload_n 0, 1, 32), (32, .getfield 26, 3, 35), (35, .iload_n 1, 1, 36), (36, .invokevirtual 99, 3, 39), (39, .ifCond .eq 14, 3, 42), (42, .aload_n 0, 1, 43), (43, .getfield 26, 3, 46), (46, .iload_n 1, 1, 47), (47, .invokevirtual 103, 3, 50), (50, .ifCond .ne 6, 3, 53), (53, .bipush (-11), 2, 55), (55, .ireturn, 1, 56), (56, .iload_n 2, 1, 57), (57, .bipush 6, 2, 59), (59, .if_icmp .ne 17, 3, 62), (62, .aload_n 0, 1, 63), (63, .getfield 26, 3, 66), (66, .iload_n 1, 1, 67), (67, .invokevirtual 206, 3, 70), (70, .invokestatic 225, 3, 73), (73, .goto 5, 3, 76), (76, .bipush (-13), 2, 78), (78, .ireturn, 1, 79), (79, .iload_n 1, 1, 80), (80, .iconst 4, 1, 81), (81, .isub, 1, 82), (82, .istore_n 3, 1, 83), (83, .aload_n 0, 1, 84), (84, .getfield 26, 3, 87), (87, .iload_n 3, 1, 88), (88, .invokevirtual 139, 3, 91), (91, .astore 4, 2, 93), (93, .aload 4, 2, 95), (95, .ifnull 14, 3, 98), (98, .aload_n 0, 1, 99), (99, .getfield 26, 3, 102), (102, .iload_n 3, 1, 103), (103, .invokevirtual 143, 3, 106), (106, .ifCond .eq 6, 3, 109), (109, .bipush (-11), 2, 111), (111, .ireturn, 1, 112), (112, .aload 4, 2, 114), (114, .iload_n 2, 1, 115), (115, .invokevirtual 305, 3, 118), (118, .ifCond .eq 7, 3, 121), (121, .iload_n 3, 1, 122), (122, .goto 5, 3, 125), (125, .bipush (-13), 2, 127), (127, .ireturn, 1, 128)]
def I_X8_taken : MI := (prog_1_method_47_code, 5, (some .int), "OpensAtNine", "taken", T_X8_taken, 0, 0, 2, 81)
theorem dT_X8_taken : ∀ q ∈ T_X8_taken, decode prog_1_method_47_code q.1 = .ok (q.2.1, q.2.2.1) ∧ q.2.2.2 = q.1 + q.2.2.1 := by decide +kernel
theorem xm_X8_taken : xCM y_X8_taken I_X8_taken 8 2 := ⟨⟨tw953, tw954⟩, tw69, tw955, ⟨xT8, 11, rfl⟩, ⟨by decide +kernel, by decide +kernel, by decide +kernel⟩⟩
noncomputable def f_X8_taken_10 (h : XM) : Option (Int32 × XM) := some ((-2 : Int32), h)
noncomputable def f_X8_taken_23 (h : XM) : Option (Int32 × XM) := some ((-12 : Int32), h)
noncomputable def f_X8_taken_53 (h : XM) : Option (Int32 × XM) := some ((-11 : Int32), h)
noncomputable def f_X8_taken_78 (h : XM) (s0 : Int32) : Option (Int32 × XM) := some (s0, h)
noncomputable def f_X8_taken_109 (h : XM) : Option (Int32 × XM) := some ((-11 : Int32), h)
noncomputable def f_X8_taken_127 (h : XM) (s0 : Int32) : Option (Int32 × XM) := some (s0, h)
noncomputable def f_X8_taken (h : XM) (a0 : Option Nat) (a1 : Int32) (a2 : Int32) : Option (Int32 × XM) := if a2 < 0 then (f_X8_taken_10 h) else (if ((6 : Int32)) < a2 then (f_X8_taken_10 h) else (if a1 < 0 then (f_X8_taken_23 h) else (if a1 < ((11 : Int32)) then (if a1 < ((4 : Int32)) then ((gR h 8 a0 2).bind fun v1 => (vc h 1 v1 (f_X1_isOne h v1 a1)).bind fun q2 => if q2.1 = 0 then (f_X8_taken_53 q2.2) else ((gR q2.2 8 a0 2).bind fun v3 => (vc q2.2 1 v3 (f_X1_isInside q2.2 v3 a1)).bind fun q4 => if q4.1 = 0 then (f_X8_taken_53 q4.2) else (if a2 = ((6 : Int32)) then ((gR q4.2 8 a0 2).bind fun v5 => (vc q4.2 1 v5 (f_X1_leftOf q4.2 v5 a1)).bind fun q6 => (f_J6_bitCount q6.2 q6.1).bind fun q7 => f_X8_taken_78 q7.2 q7.1) else (f_X8_taken_78 q4.2 ((-13 : Int32)))))) else (bnd (a1 - ((4 : Int32))) fun v8 => (gR h 8 a0 2).bind fun v9 => (vc h 1 v9 (f_X1_coinAt h v9 v8)).bind fun q10 => if q10.1 = none then (f_X8_taken_109 q10.2) else ((gR q10.2 8 a0 2).bind fun v11 => (vc q10.2 1 v11 (f_X1_isSpent q10.2 v11 v8)).bind fun q12 => if q12.1 = 0 then ((vc q12.2 0 q10.1 (f_X0_isA q12.2 q10.1 a2)).bind fun q13 => if q13.1 = 0 then (f_X8_taken_127 q13.2 ((-13 : Int32))) else (f_X8_taken_127 q13.2 v8)) else (f_X8_taken_109 q12.2)))) else (f_X8_taken_23 h))))
theorem b_X8_taken_10 (X : XX) (h : XM) : SW X I_X8_taken ρi 10 [] [] h 0 0 (f_X8_taken_10 h) := by
  unfold f_X8_taken_10
  refine s_bipush (i := 5) rfl (v := (-2 : Int32)) (by decide) ?_
  exact s_iret (i := 6) rfl rfl
theorem b_X8_taken_23 (X : XX) (h : XM) : SW X I_X8_taken ρi 23 [] [] h 0 0 (f_X8_taken_23 h) := by
  unfold f_X8_taken_23
  refine s_bipush (i := 12) rfl (v := (-12 : Int32)) (by decide) ?_
  exact s_iret (i := 13) rfl rfl
theorem b_X8_taken_53 (X : XX) (h : XM) : SW X I_X8_taken ρi 53 [] [] h 0 0 (f_X8_taken_53 h) := by
  unfold f_X8_taken_53
  refine s_bipush (i := 27) rfl (v := (-11 : Int32)) (by decide) ?_
  exact s_iret (i := 28) rfl rfl
theorem b_X8_taken_78 (X : XX) (h : XM) (s0 : Int32) : SW X I_X8_taken ρi 78 [] [tI s0] h 0 0 (f_X8_taken_78 h s0) := by
  unfold f_X8_taken_78
  exact s_iret (i := 39) rfl rfl
theorem b_X8_taken_109 (X : XX) (h : XM) : SW X I_X8_taken ρi 109 [] [] h 0 0 (f_X8_taken_109 h) := by
  unfold f_X8_taken_109
  refine s_bipush (i := 56) rfl (v := (-11 : Int32)) (by decide) ?_
  exact s_iret (i := 57) rfl rfl
theorem b_X8_taken_127 (X : XX) (h : XM) (s0 : Int32) : SW X I_X8_taken ρi 127 [] [tI s0] h 0 0 (f_X8_taken_127 h s0) := by
  unfold f_X8_taken_127
  exact s_iret (i := 65) rfl rfl
theorem c_X8_taken (h : XM) (a0 : Option Nat) (a1 : Int32) (a2 : Int32) : MC I_X8_taken y_X8_taken [tA a0, tI a1, tI a2] h ρi (f_X8_taken h a0 a1 a2) := by
  refine MC_of ⟨by decide +kernel, rfl, rfl, Nat.le_of_ble_eq_true rfl⟩ dT_X8_taken (fun X => ?_)
  show SW X I_X8_taken ρi 0 [(0, tA a0), (1, tI a1), (2, tI a2)] [] h 0 0 (f_X8_taken h a0 a1 a2)
  unfold f_X8_taken
  refine s_iload_n (i := 0) rfl 2 rfl ?_
  refine s_iflt (i := 1) rfl (tgt := 10) (by decide) (fun z1 => ?_) (fun z1 => ?_)
  · exact s_sub [] rfl (b_X8_taken_10 X h)
  · refine s_iload_n (i := 2) rfl 2 rfl ?_
    refine s_bipush (i := 3) rfl (v := (6 : Int32)) (by decide) ?_
    refine s_icmple (i := 4) rfl (tgt := 13) (by decide) (fun z7 => ?_) (fun z7 => ?_)
    · exact s_sub [] rfl (b_X8_taken_10 X h)
    · refine s_iload_n (i := 7) rfl 1 rfl ?_
      refine s_iflt (i := 8) rfl (tgt := 23) (by decide) (fun z14 => ?_) (fun z14 => ?_)
      · exact s_sub [] rfl (b_X8_taken_23 X h)
      · refine s_iload_n (i := 9) rfl 1 rfl ?_
        refine s_bipush (i := 10) rfl (v := (11 : Int32)) (by decide) ?_
        refine s_icmplt (i := 11) rfl (tgt := 26) (by decide) (fun z20 => ?_) (fun z20 => ?_)
        · refine s_iload_n (i := 14) rfl 1 rfl ?_
          refine s_iconst (i := 15) rfl (v := (4 : Int32)) (by decide) ?_
          refine s_icmpge (i := 16) rfl (tgt := 79) (by decide) (fun z28 => ?_) (fun z28 => ?_)
          · refine s_aload_n (i := 17) rfl 0 rfl ?_
            refine s_getR (i := 18) rfl xf_8_26.r rfl (fun v1 => ?_)
            refine s_iload_n (i := 19) rfl 1 rfl ?_
            refine u_callVi (kk := 1) [tI a1] v1 [] rfl (i := 20) rfl (c_X1_isOne h v1 a1) xm_X1_isOne (tw516) rfl (Nat.le_of_ble_eq_true rfl) (xRm.of rfl) ⟨rfl, rfl⟩ (fun q2 => ?_)
            refine s_ifeq (i := 21) rfl (tgt := 53) (by decide) (fun z39 => ?_) (fun z39 => ?_)
            · exact s_sub [] rfl (b_X8_taken_53 X q2.2)
            · refine s_aload_n (i := 22) rfl 0 rfl ?_
              refine s_getR (i := 23) rfl xf_8_26.r rfl (fun v3 => ?_)
              refine s_iload_n (i := 24) rfl 1 rfl ?_
              refine u_callVi (kk := 1) [tI a1] v3 [] rfl (i := 25) rfl (c_X1_isInside q2.2 v3 a1) xm_X1_isInside (tw520) rfl (Nat.le_of_ble_eq_true rfl) (xRm.of rfl) ⟨rfl, rfl⟩ (fun q4 => ?_)
              refine s_ifne (i := 26) rfl (tgt := 56) (by decide) (fun z50 => ?_) (fun z50 => ?_)
              · exact s_sub [] rfl (b_X8_taken_53 X q4.2)
              · refine s_iload_n (i := 29) rfl 2 rfl ?_
                refine s_bipush (i := 30) rfl (v := (6 : Int32)) (by decide) ?_
                refine s_icmpne (i := 31) rfl (tgt := 76) (by decide) (fun z59 => ?_) (fun z59 => ?_)
                · refine s_aload_n (i := 32) rfl 0 rfl ?_
                  refine s_getR (i := 33) rfl xf_8_26.r rfl (fun v5 => ?_)
                  refine s_iload_n (i := 34) rfl 1 rfl ?_
                  refine u_callVi (kk := 1) [tI a1] v5 [] rfl (i := 35) rfl (c_X1_leftOf q4.2 v5 a1) xm_X1_leftOf (tw765) rfl (Nat.le_of_ble_eq_true rfl) (xRm.of rfl) ⟨rfl, rfl⟩ (fun q6 => ?_)
                  refine u_callSi [tI q6.1] [] rfl (i := 36) rfl (c_J6_bitCount q6.2 q6.1) xm_J6_bitCount (tw828) rfl (Nat.le_of_ble_eq_true rfl) (xRm.of rfl) ⟨rfl, rfl⟩ (fun q7 => ?_)
                  refine s_goto (i := 37) rfl (tgt := 78) (by decide) ?_
                  exact s_sub [] rfl (b_X8_taken_78 X q7.2 q7.1)
                · refine s_bipush (i := 38) rfl (v := (-13 : Int32)) (by decide) ?_
                  exact s_sub [] rfl (b_X8_taken_78 X q4.2 ((-13 : Int32)))
          · refine s_iload_n (i := 40) rfl 1 rfl ?_
            refine s_iconst (i := 41) rfl (v := (4 : Int32)) (by decide) ?_
            refine s_isub (i := 42) rfl ?_
            refine s_bnd (fun v8 => ?_)
            refine s_istore_n (i := 43) rfl (Nat.le_of_ble_eq_true rfl) (ls2 := [(3, tI v8), (0, tA a0), (1, tI a1), (2, tI a2)]) rfl ?_
            refine s_aload_n (i := 44) rfl 1 rfl ?_
            refine s_getR (i := 45) rfl xf_8_26.r rfl (fun v9 => ?_)
            refine s_iload_n (i := 46) rfl 0 rfl ?_
            refine u_callVa (kk := 1) [tI v8] v9 [] rfl (i := 47) rfl (c_X1_coinAt h v9 v8) xm_X1_coinAt (tw599) rfl (Nat.le_of_ble_eq_true rfl) (xRm.of rfl) ⟨rfl, rfl⟩ (fun q10 => ?_)
            refine s_astore (i := 48) rfl (Nat.le_of_ble_eq_true rfl) (ls2 := [(4, tA q10.1), (3, tI v8), (0, tA a0), (1, tI a1), (2, tI a2)]) rfl ?_
            refine s_aload (i := 49) rfl 0 rfl ?_
            refine s_ifnull (i := 50) rfl (tgt := 109) (by decide) (fun z95 => ?_) (fun z95 => ?_)
            · exact s_sub [] rfl (b_X8_taken_109 X q10.2)
            · refine s_aload_n (i := 51) rfl 2 rfl ?_
              refine s_getR (i := 52) rfl xf_8_26.r rfl (fun v11 => ?_)
              refine s_iload_n (i := 53) rfl 1 rfl ?_
              refine u_callVi (kk := 1) [tI v8] v11 [] rfl (i := 54) rfl (c_X1_isSpent q10.2 v11 v8) xm_X1_isSpent (tw603) rfl (Nat.le_of_ble_eq_true rfl) (xRm.of rfl) ⟨rfl, rfl⟩ (fun q12 => ?_)
              refine s_ifeq (i := 55) rfl (tgt := 112) (by decide) (fun z106 => ?_) (fun z106 => ?_)
              · refine s_aload (i := 58) rfl 0 rfl ?_
                refine s_iload_n (i := 59) rfl 4 rfl ?_
                refine u_callVi (kk := 0) [tI a2] q10.1 [] rfl (i := 60) rfl (c_X0_isA q12.2 q10.1 a2) xm_X0_isA (tw956) rfl (Nat.le_of_ble_eq_true rfl) (xRm.of rfl) ⟨rfl, rfl⟩ (fun q13 => ?_)
                refine s_ifeq (i := 61) rfl (tgt := 125) (by decide) (fun z118 => ?_) (fun z118 => ?_)
                · refine s_bipush (i := 64) rfl (v := (-13 : Int32)) (by decide) ?_
                  exact s_sub [] rfl (b_X8_taken_127 X q13.2 ((-13 : Int32)))
                · refine s_iload_n (i := 62) rfl 1 rfl ?_
                  refine s_goto (i := 63) rfl (tgt := 127) (by decide) ?_
                  exact s_sub [] rfl (b_X8_taken_127 X q13.2 v8)
              · exact s_sub [] rfl (b_X8_taken_109 X q12.2)
        · exact s_sub [] rfl (b_X8_taken_23 X h)
