/-! 11.coin: the methods as functions, and that the bytecode does so (written by wip/whole/gen/gen_parts.py) -/
def y_X0_init : MethodName := ⟨"OpensAtNine$Coin", "<init>", "(III)V"⟩
def T_X0_init : List (Nat × Instr × Nat × Nat) := [(0, .aload_n 0, 1, 1), (1, .invokespecial 3, 3, 4), (4, .aload_n 0, 1, 5), (5, .iload_n 1, 1, 6), (6, .putfield 9, 3, 9), (9, .aload_n 0, 1, 10), (10, .iload_n 2, 1, 11), (11, .putfield 15, 3, 14), (14, .aload_n 0, 1, 15), (15, .iload_n 3, 1, 16), (16, .putfield 18, 3, 19), (19, .return_, 1, 20)]
def I_X0_init : MI := (prog_2_method_1_code, 4, none, "OpensAtNine$Coin", "<init>", T_X0_init, 0, 0, 1, 60)
theorem dT_X0_init : ∀ q ∈ T_X0_init, decode prog_2_method_1_code q.1 = .ok (q.2.1, q.2.2.1) ∧ q.2.2.2 = q.1 + q.2.2.1 := by decide +kernel
theorem xm_X0_init : xCI y_X0_init I_X0_init 3 := ⟨⟨rfl, rfl⟩, tw575, tw85, tw576, ⟨by decide +kernel, by decide +kernel, by decide +kernel⟩⟩
noncomputable def f_X0_init (h : XM) (a0 : Option Nat) (a1 : Int32) (a2 : Int32) (a3 : Int32) : Option (XM) := (a0).bind fun _ => (pI h 0 a0 0 a1).bind fun h1 => (pI h1 0 a0 1 a2).bind fun h2 => (pI h2 0 a0 2 a3).bind fun h3 => some h3
theorem c_X0_init (h : XM) (a0 : Option Nat) (a1 : Int32) (a2 : Int32) (a3 : Int32) : MC I_X0_init y_X0_init [tA a0, tI a1, tI a2, tI a3] h ρv (f_X0_init h a0 a1 a2 a3) := by
  refine MC_of ⟨by decide +kernel, rfl, rfl, Nat.le_of_ble_eq_true rfl⟩ dT_X0_init (fun X => ?_)
  show SW X I_X0_init ρv 0 [(0, tA a0), (1, tI a1), (2, tI a2), (3, tI a3)] [] h 0 0 (f_X0_init h a0 a1 a2 a3)
  unfold f_X0_init
  refine s_aload_n (i := 0) rfl 0 rfl ?_
  refine s_objInit (i := 1) rfl ⟨tw577, tw93, tw94⟩ ⟨by decide, by decide⟩ rfl ?_
  refine s_aload_n (i := 2) rfl 0 rfl ?_
  refine s_iload_n (i := 3) rfl 1 rfl ?_
  refine s_putI (i := 4) rfl xf_0_9 (fun _ => rfl) rfl rfl (fun h1 => ?_)
  refine s_aload_n (i := 5) rfl 0 rfl ?_
  refine s_iload_n (i := 6) rfl 2 rfl ?_
  refine s_putI (i := 7) rfl xf_0_15 (fun _ => rfl) rfl rfl (fun h2 => ?_)
  refine s_aload_n (i := 8) rfl 0 rfl ?_
  refine s_iload_n (i := 9) rfl 3 rfl ?_
  refine s_putI (i := 10) rfl xf_0_18 (fun _ => rfl) rfl rfl (fun h3 => ?_)
  exact s_vret (i := 11) rfl rfl
def y_X0_worn : MethodName := ⟨"OpensAtNine$Coin", "worn", "()I"⟩
def T_X0_worn : List (Nat × Instr × Nat × Nat) := [(0, .iconst 0, 1, 1), (1, .aload_n 0, 1, 2), (2, .getfield 15, 3, 5), (5, .aload_n 0, 1, 6), (6, .getfield 18, 3, 9), (9, .isub, 1, 10), (10, .invokestatic 25, 3, 13), (13, .ireturn, 1, 14)]
def I_X0_worn : MI := (prog_2_method_3_code, 1, (some .int), "OpensAtNine$Coin", "worn", T_X0_worn, 0, 0, 2, 81)
theorem dT_X0_worn : ∀ q ∈ T_X0_worn, decode prog_2_method_3_code q.1 = .ok (q.2.1, q.2.2.1) ∧ q.2.2.2 = q.1 + q.2.2.1 := by decide +kernel
theorem xm_X0_worn : xCM y_X0_worn I_X0_worn 0 0 := ⟨⟨tw621, tw16⟩, tw85, tw622, ⟨xT0, 3, rfl⟩, ⟨by decide +kernel, by decide +kernel, by decide +kernel⟩⟩
noncomputable def f_X0_worn (h : XM) (a0 : Option Nat) : Option (Int32 × XM) := (gI h 0 a0 1).bind fun v1 => (gI h 0 a0 2).bind fun v2 => bnd (if ((0 : Int32)) < (v1 - v2) then (v1 - v2) else ((0 : Int32))) fun v3 => some (v3, h)
theorem c_X0_worn (h : XM) (a0 : Option Nat) : MC I_X0_worn y_X0_worn [tA a0] h ρi (f_X0_worn h a0) := by
  refine MC_of ⟨by decide +kernel, rfl, rfl, Nat.le_of_ble_eq_true rfl⟩ dT_X0_worn (fun X => ?_)
  show SW X I_X0_worn ρi 0 [(0, tA a0)] [] h 0 0 (f_X0_worn h a0)
  unfold f_X0_worn
  refine s_iconst (i := 0) rfl (v := (0 : Int32)) (by decide) ?_
  refine s_aload_n (i := 1) rfl 0 rfl ?_
  refine s_getI (i := 2) rfl xf_0_15.r rfl (fun v1 => ?_)
  refine s_aload_n (i := 3) rfl 0 rfl ?_
  refine s_getI (i := 4) rfl xf_0_18.r rfl (fun v2 => ?_)
  refine s_isub (i := 5) rfl ?_
  refine s_mmax (i := 6) rfl ⟨tw623, tw559, tw82, tw560⟩ (Nat.le_of_ble_eq_true rfl) ⟨by decide, by decide⟩ ?_
  refine s_bnd (fun v3 => ?_)
  exact s_iret (i := 7) rfl rfl
def y_X0_countsBy : MethodName := ⟨"OpensAtNine$Coin", "countsBy", "(I)I"⟩
def T_X0_countsBy : List (Nat × Instr × Nat × Nat) := [(0, .aload_n 0, 1, 1), (1, .getfield 9, 3, 4), (4, .tableswitch 102 1 5 #[36, 44, 49, 64, 77], 36, 40), (40, .bipush 7, 2, 42), (42, .aload_n 0, 1, 43), (43, .getfield 15, 3, 46), (46, .imul, 1, 47), (47, .ireturn, 1, 48), (48, .aload_n 0, 1, 49), (49, .invokevirtual 21, 3, 52), (52, .ireturn, 1, 53), (53, .iload_n 1, 1, 54), (54, .iconst 2, 1, 55), (55, .irem, 1, 56), (56, .ifCond .ne 7, 3, 59), (59, .iconst 0, 1, 60), (60, .goto 7, 3, 63), (63, .aload_n 0, 1, 64), (64, .invokevirtual 21, 3, 67), (67, .ireturn, 1, 68), (68, .bipush 14, 2, 70), (70, .aload_n 0, 1, 71), (71, .getfield 15, 3, 74), (74, .imul, 1, 75), (75, .aload_n 0, 1, 76), (76, .getfield 18, 3, 79), (79, .iadd, 1, 80), (80, .ireturn, 1, 81), (81, .aload_n 0, 1, 82), (82, .getfield 15, 3, 85), (85, .aload_n 0, 1, 86), (86, .getfield 18, 3, 89), (89, .ifCond .le 14, 3, 92), (92, .iload_n 1, 1, 93), (93, .aload_n 0, 1, 94), (94, .getfield 18, 3, 97), (97, .iconst 1, 1, 98), (98, .iadd, 1, 99), (99, .irem, 1, 100), (100, .goto 4, 3, 103), (103, .iconst 0, 1, 104), (104, .iadd, 1, 105), (105, .ireturn, 1, 106), (106, .aload_n 0, 1, 107), (107, .getfield 15, 3, 110), (110, .ireturn, 1, 111)]
def I_X0_countsBy : MI := (prog_2_method_2_code, 2, (some .int), "OpensAtNine$Coin", "countsBy", T_X0_countsBy, 0, 0, 3, 101)
theorem dT_X0_countsBy : ∀ q ∈ T_X0_countsBy, decode prog_2_method_2_code q.1 = .ok (q.2.1, q.2.2.1) ∧ q.2.2.2 = q.1 + q.2.2.1 := by decide +kernel
theorem xm_X0_countsBy : xCM y_X0_countsBy I_X0_countsBy 0 1 := ⟨⟨tw616, tw617⟩, tw85, tw618, ⟨xT0, 3, rfl⟩, ⟨by decide +kernel, by decide +kernel, by decide +kernel⟩⟩
noncomputable def f_X0_countsBy_67 (h : XM) (s0 : Int32) : Option (Int32 × XM) := some (s0, h)
noncomputable def f_X0_countsBy_104 (h : XM) (s0 : Int32) (s1 : Int32) : Option (Int32 × XM) := some (s1 + s0, h)
noncomputable def f_X0_countsBy (h : XM) (a0 : Option Nat) (a1 : Int32) : Option (Int32 × XM) := (gI h 0 a0 0).bind fun v1 => if v1 = (1 : Int32) then ((gI h 0 a0 1).bind fun v2 => some (((7 : Int32)) * v2, h)) else (if v1 = (2 : Int32) then ((vc h 0 a0 (f_X0_worn h a0)).bind fun q3 => some (q3.1, q3.2)) else (if v1 = (3 : Int32) then ((irem a1 ((2 : Int32))).bind fun v4 => if v4 = 0 then (f_X0_countsBy_67 h ((0 : Int32))) else ((vc h 0 a0 (f_X0_worn h a0)).bind fun q5 => f_X0_countsBy_67 q5.2 q5.1)) else (if v1 = (4 : Int32) then ((gI h 0 a0 1).bind fun v6 => (gI h 0 a0 2).bind fun v7 => some ((((14 : Int32)) * v6) + v7, h)) else (if v1 = (5 : Int32) then ((gI h 0 a0 1).bind fun v8 => (gI h 0 a0 2).bind fun v9 => if 0 < v9 then ((gI h 0 a0 2).bind fun v10 => (irem a1 (v10 + ((1 : Int32)))).bind fun v11 => f_X0_countsBy_104 h v11 v8) else (f_X0_countsBy_104 h ((0 : Int32)) v8)) else ((gI h 0 a0 1).bind fun v12 => some (v12, h))))))
theorem b_X0_countsBy_67 (X : XX) (h : XM) (s0 : Int32) : SW X I_X0_countsBy ρi 67 [] [tI s0] h 0 0 (f_X0_countsBy_67 h s0) := by
  unfold f_X0_countsBy_67
  exact s_iret (i := 19) rfl rfl
theorem b_X0_countsBy_104 (X : XX) (h : XM) (s0 : Int32) (s1 : Int32) : SW X I_X0_countsBy ρi 104 [] [tI s0, tI s1] h 0 0 (f_X0_countsBy_104 h s0 s1) := by
  unfold f_X0_countsBy_104
  refine s_iadd (i := 41) rfl ?_
  exact s_iret (i := 42) rfl rfl
theorem c_X0_countsBy (h : XM) (a0 : Option Nat) (a1 : Int32) : MC I_X0_countsBy y_X0_countsBy [tA a0, tI a1] h ρi (f_X0_countsBy h a0 a1) := by
  refine MC_of ⟨by decide +kernel, rfl, rfl, Nat.le_of_ble_eq_true rfl⟩ dT_X0_countsBy (fun X => ?_)
  show SW X I_X0_countsBy ρi 0 [(0, tA a0), (1, tI a1)] [] h 0 0 (f_X0_countsBy h a0 a1)
  unfold f_X0_countsBy
  refine s_aload_n (i := 0) rfl 0 rfl ?_
  refine s_getI (i := 1) rfl xf_0_9.r rfl (fun v1 => ?_)
  refine s_if (P := v1 = (1 : Int32)) (fun z4_1 => ?_) (fun z4_1 => ?_)
  · refine s_table 40 (i := 2) rfl rfl (by rw [z4_1]; rfl) ?_
    refine s_bipush (i := 3) rfl (v := (7 : Int32)) (by decide) ?_
    refine s_aload_n (i := 4) rfl 0 rfl ?_
    refine s_getI (i := 5) rfl xf_0_15.r rfl (fun v2 => ?_)
    refine s_imul (i := 6) rfl ?_
    exact s_iret (i := 7) rfl rfl
  refine s_if (P := v1 = (2 : Int32)) (fun z4_2 => ?_) (fun z4_2 => ?_)
  · refine s_table 48 (i := 2) rfl rfl (by rw [z4_2]; rfl) ?_
    refine s_aload_n (i := 8) rfl 0 rfl ?_
    refine u_callVi (kk := 0) [] a0 [] rfl (i := 9) rfl (c_X0_worn h a0) xm_X0_worn (tw619) rfl (Nat.le_of_ble_eq_true rfl) (xRm.of rfl) ⟨rfl, rfl⟩ (fun q3 => ?_)
    exact s_iret (i := 10) rfl rfl
  refine s_if (P := v1 = (3 : Int32)) (fun z4_3 => ?_) (fun z4_3 => ?_)
  · refine s_table 53 (i := 2) rfl rfl (by rw [z4_3]; rfl) ?_
    refine s_iload_n (i := 11) rfl 1 rfl ?_
    refine s_iconst (i := 12) rfl (v := (2 : Int32)) (by decide) ?_
    refine s_irem (i := 13) rfl (fun v4 => ?_)
    refine s_ifne (i := 14) rfl (tgt := 63) (by decide) (fun z56 => ?_) (fun z56 => ?_)
    · refine s_iconst (i := 15) rfl (v := (0 : Int32)) (by decide) ?_
      refine s_goto (i := 16) rfl (tgt := 67) (by decide) ?_
      exact s_sub [] rfl (b_X0_countsBy_67 X h ((0 : Int32)))
    · refine s_aload_n (i := 17) rfl 0 rfl ?_
      refine u_callVi (kk := 0) [] a0 [] rfl (i := 18) rfl (c_X0_worn h a0) xm_X0_worn (tw619) rfl (Nat.le_of_ble_eq_true rfl) (xRm.of rfl) ⟨rfl, rfl⟩ (fun q5 => ?_)
      exact s_sub [] rfl (b_X0_countsBy_67 X q5.2 q5.1)
  refine s_if (P := v1 = (4 : Int32)) (fun z4_4 => ?_) (fun z4_4 => ?_)
  · refine s_table 68 (i := 2) rfl rfl (by rw [z4_4]; rfl) ?_
    refine s_bipush (i := 20) rfl (v := (14 : Int32)) (by decide) ?_
    refine s_aload_n (i := 21) rfl 0 rfl ?_
    refine s_getI (i := 22) rfl xf_0_15.r rfl (fun v6 => ?_)
    refine s_imul (i := 23) rfl ?_
    refine s_aload_n (i := 24) rfl 0 rfl ?_
    refine s_getI (i := 25) rfl xf_0_18.r rfl (fun v7 => ?_)
    refine s_iadd (i := 26) rfl ?_
    exact s_iret (i := 27) rfl rfl
  refine s_if (P := v1 = (5 : Int32)) (fun z4_5 => ?_) (fun z4_5 => ?_)
  · refine s_table 81 (i := 2) rfl rfl (by rw [z4_5]; rfl) ?_
    refine s_aload_n (i := 28) rfl 0 rfl ?_
    refine s_getI (i := 29) rfl xf_0_15.r rfl (fun v8 => ?_)
    refine s_aload_n (i := 30) rfl 0 rfl ?_
    refine s_getI (i := 31) rfl xf_0_18.r rfl (fun v9 => ?_)
    refine s_ifle (i := 32) rfl (tgt := 103) (by decide) (fun z89 => ?_) (fun z89 => ?_)
    · refine s_iload_n (i := 33) rfl 1 rfl ?_
      refine s_aload_n (i := 34) rfl 0 rfl ?_
      refine s_getI (i := 35) rfl xf_0_18.r rfl (fun v10 => ?_)
      refine s_iconst (i := 36) rfl (v := (1 : Int32)) (by decide) ?_
      refine s_iadd (i := 37) rfl ?_
      refine s_irem (i := 38) rfl (fun v11 => ?_)
      refine s_goto (i := 39) rfl (tgt := 104) (by decide) ?_
      exact s_sub [] rfl (b_X0_countsBy_104 X h v11 v8)
    · refine s_iconst (i := 40) rfl (v := (0 : Int32)) (by decide) ?_
      exact s_sub [] rfl (b_X0_countsBy_104 X h ((0 : Int32)) v8)
  refine s_table 106 (i := 2) rfl rfl (by
    rw [swT_out (fun k h1 h2 => by
      rcases (show k = 1 ∨ k = 2 ∨ k = 3 ∨ k = 4 ∨ k = 5 by omega) with e | e | e | e | e <;> subst e
      · exact Or.inr z4_1
      · exact Or.inr z4_2
      · exact Or.inr z4_3
      · exact Or.inr z4_4
      · exact Or.inr z4_5)]
    rfl) ?_
  refine s_aload_n (i := 43) rfl 0 rfl ?_
  refine s_getI (i := 44) rfl xf_0_15.r rfl (fun v12 => ?_)
  exact s_iret (i := 45) rfl rfl
def y_X0_costs : MethodName := ⟨"OpensAtNine$Coin", "costs", "()I"⟩
def T_X0_costs : List (Nat × Instr × Nat × Nat) := [(0, .aload_n 0, 1, 1), (1, .getfield 9, 3, 4), (4, .lookupswitch 42 #[(3, 28), (4, 35)], 28, 32), (32, .aload_n 0, 1, 33), (33, .getfield 15, 3, 36), (36, .iconst 3, 1, 37), (37, .idiv, 1, 38), (38, .ireturn, 1, 39), (39, .iconst 2, 1, 40), (40, .aload_n 0, 1, 41), (41, .getfield 15, 3, 44), (44, .imul, 1, 45), (45, .ireturn, 1, 46), (46, .aload_n 0, 1, 47), (47, .getfield 15, 3, 50), (50, .ireturn, 1, 51)]
def I_X0_costs : MI := (prog_2_method_4_code, 1, (some .int), "OpensAtNine$Coin", "costs", T_X0_costs, 0, 0, 1, 60)
theorem dT_X0_costs : ∀ q ∈ T_X0_costs, decode prog_2_method_4_code q.1 = .ok (q.2.1, q.2.2.1) ∧ q.2.2.2 = q.1 + q.2.2.1 := by decide +kernel
theorem xm_X0_costs : xCM y_X0_costs I_X0_costs 0 0 := ⟨⟨tw625, tw626⟩, tw85, tw627, ⟨xT0, 3, rfl⟩, ⟨by decide +kernel, by decide +kernel, by decide +kernel⟩⟩
noncomputable def f_X0_costs (h : XM) (a0 : Option Nat) : Option (Int32 × XM) := (gI h 0 a0 0).bind fun v1 => if v1 = (3 : Int32) then ((gI h 0 a0 1).bind fun v2 => (idiv v2 ((3 : Int32))).bind fun v3 => some (v3, h)) else (if v1 = (4 : Int32) then ((gI h 0 a0 1).bind fun v4 => some (((2 : Int32)) * v4, h)) else ((gI h 0 a0 1).bind fun v5 => some (v5, h)))
theorem c_X0_costs (h : XM) (a0 : Option Nat) : MC I_X0_costs y_X0_costs [tA a0] h ρi (f_X0_costs h a0) := by
  refine MC_of ⟨by decide +kernel, rfl, rfl, Nat.le_of_ble_eq_true rfl⟩ dT_X0_costs (fun X => ?_)
  show SW X I_X0_costs ρi 0 [(0, tA a0)] [] h 0 0 (f_X0_costs h a0)
  unfold f_X0_costs
  refine s_aload_n (i := 0) rfl 0 rfl ?_
  refine s_getI (i := 1) rfl xf_0_9.r rfl (fun v1 => ?_)
  refine s_if (P := v1 = (3 : Int32)) (fun z4_3 => ?_) (fun z4_3 => ?_)
  · refine s_lookup 32 (i := 2) rfl (by decide) (by rw [z4_3]; rfl) ?_
    refine s_aload_n (i := 3) rfl 0 rfl ?_
    refine s_getI (i := 4) rfl xf_0_15.r rfl (fun v2 => ?_)
    refine s_iconst (i := 5) rfl (v := (3 : Int32)) (by decide) ?_
    refine s_idiv (i := 6) rfl (fun v3 => ?_)
    exact s_iret (i := 7) rfl rfl
  refine s_if (P := v1 = (4 : Int32)) (fun z4_4 => ?_) (fun z4_4 => ?_)
  · refine s_lookup 39 (i := 2) rfl (by decide) (by rw [z4_4]; rfl) ?_
    refine s_iconst (i := 8) rfl (v := (2 : Int32)) (by decide) ?_
    refine s_aload_n (i := 9) rfl 0 rfl ?_
    refine s_getI (i := 10) rfl xf_0_15.r rfl (fun v4 => ?_)
    refine s_imul (i := 11) rfl ?_
    exact s_iret (i := 12) rfl rfl
  refine s_lookup 46 (i := 2) rfl (by decide) (by rw [show (#[(3, 28), (4, 35)] : Array (Int × Int)).toList = [(3, 28), (4, 35)] from rfl, lv_osw z4_3 (show (3 : Int32).toInt = 3 by decide), lv_osw z4_4 (show (4 : Int32).toInt = 4 by decide)]; rfl) ?_
  refine s_aload_n (i := 13) rfl 0 rfl ?_
  refine s_getI (i := 14) rfl xf_0_15.r rfl (fun v5 => ?_)
  exact s_iret (i := 15) rfl rfl
def y_X0_isA : MethodName := ⟨"OpensAtNine$Coin", "isA", "(I)Z"⟩
def T_X0_isA : List (Nat × Instr × Nat × Nat) := [(0, .iload_n 1, 1, 1), (1, .tableswitch 73 0 2 #[27, 29, 51], 27, 28), (28, .iconst 1, 1, 29), (29, .ireturn, 1, 30), (30, .aload_n 0, 1, 31), (31, .getfield 9, 3, 34), (34, .iconst 1, 1, 35), (35, .if_icmp .eq 11, 3, 38), (38, .aload_n 0, 1, 39), (39, .getfield 9, 3, 42), (42, .iconst 4, 1, 43), (43, .if_icmp .ne 7, 3, 46), (46, .iconst 1, 1, 47), (47, .goto 4, 3, 50), (50, .iconst 0, 1, 51), (51, .ireturn, 1, 52), (52, .aload_n 0, 1, 53), (53, .getfield 9, 3, 56), (56, .iconst 2, 1, 57), (57, .if_icmp .eq 11, 3, 60), (60, .aload_n 0, 1, 61), (61, .getfield 9, 3, 64), (64, .iconst 3, 1, 65), (65, .if_icmp .ne 7, 3, 68), (68, .iconst 1, 1, 69), (69, .goto 4, 3, 72), (72, .iconst 0, 1, 73), (73, .ireturn, 1, 74), (74, .aload_n 0, 1, 75), (75, .getfield 9, 3, 78), (78, .iload_n 1, 1, 79), (79, .if_icmp .ne 7, 3, 82), (82, .iconst 1, 1, 83), (83, .goto 4, 3, 86), (86, .iconst 0, 1, 87), (87, .ireturn, 1, 88)]
def I_X0_isA : MI := (prog_2_method_5_code, 2, (some .boolean), "OpensAtNine$Coin", "isA", T_X0_isA, 0, 0, 1, 60)
theorem dT_X0_isA : ∀ q ∈ T_X0_isA, decode prog_2_method_5_code q.1 = .ok (q.2.1, q.2.2.1) ∧ q.2.2.2 = q.1 + q.2.2.1 := by decide +kernel
theorem xm_X0_isA : xCM y_X0_isA I_X0_isA 0 1 := ⟨⟨tw957, tw958⟩, tw85, tw959, ⟨xT0, 3, rfl⟩, ⟨by decide +kernel, by decide +kernel, by decide +kernel⟩⟩
noncomputable def f_X0_isA_87 (h : XM) (s0 : Int32) : Option (Int32 × XM) := rz h s0
noncomputable def f_X0_isA_51 (h : XM) (s0 : Int32) : Option (Int32 × XM) := rz h s0
noncomputable def f_X0_isA_46 (h : XM) : Option (Int32 × XM) := f_X0_isA_51 h ((1 : Int32))
noncomputable def f_X0_isA_73 (h : XM) (s0 : Int32) : Option (Int32 × XM) := rz h s0
noncomputable def f_X0_isA_68 (h : XM) : Option (Int32 × XM) := f_X0_isA_73 h ((1 : Int32))
noncomputable def f_X0_isA (h : XM) (a0 : Option Nat) (a1 : Int32) : Option (Int32 × XM) := if a1 = (0 : Int32) then (rz h ((1 : Int32))) else (if a1 = (1 : Int32) then ((gI h 0 a0 0).bind fun v1 => if v1 = ((1 : Int32)) then (f_X0_isA_46 h) else ((gI h 0 a0 0).bind fun v2 => if v2 = ((4 : Int32)) then (f_X0_isA_46 h) else (f_X0_isA_51 h ((0 : Int32))))) else (if a1 = (2 : Int32) then ((gI h 0 a0 0).bind fun v3 => if v3 = ((2 : Int32)) then (f_X0_isA_68 h) else ((gI h 0 a0 0).bind fun v4 => if v4 = ((3 : Int32)) then (f_X0_isA_68 h) else (f_X0_isA_73 h ((0 : Int32))))) else ((gI h 0 a0 0).bind fun v5 => if v5 = a1 then (f_X0_isA_87 h ((1 : Int32))) else (f_X0_isA_87 h ((0 : Int32))))))
theorem b_X0_isA_87 (X : XX) (h : XM) (s0 : Int32) : SW X I_X0_isA ρi 87 [] [tI s0] h 0 0 (f_X0_isA_87 h s0) := by
  unfold f_X0_isA_87
  exact s_zret (i := 35) rfl rfl
theorem b_X0_isA_51 (X : XX) (h : XM) (s0 : Int32) : SW X I_X0_isA ρi 51 [] [tI s0] h 0 0 (f_X0_isA_51 h s0) := by
  unfold f_X0_isA_51
  exact s_zret (i := 15) rfl rfl
theorem b_X0_isA_46 (X : XX) (h : XM) : SW X I_X0_isA ρi 46 [] [] h 0 0 (f_X0_isA_46 h) := by
  unfold f_X0_isA_46
  refine s_iconst (i := 12) rfl (v := (1 : Int32)) (by decide) ?_
  refine s_goto (i := 13) rfl (tgt := 51) (by decide) ?_
  exact s_sub [] rfl (b_X0_isA_51 X h ((1 : Int32)))
theorem b_X0_isA_73 (X : XX) (h : XM) (s0 : Int32) : SW X I_X0_isA ρi 73 [] [tI s0] h 0 0 (f_X0_isA_73 h s0) := by
  unfold f_X0_isA_73
  exact s_zret (i := 27) rfl rfl
theorem b_X0_isA_68 (X : XX) (h : XM) : SW X I_X0_isA ρi 68 [] [] h 0 0 (f_X0_isA_68 h) := by
  unfold f_X0_isA_68
  refine s_iconst (i := 24) rfl (v := (1 : Int32)) (by decide) ?_
  refine s_goto (i := 25) rfl (tgt := 73) (by decide) ?_
  exact s_sub [] rfl (b_X0_isA_73 X h ((1 : Int32)))
theorem c_X0_isA (h : XM) (a0 : Option Nat) (a1 : Int32) : MC I_X0_isA y_X0_isA [tA a0, tI a1] h ρi (f_X0_isA h a0 a1) := by
  refine MC_of ⟨by decide +kernel, rfl, rfl, Nat.le_of_ble_eq_true rfl⟩ dT_X0_isA (fun X => ?_)
  show SW X I_X0_isA ρi 0 [(0, tA a0), (1, tI a1)] [] h 0 0 (f_X0_isA h a0 a1)
  unfold f_X0_isA
  refine s_iload_n (i := 0) rfl 1 rfl ?_
  refine s_if (P := a1 = (0 : Int32)) (fun z1_0 => ?_) (fun z1_0 => ?_)
  · refine s_table 28 (i := 1) rfl rfl (by rw [z1_0]; rfl) ?_
    refine s_iconst (i := 2) rfl (v := (1 : Int32)) (by decide) ?_
    exact s_zret (i := 3) rfl rfl
  refine s_if (P := a1 = (1 : Int32)) (fun z1_1 => ?_) (fun z1_1 => ?_)
  · refine s_table 30 (i := 1) rfl rfl (by rw [z1_1]; rfl) ?_
    refine s_aload_n (i := 4) rfl 0 rfl ?_
    refine s_getI (i := 5) rfl xf_0_9.r rfl (fun v1 => ?_)
    refine s_iconst (i := 6) rfl (v := (1 : Int32)) (by decide) ?_
    refine s_icmpeq (i := 7) rfl (tgt := 46) (by decide) (fun z35 => ?_) (fun z35 => ?_)
    · exact s_sub [] rfl (b_X0_isA_46 X h)
    · refine s_aload_n (i := 8) rfl 0 rfl ?_
      refine s_getI (i := 9) rfl xf_0_9.r rfl (fun v2 => ?_)
      refine s_iconst (i := 10) rfl (v := (4 : Int32)) (by decide) ?_
      refine s_icmpne (i := 11) rfl (tgt := 50) (by decide) (fun z43 => ?_) (fun z43 => ?_)
      · exact s_sub [] rfl (b_X0_isA_46 X h)
      · refine s_iconst (i := 14) rfl (v := (0 : Int32)) (by decide) ?_
        exact s_sub [] rfl (b_X0_isA_51 X h ((0 : Int32)))
  refine s_if (P := a1 = (2 : Int32)) (fun z1_2 => ?_) (fun z1_2 => ?_)
  · refine s_table 52 (i := 1) rfl rfl (by rw [z1_2]; rfl) ?_
    refine s_aload_n (i := 16) rfl 0 rfl ?_
    refine s_getI (i := 17) rfl xf_0_9.r rfl (fun v3 => ?_)
    refine s_iconst (i := 18) rfl (v := (2 : Int32)) (by decide) ?_
    refine s_icmpeq (i := 19) rfl (tgt := 68) (by decide) (fun z57 => ?_) (fun z57 => ?_)
    · exact s_sub [] rfl (b_X0_isA_68 X h)
    · refine s_aload_n (i := 20) rfl 0 rfl ?_
      refine s_getI (i := 21) rfl xf_0_9.r rfl (fun v4 => ?_)
      refine s_iconst (i := 22) rfl (v := (3 : Int32)) (by decide) ?_
      refine s_icmpne (i := 23) rfl (tgt := 72) (by decide) (fun z65 => ?_) (fun z65 => ?_)
      · exact s_sub [] rfl (b_X0_isA_68 X h)
      · refine s_iconst (i := 26) rfl (v := (0 : Int32)) (by decide) ?_
        exact s_sub [] rfl (b_X0_isA_73 X h ((0 : Int32)))
  refine s_table 74 (i := 1) rfl rfl (by
    rw [swT_out (fun k h1 h2 => by
      rcases (show k = 0 ∨ k = 1 ∨ k = 2 by omega) with e | e | e <;> subst e
      · exact Or.inr z1_0
      · exact Or.inr z1_1
      · exact Or.inr z1_2)]
    rfl) ?_
  refine s_aload_n (i := 28) rfl 0 rfl ?_
  refine s_getI (i := 29) rfl xf_0_9.r rfl (fun v5 => ?_)
  refine s_iload_n (i := 30) rfl 1 rfl ?_
  refine s_icmpne (i := 31) rfl (tgt := 86) (by decide) (fun z79 => ?_) (fun z79 => ?_)
  · refine s_iconst (i := 32) rfl (v := (1 : Int32)) (by decide) ?_
    refine s_goto (i := 33) rfl (tgt := 87) (by decide) ?_
    exact s_sub [] rfl (b_X0_isA_87 X h ((1 : Int32)))
  · refine s_iconst (i := 34) rfl (v := (0 : Int32)) (by decide) ?_
    exact s_sub [] rfl (b_X0_isA_87 X h ((0 : Int32)))
def y_X5_joined : MethodName := ⟨"OpensAtNine$Text", "joined", "(III)I"⟩
def T_X5_joined : List (Nat × Instr × Nat × Nat) := [(0, .iload_n 0, 1, 1), (1, .tableswitch 87 (-14) (-9) #[73, 62, 51, 47, 43, 39], 39, 40), (40, .iload_n 1, 1, 41), (41, .iload_n 2, 1, 42), (42, .iadd, 1, 43), (43, .ireturn, 1, 44), (44, .iload_n 1, 1, 45), (45, .iload_n 2, 1, 46), (46, .isub, 1, 47), (47, .ireturn, 1, 48), (48, .iload_n 1, 1, 49), (49, .iload_n 2, 1, 50), (50, .imul, 1, 51), (51, .ireturn, 1, 52), (52, .iload_n 1, 1, 53), (53, .iload_n 2, 1, 54), (54, .if_icmp .ge 7, 3, 57), (57, .iconst 1, 1, 58), (58, .goto 4, 3, 61), (61, .iconst 0, 1, 62), (62, .ireturn, 1, 63), (63, .iload_n 1, 1, 64), (64, .iload_n 2, 1, 65), (65, .if_icmp .ne 7, 3, 68), (68, .iconst 1, 1, 69), (69, .goto 4, 3, 72), (72, .iconst 0, 1, 73), (73, .ireturn, 1, 74), (74, .iload_n 1, 1, 75), (75, .ifCond .eq 11, 3, 78), (78, .iload_n 2, 1, 79), (79, .ifCond .eq 7, 3, 82), (82, .iconst 1, 1, 83), (83, .goto 4, 3, 86), (86, .iconst 0, 1, 87), (87, .ireturn, 1, 88), (88, .iload_n 1, 1, 89), (89, .ifCond .ne 7, 3, 92), (92, .iload_n 2, 1, 93), (93, .ifCond .eq 7, 3, 96), (96, .iconst 1, 1, 97), (97, .goto 4, 3, 100), (100, .iconst 0, 1, 101), (101, .ireturn, 1, 102)]
def I_X5_joined : MI := (prog_7_method_4_code, 3, (some .int), "OpensAtNine$Text", "joined", T_X5_joined, 0, 0, 1, 60)
theorem dT_X5_joined : ∀ q ∈ T_X5_joined, decode prog_7_method_4_code q.1 = .ok (q.2.1, q.2.2.1) ∧ q.2.2.2 = q.1 + q.2.2.1 := by decide +kernel
theorem xm_X5_joined : xCS y_X5_joined I_X5_joined 3 := ⟨tw565, tw80, tw566, ⟨by decide +kernel, by decide +kernel, by decide +kernel⟩⟩
noncomputable def f_X5_joined_101 (h : XM) (s0 : Int32) : Option (Int32 × XM) := some (s0, h)
noncomputable def f_X5_joined_96 (h : XM) : Option (Int32 × XM) := f_X5_joined_101 h ((1 : Int32))
noncomputable def f_X5_joined_87 (h : XM) (s0 : Int32) : Option (Int32 × XM) := some (s0, h)
noncomputable def f_X5_joined_86 (h : XM) : Option (Int32 × XM) := f_X5_joined_87 h ((0 : Int32))
noncomputable def f_X5_joined_73 (h : XM) (s0 : Int32) : Option (Int32 × XM) := some (s0, h)
noncomputable def f_X5_joined_62 (h : XM) (s0 : Int32) : Option (Int32 × XM) := some (s0, h)
noncomputable def f_X5_joined (h : XM) (a0 : Int32) (a1 : Int32) (a2 : Int32) : Option (Int32 × XM) := if a0 = (-14 : Int32) then (if a1 = 0 then (f_X5_joined_86 h) else (if a2 = 0 then (f_X5_joined_86 h) else (f_X5_joined_87 h ((1 : Int32))))) else (if a0 = (-13 : Int32) then (if a1 = a2 then (f_X5_joined_73 h ((1 : Int32))) else (f_X5_joined_73 h ((0 : Int32)))) else (if a0 = (-12 : Int32) then (if a1 < a2 then (f_X5_joined_62 h ((1 : Int32))) else (f_X5_joined_62 h ((0 : Int32)))) else (if a0 = (-11 : Int32) then (some (a1 * a2, h)) else (if a0 = (-10 : Int32) then (some (a1 - a2, h)) else (if a0 = (-9 : Int32) then (some (a1 + a2, h)) else (if a1 = 0 then (if a2 = 0 then (f_X5_joined_101 h ((0 : Int32))) else (f_X5_joined_96 h)) else (f_X5_joined_96 h)))))))
theorem b_X5_joined_101 (X : XX) (h : XM) (s0 : Int32) : SW X I_X5_joined ρi 101 [] [tI s0] h 0 0 (f_X5_joined_101 h s0) := by
  unfold f_X5_joined_101
  exact s_iret (i := 43) rfl rfl
theorem b_X5_joined_96 (X : XX) (h : XM) : SW X I_X5_joined ρi 96 [] [] h 0 0 (f_X5_joined_96 h) := by
  unfold f_X5_joined_96
  refine s_iconst (i := 40) rfl (v := (1 : Int32)) (by decide) ?_
  refine s_goto (i := 41) rfl (tgt := 101) (by decide) ?_
  exact s_sub [] rfl (b_X5_joined_101 X h ((1 : Int32)))
theorem b_X5_joined_87 (X : XX) (h : XM) (s0 : Int32) : SW X I_X5_joined ρi 87 [] [tI s0] h 0 0 (f_X5_joined_87 h s0) := by
  unfold f_X5_joined_87
  exact s_iret (i := 35) rfl rfl
theorem b_X5_joined_86 (X : XX) (h : XM) : SW X I_X5_joined ρi 86 [] [] h 0 0 (f_X5_joined_86 h) := by
  unfold f_X5_joined_86
  refine s_iconst (i := 34) rfl (v := (0 : Int32)) (by decide) ?_
  exact s_sub [] rfl (b_X5_joined_87 X h ((0 : Int32)))
theorem b_X5_joined_73 (X : XX) (h : XM) (s0 : Int32) : SW X I_X5_joined ρi 73 [] [tI s0] h 0 0 (f_X5_joined_73 h s0) := by
  unfold f_X5_joined_73
  exact s_iret (i := 27) rfl rfl
theorem b_X5_joined_62 (X : XX) (h : XM) (s0 : Int32) : SW X I_X5_joined ρi 62 [] [tI s0] h 0 0 (f_X5_joined_62 h s0) := by
  unfold f_X5_joined_62
  exact s_iret (i := 20) rfl rfl
theorem c_X5_joined (h : XM) (a0 : Int32) (a1 : Int32) (a2 : Int32) : MC I_X5_joined y_X5_joined [tI a0, tI a1, tI a2] h ρi (f_X5_joined h a0 a1 a2) := by
  refine MC_of ⟨by decide +kernel, rfl, rfl, Nat.le_of_ble_eq_true rfl⟩ dT_X5_joined (fun X => ?_)
  show SW X I_X5_joined ρi 0 [(0, tI a0), (1, tI a1), (2, tI a2)] [] h 0 0 (f_X5_joined h a0 a1 a2)
  unfold f_X5_joined
  refine s_iload_n (i := 0) rfl 0 rfl ?_
  refine s_if (P := a0 = (-14 : Int32)) (fun z1_m14 => ?_) (fun z1_m14 => ?_)
  · refine s_table 74 (i := 1) rfl rfl (by rw [z1_m14]; rfl) ?_
    refine s_iload_n (i := 28) rfl 1 rfl ?_
    refine s_ifeq (i := 29) rfl (tgt := 86) (by decide) (fun z75 => ?_) (fun z75 => ?_)
    · exact s_sub [] rfl (b_X5_joined_86 X h)
    · refine s_iload_n (i := 30) rfl 2 rfl ?_
      refine s_ifeq (i := 31) rfl (tgt := 86) (by decide) (fun z79 => ?_) (fun z79 => ?_)
      · exact s_sub [] rfl (b_X5_joined_86 X h)
      · refine s_iconst (i := 32) rfl (v := (1 : Int32)) (by decide) ?_
        refine s_goto (i := 33) rfl (tgt := 87) (by decide) ?_
        exact s_sub [] rfl (b_X5_joined_87 X h ((1 : Int32)))
  refine s_if (P := a0 = (-13 : Int32)) (fun z1_m13 => ?_) (fun z1_m13 => ?_)
  · refine s_table 63 (i := 1) rfl rfl (by rw [z1_m13]; rfl) ?_
    refine s_iload_n (i := 21) rfl 1 rfl ?_
    refine s_iload_n (i := 22) rfl 2 rfl ?_
    refine s_icmpne (i := 23) rfl (tgt := 72) (by decide) (fun z65 => ?_) (fun z65 => ?_)
    · refine s_iconst (i := 24) rfl (v := (1 : Int32)) (by decide) ?_
      refine s_goto (i := 25) rfl (tgt := 73) (by decide) ?_
      exact s_sub [] rfl (b_X5_joined_73 X h ((1 : Int32)))
    · refine s_iconst (i := 26) rfl (v := (0 : Int32)) (by decide) ?_
      exact s_sub [] rfl (b_X5_joined_73 X h ((0 : Int32)))
  refine s_if (P := a0 = (-12 : Int32)) (fun z1_m12 => ?_) (fun z1_m12 => ?_)
  · refine s_table 52 (i := 1) rfl rfl (by rw [z1_m12]; rfl) ?_
    refine s_iload_n (i := 14) rfl 1 rfl ?_
    refine s_iload_n (i := 15) rfl 2 rfl ?_
    refine s_icmpge (i := 16) rfl (tgt := 61) (by decide) (fun z54 => ?_) (fun z54 => ?_)
    · refine s_iconst (i := 17) rfl (v := (1 : Int32)) (by decide) ?_
      refine s_goto (i := 18) rfl (tgt := 62) (by decide) ?_
      exact s_sub [] rfl (b_X5_joined_62 X h ((1 : Int32)))
    · refine s_iconst (i := 19) rfl (v := (0 : Int32)) (by decide) ?_
      exact s_sub [] rfl (b_X5_joined_62 X h ((0 : Int32)))
  refine s_if (P := a0 = (-11 : Int32)) (fun z1_m11 => ?_) (fun z1_m11 => ?_)
  · refine s_table 48 (i := 1) rfl rfl (by rw [z1_m11]; rfl) ?_
    refine s_iload_n (i := 10) rfl 1 rfl ?_
    refine s_iload_n (i := 11) rfl 2 rfl ?_
    refine s_imul (i := 12) rfl ?_
    exact s_iret (i := 13) rfl rfl
  refine s_if (P := a0 = (-10 : Int32)) (fun z1_m10 => ?_) (fun z1_m10 => ?_)
  · refine s_table 44 (i := 1) rfl rfl (by rw [z1_m10]; rfl) ?_
    refine s_iload_n (i := 6) rfl 1 rfl ?_
    refine s_iload_n (i := 7) rfl 2 rfl ?_
    refine s_isub (i := 8) rfl ?_
    exact s_iret (i := 9) rfl rfl
  refine s_if (P := a0 = (-9 : Int32)) (fun z1_m9 => ?_) (fun z1_m9 => ?_)
  · refine s_table 40 (i := 1) rfl rfl (by rw [z1_m9]; rfl) ?_
    refine s_iload_n (i := 2) rfl 1 rfl ?_
    refine s_iload_n (i := 3) rfl 2 rfl ?_
    refine s_iadd (i := 4) rfl ?_
    exact s_iret (i := 5) rfl rfl
  refine s_table 88 (i := 1) rfl rfl (by
    rw [swT_out (fun k h1 h2 => by
      rcases (show k = -14 ∨ k = -13 ∨ k = -12 ∨ k = -11 ∨ k = -10 ∨ k = -9 by omega) with e | e | e | e | e | e <;> subst e
      · exact Or.inr z1_m14
      · exact Or.inr z1_m13
      · exact Or.inr z1_m12
      · exact Or.inr z1_m11
      · exact Or.inr z1_m10
      · exact Or.inr z1_m9)]
    rfl) ?_
  refine s_iload_n (i := 36) rfl 1 rfl ?_
  refine s_ifne (i := 37) rfl (tgt := 96) (by decide) (fun z89 => ?_) (fun z89 => ?_)
  · refine s_iload_n (i := 38) rfl 2 rfl ?_
    refine s_ifeq (i := 39) rfl (tgt := 100) (by decide) (fun z93 => ?_) (fun z93 => ?_)
    · refine s_iconst (i := 42) rfl (v := (0 : Int32)) (by decide) ?_
      exact s_sub [] rfl (b_X5_joined_101 X h ((0 : Int32)))
    · exact s_sub [] rfl (b_X5_joined_96 X h)
  · exact s_sub [] rfl (b_X5_joined_96 X h)
def y_X5_named : MethodName := ⟨"OpensAtNine$Text", "named", "([II)I"⟩
def T_X5_named : List (Nat × Instr × Nat × Nat) := [(0, .iload_n 1, 1, 1), (1, .ifCond .lt 15, 3, 4), (4, .iload_n 1, 1, 5), (5, .aload_n 0, 1, 6), (6, .arraylength, 1, 7), (7, .if_icmp .ge 9, 3, 10), (10, .aload_n 0, 1, 11), (11, .iload_n 1, 1, 12), (12, .iaload, 1, 13), (13, .goto 4, 3, 16), (16, .iconst 0, 1, 17), (17, .ireturn, 1, 18)]
def I_X5_named : MI := (prog_7_method_3_code, 2, (some .int), "OpensAtNine$Text", "named", T_X5_named, 0, 0, 1, 60)
theorem dT_X5_named : ∀ q ∈ T_X5_named, decode prog_7_method_3_code q.1 = .ok (q.2.1, q.2.2.1) ∧ q.2.2.2 = q.1 + q.2.2.1 := by decide +kernel
theorem xm_X5_named : xCS y_X5_named I_X5_named 2 := ⟨tw562, tw80, tw563, ⟨by decide +kernel, by decide +kernel, by decide +kernel⟩⟩
noncomputable def f_X5_named_17 (h : XM) (s0 : Int32) : Option (Int32 × XM) := some (s0, h)
noncomputable def f_X5_named_16 (h : XM) : Option (Int32 × XM) := f_X5_named_17 h ((0 : Int32))
noncomputable def f_X5_named (h : XM) (a0 : Option Nat) (a1 : Int32) : Option (Int32 × XM) := if a1 < 0 then (f_X5_named_16 h) else ((ln h a0).bind fun v1 => if a1 < v1 then ((rI h a0 a1).bind fun v2 => f_X5_named_17 h v2) else (f_X5_named_16 h))
theorem b_X5_named_17 (X : XX) (h : XM) (s0 : Int32) : SW X I_X5_named ρi 17 [] [tI s0] h 0 0 (f_X5_named_17 h s0) := by
  unfold f_X5_named_17
  exact s_iret (i := 11) rfl rfl
theorem b_X5_named_16 (X : XX) (h : XM) : SW X I_X5_named ρi 16 [] [] h 0 0 (f_X5_named_16 h) := by
  unfold f_X5_named_16
  refine s_iconst (i := 10) rfl (v := (0 : Int32)) (by decide) ?_
  exact s_sub [] rfl (b_X5_named_17 X h ((0 : Int32)))
theorem c_X5_named (h : XM) (a0 : Option Nat) (a1 : Int32) : MC I_X5_named y_X5_named [tA a0, tI a1] h ρi (f_X5_named h a0 a1) := by
  refine MC_of ⟨by decide +kernel, rfl, rfl, Nat.le_of_ble_eq_true rfl⟩ dT_X5_named (fun X => ?_)
  show SW X I_X5_named ρi 0 [(0, tA a0), (1, tI a1)] [] h 0 0 (f_X5_named h a0 a1)
  unfold f_X5_named
  refine s_iload_n (i := 0) rfl 1 rfl ?_
  refine s_iflt (i := 1) rfl (tgt := 16) (by decide) (fun z1 => ?_) (fun z1 => ?_)
  · exact s_sub [] rfl (b_X5_named_16 X h)
  · refine s_iload_n (i := 2) rfl 1 rfl ?_
    refine s_aload_n (i := 3) rfl 0 rfl ?_
    refine s_alen (i := 4) rfl (fun v1 => ?_)
    refine s_icmpge (i := 5) rfl (tgt := 16) (by decide) (fun z7 => ?_) (fun z7 => ?_)
    · refine s_aload_n (i := 6) rfl 0 rfl ?_
      refine s_iload_n (i := 7) rfl 1 rfl ?_
      refine s_iaload (i := 8) rfl (fun v2 => ?_)
      refine s_goto (i := 9) rfl (tgt := 17) (by decide) ?_
      exact s_sub [] rfl (b_X5_named_17 X h v2)
    · exact s_sub [] rfl (b_X5_named_16 X h)
def y_X5_says : MethodName := ⟨"OpensAtNine$Text", "says", "(I[I)I"⟩
def T_X5_says_0 : List (Nat × Instr × Nat × Nat) := [(0, .iload_n 1, 1, 1), (1, .ifCond .lt 14, 3, 4), (4, .iload_n 1, 1, 5), (5, .iconst 1, 1, 6), (6, .iadd, 1, 7), (7, .aload_n 0, 1, 8), (8, .getfield 13, 3, 11), (11, .arraylength, 1, 12), (12, .if_icmp .lt 5, 3, 15), (15, .iconst 0, 1, 16), (16, .ireturn, 1, 17), (17, .iconst 0, 1, 18), (18, .istore_n 3, 1, 19), (19, .aload_n 0, 1, 20), (20, .getfield 13, 3, 23), (23, .iload_n 1, 1, 24), (24, .iconst 1, 1, 25), (25, .iadd, 1, 26), (26, .iaload, 1, 27), (27, .aload_n 0, 1, 28), (28, .getfield 7, 3, 31), (31, .arraylength, 1, 32), (32, .invokestatic 19, 3, 35), (35, .istore 4, 2, 37), (37, .iconst 0, 1, 38), (38, .aload_n 0, 1, 39), (39, .getfield 13, 3, 42), (42, .iload_n 1, 1, 43), (43, .iaload, 1, 44), (44, .invokestatic 25, 3, 47), (47, .istore 5, 2, 49), (49, .iload 5, 2, 51), (51, .iload 4, 2, 53), (53, .if_icmp .ge 163, 3, 56), (56, .aload_n 0, 1, 57), (57, .getfield 7, 3, 60), (60, .iload 5, 2, 62), (62, .iaload, 1, 63), (63, .istore 6, 2, 65), (65, .iload 6, 2, 67)]
def T_X5_says_1 : List (Nat × Instr × Nat × Nat) := [(67, .bipush (-6), 2, 69), (69, .if_icmp .lt 44, 3, 72), (72, .iload_n 3, 1, 73), (73, .aload_n 0, 1, 74), (74, .getfield 16, 3, 77), (77, .arraylength, 1, 78), (78, .if_icmp .lt 5, 3, 81), (81, .iconst 0, 1, 82), (82, .ireturn, 1, 83), (83, .aload_n 0, 1, 84), (84, .getfield 16, 3, 87), (87, .iload_n 3, 1, 88), (88, .iload 6, 2, 90), (90, .ifCond .lt 8, 3, 93), (93, .iload 6, 2, 95), (95, .goto 11, 3, 98), (98, .aload_n 2, 1, 99), (99, .iconst (-1), 1, 100), (100, .iload 6, 2, 102), (102, .isub, 1, 103), (103, .invokestatic 28, 3, 106), (106, .iastore, 1, 107), (107, .iinc 3 1, 3, 110), (110, .goto 100, 3, 113), (113, .iload 6, 2, 115), (115, .bipush (-8), 2, 117), (117, .if_icmp .lt 56, 3, 120), (120, .iload_n 3, 1, 121), (121, .iconst 1, 1, 122), (122, .if_icmp .ge 5, 3, 125), (125, .iconst 0, 1, 126), (126, .ireturn, 1, 127), (127, .aload_n 0, 1, 128), (128, .getfield 16, 3, 131), (131, .iload_n 3, 1, 132), (132, .iconst 1, 1, 133), (133, .isub, 1, 134), (134, .iload 6, 2, 136), (136, .bipush (-7), 2, 138), (138, .if_icmp .ne 15, 3, 141)]
def T_X5_says_2 : List (Nat × Instr × Nat × Nat) := [(141, .aload_n 0, 1, 142), (142, .getfield 16, 3, 145), (145, .iload_n 3, 1, 146), (146, .iconst 1, 1, 147), (147, .isub, 1, 148), (148, .iaload, 1, 149), (149, .ineg, 1, 150), (150, .goto 19, 3, 153), (153, .aload_n 0, 1, 154), (154, .getfield 16, 3, 157), (157, .iload_n 3, 1, 158), (158, .iconst 1, 1, 159), (159, .isub, 1, 160), (160, .iaload, 1, 161), (161, .ifCond .ne 7, 3, 164), (164, .iconst 1, 1, 165), (165, .goto 4, 3, 168), (168, .iconst 0, 1, 169), (169, .iastore, 1, 170), (170, .goto 40, 3, 173), (173, .iload_n 3, 1, 174), (174, .iconst 2, 1, 175), (175, .if_icmp .ge 5, 3, 178), (178, .iconst 0, 1, 179), (179, .ireturn, 1, 180), (180, .iinc 3 (-1), 3, 183), (183, .aload_n 0, 1, 184), (184, .getfield 16, 3, 187), (187, .iload_n 3, 1, 188), (188, .iconst 1, 1, 189), (189, .isub, 1, 190), (190, .iload 6, 2, 192), (192, .aload_n 0, 1, 193), (193, .getfield 16, 3, 196), (196, .iload_n 3, 1, 197), (197, .iconst 1, 1, 198), (198, .isub, 1, 199), (199, .iaload, 1, 200), (200, .aload_n 0, 1, 201), (201, .getfield 16, 3, 204)]
def T_X5_says_3 : List (Nat × Instr × Nat × Nat) := [(204, .iload_n 3, 1, 205), (205, .iaload, 1, 206), (206, .invokestatic 32, 3, 209), (209, .iastore, 1, 210), (210, .iinc 5 1, 3, 213), (213, .goto (-164), 3, 216), (216, .iload_n 3, 1, 217), (217, .ifCond .le 12, 3, 220), (220, .aload_n 0, 1, 221), (221, .getfield 16, 3, 224), (224, .iconst 0, 1, 225), (225, .iaload, 1, 226), (226, .goto 4, 3, 229), (229, .iconst 0, 1, 230), (230, .ireturn, 1, 231)]
def T_X5_says : List (Nat × Instr × Nat × Nat) := [(0, .iload_n 1, 1, 1), (1, .ifCond .lt 14, 3, 4), (4, .iload_n 1, 1, 5), (5, .iconst 1, 1, 6), (6, .iadd, 1, 7), (7, .aload_n 0, 1, 8), (8, .getfield 13, 3, 11), (11, .arraylength, 1, 12), (12, .if_icmp .lt 5, 3, 15), (15, .iconst 0, 1, 16), (16, .ireturn, 1, 17), (17, .iconst 0, 1, 18), (18, .istore_n 3, 1, 19), (19, .aload_n 0, 1, 20), (20, .getfield 13, 3, 23), (23, .iload_n 1, 1, 24), (24, .iconst 1, 1, 25), (25, .iadd, 1, 26), (26, .iaload, 1, 27), (27, .aload_n 0, 1, 28), (28, .getfield 7, 3, 31), (31, .arraylength, 1, 32), (32, .invokestatic 19, 3, 35), (35, .istore 4, 2, 37), (37, .iconst 0, 1, 38), (38, .aload_n 0, 1, 39), (39, .getfield 13, 3, 42), (42, .iload_n 1, 1, 43), (43, .iaload, 1, 44), (44, .invokestatic 25, 3, 47), (47, .istore 5, 2, 49), (49, .iload 5, 2, 51), (51, .iload 4, 2, 53), (53, .if_icmp .ge 163, 3, 56), (56, .aload_n 0, 1, 57), (57, .getfield 7, 3, 60), (60, .iload 5, 2, 62), (62, .iaload, 1, 63), (63, .istore 6, 2, 65), (65, .iload 6, 2, 67), (67, .bipush (-6), 2, 69), (69, .if_icmp .lt 44, 3, 72), (72, .iload_n 3, 1, 73), (73, .aload_n 0, 1, 74), (74, .getfield 16, 3, 77), (77, .arraylength, 1, 78), (78, .if_icmp .lt 5, 3, 81), (81, .iconst 0, 1, 82), (82, .ireturn, 1, 83), (83, .aload_n 0, 1, 84), (84, .getfield 16, 3, 87), (87, .iload_n 3, 1, 88), (88, .iload 6, 2, 90), (90, .ifCond .lt 8, 3, 93), (93, .iload 6, 2, 95), (95, .goto 11, 3, 98), (98, .aload_n 2, 1, 99), (99, .iconst (-1), 1, 100), (100, .iload 6, 2, 102), (102, .isub, 1, 103), (103, .invokestatic 28, 3, 106), (106, .iastore, 1, 107), (107, .iinc 3 1, 3, 110), (110, .goto 100, 3, 113), (113, .iload 6, 2, 115), (115, .bipush (-8), 2, 117), (117, .if_icmp .lt 56, 3, 120), (120, .iload_n 3, 1, 121), (121, .iconst 1, 1, 122), (122, .if_icmp .ge 5, 3, 125), (125, .iconst 0, 1, 126), (126, .ireturn, 1, 127), (127, .aload_n 0, 1, 128), (128, .getfield 16, 3, 131), (131, .iload_n 3, 1, 132), (132, .iconst 1, 1, 133), (133, .isub, 1, 134), (134, .iload 6, 2, 136), (136, .bipush (-7), 2, 138), (138, .if_icmp .ne 15, 3, 141), (141, .aload_n 0, 1, 142), (142, .getfield 16, 3, 145), (145, .iload_n 3, 1, 146), (146, .iconst 1, 1, 147), (147, .isub, 1, 148), (148, .iaload, 1, 149), (149, .ineg, 1, 150), (150, .goto 19, 3, 153), (153, .aload_n 0, 1, 154), (154, .getfield 16, 3, 157), (157, .iload_n 3, 1, 158), (158, .iconst 1, 1, 159), (159, .isub, 1, 160), (160, .iaload, 1, 161), (161, .ifCond .ne 7, 3, 164), (164, .iconst 1, 1, 165), (165, .goto 4, 3, 168), (168, .iconst 0, 1, 169), (169, .iastore, 1, 170), (170, .goto 40, 3, 173), (173, .iload_n 3, 1, 174), (174, .iconst 2, 1, 175), (175, .if_icmp .ge 5, 3, 178), (178, .iconst 0, 1, 179), (179, .ireturn, 1, 180), (180, .iinc 3 (-1), 3, 183), (183, .aload_n 0, 1, 184), (184, .getfield 16, 3, 187), (187, .iload_n 3, 1, 188), (188, .iconst 1, 1, 189), (189, .isub, 1, 190), (190, .iload 6, 2, 192), (192, .aload_n 0, 1, 193), (193, .getfield 16, 3, 196), (196, .iload_n 3, 1, 197), (197, .iconst 1, 1, 198), (198, .isub, 1, 199), (199, .iaload, 1, 200), (200, .aload_n 0, 1, 201), (201, .getfield 16, 3, 204), (204, .iload_n 3, 1, 205), (205, .iaload, 1, 206), (206, .invokestatic 32, 3, 209), (209, .iastore, 1, 210), (210, .iinc 5 1, 3, 213), (213, .goto (-164), 3, 216), (216, .iload_n 3, 1, 217), (217, .ifCond .le 12, 3, 220), (220, .aload_n 0, 1, 221), (221, .getfield 16, 3, 224), (224, .iconst 0, 1, 225), (225, .iaload, 1, 226), (226, .goto 4, 3, 229), (229, .iconst 0, 1, 230), (230, .ireturn, 1, 231)]
def I_X5_says : MI := (prog_7_method_2_code, 7, (some .int), "OpensAtNine$Text", "says", T_X5_says, 0, 0, 2, 82)
theorem dT_X5_says_0 : ∀ q ∈ T_X5_says_0, decode prog_7_method_2_code q.1 = .ok (q.2.1, q.2.2.1) ∧ q.2.2.2 = q.1 + q.2.2.1 := by decide +kernel
theorem dT_X5_says_1 : ∀ q ∈ T_X5_says_1, decode prog_7_method_2_code q.1 = .ok (q.2.1, q.2.2.1) ∧ q.2.2.2 = q.1 + q.2.2.1 := by decide +kernel
theorem dT_X5_says_2 : ∀ q ∈ T_X5_says_2, decode prog_7_method_2_code q.1 = .ok (q.2.1, q.2.2.1) ∧ q.2.2.2 = q.1 + q.2.2.1 := by decide +kernel
theorem dT_X5_says_3 : ∀ q ∈ T_X5_says_3, decode prog_7_method_2_code q.1 = .ok (q.2.1, q.2.2.1) ∧ q.2.2.2 = q.1 + q.2.2.1 := by decide +kernel
set_option maxRecDepth 20000 in
theorem dT_X5_says : ∀ q ∈ T_X5_says, decode prog_7_method_2_code q.1 = .ok (q.2.1, q.2.2.1) ∧ q.2.2.2 = q.1 + q.2.2.1 := by
  show ∀ q ∈ (T_X5_says_0 ++ (T_X5_says_1 ++ (T_X5_says_2 ++ (T_X5_says_3)))), decode prog_7_method_2_code q.1 = .ok (q.2.1, q.2.2.1) ∧ q.2.2.2 = q.1 + q.2.2.1
  exact List.forall_mem_append.mpr ⟨dT_X5_says_0, List.forall_mem_append.mpr ⟨dT_X5_says_1, List.forall_mem_append.mpr ⟨dT_X5_says_2, dT_X5_says_3⟩⟩⟩
theorem xm_X5_says : xCM y_X5_says I_X5_says 5 2 := ⟨⟨tw554, tw555⟩, tw80, tw556, ⟨xT5, 3, rfl⟩, ⟨by decide +kernel, by decide +kernel, by decide +kernel⟩⟩
noncomputable def f_X5_says_15 (h : XM) : Option (Int32 × XM) := some ((0 : Int32), h)
noncomputable def f_X5_says_210 (k_49 : XM → Option Nat → Option Nat → Int32 → Int32 → Int32 → Option (Int32 × XM)) (h : XM) (l0 : Option Nat) (l2 : Option Nat) (l3 : Int32) (l4 : Int32) (l5 : Int32) : Option (Int32 × XM) := bnd (l5 + (1 : Int32)) fun v1 => k_49 h l0 l2 l3 l4 v1
noncomputable def f_X5_says_106 (k_49 : XM → Option Nat → Option Nat → Int32 → Int32 → Int32 → Option (Int32 × XM)) (h : XM) (l0 : Option Nat) (l2 : Option Nat) (l3 : Int32) (l4 : Int32) (l5 : Int32) (s0 : Int32) (s1 : Int32) (s2 : Option Nat) : Option (Int32 × XM) := (sI h s2 s1 s0).bind fun h2 => bnd (l3 + (1 : Int32)) fun v3 => f_X5_says_210 k_49 h2 l0 l2 v3 l4 l5
noncomputable def f_X5_says_169 (k_49 : XM → Option Nat → Option Nat → Int32 → Int32 → Int32 → Option (Int32 × XM)) (h : XM) (l0 : Option Nat) (l2 : Option Nat) (l3 : Int32) (l4 : Int32) (l5 : Int32) (s0 : Int32) (s1 : Int32) (s2 : Option Nat) : Option (Int32 × XM) := (sI h s2 s1 s0).bind fun h4 => f_X5_says_210 k_49 h4 l0 l2 l3 l4 l5
noncomputable def f_X5_says_230 (h : XM) (s0 : Int32) : Option (Int32 × XM) := some (s0, h)
noncomputable def fb_X5_says_49 (k_49 : XM → Option Nat → Option Nat → Int32 → Int32 → Int32 → Option (Int32 × XM)) (h : XM) (l0 : Option Nat) (l2 : Option Nat) (l3 : Int32) (l4 : Int32) (l5 : Int32) : Option (Int32 × XM) := if l5 < l4 then ((gR h 5 l0 0).bind fun v5 => (rI h v5 l5).bind fun v6 => if v6 < ((-6 : Int32)) then (if v6 < ((-8 : Int32)) then (if l3 < ((2 : Int32)) then (some ((0 : Int32), h)) else (bnd (l3 + (-1 : Int32)) fun v7 => (gR h 5 l0 2).bind fun v8 => (gR h 5 l0 2).bind fun v9 => (rI h v9 (v7 - ((1 : Int32)))).bind fun v10 => (gR h 5 l0 2).bind fun v11 => (rI h v11 v7).bind fun v12 => (f_X5_joined h v6 v10 v12).bind fun q13 => (sI q13.2 v8 (v7 - ((1 : Int32))) q13.1).bind fun h14 => f_X5_says_210 k_49 h14 l0 l2 v7 l4 l5)) else (if l3 < ((1 : Int32)) then (some ((0 : Int32), h)) else ((gR h 5 l0 2).bind fun v15 => if v6 = ((-7 : Int32)) then ((gR h 5 l0 2).bind fun v16 => (rI h v16 (l3 - ((1 : Int32)))).bind fun v17 => f_X5_says_169 k_49 h l0 l2 l3 l4 l5 (-v17) (l3 - ((1 : Int32))) v15) else ((gR h 5 l0 2).bind fun v18 => (rI h v18 (l3 - ((1 : Int32)))).bind fun v19 => if v19 = 0 then (f_X5_says_169 k_49 h l0 l2 l3 l4 l5 ((1 : Int32)) (l3 - ((1 : Int32))) v15) else (f_X5_says_169 k_49 h l0 l2 l3 l4 l5 ((0 : Int32)) (l3 - ((1 : Int32))) v15))))) else ((gR h 5 l0 2).bind fun v20 => (ln h v20).bind fun v21 => if l3 < v21 then ((gR h 5 l0 2).bind fun v22 => if v6 < 0 then ((f_X5_named h l2 (((-1 : Int32)) - v6)).bind fun q23 => f_X5_says_106 k_49 q23.2 l0 l2 l3 l4 l5 q23.1 l3 v22) else (f_X5_says_106 k_49 h l0 l2 l3 l4 l5 v6 l3 v22)) else (some ((0 : Int32), h)))) else (if 0 < l3 then ((gR h 5 l0 2).bind fun v24 => (rI h v24 ((0 : Int32))).bind fun v25 => f_X5_says_230 h v25) else (f_X5_says_230 h ((0 : Int32))))
noncomputable def f_X5_says_49 (n : Nat) : XM → Option Nat → Option Nat → Int32 → Int32 → Int32 → Option (Int32 × XM) := Nat.rec (motive := fun _ => XM → Option Nat → Option Nat → Int32 → Int32 → Int32 → Option (Int32 × XM)) (fun _ _ _ _ _ _ => none) (fun _ ih h l0 l2 l3 l4 l5 => fb_X5_says_49 ih h l0 l2 l3 l4 l5) n
noncomputable def f_X5_says (h : XM) (a0 : Option Nat) (a1 : Int32) (a2 : Option Nat) : Option (Int32 × XM) := if a1 < 0 then (f_X5_says_15 h) else ((gR h 5 a0 1).bind fun v26 => (ln h v26).bind fun v27 => if (a1 + ((1 : Int32))) < v27 then ((gR h 5 a0 1).bind fun v28 => (rI h v28 (a1 + ((1 : Int32)))).bind fun v29 => (gR h 5 a0 0).bind fun v30 => (ln h v30).bind fun v31 => bnd (if v31 < v29 then v31 else v29) fun v32 => (gR h 5 a0 1).bind fun v33 => (rI h v33 a1).bind fun v34 => bnd (if ((0 : Int32)) < v34 then v34 else ((0 : Int32))) fun v35 => f_X5_says_49 FU h a0 a2 ((0 : Int32)) v32 v35) else (f_X5_says_15 h))
theorem b_X5_says_15 (X : XX) (h : XM) : SW X I_X5_says ρi 15 [] [] h 0 0 (f_X5_says_15 h) := by
  unfold f_X5_says_15
  refine s_iconst (i := 9) rfl (v := (0 : Int32)) (by decide) ?_
  exact s_iret (i := 10) rfl rfl
theorem b_X5_says_210 (X : XX) (k_49 : XM → Option Nat → Option Nat → Int32 → Int32 → Int32 → Option (Int32 × XM)) (hk_49 : ∀ h l0 l2 l3 l4 l5, SW X I_X5_says ρi 49 [(0, tA l0), (2, tA l2), (3, tI l3), (4, tI l4), (5, tI l5)] [] h 0 0 (k_49 h l0 l2 l3 l4 l5)) (h : XM) (l0 : Option Nat) (l2 : Option Nat) (l3 : Int32) (l4 : Int32) (l5 : Int32) : SW X I_X5_says ρi 210 [(0, tA l0), (2, tA l2), (3, tI l3), (4, tI l4), (5, tI l5)] [] h 0 0 (f_X5_says_210 k_49 h l0 l2 l3 l4 l5) := by
  unfold f_X5_says_210
  refine s_inc (i := 124) rfl 4 rfl (c9 := (1 : Int32)) (by decide) (Nat.le_of_ble_eq_true rfl) (fun v1 => ?_)
  refine s_ls (ls2 := [(5, tI v1), (0, tA l0), (2, tA l2), (3, tI l3), (4, tI l4)]) rfl ?_
  refine s_goto (i := 125) rfl (tgt := 49) (by decide) ?_
  exact s_sub [1, 2, 3, 4, 0] rfl (hk_49 h l0 l2 l3 l4 v1)
theorem b_X5_says_106 (X : XX) (k_49 : XM → Option Nat → Option Nat → Int32 → Int32 → Int32 → Option (Int32 × XM)) (hk_49 : ∀ h l0 l2 l3 l4 l5, SW X I_X5_says ρi 49 [(0, tA l0), (2, tA l2), (3, tI l3), (4, tI l4), (5, tI l5)] [] h 0 0 (k_49 h l0 l2 l3 l4 l5)) (h : XM) (l0 : Option Nat) (l2 : Option Nat) (l3 : Int32) (l4 : Int32) (l5 : Int32) (s0 : Int32) (s1 : Int32) (s2 : Option Nat) : SW X I_X5_says ρi 106 [(0, tA l0), (2, tA l2), (3, tI l3), (4, tI l4), (5, tI l5)] [tI s0, tI s1, tA s2] h 0 0 (f_X5_says_106 k_49 h l0 l2 l3 l4 l5 s0 s1 s2) := by
  unfold f_X5_says_106
  refine s_iastore (i := 61) rfl (fun h2 => ?_)
  refine s_inc (i := 62) rfl 2 rfl (c9 := (1 : Int32)) (by decide) (Nat.le_of_ble_eq_true rfl) (fun v3 => ?_)
  refine s_ls (ls2 := [(3, tI v3), (0, tA l0), (2, tA l2), (4, tI l4), (5, tI l5)]) rfl ?_
  refine s_goto (i := 63) rfl (tgt := 210) (by decide) ?_
  exact s_sub [1, 2, 0, 3, 4] rfl (b_X5_says_210 X k_49 hk_49 h2 l0 l2 v3 l4 l5)
theorem b_X5_says_169 (X : XX) (k_49 : XM → Option Nat → Option Nat → Int32 → Int32 → Int32 → Option (Int32 × XM)) (hk_49 : ∀ h l0 l2 l3 l4 l5, SW X I_X5_says ρi 49 [(0, tA l0), (2, tA l2), (3, tI l3), (4, tI l4), (5, tI l5)] [] h 0 0 (k_49 h l0 l2 l3 l4 l5)) (h : XM) (l0 : Option Nat) (l2 : Option Nat) (l3 : Int32) (l4 : Int32) (l5 : Int32) (s0 : Int32) (s1 : Int32) (s2 : Option Nat) : SW X I_X5_says ρi 169 [(0, tA l0), (2, tA l2), (3, tI l3), (4, tI l4), (5, tI l5)] [tI s0, tI s1, tA s2] h 0 0 (f_X5_says_169 k_49 h l0 l2 l3 l4 l5 s0 s1 s2) := by
  unfold f_X5_says_169
  refine s_iastore (i := 98) rfl (fun h4 => ?_)
  refine s_goto (i := 99) rfl (tgt := 210) (by decide) ?_
  exact s_sub [0, 1, 2, 3, 4] rfl (b_X5_says_210 X k_49 hk_49 h4 l0 l2 l3 l4 l5)
theorem b_X5_says_230 (X : XX) (h : XM) (s0 : Int32) : SW X I_X5_says ρi 230 [] [tI s0] h 0 0 (f_X5_says_230 h s0) := by
  unfold f_X5_says_230
  exact s_iret (i := 134) rfl rfl
theorem bb_X5_says_49 (X : XX) (k_49 : XM → Option Nat → Option Nat → Int32 → Int32 → Int32 → Option (Int32 × XM)) (hk_49 : ∀ h l0 l2 l3 l4 l5, SW X I_X5_says ρi 49 [(0, tA l0), (2, tA l2), (3, tI l3), (4, tI l4), (5, tI l5)] [] h 0 0 (k_49 h l0 l2 l3 l4 l5)) (h : XM) (l0 : Option Nat) (l2 : Option Nat) (l3 : Int32) (l4 : Int32) (l5 : Int32) : SW X I_X5_says ρi 49 [(0, tA l0), (2, tA l2), (3, tI l3), (4, tI l4), (5, tI l5)] [] h 0 0 (fb_X5_says_49 k_49 h l0 l2 l3 l4 l5) := by
  unfold fb_X5_says_49
  refine s_iload (i := 31) rfl 4 rfl ?_
  refine s_iload (i := 32) rfl 3 rfl ?_
  refine s_icmpge (i := 33) rfl (tgt := 216) (by decide) (fun z53 => ?_) (fun z53 => ?_)
  · refine s_aload_n (i := 34) rfl 0 rfl ?_
    refine s_getR (i := 35) rfl xf_5_7.r rfl (fun v5 => ?_)
    refine s_iload (i := 36) rfl 4 rfl ?_
    refine s_iaload (i := 37) rfl (fun v6 => ?_)
    refine s_istore (i := 38) rfl (Nat.le_of_ble_eq_true rfl) (ls2 := [(6, tI v6), (0, tA l0), (2, tA l2), (3, tI l3), (4, tI l4), (5, tI l5)]) rfl ?_
    refine s_iload (i := 39) rfl 0 rfl ?_
    refine s_bipush (i := 40) rfl (v := (-6 : Int32)) (by decide) ?_
    refine s_icmplt (i := 41) rfl (tgt := 113) (by decide) (fun z69 => ?_) (fun z69 => ?_)
    · refine s_iload (i := 64) rfl 0 rfl ?_
      refine s_bipush (i := 65) rfl (v := (-8 : Int32)) (by decide) ?_
      refine s_icmplt (i := 66) rfl (tgt := 173) (by decide) (fun z117 => ?_) (fun z117 => ?_)
      · refine s_iload_n (i := 100) rfl 3 rfl ?_
        refine s_iconst (i := 101) rfl (v := (2 : Int32)) (by decide) ?_
        refine s_icmpge (i := 102) rfl (tgt := 180) (by decide) (fun z175 => ?_) (fun z175 => ?_)
        · refine s_iconst (i := 103) rfl (v := (0 : Int32)) (by decide) ?_
          exact s_iret (i := 104) rfl rfl
        · refine s_inc (i := 105) rfl 3 rfl (c9 := (-1 : Int32)) (by decide) (Nat.le_of_ble_eq_true rfl) (fun v7 => ?_)
          refine s_ls (ls2 := [(3, tI v7), (6, tI v6), (0, tA l0), (2, tA l2), (4, tI l4), (5, tI l5)]) rfl ?_
          refine s_aload_n (i := 106) rfl 2 rfl ?_
          refine s_getR (i := 107) rfl xf_5_16.r rfl (fun v8 => ?_)
          refine s_iload_n (i := 108) rfl 0 rfl ?_
          refine s_iconst (i := 109) rfl (v := (1 : Int32)) (by decide) ?_
          refine s_isub (i := 110) rfl ?_
          refine s_iload (i := 111) rfl 1 rfl ?_
          refine s_aload_n (i := 112) rfl 2 rfl ?_
          refine s_getR (i := 113) rfl xf_5_16.r rfl (fun v9 => ?_)
          refine s_iload_n (i := 114) rfl 0 rfl ?_
          refine s_iconst (i := 115) rfl (v := (1 : Int32)) (by decide) ?_
          refine s_isub (i := 116) rfl ?_
          refine s_iaload (i := 117) rfl (fun v10 => ?_)
          refine s_aload_n (i := 118) rfl 2 rfl ?_
          refine s_getR (i := 119) rfl xf_5_16.r rfl (fun v11 => ?_)
          refine s_iload_n (i := 120) rfl 0 rfl ?_
          refine s_iaload (i := 121) rfl (fun v12 => ?_)
          refine u_callSi [tI v6, tI v10, tI v12] [tI (v7 - ((1 : Int32))), tA v8] rfl (i := 122) rfl (c_X5_joined h v6 v10 v12) xm_X5_joined (tw564) rfl (Nat.le_of_ble_eq_true rfl) (xRm.of rfl) ⟨rfl, rfl⟩ (fun q13 => ?_)
          refine s_iastore (i := 123) rfl (fun h14 => ?_)
          exact s_sub [2, 3, 0, 4, 5] rfl (b_X5_says_210 X k_49 hk_49 h14 l0 l2 v7 l4 l5)
      · refine s_iload_n (i := 67) rfl 3 rfl ?_
        refine s_iconst (i := 68) rfl (v := (1 : Int32)) (by decide) ?_
        refine s_icmpge (i := 69) rfl (tgt := 127) (by decide) (fun z122 => ?_) (fun z122 => ?_)
        · refine s_iconst (i := 70) rfl (v := (0 : Int32)) (by decide) ?_
          exact s_iret (i := 71) rfl rfl
        · refine s_aload_n (i := 72) rfl 1 rfl ?_
          refine s_getR (i := 73) rfl xf_5_16.r rfl (fun v15 => ?_)
          refine s_iload_n (i := 74) rfl 3 rfl ?_
          refine s_iconst (i := 75) rfl (v := (1 : Int32)) (by decide) ?_
          refine s_isub (i := 76) rfl ?_
          refine s_iload (i := 77) rfl 0 rfl ?_
          refine s_bipush (i := 78) rfl (v := (-7 : Int32)) (by decide) ?_
          refine s_icmpne (i := 79) rfl (tgt := 153) (by decide) (fun z138 => ?_) (fun z138 => ?_)
          · refine s_aload_n (i := 80) rfl 1 rfl ?_
            refine s_getR (i := 81) rfl xf_5_16.r rfl (fun v16 => ?_)
            refine s_iload_n (i := 82) rfl 3 rfl ?_
            refine s_iconst (i := 83) rfl (v := (1 : Int32)) (by decide) ?_
            refine s_isub (i := 84) rfl ?_
            refine s_iaload (i := 85) rfl (fun v17 => ?_)
            refine s_ineg (i := 86) rfl ?_
            refine s_goto (i := 87) rfl (tgt := 169) (by decide) ?_
            exact s_sub [1, 2, 3, 4, 5] rfl (b_X5_says_169 X k_49 hk_49 h l0 l2 l3 l4 l5 (-v17) (l3 - ((1 : Int32))) v15)
          · refine s_aload_n (i := 88) rfl 1 rfl ?_
            refine s_getR (i := 89) rfl xf_5_16.r rfl (fun v18 => ?_)
            refine s_iload_n (i := 90) rfl 3 rfl ?_
            refine s_iconst (i := 91) rfl (v := (1 : Int32)) (by decide) ?_
            refine s_isub (i := 92) rfl ?_
            refine s_iaload (i := 93) rfl (fun v19 => ?_)
            refine s_ifne (i := 94) rfl (tgt := 168) (by decide) (fun z161 => ?_) (fun z161 => ?_)
            · refine s_iconst (i := 95) rfl (v := (1 : Int32)) (by decide) ?_
              refine s_goto (i := 96) rfl (tgt := 169) (by decide) ?_
              exact s_sub [1, 2, 3, 4, 5] rfl (b_X5_says_169 X k_49 hk_49 h l0 l2 l3 l4 l5 ((1 : Int32)) (l3 - ((1 : Int32))) v15)
            · refine s_iconst (i := 97) rfl (v := (0 : Int32)) (by decide) ?_
              exact s_sub [1, 2, 3, 4, 5] rfl (b_X5_says_169 X k_49 hk_49 h l0 l2 l3 l4 l5 ((0 : Int32)) (l3 - ((1 : Int32))) v15)
    · refine s_iload_n (i := 42) rfl 3 rfl ?_
      refine s_aload_n (i := 43) rfl 1 rfl ?_
      refine s_getR (i := 44) rfl xf_5_16.r rfl (fun v20 => ?_)
      refine s_alen (i := 45) rfl (fun v21 => ?_)
      refine s_icmplt (i := 46) rfl (tgt := 83) (by decide) (fun z78 => ?_) (fun z78 => ?_)
      · refine s_aload_n (i := 49) rfl 1 rfl ?_
        refine s_getR (i := 50) rfl xf_5_16.r rfl (fun v22 => ?_)
        refine s_iload_n (i := 51) rfl 3 rfl ?_
        refine s_iload (i := 52) rfl 0 rfl ?_
        refine s_iflt (i := 53) rfl (tgt := 98) (by decide) (fun z90 => ?_) (fun z90 => ?_)
        · refine s_aload_n (i := 56) rfl 2 rfl ?_
          refine s_iconst (i := 57) rfl (v := (-1 : Int32)) (by decide) ?_
          refine s_iload (i := 58) rfl 0 rfl ?_
          refine s_isub (i := 59) rfl ?_
          refine u_callSi [tA l2, tI (((-1 : Int32)) - v6)] [tI l3, tA v22] rfl (i := 60) rfl (c_X5_named h l2 (((-1 : Int32)) - v6)) xm_X5_named (tw561) rfl (Nat.le_of_ble_eq_true rfl) (xRm.of rfl) ⟨rfl, rfl⟩ (fun q23 => ?_)
          exact s_sub [1, 2, 3, 4, 5] rfl (b_X5_says_106 X k_49 hk_49 q23.2 l0 l2 l3 l4 l5 q23.1 l3 v22)
        · refine s_iload (i := 54) rfl 0 rfl ?_
          refine s_goto (i := 55) rfl (tgt := 106) (by decide) ?_
          exact s_sub [1, 2, 3, 4, 5] rfl (b_X5_says_106 X k_49 hk_49 h l0 l2 l3 l4 l5 v6 l3 v22)
      · refine s_iconst (i := 47) rfl (v := (0 : Int32)) (by decide) ?_
        exact s_iret (i := 48) rfl rfl
  · refine s_iload_n (i := 126) rfl 2 rfl ?_
    refine s_ifle (i := 127) rfl (tgt := 229) (by decide) (fun z217 => ?_) (fun z217 => ?_)
    · refine s_aload_n (i := 128) rfl 0 rfl ?_
      refine s_getR (i := 129) rfl xf_5_16.r rfl (fun v24 => ?_)
      refine s_iconst (i := 130) rfl (v := (0 : Int32)) (by decide) ?_
      refine s_iaload (i := 131) rfl (fun v25 => ?_)
      refine s_goto (i := 132) rfl (tgt := 230) (by decide) ?_
      exact s_sub [] rfl (b_X5_says_230 X h v25)
    · refine s_iconst (i := 133) rfl (v := (0 : Int32)) (by decide) ?_
      exact s_sub [] rfl (b_X5_says_230 X h ((0 : Int32)))
theorem b_X5_says_49 (X : XX) : ∀ (n : Nat) (h : XM) (l0 : Option Nat) (l2 : Option Nat) (l3 : Int32) (l4 : Int32) (l5 : Int32), SW X I_X5_says ρi 49 [(0, tA l0), (2, tA l2), (3, tI l3), (4, tI l4), (5, tI l5)] [] h 0 0 (f_X5_says_49 n h l0 l2 l3 l4 l5) := by
  intro n
  induction n with
  | zero =>
    intro h l0 l2 l3 l4 l5
    exact s_none
  | succ n ih =>
    intro h l0 l2 l3 l4 l5
    exact bb_X5_says_49 X (f_X5_says_49 n) ih h l0 l2 l3 l4 l5
theorem c_X5_says (h : XM) (a0 : Option Nat) (a1 : Int32) (a2 : Option Nat) : MC I_X5_says y_X5_says [tA a0, tI a1, tA a2] h ρi (f_X5_says h a0 a1 a2) := by
  refine MC_of ⟨by decide +kernel, rfl, rfl, Nat.le_of_ble_eq_true rfl⟩ dT_X5_says (fun X => ?_)
  show SW X I_X5_says ρi 0 [(0, tA a0), (1, tI a1), (2, tA a2)] [] h 0 0 (f_X5_says h a0 a1 a2)
  unfold f_X5_says
  refine s_iload_n (i := 0) rfl 1 rfl ?_
  refine s_iflt (i := 1) rfl (tgt := 15) (by decide) (fun z1 => ?_) (fun z1 => ?_)
  · exact s_sub [] rfl (b_X5_says_15 X h)
  · refine s_iload_n (i := 2) rfl 1 rfl ?_
    refine s_iconst (i := 3) rfl (v := (1 : Int32)) (by decide) ?_
    refine s_iadd (i := 4) rfl ?_
    refine s_aload_n (i := 5) rfl 0 rfl ?_
    refine s_getR (i := 6) rfl xf_5_13.r rfl (fun v26 => ?_)
    refine s_alen (i := 7) rfl (fun v27 => ?_)
    refine s_icmplt (i := 8) rfl (tgt := 17) (by decide) (fun z12 => ?_) (fun z12 => ?_)
    · refine s_iconst (i := 11) rfl (v := (0 : Int32)) (by decide) ?_
      refine s_istore_n (i := 12) rfl (Nat.le_of_ble_eq_true rfl) (ls2 := [(3, tI ((0 : Int32))), (0, tA a0), (1, tI a1), (2, tA a2)]) rfl ?_
      refine s_aload_n (i := 13) rfl 1 rfl ?_
      refine s_getR (i := 14) rfl xf_5_13.r rfl (fun v28 => ?_)
      refine s_iload_n (i := 15) rfl 2 rfl ?_
      refine s_iconst (i := 16) rfl (v := (1 : Int32)) (by decide) ?_
      refine s_iadd (i := 17) rfl ?_
      refine s_iaload (i := 18) rfl (fun v29 => ?_)
      refine s_aload_n (i := 19) rfl 1 rfl ?_
      refine s_getR (i := 20) rfl xf_5_7.r rfl (fun v30 => ?_)
      refine s_alen (i := 21) rfl (fun v31 => ?_)
      refine s_mmin (i := 22) rfl ⟨tw557, tw446, tw82, tw447⟩ (Nat.le_of_ble_eq_true rfl) ⟨by decide, by decide⟩ ?_
      refine s_bnd (fun v32 => ?_)
      refine s_istore (i := 23) rfl (Nat.le_of_ble_eq_true rfl) (ls2 := [(4, tI v32), (3, tI ((0 : Int32))), (0, tA a0), (1, tI a1), (2, tA a2)]) rfl ?_
      refine s_iconst (i := 24) rfl (v := (0 : Int32)) (by decide) ?_
      refine s_aload_n (i := 25) rfl 2 rfl ?_
      refine s_getR (i := 26) rfl xf_5_13.r rfl (fun v33 => ?_)
      refine s_iload_n (i := 27) rfl 3 rfl ?_
      refine s_iaload (i := 28) rfl (fun v34 => ?_)
      refine s_mmax (i := 29) rfl ⟨tw558, tw559, tw82, tw560⟩ (Nat.le_of_ble_eq_true rfl) ⟨by decide, by decide⟩ ?_
      refine s_bnd (fun v35 => ?_)
      refine s_istore (i := 30) rfl (Nat.le_of_ble_eq_true rfl) (ls2 := [(5, tI v35), (4, tI v32), (3, tI ((0 : Int32))), (0, tA a0), (1, tI a1), (2, tA a2)]) rfl ?_
      exact s_sub [3, 5, 2, 1, 0] rfl (b_X5_says_49 X FU h a0 a2 ((0 : Int32)) v32 v35)
    · exact s_sub [] rfl (b_X5_says_15 X h)
def y_X2_init : MethodName := ⟨"OpensAtNine$Met", "<init>", "()V"⟩
def T_X2_init : List (Nat × Instr × Nat × Nat) := [(0, .aload_n 0, 1, 1), (1, .invokespecial 1, 3, 4), (4, .aload_n 0, 1, 5), (5, .sipush 1024, 3, 8), (8, .newarray .int, 2, 10), (10, .putfield 9, 3, 13), (13, .return_, 1, 14)]
def I_X2_init : MI := (prog_4_method_1_code, 1, none, "OpensAtNine$Met", "<init>", T_X2_init, 1, 1024, 1, 60)
theorem dT_X2_init : ∀ q ∈ T_X2_init, decode prog_4_method_1_code q.1 = .ok (q.2.1, q.2.2.1) ∧ q.2.2.2 = q.1 + q.2.2.1 := by decide +kernel
theorem xm_X2_init : xCI y_X2_init I_X2_init 0 := ⟨⟨rfl, rfl⟩, tw162, tw71, tw163, ⟨by decide +kernel, by decide +kernel, by decide +kernel⟩⟩
noncomputable def f_X2_init (h : XM) (a0 : Option Nat) : Option (XM) := (a0).bind fun _ => (nA h 10 1024 ((1024 : Int32))).bind fun h1 => (pR h1 2 a0 0 (some (xc h))).bind fun h2 => some h2
theorem c_X2_init (h : XM) (a0 : Option Nat) : MC I_X2_init y_X2_init [tA a0] h ρv (f_X2_init h a0) := by
  refine MC_of ⟨by decide +kernel, rfl, rfl, Nat.le_of_ble_eq_true rfl⟩ dT_X2_init (fun X => ?_)
  show SW X I_X2_init ρv 0 [(0, tA a0)] [] h 1 1024 (f_X2_init h a0)
  unfold f_X2_init
  refine s_aload_n (i := 0) rfl 0 rfl ?_
  refine s_bud 1 1024 (by omega) (by omega) ?_
  refine s_objInit (i := 1) rfl ⟨tw164, tw93, tw94⟩ ⟨by decide, by decide⟩ rfl ?_
  refine s_bud 1 1024 (by omega) (by omega) ?_
  refine s_aload_n (i := 2) rfl 0 rfl ?_
  refine s_bud 1 1024 (by omega) (by omega) ?_
  refine s_sipush (i := 3) rfl (v := (1024 : Int32)) (by decide) ?_
  refine s_bud 1 1024 (by omega) (by omega) ?_
  refine s_bud (1 + 0) (1024 + 0) (by omega) (by omega) ?_
  refine s_newarr (i := 4) rfl (lim := 1024) (Or.inl ⟨rfl, rfl⟩) (by decide) (tw158) (fun h1 => ?_)
  refine s_bud 0 0 (by omega) (by omega) ?_
  refine s_putR (i := 5) rfl xf_2_9 (fun _ => rfl) rfl (Or.inr ⟨_, rfl⟩) (fun h2 => ?_)
  refine s_bud 0 0 (by omega) (by omega) ?_
  exact s_vret (i := 6) rfl rfl
def y_X2_forgetAll : MethodName := ⟨"OpensAtNine$Met", "forgetAll", "()V"⟩
def T_X2_forgetAll : List (Nat × Instr × Nat × Nat) := [(0, .aload_n 0, 1, 1), (1, .getfield 9, 3, 4), (4, .iconst (-1), 1, 5), (5, .invokestatic 13, 3, 8), (8, .return_, 1, 9)]
def I_X2_forgetAll : MI := (prog_4_method_2_code, 1, none, "OpensAtNine$Met", "forgetAll", T_X2_forgetAll, 0, 0, 2, 83)
theorem dT_X2_forgetAll : ∀ q ∈ T_X2_forgetAll, decode prog_4_method_2_code q.1 = .ok (q.2.1, q.2.2.1) ∧ q.2.2.2 = q.1 + q.2.2.1 := by decide +kernel
theorem xm_X2_forgetAll : xCM y_X2_forgetAll I_X2_forgetAll 2 0 := ⟨⟨tw682, tw683⟩, tw71, tw684, ⟨xT2, 1, rfl⟩, ⟨by decide +kernel, by decide +kernel, by decide +kernel⟩⟩
noncomputable def f_X2_forgetAll (h : XM) (a0 : Option Nat) : Option (XM) := (gR h 2 a0 0).bind fun v1 => (f_J7_fill h v1 ((-1 : Int32))).bind fun q2 => some q2
theorem c_X2_forgetAll (h : XM) (a0 : Option Nat) : MC I_X2_forgetAll y_X2_forgetAll [tA a0] h ρv (f_X2_forgetAll h a0) := by
  refine MC_of ⟨by decide +kernel, rfl, rfl, Nat.le_of_ble_eq_true rfl⟩ dT_X2_forgetAll (fun X => ?_)
  show SW X I_X2_forgetAll ρv 0 [(0, tA a0)] [] h 0 0 (f_X2_forgetAll h a0)
  unfold f_X2_forgetAll
  refine s_aload_n (i := 0) rfl 0 rfl ?_
  refine s_getR (i := 1) rfl xf_2_9.r rfl (fun v1 => ?_)
  refine s_iconst (i := 2) rfl (v := (-1 : Int32)) (by decide) ?_
  refine u_callSv [tA v1, tI ((-1 : Int32))] [] rfl (i := 3) rfl (c_J7_fill h v1 ((-1 : Int32))) xm_J7_fill (tw685) rfl (Nat.le_of_ble_eq_true rfl) (xRm.of rfl) ⟨rfl, rfl⟩ (fun q2 => ?_)
  exact s_vret (i := 4) rfl rfl
def y_X2_slotOf : MethodName := ⟨"OpensAtNine$Met", "slotOf", "(I)I"⟩
def T_X2_slotOf : List (Nat × Instr × Nat × Nat) := [(0, .iload_n 1, 1, 1), (1, .ldc 19, 2, 3), (3, .imul, 1, 4), (4, .bipush 22, 2, 6), (6, .iushr, 1, 7), (7, .ireturn, 1, 8)]
def I_X2_slotOf : MI := (prog_4_method_3_code, 2, (some .int), "OpensAtNine$Met", "slotOf", T_X2_slotOf, 0, 0, 1, 60)
theorem dT_X2_slotOf : ∀ q ∈ T_X2_slotOf, decode prog_4_method_3_code q.1 = .ok (q.2.1, q.2.2.1) ∧ q.2.2.2 = q.1 + q.2.2.1 := by decide +kernel
theorem xm_X2_slotOf : xCM y_X2_slotOf I_X2_slotOf 2 1 := ⟨⟨tw697, tw698⟩, tw71, tw699, ⟨xT2, 1, rfl⟩, ⟨by decide +kernel, by decide +kernel, by decide +kernel⟩⟩
noncomputable def f_X2_slotOf (h : XM) (a0 : Option Nat) (a1 : Int32) : Option (Int32 × XM) := some (((a1 * ((-1640531535 : Int32))).toUInt32 >>> (((22 : Int32)).toUInt32 &&& Int32.toUInt32 31)).toInt32, h)
theorem c_X2_slotOf (h : XM) (a0 : Option Nat) (a1 : Int32) : MC I_X2_slotOf y_X2_slotOf [tA a0, tI a1] h ρi (f_X2_slotOf h a0 a1) := by
  refine MC_of ⟨by decide +kernel, rfl, rfl, Nat.le_of_ble_eq_true rfl⟩ dT_X2_slotOf (fun X => ?_)
  show SW X I_X2_slotOf ρi 0 [(0, tA a0), (1, tI a1)] [] h 0 0 (f_X2_slotOf h a0 a1)
  unfold f_X2_slotOf
  refine s_iload_n (i := 0) rfl 1 rfl ?_
  refine s_ldc (i := 1) rfl (v := (-1640531535 : Int32)) (tw700) ?_
  refine s_imul (i := 2) rfl ?_
  refine s_bipush (i := 3) rfl (v := (22 : Int32)) (by decide) ?_
  refine s_iushr (i := 4) rfl ?_
  exact s_iret (i := 5) rfl rfl
def y_X2_knows : MethodName := ⟨"OpensAtNine$Met", "knows", "(I)Z"⟩
def T_X2_knows : List (Nat × Instr × Nat × Nat) := [(0, .aload_n 0, 1, 1), (1, .getfield 9, 3, 4), (4, .aload_n 0, 1, 5), (5, .iload_n 1, 1, 6), (6, .invokevirtual 20, 3, 9), (9, .iaload, 1, 10), (10, .iload_n 1, 1, 11), (11, .if_icmp .ne 7, 3, 14), (14, .iconst 1, 1, 15), (15, .goto 4, 3, 18), (18, .iconst 0, 1, 19), (19, .ireturn, 1, 20)]
def I_X2_knows : MI := (prog_4_method_4_code, 2, (some .boolean), "OpensAtNine$Met", "knows", T_X2_knows, 0, 0, 2, 81)
theorem dT_X2_knows : ∀ q ∈ T_X2_knows, decode prog_4_method_4_code q.1 = .ok (q.2.1, q.2.2.1) ∧ q.2.2.2 = q.1 + q.2.2.1 := by decide +kernel
theorem xm_X2_knows : xCM y_X2_knows I_X2_knows 2 1 := ⟨⟨tw693, tw694⟩, tw71, tw695, ⟨xT2, 1, rfl⟩, ⟨by decide +kernel, by decide +kernel, by decide +kernel⟩⟩
noncomputable def f_X2_knows_19 (h : XM) (s0 : Int32) : Option (Int32 × XM) := rz h s0
noncomputable def f_X2_knows (h : XM) (a0 : Option Nat) (a1 : Int32) : Option (Int32 × XM) := (gR h 2 a0 0).bind fun v1 => (vc h 2 a0 (f_X2_slotOf h a0 a1)).bind fun q2 => (rI q2.2 v1 q2.1).bind fun v3 => if v3 = a1 then (f_X2_knows_19 q2.2 ((1 : Int32))) else (f_X2_knows_19 q2.2 ((0 : Int32)))
theorem b_X2_knows_19 (X : XX) (h : XM) (s0 : Int32) : SW X I_X2_knows ρi 19 [] [tI s0] h 0 0 (f_X2_knows_19 h s0) := by
  unfold f_X2_knows_19
  exact s_zret (i := 11) rfl rfl
theorem c_X2_knows (h : XM) (a0 : Option Nat) (a1 : Int32) : MC I_X2_knows y_X2_knows [tA a0, tI a1] h ρi (f_X2_knows h a0 a1) := by
  refine MC_of ⟨by decide +kernel, rfl, rfl, Nat.le_of_ble_eq_true rfl⟩ dT_X2_knows (fun X => ?_)
  show SW X I_X2_knows ρi 0 [(0, tA a0), (1, tI a1)] [] h 0 0 (f_X2_knows h a0 a1)
  unfold f_X2_knows
  refine s_aload_n (i := 0) rfl 0 rfl ?_
  refine s_getR (i := 1) rfl xf_2_9.r rfl (fun v1 => ?_)
  refine s_aload_n (i := 2) rfl 0 rfl ?_
  refine s_iload_n (i := 3) rfl 1 rfl ?_
  refine u_callVi (kk := 2) [tI a1] a0 [tA v1] rfl (i := 4) rfl (c_X2_slotOf h a0 a1) xm_X2_slotOf (tw696) rfl (Nat.le_of_ble_eq_true rfl) (xRm.of rfl) ⟨rfl, rfl⟩ (fun q2 => ?_)
  refine s_iaload (i := 5) rfl (fun v3 => ?_)
  refine s_iload_n (i := 6) rfl 1 rfl ?_
  refine s_icmpne (i := 7) rfl (tgt := 18) (by decide) (fun z11 => ?_) (fun z11 => ?_)
  · refine s_iconst (i := 8) rfl (v := (1 : Int32)) (by decide) ?_
    refine s_goto (i := 9) rfl (tgt := 19) (by decide) ?_
    exact s_sub [] rfl (b_X2_knows_19 X q2.2 ((1 : Int32)))
  · refine s_iconst (i := 10) rfl (v := (0 : Int32)) (by decide) ?_
    exact s_sub [] rfl (b_X2_knows_19 X q2.2 ((0 : Int32)))
def y_X2_note : MethodName := ⟨"OpensAtNine$Met", "note", "(I)V"⟩
def T_X2_note : List (Nat × Instr × Nat × Nat) := [(0, .aload_n 0, 1, 1), (1, .getfield 9, 3, 4), (4, .aload_n 0, 1, 5), (5, .iload_n 1, 1, 6), (6, .invokevirtual 20, 3, 9), (9, .iload_n 1, 1, 10), (10, .iastore, 1, 11), (11, .return_, 1, 12)]
def I_X2_note : MI := (prog_4_method_5_code, 2, none, "OpensAtNine$Met", "note", T_X2_note, 0, 0, 2, 81)
theorem dT_X2_note : ∀ q ∈ T_X2_note, decode prog_4_method_5_code q.1 = .ok (q.2.1, q.2.2.1) ∧ q.2.2.2 = q.1 + q.2.2.1 := by decide +kernel
theorem xm_X2_note : xCM y_X2_note I_X2_note 2 1 := ⟨⟨tw702, tw703⟩, tw71, tw704, ⟨xT2, 1, rfl⟩, ⟨by decide +kernel, by decide +kernel, by decide +kernel⟩⟩
noncomputable def f_X2_note (h : XM) (a0 : Option Nat) (a1 : Int32) : Option (XM) := (gR h 2 a0 0).bind fun v1 => (vc h 2 a0 (f_X2_slotOf h a0 a1)).bind fun q2 => (sI q2.2 v1 q2.1 a1).bind fun h3 => some h3
theorem c_X2_note (h : XM) (a0 : Option Nat) (a1 : Int32) : MC I_X2_note y_X2_note [tA a0, tI a1] h ρv (f_X2_note h a0 a1) := by
  refine MC_of ⟨by decide +kernel, rfl, rfl, Nat.le_of_ble_eq_true rfl⟩ dT_X2_note (fun X => ?_)
  show SW X I_X2_note ρv 0 [(0, tA a0), (1, tI a1)] [] h 0 0 (f_X2_note h a0 a1)
  unfold f_X2_note
  refine s_aload_n (i := 0) rfl 0 rfl ?_
  refine s_getR (i := 1) rfl xf_2_9.r rfl (fun v1 => ?_)
  refine s_aload_n (i := 2) rfl 0 rfl ?_
  refine s_iload_n (i := 3) rfl 1 rfl ?_
  refine u_callVi (kk := 2) [tI a1] a0 [tA v1] rfl (i := 4) rfl (c_X2_slotOf h a0 a1) xm_X2_slotOf (tw696) rfl (Nat.le_of_ble_eq_true rfl) (xRm.of rfl) ⟨rfl, rfl⟩ (fun q2 => ?_)
  refine s_iload_n (i := 5) rfl 1 rfl ?_
  refine s_iastore (i := 6) rfl (fun h3 => ?_)
  exact s_vret (i := 7) rfl rfl
def y_X5_init : MethodName := ⟨"OpensAtNine$Text", "<init>", "([I[I)V"⟩
def T_X5_init : List (Nat × Instr × Nat × Nat) := [(0, .aload_n 0, 1, 1), (1, .invokespecial 1, 3, 4), (4, .aload_n 0, 1, 5), (5, .aload_n 1, 1, 6), (6, .putfield 7, 3, 9), (9, .aload_n 0, 1, 10), (10, .aload_n 2, 1, 11), (11, .putfield 13, 3, 14), (14, .aload_n 0, 1, 15), (15, .aload_n 1, 1, 16), (16, .arraylength, 1, 17), (17, .newarray .int, 2, 19), (19, .putfield 16, 3, 22), (22, .return_, 1, 23)]
def I_X5_init : MI := (prog_7_method_1_code, 3, none, "OpensAtNine$Text", "<init>", T_X5_init, 1, 200, 1, 60)
theorem dT_X5_init : ∀ q ∈ T_X5_init, decode prog_7_method_1_code q.1 = .ok (q.2.1, q.2.2.1) ∧ q.2.2.2 = q.1 + q.2.2.1 := by decide +kernel
theorem xm_X5_init : xCI y_X5_init I_X5_init 2 := ⟨⟨rfl, rfl⟩, tw452, tw80, tw453, ⟨by decide +kernel, by decide +kernel, by decide +kernel⟩⟩
noncomputable def f_X5_init (h : XM) (a0 : Option Nat) (a1 : Option Nat) (a2 : Option Nat) : Option (XM) := (a0).bind fun _ => (pR h 5 a0 0 a1).bind fun h1 => (pR h1 5 a0 1 a2).bind fun h2 => (ln h2 a1).bind fun v3 => (nA h2 10 200 v3).bind fun h4 => (pR h4 5 a0 2 (some (xc h2))).bind fun h5 => some h5
theorem c_X5_init (h : XM) (a0 : Option Nat) (a1 : Option Nat) (a2 : Option Nat) : MC I_X5_init y_X5_init [tA a0, tA a1, tA a2] h ρv (f_X5_init h a0 a1 a2) := by
  refine MC_of ⟨by decide +kernel, rfl, rfl, Nat.le_of_ble_eq_true rfl⟩ dT_X5_init (fun X => ?_)
  show SW X I_X5_init ρv 0 [(0, tA a0), (1, tA a1), (2, tA a2)] [] h 1 200 (f_X5_init h a0 a1 a2)
  unfold f_X5_init
  refine s_aload_n (i := 0) rfl 0 rfl ?_
  refine s_bud 1 200 (by omega) (by omega) ?_
  refine s_objInit (i := 1) rfl ⟨tw454, tw93, tw94⟩ ⟨by decide, by decide⟩ rfl ?_
  refine s_bud 1 200 (by omega) (by omega) ?_
  refine s_aload_n (i := 2) rfl 0 rfl ?_
  refine s_bud 1 200 (by omega) (by omega) ?_
  refine s_aload_n (i := 3) rfl 1 rfl ?_
  refine s_bud 1 200 (by omega) (by omega) ?_
  refine s_putR (i := 4) rfl xf_5_7 (fun _ => rfl) rfl (Or.inr ⟨_, rfl⟩) (fun h1 => ?_)
  refine s_bud 1 200 (by omega) (by omega) ?_
  refine s_aload_n (i := 5) rfl 0 rfl ?_
  refine s_bud 1 200 (by omega) (by omega) ?_
  refine s_aload_n (i := 6) rfl 2 rfl ?_
  refine s_bud 1 200 (by omega) (by omega) ?_
  refine s_putR (i := 7) rfl xf_5_13 (fun _ => rfl) rfl (Or.inr ⟨_, rfl⟩) (fun h2 => ?_)
  refine s_bud 1 200 (by omega) (by omega) ?_
  refine s_aload_n (i := 8) rfl 0 rfl ?_
  refine s_bud 1 200 (by omega) (by omega) ?_
  refine s_aload_n (i := 9) rfl 1 rfl ?_
  refine s_bud 1 200 (by omega) (by omega) ?_
  refine s_alen (i := 10) rfl (fun v3 => ?_)
  refine s_bud 1 200 (by omega) (by omega) ?_
  refine s_bud (1 + 0) (200 + 0) (by omega) (by omega) ?_
  refine s_newarr (i := 11) rfl (lim := 200) (Or.inl ⟨rfl, rfl⟩) (by decide) (tw158) (fun h4 => ?_)
  refine s_bud 0 0 (by omega) (by omega) ?_
  refine s_putR (i := 12) rfl xf_5_16 (fun _ => rfl) rfl (Or.inr ⟨_, rfl⟩) (fun h5 => ?_)
  refine s_bud 0 0 (by omega) (by omega) ?_
  exact s_vret (i := 13) rfl rfl
def y_X4_init : MethodName := ⟨"OpensAtNine$Sheet", "<init>", "()V"⟩
def T_X4_init : List (Nat × Instr × Nat × Nat) := [(0, .aload_n 0, 1, 1), (1, .invokespecial 3, 3, 4), (4, .aload_n 0, 1, 5), (5, .bipush 40, 2, 7), (7, .newarray .int, 2, 9), (9, .putfield 9, 3, 12), (12, .aload_n 0, 1, 13), (13, .iconst (-1), 1, 14), (14, .putfield 15, 3, 17), (17, .return_, 1, 18)]
def I_X4_init : MI := (prog_6_method_1_code, 1, none, "OpensAtNine$Sheet", "<init>", T_X4_init, 1, 40, 1, 60)
theorem dT_X4_init : ∀ q ∈ T_X4_init, decode prog_6_method_1_code q.1 = .ok (q.2.1, q.2.2.1) ∧ q.2.2.2 = q.1 + q.2.2.1 := by decide +kernel
theorem xm_X4_init : xCI y_X4_init I_X4_init 0 := ⟨⟨rfl, rfl⟩, tw271, tw75, tw272, ⟨by decide +kernel, by decide +kernel, by decide +kernel⟩⟩
noncomputable def f_X4_init (h : XM) (a0 : Option Nat) : Option (XM) := (a0).bind fun _ => (nA h 10 40 ((40 : Int32))).bind fun h1 => (pR h1 4 a0 0 (some (xc h))).bind fun h2 => (pI h2 4 a0 1 ((-1 : Int32))).bind fun h3 => some h3
theorem c_X4_init (h : XM) (a0 : Option Nat) : MC I_X4_init y_X4_init [tA a0] h ρv (f_X4_init h a0) := by
  refine MC_of ⟨by decide +kernel, rfl, rfl, Nat.le_of_ble_eq_true rfl⟩ dT_X4_init (fun X => ?_)
  show SW X I_X4_init ρv 0 [(0, tA a0)] [] h 1 40 (f_X4_init h a0)
  unfold f_X4_init
  refine s_aload_n (i := 0) rfl 0 rfl ?_
  refine s_bud 1 40 (by omega) (by omega) ?_
  refine s_objInit (i := 1) rfl ⟨tw273, tw93, tw94⟩ ⟨by decide, by decide⟩ rfl ?_
  refine s_bud 1 40 (by omega) (by omega) ?_
  refine s_aload_n (i := 2) rfl 0 rfl ?_
  refine s_bud 1 40 (by omega) (by omega) ?_
  refine s_bipush (i := 3) rfl (v := (40 : Int32)) (by decide) ?_
  refine s_bud 1 40 (by omega) (by omega) ?_
  refine s_bud (1 + 0) (40 + 0) (by omega) (by omega) ?_
  refine s_newarr (i := 4) rfl (lim := 40) (Or.inl ⟨rfl, rfl⟩) (by decide) (tw158) (fun h1 => ?_)
  refine s_bud 0 0 (by omega) (by omega) ?_
  refine s_putR (i := 5) rfl xf_4_9 (fun _ => rfl) rfl (Or.inr ⟨_, rfl⟩) (fun h2 => ?_)
  refine s_bud 0 0 (by omega) (by omega) ?_
  refine s_aload_n (i := 6) rfl 0 rfl ?_
  refine s_bud 0 0 (by omega) (by omega) ?_
  refine s_iconst (i := 7) rfl (v := (-1 : Int32)) (by decide) ?_
  refine s_bud 0 0 (by omega) (by omega) ?_
  refine s_putI (i := 8) rfl xf_4_15 (fun q => by cases q) rfl rfl (fun h3 => ?_)
  refine s_bud 0 0 (by omega) (by omega) ?_
  exact s_vret (i := 9) rfl rfl
def y_X4_become : MethodName := ⟨"OpensAtNine$Sheet", "become", "(II)V"⟩
def T_X4_become : List (Nat × Instr × Nat × Nat) := [(0, .aload_n 0, 1, 1), (1, .iload_n 1, 1, 2), (2, .putfield 15, 3, 5), (5, .aload_n 0, 1, 6), (6, .iconst 0, 1, 7), (7, .bipush 40, 2, 9), (9, .iload_n 2, 1, 10), (10, .invokestatic 19, 3, 13), (13, .invokestatic 25, 3, 16), (16, .putfield 28, 3, 19), (19, .aload_n 0, 1, 20), (20, .getfield 9, 3, 23), (23, .iconst 0, 1, 24), (24, .invokestatic 31, 3, 27), (27, .return_, 1, 28)]
def I_X4_become : MI := (prog_6_method_2_code, 3, none, "OpensAtNine$Sheet", "become", T_X4_become, 0, 0, 2, 83)
theorem dT_X4_become : ∀ q ∈ T_X4_become, decode prog_6_method_2_code q.1 = .ok (q.2.1, q.2.2.1) ∧ q.2.2.2 = q.1 + q.2.2.1 := by decide +kernel
theorem xm_X4_become : xCM y_X4_become I_X4_become 4 2 := ⟨⟨tw893, tw894⟩, tw75, tw895, ⟨xT4, 3, rfl⟩, ⟨by decide +kernel, by decide +kernel, by decide +kernel⟩⟩
noncomputable def f_X4_become (h : XM) (a0 : Option Nat) (a1 : Int32) (a2 : Int32) : Option (XM) := (pI h 4 a0 1 a1).bind fun h1 => bnd (if a2 < ((40 : Int32)) then a2 else ((40 : Int32))) fun v2 => bnd (if ((0 : Int32)) < v2 then v2 else ((0 : Int32))) fun v3 => (pI h1 4 a0 2 v3).bind fun h4 => (gR h4 4 a0 0).bind fun v5 => (f_J7_fill h4 v5 ((0 : Int32))).bind fun q6 => some q6
theorem c_X4_become (h : XM) (a0 : Option Nat) (a1 : Int32) (a2 : Int32) : MC I_X4_become y_X4_become [tA a0, tI a1, tI a2] h ρv (f_X4_become h a0 a1 a2) := by
  refine MC_of ⟨by decide +kernel, rfl, rfl, Nat.le_of_ble_eq_true rfl⟩ dT_X4_become (fun X => ?_)
  show SW X I_X4_become ρv 0 [(0, tA a0), (1, tI a1), (2, tI a2)] [] h 0 0 (f_X4_become h a0 a1 a2)
  unfold f_X4_become
  refine s_aload_n (i := 0) rfl 0 rfl ?_
  refine s_iload_n (i := 1) rfl 1 rfl ?_
  refine s_putI (i := 2) rfl xf_4_15 (fun q => by cases q) rfl rfl (fun h1 => ?_)
  refine s_aload_n (i := 3) rfl 0 rfl ?_
  refine s_iconst (i := 4) rfl (v := (0 : Int32)) (by decide) ?_
  refine s_bipush (i := 5) rfl (v := (40 : Int32)) (by decide) ?_
  refine s_iload_n (i := 6) rfl 2 rfl ?_
  refine s_mmin (i := 7) rfl ⟨tw896, tw446, tw82, tw447⟩ (Nat.le_of_ble_eq_true rfl) ⟨by decide, by decide⟩ ?_
  refine s_bnd (fun v2 => ?_)
  refine s_mmax (i := 8) rfl ⟨tw897, tw559, tw82, tw560⟩ (Nat.le_of_ble_eq_true rfl) ⟨by decide, by decide⟩ ?_
  refine s_bnd (fun v3 => ?_)
  refine s_putI (i := 9) rfl xf_4_28 (fun q => by cases q) rfl rfl (fun h4 => ?_)
  refine s_aload_n (i := 10) rfl 0 rfl ?_
  refine s_getR (i := 11) rfl xf_4_9.r rfl (fun v5 => ?_)
  refine s_iconst (i := 12) rfl (v := (0 : Int32)) (by decide) ?_
  refine u_callSv [tA v5, tI ((0 : Int32))] [] rfl (i := 13) rfl (c_J7_fill h4 v5 ((0 : Int32))) xm_J7_fill (tw898) rfl (Nat.le_of_ble_eq_true rfl) (xRm.of rfl) ⟨rfl, rfl⟩ (fun q6 => ?_)
  exact s_vret (i := 14) rfl rfl
def y_X4_at : MethodName := ⟨"OpensAtNine$Sheet", "at", "(I)I"⟩
def T_X4_at : List (Nat × Instr × Nat × Nat) := [(0, .iload_n 1, 1, 1), (1, .ifCond .lt 20, 3, 4), (4, .iload_n 1, 1, 5), (5, .aload_n 0, 1, 6), (6, .getfield 28, 3, 9), (9, .if_icmp .ge 12, 3, 12), (12, .aload_n 0, 1, 13), (13, .getfield 9, 3, 16), (16, .iload_n 1, 1, 17), (17, .iaload, 1, 18), (18, .goto 4, 3, 21), (21, .iconst 0, 1, 22), (22, .ireturn, 1, 23)]
def I_X4_at : MI := (prog_6_method_3_code, 2, (some .int), "OpensAtNine$Sheet", "at", T_X4_at, 0, 0, 1, 60)
theorem dT_X4_at : ∀ q ∈ T_X4_at, decode prog_6_method_3_code q.1 = .ok (q.2.1, q.2.2.1) ∧ q.2.2.2 = q.1 + q.2.2.1 := by decide +kernel
theorem xm_X4_at : xCM y_X4_at I_X4_at 4 1 := ⟨⟨tw877, tw878⟩, tw75, tw879, ⟨xT4, 3, rfl⟩, ⟨by decide +kernel, by decide +kernel, by decide +kernel⟩⟩
noncomputable def f_X4_at_22 (h : XM) (s0 : Int32) : Option (Int32 × XM) := some (s0, h)
noncomputable def f_X4_at_21 (h : XM) : Option (Int32 × XM) := f_X4_at_22 h ((0 : Int32))
noncomputable def f_X4_at (h : XM) (a0 : Option Nat) (a1 : Int32) : Option (Int32 × XM) := if a1 < 0 then (f_X4_at_21 h) else ((gI h 4 a0 2).bind fun v1 => if a1 < v1 then ((gR h 4 a0 0).bind fun v2 => (rI h v2 a1).bind fun v3 => f_X4_at_22 h v3) else (f_X4_at_21 h))
theorem b_X4_at_22 (X : XX) (h : XM) (s0 : Int32) : SW X I_X4_at ρi 22 [] [tI s0] h 0 0 (f_X4_at_22 h s0) := by
  unfold f_X4_at_22
  exact s_iret (i := 12) rfl rfl
theorem b_X4_at_21 (X : XX) (h : XM) : SW X I_X4_at ρi 21 [] [] h 0 0 (f_X4_at_21 h) := by
  unfold f_X4_at_21
  refine s_iconst (i := 11) rfl (v := (0 : Int32)) (by decide) ?_
  exact s_sub [] rfl (b_X4_at_22 X h ((0 : Int32)))
theorem c_X4_at (h : XM) (a0 : Option Nat) (a1 : Int32) : MC I_X4_at y_X4_at [tA a0, tI a1] h ρi (f_X4_at h a0 a1) := by
  refine MC_of ⟨by decide +kernel, rfl, rfl, Nat.le_of_ble_eq_true rfl⟩ dT_X4_at (fun X => ?_)
  show SW X I_X4_at ρi 0 [(0, tA a0), (1, tI a1)] [] h 0 0 (f_X4_at h a0 a1)
  unfold f_X4_at
  refine s_iload_n (i := 0) rfl 1 rfl ?_
  refine s_iflt (i := 1) rfl (tgt := 21) (by decide) (fun z1 => ?_) (fun z1 => ?_)
  · exact s_sub [] rfl (b_X4_at_21 X h)
  · refine s_iload_n (i := 2) rfl 1 rfl ?_
    refine s_aload_n (i := 3) rfl 0 rfl ?_
    refine s_getI (i := 4) rfl xf_4_28.r rfl (fun v1 => ?_)
    refine s_icmpge (i := 5) rfl (tgt := 21) (by decide) (fun z9 => ?_) (fun z9 => ?_)
    · refine s_aload_n (i := 6) rfl 0 rfl ?_
      refine s_getR (i := 7) rfl xf_4_9.r rfl (fun v2 => ?_)
      refine s_iload_n (i := 8) rfl 1 rfl ?_
      refine s_iaload (i := 9) rfl (fun v3 => ?_)
      refine s_goto (i := 10) rfl (tgt := 22) (by decide) ?_
      exact s_sub [] rfl (b_X4_at_22 X h v3)
    · exact s_sub [] rfl (b_X4_at_21 X h)
def y_X4_write : MethodName := ⟨"OpensAtNine$Sheet", "write", "(II)V"⟩
def T_X4_write : List (Nat × Instr × Nat × Nat) := [(0, .iload_n 1, 1, 1), (1, .ifCond .lt 11, 3, 4), (4, .iload_n 1, 1, 5), (5, .aload_n 0, 1, 6), (6, .getfield 28, 3, 9), (9, .if_icmp .lt 4, 3, 12), (12, .return_, 1, 13), (13, .aload_n 0, 1, 14), (14, .getfield 9, 3, 17), (17, .iload_n 1, 1, 18), (18, .aload_n 0, 1, 19), (19, .getfield 15, 3, 22), (22, .ifCond .ne 8, 3, 25), (25, .iload_n 2, 1, 26), (26, .i2b, 1, 27), (27, .goto 17, 3, 30), (30, .aload_n 0, 1, 31), (31, .getfield 15, 3, 34), (34, .iconst 1, 1, 35), (35, .if_icmp .ne 8, 3, 38), (38, .iload_n 2, 1, 39), (39, .i2s, 1, 40), (40, .goto 4, 3, 43), (43, .iload_n 2, 1, 44), (44, .iastore, 1, 45), (45, .return_, 1, 46)]
def I_X4_write : MI := (prog_6_method_4_code, 3, none, "OpensAtNine$Sheet", "write", T_X4_write, 0, 0, 1, 60)
theorem dT_X4_write : ∀ q ∈ T_X4_write, decode prog_6_method_4_code q.1 = .ok (q.2.1, q.2.2.1) ∧ q.2.2.2 = q.1 + q.2.2.1 := by decide +kernel
theorem xm_X4_write : xCM y_X4_write I_X4_write 4 2 := ⟨⟨tw900, tw901⟩, tw75, tw902, ⟨xT4, 3, rfl⟩, ⟨by decide +kernel, by decide +kernel, by decide +kernel⟩⟩
noncomputable def f_X4_write_12 (h : XM) : Option (XM) := some h
noncomputable def f_X4_write_44 (h : XM) (s0 : Int32) (s1 : Int32) (s2 : Option Nat) : Option (XM) := (sI h s2 s1 s0).bind fun h1 => some h1
noncomputable def f_X4_write (h : XM) (a0 : Option Nat) (a1 : Int32) (a2 : Int32) : Option (XM) := if a1 < 0 then (f_X4_write_12 h) else ((gI h 4 a0 2).bind fun v2 => if a1 < v2 then ((gR h 4 a0 0).bind fun v3 => (gI h 4 a0 1).bind fun v4 => if v4 = 0 then (f_X4_write_44 h a2.toInt8.toInt32 a1 v3) else ((gI h 4 a0 1).bind fun v5 => if v5 = ((1 : Int32)) then (f_X4_write_44 h a2.toInt16.toInt32 a1 v3) else (f_X4_write_44 h a2 a1 v3))) else (f_X4_write_12 h))
theorem b_X4_write_12 (X : XX) (h : XM) : SW X I_X4_write ρv 12 [] [] h 0 0 (f_X4_write_12 h) := by
  unfold f_X4_write_12
  exact s_vret (i := 6) rfl rfl
theorem b_X4_write_44 (X : XX) (h : XM) (s0 : Int32) (s1 : Int32) (s2 : Option Nat) : SW X I_X4_write ρv 44 [] [tI s0, tI s1, tA s2] h 0 0 (f_X4_write_44 h s0 s1 s2) := by
  unfold f_X4_write_44
  refine s_iastore (i := 24) rfl (fun h1 => ?_)
  exact s_vret (i := 25) rfl rfl
theorem c_X4_write (h : XM) (a0 : Option Nat) (a1 : Int32) (a2 : Int32) : MC I_X4_write y_X4_write [tA a0, tI a1, tI a2] h ρv (f_X4_write h a0 a1 a2) := by
  refine MC_of ⟨by decide +kernel, rfl, rfl, Nat.le_of_ble_eq_true rfl⟩ dT_X4_write (fun X => ?_)
  show SW X I_X4_write ρv 0 [(0, tA a0), (1, tI a1), (2, tI a2)] [] h 0 0 (f_X4_write h a0 a1 a2)
  unfold f_X4_write
  refine s_iload_n (i := 0) rfl 1 rfl ?_
  refine s_iflt (i := 1) rfl (tgt := 12) (by decide) (fun z1 => ?_) (fun z1 => ?_)
  · exact s_sub [] rfl (b_X4_write_12 X h)
  · refine s_iload_n (i := 2) rfl 1 rfl ?_
    refine s_aload_n (i := 3) rfl 0 rfl ?_
    refine s_getI (i := 4) rfl xf_4_28.r rfl (fun v2 => ?_)
    refine s_icmplt (i := 5) rfl (tgt := 13) (by decide) (fun z9 => ?_) (fun z9 => ?_)
    · refine s_aload_n (i := 7) rfl 0 rfl ?_
      refine s_getR (i := 8) rfl xf_4_9.r rfl (fun v3 => ?_)
      refine s_iload_n (i := 9) rfl 1 rfl ?_
      refine s_aload_n (i := 10) rfl 0 rfl ?_
      refine s_getI (i := 11) rfl xf_4_15.r rfl (fun v4 => ?_)
      refine s_ifne (i := 12) rfl (tgt := 30) (by decide) (fun z22 => ?_) (fun z22 => ?_)
      · refine s_iload_n (i := 13) rfl 2 rfl ?_
        refine s_i2b (i := 14) rfl ?_
        refine s_goto (i := 15) rfl (tgt := 44) (by decide) ?_
        exact s_sub [] rfl (b_X4_write_44 X h a2.toInt8.toInt32 a1 v3)
      · refine s_aload_n (i := 16) rfl 0 rfl ?_
        refine s_getI (i := 17) rfl xf_4_15.r rfl (fun v5 => ?_)
        refine s_iconst (i := 18) rfl (v := (1 : Int32)) (by decide) ?_
        refine s_icmpne (i := 19) rfl (tgt := 43) (by decide) (fun z35 => ?_) (fun z35 => ?_)
        · refine s_iload_n (i := 20) rfl 2 rfl ?_
          refine s_i2s (i := 21) rfl ?_
          refine s_goto (i := 22) rfl (tgt := 44) (by decide) ?_
          exact s_sub [] rfl (b_X4_write_44 X h a2.toInt16.toInt32 a1 v3)
        · refine s_iload_n (i := 23) rfl 2 rfl ?_
          exact s_sub [] rfl (b_X4_write_44 X h a2 a1 v3)
    · exact s_sub [] rfl (b_X4_write_12 X h)
def y_X4_hasRow : MethodName := ⟨"OpensAtNine$Sheet", "hasRow", "(II)Z"⟩
def T_X4_hasRow : List (Nat × Instr × Nat × Nat) := [(0, .iload_n 1, 1, 1), (1, .ifCond .lt 29, 3, 4), (4, .iload_n 2, 1, 5), (5, .ifCond .lt 25, 3, 8), (8, .iload_n 2, 1, 9), (9, .aload_n 0, 1, 10), (10, .getfield 28, 3, 13), (13, .if_icmp .gt 17, 3, 16), (16, .iload_n 1, 1, 17), (17, .aload_n 0, 1, 18), (18, .getfield 28, 3, 21), (21, .iload_n 2, 1, 22), (22, .isub, 1, 23), (23, .if_icmp .gt 7, 3, 26), (26, .iconst 1, 1, 27), (27, .goto 4, 3, 30), (30, .iconst 0, 1, 31), (31, .ireturn, 1, 32)]
def I_X4_hasRow : MI := (prog_6_method_5_code, 3, (some .boolean), "OpensAtNine$Sheet", "hasRow", T_X4_hasRow, 0, 0, 1, 60)
theorem dT_X4_hasRow : ∀ q ∈ T_X4_hasRow, decode prog_6_method_5_code q.1 = .ok (q.2.1, q.2.2.1) ∧ q.2.2.2 = q.1 + q.2.2.1 := by decide +kernel
theorem xm_X4_hasRow : xCM y_X4_hasRow I_X4_hasRow 4 2 := ⟨⟨tw943, tw944⟩, tw75, tw945, ⟨xT4, 3, rfl⟩, ⟨by decide +kernel, by decide +kernel, by decide +kernel⟩⟩
noncomputable def f_X4_hasRow_31 (h : XM) (s0 : Int32) : Option (Int32 × XM) := rz h s0
noncomputable def f_X4_hasRow_30 (h : XM) : Option (Int32 × XM) := f_X4_hasRow_31 h ((0 : Int32))
noncomputable def f_X4_hasRow (h : XM) (a0 : Option Nat) (a1 : Int32) (a2 : Int32) : Option (Int32 × XM) := if a1 < 0 then (f_X4_hasRow_30 h) else (if a2 < 0 then (f_X4_hasRow_30 h) else ((gI h 4 a0 2).bind fun v1 => if v1 < a2 then (f_X4_hasRow_30 h) else ((gI h 4 a0 2).bind fun v2 => if (v2 - a2) < a1 then (f_X4_hasRow_30 h) else (f_X4_hasRow_31 h ((1 : Int32))))))
theorem b_X4_hasRow_31 (X : XX) (h : XM) (s0 : Int32) : SW X I_X4_hasRow ρi 31 [] [tI s0] h 0 0 (f_X4_hasRow_31 h s0) := by
  unfold f_X4_hasRow_31
  exact s_zret (i := 17) rfl rfl
theorem b_X4_hasRow_30 (X : XX) (h : XM) : SW X I_X4_hasRow ρi 30 [] [] h 0 0 (f_X4_hasRow_30 h) := by
  unfold f_X4_hasRow_30
  refine s_iconst (i := 16) rfl (v := (0 : Int32)) (by decide) ?_
  exact s_sub [] rfl (b_X4_hasRow_31 X h ((0 : Int32)))
theorem c_X4_hasRow (h : XM) (a0 : Option Nat) (a1 : Int32) (a2 : Int32) : MC I_X4_hasRow y_X4_hasRow [tA a0, tI a1, tI a2] h ρi (f_X4_hasRow h a0 a1 a2) := by
  refine MC_of ⟨by decide +kernel, rfl, rfl, Nat.le_of_ble_eq_true rfl⟩ dT_X4_hasRow (fun X => ?_)
  show SW X I_X4_hasRow ρi 0 [(0, tA a0), (1, tI a1), (2, tI a2)] [] h 0 0 (f_X4_hasRow h a0 a1 a2)
  unfold f_X4_hasRow
  refine s_iload_n (i := 0) rfl 1 rfl ?_
  refine s_iflt (i := 1) rfl (tgt := 30) (by decide) (fun z1 => ?_) (fun z1 => ?_)
  · exact s_sub [] rfl (b_X4_hasRow_30 X h)
  · refine s_iload_n (i := 2) rfl 2 rfl ?_
    refine s_iflt (i := 3) rfl (tgt := 30) (by decide) (fun z5 => ?_) (fun z5 => ?_)
    · exact s_sub [] rfl (b_X4_hasRow_30 X h)
    · refine s_iload_n (i := 4) rfl 2 rfl ?_
      refine s_aload_n (i := 5) rfl 0 rfl ?_
      refine s_getI (i := 6) rfl xf_4_28.r rfl (fun v1 => ?_)
      refine s_icmpgt (i := 7) rfl (tgt := 30) (by decide) (fun z13 => ?_) (fun z13 => ?_)
      · exact s_sub [] rfl (b_X4_hasRow_30 X h)
      · refine s_iload_n (i := 8) rfl 1 rfl ?_
        refine s_aload_n (i := 9) rfl 0 rfl ?_
        refine s_getI (i := 10) rfl xf_4_28.r rfl (fun v2 => ?_)
        refine s_iload_n (i := 11) rfl 2 rfl ?_
        refine s_isub (i := 12) rfl ?_
        refine s_icmpgt (i := 13) rfl (tgt := 30) (by decide) (fun z23 => ?_) (fun z23 => ?_)
        · exact s_sub [] rfl (b_X4_hasRow_30 X h)
        · refine s_iconst (i := 14) rfl (v := (1 : Int32)) (by decide) ?_
          refine s_goto (i := 15) rfl (tgt := 31) (by decide) ?_
          exact s_sub [] rfl (b_X4_hasRow_31 X h ((1 : Int32)))
def y_X4_sumBehind : MethodName := ⟨"OpensAtNine$Sheet", "sumBehind", "(I)I"⟩
def T_X4_sumBehind : List (Nat × Instr × Nat × Nat) := [(0, .iload_n 1, 1, 1), (1, .istore_n 2, 1, 2), (2, .iconst 0, 1, 3), (3, .istore_n 3, 1, 4), (4, .iload_n 3, 1, 5), (5, .iconst 1, 1, 6), (6, .iadd, 1, 7), (7, .aload_n 0, 1, 8), (8, .getfield 28, 3, 11), (11, .if_icmp .ge 18, 3, 14), (14, .iload_n 2, 1, 15), (15, .aload_n 0, 1, 16), (16, .getfield 9, 3, 19), (19, .iload_n 3, 1, 20), (20, .iaload, 1, 21), (21, .iadd, 1, 22), (22, .istore_n 2, 1, 23), (23, .iinc 3 2, 3, 26), (26, .goto (-22), 3, 29), (29, .iload_n 2, 1, 30), (30, .ireturn, 1, 31)]
def I_X4_sumBehind : MI := (prog_6_method_6_code, 4, (some .int), "OpensAtNine$Sheet", "sumBehind", T_X4_sumBehind, 0, 0, 1, 60)
theorem dT_X4_sumBehind : ∀ q ∈ T_X4_sumBehind, decode prog_6_method_6_code q.1 = .ok (q.2.1, q.2.2.1) ∧ q.2.2.2 = q.1 + q.2.2.1 := by decide +kernel
theorem xm_X4_sumBehind : xCM y_X4_sumBehind I_X4_sumBehind 4 1 := ⟨⟨tw860, tw861⟩, tw75, tw862, ⟨xT4, 3, rfl⟩, ⟨by decide +kernel, by decide +kernel, by decide +kernel⟩⟩
noncomputable def fb_X4_sumBehind_4 (k_4 : XM → Option Nat → Int32 → Int32 → Option (Int32 × XM)) (h : XM) (l0 : Option Nat) (l2 : Int32) (l3 : Int32) : Option (Int32 × XM) := (gI h 4 l0 2).bind fun v1 => if (l3 + ((1 : Int32))) < v1 then ((gR h 4 l0 0).bind fun v2 => (rI h v2 l3).bind fun v3 => bnd (l2 + v3) fun v4 => bnd (l3 + (2 : Int32)) fun v5 => k_4 h l0 v4 v5) else (some (l2, h))
noncomputable def f_X4_sumBehind_4 (n : Nat) : XM → Option Nat → Int32 → Int32 → Option (Int32 × XM) := Nat.rec (motive := fun _ => XM → Option Nat → Int32 → Int32 → Option (Int32 × XM)) (fun _ _ _ _ => none) (fun _ ih h l0 l2 l3 => fb_X4_sumBehind_4 ih h l0 l2 l3) n
noncomputable def f_X4_sumBehind (h : XM) (a0 : Option Nat) (a1 : Int32) : Option (Int32 × XM) := f_X4_sumBehind_4 FU h a0 a1 ((0 : Int32))
theorem bb_X4_sumBehind_4 (X : XX) (k_4 : XM → Option Nat → Int32 → Int32 → Option (Int32 × XM)) (hk_4 : ∀ h l0 l2 l3, SW X I_X4_sumBehind ρi 4 [(0, tA l0), (2, tI l2), (3, tI l3)] [] h 0 0 (k_4 h l0 l2 l3)) (h : XM) (l0 : Option Nat) (l2 : Int32) (l3 : Int32) : SW X I_X4_sumBehind ρi 4 [(0, tA l0), (2, tI l2), (3, tI l3)] [] h 0 0 (fb_X4_sumBehind_4 k_4 h l0 l2 l3) := by
  unfold fb_X4_sumBehind_4
  refine s_iload_n (i := 4) rfl 2 rfl ?_
  refine s_iconst (i := 5) rfl (v := (1 : Int32)) (by decide) ?_
  refine s_iadd (i := 6) rfl ?_
  refine s_aload_n (i := 7) rfl 0 rfl ?_
  refine s_getI (i := 8) rfl xf_4_28.r rfl (fun v1 => ?_)
  refine s_icmpge (i := 9) rfl (tgt := 29) (by decide) (fun z11 => ?_) (fun z11 => ?_)
  · refine s_iload_n (i := 10) rfl 1 rfl ?_
    refine s_aload_n (i := 11) rfl 0 rfl ?_
    refine s_getR (i := 12) rfl xf_4_9.r rfl (fun v2 => ?_)
    refine s_iload_n (i := 13) rfl 2 rfl ?_
    refine s_iaload (i := 14) rfl (fun v3 => ?_)
    refine s_iadd (i := 15) rfl ?_
    refine s_bnd (fun v4 => ?_)
    refine s_istore_n (i := 16) rfl (Nat.le_of_ble_eq_true rfl) (ls2 := [(2, tI v4), (0, tA l0), (3, tI l3)]) rfl ?_
    refine s_inc (i := 17) rfl 2 rfl (c9 := (2 : Int32)) (by decide) (Nat.le_of_ble_eq_true rfl) (fun v5 => ?_)
    refine s_ls (ls2 := [(3, tI v5), (2, tI v4), (0, tA l0)]) rfl ?_
    refine s_goto (i := 18) rfl (tgt := 4) (by decide) ?_
    exact s_sub [2, 1, 0] rfl (hk_4 h l0 v4 v5)
  · refine s_iload_n (i := 19) rfl 1 rfl ?_
    exact s_iret (i := 20) rfl rfl
theorem b_X4_sumBehind_4 (X : XX) : ∀ (n : Nat) (h : XM) (l0 : Option Nat) (l2 : Int32) (l3 : Int32), SW X I_X4_sumBehind ρi 4 [(0, tA l0), (2, tI l2), (3, tI l3)] [] h 0 0 (f_X4_sumBehind_4 n h l0 l2 l3) := by
  intro n
  induction n with
  | zero =>
    intro h l0 l2 l3
    exact s_none
  | succ n ih =>
    intro h l0 l2 l3
    exact bb_X4_sumBehind_4 X (f_X4_sumBehind_4 n) ih h l0 l2 l3
theorem c_X4_sumBehind (h : XM) (a0 : Option Nat) (a1 : Int32) : MC I_X4_sumBehind y_X4_sumBehind [tA a0, tI a1] h ρi (f_X4_sumBehind h a0 a1) := by
  refine MC_of ⟨by decide +kernel, rfl, rfl, Nat.le_of_ble_eq_true rfl⟩ dT_X4_sumBehind (fun X => ?_)
  show SW X I_X4_sumBehind ρi 0 [(0, tA a0), (1, tI a1)] [] h 0 0 (f_X4_sumBehind h a0 a1)
  unfold f_X4_sumBehind
  refine s_iload_n (i := 0) rfl 1 rfl ?_
  refine s_istore_n (i := 1) rfl (Nat.le_of_ble_eq_true rfl) (ls2 := [(2, tI a1), (0, tA a0), (1, tI a1)]) rfl ?_
  refine s_iconst (i := 2) rfl (v := (0 : Int32)) (by decide) ?_
  refine s_istore_n (i := 3) rfl (Nat.le_of_ble_eq_true rfl) (ls2 := [(3, tI ((0 : Int32))), (2, tI a1), (0, tA a0), (1, tI a1)]) rfl ?_
  exact s_sub [2, 1, 0] rfl (b_X4_sumBehind_4 X FU h a0 a1 ((0 : Int32)))
def y_X4_isSoBy : MethodName := ⟨"OpensAtNine$Sheet", "isSoBy", "(II)Z"⟩
def T_X4_isSoBy : List (Nat × Instr × Nat × Nat) := [(0, .iload_n 2, 1, 1), (1, .istore_n 3, 1, 2), (2, .iconst 0, 1, 3), (3, .istore 4, 2, 5), (5, .iload 4, 2, 7), (7, .iconst 1, 1, 8), (8, .iadd, 1, 9), (9, .aload_n 0, 1, 10), (10, .getfield 28, 3, 13), (13, .if_icmp .ge 59, 3, 16), (16, .iload_n 3, 1, 17), (17, .aload_n 0, 1, 18), (18, .getfield 9, 3, 21), (21, .iload 4, 2, 23), (23, .iaload, 1, 24), (24, .iadd, 1, 25), (25, .istore_n 3, 1, 26), (26, .iload_n 3, 1, 27), (27, .iload_n 1, 1, 28), (28, .invokestatic 41, 3, 31), (31, .ifCond .ne 7, 3, 34), (34, .iconst 1, 1, 35), (35, .goto 4, 3, 38), (38, .iconst 0, 1, 39), (39, .istore 5, 2, 41), (41, .iload 5, 2, 43), (43, .aload_n 0, 1, 44), (44, .getfield 9, 3, 47), (47, .iload 4, 2, 49), (49, .iconst 1, 1, 50), (50, .iadd, 1, 51), (51, .iaload, 1, 52), (52, .iconst 1, 1, 53), (53, .if_icmp .ne 7, 3, 56), (56, .iconst 1, 1, 57), (57, .goto 4, 3, 60), (60, .iconst 0, 1, 61), (61, .if_icmp .eq 5, 3, 64), (64, .iconst 0, 1, 65), (65, .ireturn, 1, 66), (66, .iinc 4 2, 3, 69), (69, .goto (-64), 3, 72), (72, .iconst 1, 1, 73), (73, .ireturn, 1, 74)]
def I_X4_isSoBy : MI := (prog_6_method_8_code, 6, (some .boolean), "OpensAtNine$Sheet", "isSoBy", T_X4_isSoBy, 0, 0, 2, 82)
theorem dT_X4_isSoBy : ∀ q ∈ T_X4_isSoBy, decode prog_6_method_8_code q.1 = .ok (q.2.1, q.2.2.1) ∧ q.2.2.2 = q.1 + q.2.2.1 := by decide +kernel
theorem xm_X4_isSoBy : xCM y_X4_isSoBy I_X4_isSoBy 4 2 := ⟨⟨tw850, tw27⟩, tw75, tw851, ⟨xT4, 3, rfl⟩, ⟨by decide +kernel, by decide +kernel, by decide +kernel⟩⟩
noncomputable def f_X4_isSoBy_61 (k_5 : XM → Option Nat → Int32 → Int32 → Int32 → Option (Int32 × XM)) (h : XM) (l0 : Option Nat) (l1 : Int32) (l3 : Int32) (l4 : Int32) (s0 : Int32) (s1 : Int32) : Option (Int32 × XM) := if s1 = s0 then (bnd (l4 + (2 : Int32)) fun v1 => k_5 h l0 l1 l3 v1) else (rz h ((0 : Int32)))
noncomputable def f_X4_isSoBy_39 (k_5 : XM → Option Nat → Int32 → Int32 → Int32 → Option (Int32 × XM)) (h : XM) (l0 : Option Nat) (l1 : Int32) (l3 : Int32) (l4 : Int32) (s0 : Int32) : Option (Int32 × XM) := (gR h 4 l0 0).bind fun v2 => (rI h v2 (l4 + ((1 : Int32)))).bind fun v3 => if v3 = ((1 : Int32)) then (f_X4_isSoBy_61 k_5 h l0 l1 l3 l4 ((1 : Int32)) s0) else (f_X4_isSoBy_61 k_5 h l0 l1 l3 l4 ((0 : Int32)) s0)
noncomputable def fb_X4_isSoBy_5 (k_5 : XM → Option Nat → Int32 → Int32 → Int32 → Option (Int32 × XM)) (h : XM) (l0 : Option Nat) (l1 : Int32) (l3 : Int32) (l4 : Int32) : Option (Int32 × XM) := (gI h 4 l0 2).bind fun v4 => if (l4 + ((1 : Int32))) < v4 then ((gR h 4 l0 0).bind fun v5 => (rI h v5 l4).bind fun v6 => bnd (l3 + v6) fun v7 => (f_J9_floorMod h v7 l1).bind fun q8 => if q8.1 = 0 then (f_X4_isSoBy_39 k_5 q8.2 l0 l1 v7 l4 ((1 : Int32))) else (f_X4_isSoBy_39 k_5 q8.2 l0 l1 v7 l4 ((0 : Int32)))) else (rz h ((1 : Int32)))
noncomputable def f_X4_isSoBy_5 (n : Nat) : XM → Option Nat → Int32 → Int32 → Int32 → Option (Int32 × XM) := Nat.rec (motive := fun _ => XM → Option Nat → Int32 → Int32 → Int32 → Option (Int32 × XM)) (fun _ _ _ _ _ => none) (fun _ ih h l0 l1 l3 l4 => fb_X4_isSoBy_5 ih h l0 l1 l3 l4) n
noncomputable def f_X4_isSoBy (h : XM) (a0 : Option Nat) (a1 : Int32) (a2 : Int32) : Option (Int32 × XM) := f_X4_isSoBy_5 FU h a0 a1 a2 ((0 : Int32))
theorem b_X4_isSoBy_61 (X : XX) (k_5 : XM → Option Nat → Int32 → Int32 → Int32 → Option (Int32 × XM)) (hk_5 : ∀ h l0 l1 l3 l4, SW X I_X4_isSoBy ρi 5 [(0, tA l0), (1, tI l1), (3, tI l3), (4, tI l4)] [] h 0 0 (k_5 h l0 l1 l3 l4)) (h : XM) (l0 : Option Nat) (l1 : Int32) (l3 : Int32) (l4 : Int32) (s0 : Int32) (s1 : Int32) : SW X I_X4_isSoBy ρi 61 [(0, tA l0), (1, tI l1), (3, tI l3), (4, tI l4)] [tI s0, tI s1] h 0 0 (f_X4_isSoBy_61 k_5 h l0 l1 l3 l4 s0 s1) := by
  unfold f_X4_isSoBy_61
  refine s_icmpeq (i := 37) rfl (tgt := 66) (by decide) (fun z61 => ?_) (fun z61 => ?_)
  · refine s_inc (i := 40) rfl 3 rfl (c9 := (2 : Int32)) (by decide) (Nat.le_of_ble_eq_true rfl) (fun v1 => ?_)
    refine s_ls (ls2 := [(4, tI v1), (0, tA l0), (1, tI l1), (3, tI l3)]) rfl ?_
    refine s_goto (i := 41) rfl (tgt := 5) (by decide) ?_
    exact s_sub [1, 2, 3, 0] rfl (hk_5 h l0 l1 l3 v1)
  · refine s_iconst (i := 38) rfl (v := (0 : Int32)) (by decide) ?_
    exact s_zret (i := 39) rfl rfl
theorem b_X4_isSoBy_39 (X : XX) (k_5 : XM → Option Nat → Int32 → Int32 → Int32 → Option (Int32 × XM)) (hk_5 : ∀ h l0 l1 l3 l4, SW X I_X4_isSoBy ρi 5 [(0, tA l0), (1, tI l1), (3, tI l3), (4, tI l4)] [] h 0 0 (k_5 h l0 l1 l3 l4)) (h : XM) (l0 : Option Nat) (l1 : Int32) (l3 : Int32) (l4 : Int32) (s0 : Int32) : SW X I_X4_isSoBy ρi 39 [(0, tA l0), (1, tI l1), (3, tI l3), (4, tI l4)] [tI s0] h 0 0 (f_X4_isSoBy_39 k_5 h l0 l1 l3 l4 s0) := by
  unfold f_X4_isSoBy_39
  refine s_istore (i := 24) rfl (Nat.le_of_ble_eq_true rfl) (ls2 := [(5, tI s0), (0, tA l0), (1, tI l1), (3, tI l3), (4, tI l4)]) rfl ?_
  refine s_iload (i := 25) rfl 0 rfl ?_
  refine s_aload_n (i := 26) rfl 1 rfl ?_
  refine s_getR (i := 27) rfl xf_4_9.r rfl (fun v2 => ?_)
  refine s_iload (i := 28) rfl 4 rfl ?_
  refine s_iconst (i := 29) rfl (v := (1 : Int32)) (by decide) ?_
  refine s_iadd (i := 30) rfl ?_
  refine s_iaload (i := 31) rfl (fun v3 => ?_)
  refine s_iconst (i := 32) rfl (v := (1 : Int32)) (by decide) ?_
  refine s_icmpne (i := 33) rfl (tgt := 60) (by decide) (fun z53 => ?_) (fun z53 => ?_)
  · refine s_iconst (i := 34) rfl (v := (1 : Int32)) (by decide) ?_
    refine s_goto (i := 35) rfl (tgt := 61) (by decide) ?_
    exact s_sub [1, 2, 3, 4] rfl (b_X4_isSoBy_61 X k_5 hk_5 h l0 l1 l3 l4 ((1 : Int32)) s0)
  · refine s_iconst (i := 36) rfl (v := (0 : Int32)) (by decide) ?_
    exact s_sub [1, 2, 3, 4] rfl (b_X4_isSoBy_61 X k_5 hk_5 h l0 l1 l3 l4 ((0 : Int32)) s0)
theorem bb_X4_isSoBy_5 (X : XX) (k_5 : XM → Option Nat → Int32 → Int32 → Int32 → Option (Int32 × XM)) (hk_5 : ∀ h l0 l1 l3 l4, SW X I_X4_isSoBy ρi 5 [(0, tA l0), (1, tI l1), (3, tI l3), (4, tI l4)] [] h 0 0 (k_5 h l0 l1 l3 l4)) (h : XM) (l0 : Option Nat) (l1 : Int32) (l3 : Int32) (l4 : Int32) : SW X I_X4_isSoBy ρi 5 [(0, tA l0), (1, tI l1), (3, tI l3), (4, tI l4)] [] h 0 0 (fb_X4_isSoBy_5 k_5 h l0 l1 l3 l4) := by
  unfold fb_X4_isSoBy_5
  refine s_iload (i := 4) rfl 3 rfl ?_
  refine s_iconst (i := 5) rfl (v := (1 : Int32)) (by decide) ?_
  refine s_iadd (i := 6) rfl ?_
  refine s_aload_n (i := 7) rfl 0 rfl ?_
  refine s_getI (i := 8) rfl xf_4_28.r rfl (fun v4 => ?_)
  refine s_icmpge (i := 9) rfl (tgt := 72) (by decide) (fun z13 => ?_) (fun z13 => ?_)
  · refine s_iload_n (i := 10) rfl 2 rfl ?_
    refine s_aload_n (i := 11) rfl 0 rfl ?_
    refine s_getR (i := 12) rfl xf_4_9.r rfl (fun v5 => ?_)
    refine s_iload (i := 13) rfl 3 rfl ?_
    refine s_iaload (i := 14) rfl (fun v6 => ?_)
    refine s_iadd (i := 15) rfl ?_
    refine s_bnd (fun v7 => ?_)
    refine s_istore_n (i := 16) rfl (Nat.le_of_ble_eq_true rfl) (ls2 := [(3, tI v7), (0, tA l0), (1, tI l1), (4, tI l4)]) rfl ?_
    refine s_iload_n (i := 17) rfl 0 rfl ?_
    refine s_iload_n (i := 18) rfl 2 rfl ?_
    refine u_callSi [tI v7, tI l1] [] rfl (i := 19) rfl (c_J9_floorMod h v7 l1) xm_J9_floorMod (tw852) rfl (Nat.le_of_ble_eq_true rfl) (xRm.of rfl) ⟨rfl, rfl⟩ (fun q8 => ?_)
    refine s_ifne (i := 20) rfl (tgt := 38) (by decide) (fun z31 => ?_) (fun z31 => ?_)
    · refine s_iconst (i := 21) rfl (v := (1 : Int32)) (by decide) ?_
      refine s_goto (i := 22) rfl (tgt := 39) (by decide) ?_
      exact s_sub [1, 2, 0, 3] rfl (b_X4_isSoBy_39 X k_5 hk_5 q8.2 l0 l1 v7 l4 ((1 : Int32)))
    · refine s_iconst (i := 23) rfl (v := (0 : Int32)) (by decide) ?_
      exact s_sub [1, 2, 0, 3] rfl (b_X4_isSoBy_39 X k_5 hk_5 q8.2 l0 l1 v7 l4 ((0 : Int32)))
  · refine s_iconst (i := 42) rfl (v := (1 : Int32)) (by decide) ?_
    exact s_zret (i := 43) rfl rfl
theorem b_X4_isSoBy_5 (X : XX) : ∀ (n : Nat) (h : XM) (l0 : Option Nat) (l1 : Int32) (l3 : Int32) (l4 : Int32), SW X I_X4_isSoBy ρi 5 [(0, tA l0), (1, tI l1), (3, tI l3), (4, tI l4)] [] h 0 0 (f_X4_isSoBy_5 n h l0 l1 l3 l4) := by
  intro n
  induction n with
  | zero =>
    intro h l0 l1 l3 l4
    exact s_none
  | succ n ih =>
    intro h l0 l1 l3 l4
    exact bb_X4_isSoBy_5 X (f_X4_isSoBy_5 n) ih h l0 l1 l3 l4
theorem c_X4_isSoBy (h : XM) (a0 : Option Nat) (a1 : Int32) (a2 : Int32) : MC I_X4_isSoBy y_X4_isSoBy [tA a0, tI a1, tI a2] h ρi (f_X4_isSoBy h a0 a1 a2) := by
  refine MC_of ⟨by decide +kernel, rfl, rfl, Nat.le_of_ble_eq_true rfl⟩ dT_X4_isSoBy (fun X => ?_)
  show SW X I_X4_isSoBy ρi 0 [(0, tA a0), (1, tI a1), (2, tI a2)] [] h 0 0 (f_X4_isSoBy h a0 a1 a2)
  unfold f_X4_isSoBy
  refine s_iload_n (i := 0) rfl 2 rfl ?_
  refine s_istore_n (i := 1) rfl (Nat.le_of_ble_eq_true rfl) (ls2 := [(3, tI a2), (0, tA a0), (1, tI a1), (2, tI a2)]) rfl ?_
  refine s_iconst (i := 2) rfl (v := (0 : Int32)) (by decide) ?_
  refine s_istore (i := 3) rfl (Nat.le_of_ble_eq_true rfl) (ls2 := [(4, tI ((0 : Int32))), (3, tI a2), (0, tA a0), (1, tI a1), (2, tI a2)]) rfl ?_
  exact s_sub [2, 3, 1, 0] rfl (b_X4_isSoBy_5 X FU h a0 a1 a2 ((0 : Int32)))
def y_X4_numbersBy : MethodName := ⟨"OpensAtNine$Sheet", "numbersBy", "(I)I"⟩
def T_X4_numbersBy : List (Nat × Instr × Nat × Nat) := [(0, .iconst 0, 1, 1), (1, .istore_n 2, 1, 2), (2, .iconst 2, 1, 3), (3, .istore_n 3, 1, 4), (4, .iload_n 3, 1, 5), (5, .bipush 20, 2, 7), (7, .if_icmp .gt 24, 3, 10), (10, .aload_n 0, 1, 11), (11, .iload_n 3, 1, 12), (12, .iload_n 1, 1, 13), (13, .invokevirtual 37, 3, 16), (16, .ifCond .eq 9, 3, 19), (19, .iload_n 2, 1, 20), (20, .iconst 1, 1, 21), (21, .iload_n 3, 1, 22), (22, .ishl, 1, 23), (23, .ior, 1, 24), (24, .istore_n 2, 1, 25), (25, .iinc 3 1, 3, 28), (28, .goto (-24), 3, 31), (31, .iload_n 2, 1, 32), (32, .ireturn, 1, 33)]
def I_X4_numbersBy : MI := (prog_6_method_7_code, 4, (some .int), "OpensAtNine$Sheet", "numbersBy", T_X4_numbersBy, 0, 0, 3, 107)
theorem dT_X4_numbersBy : ∀ q ∈ T_X4_numbersBy, decode prog_6_method_7_code q.1 = .ok (q.2.1, q.2.2.1) ∧ q.2.2.2 = q.1 + q.2.2.1 := by decide +kernel
theorem xm_X4_numbersBy : xCM y_X4_numbersBy I_X4_numbersBy 4 1 := ⟨⟨tw845, tw846⟩, tw75, tw847, ⟨xT4, 3, rfl⟩, ⟨by decide +kernel, by decide +kernel, by decide +kernel⟩⟩
noncomputable def f_X4_numbersBy_25 (k_4 : XM → Option Nat → Int32 → Int32 → Int32 → Option (Int32 × XM)) (h : XM) (l0 : Option Nat) (l1 : Int32) (l2 : Int32) (l3 : Int32) : Option (Int32 × XM) := bnd (l3 + (1 : Int32)) fun v1 => k_4 h l0 l1 l2 v1
noncomputable def fb_X4_numbersBy_4 (k_4 : XM → Option Nat → Int32 → Int32 → Int32 → Option (Int32 × XM)) (h : XM) (l0 : Option Nat) (l1 : Int32) (l2 : Int32) (l3 : Int32) : Option (Int32 × XM) := if ((20 : Int32)) < l3 then (some (l2, h)) else ((vc h 4 l0 (f_X4_isSoBy h l0 l3 l1)).bind fun q2 => if q2.1 = 0 then (f_X4_numbersBy_25 k_4 q2.2 l0 l1 l2 l3) else (bnd (l2 ||| (((1 : Int32)) <<< (l3 &&& 31))) fun v3 => f_X4_numbersBy_25 k_4 q2.2 l0 l1 v3 l3))
noncomputable def f_X4_numbersBy_4 (n : Nat) : XM → Option Nat → Int32 → Int32 → Int32 → Option (Int32 × XM) := Nat.rec (motive := fun _ => XM → Option Nat → Int32 → Int32 → Int32 → Option (Int32 × XM)) (fun _ _ _ _ _ => none) (fun _ ih h l0 l1 l2 l3 => fb_X4_numbersBy_4 ih h l0 l1 l2 l3) n
noncomputable def f_X4_numbersBy (h : XM) (a0 : Option Nat) (a1 : Int32) : Option (Int32 × XM) := f_X4_numbersBy_4 FU h a0 a1 ((0 : Int32)) ((2 : Int32))
theorem b_X4_numbersBy_25 (X : XX) (k_4 : XM → Option Nat → Int32 → Int32 → Int32 → Option (Int32 × XM)) (hk_4 : ∀ h l0 l1 l2 l3, SW X I_X4_numbersBy ρi 4 [(0, tA l0), (1, tI l1), (2, tI l2), (3, tI l3)] [] h 0 0 (k_4 h l0 l1 l2 l3)) (h : XM) (l0 : Option Nat) (l1 : Int32) (l2 : Int32) (l3 : Int32) : SW X I_X4_numbersBy ρi 25 [(0, tA l0), (1, tI l1), (2, tI l2), (3, tI l3)] [] h 0 0 (f_X4_numbersBy_25 k_4 h l0 l1 l2 l3) := by
  unfold f_X4_numbersBy_25
  refine s_inc (i := 18) rfl 3 rfl (c9 := (1 : Int32)) (by decide) (Nat.le_of_ble_eq_true rfl) (fun v1 => ?_)
  refine s_ls (ls2 := [(3, tI v1), (0, tA l0), (1, tI l1), (2, tI l2)]) rfl ?_
  refine s_goto (i := 19) rfl (tgt := 4) (by decide) ?_
  exact s_sub [1, 2, 3, 0] rfl (hk_4 h l0 l1 l2 v1)
theorem bb_X4_numbersBy_4 (X : XX) (k_4 : XM → Option Nat → Int32 → Int32 → Int32 → Option (Int32 × XM)) (hk_4 : ∀ h l0 l1 l2 l3, SW X I_X4_numbersBy ρi 4 [(0, tA l0), (1, tI l1), (2, tI l2), (3, tI l3)] [] h 0 0 (k_4 h l0 l1 l2 l3)) (h : XM) (l0 : Option Nat) (l1 : Int32) (l2 : Int32) (l3 : Int32) : SW X I_X4_numbersBy ρi 4 [(0, tA l0), (1, tI l1), (2, tI l2), (3, tI l3)] [] h 0 0 (fb_X4_numbersBy_4 k_4 h l0 l1 l2 l3) := by
  unfold fb_X4_numbersBy_4
  refine s_iload_n (i := 4) rfl 3 rfl ?_
  refine s_bipush (i := 5) rfl (v := (20 : Int32)) (by decide) ?_
  refine s_icmpgt (i := 6) rfl (tgt := 31) (by decide) (fun z7 => ?_) (fun z7 => ?_)
  · refine s_iload_n (i := 20) rfl 2 rfl ?_
    exact s_iret (i := 21) rfl rfl
  · refine s_aload_n (i := 7) rfl 0 rfl ?_
    refine s_iload_n (i := 8) rfl 3 rfl ?_
    refine s_iload_n (i := 9) rfl 1 rfl ?_
    refine u_callVi (kk := 4) [tI l3, tI l1] l0 [] rfl (i := 10) rfl (c_X4_isSoBy h l0 l3 l1) xm_X4_isSoBy (tw848) rfl (Nat.le_of_ble_eq_true rfl) (xRm.of rfl) ⟨rfl, rfl⟩ (fun q2 => ?_)
    refine s_ifeq (i := 11) rfl (tgt := 25) (by decide) (fun z16 => ?_) (fun z16 => ?_)
    · exact s_sub [0, 1, 2, 3] rfl (b_X4_numbersBy_25 X k_4 hk_4 q2.2 l0 l1 l2 l3)
    · refine s_iload_n (i := 12) rfl 2 rfl ?_
      refine s_iconst (i := 13) rfl (v := (1 : Int32)) (by decide) ?_
      refine s_iload_n (i := 14) rfl 3 rfl ?_
      refine s_ishl (i := 15) rfl ?_
      refine s_ior (i := 16) rfl ?_
      refine s_bnd (fun v3 => ?_)
      refine s_istore_n (i := 17) rfl (Nat.le_of_ble_eq_true rfl) (ls2 := [(2, tI v3), (0, tA l0), (1, tI l1), (3, tI l3)]) rfl ?_
      exact s_sub [1, 2, 0, 3] rfl (b_X4_numbersBy_25 X k_4 hk_4 q2.2 l0 l1 v3 l3)
theorem b_X4_numbersBy_4 (X : XX) : ∀ (n : Nat) (h : XM) (l0 : Option Nat) (l1 : Int32) (l2 : Int32) (l3 : Int32), SW X I_X4_numbersBy ρi 4 [(0, tA l0), (1, tI l1), (2, tI l2), (3, tI l3)] [] h 0 0 (f_X4_numbersBy_4 n h l0 l1 l2 l3) := by
  intro n
  induction n with
  | zero =>
    intro h l0 l1 l2 l3
    exact s_none
  | succ n ih =>
    intro h l0 l1 l2 l3
    exact bb_X4_numbersBy_4 X (f_X4_numbersBy_4 n) ih h l0 l1 l2 l3
theorem c_X4_numbersBy (h : XM) (a0 : Option Nat) (a1 : Int32) : MC I_X4_numbersBy y_X4_numbersBy [tA a0, tI a1] h ρi (f_X4_numbersBy h a0 a1) := by
  refine MC_of ⟨by decide +kernel, rfl, rfl, Nat.le_of_ble_eq_true rfl⟩ dT_X4_numbersBy (fun X => ?_)
  show SW X I_X4_numbersBy ρi 0 [(0, tA a0), (1, tI a1)] [] h 0 0 (f_X4_numbersBy h a0 a1)
  unfold f_X4_numbersBy
  refine s_iconst (i := 0) rfl (v := (0 : Int32)) (by decide) ?_
  refine s_istore_n (i := 1) rfl (Nat.le_of_ble_eq_true rfl) (ls2 := [(2, tI ((0 : Int32))), (0, tA a0), (1, tI a1)]) rfl ?_
  refine s_iconst (i := 2) rfl (v := (2 : Int32)) (by decide) ?_
  refine s_istore_n (i := 3) rfl (Nat.le_of_ble_eq_true rfl) (ls2 := [(3, tI ((2 : Int32))), (2, tI ((0 : Int32))), (0, tA a0), (1, tI a1)]) rfl ?_
  exact s_sub [2, 3, 1, 0] rfl (b_X4_numbersBy_4 X FU h a0 a1 ((0 : Int32)) ((2 : Int32)))
