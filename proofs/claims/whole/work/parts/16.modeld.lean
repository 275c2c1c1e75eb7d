/-! 16.model: the methods as functions, and that the bytecode does so (written by wip/whole/gen/gen_parts.py) -/
def y_X9_keys : MethodName := ⟨"OpensAtNineModel", "keys", "()I"⟩
def T_X9_keys : List (Nat × Instr × Nat × Nat) := [(0, .iconst 0, 1, 1), (1, .istore_n 1, 1, 2), (2, .iconst 0, 1, 3), (3, .istore_n 2, 1, 4), (4, .iload_n 2, 1, 5), (5, .aload_n 0, 1, 6), (6, .getfield 104, 3, 9), (9, .if_icmp .ge 36, 3, 12), (12, .iload_n 1, 1, 13), (13, .aload_n 0, 1, 14), (14, .iload_n 2, 1, 15), (15, .invokevirtual 241, 3, 18), (18, .ifCond .eq 18, 3, 21), (21, .aload_n 0, 1, 22), (22, .iload_n 2, 1, 23), (23, .iconst 0, 1, 24), (24, .invokevirtual 283, 3, 27), (27, .ifCond .eq 9, 3, 30), (30, .iconst 1, 1, 31), (31, .iload_n 2, 1, 32), (32, .ishl, 1, 33), (33, .goto 4, 3, 36), (36, .iconst 0, 1, 37), (37, .ior, 1, 38), (38, .istore_n 1, 1, 39), (39, .iinc 2 1, 3, 42), (42, .goto (-38), 3, 45), (45, .iload_n 1, 1, 46), (46, .ireturn, 1, 47)]
def I_X9_keys : MI := (prog_11_method_54_code, 3, (some .int), "OpensAtNineModel", "keys", T_X9_keys, 0, 0, 7, 209)
theorem dT_X9_keys : ∀ q ∈ T_X9_keys, decode prog_11_method_54_code q.1 = .ok (q.2.1, q.2.2.1) ∧ q.2.2.2 = q.1 + q.2.2.1 := by decide +kernel
theorem xm_X9_keys : xCM y_X9_keys I_X9_keys 9 0 := ⟨⟨tw1317, tw1318⟩, tw84, tw1319, ⟨xT9, 49, rfl⟩, ⟨by decide +kernel, by decide +kernel, by decide +kernel⟩⟩
noncomputable def f_X9_keys_37 (k_4 : XM → Option Nat → Int32 → Int32 → Option (Int32 × XM)) (h : XM) (l0 : Option Nat) (l2 : Int32) (s0 : Int32) (s1 : Int32) : Option (Int32 × XM) := bnd (s1 ||| s0) fun v1 => bnd (l2 + (1 : Int32)) fun v2 => k_4 h l0 v1 v2
noncomputable def f_X9_keys_36 (k_4 : XM → Option Nat → Int32 → Int32 → Option (Int32 × XM)) (h : XM) (l0 : Option Nat) (l2 : Int32) (s0 : Int32) : Option (Int32 × XM) := f_X9_keys_37 k_4 h l0 l2 ((0 : Int32)) s0
noncomputable def fb_X9_keys_4 (k_4 : XM → Option Nat → Int32 → Int32 → Option (Int32 × XM)) (h : XM) (l0 : Option Nat) (l1 : Int32) (l2 : Int32) : Option (Int32 × XM) := (gI h 9 l0 5).bind fun v3 => if l2 < v3 then ((vc h 9 l0 (f_X9_canPut h l0 l2)).bind fun q4 => if q4.1 = 0 then (f_X9_keys_36 k_4 q4.2 l0 l2 l1) else ((vc q4.2 9 l0 (f_X9_wouldOpen q4.2 l0 l2 ((0 : Int32)))).bind fun q5 => if q5.1 = 0 then (f_X9_keys_36 k_4 q5.2 l0 l2 l1) else (f_X9_keys_37 k_4 q5.2 l0 l2 (((1 : Int32)) <<< (l2 &&& 31)) l1))) else (some (l1, h))
noncomputable def f_X9_keys_4 (n : Nat) : XM → Option Nat → Int32 → Int32 → Option (Int32 × XM) := Nat.rec (motive := fun _ => XM → Option Nat → Int32 → Int32 → Option (Int32 × XM)) (fun _ _ _ _ => none) (fun _ ih h l0 l1 l2 => fb_X9_keys_4 ih h l0 l1 l2) n
noncomputable def f_X9_keys (h : XM) (a0 : Option Nat) : Option (Int32 × XM) := f_X9_keys_4 FU h a0 ((0 : Int32)) ((0 : Int32))
theorem b_X9_keys_37 (X : XX) (k_4 : XM → Option Nat → Int32 → Int32 → Option (Int32 × XM)) (hk_4 : ∀ h l0 l1 l2, SW X I_X9_keys ρi 4 [(0, tA l0), (1, tI l1), (2, tI l2)] [] h 0 0 (k_4 h l0 l1 l2)) (h : XM) (l0 : Option Nat) (l2 : Int32) (s0 : Int32) (s1 : Int32) : SW X I_X9_keys ρi 37 [(0, tA l0), (2, tI l2)] [tI s0, tI s1] h 0 0 (f_X9_keys_37 k_4 h l0 l2 s0 s1) := by
  unfold f_X9_keys_37
  refine s_ior (i := 23) rfl ?_
  refine s_bnd (fun v1 => ?_)
  refine s_istore_n (i := 24) rfl (Nat.le_of_ble_eq_true rfl) (ls2 := [(1, tI v1), (0, tA l0), (2, tI l2)]) rfl ?_
  refine s_inc (i := 25) rfl 2 rfl (c9 := (1 : Int32)) (by decide) (Nat.le_of_ble_eq_true rfl) (fun v2 => ?_)
  refine s_ls (ls2 := [(2, tI v2), (1, tI v1), (0, tA l0)]) rfl ?_
  refine s_goto (i := 26) rfl (tgt := 4) (by decide) ?_
  exact s_sub [2, 1, 0] rfl (hk_4 h l0 v1 v2)
theorem b_X9_keys_36 (X : XX) (k_4 : XM → Option Nat → Int32 → Int32 → Option (Int32 × XM)) (hk_4 : ∀ h l0 l1 l2, SW X I_X9_keys ρi 4 [(0, tA l0), (1, tI l1), (2, tI l2)] [] h 0 0 (k_4 h l0 l1 l2)) (h : XM) (l0 : Option Nat) (l2 : Int32) (s0 : Int32) : SW X I_X9_keys ρi 36 [(0, tA l0), (2, tI l2)] [tI s0] h 0 0 (f_X9_keys_36 k_4 h l0 l2 s0) := by
  unfold f_X9_keys_36
  refine s_iconst (i := 22) rfl (v := (0 : Int32)) (by decide) ?_
  exact s_sub [0, 1] rfl (b_X9_keys_37 X k_4 hk_4 h l0 l2 ((0 : Int32)) s0)
theorem bb_X9_keys_4 (X : XX) (k_4 : XM → Option Nat → Int32 → Int32 → Option (Int32 × XM)) (hk_4 : ∀ h l0 l1 l2, SW X I_X9_keys ρi 4 [(0, tA l0), (1, tI l1), (2, tI l2)] [] h 0 0 (k_4 h l0 l1 l2)) (h : XM) (l0 : Option Nat) (l1 : Int32) (l2 : Int32) : SW X I_X9_keys ρi 4 [(0, tA l0), (1, tI l1), (2, tI l2)] [] h 0 0 (fb_X9_keys_4 k_4 h l0 l1 l2) := by
  unfold fb_X9_keys_4
  refine s_iload_n (i := 4) rfl 2 rfl ?_
  refine s_aload_n (i := 5) rfl 0 rfl ?_
  refine s_getI (i := 6) rfl xf_9_104.r rfl (fun v3 => ?_)
  refine s_icmpge (i := 7) rfl (tgt := 45) (by decide) (fun z9 => ?_) (fun z9 => ?_)
  · refine s_iload_n (i := 8) rfl 1 rfl ?_
    refine s_aload_n (i := 9) rfl 0 rfl ?_
    refine s_iload_n (i := 10) rfl 2 rfl ?_
    refine u_callVi (kk := 9) [tI l2] l0 [tI l1] rfl (i := 11) rfl (c_X9_canPut h l0 l2) xm_X9_canPut (tw1255) rfl (Nat.le_of_ble_eq_true rfl) (xRm.of rfl) ⟨rfl, rfl⟩ (fun q4 => ?_)
    refine s_ifeq (i := 12) rfl (tgt := 36) (by decide) (fun z18 => ?_) (fun z18 => ?_)
    · exact s_sub [0, 2] rfl (b_X9_keys_36 X k_4 hk_4 q4.2 l0 l2 l1)
    · refine s_aload_n (i := 13) rfl 0 rfl ?_
      refine s_iload_n (i := 14) rfl 2 rfl ?_
      refine s_iconst (i := 15) rfl (v := (0 : Int32)) (by decide) ?_
      refine u_callVi (kk := 9) [tI l2, tI ((0 : Int32))] l0 [tI l1] rfl (i := 16) rfl (c_X9_wouldOpen q4.2 l0 l2 ((0 : Int32))) xm_X9_wouldOpen (tw1320) rfl (Nat.le_of_ble_eq_true rfl) (xRm.of rfl) ⟨rfl, rfl⟩ (fun q5 => ?_)
      refine s_ifeq (i := 17) rfl (tgt := 36) (by decide) (fun z27 => ?_) (fun z27 => ?_)
      · exact s_sub [0, 2] rfl (b_X9_keys_36 X k_4 hk_4 q5.2 l0 l2 l1)
      · refine s_iconst (i := 18) rfl (v := (1 : Int32)) (by decide) ?_
        refine s_iload_n (i := 19) rfl 2 rfl ?_
        refine s_ishl (i := 20) rfl ?_
        refine s_goto (i := 21) rfl (tgt := 37) (by decide) ?_
        exact s_sub [0, 2] rfl (b_X9_keys_37 X k_4 hk_4 q5.2 l0 l2 (((1 : Int32)) <<< (l2 &&& 31)) l1)
  · refine s_iload_n (i := 27) rfl 1 rfl ?_
    exact s_iret (i := 28) rfl rfl
theorem b_X9_keys_4 (X : XX) : ∀ (n : Nat) (h : XM) (l0 : Option Nat) (l1 : Int32) (l2 : Int32), SW X I_X9_keys ρi 4 [(0, tA l0), (1, tI l1), (2, tI l2)] [] h 0 0 (f_X9_keys_4 n h l0 l1 l2) := by
  intro n
  induction n with
  | zero =>
    intro h l0 l1 l2
    exact s_none
  | succ n ih =>
    intro h l0 l1 l2
    exact bb_X9_keys_4 X (f_X9_keys_4 n) ih h l0 l1 l2
theorem c_X9_keys (h : XM) (a0 : Option Nat) : MC I_X9_keys y_X9_keys [tA a0] h ρi (f_X9_keys h a0) := by
  refine MC_of ⟨by decide +kernel, rfl, rfl, Nat.le_of_ble_eq_true rfl⟩ dT_X9_keys (fun X => ?_)
  show SW X I_X9_keys ρi 0 [(0, tA a0)] [] h 0 0 (f_X9_keys h a0)
  unfold f_X9_keys
  refine s_iconst (i := 0) rfl (v := (0 : Int32)) (by decide) ?_
  refine s_istore_n (i := 1) rfl (Nat.le_of_ble_eq_true rfl) (ls2 := [(1, tI ((0 : Int32))), (0, tA a0)]) rfl ?_
  refine s_iconst (i := 2) rfl (v := (0 : Int32)) (by decide) ?_
  refine s_istore_n (i := 3) rfl (Nat.le_of_ble_eq_true rfl) (ls2 := [(2, tI ((0 : Int32))), (1, tI ((0 : Int32))), (0, tA a0)]) rfl ?_
  exact s_sub [2, 1, 0] rfl (b_X9_keys_4 X FU h a0 ((0 : Int32)) ((0 : Int32)))
def y_X9_isGift : MethodName := ⟨"OpensAtNineModel", "isGift", "(I)Z"⟩
def T_X9_isGift : List (Nat × Instr × Nat × Nat) := [(0, .aload_n 0, 1, 1), (1, .iconst 0, 1, 2), (2, .invokevirtual 260, 3, 5), (5, .aload_n 0, 1, 6), (6, .iload_n 1, 1, 7), (7, .invokevirtual 244, 3, 10), (10, .pop, 1, 11), (11, .iconst 0, 1, 12), (12, .istore_n 2, 1, 13), (13, .iconst 0, 1, 14), (14, .istore_n 3, 1, 15), (15, .iload_n 3, 1, 16), (16, .aload_n 0, 1, 17), (17, .getfield 104, 3, 20), (20, .if_icmp .ge 51, 3, 23), (23, .iload_n 2, 1, 24), (24, .ifCond .ne 35, 3, 27), (27, .aload_n 0, 1, 28), (28, .getfield 13, 3, 31), (31, .iload_n 3, 1, 32), (32, .iaload, 1, 33), (33, .aload_n 0, 1, 34), (34, .getfield 13, 3, 37), (37, .iload_n 1, 1, 38), (38, .iaload, 1, 39), (39, .if_icmp .eq 24, 3, 42), (42, .aload_n 0, 1, 43), (43, .iload_n 3, 1, 44), (44, .invokevirtual 241, 3, 47), (47, .ifCond .eq 16, 3, 50), (50, .aload_n 0, 1, 51), (51, .iload_n 3, 1, 52), (52, .iconst 1, 1, 53), (53, .invokevirtual 283, 3, 56), (56, .ifCond .eq 7, 3, 59), (59, .iconst 1, 1, 60), (60, .goto 4, 3, 63), (63, .iconst 0, 1, 64), (64, .istore_n 2, 1, 65), (65, .iinc 3 1, 3, 68), (68, .goto (-53), 3, 71), (71, .aload_n 0, 1, 72), (72, .iconst 0, 1, 73), (73, .invokevirtual 267, 3, 76), (76, .iload_n 2, 1, 77), (77, .ireturn, 1, 78)]
def I_X9_isGift : MI := (prog_11_method_55_code, 4, (some .boolean), "OpensAtNineModel", "isGift", T_X9_isGift, 0, 0, 7, 209)
theorem dT_X9_isGift : ∀ q ∈ T_X9_isGift, decode prog_11_method_55_code q.1 = .ok (q.2.1, q.2.2.1) ∧ q.2.2.2 = q.1 + q.2.2.1 := by decide +kernel
theorem xm_X9_isGift : xCM y_X9_isGift I_X9_isGift 9 1 := ⟨⟨tw1330, tw59⟩, tw84, tw1331, ⟨xT9, 49, rfl⟩, ⟨by decide +kernel, by decide +kernel, by decide +kernel⟩⟩
noncomputable def f_X9_isGift_64 (k_15 : XM → Option Nat → Int32 → Int32 → Int32 → Option (Int32 × XM)) (h : XM) (l0 : Option Nat) (l1 : Int32) (l3 : Int32) (s0 : Int32) : Option (Int32 × XM) := bnd (l3 + (1 : Int32)) fun v1 => k_15 h l0 l1 s0 v1
noncomputable def f_X9_isGift_59 (k_15 : XM → Option Nat → Int32 → Int32 → Int32 → Option (Int32 × XM)) (h : XM) (l0 : Option Nat) (l1 : Int32) (l3 : Int32) : Option (Int32 × XM) := f_X9_isGift_64 k_15 h l0 l1 l3 ((1 : Int32))
noncomputable def f_X9_isGift_63 (k_15 : XM → Option Nat → Int32 → Int32 → Int32 → Option (Int32 × XM)) (h : XM) (l0 : Option Nat) (l1 : Int32) (l3 : Int32) : Option (Int32 × XM) := f_X9_isGift_64 k_15 h l0 l1 l3 ((0 : Int32))
noncomputable def fb_X9_isGift_15 (k_15 : XM → Option Nat → Int32 → Int32 → Int32 → Option (Int32 × XM)) (h : XM) (l0 : Option Nat) (l1 : Int32) (l2 : Int32) (l3 : Int32) : Option (Int32 × XM) := (gI h 9 l0 5).bind fun v2 => if l3 < v2 then (if l2 = 0 then ((gR h 9 l0 6).bind fun v3 => (rI h v3 l3).bind fun v4 => (gR h 9 l0 6).bind fun v5 => (rI h v5 l1).bind fun v6 => if v4 = v6 then (f_X9_isGift_63 k_15 h l0 l1 l3) else ((vc h 9 l0 (f_X9_canPut h l0 l3)).bind fun q7 => if q7.1 = 0 then (f_X9_isGift_63 k_15 q7.2 l0 l1 l3) else ((vc q7.2 9 l0 (f_X9_wouldOpen q7.2 l0 l3 ((1 : Int32)))).bind fun q8 => if q8.1 = 0 then (f_X9_isGift_63 k_15 q8.2 l0 l1 l3) else (f_X9_isGift_59 k_15 q8.2 l0 l1 l3)))) else (f_X9_isGift_59 k_15 h l0 l1 l3)) else ((vc h 9 l0 (f_X9_laysBack h l0 ((0 : Int32)))).bind fun q9 => rz q9 l2)
noncomputable def f_X9_isGift_15 (n : Nat) : XM → Option Nat → Int32 → Int32 → Int32 → Option (Int32 × XM) := Nat.rec (motive := fun _ => XM → Option Nat → Int32 → Int32 → Int32 → Option (Int32 × XM)) (fun _ _ _ _ _ => none) (fun _ ih h l0 l1 l2 l3 => fb_X9_isGift_15 ih h l0 l1 l2 l3) n
noncomputable def f_X9_isGift (h : XM) (a0 : Option Nat) (a1 : Int32) : Option (Int32 × XM) := (vc h 9 a0 (f_X9_keeps h a0 ((0 : Int32)))).bind fun q10 => (vc q10 9 a0 (f_X9_paysIn q10 a0 a1)).bind fun q11 => f_X9_isGift_15 FU q11.2 a0 a1 ((0 : Int32)) ((0 : Int32))
theorem b_X9_isGift_64 (X : XX) (k_15 : XM → Option Nat → Int32 → Int32 → Int32 → Option (Int32 × XM)) (hk_15 : ∀ h l0 l1 l2 l3, SW X I_X9_isGift ρi 15 [(0, tA l0), (1, tI l1), (2, tI l2), (3, tI l3)] [] h 0 0 (k_15 h l0 l1 l2 l3)) (h : XM) (l0 : Option Nat) (l1 : Int32) (l3 : Int32) (s0 : Int32) : SW X I_X9_isGift ρi 64 [(0, tA l0), (1, tI l1), (3, tI l3)] [tI s0] h 0 0 (f_X9_isGift_64 k_15 h l0 l1 l3 s0) := by
  unfold f_X9_isGift_64
  refine s_istore_n (i := 38) rfl (Nat.le_of_ble_eq_true rfl) (ls2 := [(2, tI s0), (0, tA l0), (1, tI l1), (3, tI l3)]) rfl ?_
  refine s_inc (i := 39) rfl 3 rfl (c9 := (1 : Int32)) (by decide) (Nat.le_of_ble_eq_true rfl) (fun v1 => ?_)
  refine s_ls (ls2 := [(3, tI v1), (2, tI s0), (0, tA l0), (1, tI l1)]) rfl ?_
  refine s_goto (i := 40) rfl (tgt := 15) (by decide) ?_
  exact s_sub [2, 3, 1, 0] rfl (hk_15 h l0 l1 s0 v1)
theorem b_X9_isGift_59 (X : XX) (k_15 : XM → Option Nat → Int32 → Int32 → Int32 → Option (Int32 × XM)) (hk_15 : ∀ h l0 l1 l2 l3, SW X I_X9_isGift ρi 15 [(0, tA l0), (1, tI l1), (2, tI l2), (3, tI l3)] [] h 0 0 (k_15 h l0 l1 l2 l3)) (h : XM) (l0 : Option Nat) (l1 : Int32) (l3 : Int32) : SW X I_X9_isGift ρi 59 [(0, tA l0), (1, tI l1), (3, tI l3)] [] h 0 0 (f_X9_isGift_59 k_15 h l0 l1 l3) := by
  unfold f_X9_isGift_59
  refine s_iconst (i := 35) rfl (v := (1 : Int32)) (by decide) ?_
  refine s_goto (i := 36) rfl (tgt := 64) (by decide) ?_
  exact s_sub [0, 1, 2] rfl (b_X9_isGift_64 X k_15 hk_15 h l0 l1 l3 ((1 : Int32)))
theorem b_X9_isGift_63 (X : XX) (k_15 : XM → Option Nat → Int32 → Int32 → Int32 → Option (Int32 × XM)) (hk_15 : ∀ h l0 l1 l2 l3, SW X I_X9_isGift ρi 15 [(0, tA l0), (1, tI l1), (2, tI l2), (3, tI l3)] [] h 0 0 (k_15 h l0 l1 l2 l3)) (h : XM) (l0 : Option Nat) (l1 : Int32) (l3 : Int32) : SW X I_X9_isGift ρi 63 [(0, tA l0), (1, tI l1), (3, tI l3)] [] h 0 0 (f_X9_isGift_63 k_15 h l0 l1 l3) := by
  unfold f_X9_isGift_63
  refine s_iconst (i := 37) rfl (v := (0 : Int32)) (by decide) ?_
  exact s_sub [0, 1, 2] rfl (b_X9_isGift_64 X k_15 hk_15 h l0 l1 l3 ((0 : Int32)))
theorem bb_X9_isGift_15 (X : XX) (k_15 : XM → Option Nat → Int32 → Int32 → Int32 → Option (Int32 × XM)) (hk_15 : ∀ h l0 l1 l2 l3, SW X I_X9_isGift ρi 15 [(0, tA l0), (1, tI l1), (2, tI l2), (3, tI l3)] [] h 0 0 (k_15 h l0 l1 l2 l3)) (h : XM) (l0 : Option Nat) (l1 : Int32) (l2 : Int32) (l3 : Int32) : SW X I_X9_isGift ρi 15 [(0, tA l0), (1, tI l1), (2, tI l2), (3, tI l3)] [] h 0 0 (fb_X9_isGift_15 k_15 h l0 l1 l2 l3) := by
  unfold fb_X9_isGift_15
  refine s_iload_n (i := 11) rfl 3 rfl ?_
  refine s_aload_n (i := 12) rfl 0 rfl ?_
  refine s_getI (i := 13) rfl xf_9_104.r rfl (fun v2 => ?_)
  refine s_icmpge (i := 14) rfl (tgt := 71) (by decide) (fun z20 => ?_) (fun z20 => ?_)
  · refine s_iload_n (i := 15) rfl 2 rfl ?_
    refine s_ifne (i := 16) rfl (tgt := 59) (by decide) (fun z24 => ?_) (fun z24 => ?_)
    · refine s_aload_n (i := 17) rfl 0 rfl ?_
      refine s_getR (i := 18) rfl xf_9_13.r rfl (fun v3 => ?_)
      refine s_iload_n (i := 19) rfl 3 rfl ?_
      refine s_iaload (i := 20) rfl (fun v4 => ?_)
      refine s_aload_n (i := 21) rfl 0 rfl ?_
      refine s_getR (i := 22) rfl xf_9_13.r rfl (fun v5 => ?_)
      refine s_iload_n (i := 23) rfl 1 rfl ?_
      refine s_iaload (i := 24) rfl (fun v6 => ?_)
      refine s_icmpeq (i := 25) rfl (tgt := 63) (by decide) (fun z39 => ?_) (fun z39 => ?_)
      · exact s_sub [0, 1, 3] rfl (b_X9_isGift_63 X k_15 hk_15 h l0 l1 l3)
      · refine s_aload_n (i := 26) rfl 0 rfl ?_
        refine s_iload_n (i := 27) rfl 3 rfl ?_
        refine u_callVi (kk := 9) [tI l3] l0 [] rfl (i := 28) rfl (c_X9_canPut h l0 l3) xm_X9_canPut (tw1255) rfl (Nat.le_of_ble_eq_true rfl) (xRm.of rfl) ⟨rfl, rfl⟩ (fun q7 => ?_)
        refine s_ifeq (i := 29) rfl (tgt := 63) (by decide) (fun z47 => ?_) (fun z47 => ?_)
        · exact s_sub [0, 1, 3] rfl (b_X9_isGift_63 X k_15 hk_15 q7.2 l0 l1 l3)
        · refine s_aload_n (i := 30) rfl 0 rfl ?_
          refine s_iload_n (i := 31) rfl 3 rfl ?_
          refine s_iconst (i := 32) rfl (v := (1 : Int32)) (by decide) ?_
          refine u_callVi (kk := 9) [tI l3, tI ((1 : Int32))] l0 [] rfl (i := 33) rfl (c_X9_wouldOpen q7.2 l0 l3 ((1 : Int32))) xm_X9_wouldOpen (tw1320) rfl (Nat.le_of_ble_eq_true rfl) (xRm.of rfl) ⟨rfl, rfl⟩ (fun q8 => ?_)
          refine s_ifeq (i := 34) rfl (tgt := 63) (by decide) (fun z56 => ?_) (fun z56 => ?_)
          · exact s_sub [0, 1, 3] rfl (b_X9_isGift_63 X k_15 hk_15 q8.2 l0 l1 l3)
          · exact s_sub [0, 1, 3] rfl (b_X9_isGift_59 X k_15 hk_15 q8.2 l0 l1 l3)
    · exact s_sub [0, 1, 3] rfl (b_X9_isGift_59 X k_15 hk_15 h l0 l1 l3)
  · refine s_aload_n (i := 41) rfl 0 rfl ?_
    refine s_iconst (i := 42) rfl (v := (0 : Int32)) (by decide) ?_
    refine u_callVv (kk := 9) [tI ((0 : Int32))] l0 [] rfl (i := 43) rfl (c_X9_laysBack h l0 ((0 : Int32))) xm_X9_laysBack (tw1296) rfl (Nat.le_of_ble_eq_true rfl) (xRm.of rfl) ⟨rfl, rfl⟩ (fun q9 => ?_)
    refine s_iload_n (i := 44) rfl 2 rfl ?_
    exact s_zret (i := 45) rfl rfl
theorem b_X9_isGift_15 (X : XX) : ∀ (n : Nat) (h : XM) (l0 : Option Nat) (l1 : Int32) (l2 : Int32) (l3 : Int32), SW X I_X9_isGift ρi 15 [(0, tA l0), (1, tI l1), (2, tI l2), (3, tI l3)] [] h 0 0 (f_X9_isGift_15 n h l0 l1 l2 l3) := by
  intro n
  induction n with
  | zero =>
    intro h l0 l1 l2 l3
    exact s_none
  | succ n ih =>
    intro h l0 l1 l2 l3
    exact bb_X9_isGift_15 X (f_X9_isGift_15 n) ih h l0 l1 l2 l3
theorem c_X9_isGift (h : XM) (a0 : Option Nat) (a1 : Int32) : MC I_X9_isGift y_X9_isGift [tA a0, tI a1] h ρi (f_X9_isGift h a0 a1) := by
  refine MC_of ⟨by decide +kernel, rfl, rfl, Nat.le_of_ble_eq_true rfl⟩ dT_X9_isGift (fun X => ?_)
  show SW X I_X9_isGift ρi 0 [(0, tA a0), (1, tI a1)] [] h 0 0 (f_X9_isGift h a0 a1)
  unfold f_X9_isGift
  refine s_aload_n (i := 0) rfl 0 rfl ?_
  refine s_iconst (i := 1) rfl (v := (0 : Int32)) (by decide) ?_
  refine u_callVv (kk := 9) [tI ((0 : Int32))] a0 [] rfl (i := 2) rfl (c_X9_keeps h a0 ((0 : Int32))) xm_X9_keeps (tw1292) rfl (Nat.le_of_ble_eq_true rfl) (xRm.of rfl) ⟨rfl, rfl⟩ (fun q10 => ?_)
  refine s_aload_n (i := 3) rfl 0 rfl ?_
  refine s_iload_n (i := 4) rfl 1 rfl ?_
  refine u_callVi (kk := 9) [tI a1] a0 [] rfl (i := 5) rfl (c_X9_paysIn q10 a0 a1) xm_X9_paysIn (tw1263) rfl (Nat.le_of_ble_eq_true rfl) (xRm.of rfl) ⟨rfl, rfl⟩ (fun q11 => ?_)
  refine s_pop (i := 6) rfl rfl ?_
  refine s_iconst (i := 7) rfl (v := (0 : Int32)) (by decide) ?_
  refine s_istore_n (i := 8) rfl (Nat.le_of_ble_eq_true rfl) (ls2 := [(2, tI ((0 : Int32))), (0, tA a0), (1, tI a1)]) rfl ?_
  refine s_iconst (i := 9) rfl (v := (0 : Int32)) (by decide) ?_
  refine s_istore_n (i := 10) rfl (Nat.le_of_ble_eq_true rfl) (ls2 := [(3, tI ((0 : Int32))), (2, tI ((0 : Int32))), (0, tA a0), (1, tI a1)]) rfl ?_
  exact s_sub [2, 3, 1, 0] rfl (b_X9_isGift_15 X FU q11.2 a0 a1 ((0 : Int32)) ((0 : Int32)))
def y_X9_gifts : MethodName := ⟨"OpensAtNineModel", "gifts", "()I"⟩
def T_X9_gifts : List (Nat × Instr × Nat × Nat) := [(0, .iconst 0, 1, 1), (1, .istore_n 1, 1, 2), (2, .iconst 0, 1, 3), (3, .istore_n 2, 1, 4), (4, .iload_n 2, 1, 5), (5, .aload_n 0, 1, 6), (6, .getfield 104, 3, 9), (9, .if_icmp .ge 35, 3, 12), (12, .iload_n 1, 1, 13), (13, .aload_n 0, 1, 14), (14, .iload_n 2, 1, 15), (15, .invokevirtual 241, 3, 18), (18, .ifCond .eq 17, 3, 21), (21, .aload_n 0, 1, 22), (22, .iload_n 2, 1, 23), (23, .invokevirtual 287, 3, 26), (26, .ifCond .eq 9, 3, 29), (29, .iconst 1, 1, 30), (30, .iload_n 2, 1, 31), (31, .ishl, 1, 32), (32, .goto 4, 3, 35), (35, .iconst 0, 1, 36), (36, .ior, 1, 37), (37, .istore_n 1, 1, 38), (38, .iinc 2 1, 3, 41), (41, .goto (-37), 3, 44), (44, .iload_n 1, 1, 45), (45, .ireturn, 1, 46)]
def I_X9_gifts : MI := (prog_11_method_56_code, 3, (some .int), "OpensAtNineModel", "gifts", T_X9_gifts, 0, 0, 8, 232)
theorem dT_X9_gifts : ∀ q ∈ T_X9_gifts, decode prog_11_method_56_code q.1 = .ok (q.2.1, q.2.2.1) ∧ q.2.2.2 = q.1 + q.2.2.1 := by decide +kernel
theorem xm_X9_gifts : xCM y_X9_gifts I_X9_gifts 9 0 := ⟨⟨tw1325, tw1326⟩, tw84, tw1327, ⟨xT9, 49, rfl⟩, ⟨by decide +kernel, by decide +kernel, by decide +kernel⟩⟩
noncomputable def f_X9_gifts_36 (k_4 : XM → Option Nat → Int32 → Int32 → Option (Int32 × XM)) (h : XM) (l0 : Option Nat) (l2 : Int32) (s0 : Int32) (s1 : Int32) : Option (Int32 × XM) := bnd (s1 ||| s0) fun v1 => bnd (l2 + (1 : Int32)) fun v2 => k_4 h l0 v1 v2
noncomputable def f_X9_gifts_35 (k_4 : XM → Option Nat → Int32 → Int32 → Option (Int32 × XM)) (h : XM) (l0 : Option Nat) (l2 : Int32) (s0 : Int32) : Option (Int32 × XM) := f_X9_gifts_36 k_4 h l0 l2 ((0 : Int32)) s0
noncomputable def fb_X9_gifts_4 (k_4 : XM → Option Nat → Int32 → Int32 → Option (Int32 × XM)) (h : XM) (l0 : Option Nat) (l1 : Int32) (l2 : Int32) : Option (Int32 × XM) := (gI h 9 l0 5).bind fun v3 => if l2 < v3 then ((vc h 9 l0 (f_X9_canPut h l0 l2)).bind fun q4 => if q4.1 = 0 then (f_X9_gifts_35 k_4 q4.2 l0 l2 l1) else ((vc q4.2 9 l0 (f_X9_isGift q4.2 l0 l2)).bind fun q5 => if q5.1 = 0 then (f_X9_gifts_35 k_4 q5.2 l0 l2 l1) else (f_X9_gifts_36 k_4 q5.2 l0 l2 (((1 : Int32)) <<< (l2 &&& 31)) l1))) else (some (l1, h))
noncomputable def f_X9_gifts_4 (n : Nat) : XM → Option Nat → Int32 → Int32 → Option (Int32 × XM) := Nat.rec (motive := fun _ => XM → Option Nat → Int32 → Int32 → Option (Int32 × XM)) (fun _ _ _ _ => none) (fun _ ih h l0 l1 l2 => fb_X9_gifts_4 ih h l0 l1 l2) n
noncomputable def f_X9_gifts (h : XM) (a0 : Option Nat) : Option (Int32 × XM) := f_X9_gifts_4 FU h a0 ((0 : Int32)) ((0 : Int32))
theorem b_X9_gifts_36 (X : XX) (k_4 : XM → Option Nat → Int32 → Int32 → Option (Int32 × XM)) (hk_4 : ∀ h l0 l1 l2, SW X I_X9_gifts ρi 4 [(0, tA l0), (1, tI l1), (2, tI l2)] [] h 0 0 (k_4 h l0 l1 l2)) (h : XM) (l0 : Option Nat) (l2 : Int32) (s0 : Int32) (s1 : Int32) : SW X I_X9_gifts ρi 36 [(0, tA l0), (2, tI l2)] [tI s0, tI s1] h 0 0 (f_X9_gifts_36 k_4 h l0 l2 s0 s1) := by
  unfold f_X9_gifts_36
  refine s_ior (i := 22) rfl ?_
  refine s_bnd (fun v1 => ?_)
  refine s_istore_n (i := 23) rfl (Nat.le_of_ble_eq_true rfl) (ls2 := [(1, tI v1), (0, tA l0), (2, tI l2)]) rfl ?_
  refine s_inc (i := 24) rfl 2 rfl (c9 := (1 : Int32)) (by decide) (Nat.le_of_ble_eq_true rfl) (fun v2 => ?_)
  refine s_ls (ls2 := [(2, tI v2), (1, tI v1), (0, tA l0)]) rfl ?_
  refine s_goto (i := 25) rfl (tgt := 4) (by decide) ?_
  exact s_sub [2, 1, 0] rfl (hk_4 h l0 v1 v2)
theorem b_X9_gifts_35 (X : XX) (k_4 : XM → Option Nat → Int32 → Int32 → Option (Int32 × XM)) (hk_4 : ∀ h l0 l1 l2, SW X I_X9_gifts ρi 4 [(0, tA l0), (1, tI l1), (2, tI l2)] [] h 0 0 (k_4 h l0 l1 l2)) (h : XM) (l0 : Option Nat) (l2 : Int32) (s0 : Int32) : SW X I_X9_gifts ρi 35 [(0, tA l0), (2, tI l2)] [tI s0] h 0 0 (f_X9_gifts_35 k_4 h l0 l2 s0) := by
  unfold f_X9_gifts_35
  refine s_iconst (i := 21) rfl (v := (0 : Int32)) (by decide) ?_
  exact s_sub [0, 1] rfl (b_X9_gifts_36 X k_4 hk_4 h l0 l2 ((0 : Int32)) s0)
theorem bb_X9_gifts_4 (X : XX) (k_4 : XM → Option Nat → Int32 → Int32 → Option (Int32 × XM)) (hk_4 : ∀ h l0 l1 l2, SW X I_X9_gifts ρi 4 [(0, tA l0), (1, tI l1), (2, tI l2)] [] h 0 0 (k_4 h l0 l1 l2)) (h : XM) (l0 : Option Nat) (l1 : Int32) (l2 : Int32) : SW X I_X9_gifts ρi 4 [(0, tA l0), (1, tI l1), (2, tI l2)] [] h 0 0 (fb_X9_gifts_4 k_4 h l0 l1 l2) := by
  unfold fb_X9_gifts_4
  refine s_iload_n (i := 4) rfl 2 rfl ?_
  refine s_aload_n (i := 5) rfl 0 rfl ?_
  refine s_getI (i := 6) rfl xf_9_104.r rfl (fun v3 => ?_)
  refine s_icmpge (i := 7) rfl (tgt := 44) (by decide) (fun z9 => ?_) (fun z9 => ?_)
  · refine s_iload_n (i := 8) rfl 1 rfl ?_
    refine s_aload_n (i := 9) rfl 0 rfl ?_
    refine s_iload_n (i := 10) rfl 2 rfl ?_
    refine u_callVi (kk := 9) [tI l2] l0 [tI l1] rfl (i := 11) rfl (c_X9_canPut h l0 l2) xm_X9_canPut (tw1255) rfl (Nat.le_of_ble_eq_true rfl) (xRm.of rfl) ⟨rfl, rfl⟩ (fun q4 => ?_)
    refine s_ifeq (i := 12) rfl (tgt := 35) (by decide) (fun z18 => ?_) (fun z18 => ?_)
    · exact s_sub [0, 2] rfl (b_X9_gifts_35 X k_4 hk_4 q4.2 l0 l2 l1)
    · refine s_aload_n (i := 13) rfl 0 rfl ?_
      refine s_iload_n (i := 14) rfl 2 rfl ?_
      refine u_callVi (kk := 9) [tI l2] l0 [tI l1] rfl (i := 15) rfl (c_X9_isGift q4.2 l0 l2) xm_X9_isGift (tw1328) rfl (Nat.le_of_ble_eq_true rfl) (xRm.of rfl) ⟨rfl, rfl⟩ (fun q5 => ?_)
      refine s_ifeq (i := 16) rfl (tgt := 35) (by decide) (fun z26 => ?_) (fun z26 => ?_)
      · exact s_sub [0, 2] rfl (b_X9_gifts_35 X k_4 hk_4 q5.2 l0 l2 l1)
      · refine s_iconst (i := 17) rfl (v := (1 : Int32)) (by decide) ?_
        refine s_iload_n (i := 18) rfl 2 rfl ?_
        refine s_ishl (i := 19) rfl ?_
        refine s_goto (i := 20) rfl (tgt := 36) (by decide) ?_
        exact s_sub [0, 2] rfl (b_X9_gifts_36 X k_4 hk_4 q5.2 l0 l2 (((1 : Int32)) <<< (l2 &&& 31)) l1)
  · refine s_iload_n (i := 26) rfl 1 rfl ?_
    exact s_iret (i := 27) rfl rfl
theorem b_X9_gifts_4 (X : XX) : ∀ (n : Nat) (h : XM) (l0 : Option Nat) (l1 : Int32) (l2 : Int32), SW X I_X9_gifts ρi 4 [(0, tA l0), (1, tI l1), (2, tI l2)] [] h 0 0 (f_X9_gifts_4 n h l0 l1 l2) := by
  intro n
  induction n with
  | zero =>
    intro h l0 l1 l2
    exact s_none
  | succ n ih =>
    intro h l0 l1 l2
    exact bb_X9_gifts_4 X (f_X9_gifts_4 n) ih h l0 l1 l2
theorem c_X9_gifts (h : XM) (a0 : Option Nat) : MC I_X9_gifts y_X9_gifts [tA a0] h ρi (f_X9_gifts h a0) := by
  refine MC_of ⟨by decide +kernel, rfl, rfl, Nat.le_of_ble_eq_true rfl⟩ dT_X9_gifts (fun X => ?_)
  show SW X I_X9_gifts ρi 0 [(0, tA a0)] [] h 0 0 (f_X9_gifts h a0)
  unfold f_X9_gifts
  refine s_iconst (i := 0) rfl (v := (0 : Int32)) (by decide) ?_
  refine s_istore_n (i := 1) rfl (Nat.le_of_ble_eq_true rfl) (ls2 := [(1, tI ((0 : Int32))), (0, tA a0)]) rfl ?_
  refine s_iconst (i := 2) rfl (v := (0 : Int32)) (by decide) ?_
  refine s_istore_n (i := 3) rfl (Nat.le_of_ble_eq_true rfl) (ls2 := [(2, tI ((0 : Int32))), (1, tI ((0 : Int32))), (0, tA a0)]) rfl ?_
  exact s_sub [2, 1, 0] rfl (b_X9_gifts_4 X FU h a0 ((0 : Int32)) ((0 : Int32)))
def y_X9_endsNow : MethodName := ⟨"OpensAtNineModel", "endsNow", "(I)V"⟩
def T_X9_endsNow : List (Nat × Instr × Nat × Nat) := [(0, .iconst 0, 1, 1), (1, .istore_n 2, 1, 2), (2, .iload_n 2, 1, 3), (3, .aload_n 0, 1, 4), (4, .getfield 97, 3, 7), (7, .if_icmp .ge 31, 3, 10), (10, .aload_n 0, 1, 11), (11, .getfield 75, 3, 14), (14, .iconst 4, 1, 15), (15, .iload_n 1, 1, 16), (16, .imul, 1, 17), (17, .iload_n 2, 1, 18), (18, .iadd, 1, 19), (19, .aload_n 0, 1, 20), (20, .iload_n 2, 1, 21), (21, .invokevirtual 247, 3, 24), (24, .aload_n 0, 1, 25), (25, .getfield 87, 3, 28), (28, .iload_n 2, 1, 29), (29, .iaload, 1, 30), (30, .isub, 1, 31), (31, .iastore, 1, 32), (32, .iinc 2 1, 3, 35), (35, .goto (-33), 3, 38), (38, .return_, 1, 39)]
def I_X9_endsNow : MI := (prog_11_method_57_code, 3, none, "OpensAtNineModel", "endsNow", T_X9_endsNow, 0, 0, 6, 185)
theorem dT_X9_endsNow : ∀ q ∈ T_X9_endsNow, decode prog_11_method_57_code q.1 = .ok (q.2.1, q.2.2.1) ∧ q.2.2.2 = q.1 + q.2.2.1 := by decide +kernel
theorem xm_X9_endsNow : xCM y_X9_endsNow I_X9_endsNow 9 1 := ⟨⟨tw1347, tw62⟩, tw84, tw1348, ⟨xT9, 49, rfl⟩, ⟨by decide +kernel, by decide +kernel, by decide +kernel⟩⟩
noncomputable def fb_X9_endsNow_2 (k_2 : XM → Option Nat → Int32 → Int32 → Option (XM)) (h : XM) (l0 : Option Nat) (l1 : Int32) (l2 : Int32) : Option (XM) := (gI h 9 l0 3).bind fun v1 => if l2 < v1 then ((gR h 9 l0 43).bind fun v2 => (vc h 9 l0 (f_X9_worthOf h l0 l2)).bind fun q3 => (gR q3.2 9 l0 47).bind fun v4 => (rI q3.2 v4 l2).bind fun v5 => (sI q3.2 v2 ((((4 : Int32)) * l1) + l2) (q3.1 - v5)).bind fun h6 => bnd (l2 + (1 : Int32)) fun v7 => k_2 h6 l0 l1 v7) else (some h)
noncomputable def f_X9_endsNow_2 (n : Nat) : XM → Option Nat → Int32 → Int32 → Option (XM) := Nat.rec (motive := fun _ => XM → Option Nat → Int32 → Int32 → Option (XM)) (fun _ _ _ _ => none) (fun _ ih h l0 l1 l2 => fb_X9_endsNow_2 ih h l0 l1 l2) n
noncomputable def f_X9_endsNow (h : XM) (a0 : Option Nat) (a1 : Int32) : Option (XM) := f_X9_endsNow_2 FU h a0 a1 ((0 : Int32))
theorem bb_X9_endsNow_2 (X : XX) (k_2 : XM → Option Nat → Int32 → Int32 → Option (XM)) (hk_2 : ∀ h l0 l1 l2, SW X I_X9_endsNow ρv 2 [(0, tA l0), (1, tI l1), (2, tI l2)] [] h 0 0 (k_2 h l0 l1 l2)) (h : XM) (l0 : Option Nat) (l1 : Int32) (l2 : Int32) : SW X I_X9_endsNow ρv 2 [(0, tA l0), (1, tI l1), (2, tI l2)] [] h 0 0 (fb_X9_endsNow_2 k_2 h l0 l1 l2) := by
  unfold fb_X9_endsNow_2
  refine s_iload_n (i := 2) rfl 2 rfl ?_
  refine s_aload_n (i := 3) rfl 0 rfl ?_
  refine s_getI (i := 4) rfl xf_9_97.r rfl (fun v1 => ?_)
  refine s_icmpge (i := 5) rfl (tgt := 38) (by decide) (fun z7 => ?_) (fun z7 => ?_)
  · refine s_aload_n (i := 6) rfl 0 rfl ?_
    refine s_getR (i := 7) rfl xf_9_75.r rfl (fun v2 => ?_)
    refine s_iconst (i := 8) rfl (v := (4 : Int32)) (by decide) ?_
    refine s_iload_n (i := 9) rfl 1 rfl ?_
    refine s_imul (i := 10) rfl ?_
    refine s_iload_n (i := 11) rfl 2 rfl ?_
    refine s_iadd (i := 12) rfl ?_
    refine s_aload_n (i := 13) rfl 0 rfl ?_
    refine s_iload_n (i := 14) rfl 2 rfl ?_
    refine u_callVi (kk := 9) [tI l2] l0 [tI ((((4 : Int32)) * l1) + l2), tA v2] rfl (i := 15) rfl (c_X9_worthOf h l0 l2) xm_X9_worthOf (tw1275) rfl (Nat.le_of_ble_eq_true rfl) (xRm.of rfl) ⟨rfl, rfl⟩ (fun q3 => ?_)
    refine s_aload_n (i := 16) rfl 0 rfl ?_
    refine s_getR (i := 17) rfl xf_9_87.r rfl (fun v4 => ?_)
    refine s_iload_n (i := 18) rfl 2 rfl ?_
    refine s_iaload (i := 19) rfl (fun v5 => ?_)
    refine s_isub (i := 20) rfl ?_
    refine s_iastore (i := 21) rfl (fun h6 => ?_)
    refine s_inc (i := 22) rfl 2 rfl (c9 := (1 : Int32)) (by decide) (Nat.le_of_ble_eq_true rfl) (fun v7 => ?_)
    refine s_ls (ls2 := [(2, tI v7), (0, tA l0), (1, tI l1)]) rfl ?_
    refine s_goto (i := 23) rfl (tgt := 2) (by decide) ?_
    exact s_sub [1, 2, 0] rfl (hk_2 h6 l0 l1 v7)
  · exact s_vret (i := 24) rfl rfl
theorem b_X9_endsNow_2 (X : XX) : ∀ (n : Nat) (h : XM) (l0 : Option Nat) (l1 : Int32) (l2 : Int32), SW X I_X9_endsNow ρv 2 [(0, tA l0), (1, tI l1), (2, tI l2)] [] h 0 0 (f_X9_endsNow_2 n h l0 l1 l2) := by
  intro n
  induction n with
  | zero =>
    intro h l0 l1 l2
    exact s_none
  | succ n ih =>
    intro h l0 l1 l2
    exact bb_X9_endsNow_2 X (f_X9_endsNow_2 n) ih h l0 l1 l2
theorem c_X9_endsNow (h : XM) (a0 : Option Nat) (a1 : Int32) : MC I_X9_endsNow y_X9_endsNow [tA a0, tI a1] h ρv (f_X9_endsNow h a0 a1) := by
  refine MC_of ⟨by decide +kernel, rfl, rfl, Nat.le_of_ble_eq_true rfl⟩ dT_X9_endsNow (fun X => ?_)
  show SW X I_X9_endsNow ρv 0 [(0, tA a0), (1, tI a1)] [] h 0 0 (f_X9_endsNow h a0 a1)
  unfold f_X9_endsNow
  refine s_iconst (i := 0) rfl (v := (0 : Int32)) (by decide) ?_
  refine s_istore_n (i := 1) rfl (Nat.le_of_ble_eq_true rfl) (ls2 := [(2, tI ((0 : Int32))), (0, tA a0), (1, tI a1)]) rfl ?_
  exact s_sub [1, 2, 0] rfl (b_X9_endsNow_2 X FU h a0 a1 ((0 : Int32)))
def y_X9_takes : MethodName := ⟨"OpensAtNineModel", "takes", "(IIIIZ)V"⟩
def T_X9_takes : List (Nat × Instr × Nat × Nat) := [(0, .iload 5, 2, 2), (2, .ifCond .ne 28, 3, 5), (5, .aload_n 0, 1, 6), (6, .getfield 75, 3, 9), (9, .iconst 4, 1, 10), (10, .iload_n 1, 1, 11), (11, .iconst 1, 1, 12), (12, .iadd, 1, 13), (13, .imul, 1, 14), (14, .iload_n 3, 1, 15), (15, .iadd, 1, 16), (16, .iaload, 1, 17), (17, .aload_n 0, 1, 18), (18, .getfield 81, 3, 21), (21, .iconst 4, 1, 22), (22, .iload_n 1, 1, 23), (23, .imul, 1, 24), (24, .iload_n 3, 1, 25), (25, .iadd, 1, 26), (26, .iaload, 1, 27), (27, .if_icmp .le 101, 3, 30), (30, .iconst 0, 1, 31), (31, .istore 6, 2, 33), (33, .iload 6, 2, 35), (35, .aload_n 0, 1, 36), (36, .getfield 97, 3, 39), (39, .if_icmp .ge 33, 3, 42), (42, .aload_n 0, 1, 43), (43, .getfield 81, 3, 46), (46, .iconst 4, 1, 47), (47, .iload_n 1, 1, 48), (48, .imul, 1, 49), (49, .iload 6, 2, 51), (51, .iadd, 1, 52), (52, .aload_n 0, 1, 53), (53, .getfield 75, 3, 56), (56, .iconst 4, 1, 57), (57, .iload_n 1, 1, 58), (58, .iconst 1, 1, 59), (59, .iadd, 1, 60), (60, .imul, 1, 61), (61, .iload 6, 2, 63), (63, .iadd, 1, 64), (64, .iaload, 1, 65), (65, .iastore, 1, 66), (66, .iinc 6 1, 3, 69), (69, .goto (-36), 3, 72), (72, .aload_n 0, 1, 73), (73, .getfield 84, 3, 76), (76, .bipush 7, 2, 78), (78, .iload_n 1, 1, 79), (79, .imul, 1, 80), (80, .iload_n 1, 1, 81), (81, .iadd, 1, 82), (82, .iload 4, 2, 84), (84, .iastore, 1, 85), (85, .iload_n 1, 1, 86), (86, .iconst 1, 1, 87), (87, .iadd, 1, 88), (88, .istore 6, 2, 90), (90, .iload 6, 2, 92), (92, .iload_n 2, 1, 93), (93, .if_icmp .ge 35, 3, 96), (96, .aload_n 0, 1, 97), (97, .getfield 84, 3, 100), (100, .bipush 7, 2, 102), (102, .iload_n 1, 1, 103), (103, .imul, 1, 104), (104, .iload 6, 2, 106), (106, .iadd, 1, 107), (107, .aload_n 0, 1, 108), (108, .getfield 78, 3, 111), (111, .bipush 7, 2, 113), (113, .iload_n 1, 1, 114), (114, .iconst 1, 1, 115), (115, .iadd, 1, 116), (116, .imul, 1, 117), (117, .iload 6, 2, 119), (119, .iadd, 1, 120), (120, .iaload, 1, 121), (121, .iastore, 1, 122), (122, .iinc 6 1, 3, 125), (125, .goto (-35), 3, 128), (128, .return_, 1, 129)]
def I_X9_takes : MI := (prog_11_method_58_code, 7, none, "OpensAtNineModel", "takes", T_X9_takes, 0, 0, 1, 60)
theorem dT_X9_takes : ∀ q ∈ T_X9_takes, decode prog_11_method_58_code q.1 = .ok (q.2.1, q.2.2.1) ∧ q.2.2.2 = q.1 + q.2.2.1 := by decide +kernel
theorem xm_X9_takes : xCM y_X9_takes I_X9_takes 9 5 := ⟨⟨tw1351, tw63⟩, tw84, tw1352, ⟨xT9, 49, rfl⟩, ⟨by decide +kernel, by decide +kernel, by decide +kernel⟩⟩
noncomputable def f_X9_takes_128 (h : XM) : Option (XM) := some h
noncomputable def fb_X9_takes_90 (k_90 : XM → Option Nat → Int32 → Int32 → Int32 → Option (XM)) (h : XM) (l0 : Option Nat) (l1 : Int32) (l2 : Int32) (l6 : Int32) : Option (XM) := if l6 < l2 then ((gR h 9 l0 46).bind fun v1 => (gR h 9 l0 44).bind fun v2 => (rI h v2 ((((7 : Int32)) * (l1 + ((1 : Int32)))) + l6)).bind fun v3 => (sI h v1 ((((7 : Int32)) * l1) + l6) v3).bind fun h4 => bnd (l6 + (1 : Int32)) fun v5 => k_90 h4 l0 l1 l2 v5) else (f_X9_takes_128 h)
noncomputable def f_X9_takes_90 (n : Nat) : XM → Option Nat → Int32 → Int32 → Int32 → Option (XM) := Nat.rec (motive := fun _ => XM → Option Nat → Int32 → Int32 → Int32 → Option (XM)) (fun _ _ _ _ _ => none) (fun _ ih h l0 l1 l2 l6 => fb_X9_takes_90 ih h l0 l1 l2 l6) n
noncomputable def fb_X9_takes_33 (k_33 : XM → Option Nat → Int32 → Int32 → Int32 → Int32 → Option (XM)) (h : XM) (l0 : Option Nat) (l1 : Int32) (l2 : Int32) (l4 : Int32) (l6 : Int32) : Option (XM) := (gI h 9 l0 3).bind fun v6 => if l6 < v6 then ((gR h 9 l0 45).bind fun v7 => (gR h 9 l0 43).bind fun v8 => (rI h v8 ((((4 : Int32)) * (l1 + ((1 : Int32)))) + l6)).bind fun v9 => (sI h v7 ((((4 : Int32)) * l1) + l6) v9).bind fun h10 => bnd (l6 + (1 : Int32)) fun v11 => k_33 h10 l0 l1 l2 l4 v11) else ((gR h 9 l0 46).bind fun v12 => (sI h v12 ((((7 : Int32)) * l1) + l1) l4).bind fun h13 => bnd (l1 + ((1 : Int32))) fun v14 => f_X9_takes_90 FU h13 l0 l1 l2 v14)
noncomputable def f_X9_takes_33 (n : Nat) : XM → Option Nat → Int32 → Int32 → Int32 → Int32 → Option (XM) := Nat.rec (motive := fun _ => XM → Option Nat → Int32 → Int32 → Int32 → Int32 → Option (XM)) (fun _ _ _ _ _ _ => none) (fun _ ih h l0 l1 l2 l4 l6 => fb_X9_takes_33 ih h l0 l1 l2 l4 l6) n
noncomputable def f_X9_takes_30 (h : XM) (l0 : Option Nat) (l1 : Int32) (l2 : Int32) (l4 : Int32) : Option (XM) := f_X9_takes_33 FU h l0 l1 l2 l4 ((0 : Int32))
noncomputable def f_X9_takes (h : XM) (a0 : Option Nat) (a1 : Int32) (a2 : Int32) (a3 : Int32) (a4 : Int32) (a5 : Int32) : Option (XM) := if a5 = 0 then ((gR h 9 a0 43).bind fun v15 => (rI h v15 ((((4 : Int32)) * (a1 + ((1 : Int32)))) + a3)).bind fun v16 => (gR h 9 a0 45).bind fun v17 => (rI h v17 ((((4 : Int32)) * a1) + a3)).bind fun v18 => if v18 < v16 then (f_X9_takes_30 h a0 a1 a2 a4) else (f_X9_takes_128 h)) else (f_X9_takes_30 h a0 a1 a2 a4)
theorem b_X9_takes_128 (X : XX) (h : XM) : SW X I_X9_takes ρv 128 [] [] h 0 0 (f_X9_takes_128 h) := by
  unfold f_X9_takes_128
  exact s_vret (i := 83) rfl rfl
theorem bb_X9_takes_90 (X : XX) (k_90 : XM → Option Nat → Int32 → Int32 → Int32 → Option (XM)) (hk_90 : ∀ h l0 l1 l2 l6, SW X I_X9_takes ρv 90 [(0, tA l0), (1, tI l1), (2, tI l2), (6, tI l6)] [] h 0 0 (k_90 h l0 l1 l2 l6)) (h : XM) (l0 : Option Nat) (l1 : Int32) (l2 : Int32) (l6 : Int32) : SW X I_X9_takes ρv 90 [(0, tA l0), (1, tI l1), (2, tI l2), (6, tI l6)] [] h 0 0 (fb_X9_takes_90 k_90 h l0 l1 l2 l6) := by
  unfold fb_X9_takes_90
  refine s_iload (i := 60) rfl 3 rfl ?_
  refine s_iload_n (i := 61) rfl 2 rfl ?_
  refine s_icmpge (i := 62) rfl (tgt := 128) (by decide) (fun z93 => ?_) (fun z93 => ?_)
  · refine s_aload_n (i := 63) rfl 0 rfl ?_
    refine s_getR (i := 64) rfl xf_9_84.r rfl (fun v1 => ?_)
    refine s_bipush (i := 65) rfl (v := (7 : Int32)) (by decide) ?_
    refine s_iload_n (i := 66) rfl 1 rfl ?_
    refine s_imul (i := 67) rfl ?_
    refine s_iload (i := 68) rfl 3 rfl ?_
    refine s_iadd (i := 69) rfl ?_
    refine s_aload_n (i := 70) rfl 0 rfl ?_
    refine s_getR (i := 71) rfl xf_9_78.r rfl (fun v2 => ?_)
    refine s_bipush (i := 72) rfl (v := (7 : Int32)) (by decide) ?_
    refine s_iload_n (i := 73) rfl 1 rfl ?_
    refine s_iconst (i := 74) rfl (v := (1 : Int32)) (by decide) ?_
    refine s_iadd (i := 75) rfl ?_
    refine s_imul (i := 76) rfl ?_
    refine s_iload (i := 77) rfl 3 rfl ?_
    refine s_iadd (i := 78) rfl ?_
    refine s_iaload (i := 79) rfl (fun v3 => ?_)
    refine s_iastore (i := 80) rfl (fun h4 => ?_)
    refine s_inc (i := 81) rfl 3 rfl (c9 := (1 : Int32)) (by decide) (Nat.le_of_ble_eq_true rfl) (fun v5 => ?_)
    refine s_ls (ls2 := [(6, tI v5), (0, tA l0), (1, tI l1), (2, tI l2)]) rfl ?_
    refine s_goto (i := 82) rfl (tgt := 90) (by decide) ?_
    exact s_sub [1, 2, 3, 0] rfl (hk_90 h4 l0 l1 l2 v5)
  · exact s_sub [] rfl (b_X9_takes_128 X h)
theorem b_X9_takes_90 (X : XX) : ∀ (n : Nat) (h : XM) (l0 : Option Nat) (l1 : Int32) (l2 : Int32) (l6 : Int32), SW X I_X9_takes ρv 90 [(0, tA l0), (1, tI l1), (2, tI l2), (6, tI l6)] [] h 0 0 (f_X9_takes_90 n h l0 l1 l2 l6) := by
  intro n
  induction n with
  | zero =>
    intro h l0 l1 l2 l6
    exact s_none
  | succ n ih =>
    intro h l0 l1 l2 l6
    exact bb_X9_takes_90 X (f_X9_takes_90 n) ih h l0 l1 l2 l6
theorem bb_X9_takes_33 (X : XX) (k_33 : XM → Option Nat → Int32 → Int32 → Int32 → Int32 → Option (XM)) (hk_33 : ∀ h l0 l1 l2 l4 l6, SW X I_X9_takes ρv 33 [(0, tA l0), (1, tI l1), (2, tI l2), (4, tI l4), (6, tI l6)] [] h 0 0 (k_33 h l0 l1 l2 l4 l6)) (h : XM) (l0 : Option Nat) (l1 : Int32) (l2 : Int32) (l4 : Int32) (l6 : Int32) : SW X I_X9_takes ρv 33 [(0, tA l0), (1, tI l1), (2, tI l2), (4, tI l4), (6, tI l6)] [] h 0 0 (fb_X9_takes_33 k_33 h l0 l1 l2 l4 l6) := by
  unfold fb_X9_takes_33
  refine s_iload (i := 23) rfl 4 rfl ?_
  refine s_aload_n (i := 24) rfl 0 rfl ?_
  refine s_getI (i := 25) rfl xf_9_97.r rfl (fun v6 => ?_)
  refine s_icmpge (i := 26) rfl (tgt := 72) (by decide) (fun z39 => ?_) (fun z39 => ?_)
  · refine s_aload_n (i := 27) rfl 0 rfl ?_
    refine s_getR (i := 28) rfl xf_9_81.r rfl (fun v7 => ?_)
    refine s_iconst (i := 29) rfl (v := (4 : Int32)) (by decide) ?_
    refine s_iload_n (i := 30) rfl 1 rfl ?_
    refine s_imul (i := 31) rfl ?_
    refine s_iload (i := 32) rfl 4 rfl ?_
    refine s_iadd (i := 33) rfl ?_
    refine s_aload_n (i := 34) rfl 0 rfl ?_
    refine s_getR (i := 35) rfl xf_9_75.r rfl (fun v8 => ?_)
    refine s_iconst (i := 36) rfl (v := (4 : Int32)) (by decide) ?_
    refine s_iload_n (i := 37) rfl 1 rfl ?_
    refine s_iconst (i := 38) rfl (v := (1 : Int32)) (by decide) ?_
    refine s_iadd (i := 39) rfl ?_
    refine s_imul (i := 40) rfl ?_
    refine s_iload (i := 41) rfl 4 rfl ?_
    refine s_iadd (i := 42) rfl ?_
    refine s_iaload (i := 43) rfl (fun v9 => ?_)
    refine s_iastore (i := 44) rfl (fun h10 => ?_)
    refine s_inc (i := 45) rfl 4 rfl (c9 := (1 : Int32)) (by decide) (Nat.le_of_ble_eq_true rfl) (fun v11 => ?_)
    refine s_ls (ls2 := [(6, tI v11), (0, tA l0), (1, tI l1), (2, tI l2), (4, tI l4)]) rfl ?_
    refine s_goto (i := 46) rfl (tgt := 33) (by decide) ?_
    exact s_sub [1, 2, 3, 4, 0] rfl (hk_33 h10 l0 l1 l2 l4 v11)
  · refine s_aload_n (i := 47) rfl 0 rfl ?_
    refine s_getR (i := 48) rfl xf_9_84.r rfl (fun v12 => ?_)
    refine s_bipush (i := 49) rfl (v := (7 : Int32)) (by decide) ?_
    refine s_iload_n (i := 50) rfl 1 rfl ?_
    refine s_imul (i := 51) rfl ?_
    refine s_iload_n (i := 52) rfl 1 rfl ?_
    refine s_iadd (i := 53) rfl ?_
    refine s_iload (i := 54) rfl 3 rfl ?_
    refine s_iastore (i := 55) rfl (fun h13 => ?_)
    refine s_iload_n (i := 56) rfl 1 rfl ?_
    refine s_iconst (i := 57) rfl (v := (1 : Int32)) (by decide) ?_
    refine s_iadd (i := 58) rfl ?_
    refine s_bnd (fun v14 => ?_)
    refine s_istore (i := 59) rfl (Nat.le_of_ble_eq_true rfl) (ls2 := [(6, tI v14), (0, tA l0), (1, tI l1), (2, tI l2), (4, tI l4)]) rfl ?_
    exact s_sub [1, 2, 3, 0] rfl (b_X9_takes_90 X FU h13 l0 l1 l2 v14)
theorem b_X9_takes_33 (X : XX) : ∀ (n : Nat) (h : XM) (l0 : Option Nat) (l1 : Int32) (l2 : Int32) (l4 : Int32) (l6 : Int32), SW X I_X9_takes ρv 33 [(0, tA l0), (1, tI l1), (2, tI l2), (4, tI l4), (6, tI l6)] [] h 0 0 (f_X9_takes_33 n h l0 l1 l2 l4 l6) := by
  intro n
  induction n with
  | zero =>
    intro h l0 l1 l2 l4 l6
    exact s_none
  | succ n ih =>
    intro h l0 l1 l2 l4 l6
    exact bb_X9_takes_33 X (f_X9_takes_33 n) ih h l0 l1 l2 l4 l6
theorem b_X9_takes_30 (X : XX) (h : XM) (l0 : Option Nat) (l1 : Int32) (l2 : Int32) (l4 : Int32) : SW X I_X9_takes ρv 30 [(0, tA l0), (1, tI l1), (2, tI l2), (4, tI l4)] [] h 0 0 (f_X9_takes_30 h l0 l1 l2 l4) := by
  unfold f_X9_takes_30
  refine s_iconst (i := 21) rfl (v := (0 : Int32)) (by decide) ?_
  refine s_istore (i := 22) rfl (Nat.le_of_ble_eq_true rfl) (ls2 := [(6, tI ((0 : Int32))), (0, tA l0), (1, tI l1), (2, tI l2), (4, tI l4)]) rfl ?_
  exact s_sub [1, 2, 3, 4, 0] rfl (b_X9_takes_33 X FU h l0 l1 l2 l4 ((0 : Int32)))
theorem c_X9_takes (h : XM) (a0 : Option Nat) (a1 : Int32) (a2 : Int32) (a3 : Int32) (a4 : Int32) (a5 : Int32) : MC I_X9_takes y_X9_takes [tA a0, tI a1, tI a2, tI a3, tI a4, tI a5] h ρv (f_X9_takes h a0 a1 a2 a3 a4 a5) := by
  refine MC_of ⟨by decide +kernel, rfl, rfl, Nat.le_of_ble_eq_true rfl⟩ dT_X9_takes (fun X => ?_)
  show SW X I_X9_takes ρv 0 [(0, tA a0), (1, tI a1), (2, tI a2), (3, tI a3), (4, tI a4), (5, tI a5)] [] h 0 0 (f_X9_takes h a0 a1 a2 a3 a4 a5)
  unfold f_X9_takes
  refine s_iload (i := 0) rfl 5 rfl ?_
  refine s_ifne (i := 1) rfl (tgt := 30) (by decide) (fun z2 => ?_) (fun z2 => ?_)
  · refine s_aload_n (i := 2) rfl 0 rfl ?_
    refine s_getR (i := 3) rfl xf_9_75.r rfl (fun v15 => ?_)
    refine s_iconst (i := 4) rfl (v := (4 : Int32)) (by decide) ?_
    refine s_iload_n (i := 5) rfl 1 rfl ?_
    refine s_iconst (i := 6) rfl (v := (1 : Int32)) (by decide) ?_
    refine s_iadd (i := 7) rfl ?_
    refine s_imul (i := 8) rfl ?_
    refine s_iload_n (i := 9) rfl 3 rfl ?_
    refine s_iadd (i := 10) rfl ?_
    refine s_iaload (i := 11) rfl (fun v16 => ?_)
    refine s_aload_n (i := 12) rfl 0 rfl ?_
    refine s_getR (i := 13) rfl xf_9_81.r rfl (fun v17 => ?_)
    refine s_iconst (i := 14) rfl (v := (4 : Int32)) (by decide) ?_
    refine s_iload_n (i := 15) rfl 1 rfl ?_
    refine s_imul (i := 16) rfl ?_
    refine s_iload_n (i := 17) rfl 3 rfl ?_
    refine s_iadd (i := 18) rfl ?_
    refine s_iaload (i := 19) rfl (fun v18 => ?_)
    refine s_icmple (i := 20) rfl (tgt := 128) (by decide) (fun z27 => ?_) (fun z27 => ?_)
    · exact s_sub [0, 1, 2, 4] rfl (b_X9_takes_30 X h a0 a1 a2 a4)
    · exact s_sub [] rfl (b_X9_takes_128 X h)
  · exact s_sub [0, 1, 2, 4] rfl (b_X9_takes_30 X h a0 a1 a2 a4)
def y_X9_turns : MethodName := ⟨"OpensAtNineModel", "turns", "(II)V"⟩
def T_X9_turns_0 : List (Nat × Instr × Nat × Nat) := [(0, .iload_n 1, 1, 1), (1, .iload_n 2, 1, 2), (2, .if_icmp .ne 9, 3, 5), (5, .aload_n 0, 1, 6), (6, .iload_n 1, 1, 7), (7, .invokevirtual 290, 3, 10), (10, .return_, 1, 11), (11, .iload_n 1, 1, 12), (12, .aload_n 0, 1, 13), (13, .getfield 97, 3, 16), (16, .irem, 1, 17), (17, .istore_n 3, 1, 18), (18, .aload_n 0, 1, 19), (19, .iload_n 1, 1, 20), (20, .invokevirtual 260, 3, 23), (23, .aload_n 0, 1, 24), (24, .aload_n 0, 1, 25), (25, .getfield 116, 3, 28), (28, .iconst 1, 1, 29), (29, .iadd, 1, 30), (30, .iconst 0, 1, 31), (31, .bipush 99, 2, 33), (33, .invokestatic 217, 3, 36), (36, .putfield 116, 3, 39), (39, .aload_n 0, 1, 40), (40, .iload_n 1, 1, 41), (41, .iconst 1, 1, 42), (42, .iadd, 1, 43), (43, .iload_n 2, 1, 44), (44, .invokevirtual 293, 3, 47), (47, .aload_n 0, 1, 48), (48, .iload_n 1, 1, 49), (49, .invokevirtual 267, 3, 52), (52, .aload_n 0, 1, 53), (53, .iload_n 1, 1, 54), (54, .iload_n 2, 1, 55), (55, .iload_n 3, 1, 56), (56, .iconst 0, 1, 57), (57, .iconst 1, 1, 58), (58, .invokevirtual 296, 3, 61)]
def T_X9_turns_1 : List (Nat × Instr × Nat × Nat) := [(61, .iconst 0, 1, 62), (62, .istore 4, 2, 64), (64, .iload 4, 2, 66), (66, .aload_n 0, 1, 67), (67, .getfield 104, 3, 70), (70, .if_icmp .ge 91, 3, 73), (73, .aload_n 0, 1, 74), (74, .getfield 13, 3, 77), (77, .iload 4, 2, 79), (79, .iaload, 1, 80), (80, .iload_n 3, 1, 81), (81, .if_icmp .ne 74, 3, 84), (84, .aload_n 0, 1, 85), (85, .iload 4, 2, 87), (87, .invokevirtual 241, 3, 90), (90, .ifCond .eq 65, 3, 93), (93, .aload_n 0, 1, 94), (94, .iload 4, 2, 96), (96, .invokevirtual 244, 3, 99), (99, .pop, 1, 100), (100, .aload_n 0, 1, 101), (101, .getfield 87, 3, 104), (104, .iload_n 3, 1, 105), (105, .dup2, 1, 106), (106, .iaload, 1, 107), (107, .aload_n 0, 1, 108), (108, .iload 4, 2, 110), (110, .invokevirtual 232, 3, 113), (113, .iadd, 1, 114), (114, .iastore, 1, 115), (115, .aload_n 0, 1, 116), (116, .iload_n 1, 1, 117), (117, .iconst 1, 1, 118), (118, .iadd, 1, 119), (119, .iload_n 2, 1, 120), (120, .invokevirtual 293, 3, 123), (123, .aload_n 0, 1, 124), (124, .getfield 87, 3, 127), (127, .iload_n 3, 1, 128), (128, .dup2, 1, 129)]
def T_X9_turns_2 : List (Nat × Instr × Nat × Nat) := [(129, .iaload, 1, 130), (130, .aload_n 0, 1, 131), (131, .iload 4, 2, 133), (133, .invokevirtual 232, 3, 136), (136, .isub, 1, 137), (137, .iastore, 1, 138), (138, .aload_n 0, 1, 139), (139, .iload_n 1, 1, 140), (140, .invokevirtual 267, 3, 143), (143, .aload_n 0, 1, 144), (144, .iload_n 1, 1, 145), (145, .iload_n 2, 1, 146), (146, .iload_n 3, 1, 147), (147, .iload 4, 2, 149), (149, .iconst 1, 1, 150), (150, .iadd, 1, 151), (151, .iconst 0, 1, 152), (152, .invokevirtual 296, 3, 155), (155, .iinc 4 1, 3, 158), (158, .goto (-94), 3, 161), (161, .iconst 0, 1, 162), (162, .istore 4, 2, 164), (164, .iload 4, 2, 166), (166, .aload_n 0, 1, 167), (167, .getfield 97, 3, 170), (170, .if_icmp .ge 31, 3, 173), (173, .aload_n 0, 1, 174), (174, .getfield 75, 3, 177), (177, .iconst 4, 1, 178), (178, .iload_n 1, 1, 179), (179, .imul, 1, 180), (180, .iload 4, 2, 182), (182, .iadd, 1, 183), (183, .aload_n 0, 1, 184), (184, .getfield 81, 3, 187), (187, .iconst 4, 1, 188), (188, .iload_n 1, 1, 189), (189, .imul, 1, 190), (190, .iload 4, 2, 192), (192, .iadd, 1, 193)]
def T_X9_turns_3 : List (Nat × Instr × Nat × Nat) := [(193, .iaload, 1, 194), (194, .iastore, 1, 195), (195, .iinc 4 1, 3, 198), (198, .goto (-34), 3, 201), (201, .iload_n 1, 1, 202), (202, .istore 4, 2, 204), (204, .iload 4, 2, 206), (206, .iload_n 2, 1, 207), (207, .if_icmp .ge 33, 3, 210), (210, .aload_n 0, 1, 211), (211, .getfield 78, 3, 214), (214, .bipush 7, 2, 216), (216, .iload_n 1, 1, 217), (217, .imul, 1, 218), (218, .iload 4, 2, 220), (220, .iadd, 1, 221), (221, .aload_n 0, 1, 222), (222, .getfield 84, 3, 225), (225, .bipush 7, 2, 227), (227, .iload_n 1, 1, 228), (228, .imul, 1, 229), (229, .iload 4, 2, 231), (231, .iadd, 1, 232), (232, .iaload, 1, 233), (233, .iastore, 1, 234), (234, .iinc 4 1, 3, 237), (237, .goto (-33), 3, 240), (240, .return_, 1, 241)]
def T_X9_turns : List (Nat × Instr × Nat × Nat) := [(0, .iload_n 1, 1, 1), (1, .iload_n 2, 1, 2), (2, .if_icmp .ne 9, 3, 5), (5, .aload_n 0, 1, 6), (6, .iload_n 1, 1, 7), (7, .invokevirtual 290, 3, 10), (10, .return_, 1, 11), (11, .iload_n 1, 1, 12), (12, .aload_n 0, 1, 13), (13, .getfield 97, 3, 16), (16, .irem, 1, 17), (17, .istore_n 3, 1, 18), (18, .aload_n 0, 1, 19), (19, .iload_n 1, 1, 20), (20, .invokevirtual 260, 3, 23), (23, .aload_n 0, 1, 24), (24, .aload_n 0, 1, 25), (25, .getfield 116, 3, 28), (28, .iconst 1, 1, 29), (29, .iadd, 1, 30), (30, .iconst 0, 1, 31), (31, .bipush 99, 2, 33), (33, .invokestatic 217, 3, 36), (36, .putfield 116, 3, 39), (39, .aload_n 0, 1, 40), (40, .iload_n 1, 1, 41), (41, .iconst 1, 1, 42), (42, .iadd, 1, 43), (43, .iload_n 2, 1, 44), (44, .invokevirtual 293, 3, 47), (47, .aload_n 0, 1, 48), (48, .iload_n 1, 1, 49), (49, .invokevirtual 267, 3, 52), (52, .aload_n 0, 1, 53), (53, .iload_n 1, 1, 54), (54, .iload_n 2, 1, 55), (55, .iload_n 3, 1, 56), (56, .iconst 0, 1, 57), (57, .iconst 1, 1, 58), (58, .invokevirtual 296, 3, 61), (61, .iconst 0, 1, 62), (62, .istore 4, 2, 64), (64, .iload 4, 2, 66), (66, .aload_n 0, 1, 67), (67, .getfield 104, 3, 70), (70, .if_icmp .ge 91, 3, 73), (73, .aload_n 0, 1, 74), (74, .getfield 13, 3, 77), (77, .iload 4, 2, 79), (79, .iaload, 1, 80), (80, .iload_n 3, 1, 81), (81, .if_icmp .ne 74, 3, 84), (84, .aload_n 0, 1, 85), (85, .iload 4, 2, 87), (87, .invokevirtual 241, 3, 90), (90, .ifCond .eq 65, 3, 93), (93, .aload_n 0, 1, 94), (94, .iload 4, 2, 96), (96, .invokevirtual 244, 3, 99), (99, .pop, 1, 100), (100, .aload_n 0, 1, 101), (101, .getfield 87, 3, 104), (104, .iload_n 3, 1, 105), (105, .dup2, 1, 106), (106, .iaload, 1, 107), (107, .aload_n 0, 1, 108), (108, .iload 4, 2, 110), (110, .invokevirtual 232, 3, 113), (113, .iadd, 1, 114), (114, .iastore, 1, 115), (115, .aload_n 0, 1, 116), (116, .iload_n 1, 1, 117), (117, .iconst 1, 1, 118), (118, .iadd, 1, 119), (119, .iload_n 2, 1, 120), (120, .invokevirtual 293, 3, 123), (123, .aload_n 0, 1, 124), (124, .getfield 87, 3, 127), (127, .iload_n 3, 1, 128), (128, .dup2, 1, 129), (129, .iaload, 1, 130), (130, .aload_n 0, 1, 131), (131, .iload 4, 2, 133), (133, .invokevirtual 232, 3, 136), (136, .isub, 1, 137), (137, .iastore, 1, 138), (138, .aload_n 0, 1, 139), (139, .iload_n 1, 1, 140), (140, .invokevirtual 267, 3, 143), (143, .aload_n 0, 1, 144), (144, .iload_n 1, 1, 145), (145, .iload_n 2, 1, 146), (146, .iload_n 3, 1, 147), (147, .iload 4, 2, 149), (149, .iconst 1, 1, 150), (150, .iadd, 1, 151), (151, .iconst 0, 1, 152), (152, .invokevirtual 296, 3, 155), (155, .iinc 4 1, 3, 158), (158, .goto (-94), 3, 161), (161, .iconst 0, 1, 162), (162, .istore 4, 2, 164), (164, .iload 4, 2, 166), (166, .aload_n 0, 1, 167), (167, .getfield 97, 3, 170), (170, .if_icmp .ge 31, 3, 173), (173, .aload_n 0, 1, 174), (174, .getfield 75, 3, 177), (177, .iconst 4, 1, 178), (178, .iload_n 1, 1, 179), (179, .imul, 1, 180), (180, .iload 4, 2, 182), (182, .iadd, 1, 183), (183, .aload_n 0, 1, 184), (184, .getfield 81, 3, 187), (187, .iconst 4, 1, 188), (188, .iload_n 1, 1, 189), (189, .imul, 1, 190), (190, .iload 4, 2, 192), (192, .iadd, 1, 193), (193, .iaload, 1, 194), (194, .iastore, 1, 195), (195, .iinc 4 1, 3, 198), (198, .goto (-34), 3, 201), (201, .iload_n 1, 1, 202), (202, .istore 4, 2, 204), (204, .iload 4, 2, 206), (206, .iload_n 2, 1, 207), (207, .if_icmp .ge 33, 3, 210), (210, .aload_n 0, 1, 211), (211, .getfield 78, 3, 214), (214, .bipush 7, 2, 216), (216, .iload_n 1, 1, 217), (217, .imul, 1, 218), (218, .iload 4, 2, 220), (220, .iadd, 1, 221), (221, .aload_n 0, 1, 222), (222, .getfield 84, 3, 225), (225, .bipush 7, 2, 227), (227, .iload_n 1, 1, 228), (228, .imul, 1, 229), (229, .iload 4, 2, 231), (231, .iadd, 1, 232), (232, .iaload, 1, 233), (233, .iastore, 1, 234), (234, .iinc 4 1, 3, 237), (237, .goto (-33), 3, 240), (240, .return_, 1, 241)]
def I_X9_turns (d : Nat) : MI := (prog_11_method_59_code, 5, none, "OpensAtNineModel", "turns", T_X9_turns, 0, 0, 7 + d, 207 + d * 24)
theorem dT_X9_turns_0 : ∀ q ∈ T_X9_turns_0, decode prog_11_method_59_code q.1 = .ok (q.2.1, q.2.2.1) ∧ q.2.2.2 = q.1 + q.2.2.1 := by decide +kernel
theorem dT_X9_turns_1 : ∀ q ∈ T_X9_turns_1, decode prog_11_method_59_code q.1 = .ok (q.2.1, q.2.2.1) ∧ q.2.2.2 = q.1 + q.2.2.1 := by decide +kernel
theorem dT_X9_turns_2 : ∀ q ∈ T_X9_turns_2, decode prog_11_method_59_code q.1 = .ok (q.2.1, q.2.2.1) ∧ q.2.2.2 = q.1 + q.2.2.1 := by decide +kernel
theorem dT_X9_turns_3 : ∀ q ∈ T_X9_turns_3, decode prog_11_method_59_code q.1 = .ok (q.2.1, q.2.2.1) ∧ q.2.2.2 = q.1 + q.2.2.1 := by decide +kernel
set_option maxRecDepth 20000 in
theorem dT_X9_turns : ∀ q ∈ T_X9_turns, decode prog_11_method_59_code q.1 = .ok (q.2.1, q.2.2.1) ∧ q.2.2.2 = q.1 + q.2.2.1 := by
  show ∀ q ∈ (T_X9_turns_0 ++ (T_X9_turns_1 ++ (T_X9_turns_2 ++ (T_X9_turns_3)))), decode prog_11_method_59_code q.1 = .ok (q.2.1, q.2.2.1) ∧ q.2.2.2 = q.1 + q.2.2.1
  exact List.forall_mem_append.mpr ⟨dT_X9_turns_0, List.forall_mem_append.mpr ⟨dT_X9_turns_1, List.forall_mem_append.mpr ⟨dT_X9_turns_2, dT_X9_turns_3⟩⟩⟩
theorem xm_X9_turns (d : Nat) : xCM y_X9_turns (I_X9_turns d) 9 2 := ⟨⟨tw1343, tw61⟩, tw84, tw1344, ⟨xT9, 49, rfl⟩, ⟨by decide +kernel, by decide +kernel, by decide +kernel⟩⟩
noncomputable def f_X9_turns_155 (r_X9_turns : XM → Option Nat → Int32 → Int32 → Option (XM)) (k_64 : XM → Option Nat → Int32 → Int32 → Int32 → Int32 → Option (XM)) (h : XM) (l0 : Option Nat) (l1 : Int32) (l2 : Int32) (l3 : Int32) (l4 : Int32) : Option (XM) := bnd (l4 + (1 : Int32)) fun v1 => k_64 h l0 l1 l2 l3 v1
noncomputable def fb_X9_turns_204 (r_X9_turns : XM → Option Nat → Int32 → Int32 → Option (XM)) (k_204 : XM → Option Nat → Int32 → Int32 → Int32 → Option (XM)) (h : XM) (l0 : Option Nat) (l1 : Int32) (l2 : Int32) (l4 : Int32) : Option (XM) := if l4 < l2 then ((gR h 9 l0 44).bind fun v2 => (gR h 9 l0 46).bind fun v3 => (rI h v3 ((((7 : Int32)) * l1) + l4)).bind fun v4 => (sI h v2 ((((7 : Int32)) * l1) + l4) v4).bind fun h5 => bnd (l4 + (1 : Int32)) fun v6 => k_204 h5 l0 l1 l2 v6) else (some h)
noncomputable def f_X9_turns_204 (r_X9_turns : XM → Option Nat → Int32 → Int32 → Option (XM)) (n : Nat) : XM → Option Nat → Int32 → Int32 → Int32 → Option (XM) := Nat.rec (motive := fun _ => XM → Option Nat → Int32 → Int32 → Int32 → Option (XM)) (fun _ _ _ _ _ => none) (fun _ ih h l0 l1 l2 l4 => fb_X9_turns_204 r_X9_turns ih h l0 l1 l2 l4) n
noncomputable def fb_X9_turns_164 (r_X9_turns : XM → Option Nat → Int32 → Int32 → Option (XM)) (k_164 : XM → Option Nat → Int32 → Int32 → Int32 → Option (XM)) (h : XM) (l0 : Option Nat) (l1 : Int32) (l2 : Int32) (l4 : Int32) : Option (XM) := (gI h 9 l0 3).bind fun v7 => if l4 < v7 then ((gR h 9 l0 43).bind fun v8 => (gR h 9 l0 45).bind fun v9 => (rI h v9 ((((4 : Int32)) * l1) + l4)).bind fun v10 => (sI h v8 ((((4 : Int32)) * l1) + l4) v10).bind fun h11 => bnd (l4 + (1 : Int32)) fun v12 => k_164 h11 l0 l1 l2 v12) else (f_X9_turns_204 r_X9_turns FU h l0 l1 l2 l1)
noncomputable def f_X9_turns_164 (r_X9_turns : XM → Option Nat → Int32 → Int32 → Option (XM)) (n : Nat) : XM → Option Nat → Int32 → Int32 → Int32 → Option (XM) := Nat.rec (motive := fun _ => XM → Option Nat → Int32 → Int32 → Int32 → Option (XM)) (fun _ _ _ _ _ => none) (fun _ ih h l0 l1 l2 l4 => fb_X9_turns_164 r_X9_turns ih h l0 l1 l2 l4) n
noncomputable def fb_X9_turns_64 (r_X9_turns : XM → Option Nat → Int32 → Int32 → Option (XM)) (k_64 : XM → Option Nat → Int32 → Int32 → Int32 → Int32 → Option (XM)) (h : XM) (l0 : Option Nat) (l1 : Int32) (l2 : Int32) (l3 : Int32) (l4 : Int32) : Option (XM) := (gI h 9 l0 5).bind fun v13 => if l4 < v13 then ((gR h 9 l0 6).bind fun v14 => (rI h v14 l4).bind fun v15 => if v15 = l3 then ((vc h 9 l0 (f_X9_canPut h l0 l4)).bind fun q16 => if q16.1 = 0 then (f_X9_turns_155 r_X9_turns k_64 q16.2 l0 l1 l2 l3 l4) else ((vc q16.2 9 l0 (f_X9_paysIn q16.2 l0 l4)).bind fun q17 => (gR q17.2 9 l0 47).bind fun v18 => (rI q17.2 v18 l3).bind fun v19 => (vc q17.2 9 l0 (f_X9_costsOf q17.2 l0 l4)).bind fun q20 => (sI q20.2 v18 l3 (v19 + q20.1)).bind fun h21 => (vc h21 9 l0 (r_X9_turns h21 l0 (l1 + ((1 : Int32))) l2)).bind fun q22 => (gR q22 9 l0 47).bind fun v23 => (rI q22 v23 l3).bind fun v24 => (vc q22 9 l0 (f_X9_costsOf q22 l0 l4)).bind fun q25 => (sI q25.2 v23 l3 (v24 - q25.1)).bind fun h26 => (vc h26 9 l0 (f_X9_laysBack h26 l0 l1)).bind fun q27 => (vc q27 9 l0 (f_X9_takes q27 l0 l1 l2 l3 (l4 + ((1 : Int32))) ((0 : Int32)))).bind fun q28 => f_X9_turns_155 r_X9_turns k_64 q28 l0 l1 l2 l3 l4)) else (f_X9_turns_155 r_X9_turns k_64 h l0 l1 l2 l3 l4)) else (f_X9_turns_164 r_X9_turns FU h l0 l1 l2 ((0 : Int32)))
noncomputable def f_X9_turns_64 (r_X9_turns : XM → Option Nat → Int32 → Int32 → Option (XM)) (n : Nat) : XM → Option Nat → Int32 → Int32 → Int32 → Int32 → Option (XM) := Nat.rec (motive := fun _ => XM → Option Nat → Int32 → Int32 → Int32 → Int32 → Option (XM)) (fun _ _ _ _ _ _ => none) (fun _ ih h l0 l1 l2 l3 l4 => fb_X9_turns_64 r_X9_turns ih h l0 l1 l2 l3 l4) n
noncomputable def fe_X9_turns (r_X9_turns : XM → Option Nat → Int32 → Int32 → Option (XM)) (h : XM) (a0 : Option Nat) (a1 : Int32) (a2 : Int32) : Option (XM) := if a1 = a2 then ((vc h 9 a0 (f_X9_endsNow h a0 a1)).bind fun q29 => some q29) else ((gI h 9 a0 3).bind fun v30 => (irem a1 v30).bind fun v31 => (vc h 9 a0 (f_X9_keeps h a0 a1)).bind fun q32 => (gI q32 9 a0 2).bind fun v33 => (f_X9_within q32 (v33 + ((1 : Int32))) ((0 : Int32)) ((99 : Int32))).bind fun q34 => (pI q34.2 9 a0 2 q34.1).bind fun h35 => (vc h35 9 a0 (r_X9_turns h35 a0 (a1 + ((1 : Int32))) a2)).bind fun q36 => (vc q36 9 a0 (f_X9_laysBack q36 a0 a1)).bind fun q37 => (vc q37 9 a0 (f_X9_takes q37 a0 a1 a2 v31 ((0 : Int32)) ((1 : Int32)))).bind fun q38 => f_X9_turns_64 r_X9_turns FU q38 a0 a1 a2 v31 ((0 : Int32)))
noncomputable def g_X9_turns (d : Nat) : (XM → Option Nat → Int32 → Int32 → Option (XM)) := Nat.rec (motive := fun _ => (XM → Option Nat → Int32 → Int32 → Option (XM))) ((fun _ _ _ _ => none)) (fun _ g => ((fun h a0 a1 a2 => fe_X9_turns g h a0 a1 a2))) d
noncomputable def f_X9_turns (d : Nat) : XM → Option Nat → Int32 → Int32 → Option (XM) := (g_X9_turns d)
theorem b_X9_turns_155 (X : XX) (d : Nat) (r_X9_turns : XM → Option Nat → Int32 → Int32 → Option (XM)) (hr_X9_turns : ∀ h a0 a1 a2, MC (I_X9_turns d) y_X9_turns [tA a0, tI a1, tI a2] h ρv (r_X9_turns h a0 a1 a2)) (k_64 : XM → Option Nat → Int32 → Int32 → Int32 → Int32 → Option (XM)) (hk_64 : ∀ h l0 l1 l2 l3 l4, SW X (I_X9_turns (d + 1)) ρv 64 [(0, tA l0), (1, tI l1), (2, tI l2), (3, tI l3), (4, tI l4)] [] h 0 0 (k_64 h l0 l1 l2 l3 l4)) (h : XM) (l0 : Option Nat) (l1 : Int32) (l2 : Int32) (l3 : Int32) (l4 : Int32) : SW X (I_X9_turns (d + 1)) ρv 155 [(0, tA l0), (1, tI l1), (2, tI l2), (3, tI l3), (4, tI l4)] [] h 0 0 (f_X9_turns_155 r_X9_turns k_64 h l0 l1 l2 l3 l4) := by
  unfold f_X9_turns_155
  refine s_inc (i := 98) rfl 4 rfl (c9 := (1 : Int32)) (by decide) (Nat.le_of_ble_eq_true rfl) (fun v1 => ?_)
  refine s_ls (ls2 := [(4, tI v1), (0, tA l0), (1, tI l1), (2, tI l2), (3, tI l3)]) rfl ?_
  refine s_goto (i := 99) rfl (tgt := 64) (by decide) ?_
  exact s_sub [1, 2, 3, 4, 0] rfl (hk_64 h l0 l1 l2 l3 v1)
theorem bb_X9_turns_204 (X : XX) (d : Nat) (r_X9_turns : XM → Option Nat → Int32 → Int32 → Option (XM)) (hr_X9_turns : ∀ h a0 a1 a2, MC (I_X9_turns d) y_X9_turns [tA a0, tI a1, tI a2] h ρv (r_X9_turns h a0 a1 a2)) (k_204 : XM → Option Nat → Int32 → Int32 → Int32 → Option (XM)) (hk_204 : ∀ h l0 l1 l2 l4, SW X (I_X9_turns (d + 1)) ρv 204 [(0, tA l0), (1, tI l1), (2, tI l2), (4, tI l4)] [] h 0 0 (k_204 h l0 l1 l2 l4)) (h : XM) (l0 : Option Nat) (l1 : Int32) (l2 : Int32) (l4 : Int32) : SW X (I_X9_turns (d + 1)) ρv 204 [(0, tA l0), (1, tI l1), (2, tI l2), (4, tI l4)] [] h 0 0 (fb_X9_turns_204 r_X9_turns k_204 h l0 l1 l2 l4) := by
  unfold fb_X9_turns_204
  refine s_iload (i := 126) rfl 3 rfl ?_
  refine s_iload_n (i := 127) rfl 2 rfl ?_
  refine s_icmpge (i := 128) rfl (tgt := 240) (by decide) (fun z207 => ?_) (fun z207 => ?_)
  · refine s_aload_n (i := 129) rfl 0 rfl ?_
    refine s_getR (i := 130) rfl xf_9_78.r rfl (fun v2 => ?_)
    refine s_bipush (i := 131) rfl (v := (7 : Int32)) (by decide) ?_
    refine s_iload_n (i := 132) rfl 1 rfl ?_
    refine s_imul (i := 133) rfl ?_
    refine s_iload (i := 134) rfl 3 rfl ?_
    refine s_iadd (i := 135) rfl ?_
    refine s_aload_n (i := 136) rfl 0 rfl ?_
    refine s_getR (i := 137) rfl xf_9_84.r rfl (fun v3 => ?_)
    refine s_bipush (i := 138) rfl (v := (7 : Int32)) (by decide) ?_
    refine s_iload_n (i := 139) rfl 1 rfl ?_
    refine s_imul (i := 140) rfl ?_
    refine s_iload (i := 141) rfl 3 rfl ?_
    refine s_iadd (i := 142) rfl ?_
    refine s_iaload (i := 143) rfl (fun v4 => ?_)
    refine s_iastore (i := 144) rfl (fun h5 => ?_)
    refine s_inc (i := 145) rfl 3 rfl (c9 := (1 : Int32)) (by decide) (Nat.le_of_ble_eq_true rfl) (fun v6 => ?_)
    refine s_ls (ls2 := [(4, tI v6), (0, tA l0), (1, tI l1), (2, tI l2)]) rfl ?_
    refine s_goto (i := 146) rfl (tgt := 204) (by decide) ?_
    exact s_sub [1, 2, 3, 0] rfl (hk_204 h5 l0 l1 l2 v6)
  · exact s_vret (i := 147) rfl rfl
theorem b_X9_turns_204 (X : XX) (d : Nat) (r_X9_turns : XM → Option Nat → Int32 → Int32 → Option (XM)) (hr_X9_turns : ∀ h a0 a1 a2, MC (I_X9_turns d) y_X9_turns [tA a0, tI a1, tI a2] h ρv (r_X9_turns h a0 a1 a2)) : ∀ (n : Nat) (h : XM) (l0 : Option Nat) (l1 : Int32) (l2 : Int32) (l4 : Int32), SW X (I_X9_turns (d + 1)) ρv 204 [(0, tA l0), (1, tI l1), (2, tI l2), (4, tI l4)] [] h 0 0 (f_X9_turns_204 r_X9_turns n h l0 l1 l2 l4) := by
  intro n
  induction n with
  | zero =>
    intro h l0 l1 l2 l4
    exact s_none
  | succ n ih =>
    intro h l0 l1 l2 l4
    exact bb_X9_turns_204 X d r_X9_turns hr_X9_turns (f_X9_turns_204 r_X9_turns n) ih h l0 l1 l2 l4
theorem bb_X9_turns_164 (X : XX) (d : Nat) (r_X9_turns : XM → Option Nat → Int32 → Int32 → Option (XM)) (hr_X9_turns : ∀ h a0 a1 a2, MC (I_X9_turns d) y_X9_turns [tA a0, tI a1, tI a2] h ρv (r_X9_turns h a0 a1 a2)) (k_164 : XM → Option Nat → Int32 → Int32 → Int32 → Option (XM)) (hk_164 : ∀ h l0 l1 l2 l4, SW X (I_X9_turns (d + 1)) ρv 164 [(0, tA l0), (1, tI l1), (2, tI l2), (4, tI l4)] [] h 0 0 (k_164 h l0 l1 l2 l4)) (h : XM) (l0 : Option Nat) (l1 : Int32) (l2 : Int32) (l4 : Int32) : SW X (I_X9_turns (d + 1)) ρv 164 [(0, tA l0), (1, tI l1), (2, tI l2), (4, tI l4)] [] h 0 0 (fb_X9_turns_164 r_X9_turns k_164 h l0 l1 l2 l4) := by
  unfold fb_X9_turns_164
  refine s_iload (i := 102) rfl 3 rfl ?_
  refine s_aload_n (i := 103) rfl 0 rfl ?_
  refine s_getI (i := 104) rfl xf_9_97.r rfl (fun v7 => ?_)
  refine s_icmpge (i := 105) rfl (tgt := 201) (by decide) (fun z170 => ?_) (fun z170 => ?_)
  · refine s_aload_n (i := 106) rfl 0 rfl ?_
    refine s_getR (i := 107) rfl xf_9_75.r rfl (fun v8 => ?_)
    refine s_iconst (i := 108) rfl (v := (4 : Int32)) (by decide) ?_
    refine s_iload_n (i := 109) rfl 1 rfl ?_
    refine s_imul (i := 110) rfl ?_
    refine s_iload (i := 111) rfl 3 rfl ?_
    refine s_iadd (i := 112) rfl ?_
    refine s_aload_n (i := 113) rfl 0 rfl ?_
    refine s_getR (i := 114) rfl xf_9_81.r rfl (fun v9 => ?_)
    refine s_iconst (i := 115) rfl (v := (4 : Int32)) (by decide) ?_
    refine s_iload_n (i := 116) rfl 1 rfl ?_
    refine s_imul (i := 117) rfl ?_
    refine s_iload (i := 118) rfl 3 rfl ?_
    refine s_iadd (i := 119) rfl ?_
    refine s_iaload (i := 120) rfl (fun v10 => ?_)
    refine s_iastore (i := 121) rfl (fun h11 => ?_)
    refine s_inc (i := 122) rfl 3 rfl (c9 := (1 : Int32)) (by decide) (Nat.le_of_ble_eq_true rfl) (fun v12 => ?_)
    refine s_ls (ls2 := [(4, tI v12), (0, tA l0), (1, tI l1), (2, tI l2)]) rfl ?_
    refine s_goto (i := 123) rfl (tgt := 164) (by decide) ?_
    exact s_sub [1, 2, 3, 0] rfl (hk_164 h11 l0 l1 l2 v12)
  · refine s_iload_n (i := 124) rfl 1 rfl ?_
    refine s_istore (i := 125) rfl (Nat.le_of_ble_eq_true rfl) (ls2 := [(4, tI l1), (0, tA l0), (1, tI l1), (2, tI l2)]) rfl ?_
    exact s_sub [1, 2, 3, 0] rfl (b_X9_turns_204 X d r_X9_turns hr_X9_turns FU h l0 l1 l2 l1)
theorem b_X9_turns_164 (X : XX) (d : Nat) (r_X9_turns : XM → Option Nat → Int32 → Int32 → Option (XM)) (hr_X9_turns : ∀ h a0 a1 a2, MC (I_X9_turns d) y_X9_turns [tA a0, tI a1, tI a2] h ρv (r_X9_turns h a0 a1 a2)) : ∀ (n : Nat) (h : XM) (l0 : Option Nat) (l1 : Int32) (l2 : Int32) (l4 : Int32), SW X (I_X9_turns (d + 1)) ρv 164 [(0, tA l0), (1, tI l1), (2, tI l2), (4, tI l4)] [] h 0 0 (f_X9_turns_164 r_X9_turns n h l0 l1 l2 l4) := by
  intro n
  induction n with
  | zero =>
    intro h l0 l1 l2 l4
    exact s_none
  | succ n ih =>
    intro h l0 l1 l2 l4
    exact bb_X9_turns_164 X d r_X9_turns hr_X9_turns (f_X9_turns_164 r_X9_turns n) ih h l0 l1 l2 l4
theorem bb_X9_turns_64 (X : XX) (d : Nat) (r_X9_turns : XM → Option Nat → Int32 → Int32 → Option (XM)) (hr_X9_turns : ∀ h a0 a1 a2, MC (I_X9_turns d) y_X9_turns [tA a0, tI a1, tI a2] h ρv (r_X9_turns h a0 a1 a2)) (k_64 : XM → Option Nat → Int32 → Int32 → Int32 → Int32 → Option (XM)) (hk_64 : ∀ h l0 l1 l2 l3 l4, SW X (I_X9_turns (d + 1)) ρv 64 [(0, tA l0), (1, tI l1), (2, tI l2), (3, tI l3), (4, tI l4)] [] h 0 0 (k_64 h l0 l1 l2 l3 l4)) (h : XM) (l0 : Option Nat) (l1 : Int32) (l2 : Int32) (l3 : Int32) (l4 : Int32) : SW X (I_X9_turns (d + 1)) ρv 64 [(0, tA l0), (1, tI l1), (2, tI l2), (3, tI l3), (4, tI l4)] [] h 0 0 (fb_X9_turns_64 r_X9_turns k_64 h l0 l1 l2 l3 l4) := by
  unfold fb_X9_turns_64
  refine s_iload (i := 42) rfl 4 rfl ?_
  refine s_aload_n (i := 43) rfl 0 rfl ?_
  refine s_getI (i := 44) rfl xf_9_104.r rfl (fun v13 => ?_)
  refine s_icmpge (i := 45) rfl (tgt := 161) (by decide) (fun z70 => ?_) (fun z70 => ?_)
  · refine s_aload_n (i := 46) rfl 0 rfl ?_
    refine s_getR (i := 47) rfl xf_9_13.r rfl (fun v14 => ?_)
    refine s_iload (i := 48) rfl 4 rfl ?_
    refine s_iaload (i := 49) rfl (fun v15 => ?_)
    refine s_iload_n (i := 50) rfl 3 rfl ?_
    refine s_icmpne (i := 51) rfl (tgt := 155) (by decide) (fun z81 => ?_) (fun z81 => ?_)
    · refine s_aload_n (i := 52) rfl 0 rfl ?_
      refine s_iload (i := 53) rfl 4 rfl ?_
      refine u_callVi (kk := 9) [tI l4] l0 [] rfl (i := 54) rfl (c_X9_canPut h l0 l4) xm_X9_canPut (tw1255) rfl (Nat.le_of_ble_eq_true rfl) (xRm.in (show 2 + 1 ≤ 7 + (d + 1) by omega) (show 8 + (2 + 11) + 81 ≤ 207 + (d + 1) * 24 by omega)) ⟨rfl, rfl⟩ (fun q16 => ?_)
      refine s_ifeq (i := 55) rfl (tgt := 155) (by decide) (fun z90 => ?_) (fun z90 => ?_)
      · exact s_sub [0, 1, 2, 3, 4] rfl (b_X9_turns_155 X d r_X9_turns hr_X9_turns k_64 hk_64 q16.2 l0 l1 l2 l3 l4)
      · refine s_aload_n (i := 56) rfl 0 rfl ?_
        refine s_iload (i := 57) rfl 4 rfl ?_
        refine u_callVi (kk := 9) [tI l4] l0 [] rfl (i := 58) rfl (c_X9_paysIn q16.2 l0 l4) xm_X9_paysIn (tw1263) rfl (Nat.le_of_ble_eq_true rfl) (xRm.in (show 5 + 1 ≤ 7 + (d + 1) by omega) (show 8 + (5 + 11) + 162 ≤ 207 + (d + 1) * 24 by omega)) ⟨rfl, rfl⟩ (fun q17 => ?_)
        refine s_pop (i := 59) rfl rfl ?_
        refine s_aload_n (i := 60) rfl 0 rfl ?_
        refine s_getR (i := 61) rfl xf_9_87.r rfl (fun v18 => ?_)
        refine s_iload_n (i := 62) rfl 3 rfl ?_
        refine s_dup2 (i := 63) rfl rfl rfl ?_
        refine s_iaload (i := 64) rfl (fun v19 => ?_)
        refine s_aload_n (i := 65) rfl 0 rfl ?_
        refine s_iload (i := 66) rfl 4 rfl ?_
        refine u_callVi (kk := 9) [tI l4] l0 [tI v19, tI l3, tA v18] rfl (i := 67) rfl (c_X9_costsOf q17.2 l0 l4) xm_X9_costsOf (tw1247) rfl (Nat.le_of_ble_eq_true rfl) (xRm.in (show 1 + 1 ≤ 7 + (d + 1) by omega) (show 8 + (2 + 11) + 60 ≤ 207 + (d + 1) * 24 by omega)) ⟨rfl, rfl⟩ (fun q20 => ?_)
        refine s_iadd (i := 68) rfl ?_
        refine s_iastore (i := 69) rfl (fun h21 => ?_)
        refine s_aload_n (i := 70) rfl 0 rfl ?_
        refine s_iload_n (i := 71) rfl 1 rfl ?_
        refine s_iconst (i := 72) rfl (v := (1 : Int32)) (by decide) ?_
        refine s_iadd (i := 73) rfl ?_
        refine s_iload_n (i := 74) rfl 2 rfl ?_
        refine u_callVv (kk := 9) [tI (l1 + ((1 : Int32))), tI l2] l0 [] rfl (i := 75) rfl (hr_X9_turns h21 l0 (l1 + ((1 : Int32))) l2) (xm_X9_turns _) (tw1341) rfl (Nat.le_of_ble_eq_true rfl) (xRm.in (show 7 + d + 1 ≤ 7 + (d + 1) by omega) (show 8 + (5 + 11) + (207 + d * 24) ≤ 207 + (d + 1) * 24 by rw [Nat.succ_mul]; omega)) ⟨rfl, rfl⟩ (fun q22 => ?_)
        refine s_aload_n (i := 76) rfl 0 rfl ?_
        refine s_getR (i := 77) rfl xf_9_87.r rfl (fun v23 => ?_)
        refine s_iload_n (i := 78) rfl 3 rfl ?_
        refine s_dup2 (i := 79) rfl rfl rfl ?_
        refine s_iaload (i := 80) rfl (fun v24 => ?_)
        refine s_aload_n (i := 81) rfl 0 rfl ?_
        refine s_iload (i := 82) rfl 4 rfl ?_
        refine u_callVi (kk := 9) [tI l4] l0 [tI v24, tI l3, tA v23] rfl (i := 83) rfl (c_X9_costsOf q22 l0 l4) xm_X9_costsOf (tw1247) rfl (Nat.le_of_ble_eq_true rfl) (xRm.in (show 1 + 1 ≤ 7 + (d + 1) by omega) (show 8 + (2 + 11) + 60 ≤ 207 + (d + 1) * 24 by omega)) ⟨rfl, rfl⟩ (fun q25 => ?_)
        refine s_isub (i := 84) rfl ?_
        refine s_iastore (i := 85) rfl (fun h26 => ?_)
        refine s_aload_n (i := 86) rfl 0 rfl ?_
        refine s_iload_n (i := 87) rfl 1 rfl ?_
        refine u_callVv (kk := 9) [tI l1] l0 [] rfl (i := 88) rfl (c_X9_laysBack h26 l0 l1) xm_X9_laysBack (tw1296) rfl (Nat.le_of_ble_eq_true rfl) (xRm.in (show 1 + 1 ≤ 7 + (d + 1) by omega) (show 8 + (2 + 11) + 60 ≤ 207 + (d + 1) * 24 by omega)) ⟨rfl, rfl⟩ (fun q27 => ?_)
        refine s_aload_n (i := 89) rfl 0 rfl ?_
        refine s_iload_n (i := 90) rfl 1 rfl ?_
        refine s_iload_n (i := 91) rfl 2 rfl ?_
        refine s_iload_n (i := 92) rfl 3 rfl ?_
        refine s_iload (i := 93) rfl 4 rfl ?_
        refine s_iconst (i := 94) rfl (v := (1 : Int32)) (by decide) ?_
        refine s_iadd (i := 95) rfl ?_
        refine s_iconst (i := 96) rfl (v := (0 : Int32)) (by decide) ?_
        refine u_callVv (kk := 9) [tI l1, tI l2, tI l3, tI (l4 + ((1 : Int32))), tI ((0 : Int32))] l0 [] rfl (i := 97) rfl (c_X9_takes q27 l0 l1 l2 l3 (l4 + ((1 : Int32))) ((0 : Int32))) xm_X9_takes (tw1349) rfl (Nat.le_of_ble_eq_true rfl) (xRm.in (show 1 + 1 ≤ 7 + (d + 1) by omega) (show 8 + (7 + 11) + 60 ≤ 207 + (d + 1) * 24 by omega)) ⟨rfl, rfl⟩ (fun q28 => ?_)
        exact s_sub [0, 1, 2, 3, 4] rfl (b_X9_turns_155 X d r_X9_turns hr_X9_turns k_64 hk_64 q28 l0 l1 l2 l3 l4)
    · exact s_sub [0, 1, 2, 3, 4] rfl (b_X9_turns_155 X d r_X9_turns hr_X9_turns k_64 hk_64 h l0 l1 l2 l3 l4)
  · refine s_iconst (i := 100) rfl (v := (0 : Int32)) (by decide) ?_
    refine s_istore (i := 101) rfl (Nat.le_of_ble_eq_true rfl) (ls2 := [(4, tI ((0 : Int32))), (0, tA l0), (1, tI l1), (2, tI l2), (3, tI l3)]) rfl ?_
    exact s_sub [1, 2, 3, 0] rfl (b_X9_turns_164 X d r_X9_turns hr_X9_turns FU h l0 l1 l2 ((0 : Int32)))
theorem b_X9_turns_64 (X : XX) (d : Nat) (r_X9_turns : XM → Option Nat → Int32 → Int32 → Option (XM)) (hr_X9_turns : ∀ h a0 a1 a2, MC (I_X9_turns d) y_X9_turns [tA a0, tI a1, tI a2] h ρv (r_X9_turns h a0 a1 a2)) : ∀ (n : Nat) (h : XM) (l0 : Option Nat) (l1 : Int32) (l2 : Int32) (l3 : Int32) (l4 : Int32), SW X (I_X9_turns (d + 1)) ρv 64 [(0, tA l0), (1, tI l1), (2, tI l2), (3, tI l3), (4, tI l4)] [] h 0 0 (f_X9_turns_64 r_X9_turns n h l0 l1 l2 l3 l4) := by
  intro n
  induction n with
  | zero =>
    intro h l0 l1 l2 l3 l4
    exact s_none
  | succ n ih =>
    intro h l0 l1 l2 l3 l4
    exact bb_X9_turns_64 X d r_X9_turns hr_X9_turns (f_X9_turns_64 r_X9_turns n) ih h l0 l1 l2 l3 l4
theorem ce_X9_turns (d : Nat) (r_X9_turns : XM → Option Nat → Int32 → Int32 → Option (XM)) (hr_X9_turns : ∀ h a0 a1 a2, MC (I_X9_turns d) y_X9_turns [tA a0, tI a1, tI a2] h ρv (r_X9_turns h a0 a1 a2)) (h : XM) (a0 : Option Nat) (a1 : Int32) (a2 : Int32) : MC (I_X9_turns (d + 1)) y_X9_turns [tA a0, tI a1, tI a2] h ρv (fe_X9_turns r_X9_turns h a0 a1 a2) := by
  refine MC_of ⟨by decide +kernel, rfl, rfl, Nat.le_of_ble_eq_true rfl⟩ dT_X9_turns (fun X => ?_)
  show SW X (I_X9_turns (d + 1)) ρv 0 [(0, tA a0), (1, tI a1), (2, tI a2)] [] h 0 0 (fe_X9_turns r_X9_turns h a0 a1 a2)
  unfold fe_X9_turns
  refine s_iload_n (i := 0) rfl 1 rfl ?_
  refine s_iload_n (i := 1) rfl 2 rfl ?_
  refine s_icmpne (i := 2) rfl (tgt := 11) (by decide) (fun z2 => ?_) (fun z2 => ?_)
  · refine s_aload_n (i := 3) rfl 0 rfl ?_
    refine s_iload_n (i := 4) rfl 1 rfl ?_
    refine u_callVv (kk := 9) [tI a1] a0 [] rfl (i := 5) rfl (c_X9_endsNow h a0 a1) xm_X9_endsNow (tw1345) rfl (Nat.le_of_ble_eq_true rfl) (xRm.in (show 6 + 1 ≤ 7 + (d + 1) by omega) (show 8 + (3 + 11) + 185 ≤ 207 + (d + 1) * 24 by omega)) ⟨rfl, rfl⟩ (fun q29 => ?_)
    exact s_vret (i := 6) rfl rfl
  · refine s_iload_n (i := 7) rfl 1 rfl ?_
    refine s_aload_n (i := 8) rfl 0 rfl ?_
    refine s_getI (i := 9) rfl xf_9_97.r rfl (fun v30 => ?_)
    refine s_irem (i := 10) rfl (fun v31 => ?_)
    refine s_istore_n (i := 11) rfl (Nat.le_of_ble_eq_true rfl) (ls2 := [(3, tI v31), (0, tA a0), (1, tI a1), (2, tI a2)]) rfl ?_
    refine s_aload_n (i := 12) rfl 1 rfl ?_
    refine s_iload_n (i := 13) rfl 2 rfl ?_
    refine u_callVv (kk := 9) [tI a1] a0 [] rfl (i := 14) rfl (c_X9_keeps h a0 a1) xm_X9_keeps (tw1292) rfl (Nat.le_of_ble_eq_true rfl) (xRm.in (show 1 + 1 ≤ 7 + (d + 1) by omega) (show 8 + (2 + 11) + 60 ≤ 207 + (d + 1) * 24 by omega)) ⟨rfl, rfl⟩ (fun q32 => ?_)
    refine s_aload_n (i := 15) rfl 1 rfl ?_
    refine s_aload_n (i := 16) rfl 1 rfl ?_
    refine s_getI (i := 17) rfl xf_9_116.r rfl (fun v33 => ?_)
    refine s_iconst (i := 18) rfl (v := (1 : Int32)) (by decide) ?_
    refine s_iadd (i := 19) rfl ?_
    refine s_iconst (i := 20) rfl (v := (0 : Int32)) (by decide) ?_
    refine s_bipush (i := 21) rfl (v := (99 : Int32)) (by decide) ?_
    refine u_callSi [tI (v33 + ((1 : Int32))), tI ((0 : Int32)), tI ((99 : Int32))] [tA a0] rfl (i := 22) rfl (c_X9_within q32 (v33 + ((1 : Int32))) ((0 : Int32)) ((99 : Int32))) xm_X9_within (tw1213) rfl (Nat.le_of_ble_eq_true rfl) (xRm.in (show 1 + 1 ≤ 7 + (d + 1) by omega) (show 8 + (3 + 11) + 60 ≤ 207 + (d + 1) * 24 by omega)) ⟨rfl, rfl⟩ (fun q34 => ?_)
    refine s_putI (i := 23) rfl xf_9_116 (fun q => by cases q) rfl rfl (fun h35 => ?_)
    refine s_aload_n (i := 24) rfl 1 rfl ?_
    refine s_iload_n (i := 25) rfl 2 rfl ?_
    refine s_iconst (i := 26) rfl (v := (1 : Int32)) (by decide) ?_
    refine s_iadd (i := 27) rfl ?_
    refine s_iload_n (i := 28) rfl 3 rfl ?_
    refine u_callVv (kk := 9) [tI (a1 + ((1 : Int32))), tI a2] a0 [] rfl (i := 29) rfl (hr_X9_turns h35 a0 (a1 + ((1 : Int32))) a2) (xm_X9_turns _) (tw1341) rfl (Nat.le_of_ble_eq_true rfl) (xRm.in (show 7 + d + 1 ≤ 7 + (d + 1) by omega) (show 8 + (5 + 11) + (207 + d * 24) ≤ 207 + (d + 1) * 24 by rw [Nat.succ_mul]; omega)) ⟨rfl, rfl⟩ (fun q36 => ?_)
    refine s_aload_n (i := 30) rfl 1 rfl ?_
    refine s_iload_n (i := 31) rfl 2 rfl ?_
    refine u_callVv (kk := 9) [tI a1] a0 [] rfl (i := 32) rfl (c_X9_laysBack q36 a0 a1) xm_X9_laysBack (tw1296) rfl (Nat.le_of_ble_eq_true rfl) (xRm.in (show 1 + 1 ≤ 7 + (d + 1) by omega) (show 8 + (2 + 11) + 60 ≤ 207 + (d + 1) * 24 by omega)) ⟨rfl, rfl⟩ (fun q37 => ?_)
    refine s_aload_n (i := 33) rfl 1 rfl ?_
    refine s_iload_n (i := 34) rfl 2 rfl ?_
    refine s_iload_n (i := 35) rfl 3 rfl ?_
    refine s_iload_n (i := 36) rfl 0 rfl ?_
    refine s_iconst (i := 37) rfl (v := (0 : Int32)) (by decide) ?_
    refine s_iconst (i := 38) rfl (v := (1 : Int32)) (by decide) ?_
    refine u_callVv (kk := 9) [tI a1, tI a2, tI v31, tI ((0 : Int32)), tI ((1 : Int32))] a0 [] rfl (i := 39) rfl (c_X9_takes q37 a0 a1 a2 v31 ((0 : Int32)) ((1 : Int32))) xm_X9_takes (tw1349) rfl (Nat.le_of_ble_eq_true rfl) (xRm.in (show 1 + 1 ≤ 7 + (d + 1) by omega) (show 8 + (7 + 11) + 60 ≤ 207 + (d + 1) * 24 by omega)) ⟨rfl, rfl⟩ (fun q38 => ?_)
    refine s_iconst (i := 40) rfl (v := (0 : Int32)) (by decide) ?_
    refine s_istore (i := 41) rfl (Nat.le_of_ble_eq_true rfl) (ls2 := [(4, tI ((0 : Int32))), (3, tI v31), (0, tA a0), (1, tI a1), (2, tI a2)]) rfl ?_
    exact s_sub [2, 3, 4, 1, 0] rfl (b_X9_turns_64 X d r_X9_turns hr_X9_turns FU q38 a0 a1 a2 v31 ((0 : Int32)))
theorem cg_X9_turns : ∀ d : Nat, (∀ (h : XM) (a0 : Option Nat) (a1 : Int32) (a2 : Int32), MC (I_X9_turns d) y_X9_turns [tA a0, tI a1, tI a2] h ρv (f_X9_turns d h a0 a1 a2)) := by
  intro d
  induction d with
  | zero => exact fun _ _ _ _ => MC_none
  | succ d ih => exact fun h a0 a1 a2 => ce_X9_turns d (f_X9_turns d) ih h a0 a1 a2
theorem c_X9_turns (d : Nat) (h : XM) (a0 : Option Nat) (a1 : Int32) (a2 : Int32) : MC (I_X9_turns d) y_X9_turns [tA a0, tI a1, tI a2] h ρv (f_X9_turns d h a0 a1 a2) := (cg_X9_turns d) h a0 a1 a2
def y_X9_goesByTurns : MethodName := ⟨"OpensAtNineModel", "goesByTurns", "(I)V"⟩
def T_X9_goesByTurns : List (Nat × Instr × Nat × Nat) := [(0, .iconst 0, 1, 1), (1, .istore_n 2, 1, 2), (2, .iload_n 2, 1, 3), (3, .iconst 4, 1, 4), (4, .if_icmp .ge 16, 3, 7), (7, .aload_n 0, 1, 8), (8, .getfield 87, 3, 11), (11, .iload_n 2, 1, 12), (12, .iconst 0, 1, 13), (13, .iastore, 1, 14), (14, .iinc 2 1, 3, 17), (17, .goto (-15), 3, 20), (20, .iconst 0, 1, 21), (21, .istore_n 2, 1, 22), (22, .iload_n 2, 1, 23), (23, .sipush 4096, 3, 26), (26, .if_icmp .ge 18, 3, 29), (29, .aload_n 0, 1, 30), (30, .getfield 65, 3, 33), (33, .iload_n 2, 1, 34), (34, .ldc2_w 300, 3, 37), (37, .lastore, 1, 38), (38, .iinc 2 1, 3, 41), (41, .goto (-19), 3, 44), (44, .aload_n 0, 1, 45), (45, .iconst 1, 1, 46), (46, .putfield 192, 3, 49), (49, .aload_n 0, 1, 50), (50, .iconst 0, 1, 51), (51, .iload_n 1, 1, 52), (52, .invokevirtual 293, 3, 55), (55, .aload_n 0, 1, 56), (56, .iconst 0, 1, 57), (57, .putfield 192, 3, 60), (60, .return_, 1, 61)]
def I_X9_goesByTurns : MI := (prog_11_method_60_code, 3, none, "OpensAtNineModel", "goesByTurns", T_X9_goesByTurns, 0, 0, 20, 519)
theorem dT_X9_goesByTurns : ∀ q ∈ T_X9_goesByTurns, decode prog_11_method_60_code q.1 = .ok (q.2.1, q.2.2.1) ∧ q.2.2.2 = q.1 + q.2.2.1 := by decide +kernel
theorem xm_X9_goesByTurns : xCM y_X9_goesByTurns I_X9_goesByTurns 9 1 := ⟨⟨tw1338, tw60⟩, tw84, tw1339, ⟨xT9, 49, rfl⟩, ⟨by decide +kernel, by decide +kernel, by decide +kernel⟩⟩
noncomputable def fb_X9_goesByTurns_22 (k_22 : XM → Option Nat → Int32 → Int32 → Option (XM)) (h : XM) (l0 : Option Nat) (l1 : Int32) (l2 : Int32) : Option (XM) := if l2 < ((4096 : Int32)) then ((gR h 9 l0 35).bind fun v1 => (sL h v1 l2 ((-1 : Int64))).bind fun h2 => bnd (l2 + (1 : Int32)) fun v3 => k_22 h2 l0 l1 v3) else ((pZ h 9 l0 37 ((1 : Int32))).bind fun h4 => (vc h4 9 l0 (f_X9_turns 12 h4 l0 ((0 : Int32)) l1)).bind fun q5 => (pZ q5 9 l0 37 ((0 : Int32))).bind fun h6 => some h6)
noncomputable def f_X9_goesByTurns_22 (n : Nat) : XM → Option Nat → Int32 → Int32 → Option (XM) := Nat.rec (motive := fun _ => XM → Option Nat → Int32 → Int32 → Option (XM)) (fun _ _ _ _ => none) (fun _ ih h l0 l1 l2 => fb_X9_goesByTurns_22 ih h l0 l1 l2) n
noncomputable def fb_X9_goesByTurns_2 (k_2 : XM → Option Nat → Int32 → Int32 → Option (XM)) (h : XM) (l0 : Option Nat) (l1 : Int32) (l2 : Int32) : Option (XM) := if l2 < ((4 : Int32)) then ((gR h 9 l0 47).bind fun v7 => (sI h v7 l2 ((0 : Int32))).bind fun h8 => bnd (l2 + (1 : Int32)) fun v9 => k_2 h8 l0 l1 v9) else (f_X9_goesByTurns_22 FU h l0 l1 ((0 : Int32)))
noncomputable def f_X9_goesByTurns_2 (n : Nat) : XM → Option Nat → Int32 → Int32 → Option (XM) := Nat.rec (motive := fun _ => XM → Option Nat → Int32 → Int32 → Option (XM)) (fun _ _ _ _ => none) (fun _ ih h l0 l1 l2 => fb_X9_goesByTurns_2 ih h l0 l1 l2) n
noncomputable def f_X9_goesByTurns (h : XM) (a0 : Option Nat) (a1 : Int32) : Option (XM) := f_X9_goesByTurns_2 FU h a0 a1 ((0 : Int32))
theorem bb_X9_goesByTurns_22 (X : XX) (k_22 : XM → Option Nat → Int32 → Int32 → Option (XM)) (hk_22 : ∀ h l0 l1 l2, SW X I_X9_goesByTurns ρv 22 [(0, tA l0), (1, tI l1), (2, tI l2)] [] h 0 0 (k_22 h l0 l1 l2)) (h : XM) (l0 : Option Nat) (l1 : Int32) (l2 : Int32) : SW X I_X9_goesByTurns ρv 22 [(0, tA l0), (1, tI l1), (2, tI l2)] [] h 0 0 (fb_X9_goesByTurns_22 k_22 h l0 l1 l2) := by
  unfold fb_X9_goesByTurns_22
  refine s_iload_n (i := 14) rfl 2 rfl ?_
  refine s_sipush (i := 15) rfl (v := (4096 : Int32)) (by decide) ?_
  refine s_icmpge (i := 16) rfl (tgt := 44) (by decide) (fun z26 => ?_) (fun z26 => ?_)
  · refine s_aload_n (i := 17) rfl 0 rfl ?_
    refine s_getR (i := 18) rfl xf_9_65.r rfl (fun v1 => ?_)
    refine s_iload_n (i := 19) rfl 2 rfl ?_
    refine s_ldc2 (i := 20) rfl (v := (-1 : Int64)) (tw1340) ?_
    refine s_lastore (i := 21) rfl (fun h2 => ?_)
    refine s_inc (i := 22) rfl 2 rfl (c9 := (1 : Int32)) (by decide) (Nat.le_of_ble_eq_true rfl) (fun v3 => ?_)
    refine s_ls (ls2 := [(2, tI v3), (0, tA l0), (1, tI l1)]) rfl ?_
    refine s_goto (i := 23) rfl (tgt := 22) (by decide) ?_
    exact s_sub [1, 2, 0] rfl (hk_22 h2 l0 l1 v3)
  · refine s_aload_n (i := 24) rfl 0 rfl ?_
    refine s_iconst (i := 25) rfl (v := (1 : Int32)) (by decide) ?_
    refine s_putZ (i := 26) rfl xf_9_192 (fun q => by cases q) rfl rfl (fun h4 => ?_)
    refine s_aload_n (i := 27) rfl 0 rfl ?_
    refine s_iconst (i := 28) rfl (v := (0 : Int32)) (by decide) ?_
    refine s_iload_n (i := 29) rfl 1 rfl ?_
    refine u_callVv (kk := 9) [tI ((0 : Int32)), tI l1] l0 [] rfl (i := 30) rfl (c_X9_turns 12 h4 l0 ((0 : Int32)) l1) (xm_X9_turns _) (tw1341) rfl (Nat.le_of_ble_eq_true rfl) (xRm.of rfl) ⟨rfl, rfl⟩ (fun q5 => ?_)
    refine s_aload_n (i := 31) rfl 0 rfl ?_
    refine s_iconst (i := 32) rfl (v := (0 : Int32)) (by decide) ?_
    refine s_putZ (i := 33) rfl xf_9_192 (fun q => by cases q) rfl rfl (fun h6 => ?_)
    exact s_vret (i := 34) rfl rfl
theorem b_X9_goesByTurns_22 (X : XX) : ∀ (n : Nat) (h : XM) (l0 : Option Nat) (l1 : Int32) (l2 : Int32), SW X I_X9_goesByTurns ρv 22 [(0, tA l0), (1, tI l1), (2, tI l2)] [] h 0 0 (f_X9_goesByTurns_22 n h l0 l1 l2) := by
  intro n
  induction n with
  | zero =>
    intro h l0 l1 l2
    exact s_none
  | succ n ih =>
    intro h l0 l1 l2
    exact bb_X9_goesByTurns_22 X (f_X9_goesByTurns_22 n) ih h l0 l1 l2
theorem bb_X9_goesByTurns_2 (X : XX) (k_2 : XM → Option Nat → Int32 → Int32 → Option (XM)) (hk_2 : ∀ h l0 l1 l2, SW X I_X9_goesByTurns ρv 2 [(0, tA l0), (1, tI l1), (2, tI l2)] [] h 0 0 (k_2 h l0 l1 l2)) (h : XM) (l0 : Option Nat) (l1 : Int32) (l2 : Int32) : SW X I_X9_goesByTurns ρv 2 [(0, tA l0), (1, tI l1), (2, tI l2)] [] h 0 0 (fb_X9_goesByTurns_2 k_2 h l0 l1 l2) := by
  unfold fb_X9_goesByTurns_2
  refine s_iload_n (i := 2) rfl 2 rfl ?_
  refine s_iconst (i := 3) rfl (v := (4 : Int32)) (by decide) ?_
  refine s_icmpge (i := 4) rfl (tgt := 20) (by decide) (fun z4 => ?_) (fun z4 => ?_)
  · refine s_aload_n (i := 5) rfl 0 rfl ?_
    refine s_getR (i := 6) rfl xf_9_87.r rfl (fun v7 => ?_)
    refine s_iload_n (i := 7) rfl 2 rfl ?_
    refine s_iconst (i := 8) rfl (v := (0 : Int32)) (by decide) ?_
    refine s_iastore (i := 9) rfl (fun h8 => ?_)
    refine s_inc (i := 10) rfl 2 rfl (c9 := (1 : Int32)) (by decide) (Nat.le_of_ble_eq_true rfl) (fun v9 => ?_)
    refine s_ls (ls2 := [(2, tI v9), (0, tA l0), (1, tI l1)]) rfl ?_
    refine s_goto (i := 11) rfl (tgt := 2) (by decide) ?_
    exact s_sub [1, 2, 0] rfl (hk_2 h8 l0 l1 v9)
  · refine s_iconst (i := 12) rfl (v := (0 : Int32)) (by decide) ?_
    refine s_istore_n (i := 13) rfl (Nat.le_of_ble_eq_true rfl) (ls2 := [(2, tI ((0 : Int32))), (0, tA l0), (1, tI l1)]) rfl ?_
    exact s_sub [1, 2, 0] rfl (b_X9_goesByTurns_22 X FU h l0 l1 ((0 : Int32)))
theorem b_X9_goesByTurns_2 (X : XX) : ∀ (n : Nat) (h : XM) (l0 : Option Nat) (l1 : Int32) (l2 : Int32), SW X I_X9_goesByTurns ρv 2 [(0, tA l0), (1, tI l1), (2, tI l2)] [] h 0 0 (f_X9_goesByTurns_2 n h l0 l1 l2) := by
  intro n
  induction n with
  | zero =>
    intro h l0 l1 l2
    exact s_none
  | succ n ih =>
    intro h l0 l1 l2
    exact bb_X9_goesByTurns_2 X (f_X9_goesByTurns_2 n) ih h l0 l1 l2
theorem c_X9_goesByTurns (h : XM) (a0 : Option Nat) (a1 : Int32) : MC I_X9_goesByTurns y_X9_goesByTurns [tA a0, tI a1] h ρv (f_X9_goesByTurns h a0 a1) := by
  refine MC_of ⟨by decide +kernel, rfl, rfl, Nat.le_of_ble_eq_true rfl⟩ dT_X9_goesByTurns (fun X => ?_)
  show SW X I_X9_goesByTurns ρv 0 [(0, tA a0), (1, tI a1)] [] h 0 0 (f_X9_goesByTurns h a0 a1)
  unfold f_X9_goesByTurns
  refine s_iconst (i := 0) rfl (v := (0 : Int32)) (by decide) ?_
  refine s_istore_n (i := 1) rfl (Nat.le_of_ble_eq_true rfl) (ls2 := [(2, tI ((0 : Int32))), (0, tA a0), (1, tI a1)]) rfl ?_
  exact s_sub [1, 2, 0] rfl (b_X9_goesByTurns_2 X FU h a0 a1 ((0 : Int32)))
def y_X9_rest : MethodName := ⟨"OpensAtNineModel", "rest", "(II)I"⟩
def T_X9_rest : List (Nat × Instr × Nat × Nat) := [(0, .aload_n 0, 1, 1), (1, .iload_n 1, 1, 2), (2, .invokevirtual 119, 3, 5), (5, .ifCond .eq 13, 3, 8), (8, .iload_n 2, 1, 9), (9, .iconst 0, 1, 10), (10, .bipush 6, 2, 12), (12, .invokestatic 100, 3, 15), (15, .ifCond .ne 6, 3, 18), (18, .ldc 250, 2, 20), (20, .ireturn, 1, 21), (21, .aload_n 0, 1, 22), (22, .iload_n 2, 1, 23), (23, .invokevirtual 302, 3, 26), (26, .aload_n 0, 1, 27), (27, .getfield 75, 3, 30), (30, .iload_n 1, 1, 31), (31, .iaload, 1, 32), (32, .ireturn, 1, 33)]
def I_X9_rest : MI := (prog_11_method_61_code, 3, (some .int), "OpensAtNineModel", "rest", T_X9_rest, 0, 0, 21, 541)
theorem dT_X9_rest : ∀ q ∈ T_X9_rest, decode prog_11_method_61_code q.1 = .ok (q.2.1, q.2.2.1) ∧ q.2.2.2 = q.1 + q.2.2.1 := by decide +kernel
theorem xm_X9_rest : xCM y_X9_rest I_X9_rest 9 2 := ⟨⟨tw1333, tw1334⟩, tw84, tw1335, ⟨xT9, 49, rfl⟩, ⟨by decide +kernel, by decide +kernel, by decide +kernel⟩⟩
noncomputable def f_X9_rest_18 (h : XM) : Option (Int32 × XM) := some ((-100000 : Int32), h)
noncomputable def f_X9_rest (h : XM) (a0 : Option Nat) (a1 : Int32) (a2 : Int32) : Option (Int32 × XM) := (vc h 9 a0 (f_X9_isOne h a0 a1)).bind fun q1 => if q1.1 = 0 then (f_X9_rest_18 q1.2) else ((f_X9_in q1.2 a2 ((0 : Int32)) ((6 : Int32))).bind fun q2 => if q2.1 = 0 then (f_X9_rest_18 q2.2) else ((vc q2.2 9 a0 (f_X9_goesByTurns q2.2 a0 a2)).bind fun q3 => (gR q3 9 a0 43).bind fun v4 => (rI q3 v4 a1).bind fun v5 => some (v5, q3)))
theorem b_X9_rest_18 (X : XX) (h : XM) : SW X I_X9_rest ρi 18 [] [] h 0 0 (f_X9_rest_18 h) := by
  unfold f_X9_rest_18
  refine s_ldc (i := 9) rfl (v := (-100000 : Int32)) (tw1279) ?_
  exact s_iret (i := 10) rfl rfl
theorem c_X9_rest (h : XM) (a0 : Option Nat) (a1 : Int32) (a2 : Int32) : MC I_X9_rest y_X9_rest [tA a0, tI a1, tI a2] h ρi (f_X9_rest h a0 a1 a2) := by
  refine MC_of ⟨by decide +kernel, rfl, rfl, Nat.le_of_ble_eq_true rfl⟩ dT_X9_rest (fun X => ?_)
  show SW X I_X9_rest ρi 0 [(0, tA a0), (1, tI a1), (2, tI a2)] [] h 0 0 (f_X9_rest h a0 a1 a2)
  unfold f_X9_rest
  refine s_aload_n (i := 0) rfl 0 rfl ?_
  refine s_iload_n (i := 1) rfl 1 rfl ?_
  refine u_callVi (kk := 9) [tI a1] a0 [] rfl (i := 2) rfl (c_X9_isOne h a0 a1) xm_X9_isOne (tw1174) rfl (Nat.le_of_ble_eq_true rfl) (xRm.of rfl) ⟨rfl, rfl⟩ (fun q1 => ?_)
  refine s_ifeq (i := 3) rfl (tgt := 18) (by decide) (fun z5 => ?_) (fun z5 => ?_)
  · exact s_sub [] rfl (b_X9_rest_18 X q1.2)
  · refine s_iload_n (i := 4) rfl 2 rfl ?_
    refine s_iconst (i := 5) rfl (v := (0 : Int32)) (by decide) ?_
    refine s_bipush (i := 6) rfl (v := (6 : Int32)) (by decide) ?_
    refine u_callSi [tI a2, tI ((0 : Int32)), tI ((6 : Int32))] [] rfl (i := 7) rfl (c_X9_in q1.2 a2 ((0 : Int32)) ((6 : Int32))) xm_X9_in (tw974) rfl (Nat.le_of_ble_eq_true rfl) (xRm.of rfl) ⟨rfl, rfl⟩ (fun q2 => ?_)
    refine s_ifne (i := 8) rfl (tgt := 21) (by decide) (fun z15 => ?_) (fun z15 => ?_)
    · exact s_sub [] rfl (b_X9_rest_18 X q2.2)
    · refine s_aload_n (i := 11) rfl 0 rfl ?_
      refine s_iload_n (i := 12) rfl 2 rfl ?_
      refine u_callVv (kk := 9) [tI a2] a0 [] rfl (i := 13) rfl (c_X9_goesByTurns q2.2 a0 a2) xm_X9_goesByTurns (tw1336) rfl (Nat.le_of_ble_eq_true rfl) (xRm.of rfl) ⟨rfl, rfl⟩ (fun q3 => ?_)
      refine s_aload_n (i := 14) rfl 0 rfl ?_
      refine s_getR (i := 15) rfl xf_9_75.r rfl (fun v4 => ?_)
      refine s_iload_n (i := 16) rfl 1 rfl ?_
      refine s_iaload (i := 17) rfl (fun v5 => ?_)
      exact s_iret (i := 18) rfl rfl
def y_X9_moves : MethodName := ⟨"OpensAtNineModel", "moves", "(I)I"⟩
def T_X9_moves : List (Nat × Instr × Nat × Nat) := [(0, .iload_n 1, 1, 1), (1, .iconst 0, 1, 2), (2, .bipush 6, 2, 4), (4, .invokestatic 100, 3, 7), (7, .ifCond .eq 10, 3, 10), (10, .aload_n 0, 1, 11), (11, .getfield 97, 3, 14), (14, .ifCond .ne 6, 3, 17), (17, .bipush (-2), 2, 19), (19, .ireturn, 1, 20), (20, .aload_n 0, 1, 21), (21, .iload_n 1, 1, 22), (22, .invokevirtual 302, 3, 25), (25, .iconst 0, 1, 26), (26, .istore_n 2, 1, 27), (27, .iconst 0, 1, 28), (28, .istore_n 3, 1, 29), (29, .iload_n 3, 1, 30), (30, .iload_n 1, 1, 31), (31, .if_icmp .ge 21, 3, 34), (34, .bipush 10, 2, 36), (36, .iload_n 2, 1, 37), (37, .imul, 1, 38), (38, .aload_n 0, 1, 39), (39, .getfield 78, 3, 42), (42, .iload_n 3, 1, 43), (43, .iaload, 1, 44), (44, .iadd, 1, 45), (45, .istore_n 2, 1, 46), (46, .iinc 3 1, 3, 49), (49, .goto (-20), 3, 52), (52, .iload_n 2, 1, 53), (53, .ireturn, 1, 54)]
def I_X9_moves : MI := (prog_11_method_62_code, 4, (some .int), "OpensAtNineModel", "moves", T_X9_moves, 0, 0, 21, 541)
theorem dT_X9_moves : ∀ q ∈ T_X9_moves, decode prog_11_method_62_code q.1 = .ok (q.2.1, q.2.2.1) ∧ q.2.2.2 = q.1 + q.2.2.1 := by decide +kernel
theorem xm_X9_moves : xCM y_X9_moves I_X9_moves 9 1 := ⟨⟨tw1354, tw1355⟩, tw84, tw1356, ⟨xT9, 49, rfl⟩, ⟨by decide +kernel, by decide +kernel, by decide +kernel⟩⟩
noncomputable def f_X9_moves_17 (h : XM) : Option (Int32 × XM) := some ((-2 : Int32), h)
noncomputable def fb_X9_moves_29 (k_29 : XM → Option Nat → Int32 → Int32 → Int32 → Option (Int32 × XM)) (h : XM) (l0 : Option Nat) (l1 : Int32) (l2 : Int32) (l3 : Int32) : Option (Int32 × XM) := if l3 < l1 then ((gR h 9 l0 44).bind fun v1 => (rI h v1 l3).bind fun v2 => bnd ((((10 : Int32)) * l2) + v2) fun v3 => bnd (l3 + (1 : Int32)) fun v4 => k_29 h l0 l1 v3 v4) else (some (l2, h))
noncomputable def f_X9_moves_29 (n : Nat) : XM → Option Nat → Int32 → Int32 → Int32 → Option (Int32 × XM) := Nat.rec (motive := fun _ => XM → Option Nat → Int32 → Int32 → Int32 → Option (Int32 × XM)) (fun _ _ _ _ _ => none) (fun _ ih h l0 l1 l2 l3 => fb_X9_moves_29 ih h l0 l1 l2 l3) n
noncomputable def f_X9_moves (h : XM) (a0 : Option Nat) (a1 : Int32) : Option (Int32 × XM) := (f_X9_in h a1 ((0 : Int32)) ((6 : Int32))).bind fun q5 => if q5.1 = 0 then (f_X9_moves_17 q5.2) else ((gI q5.2 9 a0 3).bind fun v6 => if v6 = 0 then (f_X9_moves_17 q5.2) else ((vc q5.2 9 a0 (f_X9_goesByTurns q5.2 a0 a1)).bind fun q7 => f_X9_moves_29 FU q7 a0 a1 ((0 : Int32)) ((0 : Int32))))
theorem b_X9_moves_17 (X : XX) (h : XM) : SW X I_X9_moves ρi 17 [] [] h 0 0 (f_X9_moves_17 h) := by
  unfold f_X9_moves_17
  refine s_bipush (i := 8) rfl (v := (-2 : Int32)) (by decide) ?_
  exact s_iret (i := 9) rfl rfl
theorem bb_X9_moves_29 (X : XX) (k_29 : XM → Option Nat → Int32 → Int32 → Int32 → Option (Int32 × XM)) (hk_29 : ∀ h l0 l1 l2 l3, SW X I_X9_moves ρi 29 [(0, tA l0), (1, tI l1), (2, tI l2), (3, tI l3)] [] h 0 0 (k_29 h l0 l1 l2 l3)) (h : XM) (l0 : Option Nat) (l1 : Int32) (l2 : Int32) (l3 : Int32) : SW X I_X9_moves ρi 29 [(0, tA l0), (1, tI l1), (2, tI l2), (3, tI l3)] [] h 0 0 (fb_X9_moves_29 k_29 h l0 l1 l2 l3) := by
  unfold fb_X9_moves_29
  refine s_iload_n (i := 17) rfl 3 rfl ?_
  refine s_iload_n (i := 18) rfl 1 rfl ?_
  refine s_icmpge (i := 19) rfl (tgt := 52) (by decide) (fun z31 => ?_) (fun z31 => ?_)
  · refine s_bipush (i := 20) rfl (v := (10 : Int32)) (by decide) ?_
    refine s_iload_n (i := 21) rfl 2 rfl ?_
    refine s_imul (i := 22) rfl ?_
    refine s_aload_n (i := 23) rfl 0 rfl ?_
    refine s_getR (i := 24) rfl xf_9_78.r rfl (fun v1 => ?_)
    refine s_iload_n (i := 25) rfl 3 rfl ?_
    refine s_iaload (i := 26) rfl (fun v2 => ?_)
    refine s_iadd (i := 27) rfl ?_
    refine s_bnd (fun v3 => ?_)
    refine s_istore_n (i := 28) rfl (Nat.le_of_ble_eq_true rfl) (ls2 := [(2, tI v3), (0, tA l0), (1, tI l1), (3, tI l3)]) rfl ?_
    refine s_inc (i := 29) rfl 3 rfl (c9 := (1 : Int32)) (by decide) (Nat.le_of_ble_eq_true rfl) (fun v4 => ?_)
    refine s_ls (ls2 := [(3, tI v4), (2, tI v3), (0, tA l0), (1, tI l1)]) rfl ?_
    refine s_goto (i := 30) rfl (tgt := 29) (by decide) ?_
    exact s_sub [2, 3, 1, 0] rfl (hk_29 h l0 l1 v3 v4)
  · refine s_iload_n (i := 31) rfl 2 rfl ?_
    exact s_iret (i := 32) rfl rfl
theorem b_X9_moves_29 (X : XX) : ∀ (n : Nat) (h : XM) (l0 : Option Nat) (l1 : Int32) (l2 : Int32) (l3 : Int32), SW X I_X9_moves ρi 29 [(0, tA l0), (1, tI l1), (2, tI l2), (3, tI l3)] [] h 0 0 (f_X9_moves_29 n h l0 l1 l2 l3) := by
  intro n
  induction n with
  | zero =>
    intro h l0 l1 l2 l3
    exact s_none
  | succ n ih =>
    intro h l0 l1 l2 l3
    exact bb_X9_moves_29 X (f_X9_moves_29 n) ih h l0 l1 l2 l3
theorem c_X9_moves (h : XM) (a0 : Option Nat) (a1 : Int32) : MC I_X9_moves y_X9_moves [tA a0, tI a1] h ρi (f_X9_moves h a0 a1) := by
  refine MC_of ⟨by decide +kernel, rfl, rfl, Nat.le_of_ble_eq_true rfl⟩ dT_X9_moves (fun X => ?_)
  show SW X I_X9_moves ρi 0 [(0, tA a0), (1, tI a1)] [] h 0 0 (f_X9_moves h a0 a1)
  unfold f_X9_moves
  refine s_iload_n (i := 0) rfl 1 rfl ?_
  refine s_iconst (i := 1) rfl (v := (0 : Int32)) (by decide) ?_
  refine s_bipush (i := 2) rfl (v := (6 : Int32)) (by decide) ?_
  refine u_callSi [tI a1, tI ((0 : Int32)), tI ((6 : Int32))] [] rfl (i := 3) rfl (c_X9_in h a1 ((0 : Int32)) ((6 : Int32))) xm_X9_in (tw974) rfl (Nat.le_of_ble_eq_true rfl) (xRm.of rfl) ⟨rfl, rfl⟩ (fun q5 => ?_)
  refine s_ifeq (i := 4) rfl (tgt := 17) (by decide) (fun z7 => ?_) (fun z7 => ?_)
  · exact s_sub [] rfl (b_X9_moves_17 X q5.2)
  · refine s_aload_n (i := 5) rfl 0 rfl ?_
    refine s_getI (i := 6) rfl xf_9_97.r rfl (fun v6 => ?_)
    refine s_ifne (i := 7) rfl (tgt := 20) (by decide) (fun z14 => ?_) (fun z14 => ?_)
    · exact s_sub [] rfl (b_X9_moves_17 X q5.2)
    · refine s_aload_n (i := 10) rfl 0 rfl ?_
      refine s_iload_n (i := 11) rfl 1 rfl ?_
      refine u_callVv (kk := 9) [tI a1] a0 [] rfl (i := 12) rfl (c_X9_goesByTurns q5.2 a0 a1) xm_X9_goesByTurns (tw1336) rfl (Nat.le_of_ble_eq_true rfl) (xRm.of rfl) ⟨rfl, rfl⟩ (fun q7 => ?_)
      refine s_iconst (i := 13) rfl (v := (0 : Int32)) (by decide) ?_
      refine s_istore_n (i := 14) rfl (Nat.le_of_ble_eq_true rfl) (ls2 := [(2, tI ((0 : Int32))), (0, tA a0), (1, tI a1)]) rfl ?_
      refine s_iconst (i := 15) rfl (v := (0 : Int32)) (by decide) ?_
      refine s_istore_n (i := 16) rfl (Nat.le_of_ble_eq_true rfl) (ls2 := [(3, tI ((0 : Int32))), (2, tI ((0 : Int32))), (0, tA a0), (1, tI a1)]) rfl ?_
      exact s_sub [2, 3, 1, 0] rfl (b_X9_moves_29 X FU q7 a0 a1 ((0 : Int32)) ((0 : Int32)))
def y_X9_play : MethodName := ⟨"OpensAtNineModel", "play", "(I)I"⟩
def T_X9_play : List (Nat × Instr × Nat × Nat) := [(0, .iload_n 1, 1, 1), (1, .iconst 0, 1, 2), (2, .bipush 6, 2, 4), (4, .invokestatic 100, 3, 7), (7, .ifCond .eq 10, 3, 10), (10, .aload_n 0, 1, 11), (11, .getfield 97, 3, 14), (14, .ifCond .ne 6, 3, 17), (17, .bipush (-2), 2, 19), (19, .ireturn, 1, 20), (20, .aload_n 0, 1, 21), (21, .iload_n 1, 1, 22), (22, .invokevirtual 302, 3, 25), (25, .iconst 0, 1, 26), (26, .istore_n 2, 1, 27), (27, .iload_n 2, 1, 28), (28, .iload_n 1, 1, 29), (29, .if_icmp .ge 50, 3, 32), (32, .aload_n 0, 1, 33), (33, .getfield 78, 3, 36), (36, .iload_n 2, 1, 37), (37, .iaload, 1, 38), (38, .ifCond .ne 22, 3, 41), (41, .aload_n 0, 1, 42), (42, .aload_n 0, 1, 43), (43, .getfield 116, 3, 46), (46, .iconst 1, 1, 47), (47, .iadd, 1, 48), (48, .iconst 0, 1, 49), (49, .bipush 99, 2, 51), (51, .invokestatic 217, 3, 54), (54, .putfield 116, 3, 57), (57, .goto 16, 3, 60), (60, .aload_n 0, 1, 61), (61, .aload_n 0, 1, 62), (62, .getfield 78, 3, 65), (65, .iload_n 2, 1, 66), (66, .iaload, 1, 67), (67, .iconst 1, 1, 68), (68, .isub, 1, 69), (69, .invokevirtual 244, 3, 72), (72, .pop, 1, 73), (73, .iinc 2 1, 3, 76), (76, .goto (-49), 3, 79), (79, .aload_n 0, 1, 80), (80, .getfield 107, 3, 83), (83, .invokestatic 305, 3, 86), (86, .ireturn, 1, 87)]
def I_X9_play : MI := (prog_11_method_63_code, 3, (some .int), "OpensAtNineModel", "play", T_X9_play, 0, 0, 21, 541)
theorem dT_X9_play : ∀ q ∈ T_X9_play, decode prog_11_method_63_code q.1 = .ok (q.2.1, q.2.2.1) ∧ q.2.2.2 = q.1 + q.2.2.1 := by decide +kernel
theorem xm_X9_play : xCM y_X9_play I_X9_play 9 1 := ⟨⟨tw1358, tw1359⟩, tw84, tw1360, ⟨xT9, 49, rfl⟩, ⟨by decide +kernel, by decide +kernel, by decide +kernel⟩⟩
noncomputable def f_X9_play_17 (h : XM) : Option (Int32 × XM) := some ((-2 : Int32), h)
noncomputable def f_X9_play_73 (k_27 : XM → Option Nat → Int32 → Int32 → Option (Int32 × XM)) (h : XM) (l0 : Option Nat) (l1 : Int32) (l2 : Int32) : Option (Int32 × XM) := bnd (l2 + (1 : Int32)) fun v1 => k_27 h l0 l1 v1
noncomputable def fb_X9_play_27 (k_27 : XM → Option Nat → Int32 → Int32 → Option (Int32 × XM)) (h : XM) (l0 : Option Nat) (l1 : Int32) (l2 : Int32) : Option (Int32 × XM) := if l2 < l1 then ((gR h 9 l0 44).bind fun v2 => (rI h v2 l2).bind fun v3 => if v3 = 0 then ((gI h 9 l0 2).bind fun v4 => (f_X9_within h (v4 + ((1 : Int32))) ((0 : Int32)) ((99 : Int32))).bind fun q5 => (pI q5.2 9 l0 2 q5.1).bind fun h6 => f_X9_play_73 k_27 h6 l0 l1 l2) else ((gR h 9 l0 44).bind fun v7 => (rI h v7 l2).bind fun v8 => (vc h 9 l0 (f_X9_paysIn h l0 (v8 - ((1 : Int32))))).bind fun q9 => f_X9_play_73 k_27 q9.2 l0 l1 l2)) else ((gI h 9 l0 4).bind fun v10 => (f_X9_ones h v10).bind fun q11 => some (q11.1, q11.2))
noncomputable def f_X9_play_27 (n : Nat) : XM → Option Nat → Int32 → Int32 → Option (Int32 × XM) := Nat.rec (motive := fun _ => XM → Option Nat → Int32 → Int32 → Option (Int32 × XM)) (fun _ _ _ _ => none) (fun _ ih h l0 l1 l2 => fb_X9_play_27 ih h l0 l1 l2) n
noncomputable def f_X9_play (h : XM) (a0 : Option Nat) (a1 : Int32) : Option (Int32 × XM) := (f_X9_in h a1 ((0 : Int32)) ((6 : Int32))).bind fun q12 => if q12.1 = 0 then (f_X9_play_17 q12.2) else ((gI q12.2 9 a0 3).bind fun v13 => if v13 = 0 then (f_X9_play_17 q12.2) else ((vc q12.2 9 a0 (f_X9_goesByTurns q12.2 a0 a1)).bind fun q14 => f_X9_play_27 FU q14 a0 a1 ((0 : Int32))))
theorem b_X9_play_17 (X : XX) (h : XM) : SW X I_X9_play ρi 17 [] [] h 0 0 (f_X9_play_17 h) := by
  unfold f_X9_play_17
  refine s_bipush (i := 8) rfl (v := (-2 : Int32)) (by decide) ?_
  exact s_iret (i := 9) rfl rfl
theorem b_X9_play_73 (X : XX) (k_27 : XM → Option Nat → Int32 → Int32 → Option (Int32 × XM)) (hk_27 : ∀ h l0 l1 l2, SW X I_X9_play ρi 27 [(0, tA l0), (1, tI l1), (2, tI l2)] [] h 0 0 (k_27 h l0 l1 l2)) (h : XM) (l0 : Option Nat) (l1 : Int32) (l2 : Int32) : SW X I_X9_play ρi 73 [(0, tA l0), (1, tI l1), (2, tI l2)] [] h 0 0 (f_X9_play_73 k_27 h l0 l1 l2) := by
  unfold f_X9_play_73
  refine s_inc (i := 42) rfl 2 rfl (c9 := (1 : Int32)) (by decide) (Nat.le_of_ble_eq_true rfl) (fun v1 => ?_)
  refine s_ls (ls2 := [(2, tI v1), (0, tA l0), (1, tI l1)]) rfl ?_
  refine s_goto (i := 43) rfl (tgt := 27) (by decide) ?_
  exact s_sub [1, 2, 0] rfl (hk_27 h l0 l1 v1)
theorem bb_X9_play_27 (X : XX) (k_27 : XM → Option Nat → Int32 → Int32 → Option (Int32 × XM)) (hk_27 : ∀ h l0 l1 l2, SW X I_X9_play ρi 27 [(0, tA l0), (1, tI l1), (2, tI l2)] [] h 0 0 (k_27 h l0 l1 l2)) (h : XM) (l0 : Option Nat) (l1 : Int32) (l2 : Int32) : SW X I_X9_play ρi 27 [(0, tA l0), (1, tI l1), (2, tI l2)] [] h 0 0 (fb_X9_play_27 k_27 h l0 l1 l2) := by
  unfold fb_X9_play_27
  refine s_iload_n (i := 15) rfl 2 rfl ?_
  refine s_iload_n (i := 16) rfl 1 rfl ?_
  refine s_icmpge (i := 17) rfl (tgt := 79) (by decide) (fun z29 => ?_) (fun z29 => ?_)
  · refine s_aload_n (i := 18) rfl 0 rfl ?_
    refine s_getR (i := 19) rfl xf_9_78.r rfl (fun v2 => ?_)
    refine s_iload_n (i := 20) rfl 2 rfl ?_
    refine s_iaload (i := 21) rfl (fun v3 => ?_)
    refine s_ifne (i := 22) rfl (tgt := 60) (by decide) (fun z38 => ?_) (fun z38 => ?_)
    · refine s_aload_n (i := 23) rfl 0 rfl ?_
      refine s_aload_n (i := 24) rfl 0 rfl ?_
      refine s_getI (i := 25) rfl xf_9_116.r rfl (fun v4 => ?_)
      refine s_iconst (i := 26) rfl (v := (1 : Int32)) (by decide) ?_
      refine s_iadd (i := 27) rfl ?_
      refine s_iconst (i := 28) rfl (v := (0 : Int32)) (by decide) ?_
      refine s_bipush (i := 29) rfl (v := (99 : Int32)) (by decide) ?_
      refine u_callSi [tI (v4 + ((1 : Int32))), tI ((0 : Int32)), tI ((99 : Int32))] [tA l0] rfl (i := 30) rfl (c_X9_within h (v4 + ((1 : Int32))) ((0 : Int32)) ((99 : Int32))) xm_X9_within (tw1213) rfl (Nat.le_of_ble_eq_true rfl) (xRm.of rfl) ⟨rfl, rfl⟩ (fun q5 => ?_)
      refine s_putI (i := 31) rfl xf_9_116 (fun q => by cases q) rfl rfl (fun h6 => ?_)
      refine s_goto (i := 32) rfl (tgt := 73) (by decide) ?_
      exact s_sub [0, 1, 2] rfl (b_X9_play_73 X k_27 hk_27 h6 l0 l1 l2)
    · refine s_aload_n (i := 33) rfl 0 rfl ?_
      refine s_aload_n (i := 34) rfl 0 rfl ?_
      refine s_getR (i := 35) rfl xf_9_78.r rfl (fun v7 => ?_)
      refine s_iload_n (i := 36) rfl 2 rfl ?_
      refine s_iaload (i := 37) rfl (fun v8 => ?_)
      refine s_iconst (i := 38) rfl (v := (1 : Int32)) (by decide) ?_
      refine s_isub (i := 39) rfl ?_
      refine u_callVi (kk := 9) [tI (v8 - ((1 : Int32)))] l0 [] rfl (i := 40) rfl (c_X9_paysIn h l0 (v8 - ((1 : Int32)))) xm_X9_paysIn (tw1263) rfl (Nat.le_of_ble_eq_true rfl) (xRm.of rfl) ⟨rfl, rfl⟩ (fun q9 => ?_)
      refine s_pop (i := 41) rfl rfl ?_
      exact s_sub [0, 1, 2] rfl (b_X9_play_73 X k_27 hk_27 q9.2 l0 l1 l2)
  · refine s_aload_n (i := 44) rfl 0 rfl ?_
    refine s_getI (i := 45) rfl xf_9_107.r rfl (fun v10 => ?_)
    refine u_callSi [tI v10] [] rfl (i := 46) rfl (c_X9_ones h v10) xm_X9_ones (tw1361) rfl (Nat.le_of_ble_eq_true rfl) (xRm.of rfl) ⟨rfl, rfl⟩ (fun q11 => ?_)
    exact s_iret (i := 47) rfl rfl
theorem b_X9_play_27 (X : XX) : ∀ (n : Nat) (h : XM) (l0 : Option Nat) (l1 : Int32) (l2 : Int32), SW X I_X9_play ρi 27 [(0, tA l0), (1, tI l1), (2, tI l2)] [] h 0 0 (f_X9_play_27 n h l0 l1 l2) := by
  intro n
  induction n with
  | zero =>
    intro h l0 l1 l2
    exact s_none
  | succ n ih =>
    intro h l0 l1 l2
    exact bb_X9_play_27 X (f_X9_play_27 n) ih h l0 l1 l2
theorem c_X9_play (h : XM) (a0 : Option Nat) (a1 : Int32) : MC I_X9_play y_X9_play [tA a0, tI a1] h ρi (f_X9_play h a0 a1) := by
  refine MC_of ⟨by decide +kernel, rfl, rfl, Nat.le_of_ble_eq_true rfl⟩ dT_X9_play (fun X => ?_)
  show SW X I_X9_play ρi 0 [(0, tA a0), (1, tI a1)] [] h 0 0 (f_X9_play h a0 a1)
  unfold f_X9_play
  refine s_iload_n (i := 0) rfl 1 rfl ?_
  refine s_iconst (i := 1) rfl (v := (0 : Int32)) (by decide) ?_
  refine s_bipush (i := 2) rfl (v := (6 : Int32)) (by decide) ?_
  refine u_callSi [tI a1, tI ((0 : Int32)), tI ((6 : Int32))] [] rfl (i := 3) rfl (c_X9_in h a1 ((0 : Int32)) ((6 : Int32))) xm_X9_in (tw974) rfl (Nat.le_of_ble_eq_true rfl) (xRm.of rfl) ⟨rfl, rfl⟩ (fun q12 => ?_)
  refine s_ifeq (i := 4) rfl (tgt := 17) (by decide) (fun z7 => ?_) (fun z7 => ?_)
  · exact s_sub [] rfl (b_X9_play_17 X q12.2)
  · refine s_aload_n (i := 5) rfl 0 rfl ?_
    refine s_getI (i := 6) rfl xf_9_97.r rfl (fun v13 => ?_)
    refine s_ifne (i := 7) rfl (tgt := 20) (by decide) (fun z14 => ?_) (fun z14 => ?_)
    · exact s_sub [] rfl (b_X9_play_17 X q12.2)
    · refine s_aload_n (i := 10) rfl 0 rfl ?_
      refine s_iload_n (i := 11) rfl 1 rfl ?_
      refine u_callVv (kk := 9) [tI a1] a0 [] rfl (i := 12) rfl (c_X9_goesByTurns q12.2 a0 a1) xm_X9_goesByTurns (tw1336) rfl (Nat.le_of_ble_eq_true rfl) (xRm.of rfl) ⟨rfl, rfl⟩ (fun q14 => ?_)
      refine s_iconst (i := 13) rfl (v := (0 : Int32)) (by decide) ?_
      refine s_istore_n (i := 14) rfl (Nat.le_of_ble_eq_true rfl) (ls2 := [(2, tI ((0 : Int32))), (0, tA a0), (1, tI a1)]) rfl ?_
      exact s_sub [1, 2, 0] rfl (b_X9_play_27 X FU q14 a0 a1 ((0 : Int32)))
def y_X9_sheetWrong : MethodName := ⟨"OpensAtNineModel", "sheetWrong", "(I)I"⟩
def T_X9_sheetWrong : List (Nat × Instr × Nat × Nat) := [(0, .iload_n 1, 1, 1), (1, .iconst 0, 1, 2), (2, .iconst 3, 1, 3), (3, .invokestatic 100, 3, 6), (6, .ifCond .ne 6, 3, 9), (9, .bipush (-2), 2, 11), (11, .ireturn, 1, 12), (12, .aload_n 0, 1, 13), (13, .getfield 41, 3, 16), (16, .iload_n 1, 1, 17), (17, .iaload, 1, 18), (18, .iconst (-1), 1, 19), (19, .if_icmp .ne 6, 3, 22), (22, .bipush (-11), 2, 24), (24, .ireturn, 1, 25), (25, .aload_n 0, 1, 26), (26, .getfield 44, 3, 29), (29, .iload_n 1, 1, 30), (30, .iaload, 1, 31), (31, .iconst 2, 1, 32), (32, .irem, 1, 33), (33, .ifCond .ne 7, 3, 36), (36, .iconst 0, 1, 37), (37, .goto 5, 3, 40), (40, .bipush (-2), 2, 42), (42, .ireturn, 1, 43)]
def I_X9_sheetWrong : MI := (prog_11_method_64_code, 2, (some .int), "OpensAtNineModel", "sheetWrong", T_X9_sheetWrong, 0, 0, 2, 82)
theorem dT_X9_sheetWrong : ∀ q ∈ T_X9_sheetWrong, decode prog_11_method_64_code q.1 = .ok (q.2.1, q.2.2.1) ∧ q.2.2.2 = q.1 + q.2.2.1 := by decide +kernel
theorem xm_X9_sheetWrong : xCM y_X9_sheetWrong I_X9_sheetWrong 9 1 := ⟨⟨tw1370, tw64⟩, tw84, tw1371, ⟨xT9, 49, rfl⟩, ⟨by decide +kernel, by decide +kernel, by decide +kernel⟩⟩
noncomputable def f_X9_sheetWrong_42 (h : XM) (s0 : Int32) : Option (Int32 × XM) := some (s0, h)
noncomputable def f_X9_sheetWrong (h : XM) (a0 : Option Nat) (a1 : Int32) : Option (Int32 × XM) := (f_X9_in h a1 ((0 : Int32)) ((3 : Int32))).bind fun q1 => if q1.1 = 0 then (some ((-2 : Int32), q1.2)) else ((gR q1.2 9 a0 20).bind fun v2 => (rI q1.2 v2 a1).bind fun v3 => if v3 = ((-1 : Int32)) then (some ((-11 : Int32), q1.2)) else ((gR q1.2 9 a0 21).bind fun v4 => (rI q1.2 v4 a1).bind fun v5 => (irem v5 ((2 : Int32))).bind fun v6 => if v6 = 0 then (f_X9_sheetWrong_42 q1.2 ((0 : Int32))) else (f_X9_sheetWrong_42 q1.2 ((-2 : Int32)))))
theorem b_X9_sheetWrong_42 (X : XX) (h : XM) (s0 : Int32) : SW X I_X9_sheetWrong ρi 42 [] [tI s0] h 0 0 (f_X9_sheetWrong_42 h s0) := by
  unfold f_X9_sheetWrong_42
  exact s_iret (i := 25) rfl rfl
theorem c_X9_sheetWrong (h : XM) (a0 : Option Nat) (a1 : Int32) : MC I_X9_sheetWrong y_X9_sheetWrong [tA a0, tI a1] h ρi (f_X9_sheetWrong h a0 a1) := by
  refine MC_of ⟨by decide +kernel, rfl, rfl, Nat.le_of_ble_eq_true rfl⟩ dT_X9_sheetWrong (fun X => ?_)
  show SW X I_X9_sheetWrong ρi 0 [(0, tA a0), (1, tI a1)] [] h 0 0 (f_X9_sheetWrong h a0 a1)
  unfold f_X9_sheetWrong
  refine s_iload_n (i := 0) rfl 1 rfl ?_
  refine s_iconst (i := 1) rfl (v := (0 : Int32)) (by decide) ?_
  refine s_iconst (i := 2) rfl (v := (3 : Int32)) (by decide) ?_
  refine u_callSi [tI a1, tI ((0 : Int32)), tI ((3 : Int32))] [] rfl (i := 3) rfl (c_X9_in h a1 ((0 : Int32)) ((3 : Int32))) xm_X9_in (tw974) rfl (Nat.le_of_ble_eq_true rfl) (xRm.of rfl) ⟨rfl, rfl⟩ (fun q1 => ?_)
  refine s_ifne (i := 4) rfl (tgt := 12) (by decide) (fun z6 => ?_) (fun z6 => ?_)
  · refine s_bipush (i := 5) rfl (v := (-2 : Int32)) (by decide) ?_
    exact s_iret (i := 6) rfl rfl
  · refine s_aload_n (i := 7) rfl 0 rfl ?_
    refine s_getR (i := 8) rfl xf_9_41.r rfl (fun v2 => ?_)
    refine s_iload_n (i := 9) rfl 1 rfl ?_
    refine s_iaload (i := 10) rfl (fun v3 => ?_)
    refine s_iconst (i := 11) rfl (v := (-1 : Int32)) (by decide) ?_
    refine s_icmpne (i := 12) rfl (tgt := 25) (by decide) (fun z19 => ?_) (fun z19 => ?_)
    · refine s_bipush (i := 13) rfl (v := (-11 : Int32)) (by decide) ?_
      exact s_iret (i := 14) rfl rfl
    · refine s_aload_n (i := 15) rfl 0 rfl ?_
      refine s_getR (i := 16) rfl xf_9_44.r rfl (fun v4 => ?_)
      refine s_iload_n (i := 17) rfl 1 rfl ?_
      refine s_iaload (i := 18) rfl (fun v5 => ?_)
      refine s_iconst (i := 19) rfl (v := (2 : Int32)) (by decide) ?_
      refine s_irem (i := 20) rfl (fun v6 => ?_)
      refine s_ifne (i := 21) rfl (tgt := 40) (by decide) (fun z33 => ?_) (fun z33 => ?_)
      · refine s_iconst (i := 22) rfl (v := (0 : Int32)) (by decide) ?_
        refine s_goto (i := 23) rfl (tgt := 42) (by decide) ?_
        exact s_sub [] rfl (b_X9_sheetWrong_42 X q1.2 ((0 : Int32)))
      · refine s_bipush (i := 24) rfl (v := (-2 : Int32)) (by decide) ?_
        exact s_sub [] rfl (b_X9_sheetWrong_42 X q1.2 ((-2 : Int32)))
def y_X9_isWhole : MethodName := ⟨"OpensAtNineModel", "isWhole", "(II)Z"⟩
def T_X9_isWhole : List (Nat × Instr × Nat × Nat) := [(0, .iload_n 0, 1, 1), (1, .iload_n 1, 1, 2), (2, .irem, 1, 3), (3, .ifCond .ne 7, 3, 6), (6, .iconst 1, 1, 7), (7, .goto 4, 3, 10), (10, .iconst 0, 1, 11), (11, .ireturn, 1, 12)]
def I_X9_isWhole : MI := (prog_11_method_65_code, 2, (some .boolean), "OpensAtNineModel", "isWhole", T_X9_isWhole, 0, 0, 1, 60)
theorem dT_X9_isWhole : ∀ q ∈ T_X9_isWhole, decode prog_11_method_65_code q.1 = .ok (q.2.1, q.2.2.1) ∧ q.2.2.2 = q.1 + q.2.2.1 := by decide +kernel
theorem xm_X9_isWhole : xCS y_X9_isWhole I_X9_isWhole 2 := ⟨tw1377, tw84, tw1378, ⟨by decide +kernel, by decide +kernel, by decide +kernel⟩⟩
noncomputable def f_X9_isWhole_11 (h : XM) (s0 : Int32) : Option (Int32 × XM) := rz h s0
noncomputable def f_X9_isWhole (h : XM) (a0 : Int32) (a1 : Int32) : Option (Int32 × XM) := (irem a0 a1).bind fun v1 => if v1 = 0 then (f_X9_isWhole_11 h ((1 : Int32))) else (f_X9_isWhole_11 h ((0 : Int32)))
theorem b_X9_isWhole_11 (X : XX) (h : XM) (s0 : Int32) : SW X I_X9_isWhole ρi 11 [] [tI s0] h 0 0 (f_X9_isWhole_11 h s0) := by
  unfold f_X9_isWhole_11
  exact s_zret (i := 7) rfl rfl
theorem c_X9_isWhole (h : XM) (a0 : Int32) (a1 : Int32) : MC I_X9_isWhole y_X9_isWhole [tI a0, tI a1] h ρi (f_X9_isWhole h a0 a1) := by
  refine MC_of ⟨by decide +kernel, rfl, rfl, Nat.le_of_ble_eq_true rfl⟩ dT_X9_isWhole (fun X => ?_)
  show SW X I_X9_isWhole ρi 0 [(0, tI a0), (1, tI a1)] [] h 0 0 (f_X9_isWhole h a0 a1)
  unfold f_X9_isWhole
  refine s_iload_n (i := 0) rfl 0 rfl ?_
  refine s_iload_n (i := 1) rfl 1 rfl ?_
  refine s_irem (i := 2) rfl (fun v1 => ?_)
  refine s_ifne (i := 3) rfl (tgt := 10) (by decide) (fun z3 => ?_) (fun z3 => ?_)
  · refine s_iconst (i := 4) rfl (v := (1 : Int32)) (by decide) ?_
    refine s_goto (i := 5) rfl (tgt := 11) (by decide) ?_
    exact s_sub [] rfl (b_X9_isWhole_11 X h ((1 : Int32)))
  · refine s_iconst (i := 6) rfl (v := (0 : Int32)) (by decide) ?_
    exact s_sub [] rfl (b_X9_isWhole_11 X h ((0 : Int32)))
def y_X9_numbersFor : MethodName := ⟨"OpensAtNineModel", "numbersFor", "(II)I"⟩
def T_X9_numbersFor : List (Nat × Instr × Nat × Nat) := [(0, .iconst 0, 1, 1), (1, .istore_n 3, 1, 2), (2, .iconst 2, 1, 3), (3, .istore 4, 2, 5), (5, .iload 4, 2, 7), (7, .bipush 20, 2, 9), (9, .if_icmp .gt 127, 3, 12), (12, .iconst 1, 1, 13), (13, .istore 5, 2, 15), (15, .aload_n 0, 1, 16), (16, .iload_n 2, 1, 17), (17, .putfield 308, 3, 20), (20, .iconst 0, 1, 21), (21, .istore 6, 2, 23), (23, .iload 6, 2, 25), (25, .aload_n 0, 1, 26), (26, .getfield 44, 3, 29), (29, .iload_n 1, 1, 30), (30, .iaload, 1, 31), (31, .iconst 2, 1, 32), (32, .idiv, 1, 33), (33, .if_icmp .ge 81, 3, 36), (36, .aload_n 0, 1, 37), (37, .dup, 1, 38), (38, .getfield 308, 3, 41), (41, .aload_n 0, 1, 42), (42, .getfield 47, 3, 45), (45, .bipush 40, 2, 47), (47, .iload_n 1, 1, 48), (48, .imul, 1, 49), (49, .iconst 2, 1, 50), (50, .iload 6, 2, 52), (52, .imul, 1, 53), (53, .iadd, 1, 54), (54, .iaload, 1, 55), (55, .iadd, 1, 56), (56, .putfield 308, 3, 59), (59, .iload 5, 2, 61), (61, .ifCond .eq 44, 3, 64), (64, .aload_n 0, 1, 65), (65, .getfield 308, 3, 68), (68, .iload 4, 2, 70), (70, .invokestatic 311, 3, 73), (73, .aload_n 0, 1, 74), (74, .getfield 47, 3, 77), (77, .bipush 40, 2, 79), (79, .iload_n 1, 1, 80), (80, .imul, 1, 81), (81, .iconst 2, 1, 82), (82, .iload 6, 2, 84), (84, .imul, 1, 85), (85, .iadd, 1, 86), (86, .iconst 1, 1, 87), (87, .iadd, 1, 88), (88, .iaload, 1, 89), (89, .iconst 1, 1, 90), (90, .if_icmp .ne 7, 3, 93), (93, .iconst 1, 1, 94), (94, .goto 4, 3, 97), (97, .iconst 0, 1, 98), (98, .if_icmp .ne 7, 3, 101), (101, .iconst 1, 1, 102), (102, .goto 4, 3, 105), (105, .iconst 0, 1, 106), (106, .istore 5, 2, 108), (108, .iinc 6 1, 3, 111), (111, .goto (-88), 3, 114), (114, .iload_n 3, 1, 115), (115, .iload 5, 2, 117), (117, .ifCond .eq 10, 3, 120), (120, .iconst 1, 1, 121), (121, .iload 4, 2, 123), (123, .ishl, 1, 124), (124, .goto 4, 3, 127), (127, .iconst 0, 1, 128), (128, .ior, 1, 129), (129, .istore_n 3, 1, 130), (130, .iinc 4 1, 3, 133), (133, .goto (-128), 3, 136), (136, .iload_n 3, 1, 137), (137, .ireturn, 1, 138)]
def I_X9_numbersFor : MI := (prog_11_method_66_code, 7, (some .int), "OpensAtNineModel", "numbersFor", T_X9_numbersFor, 0, 0, 2, 81)
theorem dT_X9_numbersFor : ∀ q ∈ T_X9_numbersFor, decode prog_11_method_66_code q.1 = .ok (q.2.1, q.2.2.1) ∧ q.2.2.2 = q.1 + q.2.2.1 := by decide +kernel
theorem xm_X9_numbersFor : xCM y_X9_numbersFor I_X9_numbersFor 9 2 := ⟨⟨tw1374, tw65⟩, tw84, tw1375, ⟨xT9, 49, rfl⟩, ⟨by decide +kernel, by decide +kernel, by decide +kernel⟩⟩
noncomputable def f_X9_numbersFor_106 (k_5 : XM → Option Nat → Int32 → Int32 → Int32 → Int32 → Option (Int32 × XM)) (k_23 : XM → Option Nat → Int32 → Int32 → Int32 → Int32 → Int32 → Int32 → Option (Int32 × XM)) (h : XM) (l0 : Option Nat) (l1 : Int32) (l2 : Int32) (l3 : Int32) (l4 : Int32) (l6 : Int32) (s0 : Int32) : Option (Int32 × XM) := bnd (l6 + (1 : Int32)) fun v1 => k_23 h l0 l1 l2 l3 l4 s0 v1
noncomputable def f_X9_numbersFor_105 (k_5 : XM → Option Nat → Int32 → Int32 → Int32 → Int32 → Option (Int32 × XM)) (k_23 : XM → Option Nat → Int32 → Int32 → Int32 → Int32 → Int32 → Int32 → Option (Int32 × XM)) (h : XM) (l0 : Option Nat) (l1 : Int32) (l2 : Int32) (l3 : Int32) (l4 : Int32) (l6 : Int32) : Option (Int32 × XM) := f_X9_numbersFor_106 k_5 k_23 h l0 l1 l2 l3 l4 l6 ((0 : Int32))
noncomputable def f_X9_numbersFor_98 (k_5 : XM → Option Nat → Int32 → Int32 → Int32 → Int32 → Option (Int32 × XM)) (k_23 : XM → Option Nat → Int32 → Int32 → Int32 → Int32 → Int32 → Int32 → Option (Int32 × XM)) (h : XM) (l0 : Option Nat) (l1 : Int32) (l2 : Int32) (l3 : Int32) (l4 : Int32) (l6 : Int32) (s0 : Int32) (s1 : Int32) : Option (Int32 × XM) := if s1 = s0 then (f_X9_numbersFor_106 k_5 k_23 h l0 l1 l2 l3 l4 l6 ((1 : Int32))) else (f_X9_numbersFor_105 k_5 k_23 h l0 l1 l2 l3 l4 l6)
noncomputable def f_X9_numbersFor_128 (k_5 : XM → Option Nat → Int32 → Int32 → Int32 → Int32 → Option (Int32 × XM)) (h : XM) (l0 : Option Nat) (l1 : Int32) (l2 : Int32) (l4 : Int32) (s0 : Int32) (s1 : Int32) : Option (Int32 × XM) := bnd (s1 ||| s0) fun v2 => bnd (l4 + (1 : Int32)) fun v3 => k_5 h l0 l1 l2 v2 v3
noncomputable def fb_X9_numbersFor_23 (k_5 : XM → Option Nat → Int32 → Int32 → Int32 → Int32 → Option (Int32 × XM)) (k_23 : XM → Option Nat → Int32 → Int32 → Int32 → Int32 → Int32 → Int32 → Option (Int32 × XM)) (h : XM) (l0 : Option Nat) (l1 : Int32) (l2 : Int32) (l3 : Int32) (l4 : Int32) (l5 : Int32) (l6 : Int32) : Option (Int32 × XM) := (gR h 9 l0 21).bind fun v4 => (rI h v4 l1).bind fun v5 => (idiv v5 ((2 : Int32))).bind fun v6 => if l6 < v6 then ((gI h 9 l0 48).bind fun v7 => (gR h 9 l0 22).bind fun v8 => (rI h v8 ((((40 : Int32)) * l1) + (((2 : Int32)) * l6))).bind fun v9 => (pI h 9 l0 48 (v7 + v9)).bind fun h10 => if l5 = 0 then (f_X9_numbersFor_105 k_5 k_23 h10 l0 l1 l2 l3 l4 l6) else ((gI h10 9 l0 48).bind fun v11 => (f_X9_isWhole h10 v11 l4).bind fun q12 => (gR q12.2 9 l0 22).bind fun v13 => (rI q12.2 v13 (((((40 : Int32)) * l1) + (((2 : Int32)) * l6)) + ((1 : Int32)))).bind fun v14 => if v14 = ((1 : Int32)) then (f_X9_numbersFor_98 k_5 k_23 q12.2 l0 l1 l2 l3 l4 l6 ((1 : Int32)) q12.1) else (f_X9_numbersFor_98 k_5 k_23 q12.2 l0 l1 l2 l3 l4 l6 ((0 : Int32)) q12.1))) else (if l5 = 0 then (f_X9_numbersFor_128 k_5 h l0 l1 l2 l4 ((0 : Int32)) l3) else (f_X9_numbersFor_128 k_5 h l0 l1 l2 l4 (((1 : Int32)) <<< (l4 &&& 31)) l3))
noncomputable def f_X9_numbersFor_23 (k_5 : XM → Option Nat → Int32 → Int32 → Int32 → Int32 → Option (Int32 × XM)) (n : Nat) : XM → Option Nat → Int32 → Int32 → Int32 → Int32 → Int32 → Int32 → Option (Int32 × XM) := Nat.rec (motive := fun _ => XM → Option Nat → Int32 → Int32 → Int32 → Int32 → Int32 → Int32 → Option (Int32 × XM)) (fun _ _ _ _ _ _ _ _ => none) (fun _ ih h l0 l1 l2 l3 l4 l5 l6 => fb_X9_numbersFor_23 k_5 ih h l0 l1 l2 l3 l4 l5 l6) n
noncomputable def fb_X9_numbersFor_5 (k_5 : XM → Option Nat → Int32 → Int32 → Int32 → Int32 → Option (Int32 × XM)) (h : XM) (l0 : Option Nat) (l1 : Int32) (l2 : Int32) (l3 : Int32) (l4 : Int32) : Option (Int32 × XM) := if ((20 : Int32)) < l4 then (some (l3, h)) else ((pI h 9 l0 48 l2).bind fun h15 => f_X9_numbersFor_23 k_5 FU h15 l0 l1 l2 l3 l4 ((1 : Int32)) ((0 : Int32)))
noncomputable def f_X9_numbersFor_5 (n : Nat) : XM → Option Nat → Int32 → Int32 → Int32 → Int32 → Option (Int32 × XM) := Nat.rec (motive := fun _ => XM → Option Nat → Int32 → Int32 → Int32 → Int32 → Option (Int32 × XM)) (fun _ _ _ _ _ _ => none) (fun _ ih h l0 l1 l2 l3 l4 => fb_X9_numbersFor_5 ih h l0 l1 l2 l3 l4) n
noncomputable def f_X9_numbersFor (h : XM) (a0 : Option Nat) (a1 : Int32) (a2 : Int32) : Option (Int32 × XM) := f_X9_numbersFor_5 FU h a0 a1 a2 ((0 : Int32)) ((2 : Int32))
theorem b_X9_numbersFor_106 (X : XX) (k_5 : XM → Option Nat → Int32 → Int32 → Int32 → Int32 → Option (Int32 × XM)) (k_23 : XM → Option Nat → Int32 → Int32 → Int32 → Int32 → Int32 → Int32 → Option (Int32 × XM)) (hk_5 : ∀ h l0 l1 l2 l3 l4, SW X I_X9_numbersFor ρi 5 [(0, tA l0), (1, tI l1), (2, tI l2), (3, tI l3), (4, tI l4)] [] h 0 0 (k_5 h l0 l1 l2 l3 l4)) (hk_23 : ∀ h l0 l1 l2 l3 l4 l5 l6, SW X I_X9_numbersFor ρi 23 [(0, tA l0), (1, tI l1), (2, tI l2), (3, tI l3), (4, tI l4), (5, tI l5), (6, tI l6)] [] h 0 0 (k_23 h l0 l1 l2 l3 l4 l5 l6)) (h : XM) (l0 : Option Nat) (l1 : Int32) (l2 : Int32) (l3 : Int32) (l4 : Int32) (l6 : Int32) (s0 : Int32) : SW X I_X9_numbersFor ρi 106 [(0, tA l0), (1, tI l1), (2, tI l2), (3, tI l3), (4, tI l4), (6, tI l6)] [tI s0] h 0 0 (f_X9_numbersFor_106 k_5 k_23 h l0 l1 l2 l3 l4 l6 s0) := by
  unfold f_X9_numbersFor_106
  refine s_istore (i := 64) rfl (Nat.le_of_ble_eq_true rfl) (ls2 := [(5, tI s0), (0, tA l0), (1, tI l1), (2, tI l2), (3, tI l3), (4, tI l4), (6, tI l6)]) rfl ?_
  refine s_inc (i := 65) rfl 6 rfl (c9 := (1 : Int32)) (by decide) (Nat.le_of_ble_eq_true rfl) (fun v1 => ?_)
  refine s_ls (ls2 := [(6, tI v1), (5, tI s0), (0, tA l0), (1, tI l1), (2, tI l2), (3, tI l3), (4, tI l4)]) rfl ?_
  refine s_goto (i := 66) rfl (tgt := 23) (by decide) ?_
  exact s_sub [2, 3, 4, 5, 6, 1, 0] rfl (hk_23 h l0 l1 l2 l3 l4 s0 v1)
theorem b_X9_numbersFor_105 (X : XX) (k_5 : XM → Option Nat → Int32 → Int32 → Int32 → Int32 → Option (Int32 × XM)) (k_23 : XM → Option Nat → Int32 → Int32 → Int32 → Int32 → Int32 → Int32 → Option (Int32 × XM)) (hk_5 : ∀ h l0 l1 l2 l3 l4, SW X I_X9_numbersFor ρi 5 [(0, tA l0), (1, tI l1), (2, tI l2), (3, tI l3), (4, tI l4)] [] h 0 0 (k_5 h l0 l1 l2 l3 l4)) (hk_23 : ∀ h l0 l1 l2 l3 l4 l5 l6, SW X I_X9_numbersFor ρi 23 [(0, tA l0), (1, tI l1), (2, tI l2), (3, tI l3), (4, tI l4), (5, tI l5), (6, tI l6)] [] h 0 0 (k_23 h l0 l1 l2 l3 l4 l5 l6)) (h : XM) (l0 : Option Nat) (l1 : Int32) (l2 : Int32) (l3 : Int32) (l4 : Int32) (l6 : Int32) : SW X I_X9_numbersFor ρi 105 [(0, tA l0), (1, tI l1), (2, tI l2), (3, tI l3), (4, tI l4), (6, tI l6)] [] h 0 0 (f_X9_numbersFor_105 k_5 k_23 h l0 l1 l2 l3 l4 l6) := by
  unfold f_X9_numbersFor_105
  refine s_iconst (i := 63) rfl (v := (0 : Int32)) (by decide) ?_
  exact s_sub [0, 1, 2, 3, 4, 5] rfl (b_X9_numbersFor_106 X k_5 k_23 hk_5 hk_23 h l0 l1 l2 l3 l4 l6 ((0 : Int32)))
theorem b_X9_numbersFor_98 (X : XX) (k_5 : XM → Option Nat → Int32 → Int32 → Int32 → Int32 → Option (Int32 × XM)) (k_23 : XM → Option Nat → Int32 → Int32 → Int32 → Int32 → Int32 → Int32 → Option (Int32 × XM)) (hk_5 : ∀ h l0 l1 l2 l3 l4, SW X I_X9_numbersFor ρi 5 [(0, tA l0), (1, tI l1), (2, tI l2), (3, tI l3), (4, tI l4)] [] h 0 0 (k_5 h l0 l1 l2 l3 l4)) (hk_23 : ∀ h l0 l1 l2 l3 l4 l5 l6, SW X I_X9_numbersFor ρi 23 [(0, tA l0), (1, tI l1), (2, tI l2), (3, tI l3), (4, tI l4), (5, tI l5), (6, tI l6)] [] h 0 0 (k_23 h l0 l1 l2 l3 l4 l5 l6)) (h : XM) (l0 : Option Nat) (l1 : Int32) (l2 : Int32) (l3 : Int32) (l4 : Int32) (l6 : Int32) (s0 : Int32) (s1 : Int32) : SW X I_X9_numbersFor ρi 98 [(0, tA l0), (1, tI l1), (2, tI l2), (3, tI l3), (4, tI l4), (6, tI l6)] [tI s0, tI s1] h 0 0 (f_X9_numbersFor_98 k_5 k_23 h l0 l1 l2 l3 l4 l6 s0 s1) := by
  unfold f_X9_numbersFor_98
  refine s_icmpne (i := 60) rfl (tgt := 105) (by decide) (fun z98 => ?_) (fun z98 => ?_)
  · refine s_iconst (i := 61) rfl (v := (1 : Int32)) (by decide) ?_
    refine s_goto (i := 62) rfl (tgt := 106) (by decide) ?_
    exact s_sub [0, 1, 2, 3, 4, 5] rfl (b_X9_numbersFor_106 X k_5 k_23 hk_5 hk_23 h l0 l1 l2 l3 l4 l6 ((1 : Int32)))
  · exact s_sub [0, 1, 2, 3, 4, 5] rfl (b_X9_numbersFor_105 X k_5 k_23 hk_5 hk_23 h l0 l1 l2 l3 l4 l6)
theorem b_X9_numbersFor_128 (X : XX) (k_5 : XM → Option Nat → Int32 → Int32 → Int32 → Int32 → Option (Int32 × XM)) (hk_5 : ∀ h l0 l1 l2 l3 l4, SW X I_X9_numbersFor ρi 5 [(0, tA l0), (1, tI l1), (2, tI l2), (3, tI l3), (4, tI l4)] [] h 0 0 (k_5 h l0 l1 l2 l3 l4)) (h : XM) (l0 : Option Nat) (l1 : Int32) (l2 : Int32) (l4 : Int32) (s0 : Int32) (s1 : Int32) : SW X I_X9_numbersFor ρi 128 [(0, tA l0), (1, tI l1), (2, tI l2), (4, tI l4)] [tI s0, tI s1] h 0 0 (f_X9_numbersFor_128 k_5 h l0 l1 l2 l4 s0 s1) := by
  unfold f_X9_numbersFor_128
  refine s_ior (i := 75) rfl ?_
  refine s_bnd (fun v2 => ?_)
  refine s_istore_n (i := 76) rfl (Nat.le_of_ble_eq_true rfl) (ls2 := [(3, tI v2), (0, tA l0), (1, tI l1), (2, tI l2), (4, tI l4)]) rfl ?_
  refine s_inc (i := 77) rfl 4 rfl (c9 := (1 : Int32)) (by decide) (Nat.le_of_ble_eq_true rfl) (fun v3 => ?_)
  refine s_ls (ls2 := [(4, tI v3), (3, tI v2), (0, tA l0), (1, tI l1), (2, tI l2)]) rfl ?_
  refine s_goto (i := 78) rfl (tgt := 5) (by decide) ?_
  exact s_sub [2, 3, 4, 1, 0] rfl (hk_5 h l0 l1 l2 v2 v3)
theorem bb_X9_numbersFor_23 (X : XX) (k_5 : XM → Option Nat → Int32 → Int32 → Int32 → Int32 → Option (Int32 × XM)) (k_23 : XM → Option Nat → Int32 → Int32 → Int32 → Int32 → Int32 → Int32 → Option (Int32 × XM)) (hk_5 : ∀ h l0 l1 l2 l3 l4, SW X I_X9_numbersFor ρi 5 [(0, tA l0), (1, tI l1), (2, tI l2), (3, tI l3), (4, tI l4)] [] h 0 0 (k_5 h l0 l1 l2 l3 l4)) (hk_23 : ∀ h l0 l1 l2 l3 l4 l5 l6, SW X I_X9_numbersFor ρi 23 [(0, tA l0), (1, tI l1), (2, tI l2), (3, tI l3), (4, tI l4), (5, tI l5), (6, tI l6)] [] h 0 0 (k_23 h l0 l1 l2 l3 l4 l5 l6)) (h : XM) (l0 : Option Nat) (l1 : Int32) (l2 : Int32) (l3 : Int32) (l4 : Int32) (l5 : Int32) (l6 : Int32) : SW X I_X9_numbersFor ρi 23 [(0, tA l0), (1, tI l1), (2, tI l2), (3, tI l3), (4, tI l4), (5, tI l5), (6, tI l6)] [] h 0 0 (fb_X9_numbersFor_23 k_5 k_23 h l0 l1 l2 l3 l4 l5 l6) := by
  unfold fb_X9_numbersFor_23
  refine s_iload (i := 14) rfl 6 rfl ?_
  refine s_aload_n (i := 15) rfl 0 rfl ?_
  refine s_getR (i := 16) rfl xf_9_44.r rfl (fun v4 => ?_)
  refine s_iload_n (i := 17) rfl 1 rfl ?_
  refine s_iaload (i := 18) rfl (fun v5 => ?_)
  refine s_iconst (i := 19) rfl (v := (2 : Int32)) (by decide) ?_
  refine s_idiv (i := 20) rfl (fun v6 => ?_)
  refine s_icmpge (i := 21) rfl (tgt := 114) (by decide) (fun z33 => ?_) (fun z33 => ?_)
  · refine s_aload_n (i := 22) rfl 0 rfl ?_
    refine s_dup (i := 23) rfl rfl ?_
    refine s_getI (i := 24) rfl xf_9_308.r rfl (fun v7 => ?_)
    refine s_aload_n (i := 25) rfl 0 rfl ?_
    refine s_getR (i := 26) rfl xf_9_47.r rfl (fun v8 => ?_)
    refine s_bipush (i := 27) rfl (v := (40 : Int32)) (by decide) ?_
    refine s_iload_n (i := 28) rfl 1 rfl ?_
    refine s_imul (i := 29) rfl ?_
    refine s_iconst (i := 30) rfl (v := (2 : Int32)) (by decide) ?_
    refine s_iload (i := 31) rfl 6 rfl ?_
    refine s_imul (i := 32) rfl ?_
    refine s_iadd (i := 33) rfl ?_
    refine s_iaload (i := 34) rfl (fun v9 => ?_)
    refine s_iadd (i := 35) rfl ?_
    refine s_putI (i := 36) rfl xf_9_308 (fun q => by cases q) rfl rfl (fun h10 => ?_)
    refine s_iload (i := 37) rfl 5 rfl ?_
    refine s_ifeq (i := 38) rfl (tgt := 105) (by decide) (fun z61 => ?_) (fun z61 => ?_)
    · exact s_sub [0, 1, 2, 3, 4, 6] rfl (b_X9_numbersFor_105 X k_5 k_23 hk_5 hk_23 h10 l0 l1 l2 l3 l4 l6)
    · refine s_aload_n (i := 39) rfl 0 rfl ?_
      refine s_getI (i := 40) rfl xf_9_308.r rfl (fun v11 => ?_)
      refine s_iload (i := 41) rfl 4 rfl ?_
      refine u_callSi [tI v11, tI l4] [] rfl (i := 42) rfl (c_X9_isWhole h10 v11 l4) xm_X9_isWhole (tw1376) rfl (Nat.le_of_ble_eq_true rfl) (xRm.of rfl) ⟨rfl, rfl⟩ (fun q12 => ?_)
      refine s_aload_n (i := 43) rfl 0 rfl ?_
      refine s_getR (i := 44) rfl xf_9_47.r rfl (fun v13 => ?_)
      refine s_bipush (i := 45) rfl (v := (40 : Int32)) (by decide) ?_
      refine s_iload_n (i := 46) rfl 1 rfl ?_
      refine s_imul (i := 47) rfl ?_
      refine s_iconst (i := 48) rfl (v := (2 : Int32)) (by decide) ?_
      refine s_iload (i := 49) rfl 6 rfl ?_
      refine s_imul (i := 50) rfl ?_
      refine s_iadd (i := 51) rfl ?_
      refine s_iconst (i := 52) rfl (v := (1 : Int32)) (by decide) ?_
      refine s_iadd (i := 53) rfl ?_
      refine s_iaload (i := 54) rfl (fun v14 => ?_)
      refine s_iconst (i := 55) rfl (v := (1 : Int32)) (by decide) ?_
      refine s_icmpne (i := 56) rfl (tgt := 97) (by decide) (fun z90 => ?_) (fun z90 => ?_)
      · refine s_iconst (i := 57) rfl (v := (1 : Int32)) (by decide) ?_
        refine s_goto (i := 58) rfl (tgt := 98) (by decide) ?_
        exact s_sub [0, 1, 2, 3, 4, 6] rfl (b_X9_numbersFor_98 X k_5 k_23 hk_5 hk_23 q12.2 l0 l1 l2 l3 l4 l6 ((1 : Int32)) q12.1)
      · refine s_iconst (i := 59) rfl (v := (0 : Int32)) (by decide) ?_
        exact s_sub [0, 1, 2, 3, 4, 6] rfl (b_X9_numbersFor_98 X k_5 k_23 hk_5 hk_23 q12.2 l0 l1 l2 l3 l4 l6 ((0 : Int32)) q12.1)
  · refine s_iload_n (i := 67) rfl 3 rfl ?_
    refine s_iload (i := 68) rfl 5 rfl ?_
    refine s_ifeq (i := 69) rfl (tgt := 127) (by decide) (fun z117 => ?_) (fun z117 => ?_)
    · refine s_iconst (i := 74) rfl (v := (0 : Int32)) (by decide) ?_
      exact s_sub [0, 1, 2, 4] rfl (b_X9_numbersFor_128 X k_5 hk_5 h l0 l1 l2 l4 ((0 : Int32)) l3)
    · refine s_iconst (i := 70) rfl (v := (1 : Int32)) (by decide) ?_
      refine s_iload (i := 71) rfl 4 rfl ?_
      refine s_ishl (i := 72) rfl ?_
      refine s_goto (i := 73) rfl (tgt := 128) (by decide) ?_
      exact s_sub [0, 1, 2, 4] rfl (b_X9_numbersFor_128 X k_5 hk_5 h l0 l1 l2 l4 (((1 : Int32)) <<< (l4 &&& 31)) l3)
theorem b_X9_numbersFor_23 (X : XX) (k_5 : XM → Option Nat → Int32 → Int32 → Int32 → Int32 → Option (Int32 × XM)) (hk_5 : ∀ h l0 l1 l2 l3 l4, SW X I_X9_numbersFor ρi 5 [(0, tA l0), (1, tI l1), (2, tI l2), (3, tI l3), (4, tI l4)] [] h 0 0 (k_5 h l0 l1 l2 l3 l4)) : ∀ (n : Nat) (h : XM) (l0 : Option Nat) (l1 : Int32) (l2 : Int32) (l3 : Int32) (l4 : Int32) (l5 : Int32) (l6 : Int32), SW X I_X9_numbersFor ρi 23 [(0, tA l0), (1, tI l1), (2, tI l2), (3, tI l3), (4, tI l4), (5, tI l5), (6, tI l6)] [] h 0 0 (f_X9_numbersFor_23 k_5 n h l0 l1 l2 l3 l4 l5 l6) := by
  intro n
  induction n with
  | zero =>
    intro h l0 l1 l2 l3 l4 l5 l6
    exact s_none
  | succ n ih =>
    intro h l0 l1 l2 l3 l4 l5 l6
    exact bb_X9_numbersFor_23 X k_5 (f_X9_numbersFor_23 k_5 n) hk_5 ih h l0 l1 l2 l3 l4 l5 l6
theorem bb_X9_numbersFor_5 (X : XX) (k_5 : XM → Option Nat → Int32 → Int32 → Int32 → Int32 → Option (Int32 × XM)) (hk_5 : ∀ h l0 l1 l2 l3 l4, SW X I_X9_numbersFor ρi 5 [(0, tA l0), (1, tI l1), (2, tI l2), (3, tI l3), (4, tI l4)] [] h 0 0 (k_5 h l0 l1 l2 l3 l4)) (h : XM) (l0 : Option Nat) (l1 : Int32) (l2 : Int32) (l3 : Int32) (l4 : Int32) : SW X I_X9_numbersFor ρi 5 [(0, tA l0), (1, tI l1), (2, tI l2), (3, tI l3), (4, tI l4)] [] h 0 0 (fb_X9_numbersFor_5 k_5 h l0 l1 l2 l3 l4) := by
  unfold fb_X9_numbersFor_5
  refine s_iload (i := 4) rfl 4 rfl ?_
  refine s_bipush (i := 5) rfl (v := (20 : Int32)) (by decide) ?_
  refine s_icmpgt (i := 6) rfl (tgt := 136) (by decide) (fun z9 => ?_) (fun z9 => ?_)
  · refine s_iload_n (i := 79) rfl 3 rfl ?_
    exact s_iret (i := 80) rfl rfl
  · refine s_iconst (i := 7) rfl (v := (1 : Int32)) (by decide) ?_
    refine s_istore (i := 8) rfl (Nat.le_of_ble_eq_true rfl) (ls2 := [(5, tI ((1 : Int32))), (0, tA l0), (1, tI l1), (2, tI l2), (3, tI l3), (4, tI l4)]) rfl ?_
    refine s_aload_n (i := 9) rfl 1 rfl ?_
    refine s_iload_n (i := 10) rfl 3 rfl ?_
    refine s_putI (i := 11) rfl xf_9_308 (fun q => by cases q) rfl rfl (fun h15 => ?_)
    refine s_iconst (i := 12) rfl (v := (0 : Int32)) (by decide) ?_
    refine s_istore (i := 13) rfl (Nat.le_of_ble_eq_true rfl) (ls2 := [(6, tI ((0 : Int32))), (5, tI ((1 : Int32))), (0, tA l0), (1, tI l1), (2, tI l2), (3, tI l3), (4, tI l4)]) rfl ?_
    exact s_sub [2, 3, 4, 5, 6, 1, 0] rfl (b_X9_numbersFor_23 X k_5 hk_5 FU h15 l0 l1 l2 l3 l4 ((1 : Int32)) ((0 : Int32)))
theorem b_X9_numbersFor_5 (X : XX) : ∀ (n : Nat) (h : XM) (l0 : Option Nat) (l1 : Int32) (l2 : Int32) (l3 : Int32) (l4 : Int32), SW X I_X9_numbersFor ρi 5 [(0, tA l0), (1, tI l1), (2, tI l2), (3, tI l3), (4, tI l4)] [] h 0 0 (f_X9_numbersFor_5 n h l0 l1 l2 l3 l4) := by
  intro n
  induction n with
  | zero =>
    intro h l0 l1 l2 l3 l4
    exact s_none
  | succ n ih =>
    intro h l0 l1 l2 l3 l4
    exact bb_X9_numbersFor_5 X (f_X9_numbersFor_5 n) ih h l0 l1 l2 l3 l4
theorem c_X9_numbersFor (h : XM) (a0 : Option Nat) (a1 : Int32) (a2 : Int32) : MC I_X9_numbersFor y_X9_numbersFor [tA a0, tI a1, tI a2] h ρi (f_X9_numbersFor h a0 a1 a2) := by
  refine MC_of ⟨by decide +kernel, rfl, rfl, Nat.le_of_ble_eq_true rfl⟩ dT_X9_numbersFor (fun X => ?_)
  show SW X I_X9_numbersFor ρi 0 [(0, tA a0), (1, tI a1), (2, tI a2)] [] h 0 0 (f_X9_numbersFor h a0 a1 a2)
  unfold f_X9_numbersFor
  refine s_iconst (i := 0) rfl (v := (0 : Int32)) (by decide) ?_
  refine s_istore_n (i := 1) rfl (Nat.le_of_ble_eq_true rfl) (ls2 := [(3, tI ((0 : Int32))), (0, tA a0), (1, tI a1), (2, tI a2)]) rfl ?_
  refine s_iconst (i := 2) rfl (v := (2 : Int32)) (by decide) ?_
  refine s_istore (i := 3) rfl (Nat.le_of_ble_eq_true rfl) (ls2 := [(4, tI ((2 : Int32))), (3, tI ((0 : Int32))), (0, tA a0), (1, tI a1), (2, tI a2)]) rfl ?_
  exact s_sub [2, 3, 4, 1, 0] rfl (b_X9_numbersFor_5 X FU h a0 a1 a2 ((0 : Int32)) ((2 : Int32)))
def y_X9_which : MethodName := ⟨"OpensAtNineModel", "which", "(II)I"⟩
def T_X9_which : List (Nat × Instr × Nat × Nat) := [(0, .aload_n 0, 1, 1), (1, .iload_n 1, 1, 2), (2, .invokevirtual 314, 3, 5), (5, .istore_n 3, 1, 6), (6, .iload_n 3, 1, 7), (7, .ifCond .eq 5, 3, 10), (10, .iload_n 3, 1, 11), (11, .ireturn, 1, 12), (12, .iload_n 2, 1, 13), (13, .iconst 0, 1, 14), (14, .sipush 9999, 3, 17), (17, .invokestatic 100, 3, 20), (20, .ifCond .eq 12, 3, 23), (23, .aload_n 0, 1, 24), (24, .iload_n 1, 1, 25), (25, .iload_n 2, 1, 26), (26, .invokevirtual 317, 3, 29), (29, .goto 5, 3, 32), (32, .bipush (-7), 2, 34), (34, .ireturn, 1, 35)]
def I_X9_which : MI := (prog_11_method_67_code, 4, (some .int), "OpensAtNineModel", "which", T_X9_which, 0, 0, 3, 107)
theorem dT_X9_which : ∀ q ∈ T_X9_which, decode prog_11_method_67_code q.1 = .ok (q.2.1, q.2.2.1) ∧ q.2.2.2 = q.1 + q.2.2.1 := by decide +kernel
theorem xm_X9_which : xCM y_X9_which I_X9_which 9 2 := ⟨⟨tw1365, tw1366⟩, tw84, tw1367, ⟨xT9, 49, rfl⟩, ⟨by decide +kernel, by decide +kernel, by decide +kernel⟩⟩
noncomputable def f_X9_which_34 (h : XM) (s0 : Int32) : Option (Int32 × XM) := some (s0, h)
noncomputable def f_X9_which (h : XM) (a0 : Option Nat) (a1 : Int32) (a2 : Int32) : Option (Int32 × XM) := (vc h 9 a0 (f_X9_sheetWrong h a0 a1)).bind fun q1 => if q1.1 = 0 then ((f_X9_in q1.2 a2 ((0 : Int32)) ((9999 : Int32))).bind fun q2 => if q2.1 = 0 then (f_X9_which_34 q2.2 ((-7 : Int32))) else ((vc q2.2 9 a0 (f_X9_numbersFor q2.2 a0 a1 a2)).bind fun q3 => f_X9_which_34 q3.2 q3.1)) else (some (q1.1, q1.2))
theorem b_X9_which_34 (X : XX) (h : XM) (s0 : Int32) : SW X I_X9_which ρi 34 [] [tI s0] h 0 0 (f_X9_which_34 h s0) := by
  unfold f_X9_which_34
  exact s_iret (i := 19) rfl rfl
theorem c_X9_which (h : XM) (a0 : Option Nat) (a1 : Int32) (a2 : Int32) : MC I_X9_which y_X9_which [tA a0, tI a1, tI a2] h ρi (f_X9_which h a0 a1 a2) := by
  refine MC_of ⟨by decide +kernel, rfl, rfl, Nat.le_of_ble_eq_true rfl⟩ dT_X9_which (fun X => ?_)
  show SW X I_X9_which ρi 0 [(0, tA a0), (1, tI a1), (2, tI a2)] [] h 0 0 (f_X9_which h a0 a1 a2)
  unfold f_X9_which
  refine s_aload_n (i := 0) rfl 0 rfl ?_
  refine s_iload_n (i := 1) rfl 1 rfl ?_
  refine u_callVi (kk := 9) [tI a1] a0 [] rfl (i := 2) rfl (c_X9_sheetWrong h a0 a1) xm_X9_sheetWrong (tw1368) rfl (Nat.le_of_ble_eq_true rfl) (xRm.of rfl) ⟨rfl, rfl⟩ (fun q1 => ?_)
  refine s_istore_n (i := 3) rfl (Nat.le_of_ble_eq_true rfl) (ls2 := [(3, tI q1.1), (0, tA a0), (1, tI a1), (2, tI a2)]) rfl ?_
  refine s_iload_n (i := 4) rfl 0 rfl ?_
  refine s_ifeq (i := 5) rfl (tgt := 12) (by decide) (fun z7 => ?_) (fun z7 => ?_)
  · refine s_iload_n (i := 8) rfl 3 rfl ?_
    refine s_iconst (i := 9) rfl (v := (0 : Int32)) (by decide) ?_
    refine s_sipush (i := 10) rfl (v := (9999 : Int32)) (by decide) ?_
    refine u_callSi [tI a2, tI ((0 : Int32)), tI ((9999 : Int32))] [] rfl (i := 11) rfl (c_X9_in q1.2 a2 ((0 : Int32)) ((9999 : Int32))) xm_X9_in (tw974) rfl (Nat.le_of_ble_eq_true rfl) (xRm.of rfl) ⟨rfl, rfl⟩ (fun q2 => ?_)
    refine s_ifeq (i := 12) rfl (tgt := 32) (by decide) (fun z20 => ?_) (fun z20 => ?_)
    · refine s_bipush (i := 18) rfl (v := (-7 : Int32)) (by decide) ?_
      exact s_sub [] rfl (b_X9_which_34 X q2.2 ((-7 : Int32)))
    · refine s_aload_n (i := 13) rfl 1 rfl ?_
      refine s_iload_n (i := 14) rfl 2 rfl ?_
      refine s_iload_n (i := 15) rfl 3 rfl ?_
      refine u_callVi (kk := 9) [tI a1, tI a2] a0 [] rfl (i := 16) rfl (c_X9_numbersFor q2.2 a0 a1 a2) xm_X9_numbersFor (tw1372) rfl (Nat.le_of_ble_eq_true rfl) (xRm.of rfl) ⟨rfl, rfl⟩ (fun q3 => ?_)
      refine s_goto (i := 17) rfl (tgt := 34) (by decide) ?_
      exact s_sub [] rfl (b_X9_which_34 X q3.2 q3.1)
  · refine s_iload_n (i := 6) rfl 0 rfl ?_
    exact s_iret (i := 7) rfl rfl
def y_X9_next_ : MethodName := ⟨"OpensAtNineModel", "next", "(III)I"⟩
def T_X9_next_ : List (Nat × Instr × Nat × Nat) := [(0, .aload_n 0, 1, 1), (1, .iload_n 1, 1, 2), (2, .invokevirtual 314, 3, 5), (5, .istore 4, 2, 7), (7, .iload 4, 2, 9), (9, .ifCond .eq 6, 3, 12), (12, .iload 4, 2, 14), (14, .ireturn, 1, 15), (15, .iload_n 2, 1, 16), (16, .iconst 0, 1, 17), (17, .sipush 9999, 3, 20), (20, .invokestatic 100, 3, 23), (23, .ifCond .eq 12, 3, 26), (26, .iload_n 3, 1, 27), (27, .iconst 0, 1, 28), (28, .iconst 1, 1, 29), (29, .invokestatic 100, 3, 32), (32, .ifCond .ne 6, 3, 35), (35, .bipush (-7), 2, 37), (37, .ireturn, 1, 38), (38, .aload_n 0, 1, 39), (39, .iload_n 1, 1, 40), (40, .iload_n 2, 1, 41), (41, .invokevirtual 317, 3, 44), (44, .istore 5, 2, 46), (46, .iconst 0, 1, 47), (47, .istore 6, 2, 49), (49, .iconst (-1), 1, 50), (50, .istore 7, 2, 52), (52, .iconst 1, 1, 53), (53, .istore 8, 2, 55), (55, .iload 8, 2, 57), (57, .bipush 30, 2, 59), (59, .if_icmp .gt 134, 3, 62), (62, .iconst 0, 1, 63), (63, .istore 9, 2, 65), (65, .iconst 2, 1, 66), (66, .istore 10, 2, 68), (68, .iload 10, 2, 70), (70, .bipush 20, 2, 72), (72, .if_icmp .gt 45, 3, 75), (75, .iload 9, 2, 77), (77, .iload 5, 2, 79), (79, .iload 10, 2, 81), (81, .ishr, 1, 82), (82, .iconst 1, 1, 83), (83, .iand, 1, 84), (84, .iconst 1, 1, 85), (85, .if_icmp .ne 22, 3, 88), (88, .aload_n 0, 1, 89), (89, .getfield 308, 3, 92), (92, .iload 8, 2, 94), (94, .iadd, 1, 95), (95, .iload 10, 2, 97), (97, .invokestatic 311, 3, 100), (100, .ifCond .eq 7, 3, 103), (103, .iconst 1, 1, 104), (104, .goto 4, 3, 107), (107, .iconst 0, 1, 108), (108, .iadd, 1, 109), (109, .istore 9, 2, 111), (111, .iinc 10 1, 3, 114), (114, .goto (-46), 3, 117), (117, .iload 5, 2, 119), (119, .invokestatic 305, 3, 122), (122, .iload 9, 2, 124), (124, .isub, 1, 125), (125, .istore 10, 2, 127), (127, .iload 9, 2, 129), (129, .iload 10, 2, 131), (131, .if_icmp .le 8, 3, 134), (134, .iload 9, 2, 136), (136, .goto 5, 3, 139), (139, .iload 10, 2, 141), (141, .istore 11, 2, 143), (143, .iload 7, 2, 145), (145, .iconst (-1), 1, 146), (146, .if_icmp .eq 10, 3, 149), (149, .iload 11, 2, 151), (151, .iload 7, 2, 153), (153, .if_icmp .ge 8, 3, 156), (156, .iload 8, 2, 158), (158, .goto 5, 3, 161), (161, .iload 6, 2, 163), (163, .istore 6, 2, 165), (165, .iload 7, 2, 167), (167, .iconst (-1), 1, 168), (168, .if_icmp .eq 10, 3, 171), (171, .iload 11, 2, 173), (173, .iload 7, 2, 175), (175, .if_icmp .ge 8, 3, 178), (178, .iload 11, 2, 180), (180, .goto 5, 3, 183), (183, .iload 7, 2, 185), (185, .istore 7, 2, 187), (187, .iinc 8 1, 3, 190), (190, .goto (-135), 3, 193), (193, .iload_n 3, 1, 194), (194, .ifCond .ne 8, 3, 197), (197, .iload 6, 2, 199), (199, .goto 5, 3, 202), (202, .iload 7, 2, 204), (204, .ireturn, 1, 205)]
def I_X9_next_ : MI := (prog_11_method_68_code, 12, (some .int), "OpensAtNineModel", "next", T_X9_next_, 0, 0, 3, 107)
theorem dT_X9_next_ : ∀ q ∈ T_X9_next_, decode prog_11_method_68_code q.1 = .ok (q.2.1, q.2.2.1) ∧ q.2.2.2 = q.1 + q.2.2.1 := by decide +kernel
theorem xm_X9_next_ : xCM y_X9_next_ I_X9_next_ 9 3 := ⟨⟨tw1380, tw1381⟩, tw84, tw1382, ⟨xT9, 49, rfl⟩, ⟨by decide +kernel, by decide +kernel, by decide +kernel⟩⟩
noncomputable def f_X9_next__35 (h : XM) : Option (Int32 × XM) := some ((-7 : Int32), h)
noncomputable def f_X9_next__108 (k_55 : XM → Option Nat → Int32 → Int32 → Int32 → Int32 → Int32 → Option (Int32 × XM)) (k_68 : XM → Option Nat → Int32 → Int32 → Int32 → Int32 → Int32 → Int32 → Int32 → Option (Int32 × XM)) (h : XM) (l0 : Option Nat) (l3 : Int32) (l5 : Int32) (l6 : Int32) (l7 : Int32) (l8 : Int32) (l10 : Int32) (s0 : Int32) (s1 : Int32) : Option (Int32 × XM) := bnd (s1 + s0) fun v1 => bnd (l10 + (1 : Int32)) fun v2 => k_68 h l0 l3 l5 l6 l7 l8 v1 v2
noncomputable def f_X9_next__107 (k_55 : XM → Option Nat → Int32 → Int32 → Int32 → Int32 → Int32 → Option (Int32 × XM)) (k_68 : XM → Option Nat → Int32 → Int32 → Int32 → Int32 → Int32 → Int32 → Int32 → Option (Int32 × XM)) (h : XM) (l0 : Option Nat) (l3 : Int32) (l5 : Int32) (l6 : Int32) (l7 : Int32) (l8 : Int32) (l10 : Int32) (s0 : Int32) : Option (Int32 × XM) := f_X9_next__108 k_55 k_68 h l0 l3 l5 l6 l7 l8 l10 ((0 : Int32)) s0
noncomputable def f_X9_next__185 (k_55 : XM → Option Nat → Int32 → Int32 → Int32 → Int32 → Int32 → Option (Int32 × XM)) (h : XM) (l0 : Option Nat) (l3 : Int32) (l5 : Int32) (l6 : Int32) (l8 : Int32) (s0 : Int32) : Option (Int32 × XM) := bnd (l8 + (1 : Int32)) fun v3 => k_55 h l0 l3 l5 l6 s0 v3
noncomputable def f_X9_next__178 (k_55 : XM → Option Nat → Int32 → Int32 → Int32 → Int32 → Int32 → Option (Int32 × XM)) (h : XM) (l0 : Option Nat) (l3 : Int32) (l5 : Int32) (l6 : Int32) (l8 : Int32) (l11 : Int32) : Option (Int32 × XM) := f_X9_next__185 k_55 h l0 l3 l5 l6 l8 l11
noncomputable def f_X9_next__163 (k_55 : XM → Option Nat → Int32 → Int32 → Int32 → Int32 → Int32 → Option (Int32 × XM)) (h : XM) (l0 : Option Nat) (l3 : Int32) (l5 : Int32) (l7 : Int32) (l8 : Int32) (l11 : Int32) (s0 : Int32) : Option (Int32 × XM) := if l7 = ((-1 : Int32)) then (f_X9_next__178 k_55 h l0 l3 l5 s0 l8 l11) else (if l11 < l7 then (f_X9_next__178 k_55 h l0 l3 l5 s0 l8 l11) else (f_X9_next__185 k_55 h l0 l3 l5 s0 l8 l7))
noncomputable def f_X9_next__156 (k_55 : XM → Option Nat → Int32 → Int32 → Int32 → Int32 → Int32 → Option (Int32 × XM)) (h : XM) (l0 : Option Nat) (l3 : Int32) (l5 : Int32) (l7 : Int32) (l8 : Int32) (l11 : Int32) : Option (Int32 × XM) := f_X9_next__163 k_55 h l0 l3 l5 l7 l8 l11 l8
noncomputable def f_X9_next__141 (k_55 : XM → Option Nat → Int32 → Int32 → Int32 → Int32 → Int32 → Option (Int32 × XM)) (h : XM) (l0 : Option Nat) (l3 : Int32) (l5 : Int32) (l6 : Int32) (l7 : Int32) (l8 : Int32) (s0 : Int32) : Option (Int32 × XM) := if l7 = ((-1 : Int32)) then (f_X9_next__156 k_55 h l0 l3 l5 l7 l8 s0) else (if s0 < l7 then (f_X9_next__156 k_55 h l0 l3 l5 l7 l8 s0) else (f_X9_next__163 k_55 h l0 l3 l5 l7 l8 s0 l6))
noncomputable def fb_X9_next__68 (k_55 : XM → Option Nat → Int32 → Int32 → Int32 → Int32 → Int32 → Option (Int32 × XM)) (k_68 : XM → Option Nat → Int32 → Int32 → Int32 → Int32 → Int32 → Int32 → Int32 → Option (Int32 × XM)) (h : XM) (l0 : Option Nat) (l3 : Int32) (l5 : Int32) (l6 : Int32) (l7 : Int32) (l8 : Int32) (l9 : Int32) (l10 : Int32) : Option (Int32 × XM) := if ((20 : Int32)) < l10 then ((f_X9_ones h l5).bind fun q4 => bnd (q4.1 - l9) fun v5 => if v5 < l9 then (f_X9_next__141 k_55 q4.2 l0 l3 l5 l6 l7 l8 l9) else (f_X9_next__141 k_55 q4.2 l0 l3 l5 l6 l7 l8 v5)) else (if ((l5 >>> (l10 &&& 31)) &&& ((1 : Int32))) = ((1 : Int32)) then ((gI h 9 l0 48).bind fun v6 => (f_X9_isWhole h (v6 + l8) l10).bind fun q7 => if q7.1 = 0 then (f_X9_next__107 k_55 k_68 q7.2 l0 l3 l5 l6 l7 l8 l10 l9) else (f_X9_next__108 k_55 k_68 q7.2 l0 l3 l5 l6 l7 l8 l10 ((1 : Int32)) l9)) else (f_X9_next__107 k_55 k_68 h l0 l3 l5 l6 l7 l8 l10 l9))
noncomputable def f_X9_next__68 (k_55 : XM → Option Nat → Int32 → Int32 → Int32 → Int32 → Int32 → Option (Int32 × XM)) (n : Nat) : XM → Option Nat → Int32 → Int32 → Int32 → Int32 → Int32 → Int32 → Int32 → Option (Int32 × XM) := Nat.rec (motive := fun _ => XM → Option Nat → Int32 → Int32 → Int32 → Int32 → Int32 → Int32 → Int32 → Option (Int32 × XM)) (fun _ _ _ _ _ _ _ _ _ => none) (fun _ ih h l0 l3 l5 l6 l7 l8 l9 l10 => fb_X9_next__68 k_55 ih h l0 l3 l5 l6 l7 l8 l9 l10) n
noncomputable def f_X9_next__204 (h : XM) (s0 : Int32) : Option (Int32 × XM) := some (s0, h)
noncomputable def fb_X9_next__55 (k_55 : XM → Option Nat → Int32 → Int32 → Int32 → Int32 → Int32 → Option (Int32 × XM)) (h : XM) (l0 : Option Nat) (l3 : Int32) (l5 : Int32) (l6 : Int32) (l7 : Int32) (l8 : Int32) : Option (Int32 × XM) := if ((30 : Int32)) < l8 then (if l3 = 0 then (f_X9_next__204 h l6) else (f_X9_next__204 h l7)) else (f_X9_next__68 k_55 FU h l0 l3 l5 l6 l7 l8 ((0 : Int32)) ((2 : Int32)))
noncomputable def f_X9_next__55 (n : Nat) : XM → Option Nat → Int32 → Int32 → Int32 → Int32 → Int32 → Option (Int32 × XM) := Nat.rec (motive := fun _ => XM → Option Nat → Int32 → Int32 → Int32 → Int32 → Int32 → Option (Int32 × XM)) (fun _ _ _ _ _ _ _ => none) (fun _ ih h l0 l3 l5 l6 l7 l8 => fb_X9_next__55 ih h l0 l3 l5 l6 l7 l8) n
noncomputable def f_X9_next_ (h : XM) (a0 : Option Nat) (a1 : Int32) (a2 : Int32) (a3 : Int32) : Option (Int32 × XM) := (vc h 9 a0 (f_X9_sheetWrong h a0 a1)).bind fun q8 => if q8.1 = 0 then ((f_X9_in q8.2 a2 ((0 : Int32)) ((9999 : Int32))).bind fun q9 => if q9.1 = 0 then (f_X9_next__35 q9.2) else ((f_X9_in q9.2 a3 ((0 : Int32)) ((1 : Int32))).bind fun q10 => if q10.1 = 0 then (f_X9_next__35 q10.2) else ((vc q10.2 9 a0 (f_X9_numbersFor q10.2 a0 a1 a2)).bind fun q11 => f_X9_next__55 FU q11.2 a0 a3 q11.1 ((0 : Int32)) ((-1 : Int32)) ((1 : Int32))))) else (some (q8.1, q8.2))
theorem b_X9_next__35 (X : XX) (h : XM) : SW X I_X9_next_ ρi 35 [] [] h 0 0 (f_X9_next__35 h) := by
  unfold f_X9_next__35
  refine s_bipush (i := 18) rfl (v := (-7 : Int32)) (by decide) ?_
  exact s_iret (i := 19) rfl rfl
theorem b_X9_next__108 (X : XX) (k_55 : XM → Option Nat → Int32 → Int32 → Int32 → Int32 → Int32 → Option (Int32 × XM)) (k_68 : XM → Option Nat → Int32 → Int32 → Int32 → Int32 → Int32 → Int32 → Int32 → Option (Int32 × XM)) (hk_55 : ∀ h l0 l3 l5 l6 l7 l8, SW X I_X9_next_ ρi 55 [(0, tA l0), (3, tI l3), (5, tI l5), (6, tI l6), (7, tI l7), (8, tI l8)] [] h 0 0 (k_55 h l0 l3 l5 l6 l7 l8)) (hk_68 : ∀ h l0 l3 l5 l6 l7 l8 l9 l10, SW X I_X9_next_ ρi 68 [(0, tA l0), (3, tI l3), (5, tI l5), (6, tI l6), (7, tI l7), (8, tI l8), (9, tI l9), (10, tI l10)] [] h 0 0 (k_68 h l0 l3 l5 l6 l7 l8 l9 l10)) (h : XM) (l0 : Option Nat) (l3 : Int32) (l5 : Int32) (l6 : Int32) (l7 : Int32) (l8 : Int32) (l10 : Int32) (s0 : Int32) (s1 : Int32) : SW X I_X9_next_ ρi 108 [(0, tA l0), (3, tI l3), (5, tI l5), (6, tI l6), (7, tI l7), (8, tI l8), (10, tI l10)] [tI s0, tI s1] h 0 0 (f_X9_next__108 k_55 k_68 h l0 l3 l5 l6 l7 l8 l10 s0 s1) := by
  unfold f_X9_next__108
  refine s_iadd (i := 59) rfl ?_
  refine s_bnd (fun v1 => ?_)
  refine s_istore (i := 60) rfl (Nat.le_of_ble_eq_true rfl) (ls2 := [(9, tI v1), (0, tA l0), (3, tI l3), (5, tI l5), (6, tI l6), (7, tI l7), (8, tI l8), (10, tI l10)]) rfl ?_
  refine s_inc (i := 61) rfl 7 rfl (c9 := (1 : Int32)) (by decide) (Nat.le_of_ble_eq_true rfl) (fun v2 => ?_)
  refine s_ls (ls2 := [(10, tI v2), (9, tI v1), (0, tA l0), (3, tI l3), (5, tI l5), (6, tI l6), (7, tI l7), (8, tI l8)]) rfl ?_
  refine s_goto (i := 62) rfl (tgt := 68) (by decide) ?_
  exact s_sub [2, 3, 4, 5, 6, 7, 1, 0] rfl (hk_68 h l0 l3 l5 l6 l7 l8 v1 v2)
theorem b_X9_next__107 (X : XX) (k_55 : XM → Option Nat → Int32 → Int32 → Int32 → Int32 → Int32 → Option (Int32 × XM)) (k_68 : XM → Option Nat → Int32 → Int32 → Int32 → Int32 → Int32 → Int32 → Int32 → Option (Int32 × XM)) (hk_55 : ∀ h l0 l3 l5 l6 l7 l8, SW X I_X9_next_ ρi 55 [(0, tA l0), (3, tI l3), (5, tI l5), (6, tI l6), (7, tI l7), (8, tI l8)] [] h 0 0 (k_55 h l0 l3 l5 l6 l7 l8)) (hk_68 : ∀ h l0 l3 l5 l6 l7 l8 l9 l10, SW X I_X9_next_ ρi 68 [(0, tA l0), (3, tI l3), (5, tI l5), (6, tI l6), (7, tI l7), (8, tI l8), (9, tI l9), (10, tI l10)] [] h 0 0 (k_68 h l0 l3 l5 l6 l7 l8 l9 l10)) (h : XM) (l0 : Option Nat) (l3 : Int32) (l5 : Int32) (l6 : Int32) (l7 : Int32) (l8 : Int32) (l10 : Int32) (s0 : Int32) : SW X I_X9_next_ ρi 107 [(0, tA l0), (3, tI l3), (5, tI l5), (6, tI l6), (7, tI l7), (8, tI l8), (10, tI l10)] [tI s0] h 0 0 (f_X9_next__107 k_55 k_68 h l0 l3 l5 l6 l7 l8 l10 s0) := by
  unfold f_X9_next__107
  refine s_iconst (i := 58) rfl (v := (0 : Int32)) (by decide) ?_
  exact s_sub [0, 1, 2, 3, 4, 5, 6] rfl (b_X9_next__108 X k_55 k_68 hk_55 hk_68 h l0 l3 l5 l6 l7 l8 l10 ((0 : Int32)) s0)
theorem b_X9_next__185 (X : XX) (k_55 : XM → Option Nat → Int32 → Int32 → Int32 → Int32 → Int32 → Option (Int32 × XM)) (hk_55 : ∀ h l0 l3 l5 l6 l7 l8, SW X I_X9_next_ ρi 55 [(0, tA l0), (3, tI l3), (5, tI l5), (6, tI l6), (7, tI l7), (8, tI l8)] [] h 0 0 (k_55 h l0 l3 l5 l6 l7 l8)) (h : XM) (l0 : Option Nat) (l3 : Int32) (l5 : Int32) (l6 : Int32) (l8 : Int32) (s0 : Int32) : SW X I_X9_next_ ρi 185 [(0, tA l0), (3, tI l3), (5, tI l5), (6, tI l6), (8, tI l8)] [tI s0] h 0 0 (f_X9_next__185 k_55 h l0 l3 l5 l6 l8 s0) := by
  unfold f_X9_next__185
  refine s_istore (i := 94) rfl (Nat.le_of_ble_eq_true rfl) (ls2 := [(7, tI s0), (0, tA l0), (3, tI l3), (5, tI l5), (6, tI l6), (8, tI l8)]) rfl ?_
  refine s_inc (i := 95) rfl 5 rfl (c9 := (1 : Int32)) (by decide) (Nat.le_of_ble_eq_true rfl) (fun v3 => ?_)
  refine s_ls (ls2 := [(8, tI v3), (7, tI s0), (0, tA l0), (3, tI l3), (5, tI l5), (6, tI l6)]) rfl ?_
  refine s_goto (i := 96) rfl (tgt := 55) (by decide) ?_
  exact s_sub [2, 3, 4, 5, 1, 0] rfl (hk_55 h l0 l3 l5 l6 s0 v3)
theorem b_X9_next__178 (X : XX) (k_55 : XM → Option Nat → Int32 → Int32 → Int32 → Int32 → Int32 → Option (Int32 × XM)) (hk_55 : ∀ h l0 l3 l5 l6 l7 l8, SW X I_X9_next_ ρi 55 [(0, tA l0), (3, tI l3), (5, tI l5), (6, tI l6), (7, tI l7), (8, tI l8)] [] h 0 0 (k_55 h l0 l3 l5 l6 l7 l8)) (h : XM) (l0 : Option Nat) (l3 : Int32) (l5 : Int32) (l6 : Int32) (l8 : Int32) (l11 : Int32) : SW X I_X9_next_ ρi 178 [(0, tA l0), (3, tI l3), (5, tI l5), (6, tI l6), (8, tI l8), (11, tI l11)] [] h 0 0 (f_X9_next__178 k_55 h l0 l3 l5 l6 l8 l11) := by
  unfold f_X9_next__178
  refine s_iload (i := 91) rfl 5 rfl ?_
  refine s_goto (i := 92) rfl (tgt := 185) (by decide) ?_
  exact s_sub [0, 1, 2, 3, 4] rfl (b_X9_next__185 X k_55 hk_55 h l0 l3 l5 l6 l8 l11)
theorem b_X9_next__163 (X : XX) (k_55 : XM → Option Nat → Int32 → Int32 → Int32 → Int32 → Int32 → Option (Int32 × XM)) (hk_55 : ∀ h l0 l3 l5 l6 l7 l8, SW X I_X9_next_ ρi 55 [(0, tA l0), (3, tI l3), (5, tI l5), (6, tI l6), (7, tI l7), (8, tI l8)] [] h 0 0 (k_55 h l0 l3 l5 l6 l7 l8)) (h : XM) (l0 : Option Nat) (l3 : Int32) (l5 : Int32) (l7 : Int32) (l8 : Int32) (l11 : Int32) (s0 : Int32) : SW X I_X9_next_ ρi 163 [(0, tA l0), (3, tI l3), (5, tI l5), (7, tI l7), (8, tI l8), (11, tI l11)] [tI s0] h 0 0 (f_X9_next__163 k_55 h l0 l3 l5 l7 l8 l11 s0) := by
  unfold f_X9_next__163
  refine s_istore (i := 84) rfl (Nat.le_of_ble_eq_true rfl) (ls2 := [(6, tI s0), (0, tA l0), (3, tI l3), (5, tI l5), (7, tI l7), (8, tI l8), (11, tI l11)]) rfl ?_
  refine s_iload (i := 85) rfl 4 rfl ?_
  refine s_iconst (i := 86) rfl (v := (-1 : Int32)) (by decide) ?_
  refine s_icmpeq (i := 87) rfl (tgt := 178) (by decide) (fun z168 => ?_) (fun z168 => ?_)
  · exact s_sub [1, 2, 3, 0, 5, 6] rfl (b_X9_next__178 X k_55 hk_55 h l0 l3 l5 s0 l8 l11)
  · refine s_iload (i := 88) rfl 6 rfl ?_
    refine s_iload (i := 89) rfl 4 rfl ?_
    refine s_icmpge (i := 90) rfl (tgt := 183) (by decide) (fun z175 => ?_) (fun z175 => ?_)
    · exact s_sub [1, 2, 3, 0, 5, 6] rfl (b_X9_next__178 X k_55 hk_55 h l0 l3 l5 s0 l8 l11)
    · refine s_iload (i := 93) rfl 4 rfl ?_
      exact s_sub [1, 2, 3, 0, 5] rfl (b_X9_next__185 X k_55 hk_55 h l0 l3 l5 s0 l8 l7)
theorem b_X9_next__156 (X : XX) (k_55 : XM → Option Nat → Int32 → Int32 → Int32 → Int32 → Int32 → Option (Int32 × XM)) (hk_55 : ∀ h l0 l3 l5 l6 l7 l8, SW X I_X9_next_ ρi 55 [(0, tA l0), (3, tI l3), (5, tI l5), (6, tI l6), (7, tI l7), (8, tI l8)] [] h 0 0 (k_55 h l0 l3 l5 l6 l7 l8)) (h : XM) (l0 : Option Nat) (l3 : Int32) (l5 : Int32) (l7 : Int32) (l8 : Int32) (l11 : Int32) : SW X I_X9_next_ ρi 156 [(0, tA l0), (3, tI l3), (5, tI l5), (7, tI l7), (8, tI l8), (11, tI l11)] [] h 0 0 (f_X9_next__156 k_55 h l0 l3 l5 l7 l8 l11) := by
  unfold f_X9_next__156
  refine s_iload (i := 81) rfl 4 rfl ?_
  refine s_goto (i := 82) rfl (tgt := 163) (by decide) ?_
  exact s_sub [0, 1, 2, 3, 4, 5] rfl (b_X9_next__163 X k_55 hk_55 h l0 l3 l5 l7 l8 l11 l8)
theorem b_X9_next__141 (X : XX) (k_55 : XM → Option Nat → Int32 → Int32 → Int32 → Int32 → Int32 → Option (Int32 × XM)) (hk_55 : ∀ h l0 l3 l5 l6 l7 l8, SW X I_X9_next_ ρi 55 [(0, tA l0), (3, tI l3), (5, tI l5), (6, tI l6), (7, tI l7), (8, tI l8)] [] h 0 0 (k_55 h l0 l3 l5 l6 l7 l8)) (h : XM) (l0 : Option Nat) (l3 : Int32) (l5 : Int32) (l6 : Int32) (l7 : Int32) (l8 : Int32) (s0 : Int32) : SW X I_X9_next_ ρi 141 [(0, tA l0), (3, tI l3), (5, tI l5), (6, tI l6), (7, tI l7), (8, tI l8)] [tI s0] h 0 0 (f_X9_next__141 k_55 h l0 l3 l5 l6 l7 l8 s0) := by
  unfold f_X9_next__141
  refine s_istore (i := 74) rfl (Nat.le_of_ble_eq_true rfl) (ls2 := [(11, tI s0), (0, tA l0), (3, tI l3), (5, tI l5), (6, tI l6), (7, tI l7), (8, tI l8)]) rfl ?_
  refine s_iload (i := 75) rfl 5 rfl ?_
  refine s_iconst (i := 76) rfl (v := (-1 : Int32)) (by decide) ?_
  refine s_icmpeq (i := 77) rfl (tgt := 156) (by decide) (fun z146 => ?_) (fun z146 => ?_)
  · exact s_sub [1, 2, 3, 5, 6, 0] rfl (b_X9_next__156 X k_55 hk_55 h l0 l3 l5 l7 l8 s0)
  · refine s_iload (i := 78) rfl 0 rfl ?_
    refine s_iload (i := 79) rfl 5 rfl ?_
    refine s_icmpge (i := 80) rfl (tgt := 161) (by decide) (fun z153 => ?_) (fun z153 => ?_)
    · exact s_sub [1, 2, 3, 5, 6, 0] rfl (b_X9_next__156 X k_55 hk_55 h l0 l3 l5 l7 l8 s0)
    · refine s_iload (i := 83) rfl 4 rfl ?_
      exact s_sub [1, 2, 3, 5, 6, 0] rfl (b_X9_next__163 X k_55 hk_55 h l0 l3 l5 l7 l8 s0 l6)
theorem bb_X9_next__68 (X : XX) (k_55 : XM → Option Nat → Int32 → Int32 → Int32 → Int32 → Int32 → Option (Int32 × XM)) (k_68 : XM → Option Nat → Int32 → Int32 → Int32 → Int32 → Int32 → Int32 → Int32 → Option (Int32 × XM)) (hk_55 : ∀ h l0 l3 l5 l6 l7 l8, SW X I_X9_next_ ρi 55 [(0, tA l0), (3, tI l3), (5, tI l5), (6, tI l6), (7, tI l7), (8, tI l8)] [] h 0 0 (k_55 h l0 l3 l5 l6 l7 l8)) (hk_68 : ∀ h l0 l3 l5 l6 l7 l8 l9 l10, SW X I_X9_next_ ρi 68 [(0, tA l0), (3, tI l3), (5, tI l5), (6, tI l6), (7, tI l7), (8, tI l8), (9, tI l9), (10, tI l10)] [] h 0 0 (k_68 h l0 l3 l5 l6 l7 l8 l9 l10)) (h : XM) (l0 : Option Nat) (l3 : Int32) (l5 : Int32) (l6 : Int32) (l7 : Int32) (l8 : Int32) (l9 : Int32) (l10 : Int32) : SW X I_X9_next_ ρi 68 [(0, tA l0), (3, tI l3), (5, tI l5), (6, tI l6), (7, tI l7), (8, tI l8), (9, tI l9), (10, tI l10)] [] h 0 0 (fb_X9_next__68 k_55 k_68 h l0 l3 l5 l6 l7 l8 l9 l10) := by
  unfold fb_X9_next__68
  refine s_iload (i := 38) rfl 7 rfl ?_
  refine s_bipush (i := 39) rfl (v := (20 : Int32)) (by decide) ?_
  refine s_icmpgt (i := 40) rfl (tgt := 117) (by decide) (fun z72 => ?_) (fun z72 => ?_)
  · refine s_iload (i := 63) rfl 2 rfl ?_
    refine u_callSi [tI l5] [] rfl (i := 64) rfl (c_X9_ones h l5) xm_X9_ones (tw1361) rfl (Nat.le_of_ble_eq_true rfl) (xRm.of rfl) ⟨rfl, rfl⟩ (fun q4 => ?_)
    refine s_iload (i := 65) rfl 6 rfl ?_
    refine s_isub (i := 66) rfl ?_
    refine s_bnd (fun v5 => ?_)
    refine s_istore (i := 67) rfl (Nat.le_of_ble_eq_true rfl) (ls2 := [(10, tI v5), (0, tA l0), (3, tI l3), (5, tI l5), (6, tI l6), (7, tI l7), (8, tI l8), (9, tI l9)]) rfl ?_
    refine s_iload (i := 68) rfl 7 rfl ?_
    refine s_iload (i := 69) rfl 0 rfl ?_
    refine s_icmple (i := 70) rfl (tgt := 139) (by decide) (fun z131 => ?_) (fun z131 => ?_)
    · refine s_iload (i := 71) rfl 7 rfl ?_
      refine s_goto (i := 72) rfl (tgt := 141) (by decide) ?_
      exact s_sub [1, 2, 3, 4, 5, 6] rfl (b_X9_next__141 X k_55 hk_55 q4.2 l0 l3 l5 l6 l7 l8 l9)
    · refine s_iload (i := 73) rfl 0 rfl ?_
      exact s_sub [1, 2, 3, 4, 5, 6] rfl (b_X9_next__141 X k_55 hk_55 q4.2 l0 l3 l5 l6 l7 l8 v5)
  · refine s_iload (i := 41) rfl 6 rfl ?_
    refine s_iload (i := 42) rfl 2 rfl ?_
    refine s_iload (i := 43) rfl 7 rfl ?_
    refine s_ishr (i := 44) rfl ?_
    refine s_iconst (i := 45) rfl (v := (1 : Int32)) (by decide) ?_
    refine s_iand (i := 46) rfl ?_
    refine s_iconst (i := 47) rfl (v := (1 : Int32)) (by decide) ?_
    refine s_icmpne (i := 48) rfl (tgt := 107) (by decide) (fun z85 => ?_) (fun z85 => ?_)
    · refine s_aload_n (i := 49) rfl 0 rfl ?_
      refine s_getI (i := 50) rfl xf_9_308.r rfl (fun v6 => ?_)
      refine s_iload (i := 51) rfl 5 rfl ?_
      refine s_iadd (i := 52) rfl ?_
      refine s_iload (i := 53) rfl 7 rfl ?_
      refine u_callSi [tI (v6 + l8), tI l10] [tI l9] rfl (i := 54) rfl (c_X9_isWhole h (v6 + l8) l10) xm_X9_isWhole (tw1376) rfl (Nat.le_of_ble_eq_true rfl) (xRm.of rfl) ⟨rfl, rfl⟩ (fun q7 => ?_)
      refine s_ifeq (i := 55) rfl (tgt := 107) (by decide) (fun z100 => ?_) (fun z100 => ?_)
      · exact s_sub [0, 1, 2, 3, 4, 5, 7] rfl (b_X9_next__107 X k_55 k_68 hk_55 hk_68 q7.2 l0 l3 l5 l6 l7 l8 l10 l9)
      · refine s_iconst (i := 56) rfl (v := (1 : Int32)) (by decide) ?_
        refine s_goto (i := 57) rfl (tgt := 108) (by decide) ?_
        exact s_sub [0, 1, 2, 3, 4, 5, 7] rfl (b_X9_next__108 X k_55 k_68 hk_55 hk_68 q7.2 l0 l3 l5 l6 l7 l8 l10 ((1 : Int32)) l9)
    · exact s_sub [0, 1, 2, 3, 4, 5, 7] rfl (b_X9_next__107 X k_55 k_68 hk_55 hk_68 h l0 l3 l5 l6 l7 l8 l10 l9)
theorem b_X9_next__68 (X : XX) (k_55 : XM → Option Nat → Int32 → Int32 → Int32 → Int32 → Int32 → Option (Int32 × XM)) (hk_55 : ∀ h l0 l3 l5 l6 l7 l8, SW X I_X9_next_ ρi 55 [(0, tA l0), (3, tI l3), (5, tI l5), (6, tI l6), (7, tI l7), (8, tI l8)] [] h 0 0 (k_55 h l0 l3 l5 l6 l7 l8)) : ∀ (n : Nat) (h : XM) (l0 : Option Nat) (l3 : Int32) (l5 : Int32) (l6 : Int32) (l7 : Int32) (l8 : Int32) (l9 : Int32) (l10 : Int32), SW X I_X9_next_ ρi 68 [(0, tA l0), (3, tI l3), (5, tI l5), (6, tI l6), (7, tI l7), (8, tI l8), (9, tI l9), (10, tI l10)] [] h 0 0 (f_X9_next__68 k_55 n h l0 l3 l5 l6 l7 l8 l9 l10) := by
  intro n
  induction n with
  | zero =>
    intro h l0 l3 l5 l6 l7 l8 l9 l10
    exact s_none
  | succ n ih =>
    intro h l0 l3 l5 l6 l7 l8 l9 l10
    exact bb_X9_next__68 X k_55 (f_X9_next__68 k_55 n) hk_55 ih h l0 l3 l5 l6 l7 l8 l9 l10
theorem b_X9_next__204 (X : XX) (h : XM) (s0 : Int32) : SW X I_X9_next_ ρi 204 [] [tI s0] h 0 0 (f_X9_next__204 h s0) := by
  unfold f_X9_next__204
  exact s_iret (i := 102) rfl rfl
theorem bb_X9_next__55 (X : XX) (k_55 : XM → Option Nat → Int32 → Int32 → Int32 → Int32 → Int32 → Option (Int32 × XM)) (hk_55 : ∀ h l0 l3 l5 l6 l7 l8, SW X I_X9_next_ ρi 55 [(0, tA l0), (3, tI l3), (5, tI l5), (6, tI l6), (7, tI l7), (8, tI l8)] [] h 0 0 (k_55 h l0 l3 l5 l6 l7 l8)) (h : XM) (l0 : Option Nat) (l3 : Int32) (l5 : Int32) (l6 : Int32) (l7 : Int32) (l8 : Int32) : SW X I_X9_next_ ρi 55 [(0, tA l0), (3, tI l3), (5, tI l5), (6, tI l6), (7, tI l7), (8, tI l8)] [] h 0 0 (fb_X9_next__55 k_55 h l0 l3 l5 l6 l7 l8) := by
  unfold fb_X9_next__55
  refine s_iload (i := 31) rfl 5 rfl ?_
  refine s_bipush (i := 32) rfl (v := (30 : Int32)) (by decide) ?_
  refine s_icmpgt (i := 33) rfl (tgt := 193) (by decide) (fun z59 => ?_) (fun z59 => ?_)
  · refine s_iload_n (i := 97) rfl 1 rfl ?_
    refine s_ifne (i := 98) rfl (tgt := 202) (by decide) (fun z194 => ?_) (fun z194 => ?_)
    · refine s_iload (i := 99) rfl 3 rfl ?_
      refine s_goto (i := 100) rfl (tgt := 204) (by decide) ?_
      exact s_sub [] rfl (b_X9_next__204 X h l6)
    · refine s_iload (i := 101) rfl 4 rfl ?_
      exact s_sub [] rfl (b_X9_next__204 X h l7)
  · refine s_iconst (i := 34) rfl (v := (0 : Int32)) (by decide) ?_
    refine s_istore (i := 35) rfl (Nat.le_of_ble_eq_true rfl) (ls2 := [(9, tI ((0 : Int32))), (0, tA l0), (3, tI l3), (5, tI l5), (6, tI l6), (7, tI l7), (8, tI l8)]) rfl ?_
    refine s_iconst (i := 36) rfl (v := (2 : Int32)) (by decide) ?_
    refine s_istore (i := 37) rfl (Nat.le_of_ble_eq_true rfl) (ls2 := [(10, tI ((2 : Int32))), (9, tI ((0 : Int32))), (0, tA l0), (3, tI l3), (5, tI l5), (6, tI l6), (7, tI l7), (8, tI l8)]) rfl ?_
    exact s_sub [2, 3, 4, 5, 6, 7, 1, 0] rfl (b_X9_next__68 X k_55 hk_55 FU h l0 l3 l5 l6 l7 l8 ((0 : Int32)) ((2 : Int32)))
theorem b_X9_next__55 (X : XX) : ∀ (n : Nat) (h : XM) (l0 : Option Nat) (l3 : Int32) (l5 : Int32) (l6 : Int32) (l7 : Int32) (l8 : Int32), SW X I_X9_next_ ρi 55 [(0, tA l0), (3, tI l3), (5, tI l5), (6, tI l6), (7, tI l7), (8, tI l8)] [] h 0 0 (f_X9_next__55 n h l0 l3 l5 l6 l7 l8) := by
  intro n
  induction n with
  | zero =>
    intro h l0 l3 l5 l6 l7 l8
    exact s_none
  | succ n ih =>
    intro h l0 l3 l5 l6 l7 l8
    exact bb_X9_next__55 X (f_X9_next__55 n) ih h l0 l3 l5 l6 l7 l8
theorem c_X9_next_ (h : XM) (a0 : Option Nat) (a1 : Int32) (a2 : Int32) (a3 : Int32) : MC I_X9_next_ y_X9_next_ [tA a0, tI a1, tI a2, tI a3] h ρi (f_X9_next_ h a0 a1 a2 a3) := by
  refine MC_of ⟨by decide +kernel, rfl, rfl, Nat.le_of_ble_eq_true rfl⟩ dT_X9_next_ (fun X => ?_)
  show SW X I_X9_next_ ρi 0 [(0, tA a0), (1, tI a1), (2, tI a2), (3, tI a3)] [] h 0 0 (f_X9_next_ h a0 a1 a2 a3)
  unfold f_X9_next_
  refine s_aload_n (i := 0) rfl 0 rfl ?_
  refine s_iload_n (i := 1) rfl 1 rfl ?_
  refine u_callVi (kk := 9) [tI a1] a0 [] rfl (i := 2) rfl (c_X9_sheetWrong h a0 a1) xm_X9_sheetWrong (tw1368) rfl (Nat.le_of_ble_eq_true rfl) (xRm.of rfl) ⟨rfl, rfl⟩ (fun q8 => ?_)
  refine s_istore (i := 3) rfl (Nat.le_of_ble_eq_true rfl) (ls2 := [(4, tI q8.1), (0, tA a0), (1, tI a1), (2, tI a2), (3, tI a3)]) rfl ?_
  refine s_iload (i := 4) rfl 0 rfl ?_
  refine s_ifeq (i := 5) rfl (tgt := 15) (by decide) (fun z9 => ?_) (fun z9 => ?_)
  · refine s_iload_n (i := 8) rfl 3 rfl ?_
    refine s_iconst (i := 9) rfl (v := (0 : Int32)) (by decide) ?_
    refine s_sipush (i := 10) rfl (v := (9999 : Int32)) (by decide) ?_
    refine u_callSi [tI a2, tI ((0 : Int32)), tI ((9999 : Int32))] [] rfl (i := 11) rfl (c_X9_in q8.2 a2 ((0 : Int32)) ((9999 : Int32))) xm_X9_in (tw974) rfl (Nat.le_of_ble_eq_true rfl) (xRm.of rfl) ⟨rfl, rfl⟩ (fun q9 => ?_)
    refine s_ifeq (i := 12) rfl (tgt := 35) (by decide) (fun z23 => ?_) (fun z23 => ?_)
    · exact s_sub [] rfl (b_X9_next__35 X q9.2)
    · refine s_iload_n (i := 13) rfl 4 rfl ?_
      refine s_iconst (i := 14) rfl (v := (0 : Int32)) (by decide) ?_
      refine s_iconst (i := 15) rfl (v := (1 : Int32)) (by decide) ?_
      refine u_callSi [tI a3, tI ((0 : Int32)), tI ((1 : Int32))] [] rfl (i := 16) rfl (c_X9_in q9.2 a3 ((0 : Int32)) ((1 : Int32))) xm_X9_in (tw974) rfl (Nat.le_of_ble_eq_true rfl) (xRm.of rfl) ⟨rfl, rfl⟩ (fun q10 => ?_)
      refine s_ifne (i := 17) rfl (tgt := 38) (by decide) (fun z32 => ?_) (fun z32 => ?_)
      · exact s_sub [] rfl (b_X9_next__35 X q10.2)
      · refine s_aload_n (i := 20) rfl 1 rfl ?_
        refine s_iload_n (i := 21) rfl 2 rfl ?_
        refine s_iload_n (i := 22) rfl 3 rfl ?_
        refine u_callVi (kk := 9) [tI a1, tI a2] a0 [] rfl (i := 23) rfl (c_X9_numbersFor q10.2 a0 a1 a2) xm_X9_numbersFor (tw1372) rfl (Nat.le_of_ble_eq_true rfl) (xRm.of rfl) ⟨rfl, rfl⟩ (fun q11 => ?_)
        refine s_istore (i := 24) rfl (Nat.le_of_ble_eq_true rfl) (ls2 := [(5, tI q11.1), (4, tI q8.1), (0, tA a0), (1, tI a1), (2, tI a2), (3, tI a3)]) rfl ?_
        refine s_iconst (i := 25) rfl (v := (0 : Int32)) (by decide) ?_
        refine s_istore (i := 26) rfl (Nat.le_of_ble_eq_true rfl) (ls2 := [(6, tI ((0 : Int32))), (5, tI q11.1), (4, tI q8.1), (0, tA a0), (1, tI a1), (2, tI a2), (3, tI a3)]) rfl ?_
        refine s_iconst (i := 27) rfl (v := (-1 : Int32)) (by decide) ?_
        refine s_istore (i := 28) rfl (Nat.le_of_ble_eq_true rfl) (ls2 := [(7, tI ((-1 : Int32))), (6, tI ((0 : Int32))), (5, tI q11.1), (4, tI q8.1), (0, tA a0), (1, tI a1), (2, tI a2), (3, tI a3)]) rfl ?_
        refine s_iconst (i := 29) rfl (v := (1 : Int32)) (by decide) ?_
        refine s_istore (i := 30) rfl (Nat.le_of_ble_eq_true rfl) (ls2 := [(8, tI ((1 : Int32))), (7, tI ((-1 : Int32))), (6, tI ((0 : Int32))), (5, tI q11.1), (4, tI q8.1), (0, tA a0), (1, tI a1), (2, tI a2), (3, tI a3)]) rfl ?_
        exact s_sub [5, 8, 3, 2, 1, 0] rfl (b_X9_next__55 X FU q11.2 a0 a3 q11.1 ((0 : Int32)) ((-1 : Int32)) ((1 : Int32)))
  · refine s_iload (i := 6) rfl 0 rfl ?_
    exact s_iret (i := 7) rfl rfl
def y_X9_unlike : MethodName := ⟨"OpensAtNineModel", "unlike", "(I)I"⟩
def T_X9_unlike : List (Nat × Instr × Nat × Nat) := [(0, .aload_n 0, 1, 1), (1, .iconst 0, 1, 2), (2, .invokevirtual 260, 3, 5), (5, .iconst (-1), 1, 6), (6, .istore_n 2, 1, 7), (7, .iconst 0, 1, 8), (8, .istore_n 3, 1, 9), (9, .iload_n 3, 1, 10), (10, .aload_n 0, 1, 11), (11, .getfield 44, 3, 14), (14, .iload_n 1, 1, 15), (15, .iaload, 1, 16), (16, .iconst 2, 1, 17), (17, .idiv, 1, 18), (18, .if_icmp .ge 111, 3, 21), (21, .iload_n 2, 1, 22), (22, .iconst (-1), 1, 23), (23, .if_icmp .ne 106, 3, 26), (26, .aload_n 0, 1, 27), (27, .getfield 47, 3, 30), (30, .bipush 40, 2, 32), (32, .iload_n 1, 1, 33), (33, .imul, 1, 34), (34, .iconst 2, 1, 35), (35, .iload_n 3, 1, 36), (36, .imul, 1, 37), (37, .iadd, 1, 38), (38, .iaload, 1, 39), (39, .istore 4, 2, 41), (41, .aload_n 0, 1, 42), (42, .getfield 47, 3, 45), (45, .bipush 40, 2, 47), (47, .iload_n 1, 1, 48), (48, .imul, 1, 49), (49, .iconst 2, 1, 50), (50, .iload_n 3, 1, 51), (51, .imul, 1, 52), (52, .iadd, 1, 53), (53, .iconst 1, 1, 54), (54, .iadd, 1, 55), (55, .iaload, 1, 56), (56, .istore 5, 2, 58), (58, .aload_n 0, 1, 59), (59, .iload 4, 2, 61), (61, .invokevirtual 223, 3, 64), (64, .ifCond .eq 22, 3, 67), (67, .aload_n 0, 1, 68), (68, .iload 4, 2, 70), (70, .invokevirtual 241, 3, 73), (73, .ifCond .eq 13, 3, 76), (76, .iload 5, 2, 78), (78, .iconst 0, 1, 79), (79, .iconst 1, 1, 80), (80, .invokestatic 100, 3, 83), (83, .ifCond .ne 7, 3, 86), (86, .iload_n 3, 1, 87), (87, .goto 4, 3, 90), (90, .iconst (-1), 1, 91), (91, .istore_n 2, 1, 92), (92, .iload_n 2, 1, 93), (93, .iconst (-1), 1, 94), (94, .if_icmp .ne 29, 3, 97), (97, .aload_n 0, 1, 98), (98, .iload 4, 2, 100), (100, .invokevirtual 244, 3, 103), (103, .iload 5, 2, 105), (105, .iconst 1, 1, 106), (106, .if_icmp .ne 7, 3, 109), (109, .iconst 1, 1, 110), (110, .goto 4, 3, 113), (113, .iconst 0, 1, 114), (114, .if_icmp .ne 7, 3, 117), (117, .iconst (-1), 1, 118), (118, .goto 4, 3, 121), (121, .iload_n 3, 1, 122), (122, .istore_n 2, 1, 123), (123, .iinc 3 1, 3, 126), (126, .goto (-117), 3, 129), (129, .aload_n 0, 1, 130), (130, .iconst 0, 1, 131), (131, .invokevirtual 267, 3, 134), (134, .iload_n 2, 1, 135), (135, .ireturn, 1, 136)]
def I_X9_unlike : MI := (prog_11_method_69_code, 6, (some .int), "OpensAtNineModel", "unlike", T_X9_unlike, 0, 0, 6, 186)
theorem dT_X9_unlike : ∀ q ∈ T_X9_unlike, decode prog_11_method_69_code q.1 = .ok (q.2.1, q.2.2.1) ∧ q.2.2.2 = q.1 + q.2.2.1 := by decide +kernel
theorem xm_X9_unlike : xCM y_X9_unlike I_X9_unlike 9 1 := ⟨⟨tw1389, tw66⟩, tw84, tw1390, ⟨xT9, 49, rfl⟩, ⟨by decide +kernel, by decide +kernel, by decide +kernel⟩⟩
noncomputable def f_X9_unlike_123 (k_9 : XM → Option Nat → Int32 → Int32 → Int32 → Option (Int32 × XM)) (h : XM) (l0 : Option Nat) (l1 : Int32) (l2 : Int32) (l3 : Int32) : Option (Int32 × XM) := bnd (l3 + (1 : Int32)) fun v1 => k_9 h l0 l1 l2 v1
noncomputable def f_X9_unlike_122 (k_9 : XM → Option Nat → Int32 → Int32 → Int32 → Option (Int32 × XM)) (h : XM) (l0 : Option Nat) (l1 : Int32) (l3 : Int32) (s0 : Int32) : Option (Int32 × XM) := f_X9_unlike_123 k_9 h l0 l1 s0 l3
noncomputable def f_X9_unlike_114 (k_9 : XM → Option Nat → Int32 → Int32 → Int32 → Option (Int32 × XM)) (h : XM) (l0 : Option Nat) (l1 : Int32) (l3 : Int32) (s0 : Int32) (s1 : Int32) : Option (Int32 × XM) := if s1 = s0 then (f_X9_unlike_122 k_9 h l0 l1 l3 ((-1 : Int32))) else (f_X9_unlike_122 k_9 h l0 l1 l3 l3)
noncomputable def f_X9_unlike_91 (k_9 : XM → Option Nat → Int32 → Int32 → Int32 → Option (Int32 × XM)) (h : XM) (l0 : Option Nat) (l1 : Int32) (l3 : Int32) (l4 : Int32) (l5 : Int32) (s0 : Int32) : Option (Int32 × XM) := if s0 = ((-1 : Int32)) then ((vc h 9 l0 (f_X9_paysIn h l0 l4)).bind fun q2 => if l5 = ((1 : Int32)) then (f_X9_unlike_114 k_9 q2.2 l0 l1 l3 ((1 : Int32)) q2.1) else (f_X9_unlike_114 k_9 q2.2 l0 l1 l3 ((0 : Int32)) q2.1)) else (f_X9_unlike_123 k_9 h l0 l1 s0 l3)
noncomputable def f_X9_unlike_86 (k_9 : XM → Option Nat → Int32 → Int32 → Int32 → Option (Int32 × XM)) (h : XM) (l0 : Option Nat) (l1 : Int32) (l3 : Int32) (l4 : Int32) (l5 : Int32) : Option (Int32 × XM) := f_X9_unlike_91 k_9 h l0 l1 l3 l4 l5 l3
noncomputable def f_X9_unlike_129 (h : XM) (l0 : Option Nat) (l2 : Int32) : Option (Int32 × XM) := (vc h 9 l0 (f_X9_laysBack h l0 ((0 : Int32)))).bind fun q3 => some (l2, q3)
noncomputable def fb_X9_unlike_9 (k_9 : XM → Option Nat → Int32 → Int32 → Int32 → Option (Int32 × XM)) (h : XM) (l0 : Option Nat) (l1 : Int32) (l2 : Int32) (l3 : Int32) : Option (Int32 × XM) := (gR h 9 l0 21).bind fun v4 => (rI h v4 l1).bind fun v5 => (idiv v5 ((2 : Int32))).bind fun v6 => if l3 < v6 then (if l2 = ((-1 : Int32)) then ((gR h 9 l0 22).bind fun v7 => (rI h v7 ((((40 : Int32)) * l1) + (((2 : Int32)) * l3))).bind fun v8 => (gR h 9 l0 22).bind fun v9 => (rI h v9 (((((40 : Int32)) * l1) + (((2 : Int32)) * l3)) + ((1 : Int32)))).bind fun v10 => (vc h 9 l0 (f_X9_isCoin h l0 v8)).bind fun q11 => if q11.1 = 0 then (f_X9_unlike_86 k_9 q11.2 l0 l1 l3 v8 v10) else ((vc q11.2 9 l0 (f_X9_canPut q11.2 l0 v8)).bind fun q12 => if q12.1 = 0 then (f_X9_unlike_86 k_9 q12.2 l0 l1 l3 v8 v10) else ((f_X9_in q12.2 v10 ((0 : Int32)) ((1 : Int32))).bind fun q13 => if q13.1 = 0 then (f_X9_unlike_86 k_9 q13.2 l0 l1 l3 v8 v10) else (f_X9_unlike_91 k_9 q13.2 l0 l1 l3 v8 v10 ((-1 : Int32)))))) else (f_X9_unlike_129 h l0 l2)) else (f_X9_unlike_129 h l0 l2)
noncomputable def f_X9_unlike_9 (n : Nat) : XM → Option Nat → Int32 → Int32 → Int32 → Option (Int32 × XM) := Nat.rec (motive := fun _ => XM → Option Nat → Int32 → Int32 → Int32 → Option (Int32 × XM)) (fun _ _ _ _ _ => none) (fun _ ih h l0 l1 l2 l3 => fb_X9_unlike_9 ih h l0 l1 l2 l3) n
noncomputable def f_X9_unlike (h : XM) (a0 : Option Nat) (a1 : Int32) : Option (Int32 × XM) := (vc h 9 a0 (f_X9_keeps h a0 ((0 : Int32)))).bind fun q14 => f_X9_unlike_9 FU q14 a0 a1 ((-1 : Int32)) ((0 : Int32))
theorem b_X9_unlike_123 (X : XX) (k_9 : XM → Option Nat → Int32 → Int32 → Int32 → Option (Int32 × XM)) (hk_9 : ∀ h l0 l1 l2 l3, SW X I_X9_unlike ρi 9 [(0, tA l0), (1, tI l1), (2, tI l2), (3, tI l3)] [] h 0 0 (k_9 h l0 l1 l2 l3)) (h : XM) (l0 : Option Nat) (l1 : Int32) (l2 : Int32) (l3 : Int32) : SW X I_X9_unlike ρi 123 [(0, tA l0), (1, tI l1), (2, tI l2), (3, tI l3)] [] h 0 0 (f_X9_unlike_123 k_9 h l0 l1 l2 l3) := by
  unfold f_X9_unlike_123
  refine s_inc (i := 76) rfl 3 rfl (c9 := (1 : Int32)) (by decide) (Nat.le_of_ble_eq_true rfl) (fun v1 => ?_)
  refine s_ls (ls2 := [(3, tI v1), (0, tA l0), (1, tI l1), (2, tI l2)]) rfl ?_
  refine s_goto (i := 77) rfl (tgt := 9) (by decide) ?_
  exact s_sub [1, 2, 3, 0] rfl (hk_9 h l0 l1 l2 v1)
theorem b_X9_unlike_122 (X : XX) (k_9 : XM → Option Nat → Int32 → Int32 → Int32 → Option (Int32 × XM)) (hk_9 : ∀ h l0 l1 l2 l3, SW X I_X9_unlike ρi 9 [(0, tA l0), (1, tI l1), (2, tI l2), (3, tI l3)] [] h 0 0 (k_9 h l0 l1 l2 l3)) (h : XM) (l0 : Option Nat) (l1 : Int32) (l3 : Int32) (s0 : Int32) : SW X I_X9_unlike ρi 122 [(0, tA l0), (1, tI l1), (3, tI l3)] [tI s0] h 0 0 (f_X9_unlike_122 k_9 h l0 l1 l3 s0) := by
  unfold f_X9_unlike_122
  refine s_istore_n (i := 75) rfl (Nat.le_of_ble_eq_true rfl) (ls2 := [(2, tI s0), (0, tA l0), (1, tI l1), (3, tI l3)]) rfl ?_
  exact s_sub [1, 2, 0, 3] rfl (b_X9_unlike_123 X k_9 hk_9 h l0 l1 s0 l3)
theorem b_X9_unlike_114 (X : XX) (k_9 : XM → Option Nat → Int32 → Int32 → Int32 → Option (Int32 × XM)) (hk_9 : ∀ h l0 l1 l2 l3, SW X I_X9_unlike ρi 9 [(0, tA l0), (1, tI l1), (2, tI l2), (3, tI l3)] [] h 0 0 (k_9 h l0 l1 l2 l3)) (h : XM) (l0 : Option Nat) (l1 : Int32) (l3 : Int32) (s0 : Int32) (s1 : Int32) : SW X I_X9_unlike ρi 114 [(0, tA l0), (1, tI l1), (3, tI l3)] [tI s0, tI s1] h 0 0 (f_X9_unlike_114 k_9 h l0 l1 l3 s0 s1) := by
  unfold f_X9_unlike_114
  refine s_icmpne (i := 71) rfl (tgt := 121) (by decide) (fun z114 => ?_) (fun z114 => ?_)
  · refine s_iconst (i := 72) rfl (v := (-1 : Int32)) (by decide) ?_
    refine s_goto (i := 73) rfl (tgt := 122) (by decide) ?_
    exact s_sub [0, 1, 2] rfl (b_X9_unlike_122 X k_9 hk_9 h l0 l1 l3 ((-1 : Int32)))
  · refine s_iload_n (i := 74) rfl 2 rfl ?_
    exact s_sub [0, 1, 2] rfl (b_X9_unlike_122 X k_9 hk_9 h l0 l1 l3 l3)
theorem b_X9_unlike_91 (X : XX) (k_9 : XM → Option Nat → Int32 → Int32 → Int32 → Option (Int32 × XM)) (hk_9 : ∀ h l0 l1 l2 l3, SW X I_X9_unlike ρi 9 [(0, tA l0), (1, tI l1), (2, tI l2), (3, tI l3)] [] h 0 0 (k_9 h l0 l1 l2 l3)) (h : XM) (l0 : Option Nat) (l1 : Int32) (l3 : Int32) (l4 : Int32) (l5 : Int32) (s0 : Int32) : SW X I_X9_unlike ρi 91 [(0, tA l0), (1, tI l1), (3, tI l3), (4, tI l4), (5, tI l5)] [tI s0] h 0 0 (f_X9_unlike_91 k_9 h l0 l1 l3 l4 l5 s0) := by
  unfold f_X9_unlike_91
  refine s_istore_n (i := 58) rfl (Nat.le_of_ble_eq_true rfl) (ls2 := [(2, tI s0), (0, tA l0), (1, tI l1), (3, tI l3), (4, tI l4), (5, tI l5)]) rfl ?_
  refine s_iload_n (i := 59) rfl 0 rfl ?_
  refine s_iconst (i := 60) rfl (v := (-1 : Int32)) (by decide) ?_
  refine s_icmpne (i := 61) rfl (tgt := 123) (by decide) (fun z94 => ?_) (fun z94 => ?_)
  · refine s_aload_n (i := 62) rfl 1 rfl ?_
    refine s_iload (i := 63) rfl 4 rfl ?_
    refine u_callVi (kk := 9) [tI l4] l0 [] rfl (i := 64) rfl (c_X9_paysIn h l0 l4) xm_X9_paysIn (tw1263) rfl (Nat.le_of_ble_eq_true rfl) (xRm.of rfl) ⟨rfl, rfl⟩ (fun q2 => ?_)
    refine s_iload (i := 65) rfl 5 rfl ?_
    refine s_iconst (i := 66) rfl (v := (1 : Int32)) (by decide) ?_
    refine s_icmpne (i := 67) rfl (tgt := 113) (by decide) (fun z106 => ?_) (fun z106 => ?_)
    · refine s_iconst (i := 68) rfl (v := (1 : Int32)) (by decide) ?_
      refine s_goto (i := 69) rfl (tgt := 114) (by decide) ?_
      exact s_sub [1, 2, 3] rfl (b_X9_unlike_114 X k_9 hk_9 q2.2 l0 l1 l3 ((1 : Int32)) q2.1)
    · refine s_iconst (i := 70) rfl (v := (0 : Int32)) (by decide) ?_
      exact s_sub [1, 2, 3] rfl (b_X9_unlike_114 X k_9 hk_9 q2.2 l0 l1 l3 ((0 : Int32)) q2.1)
  · exact s_sub [1, 2, 0, 3] rfl (b_X9_unlike_123 X k_9 hk_9 h l0 l1 s0 l3)
theorem b_X9_unlike_86 (X : XX) (k_9 : XM → Option Nat → Int32 → Int32 → Int32 → Option (Int32 × XM)) (hk_9 : ∀ h l0 l1 l2 l3, SW X I_X9_unlike ρi 9 [(0, tA l0), (1, tI l1), (2, tI l2), (3, tI l3)] [] h 0 0 (k_9 h l0 l1 l2 l3)) (h : XM) (l0 : Option Nat) (l1 : Int32) (l3 : Int32) (l4 : Int32) (l5 : Int32) : SW X I_X9_unlike ρi 86 [(0, tA l0), (1, tI l1), (3, tI l3), (4, tI l4), (5, tI l5)] [] h 0 0 (f_X9_unlike_86 k_9 h l0 l1 l3 l4 l5) := by
  unfold f_X9_unlike_86
  refine s_iload_n (i := 55) rfl 2 rfl ?_
  refine s_goto (i := 56) rfl (tgt := 91) (by decide) ?_
  exact s_sub [0, 1, 2, 3, 4] rfl (b_X9_unlike_91 X k_9 hk_9 h l0 l1 l3 l4 l5 l3)
theorem b_X9_unlike_129 (X : XX) (h : XM) (l0 : Option Nat) (l2 : Int32) : SW X I_X9_unlike ρi 129 [(0, tA l0), (2, tI l2)] [] h 0 0 (f_X9_unlike_129 h l0 l2) := by
  unfold f_X9_unlike_129
  refine s_aload_n (i := 78) rfl 0 rfl ?_
  refine s_iconst (i := 79) rfl (v := (0 : Int32)) (by decide) ?_
  refine u_callVv (kk := 9) [tI ((0 : Int32))] l0 [] rfl (i := 80) rfl (c_X9_laysBack h l0 ((0 : Int32))) xm_X9_laysBack (tw1296) rfl (Nat.le_of_ble_eq_true rfl) (xRm.of rfl) ⟨rfl, rfl⟩ (fun q3 => ?_)
  refine s_iload_n (i := 81) rfl 1 rfl ?_
  exact s_iret (i := 82) rfl rfl
theorem bb_X9_unlike_9 (X : XX) (k_9 : XM → Option Nat → Int32 → Int32 → Int32 → Option (Int32 × XM)) (hk_9 : ∀ h l0 l1 l2 l3, SW X I_X9_unlike ρi 9 [(0, tA l0), (1, tI l1), (2, tI l2), (3, tI l3)] [] h 0 0 (k_9 h l0 l1 l2 l3)) (h : XM) (l0 : Option Nat) (l1 : Int32) (l2 : Int32) (l3 : Int32) : SW X I_X9_unlike ρi 9 [(0, tA l0), (1, tI l1), (2, tI l2), (3, tI l3)] [] h 0 0 (fb_X9_unlike_9 k_9 h l0 l1 l2 l3) := by
  unfold fb_X9_unlike_9
  refine s_iload_n (i := 7) rfl 3 rfl ?_
  refine s_aload_n (i := 8) rfl 0 rfl ?_
  refine s_getR (i := 9) rfl xf_9_44.r rfl (fun v4 => ?_)
  refine s_iload_n (i := 10) rfl 1 rfl ?_
  refine s_iaload (i := 11) rfl (fun v5 => ?_)
  refine s_iconst (i := 12) rfl (v := (2 : Int32)) (by decide) ?_
  refine s_idiv (i := 13) rfl (fun v6 => ?_)
  refine s_icmpge (i := 14) rfl (tgt := 129) (by decide) (fun z18 => ?_) (fun z18 => ?_)
  · refine s_iload_n (i := 15) rfl 2 rfl ?_
    refine s_iconst (i := 16) rfl (v := (-1 : Int32)) (by decide) ?_
    refine s_icmpne (i := 17) rfl (tgt := 129) (by decide) (fun z23 => ?_) (fun z23 => ?_)
    · refine s_aload_n (i := 18) rfl 0 rfl ?_
      refine s_getR (i := 19) rfl xf_9_47.r rfl (fun v7 => ?_)
      refine s_bipush (i := 20) rfl (v := (40 : Int32)) (by decide) ?_
      refine s_iload_n (i := 21) rfl 1 rfl ?_
      refine s_imul (i := 22) rfl ?_
      refine s_iconst (i := 23) rfl (v := (2 : Int32)) (by decide) ?_
      refine s_iload_n (i := 24) rfl 3 rfl ?_
      refine s_imul (i := 25) rfl ?_
      refine s_iadd (i := 26) rfl ?_
      refine s_iaload (i := 27) rfl (fun v8 => ?_)
      refine s_istore (i := 28) rfl (Nat.le_of_ble_eq_true rfl) (ls2 := [(4, tI v8), (0, tA l0), (1, tI l1), (2, tI l2), (3, tI l3)]) rfl ?_
      refine s_aload_n (i := 29) rfl 1 rfl ?_
      refine s_getR (i := 30) rfl xf_9_47.r rfl (fun v9 => ?_)
      refine s_bipush (i := 31) rfl (v := (40 : Int32)) (by decide) ?_
      refine s_iload_n (i := 32) rfl 2 rfl ?_
      refine s_imul (i := 33) rfl ?_
      refine s_iconst (i := 34) rfl (v := (2 : Int32)) (by decide) ?_
      refine s_iload_n (i := 35) rfl 4 rfl ?_
      refine s_imul (i := 36) rfl ?_
      refine s_iadd (i := 37) rfl ?_
      refine s_iconst (i := 38) rfl (v := (1 : Int32)) (by decide) ?_
      refine s_iadd (i := 39) rfl ?_
      refine s_iaload (i := 40) rfl (fun v10 => ?_)
      refine s_istore (i := 41) rfl (Nat.le_of_ble_eq_true rfl) (ls2 := [(5, tI v10), (4, tI v8), (0, tA l0), (1, tI l1), (2, tI l2), (3, tI l3)]) rfl ?_
      refine s_aload_n (i := 42) rfl 2 rfl ?_
      refine s_iload (i := 43) rfl 1 rfl ?_
      refine u_callVi (kk := 9) [tI v8] l0 [] rfl (i := 44) rfl (c_X9_isCoin h l0 v8) xm_X9_isCoin (tw1231) rfl (Nat.le_of_ble_eq_true rfl) (xRm.of rfl) ⟨rfl, rfl⟩ (fun q11 => ?_)
      refine s_ifeq (i := 45) rfl (tgt := 86) (by decide) (fun z64 => ?_) (fun z64 => ?_)
      · exact s_sub [2, 3, 5, 1, 0] rfl (b_X9_unlike_86 X k_9 hk_9 q11.2 l0 l1 l3 v8 v10)
      · refine s_aload_n (i := 46) rfl 2 rfl ?_
        refine s_iload (i := 47) rfl 1 rfl ?_
        refine u_callVi (kk := 9) [tI v8] l0 [] rfl (i := 48) rfl (c_X9_canPut q11.2 l0 v8) xm_X9_canPut (tw1255) rfl (Nat.le_of_ble_eq_true rfl) (xRm.of rfl) ⟨rfl, rfl⟩ (fun q12 => ?_)
        refine s_ifeq (i := 49) rfl (tgt := 86) (by decide) (fun z73 => ?_) (fun z73 => ?_)
        · exact s_sub [2, 3, 5, 1, 0] rfl (b_X9_unlike_86 X k_9 hk_9 q12.2 l0 l1 l3 v8 v10)
        · refine s_iload (i := 50) rfl 0 rfl ?_
          refine s_iconst (i := 51) rfl (v := (0 : Int32)) (by decide) ?_
          refine s_iconst (i := 52) rfl (v := (1 : Int32)) (by decide) ?_
          refine u_callSi [tI v10, tI ((0 : Int32)), tI ((1 : Int32))] [] rfl (i := 53) rfl (c_X9_in q12.2 v10 ((0 : Int32)) ((1 : Int32))) xm_X9_in (tw974) rfl (Nat.le_of_ble_eq_true rfl) (xRm.of rfl) ⟨rfl, rfl⟩ (fun q13 => ?_)
          refine s_ifne (i := 54) rfl (tgt := 90) (by decide) (fun z83 => ?_) (fun z83 => ?_)
          · exact s_sub [2, 3, 5, 1, 0] rfl (b_X9_unlike_86 X k_9 hk_9 q13.2 l0 l1 l3 v8 v10)
          · refine s_iconst (i := 57) rfl (v := (-1 : Int32)) (by decide) ?_
            exact s_sub [2, 3, 5, 1, 0] rfl (b_X9_unlike_91 X k_9 hk_9 q13.2 l0 l1 l3 v8 v10 ((-1 : Int32)))
    · exact s_sub [0, 2] rfl (b_X9_unlike_129 X h l0 l2)
  · exact s_sub [0, 2] rfl (b_X9_unlike_129 X h l0 l2)
theorem b_X9_unlike_9 (X : XX) : ∀ (n : Nat) (h : XM) (l0 : Option Nat) (l1 : Int32) (l2 : Int32) (l3 : Int32), SW X I_X9_unlike ρi 9 [(0, tA l0), (1, tI l1), (2, tI l2), (3, tI l3)] [] h 0 0 (f_X9_unlike_9 n h l0 l1 l2 l3) := by
  intro n
  induction n with
  | zero =>
    intro h l0 l1 l2 l3
    exact s_none
  | succ n ih =>
    intro h l0 l1 l2 l3
    exact bb_X9_unlike_9 X (f_X9_unlike_9 n) ih h l0 l1 l2 l3
theorem c_X9_unlike (h : XM) (a0 : Option Nat) (a1 : Int32) : MC I_X9_unlike y_X9_unlike [tA a0, tI a1] h ρi (f_X9_unlike h a0 a1) := by
  refine MC_of ⟨by decide +kernel, rfl, rfl, Nat.le_of_ble_eq_true rfl⟩ dT_X9_unlike (fun X => ?_)
  show SW X I_X9_unlike ρi 0 [(0, tA a0), (1, tI a1)] [] h 0 0 (f_X9_unlike h a0 a1)
  unfold f_X9_unlike
  refine s_aload_n (i := 0) rfl 0 rfl ?_
  refine s_iconst (i := 1) rfl (v := (0 : Int32)) (by decide) ?_
  refine u_callVv (kk := 9) [tI ((0 : Int32))] a0 [] rfl (i := 2) rfl (c_X9_keeps h a0 ((0 : Int32))) xm_X9_keeps (tw1292) rfl (Nat.le_of_ble_eq_true rfl) (xRm.of rfl) ⟨rfl, rfl⟩ (fun q14 => ?_)
  refine s_iconst (i := 3) rfl (v := (-1 : Int32)) (by decide) ?_
  refine s_istore_n (i := 4) rfl (Nat.le_of_ble_eq_true rfl) (ls2 := [(2, tI ((-1 : Int32))), (0, tA a0), (1, tI a1)]) rfl ?_
  refine s_iconst (i := 5) rfl (v := (0 : Int32)) (by decide) ?_
  refine s_istore_n (i := 6) rfl (Nat.le_of_ble_eq_true rfl) (ls2 := [(3, tI ((0 : Int32))), (2, tI ((-1 : Int32))), (0, tA a0), (1, tI a1)]) rfl ?_
  exact s_sub [2, 3, 1, 0] rfl (b_X9_unlike_9 X FU q14 a0 a1 ((-1 : Int32)) ((0 : Int32)))
def y_X9_judge : MethodName := ⟨"OpensAtNineModel", "judge", "(I)I"⟩
def T_X9_judge : List (Nat × Instr × Nat × Nat) := [(0, .aload_n 0, 1, 1), (1, .iload_n 1, 1, 2), (2, .invokevirtual 314, 3, 5), (5, .istore_n 2, 1, 6), (6, .iload_n 2, 1, 7), (7, .ifCond .ne 11, 3, 10), (10, .aload_n 0, 1, 11), (11, .iload_n 1, 1, 12), (12, .invokevirtual 320, 3, 15), (15, .goto 4, 3, 18), (18, .iload_n 2, 1, 19), (19, .ireturn, 1, 20)]
def I_X9_judge : MI := (prog_11_method_70_code, 3, (some .int), "OpensAtNineModel", "judge", T_X9_judge, 0, 0, 7, 211)
theorem dT_X9_judge : ∀ q ∈ T_X9_judge, decode prog_11_method_70_code q.1 = .ok (q.2.1, q.2.2.1) ∧ q.2.2.2 = q.1 + q.2.2.1 := by decide +kernel
theorem xm_X9_judge : xCM y_X9_judge I_X9_judge 9 1 := ⟨⟨tw1384, tw1385⟩, tw84, tw1386, ⟨xT9, 49, rfl⟩, ⟨by decide +kernel, by decide +kernel, by decide +kernel⟩⟩
noncomputable def f_X9_judge_19 (h : XM) (s0 : Int32) : Option (Int32 × XM) := some (s0, h)
noncomputable def f_X9_judge (h : XM) (a0 : Option Nat) (a1 : Int32) : Option (Int32 × XM) := (vc h 9 a0 (f_X9_sheetWrong h a0 a1)).bind fun q1 => if q1.1 = 0 then ((vc q1.2 9 a0 (f_X9_unlike q1.2 a0 a1)).bind fun q2 => f_X9_judge_19 q2.2 q2.1) else (f_X9_judge_19 q1.2 q1.1)
theorem b_X9_judge_19 (X : XX) (h : XM) (s0 : Int32) : SW X I_X9_judge ρi 19 [] [tI s0] h 0 0 (f_X9_judge_19 h s0) := by
  unfold f_X9_judge_19
  exact s_iret (i := 11) rfl rfl
theorem c_X9_judge (h : XM) (a0 : Option Nat) (a1 : Int32) : MC I_X9_judge y_X9_judge [tA a0, tI a1] h ρi (f_X9_judge h a0 a1) := by
  refine MC_of ⟨by decide +kernel, rfl, rfl, Nat.le_of_ble_eq_true rfl⟩ dT_X9_judge (fun X => ?_)
  show SW X I_X9_judge ρi 0 [(0, tA a0), (1, tI a1)] [] h 0 0 (f_X9_judge h a0 a1)
  unfold f_X9_judge
  refine s_aload_n (i := 0) rfl 0 rfl ?_
  refine s_iload_n (i := 1) rfl 1 rfl ?_
  refine u_callVi (kk := 9) [tI a1] a0 [] rfl (i := 2) rfl (c_X9_sheetWrong h a0 a1) xm_X9_sheetWrong (tw1368) rfl (Nat.le_of_ble_eq_true rfl) (xRm.of rfl) ⟨rfl, rfl⟩ (fun q1 => ?_)
  refine s_istore_n (i := 3) rfl (Nat.le_of_ble_eq_true rfl) (ls2 := [(2, tI q1.1), (0, tA a0), (1, tI a1)]) rfl ?_
  refine s_iload_n (i := 4) rfl 0 rfl ?_
  refine s_ifne (i := 5) rfl (tgt := 18) (by decide) (fun z7 => ?_) (fun z7 => ?_)
  · refine s_aload_n (i := 6) rfl 1 rfl ?_
    refine s_iload_n (i := 7) rfl 2 rfl ?_
    refine u_callVi (kk := 9) [tI a1] a0 [] rfl (i := 8) rfl (c_X9_unlike q1.2 a0 a1) xm_X9_unlike (tw1387) rfl (Nat.le_of_ble_eq_true rfl) (xRm.of rfl) ⟨rfl, rfl⟩ (fun q2 => ?_)
    refine s_goto (i := 9) rfl (tgt := 19) (by decide) ?_
    exact s_sub [] rfl (b_X9_judge_19 X q2.2 q2.1)
  · refine s_iload_n (i := 10) rfl 0 rfl ?_
    exact s_sub [] rfl (b_X9_judge_19 X q1.2 q1.1)
def y_X9_laws : MethodName := ⟨"OpensAtNineModel", "laws", "(I)I"⟩
def T_X9_laws : List (Nat × Instr × Nat × Nat) := [(0, .aload_n 0, 1, 1), (1, .iload_n 1, 1, 2), (2, .invokevirtual 314, 3, 5), (5, .istore_n 2, 1, 6), (6, .iload_n 2, 1, 7), (7, .ifCond .eq 5, 3, 10), (10, .iload_n 2, 1, 11), (11, .ireturn, 1, 12), (12, .aload_n 0, 1, 13), (13, .getfield 126, 3, 16), (16, .istore_n 3, 1, 17), (17, .iconst 0, 1, 18), (18, .istore 4, 2, 20), (20, .iconst 0, 1, 21), (21, .istore 5, 2, 23), (23, .iload 5, 2, 25), (25, .aload_n 0, 1, 26), (26, .getfield 123, 3, 29), (29, .if_icmp .ge 37, 3, 32), (32, .aload_n 0, 1, 33), (33, .iload 5, 2, 35), (35, .putfield 126, 3, 38), (38, .iload 4, 2, 40), (40, .aload_n 0, 1, 41), (41, .iload_n 1, 1, 42), (42, .invokevirtual 320, 3, 45), (45, .iconst (-1), 1, 46), (46, .if_icmp .ne 10, 3, 49), (49, .iconst 1, 1, 50), (50, .iload 5, 2, 52), (52, .ishl, 1, 53), (53, .goto 4, 3, 56), (56, .iconst 0, 1, 57), (57, .ior, 1, 58), (58, .istore 4, 2, 60), (60, .iinc 5 1, 3, 63), (63, .goto (-40), 3, 66), (66, .aload_n 0, 1, 67), (67, .iload_n 3, 1, 68), (68, .putfield 126, 3, 71), (71, .iload 4, 2, 73), (73, .ireturn, 1, 74)]
def I_X9_laws : MI := (prog_11_method_71_code, 6, (some .int), "OpensAtNineModel", "laws", T_X9_laws, 0, 0, 7, 211)
theorem dT_X9_laws : ∀ q ∈ T_X9_laws, decode prog_11_method_71_code q.1 = .ok (q.2.1, q.2.2.1) ∧ q.2.2.2 = q.1 + q.2.2.1 := by decide +kernel
theorem xm_X9_laws : xCM y_X9_laws I_X9_laws 9 1 := ⟨⟨tw1392, tw1393⟩, tw84, tw1394, ⟨xT9, 49, rfl⟩, ⟨by decide +kernel, by decide +kernel, by decide +kernel⟩⟩
noncomputable def f_X9_laws_57 (k_23 : XM → Option Nat → Int32 → Int32 → Int32 → Int32 → Option (Int32 × XM)) (h : XM) (l0 : Option Nat) (l1 : Int32) (l3 : Int32) (l5 : Int32) (s0 : Int32) (s1 : Int32) : Option (Int32 × XM) := bnd (s1 ||| s0) fun v1 => bnd (l5 + (1 : Int32)) fun v2 => k_23 h l0 l1 l3 v1 v2
noncomputable def fb_X9_laws_23 (k_23 : XM → Option Nat → Int32 → Int32 → Int32 → Int32 → Option (Int32 × XM)) (h : XM) (l0 : Option Nat) (l1 : Int32) (l3 : Int32) (l4 : Int32) (l5 : Int32) : Option (Int32 × XM) := (gI h 9 l0 15).bind fun v3 => if l5 < v3 then ((pI h 9 l0 16 l5).bind fun h4 => (vc h4 9 l0 (f_X9_unlike h4 l0 l1)).bind fun q5 => if q5.1 = ((-1 : Int32)) then (f_X9_laws_57 k_23 q5.2 l0 l1 l3 l5 (((1 : Int32)) <<< (l5 &&& 31)) l4) else (f_X9_laws_57 k_23 q5.2 l0 l1 l3 l5 ((0 : Int32)) l4)) else ((pI h 9 l0 16 l3).bind fun h6 => some (l4, h6))
noncomputable def f_X9_laws_23 (n : Nat) : XM → Option Nat → Int32 → Int32 → Int32 → Int32 → Option (Int32 × XM) := Nat.rec (motive := fun _ => XM → Option Nat → Int32 → Int32 → Int32 → Int32 → Option (Int32 × XM)) (fun _ _ _ _ _ _ => none) (fun _ ih h l0 l1 l3 l4 l5 => fb_X9_laws_23 ih h l0 l1 l3 l4 l5) n
noncomputable def f_X9_laws (h : XM) (a0 : Option Nat) (a1 : Int32) : Option (Int32 × XM) := (vc h 9 a0 (f_X9_sheetWrong h a0 a1)).bind fun q7 => if q7.1 = 0 then ((gI q7.2 9 a0 16).bind fun v8 => f_X9_laws_23 FU q7.2 a0 a1 v8 ((0 : Int32)) ((0 : Int32))) else (some (q7.1, q7.2))
theorem b_X9_laws_57 (X : XX) (k_23 : XM → Option Nat → Int32 → Int32 → Int32 → Int32 → Option (Int32 × XM)) (hk_23 : ∀ h l0 l1 l3 l4 l5, SW X I_X9_laws ρi 23 [(0, tA l0), (1, tI l1), (3, tI l3), (4, tI l4), (5, tI l5)] [] h 0 0 (k_23 h l0 l1 l3 l4 l5)) (h : XM) (l0 : Option Nat) (l1 : Int32) (l3 : Int32) (l5 : Int32) (s0 : Int32) (s1 : Int32) : SW X I_X9_laws ρi 57 [(0, tA l0), (1, tI l1), (3, tI l3), (5, tI l5)] [tI s0, tI s1] h 0 0 (f_X9_laws_57 k_23 h l0 l1 l3 l5 s0 s1) := by
  unfold f_X9_laws_57
  refine s_ior (i := 33) rfl ?_
  refine s_bnd (fun v1 => ?_)
  refine s_istore (i := 34) rfl (Nat.le_of_ble_eq_true rfl) (ls2 := [(4, tI v1), (0, tA l0), (1, tI l1), (3, tI l3), (5, tI l5)]) rfl ?_
  refine s_inc (i := 35) rfl 4 rfl (c9 := (1 : Int32)) (by decide) (Nat.le_of_ble_eq_true rfl) (fun v2 => ?_)
  refine s_ls (ls2 := [(5, tI v2), (4, tI v1), (0, tA l0), (1, tI l1), (3, tI l3)]) rfl ?_
  refine s_goto (i := 36) rfl (tgt := 23) (by decide) ?_
  exact s_sub [2, 3, 4, 1, 0] rfl (hk_23 h l0 l1 l3 v1 v2)
theorem bb_X9_laws_23 (X : XX) (k_23 : XM → Option Nat → Int32 → Int32 → Int32 → Int32 → Option (Int32 × XM)) (hk_23 : ∀ h l0 l1 l3 l4 l5, SW X I_X9_laws ρi 23 [(0, tA l0), (1, tI l1), (3, tI l3), (4, tI l4), (5, tI l5)] [] h 0 0 (k_23 h l0 l1 l3 l4 l5)) (h : XM) (l0 : Option Nat) (l1 : Int32) (l3 : Int32) (l4 : Int32) (l5 : Int32) : SW X I_X9_laws ρi 23 [(0, tA l0), (1, tI l1), (3, tI l3), (4, tI l4), (5, tI l5)] [] h 0 0 (fb_X9_laws_23 k_23 h l0 l1 l3 l4 l5) := by
  unfold fb_X9_laws_23
  refine s_iload (i := 15) rfl 4 rfl ?_
  refine s_aload_n (i := 16) rfl 0 rfl ?_
  refine s_getI (i := 17) rfl xf_9_123.r rfl (fun v3 => ?_)
  refine s_icmpge (i := 18) rfl (tgt := 66) (by decide) (fun z29 => ?_) (fun z29 => ?_)
  · refine s_aload_n (i := 19) rfl 0 rfl ?_
    refine s_iload (i := 20) rfl 4 rfl ?_
    refine s_putI (i := 21) rfl xf_9_126 (fun q => by cases q) rfl rfl (fun h4 => ?_)
    refine s_iload (i := 22) rfl 3 rfl ?_
    refine s_aload_n (i := 23) rfl 0 rfl ?_
    refine s_iload_n (i := 24) rfl 1 rfl ?_
    refine u_callVi (kk := 9) [tI l1] l0 [tI l4] rfl (i := 25) rfl (c_X9_unlike h4 l0 l1) xm_X9_unlike (tw1387) rfl (Nat.le_of_ble_eq_true rfl) (xRm.of rfl) ⟨rfl, rfl⟩ (fun q5 => ?_)
    refine s_iconst (i := 26) rfl (v := (-1 : Int32)) (by decide) ?_
    refine s_icmpne (i := 27) rfl (tgt := 56) (by decide) (fun z46 => ?_) (fun z46 => ?_)
    · refine s_iconst (i := 28) rfl (v := (1 : Int32)) (by decide) ?_
      refine s_iload (i := 29) rfl 4 rfl ?_
      refine s_ishl (i := 30) rfl ?_
      refine s_goto (i := 31) rfl (tgt := 57) (by decide) ?_
      exact s_sub [0, 1, 2, 4] rfl (b_X9_laws_57 X k_23 hk_23 q5.2 l0 l1 l3 l5 (((1 : Int32)) <<< (l5 &&& 31)) l4)
    · refine s_iconst (i := 32) rfl (v := (0 : Int32)) (by decide) ?_
      exact s_sub [0, 1, 2, 4] rfl (b_X9_laws_57 X k_23 hk_23 q5.2 l0 l1 l3 l5 ((0 : Int32)) l4)
  · refine s_aload_n (i := 37) rfl 0 rfl ?_
    refine s_iload_n (i := 38) rfl 2 rfl ?_
    refine s_putI (i := 39) rfl xf_9_126 (fun q => by cases q) rfl rfl (fun h6 => ?_)
    refine s_iload (i := 40) rfl 3 rfl ?_
    exact s_iret (i := 41) rfl rfl
theorem b_X9_laws_23 (X : XX) : ∀ (n : Nat) (h : XM) (l0 : Option Nat) (l1 : Int32) (l3 : Int32) (l4 : Int32) (l5 : Int32), SW X I_X9_laws ρi 23 [(0, tA l0), (1, tI l1), (3, tI l3), (4, tI l4), (5, tI l5)] [] h 0 0 (f_X9_laws_23 n h l0 l1 l3 l4 l5) := by
  intro n
  induction n with
  | zero =>
    intro h l0 l1 l3 l4 l5
    exact s_none
  | succ n ih =>
    intro h l0 l1 l3 l4 l5
    exact bb_X9_laws_23 X (f_X9_laws_23 n) ih h l0 l1 l3 l4 l5
theorem c_X9_laws (h : XM) (a0 : Option Nat) (a1 : Int32) : MC I_X9_laws y_X9_laws [tA a0, tI a1] h ρi (f_X9_laws h a0 a1) := by
  refine MC_of ⟨by decide +kernel, rfl, rfl, Nat.le_of_ble_eq_true rfl⟩ dT_X9_laws (fun X => ?_)
  show SW X I_X9_laws ρi 0 [(0, tA a0), (1, tI a1)] [] h 0 0 (f_X9_laws h a0 a1)
  unfold f_X9_laws
  refine s_aload_n (i := 0) rfl 0 rfl ?_
  refine s_iload_n (i := 1) rfl 1 rfl ?_
  refine u_callVi (kk := 9) [tI a1] a0 [] rfl (i := 2) rfl (c_X9_sheetWrong h a0 a1) xm_X9_sheetWrong (tw1368) rfl (Nat.le_of_ble_eq_true rfl) (xRm.of rfl) ⟨rfl, rfl⟩ (fun q7 => ?_)
  refine s_istore_n (i := 3) rfl (Nat.le_of_ble_eq_true rfl) (ls2 := [(2, tI q7.1), (0, tA a0), (1, tI a1)]) rfl ?_
  refine s_iload_n (i := 4) rfl 0 rfl ?_
  refine s_ifeq (i := 5) rfl (tgt := 12) (by decide) (fun z7 => ?_) (fun z7 => ?_)
  · refine s_aload_n (i := 8) rfl 1 rfl ?_
    refine s_getI (i := 9) rfl xf_9_126.r rfl (fun v8 => ?_)
    refine s_istore_n (i := 10) rfl (Nat.le_of_ble_eq_true rfl) (ls2 := [(3, tI v8), (2, tI q7.1), (0, tA a0), (1, tI a1)]) rfl ?_
    refine s_iconst (i := 11) rfl (v := (0 : Int32)) (by decide) ?_
    refine s_istore (i := 12) rfl (Nat.le_of_ble_eq_true rfl) (ls2 := [(4, tI ((0 : Int32))), (3, tI v8), (2, tI q7.1), (0, tA a0), (1, tI a1)]) rfl ?_
    refine s_iconst (i := 13) rfl (v := (0 : Int32)) (by decide) ?_
    refine s_istore (i := 14) rfl (Nat.le_of_ble_eq_true rfl) (ls2 := [(5, tI ((0 : Int32))), (4, tI ((0 : Int32))), (3, tI v8), (2, tI q7.1), (0, tA a0), (1, tI a1)]) rfl ?_
    exact s_sub [4, 5, 2, 1, 0] rfl (b_X9_laws_23 X FU q7.2 a0 a1 v8 ((0 : Int32)) ((0 : Int32)))
  · refine s_iload_n (i := 6) rfl 0 rfl ?_
    exact s_iret (i := 7) rfl rfl
def y_X9_numbers : MethodName := ⟨"OpensAtNineModel", "numbers", "(I)I"⟩
def T_X9_numbers : List (Nat × Instr × Nat × Nat) := [(0, .aload_n 0, 1, 1), (1, .iload_n 1, 1, 2), (2, .invokevirtual 314, 3, 5), (5, .istore_n 2, 1, 6), (6, .iload_n 2, 1, 7), (7, .ifCond .eq 5, 3, 10), (10, .iload_n 2, 1, 11), (11, .ireturn, 1, 12), (12, .aload_n 0, 1, 13), (13, .getfield 7, 3, 16), (16, .istore_n 3, 1, 17), (17, .iconst 0, 1, 18), (18, .istore 4, 2, 20), (20, .iconst 2, 1, 21), (21, .istore 5, 2, 23), (23, .iload 5, 2, 25), (25, .bipush 20, 2, 27), (27, .if_icmp .gt 37, 3, 30), (30, .aload_n 0, 1, 31), (31, .iload 5, 2, 33), (33, .putfield 7, 3, 36), (36, .iload 4, 2, 38), (38, .aload_n 0, 1, 39), (39, .iload_n 1, 1, 40), (40, .invokevirtual 320, 3, 43), (43, .iconst (-1), 1, 44), (44, .if_icmp .ne 10, 3, 47), (47, .iconst 1, 1, 48), (48, .iload 5, 2, 50), (50, .ishl, 1, 51), (51, .goto 4, 3, 54), (54, .iconst 0, 1, 55), (55, .ior, 1, 56), (56, .istore 4, 2, 58), (58, .iinc 5 1, 3, 61), (61, .goto (-38), 3, 64), (64, .aload_n 0, 1, 65), (65, .iload_n 3, 1, 66), (66, .putfield 7, 3, 69), (69, .iload 4, 2, 71), (71, .ireturn, 1, 72)]
def I_X9_numbers : MI := (prog_11_method_72_code, 6, (some .int), "OpensAtNineModel", "numbers", T_X9_numbers, 0, 0, 7, 211)
theorem dT_X9_numbers : ∀ q ∈ T_X9_numbers, decode prog_11_method_72_code q.1 = .ok (q.2.1, q.2.2.1) ∧ q.2.2.2 = q.1 + q.2.2.1 := by decide +kernel
theorem xm_X9_numbers : xCM y_X9_numbers I_X9_numbers 9 1 := ⟨⟨tw1396, tw1397⟩, tw84, tw1398, ⟨xT9, 49, rfl⟩, ⟨by decide +kernel, by decide +kernel, by decide +kernel⟩⟩
noncomputable def f_X9_numbers_55 (k_23 : XM → Option Nat → Int32 → Int32 → Int32 → Int32 → Option (Int32 × XM)) (h : XM) (l0 : Option Nat) (l1 : Int32) (l3 : Int32) (l5 : Int32) (s0 : Int32) (s1 : Int32) : Option (Int32 × XM) := bnd (s1 ||| s0) fun v1 => bnd (l5 + (1 : Int32)) fun v2 => k_23 h l0 l1 l3 v1 v2
noncomputable def fb_X9_numbers_23 (k_23 : XM → Option Nat → Int32 → Int32 → Int32 → Int32 → Option (Int32 × XM)) (h : XM) (l0 : Option Nat) (l1 : Int32) (l3 : Int32) (l4 : Int32) (l5 : Int32) : Option (Int32 × XM) := if ((20 : Int32)) < l5 then ((pI h 9 l0 0 l3).bind fun h3 => some (l4, h3)) else ((pI h 9 l0 0 l5).bind fun h4 => (vc h4 9 l0 (f_X9_unlike h4 l0 l1)).bind fun q5 => if q5.1 = ((-1 : Int32)) then (f_X9_numbers_55 k_23 q5.2 l0 l1 l3 l5 (((1 : Int32)) <<< (l5 &&& 31)) l4) else (f_X9_numbers_55 k_23 q5.2 l0 l1 l3 l5 ((0 : Int32)) l4))
noncomputable def f_X9_numbers_23 (n : Nat) : XM → Option Nat → Int32 → Int32 → Int32 → Int32 → Option (Int32 × XM) := Nat.rec (motive := fun _ => XM → Option Nat → Int32 → Int32 → Int32 → Int32 → Option (Int32 × XM)) (fun _ _ _ _ _ _ => none) (fun _ ih h l0 l1 l3 l4 l5 => fb_X9_numbers_23 ih h l0 l1 l3 l4 l5) n
noncomputable def f_X9_numbers (h : XM) (a0 : Option Nat) (a1 : Int32) : Option (Int32 × XM) := (vc h 9 a0 (f_X9_sheetWrong h a0 a1)).bind fun q6 => if q6.1 = 0 then ((gI q6.2 9 a0 0).bind fun v7 => f_X9_numbers_23 FU q6.2 a0 a1 v7 ((0 : Int32)) ((2 : Int32))) else (some (q6.1, q6.2))
theorem b_X9_numbers_55 (X : XX) (k_23 : XM → Option Nat → Int32 → Int32 → Int32 → Int32 → Option (Int32 × XM)) (hk_23 : ∀ h l0 l1 l3 l4 l5, SW X I_X9_numbers ρi 23 [(0, tA l0), (1, tI l1), (3, tI l3), (4, tI l4), (5, tI l5)] [] h 0 0 (k_23 h l0 l1 l3 l4 l5)) (h : XM) (l0 : Option Nat) (l1 : Int32) (l3 : Int32) (l5 : Int32) (s0 : Int32) (s1 : Int32) : SW X I_X9_numbers ρi 55 [(0, tA l0), (1, tI l1), (3, tI l3), (5, tI l5)] [tI s0, tI s1] h 0 0 (f_X9_numbers_55 k_23 h l0 l1 l3 l5 s0 s1) := by
  unfold f_X9_numbers_55
  refine s_ior (i := 32) rfl ?_
  refine s_bnd (fun v1 => ?_)
  refine s_istore (i := 33) rfl (Nat.le_of_ble_eq_true rfl) (ls2 := [(4, tI v1), (0, tA l0), (1, tI l1), (3, tI l3), (5, tI l5)]) rfl ?_
  refine s_inc (i := 34) rfl 4 rfl (c9 := (1 : Int32)) (by decide) (Nat.le_of_ble_eq_true rfl) (fun v2 => ?_)
  refine s_ls (ls2 := [(5, tI v2), (4, tI v1), (0, tA l0), (1, tI l1), (3, tI l3)]) rfl ?_
  refine s_goto (i := 35) rfl (tgt := 23) (by decide) ?_
  exact s_sub [2, 3, 4, 1, 0] rfl (hk_23 h l0 l1 l3 v1 v2)
theorem bb_X9_numbers_23 (X : XX) (k_23 : XM → Option Nat → Int32 → Int32 → Int32 → Int32 → Option (Int32 × XM)) (hk_23 : ∀ h l0 l1 l3 l4 l5, SW X I_X9_numbers ρi 23 [(0, tA l0), (1, tI l1), (3, tI l3), (4, tI l4), (5, tI l5)] [] h 0 0 (k_23 h l0 l1 l3 l4 l5)) (h : XM) (l0 : Option Nat) (l1 : Int32) (l3 : Int32) (l4 : Int32) (l5 : Int32) : SW X I_X9_numbers ρi 23 [(0, tA l0), (1, tI l1), (3, tI l3), (4, tI l4), (5, tI l5)] [] h 0 0 (fb_X9_numbers_23 k_23 h l0 l1 l3 l4 l5) := by
  unfold fb_X9_numbers_23
  refine s_iload (i := 15) rfl 4 rfl ?_
  refine s_bipush (i := 16) rfl (v := (20 : Int32)) (by decide) ?_
  refine s_icmpgt (i := 17) rfl (tgt := 64) (by decide) (fun z27 => ?_) (fun z27 => ?_)
  · refine s_aload_n (i := 36) rfl 0 rfl ?_
    refine s_iload_n (i := 37) rfl 2 rfl ?_
    refine s_putI (i := 38) rfl xf_9_7 (fun q => by cases q) rfl rfl (fun h3 => ?_)
    refine s_iload (i := 39) rfl 3 rfl ?_
    exact s_iret (i := 40) rfl rfl
  · refine s_aload_n (i := 18) rfl 0 rfl ?_
    refine s_iload (i := 19) rfl 4 rfl ?_
    refine s_putI (i := 20) rfl xf_9_7 (fun q => by cases q) rfl rfl (fun h4 => ?_)
    refine s_iload (i := 21) rfl 3 rfl ?_
    refine s_aload_n (i := 22) rfl 0 rfl ?_
    refine s_iload_n (i := 23) rfl 1 rfl ?_
    refine u_callVi (kk := 9) [tI l1] l0 [tI l4] rfl (i := 24) rfl (c_X9_unlike h4 l0 l1) xm_X9_unlike (tw1387) rfl (Nat.le_of_ble_eq_true rfl) (xRm.of rfl) ⟨rfl, rfl⟩ (fun q5 => ?_)
    refine s_iconst (i := 25) rfl (v := (-1 : Int32)) (by decide) ?_
    refine s_icmpne (i := 26) rfl (tgt := 54) (by decide) (fun z44 => ?_) (fun z44 => ?_)
    · refine s_iconst (i := 27) rfl (v := (1 : Int32)) (by decide) ?_
      refine s_iload (i := 28) rfl 4 rfl ?_
      refine s_ishl (i := 29) rfl ?_
      refine s_goto (i := 30) rfl (tgt := 55) (by decide) ?_
      exact s_sub [0, 1, 2, 4] rfl (b_X9_numbers_55 X k_23 hk_23 q5.2 l0 l1 l3 l5 (((1 : Int32)) <<< (l5 &&& 31)) l4)
    · refine s_iconst (i := 31) rfl (v := (0 : Int32)) (by decide) ?_
      exact s_sub [0, 1, 2, 4] rfl (b_X9_numbers_55 X k_23 hk_23 q5.2 l0 l1 l3 l5 ((0 : Int32)) l4)
theorem b_X9_numbers_23 (X : XX) : ∀ (n : Nat) (h : XM) (l0 : Option Nat) (l1 : Int32) (l3 : Int32) (l4 : Int32) (l5 : Int32), SW X I_X9_numbers ρi 23 [(0, tA l0), (1, tI l1), (3, tI l3), (4, tI l4), (5, tI l5)] [] h 0 0 (f_X9_numbers_23 n h l0 l1 l3 l4 l5) := by
  intro n
  induction n with
  | zero =>
    intro h l0 l1 l3 l4 l5
    exact s_none
  | succ n ih =>
    intro h l0 l1 l3 l4 l5
    exact bb_X9_numbers_23 X (f_X9_numbers_23 n) ih h l0 l1 l3 l4 l5
theorem c_X9_numbers (h : XM) (a0 : Option Nat) (a1 : Int32) : MC I_X9_numbers y_X9_numbers [tA a0, tI a1] h ρi (f_X9_numbers h a0 a1) := by
  refine MC_of ⟨by decide +kernel, rfl, rfl, Nat.le_of_ble_eq_true rfl⟩ dT_X9_numbers (fun X => ?_)
  show SW X I_X9_numbers ρi 0 [(0, tA a0), (1, tI a1)] [] h 0 0 (f_X9_numbers h a0 a1)
  unfold f_X9_numbers
  refine s_aload_n (i := 0) rfl 0 rfl ?_
  refine s_iload_n (i := 1) rfl 1 rfl ?_
  refine u_callVi (kk := 9) [tI a1] a0 [] rfl (i := 2) rfl (c_X9_sheetWrong h a0 a1) xm_X9_sheetWrong (tw1368) rfl (Nat.le_of_ble_eq_true rfl) (xRm.of rfl) ⟨rfl, rfl⟩ (fun q6 => ?_)
  refine s_istore_n (i := 3) rfl (Nat.le_of_ble_eq_true rfl) (ls2 := [(2, tI q6.1), (0, tA a0), (1, tI a1)]) rfl ?_
  refine s_iload_n (i := 4) rfl 0 rfl ?_
  refine s_ifeq (i := 5) rfl (tgt := 12) (by decide) (fun z7 => ?_) (fun z7 => ?_)
  · refine s_aload_n (i := 8) rfl 1 rfl ?_
    refine s_getI (i := 9) rfl xf_9_7.r rfl (fun v7 => ?_)
    refine s_istore_n (i := 10) rfl (Nat.le_of_ble_eq_true rfl) (ls2 := [(3, tI v7), (2, tI q6.1), (0, tA a0), (1, tI a1)]) rfl ?_
    refine s_iconst (i := 11) rfl (v := (0 : Int32)) (by decide) ?_
    refine s_istore (i := 12) rfl (Nat.le_of_ble_eq_true rfl) (ls2 := [(4, tI ((0 : Int32))), (3, tI v7), (2, tI q6.1), (0, tA a0), (1, tI a1)]) rfl ?_
    refine s_iconst (i := 13) rfl (v := (2 : Int32)) (by decide) ?_
    refine s_istore (i := 14) rfl (Nat.le_of_ble_eq_true rfl) (ls2 := [(5, tI ((2 : Int32))), (4, tI ((0 : Int32))), (3, tI v7), (2, tI q6.1), (0, tA a0), (1, tI a1)]) rfl ?_
    exact s_sub [4, 5, 2, 1, 0] rfl (b_X9_numbers_23 X FU q6.2 a0 a1 v7 ((0 : Int32)) ((2 : Int32)))
  · refine s_iload_n (i := 6) rfl 0 rfl ?_
    exact s_iret (i := 7) rfl rfl
def y_X9_film : MethodName := ⟨"OpensAtNineModel", "film", "(I)I"⟩
def T_X9_film : List (Nat × Instr × Nat × Nat) := [(0, .iload_n 1, 1, 1), (1, .iconst 0, 1, 2), (2, .iconst 3, 1, 3), (3, .invokestatic 100, 3, 6), (6, .ifCond .ne 6, 3, 9), (9, .bipush (-2), 2, 11), (11, .ireturn, 1, 12), (12, .iconst 0, 1, 13), (13, .istore_n 2, 1, 14), (14, .iload_n 2, 1, 15), (15, .bipush 40, 2, 17), (17, .if_icmp .ge 21, 3, 20), (20, .aload_n 0, 1, 21), (21, .getfield 47, 3, 24), (24, .bipush 40, 2, 26), (26, .iload_n 1, 1, 27), (27, .imul, 1, 28), (28, .iload_n 2, 1, 29), (29, .iadd, 1, 30), (30, .iconst 0, 1, 31), (31, .iastore, 1, 32), (32, .iinc 2 1, 3, 35), (35, .goto (-21), 3, 38), (38, .iconst 0, 1, 39), (39, .istore_n 2, 1, 40), (40, .aload_n 0, 1, 41), (41, .iconst 0, 1, 42), (42, .invokevirtual 260, 3, 45), (45, .iconst 0, 1, 46), (46, .istore_n 3, 1, 47), (47, .iload_n 3, 1, 48), (48, .aload_n 0, 1, 49), (49, .getfield 104, 3, 52), (52, .if_icmp .ge 62, 3, 55), (55, .aload_n 0, 1, 56), (56, .iload_n 3, 1, 57), (57, .invokevirtual 241, 3, 60), (60, .ifCond .eq 48, 3, 63), (63, .aload_n 0, 1, 64), (64, .getfield 47, 3, 67), (67, .bipush 40, 2, 69), (69, .iload_n 1, 1, 70), (70, .imul, 1, 71), (71, .iconst 2, 1, 72), (72, .iload_n 2, 1, 73), (73, .imul, 1, 74), (74, .iadd, 1, 75), (75, .iload_n 3, 1, 76), (76, .iastore, 1, 77), (77, .aload_n 0, 1, 78), (78, .getfield 47, 3, 81), (81, .bipush 40, 2, 83), (83, .iload_n 1, 1, 84), (84, .imul, 1, 85), (85, .iconst 2, 1, 86), (86, .iload_n 2, 1, 87), (87, .imul, 1, 88), (88, .iadd, 1, 89), (89, .iconst 1, 1, 90), (90, .iadd, 1, 91), (91, .aload_n 0, 1, 92), (92, .iload_n 3, 1, 93), (93, .invokevirtual 244, 3, 96), (96, .ifCond .eq 7, 3, 99), (99, .iconst 1, 1, 100), (100, .goto 4, 3, 103), (103, .iconst 0, 1, 104), (104, .iastore, 1, 105), (105, .iinc 2 1, 3, 108), (108, .iinc 3 1, 3, 111), (111, .goto (-64), 3, 114), (114, .aload_n 0, 1, 115), (115, .iconst 0, 1, 116), (116, .invokevirtual 267, 3, 119), (119, .aload_n 0, 1, 120), (120, .getfield 41, 3, 123), (123, .iload_n 1, 1, 124), (124, .iconst 2, 1, 125), (125, .iastore, 1, 126), (126, .aload_n 0, 1, 127), (127, .getfield 44, 3, 130), (130, .iload_n 1, 1, 131), (131, .iconst 2, 1, 132), (132, .iload_n 2, 1, 133), (133, .imul, 1, 134), (134, .iastore, 1, 135), (135, .iload_n 2, 1, 136), (136, .ireturn, 1, 137)]
def I_X9_film : MI := (prog_11_method_73_code, 4, (some .int), "OpensAtNineModel", "film", T_X9_film, 0, 0, 6, 186)
theorem dT_X9_film : ∀ q ∈ T_X9_film, decode prog_11_method_73_code q.1 = .ok (q.2.1, q.2.2.1) ∧ q.2.2.2 = q.1 + q.2.2.1 := by decide +kernel
theorem xm_X9_film : xCM y_X9_film I_X9_film 9 1 := ⟨⟨tw1400, tw1401⟩, tw84, tw1402, ⟨xT9, 49, rfl⟩, ⟨by decide +kernel, by decide +kernel, by decide +kernel⟩⟩
noncomputable def f_X9_film_108 (k_47 : XM → Option Nat → Int32 → Int32 → Int32 → Option (Int32 × XM)) (h : XM) (l0 : Option Nat) (l1 : Int32) (l2 : Int32) (l3 : Int32) : Option (Int32 × XM) := bnd (l3 + (1 : Int32)) fun v1 => k_47 h l0 l1 l2 v1
noncomputable def f_X9_film_104 (k_47 : XM → Option Nat → Int32 → Int32 → Int32 → Option (Int32 × XM)) (h : XM) (l0 : Option Nat) (l1 : Int32) (l2 : Int32) (l3 : Int32) (s0 : Int32) (s1 : Int32) (s2 : Option Nat) : Option (Int32 × XM) := (sI h s2 s1 s0).bind fun h2 => bnd (l2 + (1 : Int32)) fun v3 => f_X9_film_108 k_47 h2 l0 l1 v3 l3
noncomputable def fb_X9_film_47 (k_47 : XM → Option Nat → Int32 → Int32 → Int32 → Option (Int32 × XM)) (h : XM) (l0 : Option Nat) (l1 : Int32) (l2 : Int32) (l3 : Int32) : Option (Int32 × XM) := (gI h 9 l0 5).bind fun v4 => if l3 < v4 then ((vc h 9 l0 (f_X9_canPut h l0 l3)).bind fun q5 => if q5.1 = 0 then (f_X9_film_108 k_47 q5.2 l0 l1 l2 l3) else ((gR q5.2 9 l0 22).bind fun v6 => (sI q5.2 v6 ((((40 : Int32)) * l1) + (((2 : Int32)) * l2)) l3).bind fun h7 => (gR h7 9 l0 22).bind fun v8 => (vc h7 9 l0 (f_X9_paysIn h7 l0 l3)).bind fun q9 => if q9.1 = 0 then (f_X9_film_104 k_47 q9.2 l0 l1 l2 l3 ((0 : Int32)) (((((40 : Int32)) * l1) + (((2 : Int32)) * l2)) + ((1 : Int32))) v8) else (f_X9_film_104 k_47 q9.2 l0 l1 l2 l3 ((1 : Int32)) (((((40 : Int32)) * l1) + (((2 : Int32)) * l2)) + ((1 : Int32))) v8))) else ((vc h 9 l0 (f_X9_laysBack h l0 ((0 : Int32)))).bind fun q10 => (gR q10 9 l0 20).bind fun v11 => (sI q10 v11 l1 ((2 : Int32))).bind fun h12 => (gR h12 9 l0 21).bind fun v13 => (sI h12 v13 l1 (((2 : Int32)) * l2)).bind fun h14 => some (l2, h14))
noncomputable def f_X9_film_47 (n : Nat) : XM → Option Nat → Int32 → Int32 → Int32 → Option (Int32 × XM) := Nat.rec (motive := fun _ => XM → Option Nat → Int32 → Int32 → Int32 → Option (Int32 × XM)) (fun _ _ _ _ _ => none) (fun _ ih h l0 l1 l2 l3 => fb_X9_film_47 ih h l0 l1 l2 l3) n
noncomputable def fb_X9_film_14 (k_14 : XM → Option Nat → Int32 → Int32 → Option (Int32 × XM)) (h : XM) (l0 : Option Nat) (l1 : Int32) (l2 : Int32) : Option (Int32 × XM) := if l2 < ((40 : Int32)) then ((gR h 9 l0 22).bind fun v15 => (sI h v15 ((((40 : Int32)) * l1) + l2) ((0 : Int32))).bind fun h16 => bnd (l2 + (1 : Int32)) fun v17 => k_14 h16 l0 l1 v17) else ((vc h 9 l0 (f_X9_keeps h l0 ((0 : Int32)))).bind fun q18 => f_X9_film_47 FU q18 l0 l1 ((0 : Int32)) ((0 : Int32)))
noncomputable def f_X9_film_14 (n : Nat) : XM → Option Nat → Int32 → Int32 → Option (Int32 × XM) := Nat.rec (motive := fun _ => XM → Option Nat → Int32 → Int32 → Option (Int32 × XM)) (fun _ _ _ _ => none) (fun _ ih h l0 l1 l2 => fb_X9_film_14 ih h l0 l1 l2) n
noncomputable def f_X9_film (h : XM) (a0 : Option Nat) (a1 : Int32) : Option (Int32 × XM) := (f_X9_in h a1 ((0 : Int32)) ((3 : Int32))).bind fun q19 => if q19.1 = 0 then (some ((-2 : Int32), q19.2)) else (f_X9_film_14 FU q19.2 a0 a1 ((0 : Int32)))
theorem b_X9_film_108 (X : XX) (k_47 : XM → Option Nat → Int32 → Int32 → Int32 → Option (Int32 × XM)) (hk_47 : ∀ h l0 l1 l2 l3, SW X I_X9_film ρi 47 [(0, tA l0), (1, tI l1), (2, tI l2), (3, tI l3)] [] h 0 0 (k_47 h l0 l1 l2 l3)) (h : XM) (l0 : Option Nat) (l1 : Int32) (l2 : Int32) (l3 : Int32) : SW X I_X9_film ρi 108 [(0, tA l0), (1, tI l1), (2, tI l2), (3, tI l3)] [] h 0 0 (f_X9_film_108 k_47 h l0 l1 l2 l3) := by
  unfold f_X9_film_108
  refine s_inc (i := 69) rfl 3 rfl (c9 := (1 : Int32)) (by decide) (Nat.le_of_ble_eq_true rfl) (fun v1 => ?_)
  refine s_ls (ls2 := [(3, tI v1), (0, tA l0), (1, tI l1), (2, tI l2)]) rfl ?_
  refine s_goto (i := 70) rfl (tgt := 47) (by decide) ?_
  exact s_sub [1, 2, 3, 0] rfl (hk_47 h l0 l1 l2 v1)
theorem b_X9_film_104 (X : XX) (k_47 : XM → Option Nat → Int32 → Int32 → Int32 → Option (Int32 × XM)) (hk_47 : ∀ h l0 l1 l2 l3, SW X I_X9_film ρi 47 [(0, tA l0), (1, tI l1), (2, tI l2), (3, tI l3)] [] h 0 0 (k_47 h l0 l1 l2 l3)) (h : XM) (l0 : Option Nat) (l1 : Int32) (l2 : Int32) (l3 : Int32) (s0 : Int32) (s1 : Int32) (s2 : Option Nat) : SW X I_X9_film ρi 104 [(0, tA l0), (1, tI l1), (2, tI l2), (3, tI l3)] [tI s0, tI s1, tA s2] h 0 0 (f_X9_film_104 k_47 h l0 l1 l2 l3 s0 s1 s2) := by
  unfold f_X9_film_104
  refine s_iastore (i := 67) rfl (fun h2 => ?_)
  refine s_inc (i := 68) rfl 2 rfl (c9 := (1 : Int32)) (by decide) (Nat.le_of_ble_eq_true rfl) (fun v3 => ?_)
  refine s_ls (ls2 := [(2, tI v3), (0, tA l0), (1, tI l1), (3, tI l3)]) rfl ?_
  exact s_sub [1, 2, 0, 3] rfl (b_X9_film_108 X k_47 hk_47 h2 l0 l1 v3 l3)
theorem bb_X9_film_47 (X : XX) (k_47 : XM → Option Nat → Int32 → Int32 → Int32 → Option (Int32 × XM)) (hk_47 : ∀ h l0 l1 l2 l3, SW X I_X9_film ρi 47 [(0, tA l0), (1, tI l1), (2, tI l2), (3, tI l3)] [] h 0 0 (k_47 h l0 l1 l2 l3)) (h : XM) (l0 : Option Nat) (l1 : Int32) (l2 : Int32) (l3 : Int32) : SW X I_X9_film ρi 47 [(0, tA l0), (1, tI l1), (2, tI l2), (3, tI l3)] [] h 0 0 (fb_X9_film_47 k_47 h l0 l1 l2 l3) := by
  unfold fb_X9_film_47
  refine s_iload_n (i := 30) rfl 3 rfl ?_
  refine s_aload_n (i := 31) rfl 0 rfl ?_
  refine s_getI (i := 32) rfl xf_9_104.r rfl (fun v4 => ?_)
  refine s_icmpge (i := 33) rfl (tgt := 114) (by decide) (fun z52 => ?_) (fun z52 => ?_)
  · refine s_aload_n (i := 34) rfl 0 rfl ?_
    refine s_iload_n (i := 35) rfl 3 rfl ?_
    refine u_callVi (kk := 9) [tI l3] l0 [] rfl (i := 36) rfl (c_X9_canPut h l0 l3) xm_X9_canPut (tw1255) rfl (Nat.le_of_ble_eq_true rfl) (xRm.of rfl) ⟨rfl, rfl⟩ (fun q5 => ?_)
    refine s_ifeq (i := 37) rfl (tgt := 108) (by decide) (fun z60 => ?_) (fun z60 => ?_)
    · exact s_sub [0, 1, 2, 3] rfl (b_X9_film_108 X k_47 hk_47 q5.2 l0 l1 l2 l3)
    · refine s_aload_n (i := 38) rfl 0 rfl ?_
      refine s_getR (i := 39) rfl xf_9_47.r rfl (fun v6 => ?_)
      refine s_bipush (i := 40) rfl (v := (40 : Int32)) (by decide) ?_
      refine s_iload_n (i := 41) rfl 1 rfl ?_
      refine s_imul (i := 42) rfl ?_
      refine s_iconst (i := 43) rfl (v := (2 : Int32)) (by decide) ?_
      refine s_iload_n (i := 44) rfl 2 rfl ?_
      refine s_imul (i := 45) rfl ?_
      refine s_iadd (i := 46) rfl ?_
      refine s_iload_n (i := 47) rfl 3 rfl ?_
      refine s_iastore (i := 48) rfl (fun h7 => ?_)
      refine s_aload_n (i := 49) rfl 0 rfl ?_
      refine s_getR (i := 50) rfl xf_9_47.r rfl (fun v8 => ?_)
      refine s_bipush (i := 51) rfl (v := (40 : Int32)) (by decide) ?_
      refine s_iload_n (i := 52) rfl 1 rfl ?_
      refine s_imul (i := 53) rfl ?_
      refine s_iconst (i := 54) rfl (v := (2 : Int32)) (by decide) ?_
      refine s_iload_n (i := 55) rfl 2 rfl ?_
      refine s_imul (i := 56) rfl ?_
      refine s_iadd (i := 57) rfl ?_
      refine s_iconst (i := 58) rfl (v := (1 : Int32)) (by decide) ?_
      refine s_iadd (i := 59) rfl ?_
      refine s_aload_n (i := 60) rfl 0 rfl ?_
      refine s_iload_n (i := 61) rfl 3 rfl ?_
      refine u_callVi (kk := 9) [tI l3] l0 [tI (((((40 : Int32)) * l1) + (((2 : Int32)) * l2)) + ((1 : Int32))), tA v8] rfl (i := 62) rfl (c_X9_paysIn h7 l0 l3) xm_X9_paysIn (tw1263) rfl (Nat.le_of_ble_eq_true rfl) (xRm.of rfl) ⟨rfl, rfl⟩ (fun q9 => ?_)
      refine s_ifeq (i := 63) rfl (tgt := 103) (by decide) (fun z96 => ?_) (fun z96 => ?_)
      · refine s_iconst (i := 66) rfl (v := (0 : Int32)) (by decide) ?_
        exact s_sub [0, 1, 2, 3] rfl (b_X9_film_104 X k_47 hk_47 q9.2 l0 l1 l2 l3 ((0 : Int32)) (((((40 : Int32)) * l1) + (((2 : Int32)) * l2)) + ((1 : Int32))) v8)
      · refine s_iconst (i := 64) rfl (v := (1 : Int32)) (by decide) ?_
        refine s_goto (i := 65) rfl (tgt := 104) (by decide) ?_
        exact s_sub [0, 1, 2, 3] rfl (b_X9_film_104 X k_47 hk_47 q9.2 l0 l1 l2 l3 ((1 : Int32)) (((((40 : Int32)) * l1) + (((2 : Int32)) * l2)) + ((1 : Int32))) v8)
  · refine s_aload_n (i := 71) rfl 0 rfl ?_
    refine s_iconst (i := 72) rfl (v := (0 : Int32)) (by decide) ?_
    refine u_callVv (kk := 9) [tI ((0 : Int32))] l0 [] rfl (i := 73) rfl (c_X9_laysBack h l0 ((0 : Int32))) xm_X9_laysBack (tw1296) rfl (Nat.le_of_ble_eq_true rfl) (xRm.of rfl) ⟨rfl, rfl⟩ (fun q10 => ?_)
    refine s_aload_n (i := 74) rfl 0 rfl ?_
    refine s_getR (i := 75) rfl xf_9_41.r rfl (fun v11 => ?_)
    refine s_iload_n (i := 76) rfl 1 rfl ?_
    refine s_iconst (i := 77) rfl (v := (2 : Int32)) (by decide) ?_
    refine s_iastore (i := 78) rfl (fun h12 => ?_)
    refine s_aload_n (i := 79) rfl 0 rfl ?_
    refine s_getR (i := 80) rfl xf_9_44.r rfl (fun v13 => ?_)
    refine s_iload_n (i := 81) rfl 1 rfl ?_
    refine s_iconst (i := 82) rfl (v := (2 : Int32)) (by decide) ?_
    refine s_iload_n (i := 83) rfl 2 rfl ?_
    refine s_imul (i := 84) rfl ?_
    refine s_iastore (i := 85) rfl (fun h14 => ?_)
    refine s_iload_n (i := 86) rfl 2 rfl ?_
    exact s_iret (i := 87) rfl rfl
theorem b_X9_film_47 (X : XX) : ∀ (n : Nat) (h : XM) (l0 : Option Nat) (l1 : Int32) (l2 : Int32) (l3 : Int32), SW X I_X9_film ρi 47 [(0, tA l0), (1, tI l1), (2, tI l2), (3, tI l3)] [] h 0 0 (f_X9_film_47 n h l0 l1 l2 l3) := by
  intro n
  induction n with
  | zero =>
    intro h l0 l1 l2 l3
    exact s_none
  | succ n ih =>
    intro h l0 l1 l2 l3
    exact bb_X9_film_47 X (f_X9_film_47 n) ih h l0 l1 l2 l3
theorem bb_X9_film_14 (X : XX) (k_14 : XM → Option Nat → Int32 → Int32 → Option (Int32 × XM)) (hk_14 : ∀ h l0 l1 l2, SW X I_X9_film ρi 14 [(0, tA l0), (1, tI l1), (2, tI l2)] [] h 0 0 (k_14 h l0 l1 l2)) (h : XM) (l0 : Option Nat) (l1 : Int32) (l2 : Int32) : SW X I_X9_film ρi 14 [(0, tA l0), (1, tI l1), (2, tI l2)] [] h 0 0 (fb_X9_film_14 k_14 h l0 l1 l2) := by
  unfold fb_X9_film_14
  refine s_iload_n (i := 9) rfl 2 rfl ?_
  refine s_bipush (i := 10) rfl (v := (40 : Int32)) (by decide) ?_
  refine s_icmpge (i := 11) rfl (tgt := 38) (by decide) (fun z17 => ?_) (fun z17 => ?_)
  · refine s_aload_n (i := 12) rfl 0 rfl ?_
    refine s_getR (i := 13) rfl xf_9_47.r rfl (fun v15 => ?_)
    refine s_bipush (i := 14) rfl (v := (40 : Int32)) (by decide) ?_
    refine s_iload_n (i := 15) rfl 1 rfl ?_
    refine s_imul (i := 16) rfl ?_
    refine s_iload_n (i := 17) rfl 2 rfl ?_
    refine s_iadd (i := 18) rfl ?_
    refine s_iconst (i := 19) rfl (v := (0 : Int32)) (by decide) ?_
    refine s_iastore (i := 20) rfl (fun h16 => ?_)
    refine s_inc (i := 21) rfl 2 rfl (c9 := (1 : Int32)) (by decide) (Nat.le_of_ble_eq_true rfl) (fun v17 => ?_)
    refine s_ls (ls2 := [(2, tI v17), (0, tA l0), (1, tI l1)]) rfl ?_
    refine s_goto (i := 22) rfl (tgt := 14) (by decide) ?_
    exact s_sub [1, 2, 0] rfl (hk_14 h16 l0 l1 v17)
  · refine s_iconst (i := 23) rfl (v := (0 : Int32)) (by decide) ?_
    refine s_istore_n (i := 24) rfl (Nat.le_of_ble_eq_true rfl) (ls2 := [(2, tI ((0 : Int32))), (0, tA l0), (1, tI l1)]) rfl ?_
    refine s_aload_n (i := 25) rfl 1 rfl ?_
    refine s_iconst (i := 26) rfl (v := (0 : Int32)) (by decide) ?_
    refine u_callVv (kk := 9) [tI ((0 : Int32))] l0 [] rfl (i := 27) rfl (c_X9_keeps h l0 ((0 : Int32))) xm_X9_keeps (tw1292) rfl (Nat.le_of_ble_eq_true rfl) (xRm.of rfl) ⟨rfl, rfl⟩ (fun q18 => ?_)
    refine s_iconst (i := 28) rfl (v := (0 : Int32)) (by decide) ?_
    refine s_istore_n (i := 29) rfl (Nat.le_of_ble_eq_true rfl) (ls2 := [(3, tI ((0 : Int32))), (2, tI ((0 : Int32))), (0, tA l0), (1, tI l1)]) rfl ?_
    exact s_sub [2, 3, 1, 0] rfl (b_X9_film_47 X FU q18 l0 l1 ((0 : Int32)) ((0 : Int32)))
theorem b_X9_film_14 (X : XX) : ∀ (n : Nat) (h : XM) (l0 : Option Nat) (l1 : Int32) (l2 : Int32), SW X I_X9_film ρi 14 [(0, tA l0), (1, tI l1), (2, tI l2)] [] h 0 0 (f_X9_film_14 n h l0 l1 l2) := by
  intro n
  induction n with
  | zero =>
    intro h l0 l1 l2
    exact s_none
  | succ n ih =>
    intro h l0 l1 l2
    exact bb_X9_film_14 X (f_X9_film_14 n) ih h l0 l1 l2
theorem c_X9_film (h : XM) (a0 : Option Nat) (a1 : Int32) : MC I_X9_film y_X9_film [tA a0, tI a1] h ρi (f_X9_film h a0 a1) := by
  refine MC_of ⟨by decide +kernel, rfl, rfl, Nat.le_of_ble_eq_true rfl⟩ dT_X9_film (fun X => ?_)
  show SW X I_X9_film ρi 0 [(0, tA a0), (1, tI a1)] [] h 0 0 (f_X9_film h a0 a1)
  unfold f_X9_film
  refine s_iload_n (i := 0) rfl 1 rfl ?_
  refine s_iconst (i := 1) rfl (v := (0 : Int32)) (by decide) ?_
  refine s_iconst (i := 2) rfl (v := (3 : Int32)) (by decide) ?_
  refine u_callSi [tI a1, tI ((0 : Int32)), tI ((3 : Int32))] [] rfl (i := 3) rfl (c_X9_in h a1 ((0 : Int32)) ((3 : Int32))) xm_X9_in (tw974) rfl (Nat.le_of_ble_eq_true rfl) (xRm.of rfl) ⟨rfl, rfl⟩ (fun q19 => ?_)
  refine s_ifne (i := 4) rfl (tgt := 12) (by decide) (fun z6 => ?_) (fun z6 => ?_)
  · refine s_bipush (i := 5) rfl (v := (-2 : Int32)) (by decide) ?_
    exact s_iret (i := 6) rfl rfl
  · refine s_iconst (i := 7) rfl (v := (0 : Int32)) (by decide) ?_
    refine s_istore_n (i := 8) rfl (Nat.le_of_ble_eq_true rfl) (ls2 := [(2, tI ((0 : Int32))), (0, tA a0), (1, tI a1)]) rfl ?_
    exact s_sub [1, 2, 0] rfl (b_X9_film_14 X FU q19.2 a0 a1 ((0 : Int32)))
def y_X9_insideBy : MethodName := ⟨"OpensAtNineModel", "insideBy", "(I)I"⟩
def T_X9_insideBy : List (Nat × Instr × Nat × Nat) := [(0, .iload_n 1, 1, 1), (1, .i2l, 1, 2), (2, .lconst 1, 1, 3), (3, .ladd, 1, 4), (4, .lstore_n 2, 1, 5), (5, .aload_n 0, 1, 6), (6, .iconst 0, 1, 7), (7, .invokevirtual 260, 3, 10), (10, .iconst 0, 1, 11), (11, .istore 4, 2, 13), (13, .iload 4, 2, 15), (15, .bipush 14, 2, 17), (17, .if_icmp .ge 52, 3, 20), (20, .aload_n 0, 1, 21), (21, .getfield 104, 3, 24), (24, .ifCond .le 45, 3, 27), (27, .lload_n 2, 1, 28), (28, .ldc2_w 323, 3, 31), (31, .lmul, 1, 32), (32, .ldc2_w 325, 3, 35), (35, .lrem, 1, 36), (36, .lstore_n 2, 1, 37), (37, .lload_n 2, 1, 38), (38, .aload_n 0, 1, 39), (39, .getfield 104, 3, 42), (42, .i2l, 1, 43), (43, .lrem, 1, 44), (44, .l2i, 1, 45), (45, .istore 5, 2, 47), (47, .aload_n 0, 1, 48), (48, .iload 5, 2, 50), (50, .invokevirtual 241, 3, 53), (53, .ifCond .eq 10, 3, 56), (56, .aload_n 0, 1, 57), (57, .iload 5, 2, 59), (59, .invokevirtual 244, 3, 62), (62, .pop, 1, 63), (63, .iinc 4 1, 3, 66), (66, .goto (-53), 3, 69), (69, .aload_n 0, 1, 70), (70, .getfield 107, 3, 73), (73, .invokestatic 305, 3, 76), (76, .istore 4, 2, 78), (78, .aload_n 0, 1, 79), (79, .iconst 0, 1, 80), (80, .invokevirtual 267, 3, 83), (83, .iload 4, 2, 85), (85, .ireturn, 1, 86)]
def I_X9_insideBy : MI := (prog_11_method_74_code, 6, (some .int), "OpensAtNineModel", "insideBy", T_X9_insideBy, 0, 0, 6, 186)
theorem dT_X9_insideBy : ∀ q ∈ T_X9_insideBy, decode prog_11_method_74_code q.1 = .ok (q.2.1, q.2.2.1) ∧ q.2.2.2 = q.1 + q.2.2.1 := by decide +kernel
theorem xm_X9_insideBy : xCM y_X9_insideBy I_X9_insideBy 9 1 := ⟨⟨tw1410, tw67⟩, tw84, tw1411, ⟨xT9, 49, rfl⟩, ⟨by decide +kernel, by decide +kernel, by decide +kernel⟩⟩
noncomputable def f_X9_insideBy_63 (k_13 : XM → Option Nat → Int64 → Int32 → Option (Int32 × XM)) (h : XM) (l0 : Option Nat) (l2 : Int64) (l4 : Int32) : Option (Int32 × XM) := bnd (l4 + (1 : Int32)) fun v1 => k_13 h l0 l2 v1
noncomputable def f_X9_insideBy_69 (h : XM) (l0 : Option Nat) : Option (Int32 × XM) := (gI h 9 l0 4).bind fun v2 => (f_X9_ones h v2).bind fun q3 => (vc q3.2 9 l0 (f_X9_laysBack q3.2 l0 ((0 : Int32)))).bind fun q4 => some (q3.1, q4)
noncomputable def fb_X9_insideBy_13 (k_13 : XM → Option Nat → Int64 → Int32 → Option (Int32 × XM)) (h : XM) (l0 : Option Nat) (l2 : Int64) (l4 : Int32) : Option (Int32 × XM) := if l4 < ((14 : Int32)) then ((gI h 9 l0 5).bind fun v5 => if 0 < v5 then ((lrem (l2 * ((48271 : Int64))) ((2147483647 : Int64))).bind fun v6 => (gI h 9 l0 5).bind fun v7 => (lrem v6 v7.toInt64).bind fun v8 => (vc h 9 l0 (f_X9_canPut h l0 v8.toInt32)).bind fun q9 => if q9.1 = 0 then (f_X9_insideBy_63 k_13 q9.2 l0 v6 l4) else ((vc q9.2 9 l0 (f_X9_paysIn q9.2 l0 v8.toInt32)).bind fun q10 => f_X9_insideBy_63 k_13 q10.2 l0 v6 l4)) else (f_X9_insideBy_69 h l0)) else (f_X9_insideBy_69 h l0)
noncomputable def f_X9_insideBy_13 (n : Nat) : XM → Option Nat → Int64 → Int32 → Option (Int32 × XM) := Nat.rec (motive := fun _ => XM → Option Nat → Int64 → Int32 → Option (Int32 × XM)) (fun _ _ _ _ => none) (fun _ ih h l0 l2 l4 => fb_X9_insideBy_13 ih h l0 l2 l4) n
noncomputable def f_X9_insideBy (h : XM) (a0 : Option Nat) (a1 : Int32) : Option (Int32 × XM) := bnd (a1.toInt64 + ((1 : Int64))) fun v11 => (vc h 9 a0 (f_X9_keeps h a0 ((0 : Int32)))).bind fun q12 => f_X9_insideBy_13 FU q12 a0 v11 ((0 : Int32))
theorem b_X9_insideBy_63 (X : XX) (k_13 : XM → Option Nat → Int64 → Int32 → Option (Int32 × XM)) (hk_13 : ∀ h l0 l2 l4, SW X I_X9_insideBy ρi 13 [(0, tA l0), (2, tL l2), (4, tI l4)] [] h 0 0 (k_13 h l0 l2 l4)) (h : XM) (l0 : Option Nat) (l2 : Int64) (l4 : Int32) : SW X I_X9_insideBy ρi 63 [(0, tA l0), (2, tL l2), (4, tI l4)] [] h 0 0 (f_X9_insideBy_63 k_13 h l0 l2 l4) := by
  unfold f_X9_insideBy_63
  refine s_inc (i := 37) rfl 2 rfl (c9 := (1 : Int32)) (by decide) (Nat.le_of_ble_eq_true rfl) (fun v1 => ?_)
  refine s_ls (ls2 := [(4, tI v1), (0, tA l0), (2, tL l2)]) rfl ?_
  refine s_goto (i := 38) rfl (tgt := 13) (by decide) ?_
  exact s_sub [1, 2, 0] rfl (hk_13 h l0 l2 v1)
theorem b_X9_insideBy_69 (X : XX) (h : XM) (l0 : Option Nat) : SW X I_X9_insideBy ρi 69 [(0, tA l0)] [] h 0 0 (f_X9_insideBy_69 h l0) := by
  unfold f_X9_insideBy_69
  refine s_aload_n (i := 39) rfl 0 rfl ?_
  refine s_getI (i := 40) rfl xf_9_107.r rfl (fun v2 => ?_)
  refine u_callSi [tI v2] [] rfl (i := 41) rfl (c_X9_ones h v2) xm_X9_ones (tw1361) rfl (Nat.le_of_ble_eq_true rfl) (xRm.of rfl) ⟨rfl, rfl⟩ (fun q3 => ?_)
  refine s_istore (i := 42) rfl (Nat.le_of_ble_eq_true rfl) (ls2 := [(4, tI q3.1), (0, tA l0)]) rfl ?_
  refine s_aload_n (i := 43) rfl 1 rfl ?_
  refine s_iconst (i := 44) rfl (v := (0 : Int32)) (by decide) ?_
  refine u_callVv (kk := 9) [tI ((0 : Int32))] l0 [] rfl (i := 45) rfl (c_X9_laysBack q3.2 l0 ((0 : Int32))) xm_X9_laysBack (tw1296) rfl (Nat.le_of_ble_eq_true rfl) (xRm.of rfl) ⟨rfl, rfl⟩ (fun q4 => ?_)
  refine s_iload (i := 46) rfl 0 rfl ?_
  exact s_iret (i := 47) rfl rfl
theorem bb_X9_insideBy_13 (X : XX) (k_13 : XM → Option Nat → Int64 → Int32 → Option (Int32 × XM)) (hk_13 : ∀ h l0 l2 l4, SW X I_X9_insideBy ρi 13 [(0, tA l0), (2, tL l2), (4, tI l4)] [] h 0 0 (k_13 h l0 l2 l4)) (h : XM) (l0 : Option Nat) (l2 : Int64) (l4 : Int32) : SW X I_X9_insideBy ρi 13 [(0, tA l0), (2, tL l2), (4, tI l4)] [] h 0 0 (fb_X9_insideBy_13 k_13 h l0 l2 l4) := by
  unfold fb_X9_insideBy_13
  refine s_iload (i := 10) rfl 2 rfl ?_
  refine s_bipush (i := 11) rfl (v := (14 : Int32)) (by decide) ?_
  refine s_icmpge (i := 12) rfl (tgt := 69) (by decide) (fun z17 => ?_) (fun z17 => ?_)
  · refine s_aload_n (i := 13) rfl 0 rfl ?_
    refine s_getI (i := 14) rfl xf_9_104.r rfl (fun v5 => ?_)
    refine s_ifle (i := 15) rfl (tgt := 69) (by decide) (fun z24 => ?_) (fun z24 => ?_)
    · refine s_lload_n (i := 16) rfl 1 rfl ?_
      refine s_ldc2 (i := 17) rfl (v := (48271 : Int64)) (tw1412) ?_
      refine s_lmul (i := 18) rfl ?_
      refine s_ldc2 (i := 19) rfl (v := (2147483647 : Int64)) (tw1413) ?_
      refine s_lrem (i := 20) rfl (fun v6 => ?_)
      refine s_lstore_n (i := 21) rfl (Nat.le_of_ble_eq_true rfl) (ls2 := [(2, tL v6), (0, tA l0), (4, tI l4)]) rfl ?_
      refine s_lload_n (i := 22) rfl 0 rfl ?_
      refine s_aload_n (i := 23) rfl 1 rfl ?_
      refine s_getI (i := 24) rfl xf_9_104.r rfl (fun v7 => ?_)
      refine s_i2l (i := 25) rfl ?_
      refine s_lrem (i := 26) rfl (fun v8 => ?_)
      refine s_l2i (i := 27) rfl ?_
      refine s_istore (i := 28) rfl (Nat.le_of_ble_eq_true rfl) (ls2 := [(5, tI v8.toInt32), (2, tL v6), (0, tA l0), (4, tI l4)]) rfl ?_
      refine s_aload_n (i := 29) rfl 2 rfl ?_
      refine s_iload (i := 30) rfl 0 rfl ?_
      refine u_callVi (kk := 9) [tI v8.toInt32] l0 [] rfl (i := 31) rfl (c_X9_canPut h l0 v8.toInt32) xm_X9_canPut (tw1255) rfl (Nat.le_of_ble_eq_true rfl) (xRm.of rfl) ⟨rfl, rfl⟩ (fun q9 => ?_)
      refine s_ifeq (i := 32) rfl (tgt := 63) (by decide) (fun z53 => ?_) (fun z53 => ?_)
      · exact s_sub [2, 1, 3] rfl (b_X9_insideBy_63 X k_13 hk_13 q9.2 l0 v6 l4)
      · refine s_aload_n (i := 33) rfl 2 rfl ?_
        refine s_iload (i := 34) rfl 0 rfl ?_
        refine u_callVi (kk := 9) [tI v8.toInt32] l0 [] rfl (i := 35) rfl (c_X9_paysIn q9.2 l0 v8.toInt32) xm_X9_paysIn (tw1263) rfl (Nat.le_of_ble_eq_true rfl) (xRm.of rfl) ⟨rfl, rfl⟩ (fun q10 => ?_)
        refine s_pop (i := 36) rfl rfl ?_
        exact s_sub [2, 1, 3] rfl (b_X9_insideBy_63 X k_13 hk_13 q10.2 l0 v6 l4)
    · exact s_sub [0] rfl (b_X9_insideBy_69 X h l0)
  · exact s_sub [0] rfl (b_X9_insideBy_69 X h l0)
theorem b_X9_insideBy_13 (X : XX) : ∀ (n : Nat) (h : XM) (l0 : Option Nat) (l2 : Int64) (l4 : Int32), SW X I_X9_insideBy ρi 13 [(0, tA l0), (2, tL l2), (4, tI l4)] [] h 0 0 (f_X9_insideBy_13 n h l0 l2 l4) := by
  intro n
  induction n with
  | zero =>
    intro h l0 l2 l4
    exact s_none
  | succ n ih =>
    intro h l0 l2 l4
    exact bb_X9_insideBy_13 X (f_X9_insideBy_13 n) ih h l0 l2 l4
theorem c_X9_insideBy (h : XM) (a0 : Option Nat) (a1 : Int32) : MC I_X9_insideBy y_X9_insideBy [tA a0, tI a1] h ρi (f_X9_insideBy h a0 a1) := by
  refine MC_of ⟨by decide +kernel, rfl, rfl, Nat.le_of_ble_eq_true rfl⟩ dT_X9_insideBy (fun X => ?_)
  show SW X I_X9_insideBy ρi 0 [(0, tA a0), (1, tI a1)] [] h 0 0 (f_X9_insideBy h a0 a1)
  unfold f_X9_insideBy
  refine s_iload_n (i := 0) rfl 1 rfl ?_
  refine s_i2l (i := 1) rfl ?_
  refine s_lconst (i := 2) rfl (v := (1 : Int64)) (by decide) ?_
  refine s_ladd (i := 3) rfl ?_
  refine s_bndL (fun v11 => ?_)
  refine s_lstore_n (i := 4) rfl (Nat.le_of_ble_eq_true rfl) (ls2 := [(2, tL v11), (0, tA a0), (1, tI a1)]) rfl ?_
  refine s_aload_n (i := 5) rfl 1 rfl ?_
  refine s_iconst (i := 6) rfl (v := (0 : Int32)) (by decide) ?_
  refine u_callVv (kk := 9) [tI ((0 : Int32))] a0 [] rfl (i := 7) rfl (c_X9_keeps h a0 ((0 : Int32))) xm_X9_keeps (tw1292) rfl (Nat.le_of_ble_eq_true rfl) (xRm.of rfl) ⟨rfl, rfl⟩ (fun q12 => ?_)
  refine s_iconst (i := 8) rfl (v := (0 : Int32)) (by decide) ?_
  refine s_istore (i := 9) rfl (Nat.le_of_ble_eq_true rfl) (ls2 := [(4, tI ((0 : Int32))), (2, tL v11), (0, tA a0), (1, tI a1)]) rfl ?_
  exact s_sub [2, 1, 0] rfl (b_X9_insideBy_13 X FU q12 a0 v11 ((0 : Int32)))
def y_X9_drawn : MethodName := ⟨"OpensAtNineModel", "drawn", "(I)I"⟩
def T_X9_drawn : List (Nat × Instr × Nat × Nat) := [(0, .iload_n 1, 1, 1), (1, .iconst 0, 1, 2), (2, .ldc_w 327, 3, 5), (5, .invokestatic 100, 3, 8), (8, .ifCond .eq 11, 3, 11), (11, .aload_n 0, 1, 12), (12, .iload_n 1, 1, 13), (13, .invokevirtual 328, 3, 16), (16, .goto 5, 3, 19), (19, .bipush (-2), 2, 21), (21, .ireturn, 1, 22)]
def I_X9_drawn : MI := (prog_11_method_75_code, 2, (some .int), "OpensAtNineModel", "drawn", T_X9_drawn, 0, 0, 7, 211)
theorem dT_X9_drawn : ∀ q ∈ T_X9_drawn, decode prog_11_method_75_code q.1 = .ok (q.2.1, q.2.2.1) ∧ q.2.2.2 = q.1 + q.2.2.1 := by decide +kernel
theorem xm_X9_drawn : xCM y_X9_drawn I_X9_drawn 9 1 := ⟨⟨tw1404, tw1405⟩, tw84, tw1406, ⟨xT9, 49, rfl⟩, ⟨by decide +kernel, by decide +kernel, by decide +kernel⟩⟩
noncomputable def f_X9_drawn_21 (h : XM) (s0 : Int32) : Option (Int32 × XM) := some (s0, h)
noncomputable def f_X9_drawn (h : XM) (a0 : Option Nat) (a1 : Int32) : Option (Int32 × XM) := (f_X9_in h a1 ((0 : Int32)) ((99999 : Int32))).bind fun q1 => if q1.1 = 0 then (f_X9_drawn_21 q1.2 ((-2 : Int32))) else ((vc q1.2 9 a0 (f_X9_insideBy q1.2 a0 a1)).bind fun q2 => f_X9_drawn_21 q2.2 q2.1)
theorem b_X9_drawn_21 (X : XX) (h : XM) (s0 : Int32) : SW X I_X9_drawn ρi 21 [] [tI s0] h 0 0 (f_X9_drawn_21 h s0) := by
  unfold f_X9_drawn_21
  exact s_iret (i := 10) rfl rfl
theorem c_X9_drawn (h : XM) (a0 : Option Nat) (a1 : Int32) : MC I_X9_drawn y_X9_drawn [tA a0, tI a1] h ρi (f_X9_drawn h a0 a1) := by
  refine MC_of ⟨by decide +kernel, rfl, rfl, Nat.le_of_ble_eq_true rfl⟩ dT_X9_drawn (fun X => ?_)
  show SW X I_X9_drawn ρi 0 [(0, tA a0), (1, tI a1)] [] h 0 0 (f_X9_drawn h a0 a1)
  unfold f_X9_drawn
  refine s_iload_n (i := 0) rfl 1 rfl ?_
  refine s_iconst (i := 1) rfl (v := (0 : Int32)) (by decide) ?_
  refine s_ldcw (i := 2) rfl (v := (99999 : Int32)) (tw1407) ?_
  refine u_callSi [tI a1, tI ((0 : Int32)), tI ((99999 : Int32))] [] rfl (i := 3) rfl (c_X9_in h a1 ((0 : Int32)) ((99999 : Int32))) xm_X9_in (tw974) rfl (Nat.le_of_ble_eq_true rfl) (xRm.of rfl) ⟨rfl, rfl⟩ (fun q1 => ?_)
  refine s_ifeq (i := 4) rfl (tgt := 19) (by decide) (fun z8 => ?_) (fun z8 => ?_)
  · refine s_bipush (i := 9) rfl (v := (-2 : Int32)) (by decide) ?_
    exact s_sub [] rfl (b_X9_drawn_21 X q1.2 ((-2 : Int32)))
  · refine s_aload_n (i := 5) rfl 0 rfl ?_
    refine s_iload_n (i := 6) rfl 1 rfl ?_
    refine u_callVi (kk := 9) [tI a1] a0 [] rfl (i := 7) rfl (c_X9_insideBy q1.2 a0 a1) xm_X9_insideBy (tw1408) rfl (Nat.le_of_ble_eq_true rfl) (xRm.of rfl) ⟨rfl, rfl⟩ (fun q2 => ?_)
    refine s_goto (i := 8) rfl (tgt := 21) (by decide) ?_
    exact s_sub [] rfl (b_X9_drawn_21 X q2.2 q2.1)
def y_X9_lowest : MethodName := ⟨"OpensAtNineModel", "lowest", "(JJI)J"⟩
def T_X9_lowest : List (Nat × Instr × Nat × Nat) := [(0, .lload_n 0, 1, 1), (1, .lconst 0, 1, 2), (2, .lcmp, 1, 3), (3, .ifCond .ne 7, 3, 6), (6, .iload 4, 2, 8), (8, .i2l, 1, 9), (9, .lreturn, 1, 10), (10, .lload_n 0, 1, 11), (11, .lstore 5, 2, 13), (13, .lload_n 2, 1, 14), (14, .lstore 7, 2, 16), (16, .lload 7, 2, 18), (18, .lconst 0, 1, 19), (19, .lcmp, 1, 20), (20, .ifCond .eq 21, 3, 23), (23, .lload 5, 2, 25), (25, .lload 7, 2, 27), (27, .lrem, 1, 28), (28, .lstore 9, 2, 30), (30, .lload 7, 2, 32), (32, .lstore 5, 2, 34), (34, .lload 9, 2, 36), (36, .lstore 7, 2, 38), (38, .goto (-22), 3, 41), (41, .iload 4, 2, 43), (43, .ifCond .ne 7, 3, 46), (46, .lload_n 0, 1, 47), (47, .goto 4, 3, 50), (50, .lload_n 2, 1, 51), (51, .lload 5, 2, 53), (53, .ldiv, 1, 54), (54, .lreturn, 1, 55)]
def I_X9_lowest : MI := (prog_11_method_76_code, 11, (some .long), "OpensAtNineModel", "lowest", T_X9_lowest, 0, 0, 1, 60)
theorem dT_X9_lowest : ∀ q ∈ T_X9_lowest, decode prog_11_method_76_code q.1 = .ok (q.2.1, q.2.2.1) ∧ q.2.2.2 = q.1 + q.2.2.1 := by decide +kernel
theorem xm_X9_lowest : xCS y_X9_lowest I_X9_lowest 3 := ⟨tw1420, tw84, tw1421, ⟨by decide +kernel, by decide +kernel, by decide +kernel⟩⟩
noncomputable def f_X9_lowest_51 (h : XM) (l5 : Int64) (s0 : Int64) : Option (Int64 × XM) := (ldiv s0 l5).bind fun v1 => some (v1, h)
noncomputable def fb_X9_lowest_16 (k_16 : XM → Int64 → Int64 → Int32 → Int64 → Int64 → Option (Int64 × XM)) (h : XM) (l0 : Int64) (l2 : Int64) (l4 : Int32) (l5 : Int64) (l7 : Int64) : Option (Int64 × XM) := if (lg_cmp l7 ((0 : Int64))) = 0 then (if l4 = 0 then (f_X9_lowest_51 h l5 l0) else (f_X9_lowest_51 h l5 l2)) else ((lrem l5 l7).bind fun v2 => k_16 h l0 l2 l4 l7 v2)
noncomputable def f_X9_lowest_16 (n : Nat) : XM → Int64 → Int64 → Int32 → Int64 → Int64 → Option (Int64 × XM) := Nat.rec (motive := fun _ => XM → Int64 → Int64 → Int32 → Int64 → Int64 → Option (Int64 × XM)) (fun _ _ _ _ _ _ => none) (fun _ ih h l0 l2 l4 l5 l7 => fb_X9_lowest_16 ih h l0 l2 l4 l5 l7) n
noncomputable def f_X9_lowest (h : XM) (a0 : Int64) (a1 : Int64) (a2 : Int32) : Option (Int64 × XM) := if (lg_cmp a0 ((0 : Int64))) = 0 then (some (a2.toInt64, h)) else (f_X9_lowest_16 FU h a0 a1 a2 a0 a1)
theorem b_X9_lowest_51 (X : XX) (h : XM) (l5 : Int64) (s0 : Int64) : SW X I_X9_lowest ρl 51 [(5, tL l5)] [tL s0] h 0 0 (f_X9_lowest_51 h l5 s0) := by
  unfold f_X9_lowest_51
  refine s_lload (i := 29) rfl 0 rfl ?_
  refine s_ldiv (i := 30) rfl (fun v1 => ?_)
  exact s_lret (i := 31) rfl rfl
theorem bb_X9_lowest_16 (X : XX) (k_16 : XM → Int64 → Int64 → Int32 → Int64 → Int64 → Option (Int64 × XM)) (hk_16 : ∀ h l0 l2 l4 l5 l7, SW X I_X9_lowest ρl 16 [(0, tL l0), (2, tL l2), (4, tI l4), (5, tL l5), (7, tL l7)] [] h 0 0 (k_16 h l0 l2 l4 l5 l7)) (h : XM) (l0 : Int64) (l2 : Int64) (l4 : Int32) (l5 : Int64) (l7 : Int64) : SW X I_X9_lowest ρl 16 [(0, tL l0), (2, tL l2), (4, tI l4), (5, tL l5), (7, tL l7)] [] h 0 0 (fb_X9_lowest_16 k_16 h l0 l2 l4 l5 l7) := by
  unfold fb_X9_lowest_16
  refine s_lload (i := 11) rfl 4 rfl ?_
  refine s_lconst (i := 12) rfl (v := (0 : Int64)) (by decide) ?_
  refine s_lcmp (i := 13) rfl ?_
  refine s_ifeq (i := 14) rfl (tgt := 41) (by decide) (fun z20 => ?_) (fun z20 => ?_)
  · refine s_iload (i := 24) rfl 2 rfl ?_
    refine s_ifne (i := 25) rfl (tgt := 50) (by decide) (fun z43 => ?_) (fun z43 => ?_)
    · refine s_lload_n (i := 26) rfl 0 rfl ?_
      refine s_goto (i := 27) rfl (tgt := 51) (by decide) ?_
      exact s_sub [3] rfl (b_X9_lowest_51 X h l5 l0)
    · refine s_lload_n (i := 28) rfl 1 rfl ?_
      exact s_sub [3] rfl (b_X9_lowest_51 X h l5 l2)
  · refine s_lload (i := 15) rfl 3 rfl ?_
    refine s_lload (i := 16) rfl 4 rfl ?_
    refine s_lrem (i := 17) rfl (fun v2 => ?_)
    refine s_lstore (i := 18) rfl (Nat.le_of_ble_eq_true rfl) (ls2 := [(9, tL v2), (0, tL l0), (2, tL l2), (4, tI l4), (5, tL l5), (7, tL l7)]) rfl ?_
    refine s_lload (i := 19) rfl 5 rfl ?_
    refine s_lstore (i := 20) rfl (Nat.le_of_ble_eq_true rfl) (ls2 := [(5, tL l7), (9, tL v2), (0, tL l0), (2, tL l2), (4, tI l4), (7, tL l7)]) rfl ?_
    refine s_lload (i := 21) rfl 1 rfl ?_
    refine s_lstore (i := 22) rfl (Nat.le_of_ble_eq_true rfl) (ls2 := [(7, tL v2), (5, tL l7), (9, tL v2), (0, tL l0), (2, tL l2), (4, tI l4)]) rfl ?_
    refine s_goto (i := 23) rfl (tgt := 16) (by decide) ?_
    exact s_sub [3, 4, 5, 1, 0] rfl (hk_16 h l0 l2 l4 l7 v2)
theorem b_X9_lowest_16 (X : XX) : ∀ (n : Nat) (h : XM) (l0 : Int64) (l2 : Int64) (l4 : Int32) (l5 : Int64) (l7 : Int64), SW X I_X9_lowest ρl 16 [(0, tL l0), (2, tL l2), (4, tI l4), (5, tL l5), (7, tL l7)] [] h 0 0 (f_X9_lowest_16 n h l0 l2 l4 l5 l7) := by
  intro n
  induction n with
  | zero =>
    intro h l0 l2 l4 l5 l7
    exact s_none
  | succ n ih =>
    intro h l0 l2 l4 l5 l7
    exact bb_X9_lowest_16 X (f_X9_lowest_16 n) ih h l0 l2 l4 l5 l7
theorem c_X9_lowest (h : XM) (a0 : Int64) (a1 : Int64) (a2 : Int32) : MC I_X9_lowest y_X9_lowest [tL a0, tL a1, tI a2] h ρl (f_X9_lowest h a0 a1 a2) := by
  refine MC_of ⟨by decide +kernel, rfl, rfl, Nat.le_of_ble_eq_true rfl⟩ dT_X9_lowest (fun X => ?_)
  show SW X I_X9_lowest ρl 0 [(0, tL a0), (2, tL a1), (4, tI a2)] [] h 0 0 (f_X9_lowest h a0 a1 a2)
  unfold f_X9_lowest
  refine s_lload_n (i := 0) rfl 0 rfl ?_
  refine s_lconst (i := 1) rfl (v := (0 : Int64)) (by decide) ?_
  refine s_lcmp (i := 2) rfl ?_
  refine s_ifne (i := 3) rfl (tgt := 10) (by decide) (fun z3 => ?_) (fun z3 => ?_)
  · refine s_iload (i := 4) rfl 2 rfl ?_
    refine s_i2l (i := 5) rfl ?_
    exact s_lret (i := 6) rfl rfl
  · refine s_lload_n (i := 7) rfl 0 rfl ?_
    refine s_lstore (i := 8) rfl (Nat.le_of_ble_eq_true rfl) (ls2 := [(5, tL a0), (0, tL a0), (2, tL a1), (4, tI a2)]) rfl ?_
    refine s_lload_n (i := 9) rfl 2 rfl ?_
    refine s_lstore (i := 10) rfl (Nat.le_of_ble_eq_true rfl) (ls2 := [(7, tL a1), (5, tL a0), (0, tL a0), (2, tL a1), (4, tI a2)]) rfl ?_
    exact s_sub [2, 3, 4, 1, 0] rfl (b_X9_lowest_16 X FU h a0 a1 a2 a0 a1)
def y_X9_mean : MethodName := ⟨"OpensAtNineModel", "mean", "(III)J"⟩
def T_X9_mean : List (Nat × Instr × Nat × Nat) := [(0, .iload_n 1, 1, 1), (1, .iconst 0, 1, 2), (2, .ldc_w 327, 3, 5), (5, .invokestatic 100, 3, 8), (8, .ifCond .eq 22, 3, 11), (11, .iload_n 2, 1, 12), (12, .iconst 1, 1, 13), (13, .bipush 40, 2, 15), (15, .invokestatic 100, 3, 18), (18, .ifCond .eq 12, 3, 21), (21, .iload_n 3, 1, 22), (22, .iconst 0, 1, 23), (23, .iconst 1, 1, 24), (24, .invokestatic 100, 3, 27), (27, .ifCond .ne 7, 3, 30), (30, .ldc2_w 331, 3, 33), (33, .lreturn, 1, 34), (34, .lconst 0, 1, 35), (35, .lstore 4, 2, 37), (37, .iconst 0, 1, 38), (38, .istore 6, 2, 40), (40, .iload 6, 2, 42), (42, .iload_n 2, 1, 43), (43, .if_icmp .ge 23, 3, 46), (46, .lload 4, 2, 48), (48, .aload_n 0, 1, 49), (49, .iload_n 1, 1, 50), (50, .iload 6, 2, 52), (52, .iadd, 1, 53), (53, .invokevirtual 328, 3, 56), (56, .i2l, 1, 57), (57, .ladd, 1, 58), (58, .lstore 4, 2, 60), (60, .iinc 6 1, 3, 63), (63, .goto (-23), 3, 66), (66, .lload 4, 2, 68), (68, .iload_n 2, 1, 69), (69, .i2l, 1, 70), (70, .iload_n 3, 1, 71), (71, .invokestatic 333, 3, 74), (74, .lreturn, 1, 75)]
def I_X9_mean : MI := (prog_11_method_77_code, 7, (some .long), "OpensAtNineModel", "mean", T_X9_mean, 0, 0, 7, 211)
theorem dT_X9_mean : ∀ q ∈ T_X9_mean, decode prog_11_method_77_code q.1 = .ok (q.2.1, q.2.2.1) ∧ q.2.2.2 = q.1 + q.2.2.1 := by decide +kernel
theorem xm_X9_mean : xCM y_X9_mean I_X9_mean 9 3 := ⟨⟨tw1415, tw1416⟩, tw84, tw1417, ⟨xT9, 49, rfl⟩, ⟨by decide +kernel, by decide +kernel, by decide +kernel⟩⟩
noncomputable def f_X9_mean_30 (h : XM) : Option (Int64 × XM) := some ((-4611686018427387904 : Int64), h)
noncomputable def fb_X9_mean_40 (k_40 : XM → Option Nat → Int32 → Int32 → Int32 → Int64 → Int32 → Option (Int64 × XM)) (h : XM) (l0 : Option Nat) (l1 : Int32) (l2 : Int32) (l3 : Int32) (l4 : Int64) (l6 : Int32) : Option (Int64 × XM) := if l6 < l2 then ((vc h 9 l0 (f_X9_insideBy h l0 (l1 + l6))).bind fun q1 => bnd (l4 + q1.1.toInt64) fun v2 => bnd (l6 + (1 : Int32)) fun v3 => k_40 q1.2 l0 l1 l2 l3 v2 v3) else ((f_X9_lowest h l4 l2.toInt64 l3).bind fun q4 => some (q4.1, q4.2))
noncomputable def f_X9_mean_40 (n : Nat) : XM → Option Nat → Int32 → Int32 → Int32 → Int64 → Int32 → Option (Int64 × XM) := Nat.rec (motive := fun _ => XM → Option Nat → Int32 → Int32 → Int32 → Int64 → Int32 → Option (Int64 × XM)) (fun _ _ _ _ _ _ _ => none) (fun _ ih h l0 l1 l2 l3 l4 l6 => fb_X9_mean_40 ih h l0 l1 l2 l3 l4 l6) n
noncomputable def f_X9_mean (h : XM) (a0 : Option Nat) (a1 : Int32) (a2 : Int32) (a3 : Int32) : Option (Int64 × XM) := (f_X9_in h a1 ((0 : Int32)) ((99999 : Int32))).bind fun q5 => if q5.1 = 0 then (f_X9_mean_30 q5.2) else ((f_X9_in q5.2 a2 ((1 : Int32)) ((40 : Int32))).bind fun q6 => if q6.1 = 0 then (f_X9_mean_30 q6.2) else ((f_X9_in q6.2 a3 ((0 : Int32)) ((1 : Int32))).bind fun q7 => if q7.1 = 0 then (f_X9_mean_30 q7.2) else (bnd ((0 : Int64)) fun v8 => f_X9_mean_40 FU q7.2 a0 a1 a2 a3 v8 ((0 : Int32)))))
theorem b_X9_mean_30 (X : XX) (h : XM) : SW X I_X9_mean ρl 30 [] [] h 0 0 (f_X9_mean_30 h) := by
  unfold f_X9_mean_30
  refine s_ldc2 (i := 15) rfl (v := (-4611686018427387904 : Int64)) (tw1418) ?_
  exact s_lret (i := 16) rfl rfl
theorem bb_X9_mean_40 (X : XX) (k_40 : XM → Option Nat → Int32 → Int32 → Int32 → Int64 → Int32 → Option (Int64 × XM)) (hk_40 : ∀ h l0 l1 l2 l3 l4 l6, SW X I_X9_mean ρl 40 [(0, tA l0), (1, tI l1), (2, tI l2), (3, tI l3), (4, tL l4), (6, tI l6)] [] h 0 0 (k_40 h l0 l1 l2 l3 l4 l6)) (h : XM) (l0 : Option Nat) (l1 : Int32) (l2 : Int32) (l3 : Int32) (l4 : Int64) (l6 : Int32) : SW X I_X9_mean ρl 40 [(0, tA l0), (1, tI l1), (2, tI l2), (3, tI l3), (4, tL l4), (6, tI l6)] [] h 0 0 (fb_X9_mean_40 k_40 h l0 l1 l2 l3 l4 l6) := by
  unfold fb_X9_mean_40
  refine s_iload (i := 21) rfl 5 rfl ?_
  refine s_iload_n (i := 22) rfl 2 rfl ?_
  refine s_icmpge (i := 23) rfl (tgt := 66) (by decide) (fun z43 => ?_) (fun z43 => ?_)
  · refine s_lload (i := 24) rfl 4 rfl ?_
    refine s_aload_n (i := 25) rfl 0 rfl ?_
    refine s_iload_n (i := 26) rfl 1 rfl ?_
    refine s_iload (i := 27) rfl 5 rfl ?_
    refine s_iadd (i := 28) rfl ?_
    refine u_callVi (kk := 9) [tI (l1 + l6)] l0 [tL l4] rfl (i := 29) rfl (c_X9_insideBy h l0 (l1 + l6)) xm_X9_insideBy (tw1408) rfl (Nat.le_of_ble_eq_true rfl) (xRm.of rfl) ⟨rfl, rfl⟩ (fun q1 => ?_)
    refine s_i2l (i := 30) rfl ?_
    refine s_ladd (i := 31) rfl ?_
    refine s_bndL (fun v2 => ?_)
    refine s_lstore (i := 32) rfl (Nat.le_of_ble_eq_true rfl) (ls2 := [(4, tL v2), (0, tA l0), (1, tI l1), (2, tI l2), (3, tI l3), (6, tI l6)]) rfl ?_
    refine s_inc (i := 33) rfl 5 rfl (c9 := (1 : Int32)) (by decide) (Nat.le_of_ble_eq_true rfl) (fun v3 => ?_)
    refine s_ls (ls2 := [(6, tI v3), (4, tL v2), (0, tA l0), (1, tI l1), (2, tI l2), (3, tI l3)]) rfl ?_
    refine s_goto (i := 34) rfl (tgt := 40) (by decide) ?_
    exact s_sub [2, 3, 4, 5, 1, 0] rfl (hk_40 q1.2 l0 l1 l2 l3 v2 v3)
  · refine s_lload (i := 35) rfl 4 rfl ?_
    refine s_iload_n (i := 36) rfl 2 rfl ?_
    refine s_i2l (i := 37) rfl ?_
    refine s_iload_n (i := 38) rfl 3 rfl ?_
    refine u_callSl [tL l4, tL l2.toInt64, tI l3] [] rfl (i := 39) rfl (c_X9_lowest h l4 l2.toInt64 l3) xm_X9_lowest (tw1419) rfl (Nat.le_of_ble_eq_true rfl) (xRm.of rfl) ⟨rfl, rfl⟩ (fun q4 => ?_)
    exact s_lret (i := 40) rfl rfl
theorem b_X9_mean_40 (X : XX) : ∀ (n : Nat) (h : XM) (l0 : Option Nat) (l1 : Int32) (l2 : Int32) (l3 : Int32) (l4 : Int64) (l6 : Int32), SW X I_X9_mean ρl 40 [(0, tA l0), (1, tI l1), (2, tI l2), (3, tI l3), (4, tL l4), (6, tI l6)] [] h 0 0 (f_X9_mean_40 n h l0 l1 l2 l3 l4 l6) := by
  intro n
  induction n with
  | zero =>
    intro h l0 l1 l2 l3 l4 l6
    exact s_none
  | succ n ih =>
    intro h l0 l1 l2 l3 l4 l6
    exact bb_X9_mean_40 X (f_X9_mean_40 n) ih h l0 l1 l2 l3 l4 l6
theorem c_X9_mean (h : XM) (a0 : Option Nat) (a1 : Int32) (a2 : Int32) (a3 : Int32) : MC I_X9_mean y_X9_mean [tA a0, tI a1, tI a2, tI a3] h ρl (f_X9_mean h a0 a1 a2 a3) := by
  refine MC_of ⟨by decide +kernel, rfl, rfl, Nat.le_of_ble_eq_true rfl⟩ dT_X9_mean (fun X => ?_)
  show SW X I_X9_mean ρl 0 [(0, tA a0), (1, tI a1), (2, tI a2), (3, tI a3)] [] h 0 0 (f_X9_mean h a0 a1 a2 a3)
  unfold f_X9_mean
  refine s_iload_n (i := 0) rfl 1 rfl ?_
  refine s_iconst (i := 1) rfl (v := (0 : Int32)) (by decide) ?_
  refine s_ldcw (i := 2) rfl (v := (99999 : Int32)) (tw1407) ?_
  refine u_callSi [tI a1, tI ((0 : Int32)), tI ((99999 : Int32))] [] rfl (i := 3) rfl (c_X9_in h a1 ((0 : Int32)) ((99999 : Int32))) xm_X9_in (tw974) rfl (Nat.le_of_ble_eq_true rfl) (xRm.of rfl) ⟨rfl, rfl⟩ (fun q5 => ?_)
  refine s_ifeq (i := 4) rfl (tgt := 30) (by decide) (fun z8 => ?_) (fun z8 => ?_)
  · exact s_sub [] rfl (b_X9_mean_30 X q5.2)
  · refine s_iload_n (i := 5) rfl 2 rfl ?_
    refine s_iconst (i := 6) rfl (v := (1 : Int32)) (by decide) ?_
    refine s_bipush (i := 7) rfl (v := (40 : Int32)) (by decide) ?_
    refine u_callSi [tI a2, tI ((1 : Int32)), tI ((40 : Int32))] [] rfl (i := 8) rfl (c_X9_in q5.2 a2 ((1 : Int32)) ((40 : Int32))) xm_X9_in (tw974) rfl (Nat.le_of_ble_eq_true rfl) (xRm.of rfl) ⟨rfl, rfl⟩ (fun q6 => ?_)
    refine s_ifeq (i := 9) rfl (tgt := 30) (by decide) (fun z18 => ?_) (fun z18 => ?_)
    · exact s_sub [] rfl (b_X9_mean_30 X q6.2)
    · refine s_iload_n (i := 10) rfl 3 rfl ?_
      refine s_iconst (i := 11) rfl (v := (0 : Int32)) (by decide) ?_
      refine s_iconst (i := 12) rfl (v := (1 : Int32)) (by decide) ?_
      refine u_callSi [tI a3, tI ((0 : Int32)), tI ((1 : Int32))] [] rfl (i := 13) rfl (c_X9_in q6.2 a3 ((0 : Int32)) ((1 : Int32))) xm_X9_in (tw974) rfl (Nat.le_of_ble_eq_true rfl) (xRm.of rfl) ⟨rfl, rfl⟩ (fun q7 => ?_)
      refine s_ifne (i := 14) rfl (tgt := 34) (by decide) (fun z27 => ?_) (fun z27 => ?_)
      · exact s_sub [] rfl (b_X9_mean_30 X q7.2)
      · refine s_lconst (i := 17) rfl (v := (0 : Int64)) (by decide) ?_
        refine s_bndL (fun v8 => ?_)
        refine s_lstore (i := 18) rfl (Nat.le_of_ble_eq_true rfl) (ls2 := [(4, tL v8), (0, tA a0), (1, tI a1), (2, tI a2), (3, tI a3)]) rfl ?_
        refine s_iconst (i := 19) rfl (v := (0 : Int32)) (by decide) ?_
        refine s_istore (i := 20) rfl (Nat.le_of_ble_eq_true rfl) (ls2 := [(6, tI ((0 : Int32))), (4, tL v8), (0, tA a0), (1, tI a1), (2, tI a2), (3, tI a3)]) rfl ?_
        exact s_sub [2, 3, 4, 5, 1, 0] rfl (b_X9_mean_40 X FU q7.2 a0 a1 a2 a3 v8 ((0 : Int32)))
def y_X9_image : MethodName := ⟨"OpensAtNineModel", "image", "()I"⟩
def T_X9_image : List (Nat × Instr × Nat × Nat) := [(0, .aload_n 0, 1, 1), (1, .iconst 1, 1, 2), (2, .putfield 337, 3, 5), (5, .aload_n 0, 1, 6), (6, .getfield 35, 3, 9), (9, .iconst 0, 1, 10), (10, .aload_n 0, 1, 11), (11, .getfield 7, 3, 14), (14, .iastore, 1, 15), (15, .aload_n 0, 1, 16), (16, .getfield 35, 3, 19), (19, .iconst 1, 1, 20), (20, .aload_n 0, 1, 21), (21, .getfield 113, 3, 24), (24, .iastore, 1, 25), (25, .aload_n 0, 1, 26), (26, .getfield 35, 3, 29), (29, .iconst 2, 1, 30), (30, .aload_n 0, 1, 31), (31, .getfield 116, 3, 34), (34, .iastore, 1, 35), (35, .aload_n 0, 1, 36), (36, .getfield 35, 3, 39), (39, .iconst 3, 1, 40), (40, .aload_n 0, 1, 41), (41, .getfield 97, 3, 44), (44, .iastore, 1, 45), (45, .aload_n 0, 1, 46), (46, .getfield 35, 3, 49), (49, .iconst 4, 1, 50), (50, .aload_n 0, 1, 51), (51, .getfield 107, 3, 54), (54, .iastore, 1, 55), (55, .aload_n 0, 1, 56), (56, .getfield 35, 3, 59), (59, .iconst 5, 1, 60), (60, .aload_n 0, 1, 61), (61, .getfield 104, 3, 64), (64, .iastore, 1, 65), (65, .aload_n 0, 1, 66), (66, .getfield 35, 3, 69), (69, .bipush 6, 2, 71), (71, .aload_n 0, 1, 72), (72, .getfield 110, 3, 75), (75, .iastore, 1, 76), (76, .aload_n 0, 1, 77), (77, .getfield 35, 3, 80), (80, .bipush 7, 2, 82), (82, .aload_n 0, 1, 83), (83, .getfield 126, 3, 86), (86, .iastore, 1, 87), (87, .iconst 0, 1, 88), (88, .istore_n 1, 1, 89), (89, .iload_n 1, 1, 90), (90, .bipush 7, 2, 92), (92, .if_icmp .ge 21, 3, 95), (95, .aload_n 0, 1, 96), (96, .getfield 38, 3, 99), (99, .iload_n 1, 1, 100), (100, .aload_n 0, 1, 101), (101, .getfield 13, 3, 104), (104, .iload_n 1, 1, 105), (105, .iaload, 1, 106), (106, .iastore, 1, 107), (107, .iinc 1 1, 3, 110), (110, .goto (-21), 3, 113), (113, .aload_n 0, 1, 114), (114, .getfield 104, 3, 117), (117, .ireturn, 1, 118)]
def I_X9_image : MI := (prog_11_method_78_code, 2, (some .int), "OpensAtNineModel", "image", T_X9_image, 0, 0, 1, 60)
theorem dT_X9_image : ∀ q ∈ T_X9_image, decode prog_11_method_78_code q.1 = .ok (q.2.1, q.2.2.1) ∧ q.2.2.2 = q.1 + q.2.2.1 := by decide +kernel
theorem xm_X9_image : xCM y_X9_image I_X9_image 9 0 := ⟨⟨tw1423, tw1424⟩, tw84, tw1425, ⟨xT9, 49, rfl⟩, ⟨by decide +kernel, by decide +kernel, by decide +kernel⟩⟩
noncomputable def fb_X9_image_89 (k_89 : XM → Option Nat → Int32 → Option (Int32 × XM)) (h : XM) (l0 : Option Nat) (l1 : Int32) : Option (Int32 × XM) := if l1 < ((7 : Int32)) then ((gR h 9 l0 19).bind fun v1 => (gR h 9 l0 6).bind fun v2 => (rI h v2 l1).bind fun v3 => (sI h v1 l1 v3).bind fun h4 => bnd (l1 + (1 : Int32)) fun v5 => k_89 h4 l0 v5) else ((gI h 9 l0 5).bind fun v6 => some (v6, h))
noncomputable def f_X9_image_89 (n : Nat) : XM → Option Nat → Int32 → Option (Int32 × XM) := Nat.rec (motive := fun _ => XM → Option Nat → Int32 → Option (Int32 × XM)) (fun _ _ _ => none) (fun _ ih h l0 l1 => fb_X9_image_89 ih h l0 l1) n
noncomputable def f_X9_image (h : XM) (a0 : Option Nat) : Option (Int32 × XM) := (pZ h 9 a0 17 ((1 : Int32))).bind fun h7 => (gR h7 9 a0 18).bind fun v8 => (gI h7 9 a0 0).bind fun v9 => (sI h7 v8 ((0 : Int32)) v9).bind fun h10 => (gR h10 9 a0 18).bind fun v11 => (gI h10 9 a0 1).bind fun v12 => (sI h10 v11 ((1 : Int32)) v12).bind fun h13 => (gR h13 9 a0 18).bind fun v14 => (gI h13 9 a0 2).bind fun v15 => (sI h13 v14 ((2 : Int32)) v15).bind fun h16 => (gR h16 9 a0 18).bind fun v17 => (gI h16 9 a0 3).bind fun v18 => (sI h16 v17 ((3 : Int32)) v18).bind fun h19 => (gR h19 9 a0 18).bind fun v20 => (gI h19 9 a0 4).bind fun v21 => (sI h19 v20 ((4 : Int32)) v21).bind fun h22 => (gR h22 9 a0 18).bind fun v23 => (gI h22 9 a0 5).bind fun v24 => (sI h22 v23 ((5 : Int32)) v24).bind fun h25 => (gR h25 9 a0 18).bind fun v26 => (gI h25 9 a0 10).bind fun v27 => (sI h25 v26 ((6 : Int32)) v27).bind fun h28 => (gR h28 9 a0 18).bind fun v29 => (gI h28 9 a0 16).bind fun v30 => (sI h28 v29 ((7 : Int32)) v30).bind fun h31 => f_X9_image_89 FU h31 a0 ((0 : Int32))
theorem bb_X9_image_89 (X : XX) (k_89 : XM → Option Nat → Int32 → Option (Int32 × XM)) (hk_89 : ∀ h l0 l1, SW X I_X9_image ρi 89 [(0, tA l0), (1, tI l1)] [] h 0 0 (k_89 h l0 l1)) (h : XM) (l0 : Option Nat) (l1 : Int32) : SW X I_X9_image ρi 89 [(0, tA l0), (1, tI l1)] [] h 0 0 (fb_X9_image_89 k_89 h l0 l1) := by
  unfold fb_X9_image_89
  refine s_iload_n (i := 53) rfl 1 rfl ?_
  refine s_bipush (i := 54) rfl (v := (7 : Int32)) (by decide) ?_
  refine s_icmpge (i := 55) rfl (tgt := 113) (by decide) (fun z92 => ?_) (fun z92 => ?_)
  · refine s_aload_n (i := 56) rfl 0 rfl ?_
    refine s_getR (i := 57) rfl xf_9_38.r rfl (fun v1 => ?_)
    refine s_iload_n (i := 58) rfl 1 rfl ?_
    refine s_aload_n (i := 59) rfl 0 rfl ?_
    refine s_getR (i := 60) rfl xf_9_13.r rfl (fun v2 => ?_)
    refine s_iload_n (i := 61) rfl 1 rfl ?_
    refine s_iaload (i := 62) rfl (fun v3 => ?_)
    refine s_iastore (i := 63) rfl (fun h4 => ?_)
    refine s_inc (i := 64) rfl 1 rfl (c9 := (1 : Int32)) (by decide) (Nat.le_of_ble_eq_true rfl) (fun v5 => ?_)
    refine s_ls (ls2 := [(1, tI v5), (0, tA l0)]) rfl ?_
    refine s_goto (i := 65) rfl (tgt := 89) (by decide) ?_
    exact s_sub [1, 0] rfl (hk_89 h4 l0 v5)
  · refine s_aload_n (i := 66) rfl 0 rfl ?_
    refine s_getI (i := 67) rfl xf_9_104.r rfl (fun v6 => ?_)
    exact s_iret (i := 68) rfl rfl
theorem b_X9_image_89 (X : XX) : ∀ (n : Nat) (h : XM) (l0 : Option Nat) (l1 : Int32), SW X I_X9_image ρi 89 [(0, tA l0), (1, tI l1)] [] h 0 0 (f_X9_image_89 n h l0 l1) := by
  intro n
  induction n with
  | zero =>
    intro h l0 l1
    exact s_none
  | succ n ih =>
    intro h l0 l1
    exact bb_X9_image_89 X (f_X9_image_89 n) ih h l0 l1
theorem c_X9_image (h : XM) (a0 : Option Nat) : MC I_X9_image y_X9_image [tA a0] h ρi (f_X9_image h a0) := by
  refine MC_of ⟨by decide +kernel, rfl, rfl, Nat.le_of_ble_eq_true rfl⟩ dT_X9_image (fun X => ?_)
  show SW X I_X9_image ρi 0 [(0, tA a0)] [] h 0 0 (f_X9_image h a0)
  unfold f_X9_image
  refine s_aload_n (i := 0) rfl 0 rfl ?_
  refine s_iconst (i := 1) rfl (v := (1 : Int32)) (by decide) ?_
  refine s_putZ (i := 2) rfl xf_9_337 (fun q => by cases q) rfl rfl (fun h7 => ?_)
  refine s_aload_n (i := 3) rfl 0 rfl ?_
  refine s_getR (i := 4) rfl xf_9_35.r rfl (fun v8 => ?_)
  refine s_iconst (i := 5) rfl (v := (0 : Int32)) (by decide) ?_
  refine s_aload_n (i := 6) rfl 0 rfl ?_
  refine s_getI (i := 7) rfl xf_9_7.r rfl (fun v9 => ?_)
  refine s_iastore (i := 8) rfl (fun h10 => ?_)
  refine s_aload_n (i := 9) rfl 0 rfl ?_
  refine s_getR (i := 10) rfl xf_9_35.r rfl (fun v11 => ?_)
  refine s_iconst (i := 11) rfl (v := (1 : Int32)) (by decide) ?_
  refine s_aload_n (i := 12) rfl 0 rfl ?_
  refine s_getI (i := 13) rfl xf_9_113.r rfl (fun v12 => ?_)
  refine s_iastore (i := 14) rfl (fun h13 => ?_)
  refine s_aload_n (i := 15) rfl 0 rfl ?_
  refine s_getR (i := 16) rfl xf_9_35.r rfl (fun v14 => ?_)
  refine s_iconst (i := 17) rfl (v := (2 : Int32)) (by decide) ?_
  refine s_aload_n (i := 18) rfl 0 rfl ?_
  refine s_getI (i := 19) rfl xf_9_116.r rfl (fun v15 => ?_)
  refine s_iastore (i := 20) rfl (fun h16 => ?_)
  refine s_aload_n (i := 21) rfl 0 rfl ?_
  refine s_getR (i := 22) rfl xf_9_35.r rfl (fun v17 => ?_)
  refine s_iconst (i := 23) rfl (v := (3 : Int32)) (by decide) ?_
  refine s_aload_n (i := 24) rfl 0 rfl ?_
  refine s_getI (i := 25) rfl xf_9_97.r rfl (fun v18 => ?_)
  refine s_iastore (i := 26) rfl (fun h19 => ?_)
  refine s_aload_n (i := 27) rfl 0 rfl ?_
  refine s_getR (i := 28) rfl xf_9_35.r rfl (fun v20 => ?_)
  refine s_iconst (i := 29) rfl (v := (4 : Int32)) (by decide) ?_
  refine s_aload_n (i := 30) rfl 0 rfl ?_
  refine s_getI (i := 31) rfl xf_9_107.r rfl (fun v21 => ?_)
  refine s_iastore (i := 32) rfl (fun h22 => ?_)
  refine s_aload_n (i := 33) rfl 0 rfl ?_
  refine s_getR (i := 34) rfl xf_9_35.r rfl (fun v23 => ?_)
  refine s_iconst (i := 35) rfl (v := (5 : Int32)) (by decide) ?_
  refine s_aload_n (i := 36) rfl 0 rfl ?_
  refine s_getI (i := 37) rfl xf_9_104.r rfl (fun v24 => ?_)
  refine s_iastore (i := 38) rfl (fun h25 => ?_)
  refine s_aload_n (i := 39) rfl 0 rfl ?_
  refine s_getR (i := 40) rfl xf_9_35.r rfl (fun v26 => ?_)
  refine s_bipush (i := 41) rfl (v := (6 : Int32)) (by decide) ?_
  refine s_aload_n (i := 42) rfl 0 rfl ?_
  refine s_getI (i := 43) rfl xf_9_110.r rfl (fun v27 => ?_)
  refine s_iastore (i := 44) rfl (fun h28 => ?_)
  refine s_aload_n (i := 45) rfl 0 rfl ?_
  refine s_getR (i := 46) rfl xf_9_35.r rfl (fun v29 => ?_)
  refine s_bipush (i := 47) rfl (v := (7 : Int32)) (by decide) ?_
  refine s_aload_n (i := 48) rfl 0 rfl ?_
  refine s_getI (i := 49) rfl xf_9_126.r rfl (fun v30 => ?_)
  refine s_iastore (i := 50) rfl (fun h31 => ?_)
  refine s_iconst (i := 51) rfl (v := (0 : Int32)) (by decide) ?_
  refine s_istore_n (i := 52) rfl (Nat.le_of_ble_eq_true rfl) (ls2 := [(1, tI ((0 : Int32))), (0, tA a0)]) rfl ?_
  exact s_sub [1, 0] rfl (b_X9_image_89 X FU h31 a0 ((0 : Int32)))
