/-! 13.reader: the methods as functions, and that the bytecode does so (written by wip/whole/gen/gen_parts.py) -/
def y_X3_init : MethodName := ⟨"OpensAtNine$Reader", "<init>", "()V"⟩
def T_X3_init : List (Nat × Instr × Nat × Nat) := [(0, .aload_n 0, 1, 1), (1, .invokespecial 3, 3, 4), (4, .aload_n 0, 1, 5), (5, .sipush 160, 3, 8), (8, .newarray .int, 2, 10), (10, .putfield 9, 3, 13), (13, .aload_n 0, 1, 14), (14, .sipush 160, 3, 17), (17, .newarray .int, 2, 19), (19, .putfield 15, 3, 22), (22, .aload_n 0, 1, 23), (23, .iconst 4, 1, 24), (24, .newarray .int, 2, 26), (26, .putfield 18, 3, 29), (29, .return_, 1, 30)]
def I_X3_init : MI := (prog_5_method_1_code, 1, none, "OpensAtNine$Reader", "<init>", T_X3_init, 3, 324, 1, 60)
theorem dT_X3_init : ∀ q ∈ T_X3_init, decode prog_5_method_1_code q.1 = .ok (q.2.1, q.2.2.1) ∧ q.2.2.2 = q.1 + q.2.2.1 := by decide +kernel
theorem xm_X3_init : xCI y_X3_init I_X3_init 0 := ⟨⟨rfl, rfl⟩, tw228, tw74, tw229, ⟨by decide +kernel, by decide +kernel, by decide +kernel⟩⟩
noncomputable def f_X3_init (h : XM) (a0 : Option Nat) : Option (XM) := (a0).bind fun _ => (nA h 10 160 ((160 : Int32))).bind fun h1 => (pR h1 3 a0 0 (some (xc h))).bind fun h2 => (nA h2 10 160 ((160 : Int32))).bind fun h3 => (pR h3 3 a0 1 (some (xc h2))).bind fun h4 => (nA h4 10 4 ((4 : Int32))).bind fun h5 => (pR h5 3 a0 2 (some (xc h4))).bind fun h6 => some h6
theorem c_X3_init (h : XM) (a0 : Option Nat) : MC I_X3_init y_X3_init [tA a0] h ρv (f_X3_init h a0) := by
  refine MC_of ⟨by decide +kernel, rfl, rfl, Nat.le_of_ble_eq_true rfl⟩ dT_X3_init (fun X => ?_)
  show SW X I_X3_init ρv 0 [(0, tA a0)] [] h 3 324 (f_X3_init h a0)
  unfold f_X3_init
  refine s_aload_n (i := 0) rfl 0 rfl ?_
  refine s_bud 3 324 (by omega) (by omega) ?_
  refine s_objInit (i := 1) rfl ⟨tw230, tw93, tw94⟩ ⟨by decide, by decide⟩ rfl ?_
  refine s_bud 3 324 (by omega) (by omega) ?_
  refine s_aload_n (i := 2) rfl 0 rfl ?_
  refine s_bud 3 324 (by omega) (by omega) ?_
  refine s_sipush (i := 3) rfl (v := (160 : Int32)) (by decide) ?_
  refine s_bud 3 324 (by omega) (by omega) ?_
  refine s_bud (1 + 2) (160 + 164) (by omega) (by omega) ?_
  refine s_newarr (i := 4) rfl (lim := 160) (Or.inl ⟨rfl, rfl⟩) (by decide) (tw158) (fun h1 => ?_)
  refine s_bud 2 164 (by omega) (by omega) ?_
  refine s_putR (i := 5) rfl xf_3_9 (fun _ => rfl) rfl (Or.inr ⟨_, rfl⟩) (fun h2 => ?_)
  refine s_bud 2 164 (by omega) (by omega) ?_
  refine s_aload_n (i := 6) rfl 0 rfl ?_
  refine s_bud 2 164 (by omega) (by omega) ?_
  refine s_sipush (i := 7) rfl (v := (160 : Int32)) (by decide) ?_
  refine s_bud 2 164 (by omega) (by omega) ?_
  refine s_bud (1 + 1) (160 + 4) (by omega) (by omega) ?_
  refine s_newarr (i := 8) rfl (lim := 160) (Or.inl ⟨rfl, rfl⟩) (by decide) (tw158) (fun h3 => ?_)
  refine s_bud 1 4 (by omega) (by omega) ?_
  refine s_putR (i := 9) rfl xf_3_15 (fun _ => rfl) rfl (Or.inr ⟨_, rfl⟩) (fun h4 => ?_)
  refine s_bud 1 4 (by omega) (by omega) ?_
  refine s_aload_n (i := 10) rfl 0 rfl ?_
  refine s_bud 1 4 (by omega) (by omega) ?_
  refine s_iconst (i := 11) rfl (v := (4 : Int32)) (by decide) ?_
  refine s_bud 1 4 (by omega) (by omega) ?_
  refine s_bud (1 + 0) (4 + 0) (by omega) (by omega) ?_
  refine s_newarr (i := 12) rfl (lim := 4) (Or.inl ⟨rfl, rfl⟩) (by decide) (tw158) (fun h5 => ?_)
  refine s_bud 0 0 (by omega) (by omega) ?_
  refine s_putR (i := 13) rfl xf_3_18 (fun _ => rfl) rfl (Or.inr ⟨_, rfl⟩) (fun h6 => ?_)
  refine s_bud 0 0 (by omega) (by omega) ?_
  exact s_vret (i := 14) rfl rfl
def y_X3_add : MethodName := ⟨"OpensAtNine$Reader", "add", "(I)V"⟩
def T_X3_add : List (Nat × Instr × Nat × Nat) := [(0, .aload_n 0, 1, 1), (1, .getfield 21, 3, 4), (4, .sipush 160, 3, 7), (7, .if_icmp .lt 4, 3, 10), (10, .return_, 1, 11), (11, .aload_n 0, 1, 12), (12, .getfield 9, 3, 15), (15, .aload_n 0, 1, 16), (16, .getfield 21, 3, 19), (19, .iload_n 1, 1, 20), (20, .iastore, 1, 21), (21, .aload_n 0, 1, 22), (22, .dup, 1, 23), (23, .getfield 21, 3, 26), (26, .iconst 1, 1, 27), (27, .iadd, 1, 28), (28, .putfield 21, 3, 31), (31, .return_, 1, 32)]
def I_X3_add : MI := (prog_5_method_2_code, 2, none, "OpensAtNine$Reader", "add", T_X3_add, 0, 0, 1, 60)
theorem dT_X3_add : ∀ q ∈ T_X3_add, decode prog_5_method_2_code q.1 = .ok (q.2.1, q.2.2.1) ∧ q.2.2.2 = q.1 + q.2.2.1 := by decide +kernel
theorem xm_X3_add : xCM y_X3_add I_X3_add 3 1 := ⟨⟨tw341, tw342⟩, tw74, tw343, ⟨xT3, 11, rfl⟩, ⟨by decide +kernel, by decide +kernel, by decide +kernel⟩⟩
noncomputable def f_X3_add (h : XM) (a0 : Option Nat) (a1 : Int32) : Option (XM) := (gI h 3 a0 3).bind fun v1 => if v1 < ((160 : Int32)) then ((gR h 3 a0 0).bind fun v2 => (gI h 3 a0 3).bind fun v3 => (sI h v2 v3 a1).bind fun h4 => (gI h4 3 a0 3).bind fun v5 => (pI h4 3 a0 3 (v5 + ((1 : Int32)))).bind fun h6 => some h6) else (some h)
theorem c_X3_add (h : XM) (a0 : Option Nat) (a1 : Int32) : MC I_X3_add y_X3_add [tA a0, tI a1] h ρv (f_X3_add h a0 a1) := by
  refine MC_of ⟨by decide +kernel, rfl, rfl, Nat.le_of_ble_eq_true rfl⟩ dT_X3_add (fun X => ?_)
  show SW X I_X3_add ρv 0 [(0, tA a0), (1, tI a1)] [] h 0 0 (f_X3_add h a0 a1)
  unfold f_X3_add
  refine s_aload_n (i := 0) rfl 0 rfl ?_
  refine s_getI (i := 1) rfl xf_3_21.r rfl (fun v1 => ?_)
  refine s_sipush (i := 2) rfl (v := (160 : Int32)) (by decide) ?_
  refine s_icmplt (i := 3) rfl (tgt := 11) (by decide) (fun z7 => ?_) (fun z7 => ?_)
  · refine s_aload_n (i := 5) rfl 0 rfl ?_
    refine s_getR (i := 6) rfl xf_3_9.r rfl (fun v2 => ?_)
    refine s_aload_n (i := 7) rfl 0 rfl ?_
    refine s_getI (i := 8) rfl xf_3_21.r rfl (fun v3 => ?_)
    refine s_iload_n (i := 9) rfl 1 rfl ?_
    refine s_iastore (i := 10) rfl (fun h4 => ?_)
    refine s_aload_n (i := 11) rfl 0 rfl ?_
    refine s_dup (i := 12) rfl rfl ?_
    refine s_getI (i := 13) rfl xf_3_21.r rfl (fun v5 => ?_)
    refine s_iconst (i := 14) rfl (v := (1 : Int32)) (by decide) ?_
    refine s_iadd (i := 15) rfl ?_
    refine s_putI (i := 16) rfl xf_3_21 (fun q => by cases q) rfl rfl (fun h6 => ?_)
    exact s_vret (i := 17) rfl rfl
  · exact s_vret (i := 4) rfl rfl
def y_X3_write : MethodName := ⟨"OpensAtNine$Reader", "write", "(Ljava/lang/String;)V"⟩
def T_X3_write : List (Nat × Instr × Nat × Nat) := [(0, .iconst 0, 1, 1), (1, .istore_n 2, 1, 2), (2, .iload_n 2, 1, 3), (3, .aload_n 1, 1, 4), (4, .invokevirtual 25, 3, 7), (7, .if_icmp .ge 18, 3, 10), (10, .aload_n 0, 1, 11), (11, .aload_n 1, 1, 12), (12, .iload_n 2, 1, 13), (13, .invokevirtual 31, 3, 16), (16, .invokevirtual 35, 3, 19), (19, .iinc 2 1, 3, 22), (22, .goto (-20), 3, 25), (25, .return_, 1, 26)]
def I_X3_write : MI := (prog_5_method_3_code, 3, none, "OpensAtNine$Reader", "write", T_X3_write, 0, 0, 5, 145)
theorem dT_X3_write : ∀ q ∈ T_X3_write, decode prog_5_method_3_code q.1 = .ok (q.2.1, q.2.2.1) ∧ q.2.2.2 = q.1 + q.2.2.1 := by decide +kernel
theorem xm_X3_write : xCM y_X3_write I_X3_write 3 1 := ⟨⟨tw289, tw290⟩, tw74, tw291, ⟨xT3, 11, rfl⟩, ⟨by decide +kernel, by decide +kernel, by decide +kernel⟩⟩
noncomputable def fb_X3_write_2 (k_2 : XM → Option Nat → Nat → Int32 → Option (XM)) (h : XM) (l0 : Option Nat) (l1 : Nat) (l2 : Int32) : Option (XM) := (vk l1 (f_J0_length h l1)).bind fun q1 => if l2 < q1.1 then ((vk l1 (f_J0_charAt q1.2 l1 l2)).bind fun q2 => (vc q2.2 3 l0 (f_X3_add q2.2 l0 q2.1)).bind fun q3 => bnd (l2 + (1 : Int32)) fun v4 => k_2 q3 l0 l1 v4) else (some q1.2)
noncomputable def f_X3_write_2 (n : Nat) : XM → Option Nat → Nat → Int32 → Option (XM) := Nat.rec (motive := fun _ => XM → Option Nat → Nat → Int32 → Option (XM)) (fun _ _ _ _ => none) (fun _ ih h l0 l1 l2 => fb_X3_write_2 ih h l0 l1 l2) n
noncomputable def f_X3_write (h : XM) (a0 : Option Nat) (a1 : Nat) : Option (XM) := f_X3_write_2 FU h a0 a1 ((0 : Int32))
theorem bb_X3_write_2 (X : XX) (k_2 : XM → Option Nat → Nat → Int32 → Option (XM)) (hk_2 : ∀ h l0 l1 l2, SW X I_X3_write ρv 2 [(0, tA l0), (1, tK l1), (2, tI l2)] [] h 0 0 (k_2 h l0 l1 l2)) (h : XM) (l0 : Option Nat) (l1 : Nat) (l2 : Int32) : SW X I_X3_write ρv 2 [(0, tA l0), (1, tK l1), (2, tI l2)] [] h 0 0 (fb_X3_write_2 k_2 h l0 l1 l2) := by
  unfold fb_X3_write_2
  refine s_iload_n (i := 2) rfl 2 rfl ?_
  refine s_aloadK_n (i := 3) rfl 1 rfl ?_
  refine u_callKi [] l1 [tI l2] rfl (i := 4) rfl (c_J0_length h l1) xm_J0_length (tw292) rfl (Nat.le_of_ble_eq_true rfl) (xRm.of rfl) ⟨rfl, rfl⟩ (fun q1 => ?_)
  refine s_icmpge (i := 5) rfl (tgt := 25) (by decide) (fun z7 => ?_) (fun z7 => ?_)
  · refine s_aload_n (i := 6) rfl 0 rfl ?_
    refine s_aloadK_n (i := 7) rfl 1 rfl ?_
    refine s_iload_n (i := 8) rfl 2 rfl ?_
    refine u_callKi [tI l2] l1 [tA l0] rfl (i := 9) rfl (c_J0_charAt q1.2 l1 l2) xm_J0_charAt (tw302) rfl (Nat.le_of_ble_eq_true rfl) (xRm.of rfl) ⟨rfl, rfl⟩ (fun q2 => ?_)
    refine u_callVv (kk := 3) [tI q2.1] l0 [] rfl (i := 10) rfl (c_X3_add q2.2 l0 q2.1) xm_X3_add (tw340) rfl (Nat.le_of_ble_eq_true rfl) (xRm.of rfl) ⟨rfl, rfl⟩ (fun q3 => ?_)
    refine s_inc (i := 11) rfl 2 rfl (c9 := (1 : Int32)) (by decide) (Nat.le_of_ble_eq_true rfl) (fun v4 => ?_)
    refine s_ls (ls2 := [(2, tI v4), (0, tA l0), (1, tK l1)]) rfl ?_
    refine s_goto (i := 12) rfl (tgt := 2) (by decide) ?_
    exact s_sub [1, 2, 0] rfl (hk_2 q3 l0 l1 v4)
  · exact s_vret (i := 13) rfl rfl
theorem b_X3_write_2 (X : XX) : ∀ (n : Nat) (h : XM) (l0 : Option Nat) (l1 : Nat) (l2 : Int32), SW X I_X3_write ρv 2 [(0, tA l0), (1, tK l1), (2, tI l2)] [] h 0 0 (f_X3_write_2 n h l0 l1 l2) := by
  intro n
  induction n with
  | zero =>
    intro h l0 l1 l2
    exact s_none
  | succ n ih =>
    intro h l0 l1 l2
    exact bb_X3_write_2 X (f_X3_write_2 n) ih h l0 l1 l2
theorem c_X3_write (h : XM) (a0 : Option Nat) (a1 : Nat) : MC I_X3_write y_X3_write [tA a0, tK a1] h ρv (f_X3_write h a0 a1) := by
  refine MC_of ⟨by decide +kernel, rfl, rfl, Nat.le_of_ble_eq_true rfl⟩ dT_X3_write (fun X => ?_)
  show SW X I_X3_write ρv 0 [(0, tA a0), (1, tK a1)] [] h 0 0 (f_X3_write h a0 a1)
  unfold f_X3_write
  refine s_iconst (i := 0) rfl (v := (0 : Int32)) (by decide) ?_
  refine s_istore_n (i := 1) rfl (Nat.le_of_ble_eq_true rfl) (ls2 := [(2, tI ((0 : Int32))), (0, tA a0), (1, tK a1)]) rfl ?_
  exact s_sub [1, 2, 0] rfl (b_X3_write_2 X FU h a0 a1 ((0 : Int32)))
def y_X3_isLetter : MethodName := ⟨"OpensAtNine$Reader", "isLetter", "(I)Z"⟩
def T_X3_isLetter : List (Nat × Instr × Nat × Nat) := [(0, .iload_n 0, 1, 1), (1, .bipush 97, 2, 3), (3, .if_icmp .lt 13, 3, 6), (6, .iload_n 0, 1, 7), (7, .bipush 122, 2, 9), (9, .if_icmp .gt 7, 3, 12), (12, .iconst 1, 1, 13), (13, .goto 4, 3, 16), (16, .iconst 0, 1, 17), (17, .ireturn, 1, 18)]
def I_X3_isLetter : MI := (prog_5_method_21_code, 1, (some .boolean), "OpensAtNine$Reader", "isLetter", T_X3_isLetter, 0, 0, 1, 60)
theorem dT_X3_isLetter : ∀ q ∈ T_X3_isLetter, decode prog_5_method_21_code q.1 = .ok (q.2.1, q.2.2.1) ∧ q.2.2.2 = q.1 + q.2.2.1 := by decide +kernel
theorem xm_X3_isLetter : xCS y_X3_isLetter I_X3_isLetter 1 := ⟨tw353, tw74, tw354, ⟨by decide +kernel, by decide +kernel, by decide +kernel⟩⟩
noncomputable def f_X3_isLetter_17 (h : XM) (s0 : Int32) : Option (Int32 × XM) := rz h s0
noncomputable def f_X3_isLetter_16 (h : XM) : Option (Int32 × XM) := f_X3_isLetter_17 h ((0 : Int32))
noncomputable def f_X3_isLetter (h : XM) (a0 : Int32) : Option (Int32 × XM) := if a0 < ((97 : Int32)) then (f_X3_isLetter_16 h) else (if ((122 : Int32)) < a0 then (f_X3_isLetter_16 h) else (f_X3_isLetter_17 h ((1 : Int32))))
theorem b_X3_isLetter_17 (X : XX) (h : XM) (s0 : Int32) : SW X I_X3_isLetter ρi 17 [] [tI s0] h 0 0 (f_X3_isLetter_17 h s0) := by
  unfold f_X3_isLetter_17
  exact s_zret (i := 9) rfl rfl
theorem b_X3_isLetter_16 (X : XX) (h : XM) : SW X I_X3_isLetter ρi 16 [] [] h 0 0 (f_X3_isLetter_16 h) := by
  unfold f_X3_isLetter_16
  refine s_iconst (i := 8) rfl (v := (0 : Int32)) (by decide) ?_
  exact s_sub [] rfl (b_X3_isLetter_17 X h ((0 : Int32)))
theorem c_X3_isLetter (h : XM) (a0 : Int32) : MC I_X3_isLetter y_X3_isLetter [tI a0] h ρi (f_X3_isLetter h a0) := by
  refine MC_of ⟨by decide +kernel, rfl, rfl, Nat.le_of_ble_eq_true rfl⟩ dT_X3_isLetter (fun X => ?_)
  show SW X I_X3_isLetter ρi 0 [(0, tI a0)] [] h 0 0 (f_X3_isLetter h a0)
  unfold f_X3_isLetter
  refine s_iload_n (i := 0) rfl 0 rfl ?_
  refine s_bipush (i := 1) rfl (v := (97 : Int32)) (by decide) ?_
  refine s_icmplt (i := 2) rfl (tgt := 16) (by decide) (fun z3 => ?_) (fun z3 => ?_)
  · exact s_sub [] rfl (b_X3_isLetter_16 X h)
  · refine s_iload_n (i := 3) rfl 0 rfl ?_
    refine s_bipush (i := 4) rfl (v := (122 : Int32)) (by decide) ?_
    refine s_icmpgt (i := 5) rfl (tgt := 16) (by decide) (fun z9 => ?_) (fun z9 => ?_)
    · exact s_sub [] rfl (b_X3_isLetter_16 X h)
    · refine s_iconst (i := 6) rfl (v := (1 : Int32)) (by decide) ?_
      refine s_goto (i := 7) rfl (tgt := 17) (by decide) ?_
      exact s_sub [] rfl (b_X3_isLetter_17 X h ((1 : Int32)))
def y_X3_isDigit : MethodName := ⟨"OpensAtNine$Reader", "isDigit", "(I)Z"⟩
def T_X3_isDigit : List (Nat × Instr × Nat × Nat) := [(0, .iload_n 0, 1, 1), (1, .bipush 48, 2, 3), (3, .if_icmp .lt 13, 3, 6), (6, .iload_n 0, 1, 7), (7, .bipush 57, 2, 9), (9, .if_icmp .gt 7, 3, 12), (12, .iconst 1, 1, 13), (13, .goto 4, 3, 16), (16, .iconst 0, 1, 17), (17, .ireturn, 1, 18)]
def I_X3_isDigit : MI := (prog_5_method_22_code, 1, (some .boolean), "OpensAtNine$Reader", "isDigit", T_X3_isDigit, 0, 0, 1, 60)
theorem dT_X3_isDigit : ∀ q ∈ T_X3_isDigit, decode prog_5_method_22_code q.1 = .ok (q.2.1, q.2.2.1) ∧ q.2.2.2 = q.1 + q.2.2.1 := by decide +kernel
theorem xm_X3_isDigit : xCS y_X3_isDigit I_X3_isDigit 1 := ⟨tw379, tw74, tw380, ⟨by decide +kernel, by decide +kernel, by decide +kernel⟩⟩
noncomputable def f_X3_isDigit_17 (h : XM) (s0 : Int32) : Option (Int32 × XM) := rz h s0
noncomputable def f_X3_isDigit_16 (h : XM) : Option (Int32 × XM) := f_X3_isDigit_17 h ((0 : Int32))
noncomputable def f_X3_isDigit (h : XM) (a0 : Int32) : Option (Int32 × XM) := if a0 < ((48 : Int32)) then (f_X3_isDigit_16 h) else (if ((57 : Int32)) < a0 then (f_X3_isDigit_16 h) else (f_X3_isDigit_17 h ((1 : Int32))))
theorem b_X3_isDigit_17 (X : XX) (h : XM) (s0 : Int32) : SW X I_X3_isDigit ρi 17 [] [tI s0] h 0 0 (f_X3_isDigit_17 h s0) := by
  unfold f_X3_isDigit_17
  exact s_zret (i := 9) rfl rfl
theorem b_X3_isDigit_16 (X : XX) (h : XM) : SW X I_X3_isDigit ρi 16 [] [] h 0 0 (f_X3_isDigit_16 h) := by
  unfold f_X3_isDigit_16
  refine s_iconst (i := 8) rfl (v := (0 : Int32)) (by decide) ?_
  exact s_sub [] rfl (b_X3_isDigit_17 X h ((0 : Int32)))
theorem c_X3_isDigit (h : XM) (a0 : Int32) : MC I_X3_isDigit y_X3_isDigit [tI a0] h ρi (f_X3_isDigit h a0) := by
  refine MC_of ⟨by decide +kernel, rfl, rfl, Nat.le_of_ble_eq_true rfl⟩ dT_X3_isDigit (fun X => ?_)
  show SW X I_X3_isDigit ρi 0 [(0, tI a0)] [] h 0 0 (f_X3_isDigit h a0)
  unfold f_X3_isDigit
  refine s_iload_n (i := 0) rfl 0 rfl ?_
  refine s_bipush (i := 1) rfl (v := (48 : Int32)) (by decide) ?_
  refine s_icmplt (i := 2) rfl (tgt := 16) (by decide) (fun z3 => ?_) (fun z3 => ?_)
  · exact s_sub [] rfl (b_X3_isDigit_16 X h)
  · refine s_iload_n (i := 3) rfl 0 rfl ?_
    refine s_bipush (i := 4) rfl (v := (57 : Int32)) (by decide) ?_
    refine s_icmpgt (i := 5) rfl (tgt := 16) (by decide) (fun z9 => ?_) (fun z9 => ?_)
    · exact s_sub [] rfl (b_X3_isDigit_16 X h)
    · refine s_iconst (i := 6) rfl (v := (1 : Int32)) (by decide) ?_
      refine s_goto (i := 7) rfl (tgt := 17) (by decide) ?_
      exact s_sub [] rfl (b_X3_isDigit_17 X h ((1 : Int32)))
def y_X3_takeSign : MethodName := ⟨"OpensAtNine$Reader", "takeSign", "(I)V"⟩
def T_X3_takeSign : List (Nat × Instr × Nat × Nat) := [(0, .iload_n 1, 1, 1), (1, .tableswitch 111 40 61 #[103, 103, 103, 103, 111, 103, 111, 111, 111, 111, 111, 111, 111, 111, 111, 111, 111, 111, 111, 103, 103, 103], 103, 104), (104, .aload_n 0, 1, 105), (105, .iload_n 1, 1, 106), (106, .putfield 55, 3, 109), (109, .goto 10, 3, 112), (112, .aload_n 0, 1, 113), (113, .sipush 258, 3, 116), (116, .putfield 55, 3, 119), (119, .aload_n 0, 1, 120), (120, .dup, 1, 121), (121, .getfield 39, 3, 124), (124, .iconst 1, 1, 125), (125, .iadd, 1, 126), (126, .putfield 39, 3, 129), (129, .return_, 1, 130)]
def I_X3_takeSign : MI := (prog_5_method_20_code, 2, none, "OpensAtNine$Reader", "takeSign", T_X3_takeSign, 0, 0, 1, 60)
theorem dT_X3_takeSign : ∀ q ∈ T_X3_takeSign, decode prog_5_method_20_code q.1 = .ok (q.2.1, q.2.2.1) ∧ q.2.2.2 = q.1 + q.2.2.1 := by decide +kernel
theorem xm_X3_takeSign : xCM y_X3_takeSign I_X3_takeSign 3 1 := ⟨⟨tw387, tw4⟩, tw74, tw388, ⟨xT3, 11, rfl⟩, ⟨by decide +kernel, by decide +kernel, by decide +kernel⟩⟩
noncomputable def f_X3_takeSign_119 (h : XM) (l0 : Option Nat) : Option (XM) := (gI h 3 l0 5).bind fun v1 => (pI h 3 l0 5 (v1 + ((1 : Int32)))).bind fun h2 => some h2
noncomputable def f_X3_takeSign_112 (h : XM) (l0 : Option Nat) : Option (XM) := (pI h 3 l0 7 ((258 : Int32))).bind fun h3 => f_X3_takeSign_119 h3 l0
noncomputable def f_X3_takeSign_104 (h : XM) (l0 : Option Nat) (l1 : Int32) : Option (XM) := (pI h 3 l0 7 l1).bind fun h4 => f_X3_takeSign_119 h4 l0
noncomputable def f_X3_takeSign (h : XM) (a0 : Option Nat) (a1 : Int32) : Option (XM) := if a1 = (40 : Int32) then (f_X3_takeSign_104 h a0 a1) else (if a1 = (41 : Int32) then (f_X3_takeSign_104 h a0 a1) else (if a1 = (42 : Int32) then (f_X3_takeSign_104 h a0 a1) else (if a1 = (43 : Int32) then (f_X3_takeSign_104 h a0 a1) else (if a1 = (45 : Int32) then (f_X3_takeSign_104 h a0 a1) else (if a1 = (59 : Int32) then (f_X3_takeSign_104 h a0 a1) else (if a1 = (60 : Int32) then (f_X3_takeSign_104 h a0 a1) else (if a1 = (61 : Int32) then (f_X3_takeSign_104 h a0 a1) else (f_X3_takeSign_112 h a0))))))))
theorem b_X3_takeSign_119 (X : XX) (h : XM) (l0 : Option Nat) : SW X I_X3_takeSign ρv 119 [(0, tA l0)] [] h 0 0 (f_X3_takeSign_119 h l0) := by
  unfold f_X3_takeSign_119
  refine s_aload_n (i := 9) rfl 0 rfl ?_
  refine s_dup (i := 10) rfl rfl ?_
  refine s_getI (i := 11) rfl xf_3_39.r rfl (fun v1 => ?_)
  refine s_iconst (i := 12) rfl (v := (1 : Int32)) (by decide) ?_
  refine s_iadd (i := 13) rfl ?_
  refine s_putI (i := 14) rfl xf_3_39 (fun q => by cases q) rfl rfl (fun h2 => ?_)
  exact s_vret (i := 15) rfl rfl
theorem b_X3_takeSign_112 (X : XX) (h : XM) (l0 : Option Nat) : SW X I_X3_takeSign ρv 112 [(0, tA l0)] [] h 0 0 (f_X3_takeSign_112 h l0) := by
  unfold f_X3_takeSign_112
  refine s_aload_n (i := 6) rfl 0 rfl ?_
  refine s_sipush (i := 7) rfl (v := (258 : Int32)) (by decide) ?_
  refine s_putI (i := 8) rfl xf_3_55 (fun q => by cases q) rfl rfl (fun h3 => ?_)
  exact s_sub [0] rfl (b_X3_takeSign_119 X h3 l0)
theorem b_X3_takeSign_104 (X : XX) (h : XM) (l0 : Option Nat) (l1 : Int32) : SW X I_X3_takeSign ρv 104 [(0, tA l0), (1, tI l1)] [] h 0 0 (f_X3_takeSign_104 h l0 l1) := by
  unfold f_X3_takeSign_104
  refine s_aload_n (i := 2) rfl 0 rfl ?_
  refine s_iload_n (i := 3) rfl 1 rfl ?_
  refine s_putI (i := 4) rfl xf_3_55 (fun q => by cases q) rfl rfl (fun h4 => ?_)
  refine s_goto (i := 5) rfl (tgt := 119) (by decide) ?_
  exact s_sub [0] rfl (b_X3_takeSign_119 X h4 l0)
theorem c_X3_takeSign (h : XM) (a0 : Option Nat) (a1 : Int32) : MC I_X3_takeSign y_X3_takeSign [tA a0, tI a1] h ρv (f_X3_takeSign h a0 a1) := by
  refine MC_of ⟨by decide +kernel, rfl, rfl, Nat.le_of_ble_eq_true rfl⟩ dT_X3_takeSign (fun X => ?_)
  show SW X I_X3_takeSign ρv 0 [(0, tA a0), (1, tI a1)] [] h 0 0 (f_X3_takeSign h a0 a1)
  unfold f_X3_takeSign
  refine s_iload_n (i := 0) rfl 1 rfl ?_
  refine s_if (P := a1 = (40 : Int32)) (fun z1_40 => ?_) (fun z1_40 => ?_)
  · refine s_table 104 (i := 1) rfl rfl (by rw [z1_40]; rfl) ?_
    exact s_sub [0, 1] rfl (b_X3_takeSign_104 X h a0 a1)
  refine s_if (P := a1 = (41 : Int32)) (fun z1_41 => ?_) (fun z1_41 => ?_)
  · refine s_table 104 (i := 1) rfl rfl (by rw [z1_41]; rfl) ?_
    exact s_sub [0, 1] rfl (b_X3_takeSign_104 X h a0 a1)
  refine s_if (P := a1 = (42 : Int32)) (fun z1_42 => ?_) (fun z1_42 => ?_)
  · refine s_table 104 (i := 1) rfl rfl (by rw [z1_42]; rfl) ?_
    exact s_sub [0, 1] rfl (b_X3_takeSign_104 X h a0 a1)
  refine s_if (P := a1 = (43 : Int32)) (fun z1_43 => ?_) (fun z1_43 => ?_)
  · refine s_table 104 (i := 1) rfl rfl (by rw [z1_43]; rfl) ?_
    exact s_sub [0, 1] rfl (b_X3_takeSign_104 X h a0 a1)
  refine s_if (P := a1 = (45 : Int32)) (fun z1_45 => ?_) (fun z1_45 => ?_)
  · refine s_table 104 (i := 1) rfl rfl (by rw [z1_45]; rfl) ?_
    exact s_sub [0, 1] rfl (b_X3_takeSign_104 X h a0 a1)
  refine s_if (P := a1 = (59 : Int32)) (fun z1_59 => ?_) (fun z1_59 => ?_)
  · refine s_table 104 (i := 1) rfl rfl (by rw [z1_59]; rfl) ?_
    exact s_sub [0, 1] rfl (b_X3_takeSign_104 X h a0 a1)
  refine s_if (P := a1 = (60 : Int32)) (fun z1_60 => ?_) (fun z1_60 => ?_)
  · refine s_table 104 (i := 1) rfl rfl (by rw [z1_60]; rfl) ?_
    exact s_sub [0, 1] rfl (b_X3_takeSign_104 X h a0 a1)
  refine s_if (P := a1 = (61 : Int32)) (fun z1_61 => ?_) (fun z1_61 => ?_)
  · refine s_table 104 (i := 1) rfl rfl (by rw [z1_61]; rfl) ?_
    exact s_sub [0, 1] rfl (b_X3_takeSign_104 X h a0 a1)
  refine s_table 112 (i := 1) rfl rfl (by
    rw [swT_out (fun k h1 h2 => by
      rcases (show k = 40 ∨ k = 41 ∨ k = 42 ∨ k = 43 ∨ k = 44 ∨ k = 45 ∨ k = 46 ∨ k = 47 ∨ k = 48 ∨ k = 49 ∨ k = 50 ∨ k = 51 ∨ k = 52 ∨ k = 53 ∨ k = 54 ∨ k = 55 ∨ k = 56 ∨ k = 57 ∨ k = 58 ∨ k = 59 ∨ k = 60 ∨ k = 61 by omega) with e | e | e | e | e | e | e | e | e | e | e | e | e | e | e | e | e | e | e | e | e | e <;> subst e
      · exact Or.inr z1_40
      · exact Or.inr z1_41
      · exact Or.inr z1_42
      · exact Or.inr z1_43
      · exact Or.inl rfl
      · exact Or.inr z1_45
      · exact Or.inl rfl
      · exact Or.inl rfl
      · exact Or.inl rfl
      · exact Or.inl rfl
      · exact Or.inl rfl
      · exact Or.inl rfl
      · exact Or.inl rfl
      · exact Or.inl rfl
      · exact Or.inl rfl
      · exact Or.inl rfl
      · exact Or.inl rfl
      · exact Or.inl rfl
      · exact Or.inl rfl
      · exact Or.inr z1_59
      · exact Or.inr z1_60
      · exact Or.inr z1_61)]
    rfl) ?_
  exact s_sub [0] rfl (b_X3_takeSign_112 X h a0)
def y_X3_takeNumber : MethodName := ⟨"OpensAtNine$Reader", "takeNumber", "()V"⟩
def T_X3_takeNumber : List (Nat × Instr × Nat × Nat) := [(0, .aload_n 0, 1, 1), (1, .iconst 0, 1, 2), (2, .putfield 107, 3, 5), (5, .aload_n 0, 1, 6), (6, .getfield 39, 3, 9), (9, .aload_n 0, 1, 10), (10, .getfield 21, 3, 13), (13, .if_icmp .ge 68, 3, 16), (16, .aload_n 0, 1, 17), (17, .getfield 9, 3, 20), (20, .aload_n 0, 1, 21), (21, .getfield 39, 3, 24), (24, .iaload, 1, 25), (25, .invokestatic 116, 3, 28), (28, .ifCond .eq 53, 3, 31), (31, .aload_n 0, 1, 32), (32, .getfield 39, 3, 35), (35, .aload_n 0, 1, 36), (36, .getfield 58, 3, 39), (39, .isub, 1, 40), (40, .iconst 4, 1, 41), (41, .if_icmp .ge 27, 3, 44), (44, .aload_n 0, 1, 45), (45, .bipush 10, 2, 47), (47, .aload_n 0, 1, 48), (48, .getfield 107, 3, 51), (51, .imul, 1, 52), (52, .aload_n 0, 1, 53), (53, .getfield 9, 3, 56), (56, .aload_n 0, 1, 57), (57, .getfield 39, 3, 60), (60, .iaload, 1, 61), (61, .iadd, 1, 62), (62, .bipush 48, 2, 64), (64, .isub, 1, 65), (65, .putfield 107, 3, 68), (68, .aload_n 0, 1, 69), (69, .dup, 1, 70), (70, .getfield 39, 3, 73), (73, .iconst 1, 1, 74), (74, .iadd, 1, 75), (75, .putfield 39, 3, 78), (78, .goto (-73), 3, 81), (81, .aload_n 0, 1, 82), (82, .aload_n 0, 1, 83), (83, .getfield 39, 3, 86), (86, .aload_n 0, 1, 87), (87, .getfield 58, 3, 90), (90, .isub, 1, 91), (91, .iconst 4, 1, 92), (92, .if_icmp .le 9, 3, 95), (95, .sipush 258, 3, 98), (98, .goto 6, 3, 101), (101, .sipush 256, 3, 104), (104, .putfield 55, 3, 107), (107, .return_, 1, 108)]
def I_X3_takeNumber : MI := (prog_5_method_19_code, 1, none, "OpensAtNine$Reader", "takeNumber", T_X3_takeNumber, 0, 0, 2, 80)
theorem dT_X3_takeNumber : ∀ q ∈ T_X3_takeNumber, decode prog_5_method_19_code q.1 = .ok (q.2.1, q.2.2.1) ∧ q.2.2.2 = q.1 + q.2.2.1 := by decide +kernel
theorem xm_X3_takeNumber : xCM y_X3_takeNumber I_X3_takeNumber 3 0 := ⟨⟨tw383, tw3⟩, tw74, tw384, ⟨xT3, 11, rfl⟩, ⟨by decide +kernel, by decide +kernel, by decide +kernel⟩⟩
noncomputable def f_X3_takeNumber_68 (k_5 : XM → Option Nat → Option (XM)) (h : XM) (l0 : Option Nat) : Option (XM) := (gI h 3 l0 5).bind fun v1 => (pI h 3 l0 5 (v1 + ((1 : Int32)))).bind fun h2 => k_5 h2 l0
noncomputable def f_X3_takeNumber_104 (h : XM) (s0 : Int32) (s1 : Option Nat) : Option (XM) := (pI h 3 s1 7 s0).bind fun h3 => some h3
noncomputable def f_X3_takeNumber_81 (h : XM) (l0 : Option Nat) : Option (XM) := (gI h 3 l0 5).bind fun v4 => (gI h 3 l0 6).bind fun v5 => if ((4 : Int32)) < (v4 - v5) then (f_X3_takeNumber_104 h ((258 : Int32)) l0) else (f_X3_takeNumber_104 h ((256 : Int32)) l0)
noncomputable def fb_X3_takeNumber_5 (k_5 : XM → Option Nat → Option (XM)) (h : XM) (l0 : Option Nat) : Option (XM) := (gI h 3 l0 5).bind fun v6 => (gI h 3 l0 3).bind fun v7 => if v6 < v7 then ((gR h 3 l0 0).bind fun v8 => (gI h 3 l0 5).bind fun v9 => (rI h v8 v9).bind fun v10 => (f_X3_isDigit h v10).bind fun q11 => if q11.1 = 0 then (f_X3_takeNumber_81 q11.2 l0) else ((gI q11.2 3 l0 5).bind fun v12 => (gI q11.2 3 l0 6).bind fun v13 => if (v12 - v13) < ((4 : Int32)) then ((gI q11.2 3 l0 8).bind fun v14 => (gR q11.2 3 l0 0).bind fun v15 => (gI q11.2 3 l0 5).bind fun v16 => (rI q11.2 v15 v16).bind fun v17 => (pI q11.2 3 l0 8 (((((10 : Int32)) * v14) + v17) - ((48 : Int32)))).bind fun h18 => f_X3_takeNumber_68 k_5 h18 l0) else (f_X3_takeNumber_68 k_5 q11.2 l0))) else (f_X3_takeNumber_81 h l0)
noncomputable def f_X3_takeNumber_5 (n : Nat) : XM → Option Nat → Option (XM) := Nat.rec (motive := fun _ => XM → Option Nat → Option (XM)) (fun _ _ => none) (fun _ ih h l0 => fb_X3_takeNumber_5 ih h l0) n
noncomputable def f_X3_takeNumber (h : XM) (a0 : Option Nat) : Option (XM) := (pI h 3 a0 8 ((0 : Int32))).bind fun h19 => f_X3_takeNumber_5 FU h19 a0
theorem b_X3_takeNumber_68 (X : XX) (k_5 : XM → Option Nat → Option (XM)) (hk_5 : ∀ h l0, SW X I_X3_takeNumber ρv 5 [(0, tA l0)] [] h 0 0 (k_5 h l0)) (h : XM) (l0 : Option Nat) : SW X I_X3_takeNumber ρv 68 [(0, tA l0)] [] h 0 0 (f_X3_takeNumber_68 k_5 h l0) := by
  unfold f_X3_takeNumber_68
  refine s_aload_n (i := 36) rfl 0 rfl ?_
  refine s_dup (i := 37) rfl rfl ?_
  refine s_getI (i := 38) rfl xf_3_39.r rfl (fun v1 => ?_)
  refine s_iconst (i := 39) rfl (v := (1 : Int32)) (by decide) ?_
  refine s_iadd (i := 40) rfl ?_
  refine s_putI (i := 41) rfl xf_3_39 (fun q => by cases q) rfl rfl (fun h2 => ?_)
  refine s_goto (i := 42) rfl (tgt := 5) (by decide) ?_
  exact s_sub [0] rfl (hk_5 h2 l0)
theorem b_X3_takeNumber_104 (X : XX) (h : XM) (s0 : Int32) (s1 : Option Nat) : SW X I_X3_takeNumber ρv 104 [] [tI s0, tA s1] h 0 0 (f_X3_takeNumber_104 h s0 s1) := by
  unfold f_X3_takeNumber_104
  refine s_putI (i := 54) rfl xf_3_55 (fun q => by cases q) rfl rfl (fun h3 => ?_)
  exact s_vret (i := 55) rfl rfl
theorem b_X3_takeNumber_81 (X : XX) (h : XM) (l0 : Option Nat) : SW X I_X3_takeNumber ρv 81 [(0, tA l0)] [] h 0 0 (f_X3_takeNumber_81 h l0) := by
  unfold f_X3_takeNumber_81
  refine s_aload_n (i := 43) rfl 0 rfl ?_
  refine s_aload_n (i := 44) rfl 0 rfl ?_
  refine s_getI (i := 45) rfl xf_3_39.r rfl (fun v4 => ?_)
  refine s_aload_n (i := 46) rfl 0 rfl ?_
  refine s_getI (i := 47) rfl xf_3_58.r rfl (fun v5 => ?_)
  refine s_isub (i := 48) rfl ?_
  refine s_iconst (i := 49) rfl (v := (4 : Int32)) (by decide) ?_
  refine s_icmple (i := 50) rfl (tgt := 101) (by decide) (fun z92 => ?_) (fun z92 => ?_)
  · refine s_sipush (i := 51) rfl (v := (258 : Int32)) (by decide) ?_
    refine s_goto (i := 52) rfl (tgt := 104) (by decide) ?_
    exact s_sub [] rfl (b_X3_takeNumber_104 X h ((258 : Int32)) l0)
  · refine s_sipush (i := 53) rfl (v := (256 : Int32)) (by decide) ?_
    exact s_sub [] rfl (b_X3_takeNumber_104 X h ((256 : Int32)) l0)
theorem bb_X3_takeNumber_5 (X : XX) (k_5 : XM → Option Nat → Option (XM)) (hk_5 : ∀ h l0, SW X I_X3_takeNumber ρv 5 [(0, tA l0)] [] h 0 0 (k_5 h l0)) (h : XM) (l0 : Option Nat) : SW X I_X3_takeNumber ρv 5 [(0, tA l0)] [] h 0 0 (fb_X3_takeNumber_5 k_5 h l0) := by
  unfold fb_X3_takeNumber_5
  refine s_aload_n (i := 3) rfl 0 rfl ?_
  refine s_getI (i := 4) rfl xf_3_39.r rfl (fun v6 => ?_)
  refine s_aload_n (i := 5) rfl 0 rfl ?_
  refine s_getI (i := 6) rfl xf_3_21.r rfl (fun v7 => ?_)
  refine s_icmpge (i := 7) rfl (tgt := 81) (by decide) (fun z13 => ?_) (fun z13 => ?_)
  · refine s_aload_n (i := 8) rfl 0 rfl ?_
    refine s_getR (i := 9) rfl xf_3_9.r rfl (fun v8 => ?_)
    refine s_aload_n (i := 10) rfl 0 rfl ?_
    refine s_getI (i := 11) rfl xf_3_39.r rfl (fun v9 => ?_)
    refine s_iaload (i := 12) rfl (fun v10 => ?_)
    refine u_callSi [tI v10] [] rfl (i := 13) rfl (c_X3_isDigit h v10) xm_X3_isDigit (tw378) rfl (Nat.le_of_ble_eq_true rfl) (xRm.of rfl) ⟨rfl, rfl⟩ (fun q11 => ?_)
    refine s_ifeq (i := 14) rfl (tgt := 81) (by decide) (fun z28 => ?_) (fun z28 => ?_)
    · exact s_sub [0] rfl (b_X3_takeNumber_81 X q11.2 l0)
    · refine s_aload_n (i := 15) rfl 0 rfl ?_
      refine s_getI (i := 16) rfl xf_3_39.r rfl (fun v12 => ?_)
      refine s_aload_n (i := 17) rfl 0 rfl ?_
      refine s_getI (i := 18) rfl xf_3_58.r rfl (fun v13 => ?_)
      refine s_isub (i := 19) rfl ?_
      refine s_iconst (i := 20) rfl (v := (4 : Int32)) (by decide) ?_
      refine s_icmpge (i := 21) rfl (tgt := 68) (by decide) (fun z41 => ?_) (fun z41 => ?_)
      · refine s_aload_n (i := 22) rfl 0 rfl ?_
        refine s_bipush (i := 23) rfl (v := (10 : Int32)) (by decide) ?_
        refine s_aload_n (i := 24) rfl 0 rfl ?_
        refine s_getI (i := 25) rfl xf_3_107.r rfl (fun v14 => ?_)
        refine s_imul (i := 26) rfl ?_
        refine s_aload_n (i := 27) rfl 0 rfl ?_
        refine s_getR (i := 28) rfl xf_3_9.r rfl (fun v15 => ?_)
        refine s_aload_n (i := 29) rfl 0 rfl ?_
        refine s_getI (i := 30) rfl xf_3_39.r rfl (fun v16 => ?_)
        refine s_iaload (i := 31) rfl (fun v17 => ?_)
        refine s_iadd (i := 32) rfl ?_
        refine s_bipush (i := 33) rfl (v := (48 : Int32)) (by decide) ?_
        refine s_isub (i := 34) rfl ?_
        refine s_putI (i := 35) rfl xf_3_107 (fun q => by cases q) rfl rfl (fun h18 => ?_)
        exact s_sub [0] rfl (b_X3_takeNumber_68 X k_5 hk_5 h18 l0)
      · exact s_sub [0] rfl (b_X3_takeNumber_68 X k_5 hk_5 q11.2 l0)
  · exact s_sub [0] rfl (b_X3_takeNumber_81 X h l0)
theorem b_X3_takeNumber_5 (X : XX) : ∀ (n : Nat) (h : XM) (l0 : Option Nat), SW X I_X3_takeNumber ρv 5 [(0, tA l0)] [] h 0 0 (f_X3_takeNumber_5 n h l0) := by
  intro n
  induction n with
  | zero =>
    intro h l0
    exact s_none
  | succ n ih =>
    intro h l0
    exact bb_X3_takeNumber_5 X (f_X3_takeNumber_5 n) ih h l0
theorem c_X3_takeNumber (h : XM) (a0 : Option Nat) : MC I_X3_takeNumber y_X3_takeNumber [tA a0] h ρv (f_X3_takeNumber h a0) := by
  refine MC_of ⟨by decide +kernel, rfl, rfl, Nat.le_of_ble_eq_true rfl⟩ dT_X3_takeNumber (fun X => ?_)
  show SW X I_X3_takeNumber ρv 0 [(0, tA a0)] [] h 0 0 (f_X3_takeNumber h a0)
  unfold f_X3_takeNumber
  refine s_aload_n (i := 0) rfl 0 rfl ?_
  refine s_iconst (i := 1) rfl (v := (0 : Int32)) (by decide) ?_
  refine s_putI (i := 2) rfl xf_3_107 (fun q => by cases q) rfl rfl (fun h19 => ?_)
  exact s_sub [0] rfl (b_X3_takeNumber_5 X FU h19 a0)
def y_X3_wordAt : MethodName := ⟨"OpensAtNine$Reader", "wordAt", "(I)Ljava/lang/String;"⟩
def T_X3_wordAt : List (Nat × Instr × Nat × Nat) := [(0, .iload_n 0, 1, 1), (1, .tableswitch 92 0 10 #[59, 62, 65, 68, 71, 74, 77, 80, 83, 86, 89], 59, 60), (60, .ldc 133, 2, 62), (62, .areturn, 1, 63), (63, .ldc 135, 2, 65), (65, .areturn, 1, 66), (66, .ldc 137, 2, 68), (68, .areturn, 1, 69), (69, .ldc 138, 2, 71), (71, .areturn, 1, 72), (72, .ldc 140, 2, 74), (74, .areturn, 1, 75), (75, .ldc 142, 2, 77), (77, .areturn, 1, 78), (78, .ldc 144, 2, 80), (80, .areturn, 1, 81), (81, .ldc 146, 2, 83), (83, .areturn, 1, 84), (84, .ldc 148, 2, 86), (86, .areturn, 1, 87), (87, .ldc 150, 2, 89), (89, .areturn, 1, 90), (90, .ldc 152, 2, 92), (92, .areturn, 1, 93), (93, .ldc 154, 2, 95), (95, .areturn, 1, 96)]
def I_X3_wordAt : MI := (prog_5_method_23_code, 1, (some (.object "java/lang/String")), "OpensAtNine$Reader", "wordAt", T_X3_wordAt, 0, 0, 1, 60)
theorem dT_X3_wordAt : ∀ q ∈ T_X3_wordAt, decode prog_5_method_23_code q.1 = .ok (q.2.1, q.2.2.1) ∧ q.2.2.2 = q.1 + q.2.2.1 := by decide +kernel
theorem xm_X3_wordAt : xCS y_X3_wordAt I_X3_wordAt 1 := ⟨tw360, tw74, tw361, ⟨by decide +kernel, by decide +kernel, by decide +kernel⟩⟩
noncomputable def f_X3_wordAt (h : XM) (a0 : Int32) : Option (Nat × XM) := if a0 = (0 : Int32) then (some (3, h)) else (if a0 = (1 : Int32) then (some (6, h)) else (if a0 = (2 : Int32) then (some (9, h)) else (if a0 = (3 : Int32) then (some (12, h)) else (if a0 = (4 : Int32) then (some (15, h)) else (if a0 = (5 : Int32) then (some (18, h)) else (if a0 = (6 : Int32) then (some (21, h)) else (if a0 = (7 : Int32) then (some (24, h)) else (if a0 = (8 : Int32) then (some (27, h)) else (if a0 = (9 : Int32) then (some (30, h)) else (if a0 = (10 : Int32) then (some (33, h)) else (some (36, h))))))))))))
theorem c_X3_wordAt (h : XM) (a0 : Int32) : MC I_X3_wordAt y_X3_wordAt [tI a0] h ρk (f_X3_wordAt h a0) := by
  refine MC_of ⟨by decide +kernel, rfl, rfl, Nat.le_of_ble_eq_true rfl⟩ dT_X3_wordAt (fun X => ?_)
  show SW X I_X3_wordAt ρk 0 [(0, tI a0)] [] h 0 0 (f_X3_wordAt h a0)
  unfold f_X3_wordAt
  refine s_iload_n (i := 0) rfl 0 rfl ?_
  refine s_if (P := a0 = (0 : Int32)) (fun z1_0 => ?_) (fun z1_0 => ?_)
  · refine s_table 60 (i := 1) rfl rfl (by rw [z1_0]; rfl) ?_
    refine s_ldcS (i := 2) rfl (j := 1) (by decide) rfl ?_
    exact s_kret (i := 3) rfl rfl (Or.inl ⟨_, rfl⟩)
  refine s_if (P := a0 = (1 : Int32)) (fun z1_1 => ?_) (fun z1_1 => ?_)
  · refine s_table 63 (i := 1) rfl rfl (by rw [z1_1]; rfl) ?_
    refine s_ldcS (i := 4) rfl (j := 2) (by decide) rfl ?_
    exact s_kret (i := 5) rfl rfl (Or.inl ⟨_, rfl⟩)
  refine s_if (P := a0 = (2 : Int32)) (fun z1_2 => ?_) (fun z1_2 => ?_)
  · refine s_table 66 (i := 1) rfl rfl (by rw [z1_2]; rfl) ?_
    refine s_ldcS (i := 6) rfl (j := 3) (by decide) rfl ?_
    exact s_kret (i := 7) rfl rfl (Or.inl ⟨_, rfl⟩)
  refine s_if (P := a0 = (3 : Int32)) (fun z1_3 => ?_) (fun z1_3 => ?_)
  · refine s_table 69 (i := 1) rfl rfl (by rw [z1_3]; rfl) ?_
    refine s_ldcS (i := 8) rfl (j := 4) (by decide) rfl ?_
    exact s_kret (i := 9) rfl rfl (Or.inl ⟨_, rfl⟩)
  refine s_if (P := a0 = (4 : Int32)) (fun z1_4 => ?_) (fun z1_4 => ?_)
  · refine s_table 72 (i := 1) rfl rfl (by rw [z1_4]; rfl) ?_
    refine s_ldcS (i := 10) rfl (j := 5) (by decide) rfl ?_
    exact s_kret (i := 11) rfl rfl (Or.inl ⟨_, rfl⟩)
  refine s_if (P := a0 = (5 : Int32)) (fun z1_5 => ?_) (fun z1_5 => ?_)
  · refine s_table 75 (i := 1) rfl rfl (by rw [z1_5]; rfl) ?_
    refine s_ldcS (i := 12) rfl (j := 6) (by decide) rfl ?_
    exact s_kret (i := 13) rfl rfl (Or.inl ⟨_, rfl⟩)
  refine s_if (P := a0 = (6 : Int32)) (fun z1_6 => ?_) (fun z1_6 => ?_)
  · refine s_table 78 (i := 1) rfl rfl (by rw [z1_6]; rfl) ?_
    refine s_ldcS (i := 14) rfl (j := 7) (by decide) rfl ?_
    exact s_kret (i := 15) rfl rfl (Or.inl ⟨_, rfl⟩)
  refine s_if (P := a0 = (7 : Int32)) (fun z1_7 => ?_) (fun z1_7 => ?_)
  · refine s_table 81 (i := 1) rfl rfl (by rw [z1_7]; rfl) ?_
    refine s_ldcS (i := 16) rfl (j := 8) (by decide) rfl ?_
    exact s_kret (i := 17) rfl rfl (Or.inl ⟨_, rfl⟩)
  refine s_if (P := a0 = (8 : Int32)) (fun z1_8 => ?_) (fun z1_8 => ?_)
  · refine s_table 84 (i := 1) rfl rfl (by rw [z1_8]; rfl) ?_
    refine s_ldcS (i := 18) rfl (j := 9) (by decide) rfl ?_
    exact s_kret (i := 19) rfl rfl (Or.inl ⟨_, rfl⟩)
  refine s_if (P := a0 = (9 : Int32)) (fun z1_9 => ?_) (fun z1_9 => ?_)
  · refine s_table 87 (i := 1) rfl rfl (by rw [z1_9]; rfl) ?_
    refine s_ldcS (i := 20) rfl (j := 10) (by decide) rfl ?_
    exact s_kret (i := 21) rfl rfl (Or.inl ⟨_, rfl⟩)
  refine s_if (P := a0 = (10 : Int32)) (fun z1_10 => ?_) (fun z1_10 => ?_)
  · refine s_table 90 (i := 1) rfl rfl (by rw [z1_10]; rfl) ?_
    refine s_ldcS (i := 22) rfl (j := 11) (by decide) rfl ?_
    exact s_kret (i := 23) rfl rfl (Or.inl ⟨_, rfl⟩)
  refine s_table 93 (i := 1) rfl rfl (by
    rw [swT_out (fun k h1 h2 => by
      rcases (show k = 0 ∨ k = 1 ∨ k = 2 ∨ k = 3 ∨ k = 4 ∨ k = 5 ∨ k = 6 ∨ k = 7 ∨ k = 8 ∨ k = 9 ∨ k = 10 by omega) with e | e | e | e | e | e | e | e | e | e | e <;> subst e
      · exact Or.inr z1_0
      · exact Or.inr z1_1
      · exact Or.inr z1_2
      · exact Or.inr z1_3
      · exact Or.inr z1_4
      · exact Or.inr z1_5
      · exact Or.inr z1_6
      · exact Or.inr z1_7
      · exact Or.inr z1_8
      · exact Or.inr z1_9
      · exact Or.inr z1_10)]
    rfl) ?_
  refine s_ldcS (i := 24) rfl (j := 12) (by decide) rfl ?_
  exact s_kret (i := 25) rfl rfl (Or.inl ⟨_, rfl⟩)
def y_X3_spells : MethodName := ⟨"OpensAtNine$Reader", "spells", "(Ljava/lang/String;)Z"⟩
def T_X3_spells : List (Nat × Instr × Nat × Nat) := [(0, .aload_n 1, 1, 1), (1, .invokevirtual 25, 3, 4), (4, .aload_n 0, 1, 5), (5, .getfield 39, 3, 8), (8, .aload_n 0, 1, 9), (9, .getfield 58, 3, 12), (12, .isub, 1, 13), (13, .if_icmp .eq 5, 3, 16), (16, .iconst 0, 1, 17), (17, .ireturn, 1, 18), (18, .iconst 0, 1, 19), (19, .istore_n 2, 1, 20), (20, .iload_n 2, 1, 21), (21, .aload_n 1, 1, 22), (22, .invokevirtual 25, 3, 25), (25, .if_icmp .ge 30, 3, 28), (28, .aload_n 1, 1, 29), (29, .iload_n 2, 1, 30), (30, .invokevirtual 31, 3, 33), (33, .aload_n 0, 1, 34), (34, .getfield 9, 3, 37), (37, .aload_n 0, 1, 38), (38, .getfield 58, 3, 41), (41, .iload_n 2, 1, 42), (42, .iadd, 1, 43), (43, .iaload, 1, 44), (44, .if_icmp .eq 5, 3, 47), (47, .iconst 0, 1, 48), (48, .ireturn, 1, 49), (49, .iinc 2 1, 3, 52), (52, .goto (-32), 3, 55), (55, .iconst 1, 1, 56), (56, .ireturn, 1, 57)]
def I_X3_spells : MI := (prog_5_method_18_code, 3, (some .boolean), "OpensAtNine$Reader", "spells", T_X3_spells, 0, 0, 5, 145)
theorem dT_X3_spells : ∀ q ∈ T_X3_spells, decode prog_5_method_18_code q.1 = .ok (q.2.1, q.2.2.1) ∧ q.2.2.2 = q.1 + q.2.2.1 := by decide +kernel
theorem xm_X3_spells : xCM y_X3_spells I_X3_spells 3 1 := ⟨⟨tw376, tw2⟩, tw74, tw377, ⟨xT3, 11, rfl⟩, ⟨by decide +kernel, by decide +kernel, by decide +kernel⟩⟩
noncomputable def fb_X3_spells_20 (k_20 : XM → Option Nat → Nat → Int32 → Option (Int32 × XM)) (h : XM) (l0 : Option Nat) (l1 : Nat) (l2 : Int32) : Option (Int32 × XM) := (vk l1 (f_J0_length h l1)).bind fun q1 => if l2 < q1.1 then ((vk l1 (f_J0_charAt q1.2 l1 l2)).bind fun q2 => (gR q2.2 3 l0 0).bind fun v3 => (gI q2.2 3 l0 6).bind fun v4 => (rI q2.2 v3 (v4 + l2)).bind fun v5 => if q2.1 = v5 then (bnd (l2 + (1 : Int32)) fun v6 => k_20 q2.2 l0 l1 v6) else (rz q2.2 ((0 : Int32)))) else (rz q1.2 ((1 : Int32)))
noncomputable def f_X3_spells_20 (n : Nat) : XM → Option Nat → Nat → Int32 → Option (Int32 × XM) := Nat.rec (motive := fun _ => XM → Option Nat → Nat → Int32 → Option (Int32 × XM)) (fun _ _ _ _ => none) (fun _ ih h l0 l1 l2 => fb_X3_spells_20 ih h l0 l1 l2) n
noncomputable def f_X3_spells (h : XM) (a0 : Option Nat) (a1 : Nat) : Option (Int32 × XM) := (vk a1 (f_J0_length h a1)).bind fun q7 => (gI q7.2 3 a0 5).bind fun v8 => (gI q7.2 3 a0 6).bind fun v9 => if q7.1 = (v8 - v9) then (f_X3_spells_20 FU q7.2 a0 a1 ((0 : Int32))) else (rz q7.2 ((0 : Int32)))
theorem bb_X3_spells_20 (X : XX) (k_20 : XM → Option Nat → Nat → Int32 → Option (Int32 × XM)) (hk_20 : ∀ h l0 l1 l2, SW X I_X3_spells ρi 20 [(0, tA l0), (1, tK l1), (2, tI l2)] [] h 0 0 (k_20 h l0 l1 l2)) (h : XM) (l0 : Option Nat) (l1 : Nat) (l2 : Int32) : SW X I_X3_spells ρi 20 [(0, tA l0), (1, tK l1), (2, tI l2)] [] h 0 0 (fb_X3_spells_20 k_20 h l0 l1 l2) := by
  unfold fb_X3_spells_20
  refine s_iload_n (i := 12) rfl 2 rfl ?_
  refine s_aloadK_n (i := 13) rfl 1 rfl ?_
  refine u_callKi [] l1 [tI l2] rfl (i := 14) rfl (c_J0_length h l1) xm_J0_length (tw292) rfl (Nat.le_of_ble_eq_true rfl) (xRm.of rfl) ⟨rfl, rfl⟩ (fun q1 => ?_)
  refine s_icmpge (i := 15) rfl (tgt := 55) (by decide) (fun z25 => ?_) (fun z25 => ?_)
  · refine s_aloadK_n (i := 16) rfl 1 rfl ?_
    refine s_iload_n (i := 17) rfl 2 rfl ?_
    refine u_callKi [tI l2] l1 [] rfl (i := 18) rfl (c_J0_charAt q1.2 l1 l2) xm_J0_charAt (tw302) rfl (Nat.le_of_ble_eq_true rfl) (xRm.of rfl) ⟨rfl, rfl⟩ (fun q2 => ?_)
    refine s_aload_n (i := 19) rfl 0 rfl ?_
    refine s_getR (i := 20) rfl xf_3_9.r rfl (fun v3 => ?_)
    refine s_aload_n (i := 21) rfl 0 rfl ?_
    refine s_getI (i := 22) rfl xf_3_58.r rfl (fun v4 => ?_)
    refine s_iload_n (i := 23) rfl 2 rfl ?_
    refine s_iadd (i := 24) rfl ?_
    refine s_iaload (i := 25) rfl (fun v5 => ?_)
    refine s_icmpeq (i := 26) rfl (tgt := 49) (by decide) (fun z44 => ?_) (fun z44 => ?_)
    · refine s_inc (i := 29) rfl 2 rfl (c9 := (1 : Int32)) (by decide) (Nat.le_of_ble_eq_true rfl) (fun v6 => ?_)
      refine s_ls (ls2 := [(2, tI v6), (0, tA l0), (1, tK l1)]) rfl ?_
      refine s_goto (i := 30) rfl (tgt := 20) (by decide) ?_
      exact s_sub [1, 2, 0] rfl (hk_20 q2.2 l0 l1 v6)
    · refine s_iconst (i := 27) rfl (v := (0 : Int32)) (by decide) ?_
      exact s_zret (i := 28) rfl rfl
  · refine s_iconst (i := 31) rfl (v := (1 : Int32)) (by decide) ?_
    exact s_zret (i := 32) rfl rfl
theorem b_X3_spells_20 (X : XX) : ∀ (n : Nat) (h : XM) (l0 : Option Nat) (l1 : Nat) (l2 : Int32), SW X I_X3_spells ρi 20 [(0, tA l0), (1, tK l1), (2, tI l2)] [] h 0 0 (f_X3_spells_20 n h l0 l1 l2) := by
  intro n
  induction n with
  | zero =>
    intro h l0 l1 l2
    exact s_none
  | succ n ih =>
    intro h l0 l1 l2
    exact bb_X3_spells_20 X (f_X3_spells_20 n) ih h l0 l1 l2
theorem c_X3_spells (h : XM) (a0 : Option Nat) (a1 : Nat) : MC I_X3_spells y_X3_spells [tA a0, tK a1] h ρi (f_X3_spells h a0 a1) := by
  refine MC_of ⟨by decide +kernel, rfl, rfl, Nat.le_of_ble_eq_true rfl⟩ dT_X3_spells (fun X => ?_)
  show SW X I_X3_spells ρi 0 [(0, tA a0), (1, tK a1)] [] h 0 0 (f_X3_spells h a0 a1)
  unfold f_X3_spells
  refine s_aloadK_n (i := 0) rfl 1 rfl ?_
  refine u_callKi [] a1 [] rfl (i := 1) rfl (c_J0_length h a1) xm_J0_length (tw292) rfl (Nat.le_of_ble_eq_true rfl) (xRm.of rfl) ⟨rfl, rfl⟩ (fun q7 => ?_)
  refine s_aload_n (i := 2) rfl 0 rfl ?_
  refine s_getI (i := 3) rfl xf_3_39.r rfl (fun v8 => ?_)
  refine s_aload_n (i := 4) rfl 0 rfl ?_
  refine s_getI (i := 5) rfl xf_3_58.r rfl (fun v9 => ?_)
  refine s_isub (i := 6) rfl ?_
  refine s_icmpeq (i := 7) rfl (tgt := 18) (by decide) (fun z13 => ?_) (fun z13 => ?_)
  · refine s_iconst (i := 10) rfl (v := (0 : Int32)) (by decide) ?_
    refine s_istore_n (i := 11) rfl (Nat.le_of_ble_eq_true rfl) (ls2 := [(2, tI ((0 : Int32))), (0, tA a0), (1, tK a1)]) rfl ?_
    exact s_sub [1, 2, 0] rfl (b_X3_spells_20 X FU q7.2 a0 a1 ((0 : Int32)))
  · refine s_iconst (i := 8) rfl (v := (0 : Int32)) (by decide) ?_
    exact s_zret (i := 9) rfl rfl
def y_X3_takeWord : MethodName := ⟨"OpensAtNine$Reader", "takeWord", "()V"⟩
def T_X3_takeWord : List (Nat × Instr × Nat × Nat) := [(0, .aload_n 0, 1, 1), (1, .getfield 39, 3, 4), (4, .aload_n 0, 1, 5), (5, .getfield 21, 3, 8), (8, .if_icmp .ge 31, 3, 11), (11, .aload_n 0, 1, 12), (12, .getfield 9, 3, 15), (15, .aload_n 0, 1, 16), (16, .getfield 39, 3, 19), (19, .iaload, 1, 20), (20, .invokestatic 110, 3, 23), (23, .ifCond .eq 16, 3, 26), (26, .aload_n 0, 1, 27), (27, .dup, 1, 28), (28, .getfield 39, 3, 31), (31, .iconst 1, 1, 32), (32, .iadd, 1, 33), (33, .putfield 39, 3, 36), (36, .goto (-36), 3, 39), (39, .aload_n 0, 1, 40), (40, .sipush 258, 3, 43), (43, .putfield 55, 3, 46), (46, .iconst 0, 1, 47), (47, .istore_n 1, 1, 48), (48, .iload_n 1, 1, 49), (49, .bipush 12, 2, 51), (51, .if_icmp .ge 25, 3, 54), (54, .aload_n 0, 1, 55), (55, .iload_n 1, 1, 56), (56, .invokestatic 125, 3, 59), (59, .invokevirtual 129, 3, 62), (62, .ifCond .eq 8, 3, 65), (65, .aload_n 0, 1, 66), (66, .iload_n 1, 1, 67), (67, .putfield 55, 3, 70), (70, .iinc 1 1, 3, 73), (73, .goto (-25), 3, 76), (76, .return_, 1, 77)]
def I_X3_takeWord : MI := (prog_5_method_17_code, 2, none, "OpensAtNine$Reader", "takeWord", T_X3_takeWord, 0, 0, 6, 167)
theorem dT_X3_takeWord : ∀ q ∈ T_X3_takeWord, decode prog_5_method_17_code q.1 = .ok (q.2.1, q.2.2.1) ∧ q.2.2.2 = q.1 + q.2.2.1 := by decide +kernel
theorem xm_X3_takeWord : xCM y_X3_takeWord I_X3_takeWord 3 0 := ⟨⟨tw357, tw1⟩, tw74, tw358, ⟨xT3, 11, rfl⟩, ⟨by decide +kernel, by decide +kernel, by decide +kernel⟩⟩
noncomputable def f_X3_takeWord_70 (k_48 : XM → Option Nat → Int32 → Option (XM)) (h : XM) (l0 : Option Nat) (l1 : Int32) : Option (XM) := bnd (l1 + (1 : Int32)) fun v1 => k_48 h l0 v1
noncomputable def fb_X3_takeWord_48 (k_48 : XM → Option Nat → Int32 → Option (XM)) (h : XM) (l0 : Option Nat) (l1 : Int32) : Option (XM) := if l1 < ((12 : Int32)) then ((f_X3_wordAt h l1).bind fun q2 => (vc q2.2 3 l0 (f_X3_spells q2.2 l0 q2.1)).bind fun q3 => if q3.1 = 0 then (f_X3_takeWord_70 k_48 q3.2 l0 l1) else ((pI q3.2 3 l0 7 l1).bind fun h4 => f_X3_takeWord_70 k_48 h4 l0 l1)) else (some h)
noncomputable def f_X3_takeWord_48 (n : Nat) : XM → Option Nat → Int32 → Option (XM) := Nat.rec (motive := fun _ => XM → Option Nat → Int32 → Option (XM)) (fun _ _ _ => none) (fun _ ih h l0 l1 => fb_X3_takeWord_48 ih h l0 l1) n
noncomputable def f_X3_takeWord_39 (h : XM) (l0 : Option Nat) : Option (XM) := (pI h 3 l0 7 ((258 : Int32))).bind fun h5 => f_X3_takeWord_48 FU h5 l0 ((0 : Int32))
noncomputable def fb_X3_takeWord_0 (k_0 : XM → Option Nat → Option (XM)) (h : XM) (l0 : Option Nat) : Option (XM) := (gI h 3 l0 5).bind fun v6 => (gI h 3 l0 3).bind fun v7 => if v6 < v7 then ((gR h 3 l0 0).bind fun v8 => (gI h 3 l0 5).bind fun v9 => (rI h v8 v9).bind fun v10 => (f_X3_isLetter h v10).bind fun q11 => if q11.1 = 0 then (f_X3_takeWord_39 q11.2 l0) else ((gI q11.2 3 l0 5).bind fun v12 => (pI q11.2 3 l0 5 (v12 + ((1 : Int32)))).bind fun h13 => k_0 h13 l0)) else (f_X3_takeWord_39 h l0)
noncomputable def f_X3_takeWord_0 (n : Nat) : XM → Option Nat → Option (XM) := Nat.rec (motive := fun _ => XM → Option Nat → Option (XM)) (fun _ _ => none) (fun _ ih h l0 => fb_X3_takeWord_0 ih h l0) n
noncomputable def f_X3_takeWord (h : XM) (a0 : Option Nat) : Option (XM) := f_X3_takeWord_0 FU h a0
theorem b_X3_takeWord_70 (X : XX) (k_48 : XM → Option Nat → Int32 → Option (XM)) (hk_48 : ∀ h l0 l1, SW X I_X3_takeWord ρv 48 [(0, tA l0), (1, tI l1)] [] h 0 0 (k_48 h l0 l1)) (h : XM) (l0 : Option Nat) (l1 : Int32) : SW X I_X3_takeWord ρv 70 [(0, tA l0), (1, tI l1)] [] h 0 0 (f_X3_takeWord_70 k_48 h l0 l1) := by
  unfold f_X3_takeWord_70
  refine s_inc (i := 35) rfl 1 rfl (c9 := (1 : Int32)) (by decide) (Nat.le_of_ble_eq_true rfl) (fun v1 => ?_)
  refine s_ls (ls2 := [(1, tI v1), (0, tA l0)]) rfl ?_
  refine s_goto (i := 36) rfl (tgt := 48) (by decide) ?_
  exact s_sub [1, 0] rfl (hk_48 h l0 v1)
theorem bb_X3_takeWord_48 (X : XX) (k_48 : XM → Option Nat → Int32 → Option (XM)) (hk_48 : ∀ h l0 l1, SW X I_X3_takeWord ρv 48 [(0, tA l0), (1, tI l1)] [] h 0 0 (k_48 h l0 l1)) (h : XM) (l0 : Option Nat) (l1 : Int32) : SW X I_X3_takeWord ρv 48 [(0, tA l0), (1, tI l1)] [] h 0 0 (fb_X3_takeWord_48 k_48 h l0 l1) := by
  unfold fb_X3_takeWord_48
  refine s_iload_n (i := 24) rfl 1 rfl ?_
  refine s_bipush (i := 25) rfl (v := (12 : Int32)) (by decide) ?_
  refine s_icmpge (i := 26) rfl (tgt := 76) (by decide) (fun z51 => ?_) (fun z51 => ?_)
  · refine s_aload_n (i := 27) rfl 0 rfl ?_
    refine s_iload_n (i := 28) rfl 1 rfl ?_
    refine u_callSk [tI l1] [tA l0] rfl (i := 29) rfl (c_X3_wordAt h l1) xm_X3_wordAt (tw359) rfl (Nat.le_of_ble_eq_true rfl) (xRm.of rfl) ⟨rfl, rfl⟩ (fun q2 => ?_)
    refine u_callVi (kk := 3) [tK q2.1] l0 [] rfl (i := 30) rfl (c_X3_spells q2.2 l0 q2.1) xm_X3_spells (tw374) rfl (Nat.le_of_ble_eq_true rfl) (xRm.of rfl) ⟨rfl, rfl⟩ (fun q3 => ?_)
    refine s_ifeq (i := 31) rfl (tgt := 70) (by decide) (fun z62 => ?_) (fun z62 => ?_)
    · exact s_sub [0, 1] rfl (b_X3_takeWord_70 X k_48 hk_48 q3.2 l0 l1)
    · refine s_aload_n (i := 32) rfl 0 rfl ?_
      refine s_iload_n (i := 33) rfl 1 rfl ?_
      refine s_putI (i := 34) rfl xf_3_55 (fun q => by cases q) rfl rfl (fun h4 => ?_)
      exact s_sub [0, 1] rfl (b_X3_takeWord_70 X k_48 hk_48 h4 l0 l1)
  · exact s_vret (i := 37) rfl rfl
theorem b_X3_takeWord_48 (X : XX) : ∀ (n : Nat) (h : XM) (l0 : Option Nat) (l1 : Int32), SW X I_X3_takeWord ρv 48 [(0, tA l0), (1, tI l1)] [] h 0 0 (f_X3_takeWord_48 n h l0 l1) := by
  intro n
  induction n with
  | zero =>
    intro h l0 l1
    exact s_none
  | succ n ih =>
    intro h l0 l1
    exact bb_X3_takeWord_48 X (f_X3_takeWord_48 n) ih h l0 l1
theorem b_X3_takeWord_39 (X : XX) (h : XM) (l0 : Option Nat) : SW X I_X3_takeWord ρv 39 [(0, tA l0)] [] h 0 0 (f_X3_takeWord_39 h l0) := by
  unfold f_X3_takeWord_39
  refine s_aload_n (i := 19) rfl 0 rfl ?_
  refine s_sipush (i := 20) rfl (v := (258 : Int32)) (by decide) ?_
  refine s_putI (i := 21) rfl xf_3_55 (fun q => by cases q) rfl rfl (fun h5 => ?_)
  refine s_iconst (i := 22) rfl (v := (0 : Int32)) (by decide) ?_
  refine s_istore_n (i := 23) rfl (Nat.le_of_ble_eq_true rfl) (ls2 := [(1, tI ((0 : Int32))), (0, tA l0)]) rfl ?_
  exact s_sub [1, 0] rfl (b_X3_takeWord_48 X FU h5 l0 ((0 : Int32)))
theorem bb_X3_takeWord_0 (X : XX) (k_0 : XM → Option Nat → Option (XM)) (hk_0 : ∀ h l0, SW X I_X3_takeWord ρv 0 [(0, tA l0)] [] h 0 0 (k_0 h l0)) (h : XM) (l0 : Option Nat) : SW X I_X3_takeWord ρv 0 [(0, tA l0)] [] h 0 0 (fb_X3_takeWord_0 k_0 h l0) := by
  unfold fb_X3_takeWord_0
  refine s_aload_n (i := 0) rfl 0 rfl ?_
  refine s_getI (i := 1) rfl xf_3_39.r rfl (fun v6 => ?_)
  refine s_aload_n (i := 2) rfl 0 rfl ?_
  refine s_getI (i := 3) rfl xf_3_21.r rfl (fun v7 => ?_)
  refine s_icmpge (i := 4) rfl (tgt := 39) (by decide) (fun z8 => ?_) (fun z8 => ?_)
  · refine s_aload_n (i := 5) rfl 0 rfl ?_
    refine s_getR (i := 6) rfl xf_3_9.r rfl (fun v8 => ?_)
    refine s_aload_n (i := 7) rfl 0 rfl ?_
    refine s_getI (i := 8) rfl xf_3_39.r rfl (fun v9 => ?_)
    refine s_iaload (i := 9) rfl (fun v10 => ?_)
    refine u_callSi [tI v10] [] rfl (i := 10) rfl (c_X3_isLetter h v10) xm_X3_isLetter (tw352) rfl (Nat.le_of_ble_eq_true rfl) (xRm.of rfl) ⟨rfl, rfl⟩ (fun q11 => ?_)
    refine s_ifeq (i := 11) rfl (tgt := 39) (by decide) (fun z23 => ?_) (fun z23 => ?_)
    · exact s_sub [0] rfl (b_X3_takeWord_39 X q11.2 l0)
    · refine s_aload_n (i := 12) rfl 0 rfl ?_
      refine s_dup (i := 13) rfl rfl ?_
      refine s_getI (i := 14) rfl xf_3_39.r rfl (fun v12 => ?_)
      refine s_iconst (i := 15) rfl (v := (1 : Int32)) (by decide) ?_
      refine s_iadd (i := 16) rfl ?_
      refine s_putI (i := 17) rfl xf_3_39 (fun q => by cases q) rfl rfl (fun h13 => ?_)
      refine s_goto (i := 18) rfl (tgt := 0) (by decide) ?_
      exact s_sub [0] rfl (hk_0 h13 l0)
  · exact s_sub [0] rfl (b_X3_takeWord_39 X h l0)
theorem b_X3_takeWord_0 (X : XX) : ∀ (n : Nat) (h : XM) (l0 : Option Nat), SW X I_X3_takeWord ρv 0 [(0, tA l0)] [] h 0 0 (f_X3_takeWord_0 n h l0) := by
  intro n
  induction n with
  | zero =>
    intro h l0
    exact s_none
  | succ n ih =>
    intro h l0
    exact bb_X3_takeWord_0 X (f_X3_takeWord_0 n) ih h l0
theorem c_X3_takeWord (h : XM) (a0 : Option Nat) : MC I_X3_takeWord y_X3_takeWord [tA a0] h ρv (f_X3_takeWord h a0) := by
  refine MC_of ⟨by decide +kernel, rfl, rfl, Nat.le_of_ble_eq_true rfl⟩ dT_X3_takeWord (fun X => ?_)
  show SW X I_X3_takeWord ρv 0 [(0, tA a0)] [] h 0 0 (f_X3_takeWord h a0)
  unfold f_X3_takeWord
  exact s_sub [0] rfl (b_X3_takeWord_0 X FU h a0)
def y_X3_advance : MethodName := ⟨"OpensAtNine$Reader", "advance", "()V"⟩
def T_X3_advance : List (Nat × Instr × Nat × Nat) := [(0, .aload_n 0, 1, 1), (1, .getfield 39, 3, 4), (4, .aload_n 0, 1, 5), (5, .getfield 21, 3, 8), (8, .if_icmp .ge 44, 3, 11), (11, .aload_n 0, 1, 12), (12, .getfield 9, 3, 15), (15, .aload_n 0, 1, 16), (16, .getfield 39, 3, 19), (19, .iaload, 1, 20), (20, .bipush 32, 2, 22), (22, .if_icmp .eq 17, 3, 25), (25, .aload_n 0, 1, 26), (26, .getfield 9, 3, 29), (29, .aload_n 0, 1, 30), (30, .getfield 39, 3, 33), (33, .iaload, 1, 34), (34, .bipush 10, 2, 36), (36, .if_icmp .ne 16, 3, 39), (39, .aload_n 0, 1, 40), (40, .dup, 1, 41), (41, .getfield 39, 3, 44), (44, .iconst 1, 1, 45), (45, .iadd, 1, 46), (46, .putfield 39, 3, 49), (49, .goto (-49), 3, 52), (52, .aload_n 0, 1, 53), (53, .aload_n 0, 1, 54), (54, .getfield 39, 3, 57), (57, .putfield 58, 3, 60), (60, .aload_n 0, 1, 61), (61, .getfield 39, 3, 64), (64, .aload_n 0, 1, 65), (65, .getfield 21, 3, 68), (68, .if_icmp .lt 13, 3, 71), (71, .aload_n 0, 1, 72), (72, .sipush 257, 3, 75), (75, .putfield 55, 3, 78), (78, .goto 60, 3, 81), (81, .aload_n 0, 1, 82), (82, .getfield 9, 3, 85), (85, .aload_n 0, 1, 86), (86, .getfield 39, 3, 89), (89, .iaload, 1, 90), (90, .invokestatic 110, 3, 93), (93, .ifCond .eq 10, 3, 96), (96, .aload_n 0, 1, 97), (97, .invokevirtual 113, 3, 100), (100, .goto 38, 3, 103), (103, .aload_n 0, 1, 104), (104, .getfield 9, 3, 107), (107, .aload_n 0, 1, 108), (108, .getfield 39, 3, 111), (111, .iaload, 1, 112), (112, .invokestatic 116, 3, 115), (115, .ifCond .eq 10, 3, 118), (118, .aload_n 0, 1, 119), (119, .invokevirtual 119, 3, 122), (122, .goto 16, 3, 125), (125, .aload_n 0, 1, 126), (126, .aload_n 0, 1, 127), (127, .getfield 9, 3, 130), (130, .aload_n 0, 1, 131), (131, .getfield 39, 3, 134), (134, .iaload, 1, 135), (135, .invokevirtual 122, 3, 138), (138, .return_, 1, 139)]
def I_X3_advance : MI := (prog_5_method_16_code, 1, none, "OpensAtNine$Reader", "advance", T_X3_advance, 0, 0, 7, 188)
theorem dT_X3_advance : ∀ q ∈ T_X3_advance, decode prog_5_method_16_code q.1 = .ok (q.2.1, q.2.2.1) ∧ q.2.2.2 = q.1 + q.2.2.1 := by decide +kernel
theorem xm_X3_advance : xCM y_X3_advance I_X3_advance 3 0 := ⟨⟨tw350, tw0⟩, tw74, tw351, ⟨xT3, 11, rfl⟩, ⟨by decide +kernel, by decide +kernel, by decide +kernel⟩⟩
noncomputable def f_X3_advance_39 (k_0 : XM → Option Nat → Option (XM)) (h : XM) (l0 : Option Nat) : Option (XM) := (gI h 3 l0 5).bind fun v1 => (pI h 3 l0 5 (v1 + ((1 : Int32)))).bind fun h2 => k_0 h2 l0
noncomputable def f_X3_advance_138 (h : XM) : Option (XM) := some h
noncomputable def f_X3_advance_52 (h : XM) (l0 : Option Nat) : Option (XM) := (gI h 3 l0 5).bind fun v3 => (pI h 3 l0 6 v3).bind fun h4 => (gI h4 3 l0 5).bind fun v5 => (gI h4 3 l0 3).bind fun v6 => if v5 < v6 then ((gR h4 3 l0 0).bind fun v7 => (gI h4 3 l0 5).bind fun v8 => (rI h4 v7 v8).bind fun v9 => (f_X3_isLetter h4 v9).bind fun q10 => if q10.1 = 0 then ((gR q10.2 3 l0 0).bind fun v11 => (gI q10.2 3 l0 5).bind fun v12 => (rI q10.2 v11 v12).bind fun v13 => (f_X3_isDigit q10.2 v13).bind fun q14 => if q14.1 = 0 then ((gR q14.2 3 l0 0).bind fun v15 => (gI q14.2 3 l0 5).bind fun v16 => (rI q14.2 v15 v16).bind fun v17 => (vc q14.2 3 l0 (f_X3_takeSign q14.2 l0 v17)).bind fun q18 => f_X3_advance_138 q18) else ((vc q14.2 3 l0 (f_X3_takeNumber q14.2 l0)).bind fun q19 => f_X3_advance_138 q19)) else ((vc q10.2 3 l0 (f_X3_takeWord q10.2 l0)).bind fun q20 => f_X3_advance_138 q20)) else ((pI h4 3 l0 7 ((257 : Int32))).bind fun h21 => f_X3_advance_138 h21)
noncomputable def fb_X3_advance_0 (k_0 : XM → Option Nat → Option (XM)) (h : XM) (l0 : Option Nat) : Option (XM) := (gI h 3 l0 5).bind fun v22 => (gI h 3 l0 3).bind fun v23 => if v22 < v23 then ((gR h 3 l0 0).bind fun v24 => (gI h 3 l0 5).bind fun v25 => (rI h v24 v25).bind fun v26 => if v26 = ((32 : Int32)) then (f_X3_advance_39 k_0 h l0) else ((gR h 3 l0 0).bind fun v27 => (gI h 3 l0 5).bind fun v28 => (rI h v27 v28).bind fun v29 => if v29 = ((10 : Int32)) then (f_X3_advance_39 k_0 h l0) else (f_X3_advance_52 h l0))) else (f_X3_advance_52 h l0)
noncomputable def f_X3_advance_0 (n : Nat) : XM → Option Nat → Option (XM) := Nat.rec (motive := fun _ => XM → Option Nat → Option (XM)) (fun _ _ => none) (fun _ ih h l0 => fb_X3_advance_0 ih h l0) n
noncomputable def f_X3_advance (h : XM) (a0 : Option Nat) : Option (XM) := f_X3_advance_0 FU h a0
theorem b_X3_advance_39 (X : XX) (k_0 : XM → Option Nat → Option (XM)) (hk_0 : ∀ h l0, SW X I_X3_advance ρv 0 [(0, tA l0)] [] h 0 0 (k_0 h l0)) (h : XM) (l0 : Option Nat) : SW X I_X3_advance ρv 39 [(0, tA l0)] [] h 0 0 (f_X3_advance_39 k_0 h l0) := by
  unfold f_X3_advance_39
  refine s_aload_n (i := 19) rfl 0 rfl ?_
  refine s_dup (i := 20) rfl rfl ?_
  refine s_getI (i := 21) rfl xf_3_39.r rfl (fun v1 => ?_)
  refine s_iconst (i := 22) rfl (v := (1 : Int32)) (by decide) ?_
  refine s_iadd (i := 23) rfl ?_
  refine s_putI (i := 24) rfl xf_3_39 (fun q => by cases q) rfl rfl (fun h2 => ?_)
  refine s_goto (i := 25) rfl (tgt := 0) (by decide) ?_
  exact s_sub [0] rfl (hk_0 h2 l0)
theorem b_X3_advance_138 (X : XX) (h : XM) : SW X I_X3_advance ρv 138 [] [] h 0 0 (f_X3_advance_138 h) := by
  unfold f_X3_advance_138
  exact s_vret (i := 66) rfl rfl
theorem b_X3_advance_52 (X : XX) (h : XM) (l0 : Option Nat) : SW X I_X3_advance ρv 52 [(0, tA l0)] [] h 0 0 (f_X3_advance_52 h l0) := by
  unfold f_X3_advance_52
  refine s_aload_n (i := 26) rfl 0 rfl ?_
  refine s_aload_n (i := 27) rfl 0 rfl ?_
  refine s_getI (i := 28) rfl xf_3_39.r rfl (fun v3 => ?_)
  refine s_putI (i := 29) rfl xf_3_58 (fun q => by cases q) rfl rfl (fun h4 => ?_)
  refine s_aload_n (i := 30) rfl 0 rfl ?_
  refine s_getI (i := 31) rfl xf_3_39.r rfl (fun v5 => ?_)
  refine s_aload_n (i := 32) rfl 0 rfl ?_
  refine s_getI (i := 33) rfl xf_3_21.r rfl (fun v6 => ?_)
  refine s_icmplt (i := 34) rfl (tgt := 81) (by decide) (fun z68 => ?_) (fun z68 => ?_)
  · refine s_aload_n (i := 39) rfl 0 rfl ?_
    refine s_getR (i := 40) rfl xf_3_9.r rfl (fun v7 => ?_)
    refine s_aload_n (i := 41) rfl 0 rfl ?_
    refine s_getI (i := 42) rfl xf_3_39.r rfl (fun v8 => ?_)
    refine s_iaload (i := 43) rfl (fun v9 => ?_)
    refine u_callSi [tI v9] [] rfl (i := 44) rfl (c_X3_isLetter h4 v9) xm_X3_isLetter (tw352) rfl (Nat.le_of_ble_eq_true rfl) (xRm.of rfl) ⟨rfl, rfl⟩ (fun q10 => ?_)
    refine s_ifeq (i := 45) rfl (tgt := 103) (by decide) (fun z93 => ?_) (fun z93 => ?_)
    · refine s_aload_n (i := 49) rfl 0 rfl ?_
      refine s_getR (i := 50) rfl xf_3_9.r rfl (fun v11 => ?_)
      refine s_aload_n (i := 51) rfl 0 rfl ?_
      refine s_getI (i := 52) rfl xf_3_39.r rfl (fun v12 => ?_)
      refine s_iaload (i := 53) rfl (fun v13 => ?_)
      refine u_callSi [tI v13] [] rfl (i := 54) rfl (c_X3_isDigit q10.2 v13) xm_X3_isDigit (tw378) rfl (Nat.le_of_ble_eq_true rfl) (xRm.of rfl) ⟨rfl, rfl⟩ (fun q14 => ?_)
      refine s_ifeq (i := 55) rfl (tgt := 125) (by decide) (fun z115 => ?_) (fun z115 => ?_)
      · refine s_aload_n (i := 59) rfl 0 rfl ?_
        refine s_aload_n (i := 60) rfl 0 rfl ?_
        refine s_getR (i := 61) rfl xf_3_9.r rfl (fun v15 => ?_)
        refine s_aload_n (i := 62) rfl 0 rfl ?_
        refine s_getI (i := 63) rfl xf_3_39.r rfl (fun v16 => ?_)
        refine s_iaload (i := 64) rfl (fun v17 => ?_)
        refine u_callVv (kk := 3) [tI v17] l0 [] rfl (i := 65) rfl (c_X3_takeSign q14.2 l0 v17) xm_X3_takeSign (tw385) rfl (Nat.le_of_ble_eq_true rfl) (xRm.of rfl) ⟨rfl, rfl⟩ (fun q18 => ?_)
        exact s_sub [] rfl (b_X3_advance_138 X q18)
      · refine s_aload_n (i := 56) rfl 0 rfl ?_
        refine u_callVv (kk := 3) [] l0 [] rfl (i := 57) rfl (c_X3_takeNumber q14.2 l0) xm_X3_takeNumber (tw381) rfl (Nat.le_of_ble_eq_true rfl) (xRm.of rfl) ⟨rfl, rfl⟩ (fun q19 => ?_)
        refine s_goto (i := 58) rfl (tgt := 138) (by decide) ?_
        exact s_sub [] rfl (b_X3_advance_138 X q19)
    · refine s_aload_n (i := 46) rfl 0 rfl ?_
      refine u_callVv (kk := 3) [] l0 [] rfl (i := 47) rfl (c_X3_takeWord q10.2 l0) xm_X3_takeWord (tw355) rfl (Nat.le_of_ble_eq_true rfl) (xRm.of rfl) ⟨rfl, rfl⟩ (fun q20 => ?_)
      refine s_goto (i := 48) rfl (tgt := 138) (by decide) ?_
      exact s_sub [] rfl (b_X3_advance_138 X q20)
  · refine s_aload_n (i := 35) rfl 0 rfl ?_
    refine s_sipush (i := 36) rfl (v := (257 : Int32)) (by decide) ?_
    refine s_putI (i := 37) rfl xf_3_55 (fun q => by cases q) rfl rfl (fun h21 => ?_)
    refine s_goto (i := 38) rfl (tgt := 138) (by decide) ?_
    exact s_sub [] rfl (b_X3_advance_138 X h21)
theorem bb_X3_advance_0 (X : XX) (k_0 : XM → Option Nat → Option (XM)) (hk_0 : ∀ h l0, SW X I_X3_advance ρv 0 [(0, tA l0)] [] h 0 0 (k_0 h l0)) (h : XM) (l0 : Option Nat) : SW X I_X3_advance ρv 0 [(0, tA l0)] [] h 0 0 (fb_X3_advance_0 k_0 h l0) := by
  unfold fb_X3_advance_0
  refine s_aload_n (i := 0) rfl 0 rfl ?_
  refine s_getI (i := 1) rfl xf_3_39.r rfl (fun v22 => ?_)
  refine s_aload_n (i := 2) rfl 0 rfl ?_
  refine s_getI (i := 3) rfl xf_3_21.r rfl (fun v23 => ?_)
  refine s_icmpge (i := 4) rfl (tgt := 52) (by decide) (fun z8 => ?_) (fun z8 => ?_)
  · refine s_aload_n (i := 5) rfl 0 rfl ?_
    refine s_getR (i := 6) rfl xf_3_9.r rfl (fun v24 => ?_)
    refine s_aload_n (i := 7) rfl 0 rfl ?_
    refine s_getI (i := 8) rfl xf_3_39.r rfl (fun v25 => ?_)
    refine s_iaload (i := 9) rfl (fun v26 => ?_)
    refine s_bipush (i := 10) rfl (v := (32 : Int32)) (by decide) ?_
    refine s_icmpeq (i := 11) rfl (tgt := 39) (by decide) (fun z22 => ?_) (fun z22 => ?_)
    · exact s_sub [0] rfl (b_X3_advance_39 X k_0 hk_0 h l0)
    · refine s_aload_n (i := 12) rfl 0 rfl ?_
      refine s_getR (i := 13) rfl xf_3_9.r rfl (fun v27 => ?_)
      refine s_aload_n (i := 14) rfl 0 rfl ?_
      refine s_getI (i := 15) rfl xf_3_39.r rfl (fun v28 => ?_)
      refine s_iaload (i := 16) rfl (fun v29 => ?_)
      refine s_bipush (i := 17) rfl (v := (10 : Int32)) (by decide) ?_
      refine s_icmpne (i := 18) rfl (tgt := 52) (by decide) (fun z36 => ?_) (fun z36 => ?_)
      · exact s_sub [0] rfl (b_X3_advance_39 X k_0 hk_0 h l0)
      · exact s_sub [0] rfl (b_X3_advance_52 X h l0)
  · exact s_sub [0] rfl (b_X3_advance_52 X h l0)
theorem b_X3_advance_0 (X : XX) : ∀ (n : Nat) (h : XM) (l0 : Option Nat), SW X I_X3_advance ρv 0 [(0, tA l0)] [] h 0 0 (f_X3_advance_0 n h l0) := by
  intro n
  induction n with
  | zero =>
    intro h l0
    exact s_none
  | succ n ih =>
    intro h l0
    exact bb_X3_advance_0 X (f_X3_advance_0 n) ih h l0
theorem c_X3_advance (h : XM) (a0 : Option Nat) : MC I_X3_advance y_X3_advance [tA a0] h ρv (f_X3_advance h a0) := by
  refine MC_of ⟨by decide +kernel, rfl, rfl, Nat.le_of_ble_eq_true rfl⟩ dT_X3_advance (fun X => ?_)
  show SW X I_X3_advance ρv 0 [(0, tA a0)] [] h 0 0 (f_X3_advance h a0)
  unfold f_X3_advance
  exact s_sub [0] rfl (b_X3_advance_0 X FU h a0)
def y_X3_pass : MethodName := ⟨"OpensAtNine$Reader", "pass", "(I)Z"⟩
def T_X3_pass : List (Nat × Instr × Nat × Nat) := [(0, .aload_n 0, 1, 1), (1, .getfield 55, 3, 4), (4, .iload_n 1, 1, 5), (5, .if_icmp .eq 5, 3, 8), (8, .iconst 0, 1, 9), (9, .ireturn, 1, 10), (10, .aload_n 0, 1, 11), (11, .invokevirtual 48, 3, 14), (14, .iconst 1, 1, 15), (15, .ireturn, 1, 16)]
def I_X3_pass : MI := (prog_5_method_14_code, 2, (some .boolean), "OpensAtNine$Reader", "pass", T_X3_pass, 0, 0, 8, 208)
theorem dT_X3_pass : ∀ q ∈ T_X3_pass, decode prog_5_method_14_code q.1 = .ok (q.2.1, q.2.2.1) ∧ q.2.2.2 = q.1 + q.2.2.1 := by decide +kernel
theorem xm_X3_pass : xCM y_X3_pass I_X3_pass 3 1 := ⟨⟨tw395, tw6⟩, tw74, tw396, ⟨xT3, 11, rfl⟩, ⟨by decide +kernel, by decide +kernel, by decide +kernel⟩⟩
noncomputable def f_X3_pass (h : XM) (a0 : Option Nat) (a1 : Int32) : Option (Int32 × XM) := (gI h 3 a0 7).bind fun v1 => if v1 = a1 then ((vc h 3 a0 (f_X3_advance h a0)).bind fun q2 => rz q2 ((1 : Int32))) else (rz h ((0 : Int32)))
theorem c_X3_pass (h : XM) (a0 : Option Nat) (a1 : Int32) : MC I_X3_pass y_X3_pass [tA a0, tI a1] h ρi (f_X3_pass h a0 a1) := by
  refine MC_of ⟨by decide +kernel, rfl, rfl, Nat.le_of_ble_eq_true rfl⟩ dT_X3_pass (fun X => ?_)
  show SW X I_X3_pass ρi 0 [(0, tA a0), (1, tI a1)] [] h 0 0 (f_X3_pass h a0 a1)
  unfold f_X3_pass
  refine s_aload_n (i := 0) rfl 0 rfl ?_
  refine s_getI (i := 1) rfl xf_3_55.r rfl (fun v1 => ?_)
  refine s_iload_n (i := 2) rfl 1 rfl ?_
  refine s_icmpeq (i := 3) rfl (tgt := 10) (by decide) (fun z5 => ?_) (fun z5 => ?_)
  · refine s_aload_n (i := 6) rfl 0 rfl ?_
    refine u_callVv (kk := 3) [] a0 [] rfl (i := 7) rfl (c_X3_advance h a0) xm_X3_advance (tw348) rfl (Nat.le_of_ble_eq_true rfl) (xRm.of rfl) ⟨rfl, rfl⟩ (fun q2 => ?_)
    refine s_iconst (i := 8) rfl (v := (1 : Int32)) (by decide) ?_
    exact s_zret (i := 9) rfl rfl
  · refine s_iconst (i := 4) rfl (v := (0 : Int32)) (by decide) ?_
    exact s_zret (i := 5) rfl rfl
def y_X3_enter : MethodName := ⟨"OpensAtNine$Reader", "enter", "()Z"⟩
def T_X3_enter : List (Nat × Instr × Nat × Nat) := [(0, .aload_n 0, 1, 1), (1, .getfield 42, 3, 4), (4, .iconst 5, 1, 5), (5, .if_icmp .lt 5, 3, 8), (8, .iconst 0, 1, 9), (9, .ireturn, 1, 10), (10, .aload_n 0, 1, 11), (11, .dup, 1, 12), (12, .getfield 42, 3, 15), (15, .iconst 1, 1, 16), (16, .iadd, 1, 17), (17, .putfield 42, 3, 20), (20, .aload_n 0, 1, 21), (21, .invokevirtual 48, 3, 24), (24, .iconst 1, 1, 25), (25, .ireturn, 1, 26)]
def I_X3_enter : MI := (prog_5_method_13_code, 1, (some .boolean), "OpensAtNine$Reader", "enter", T_X3_enter, 0, 0, 8, 208)
theorem dT_X3_enter : ∀ q ∈ T_X3_enter, decode prog_5_method_13_code q.1 = .ok (q.2.1, q.2.2.1) ∧ q.2.2.2 = q.1 + q.2.2.1 := by decide +kernel
theorem xm_X3_enter : xCM y_X3_enter I_X3_enter 3 0 := ⟨⟨tw431, tw15⟩, tw74, tw432, ⟨xT3, 11, rfl⟩, ⟨by decide +kernel, by decide +kernel, by decide +kernel⟩⟩
noncomputable def f_X3_enter (h : XM) (a0 : Option Nat) : Option (Int32 × XM) := (gI h 3 a0 9).bind fun v1 => if v1 < ((5 : Int32)) then ((gI h 3 a0 9).bind fun v2 => (pI h 3 a0 9 (v2 + ((1 : Int32)))).bind fun h3 => (vc h3 3 a0 (f_X3_advance h3 a0)).bind fun q4 => rz q4 ((1 : Int32))) else (rz h ((0 : Int32)))
theorem c_X3_enter (h : XM) (a0 : Option Nat) : MC I_X3_enter y_X3_enter [tA a0] h ρi (f_X3_enter h a0) := by
  refine MC_of ⟨by decide +kernel, rfl, rfl, Nat.le_of_ble_eq_true rfl⟩ dT_X3_enter (fun X => ?_)
  show SW X I_X3_enter ρi 0 [(0, tA a0)] [] h 0 0 (f_X3_enter h a0)
  unfold f_X3_enter
  refine s_aload_n (i := 0) rfl 0 rfl ?_
  refine s_getI (i := 1) rfl xf_3_42.r rfl (fun v1 => ?_)
  refine s_iconst (i := 2) rfl (v := (5 : Int32)) (by decide) ?_
  refine s_icmplt (i := 3) rfl (tgt := 10) (by decide) (fun z5 => ?_) (fun z5 => ?_)
  · refine s_aload_n (i := 6) rfl 0 rfl ?_
    refine s_dup (i := 7) rfl rfl ?_
    refine s_getI (i := 8) rfl xf_3_42.r rfl (fun v2 => ?_)
    refine s_iconst (i := 9) rfl (v := (1 : Int32)) (by decide) ?_
    refine s_iadd (i := 10) rfl ?_
    refine s_putI (i := 11) rfl xf_3_42 (fun q => by cases q) rfl rfl (fun h3 => ?_)
    refine s_aload_n (i := 12) rfl 0 rfl ?_
    refine u_callVv (kk := 3) [] a0 [] rfl (i := 13) rfl (c_X3_advance h3 a0) xm_X3_advance (tw348) rfl (Nat.le_of_ble_eq_true rfl) (xRm.of rfl) ⟨rfl, rfl⟩ (fun q4 => ?_)
    refine s_iconst (i := 14) rfl (v := (1 : Int32)) (by decide) ?_
    exact s_zret (i := 15) rfl rfl
  · refine s_iconst (i := 4) rfl (v := (0 : Int32)) (by decide) ?_
    exact s_zret (i := 5) rfl rfl
def y_X3_addStep : MethodName := ⟨"OpensAtNine$Reader", "addStep", "(I)V"⟩
def T_X3_addStep : List (Nat × Instr × Nat × Nat) := [(0, .aload_n 0, 1, 1), (1, .getfield 45, 3, 4), (4, .aload_n 0, 1, 5), (5, .getfield 15, 3, 8), (8, .arraylength, 1, 9), (9, .if_icmp .lt 4, 3, 12), (12, .return_, 1, 13), (13, .aload_n 0, 1, 14), (14, .getfield 15, 3, 17), (17, .aload_n 0, 1, 18), (18, .getfield 45, 3, 21), (21, .iload_n 1, 1, 22), (22, .iastore, 1, 23), (23, .aload_n 0, 1, 24), (24, .dup, 1, 25), (25, .getfield 45, 3, 28), (28, .iconst 1, 1, 29), (29, .iadd, 1, 30), (30, .putfield 45, 3, 33), (33, .return_, 1, 34)]
def I_X3_addStep : MI := (prog_5_method_15_code, 2, none, "OpensAtNine$Reader", "addStep", T_X3_addStep, 0, 0, 1, 60)
theorem dT_X3_addStep : ∀ q ∈ T_X3_addStep, decode prog_5_method_15_code q.1 = .ok (q.2.1, q.2.2.1) ∧ q.2.2.2 = q.1 + q.2.2.1 := by decide +kernel
theorem xm_X3_addStep : xCM y_X3_addStep I_X3_addStep 3 1 := ⟨⟨tw427, tw14⟩, tw74, tw428, ⟨xT3, 11, rfl⟩, ⟨by decide +kernel, by decide +kernel, by decide +kernel⟩⟩
noncomputable def f_X3_addStep (h : XM) (a0 : Option Nat) (a1 : Int32) : Option (XM) := (gI h 3 a0 10).bind fun v1 => (gR h 3 a0 1).bind fun v2 => (ln h v2).bind fun v3 => if v1 < v3 then ((gR h 3 a0 1).bind fun v4 => (gI h 3 a0 10).bind fun v5 => (sI h v4 v5 a1).bind fun h6 => (gI h6 3 a0 10).bind fun v7 => (pI h6 3 a0 10 (v7 + ((1 : Int32)))).bind fun h8 => some h8) else (some h)
theorem c_X3_addStep (h : XM) (a0 : Option Nat) (a1 : Int32) : MC I_X3_addStep y_X3_addStep [tA a0, tI a1] h ρv (f_X3_addStep h a0 a1) := by
  refine MC_of ⟨by decide +kernel, rfl, rfl, Nat.le_of_ble_eq_true rfl⟩ dT_X3_addStep (fun X => ?_)
  show SW X I_X3_addStep ρv 0 [(0, tA a0), (1, tI a1)] [] h 0 0 (f_X3_addStep h a0 a1)
  unfold f_X3_addStep
  refine s_aload_n (i := 0) rfl 0 rfl ?_
  refine s_getI (i := 1) rfl xf_3_45.r rfl (fun v1 => ?_)
  refine s_aload_n (i := 2) rfl 0 rfl ?_
  refine s_getR (i := 3) rfl xf_3_15.r rfl (fun v2 => ?_)
  refine s_alen (i := 4) rfl (fun v3 => ?_)
  refine s_icmplt (i := 5) rfl (tgt := 13) (by decide) (fun z9 => ?_) (fun z9 => ?_)
  · refine s_aload_n (i := 7) rfl 0 rfl ?_
    refine s_getR (i := 8) rfl xf_3_15.r rfl (fun v4 => ?_)
    refine s_aload_n (i := 9) rfl 0 rfl ?_
    refine s_getI (i := 10) rfl xf_3_45.r rfl (fun v5 => ?_)
    refine s_iload_n (i := 11) rfl 1 rfl ?_
    refine s_iastore (i := 12) rfl (fun h6 => ?_)
    refine s_aload_n (i := 13) rfl 0 rfl ?_
    refine s_dup (i := 14) rfl rfl ?_
    refine s_getI (i := 15) rfl xf_3_45.r rfl (fun v7 => ?_)
    refine s_iconst (i := 16) rfl (v := (1 : Int32)) (by decide) ?_
    refine s_iadd (i := 17) rfl ?_
    refine s_putI (i := 18) rfl xf_3_45 (fun q => by cases q) rfl rfl (fun h8 => ?_)
    exact s_vret (i := 19) rfl rfl
  · exact s_vret (i := 6) rfl rfl
def y_X3_readEither : MethodName := ⟨"OpensAtNine$Reader", "readEither", "()Z"⟩
def T_X3_readEither : List (Nat × Instr × Nat × Nat) := [(0, .aload_n 0, 1, 1), (1, .invokevirtual 83, 3, 4), (4, .ifCond .ne 5, 3, 7), (7, .iconst 0, 1, 8), (8, .ireturn, 1, 9), (9, .iconst 0, 1, 10), (10, .istore_n 1, 1, 11), (11, .iload_n 1, 1, 12), (12, .sipush 160, 3, 15), (15, .if_icmp .ge 37, 3, 18), (18, .aload_n 0, 1, 19), (19, .getfield 55, 3, 22), (22, .bipush 9, 2, 24), (24, .if_icmp .ne 28, 3, 27), (27, .aload_n 0, 1, 28), (28, .invokevirtual 48, 3, 31), (31, .aload_n 0, 1, 32), (32, .invokevirtual 83, 3, 35), (35, .ifCond .ne 5, 3, 38), (38, .iconst 0, 1, 39), (39, .ireturn, 1, 40), (40, .aload_n 0, 1, 41), (41, .bipush (-15), 2, 43), (43, .invokevirtual 86, 3, 46), (46, .iinc 1 1, 3, 49), (49, .goto (-38), 3, 52), (52, .iconst 1, 1, 53), (53, .ireturn, 1, 54)]
def I_X3_readEither (d : Nat) : MI := (prog_5_method_6_code, 2, (some .boolean), "OpensAtNine$Reader", "readEither", T_X3_readEither, 0, 0, 9 + d, 229 + d * 22)
theorem dT_X3_readEither : ∀ q ∈ T_X3_readEither, decode prog_5_method_6_code q.1 = .ok (q.2.1, q.2.2.1) ∧ q.2.2.2 = q.1 + q.2.2.1 := by decide +kernel
theorem xm_X3_readEither (d : Nat) : xCM y_X3_readEither (I_X3_readEither d) 3 0 := ⟨⟨tw399, tw7⟩, tw74, tw400, ⟨xT3, 11, rfl⟩, ⟨by decide +kernel, by decide +kernel, by decide +kernel⟩⟩
def y_X3_readBoth : MethodName := ⟨"OpensAtNine$Reader", "readBoth", "()Z"⟩
def T_X3_readBoth : List (Nat × Instr × Nat × Nat) := [(0, .aload_n 0, 1, 1), (1, .invokevirtual 89, 3, 4), (4, .ifCond .ne 5, 3, 7), (7, .iconst 0, 1, 8), (8, .ireturn, 1, 9), (9, .iconst 0, 1, 10), (10, .istore_n 1, 1, 11), (11, .iload_n 1, 1, 12), (12, .sipush 160, 3, 15), (15, .if_icmp .ge 37, 3, 18), (18, .aload_n 0, 1, 19), (19, .getfield 55, 3, 22), (22, .bipush 10, 2, 24), (24, .if_icmp .ne 28, 3, 27), (27, .aload_n 0, 1, 28), (28, .invokevirtual 48, 3, 31), (31, .aload_n 0, 1, 32), (32, .invokevirtual 89, 3, 35), (35, .ifCond .ne 5, 3, 38), (38, .iconst 0, 1, 39), (39, .ireturn, 1, 40), (40, .aload_n 0, 1, 41), (41, .bipush (-14), 2, 43), (43, .invokevirtual 86, 3, 46), (46, .iinc 1 1, 3, 49), (49, .goto (-38), 3, 52), (52, .iconst 1, 1, 53), (53, .ireturn, 1, 54)]
def I_X3_readBoth (d : Nat) : MI := (prog_5_method_7_code, 2, (some .boolean), "OpensAtNine$Reader", "readBoth", T_X3_readBoth, 0, 0, 9 + d, 229 + d * 22)
theorem dT_X3_readBoth : ∀ q ∈ T_X3_readBoth, decode prog_5_method_7_code q.1 = .ok (q.2.1, q.2.2.1) ∧ q.2.2.2 = q.1 + q.2.2.1 := by decide +kernel
theorem xm_X3_readBoth (d : Nat) : xCM y_X3_readBoth (I_X3_readBoth d) 3 0 := ⟨⟨tw403, tw8⟩, tw74, tw404, ⟨xT3, 11, rfl⟩, ⟨by decide +kernel, by decide +kernel, by decide +kernel⟩⟩
def y_X3_readNot : MethodName := ⟨"OpensAtNine$Reader", "readNot", "()Z"⟩
def T_X3_readNot : List (Nat × Instr × Nat × Nat) := [(0, .aload_n 0, 1, 1), (1, .getfield 55, 3, 4), (4, .bipush 11, 2, 6), (6, .if_icmp .eq 8, 3, 9), (9, .aload_n 0, 1, 10), (10, .invokevirtual 92, 3, 13), (13, .ireturn, 1, 14), (14, .aload_n 0, 1, 15), (15, .invokevirtual 95, 3, 18), (18, .ifCond .eq 10, 3, 21), (21, .aload_n 0, 1, 22), (22, .invokevirtual 89, 3, 25), (25, .ifCond .ne 5, 3, 28), (28, .iconst 0, 1, 29), (29, .ireturn, 1, 30), (30, .aload_n 0, 1, 31), (31, .dup, 1, 32), (32, .getfield 42, 3, 35), (35, .iconst 1, 1, 36), (36, .isub, 1, 37), (37, .putfield 42, 3, 40), (40, .aload_n 0, 1, 41), (41, .bipush (-8), 2, 43), (43, .invokevirtual 86, 3, 46), (46, .iconst 1, 1, 47), (47, .ireturn, 1, 48)]
def I_X3_readNot (d : Nat) : MI := (prog_5_method_8_code, 1, (some .boolean), "OpensAtNine$Reader", "readNot", T_X3_readNot, 0, 0, 9 + d, 229 + d * 22)
theorem dT_X3_readNot : ∀ q ∈ T_X3_readNot, decode prog_5_method_8_code q.1 = .ok (q.2.1, q.2.2.1) ∧ q.2.2.2 = q.1 + q.2.2.1 := by decide +kernel
theorem xm_X3_readNot (d : Nat) : xCM y_X3_readNot (I_X3_readNot d) 3 0 := ⟨⟨tw407, tw9⟩, tw74, tw408, ⟨xT3, 11, rfl⟩, ⟨by decide +kernel, by decide +kernel, by decide +kernel⟩⟩
def y_X3_readCompared : MethodName := ⟨"OpensAtNine$Reader", "readCompared", "()Z"⟩
def T_X3_readCompared : List (Nat × Instr × Nat × Nat) := [(0, .aload_n 0, 1, 1), (1, .invokevirtual 98, 3, 4), (4, .ifCond .ne 5, 3, 7), (7, .iconst 0, 1, 8), (8, .ireturn, 1, 9), (9, .aload_n 0, 1, 10), (10, .getfield 55, 3, 13), (13, .bipush 60, 2, 15), (15, .if_icmp .eq 14, 3, 18), (18, .aload_n 0, 1, 19), (19, .getfield 55, 3, 22), (22, .bipush 61, 2, 24), (24, .if_icmp .eq 5, 3, 27), (27, .iconst 1, 1, 28), (28, .ireturn, 1, 29), (29, .aload_n 0, 1, 30), (30, .getfield 55, 3, 33), (33, .bipush 60, 2, 35), (35, .if_icmp .ne 8, 3, 38), (38, .bipush (-12), 2, 40), (40, .goto 5, 3, 43), (43, .bipush (-13), 2, 45), (45, .istore_n 1, 1, 46), (46, .aload_n 0, 1, 47), (47, .invokevirtual 48, 3, 50), (50, .aload_n 0, 1, 51), (51, .invokevirtual 98, 3, 54), (54, .ifCond .ne 5, 3, 57), (57, .iconst 0, 1, 58), (58, .ireturn, 1, 59), (59, .aload_n 0, 1, 60), (60, .iload_n 1, 1, 61), (61, .invokevirtual 86, 3, 64), (64, .iconst 1, 1, 65), (65, .ireturn, 1, 66)]
def I_X3_readCompared (d : Nat) : MI := (prog_5_method_9_code, 2, (some .boolean), "OpensAtNine$Reader", "readCompared", T_X3_readCompared, 0, 0, 9 + d, 229 + d * 22)
theorem dT_X3_readCompared : ∀ q ∈ T_X3_readCompared, decode prog_5_method_9_code q.1 = .ok (q.2.1, q.2.2.1) ∧ q.2.2.2 = q.1 + q.2.2.1 := by decide +kernel
theorem xm_X3_readCompared (d : Nat) : xCM y_X3_readCompared (I_X3_readCompared d) 3 0 := ⟨⟨tw411, tw10⟩, tw74, tw412, ⟨xT3, 11, rfl⟩, ⟨by decide +kernel, by decide +kernel, by decide +kernel⟩⟩
def y_X3_readSum : MethodName := ⟨"OpensAtNine$Reader", "readSum", "()Z"⟩
def T_X3_readSum : List (Nat × Instr × Nat × Nat) := [(0, .aload_n 0, 1, 1), (1, .invokevirtual 101, 3, 4), (4, .ifCond .ne 5, 3, 7), (7, .iconst 0, 1, 8), (8, .ireturn, 1, 9), (9, .iconst 0, 1, 10), (10, .istore_n 1, 1, 11), (11, .iload_n 1, 1, 12), (12, .sipush 160, 3, 15), (15, .if_icmp .ge 62, 3, 18), (18, .aload_n 0, 1, 19), (19, .getfield 55, 3, 22), (22, .bipush 43, 2, 24), (24, .if_icmp .eq 12, 3, 27), (27, .aload_n 0, 1, 28), (28, .getfield 55, 3, 31), (31, .bipush 45, 2, 33), (33, .if_icmp .ne 44, 3, 36), (36, .aload_n 0, 1, 37), (37, .getfield 55, 3, 40), (40, .bipush 43, 2, 42), (42, .if_icmp .ne 8, 3, 45), (45, .bipush (-9), 2, 47), (47, .goto 5, 3, 50), (50, .bipush (-10), 2, 52), (52, .istore_n 2, 1, 53), (53, .aload_n 0, 1, 54), (54, .invokevirtual 48, 3, 57), (57, .aload_n 0, 1, 58), (58, .invokevirtual 101, 3, 61), (61, .ifCond .ne 5, 3, 64), (64, .iconst 0, 1, 65), (65, .ireturn, 1, 66), (66, .aload_n 0, 1, 67), (67, .iload_n 2, 1, 68), (68, .invokevirtual 86, 3, 71), (71, .iinc 1 1, 3, 74), (74, .goto (-63), 3, 77), (77, .iconst 1, 1, 78), (78, .ireturn, 1, 79)]
def I_X3_readSum (d : Nat) : MI := (prog_5_method_10_code, 3, (some .boolean), "OpensAtNine$Reader", "readSum", T_X3_readSum, 0, 0, 9 + d, 229 + d * 22)
theorem dT_X3_readSum : ∀ q ∈ T_X3_readSum, decode prog_5_method_10_code q.1 = .ok (q.2.1, q.2.2.1) ∧ q.2.2.2 = q.1 + q.2.2.1 := by decide +kernel
theorem xm_X3_readSum (d : Nat) : xCM y_X3_readSum (I_X3_readSum d) 3 0 := ⟨⟨tw415, tw11⟩, tw74, tw416, ⟨xT3, 11, rfl⟩, ⟨by decide +kernel, by decide +kernel, by decide +kernel⟩⟩
def y_X3_readTerm : MethodName := ⟨"OpensAtNine$Reader", "readTerm", "()Z"⟩
def T_X3_readTerm : List (Nat × Instr × Nat × Nat) := [(0, .aload_n 0, 1, 1), (1, .invokevirtual 104, 3, 4), (4, .ifCond .ne 5, 3, 7), (7, .iconst 0, 1, 8), (8, .ireturn, 1, 9), (9, .iconst 0, 1, 10), (10, .istore_n 1, 1, 11), (11, .iload_n 1, 1, 12), (12, .sipush 160, 3, 15), (15, .if_icmp .ge 37, 3, 18), (18, .aload_n 0, 1, 19), (19, .getfield 55, 3, 22), (22, .bipush 42, 2, 24), (24, .if_icmp .ne 28, 3, 27), (27, .aload_n 0, 1, 28), (28, .invokevirtual 48, 3, 31), (31, .aload_n 0, 1, 32), (32, .invokevirtual 104, 3, 35), (35, .ifCond .ne 5, 3, 38), (38, .iconst 0, 1, 39), (39, .ireturn, 1, 40), (40, .aload_n 0, 1, 41), (41, .bipush (-11), 2, 43), (43, .invokevirtual 86, 3, 46), (46, .iinc 1 1, 3, 49), (49, .goto (-38), 3, 52), (52, .iconst 1, 1, 53), (53, .ireturn, 1, 54)]
def I_X3_readTerm (d : Nat) : MI := (prog_5_method_11_code, 2, (some .boolean), "OpensAtNine$Reader", "readTerm", T_X3_readTerm, 0, 0, 9 + d, 229 + d * 22)
theorem dT_X3_readTerm : ∀ q ∈ T_X3_readTerm, decode prog_5_method_11_code q.1 = .ok (q.2.1, q.2.2.1) ∧ q.2.2.2 = q.1 + q.2.2.1 := by decide +kernel
theorem xm_X3_readTerm (d : Nat) : xCM y_X3_readTerm (I_X3_readTerm d) 3 0 := ⟨⟨tw419, tw12⟩, tw74, tw420, ⟨xT3, 11, rfl⟩, ⟨by decide +kernel, by decide +kernel, by decide +kernel⟩⟩
def y_X3_readOne : MethodName := ⟨"OpensAtNine$Reader", "readOne", "()Z"⟩
def T_X3_readOne : List (Nat × Instr × Nat × Nat) := [(0, .aload_n 0, 1, 1), (1, .getfield 55, 3, 4), (4, .sipush 256, 3, 7), (7, .if_icmp .eq 19, 3, 10), (10, .aload_n 0, 1, 11), (11, .getfield 55, 3, 14), (14, .ifCond .lt 45, 3, 17), (17, .aload_n 0, 1, 18), (18, .getfield 55, 3, 21), (21, .bipush 6, 2, 23), (23, .if_icmp .ge 36, 3, 26), (26, .aload_n 0, 1, 27), (27, .aload_n 0, 1, 28), (28, .getfield 55, 3, 31), (31, .sipush 256, 3, 34), (34, .if_icmp .ne 10, 3, 37), (37, .aload_n 0, 1, 38), (38, .getfield 107, 3, 41), (41, .goto 9, 3, 44), (44, .iconst (-1), 1, 45), (45, .aload_n 0, 1, 46), (46, .getfield 55, 3, 49), (49, .isub, 1, 50), (50, .invokevirtual 86, 3, 53), (53, .aload_n 0, 1, 54), (54, .invokevirtual 48, 3, 57), (57, .iconst 1, 1, 58), (58, .ireturn, 1, 59), (59, .aload_n 0, 1, 60), (60, .getfield 55, 3, 63), (63, .bipush 45, 2, 65), (65, .if_icmp .ne 37, 3, 68), (68, .aload_n 0, 1, 69), (69, .invokevirtual 95, 3, 72), (72, .ifCond .eq 10, 3, 75), (75, .aload_n 0, 1, 76), (76, .invokevirtual 104, 3, 79), (79, .ifCond .ne 5, 3, 82), (82, .iconst 0, 1, 83), (83, .ireturn, 1, 84), (84, .aload_n 0, 1, 85), (85, .dup, 1, 86), (86, .getfield 42, 3, 89), (89, .iconst 1, 1, 90), (90, .isub, 1, 91), (91, .putfield 42, 3, 94), (94, .aload_n 0, 1, 95), (95, .bipush (-7), 2, 97), (97, .invokevirtual 86, 3, 100), (100, .iconst 1, 1, 101), (101, .ireturn, 1, 102), (102, .aload_n 0, 1, 103), (103, .getfield 55, 3, 106), (106, .bipush 40, 2, 108), (108, .if_icmp .ne 26, 3, 111), (111, .aload_n 0, 1, 112), (112, .invokevirtual 95, 3, 115), (115, .ifCond .eq 19, 3, 118), (118, .aload_n 0, 1, 119), (119, .invokevirtual 79, 3, 122), (122, .ifCond .eq 12, 3, 125), (125, .aload_n 0, 1, 126), (126, .bipush 41, 2, 128), (128, .invokevirtual 75, 3, 131), (131, .ifCond .ne 5, 3, 134), (134, .iconst 0, 1, 135), (135, .ireturn, 1, 136), (136, .aload_n 0, 1, 137), (137, .dup, 1, 138), (138, .getfield 42, 3, 141), (141, .iconst 1, 1, 142), (142, .isub, 1, 143), (143, .putfield 42, 3, 146), (146, .iconst 1, 1, 147), (147, .ireturn, 1, 148)]
def I_X3_readOne (d : Nat) : MI := (prog_5_method_12_code, 1, (some .boolean), "OpensAtNine$Reader", "readOne", T_X3_readOne, 0, 0, 9 + d, 229 + d * 22)
theorem dT_X3_readOne : ∀ q ∈ T_X3_readOne, decode prog_5_method_12_code q.1 = .ok (q.2.1, q.2.2.1) ∧ q.2.2.2 = q.1 + q.2.2.1 := by decide +kernel
theorem xm_X3_readOne (d : Nat) : xCM y_X3_readOne (I_X3_readOne d) 3 0 := ⟨⟨tw423, tw13⟩, tw74, tw424, ⟨xT3, 11, rfl⟩, ⟨by decide +kernel, by decide +kernel, by decide +kernel⟩⟩
noncomputable def f_X3_readEither_52 (r_X3_readBoth : XM → Option Nat → Option (Int32 × XM)) (h : XM) : Option (Int32 × XM) := rz h ((1 : Int32))
noncomputable def fb_X3_readEither_11 (r_X3_readBoth : XM → Option Nat → Option (Int32 × XM)) (k_11 : XM → Option Nat → Int32 → Option (Int32 × XM)) (h : XM) (l0 : Option Nat) (l1 : Int32) : Option (Int32 × XM) := if l1 < ((160 : Int32)) then ((gI h 3 l0 7).bind fun v1 => if v1 = ((9 : Int32)) then ((vc h 3 l0 (f_X3_advance h l0)).bind fun q2 => (vc q2 3 l0 (r_X3_readBoth q2 l0)).bind fun q3 => if q3.1 = 0 then (rz q3.2 ((0 : Int32))) else ((vc q3.2 3 l0 (f_X3_addStep q3.2 l0 ((-15 : Int32)))).bind fun q4 => bnd (l1 + (1 : Int32)) fun v5 => k_11 q4 l0 v5)) else (f_X3_readEither_52 r_X3_readBoth h)) else (f_X3_readEither_52 r_X3_readBoth h)
noncomputable def f_X3_readEither_11 (r_X3_readBoth : XM → Option Nat → Option (Int32 × XM)) (n : Nat) : XM → Option Nat → Int32 → Option (Int32 × XM) := Nat.rec (motive := fun _ => XM → Option Nat → Int32 → Option (Int32 × XM)) (fun _ _ _ => none) (fun _ ih h l0 l1 => fb_X3_readEither_11 r_X3_readBoth ih h l0 l1) n
noncomputable def fe_X3_readEither (r_X3_readBoth : XM → Option Nat → Option (Int32 × XM)) (h : XM) (a0 : Option Nat) : Option (Int32 × XM) := (vc h 3 a0 (r_X3_readBoth h a0)).bind fun q6 => if q6.1 = 0 then (rz q6.2 ((0 : Int32))) else (f_X3_readEither_11 r_X3_readBoth FU q6.2 a0 ((0 : Int32)))
noncomputable def f_X3_readBoth_52 (r_X3_readNot : XM → Option Nat → Option (Int32 × XM)) (h : XM) : Option (Int32 × XM) := rz h ((1 : Int32))
noncomputable def fb_X3_readBoth_11 (r_X3_readNot : XM → Option Nat → Option (Int32 × XM)) (k_11 : XM → Option Nat → Int32 → Option (Int32 × XM)) (h : XM) (l0 : Option Nat) (l1 : Int32) : Option (Int32 × XM) := if l1 < ((160 : Int32)) then ((gI h 3 l0 7).bind fun v1 => if v1 = ((10 : Int32)) then ((vc h 3 l0 (f_X3_advance h l0)).bind fun q2 => (vc q2 3 l0 (r_X3_readNot q2 l0)).bind fun q3 => if q3.1 = 0 then (rz q3.2 ((0 : Int32))) else ((vc q3.2 3 l0 (f_X3_addStep q3.2 l0 ((-14 : Int32)))).bind fun q4 => bnd (l1 + (1 : Int32)) fun v5 => k_11 q4 l0 v5)) else (f_X3_readBoth_52 r_X3_readNot h)) else (f_X3_readBoth_52 r_X3_readNot h)
noncomputable def f_X3_readBoth_11 (r_X3_readNot : XM → Option Nat → Option (Int32 × XM)) (n : Nat) : XM → Option Nat → Int32 → Option (Int32 × XM) := Nat.rec (motive := fun _ => XM → Option Nat → Int32 → Option (Int32 × XM)) (fun _ _ _ => none) (fun _ ih h l0 l1 => fb_X3_readBoth_11 r_X3_readNot ih h l0 l1) n
noncomputable def fe_X3_readBoth (r_X3_readNot : XM → Option Nat → Option (Int32 × XM)) (h : XM) (a0 : Option Nat) : Option (Int32 × XM) := (vc h 3 a0 (r_X3_readNot h a0)).bind fun q6 => if q6.1 = 0 then (rz q6.2 ((0 : Int32))) else (f_X3_readBoth_11 r_X3_readNot FU q6.2 a0 ((0 : Int32)))
noncomputable def f_X3_readNot_28 (r_X3_readNot : XM → Option Nat → Option (Int32 × XM)) (r_X3_readCompared : XM → Option Nat → Option (Int32 × XM)) (h : XM) : Option (Int32 × XM) := rz h ((0 : Int32))
noncomputable def fe_X3_readNot (r_X3_readNot : XM → Option Nat → Option (Int32 × XM)) (r_X3_readCompared : XM → Option Nat → Option (Int32 × XM)) (h : XM) (a0 : Option Nat) : Option (Int32 × XM) := (gI h 3 a0 7).bind fun v1 => if v1 = ((11 : Int32)) then ((vc h 3 a0 (f_X3_enter h a0)).bind fun q2 => if q2.1 = 0 then (f_X3_readNot_28 r_X3_readNot r_X3_readCompared q2.2) else ((vc q2.2 3 a0 (r_X3_readNot q2.2 a0)).bind fun q3 => if q3.1 = 0 then (f_X3_readNot_28 r_X3_readNot r_X3_readCompared q3.2) else ((gI q3.2 3 a0 9).bind fun v4 => (pI q3.2 3 a0 9 (v4 - ((1 : Int32)))).bind fun h5 => (vc h5 3 a0 (f_X3_addStep h5 a0 ((-8 : Int32)))).bind fun q6 => rz q6 ((1 : Int32))))) else ((vc h 3 a0 (r_X3_readCompared h a0)).bind fun q7 => rz q7.2 q7.1)
noncomputable def f_X3_readCompared_45 (r_X3_readSum : XM → Option Nat → Option (Int32 × XM)) (h : XM) (l0 : Option Nat) (s0 : Int32) : Option (Int32 × XM) := (vc h 3 l0 (f_X3_advance h l0)).bind fun q1 => (vc q1 3 l0 (r_X3_readSum q1 l0)).bind fun q2 => if q2.1 = 0 then (rz q2.2 ((0 : Int32))) else ((vc q2.2 3 l0 (f_X3_addStep q2.2 l0 s0)).bind fun q3 => rz q3 ((1 : Int32)))
noncomputable def f_X3_readCompared_29 (r_X3_readSum : XM → Option Nat → Option (Int32 × XM)) (h : XM) (l0 : Option Nat) : Option (Int32 × XM) := (gI h 3 l0 7).bind fun v4 => if v4 = ((60 : Int32)) then (f_X3_readCompared_45 r_X3_readSum h l0 ((-12 : Int32))) else (f_X3_readCompared_45 r_X3_readSum h l0 ((-13 : Int32)))
noncomputable def fe_X3_readCompared (r_X3_readSum : XM → Option Nat → Option (Int32 × XM)) (h : XM) (a0 : Option Nat) : Option (Int32 × XM) := (vc h 3 a0 (r_X3_readSum h a0)).bind fun q5 => if q5.1 = 0 then (rz q5.2 ((0 : Int32))) else ((gI q5.2 3 a0 7).bind fun v6 => if v6 = ((60 : Int32)) then (f_X3_readCompared_29 r_X3_readSum q5.2 a0) else ((gI q5.2 3 a0 7).bind fun v7 => if v7 = ((61 : Int32)) then (f_X3_readCompared_29 r_X3_readSum q5.2 a0) else (rz q5.2 ((1 : Int32)))))
noncomputable def f_X3_readSum_52 (r_X3_readTerm : XM → Option Nat → Option (Int32 × XM)) (k_11 : XM → Option Nat → Int32 → Option (Int32 × XM)) (h : XM) (l0 : Option Nat) (l1 : Int32) (s0 : Int32) : Option (Int32 × XM) := (vc h 3 l0 (f_X3_advance h l0)).bind fun q1 => (vc q1 3 l0 (r_X3_readTerm q1 l0)).bind fun q2 => if q2.1 = 0 then (rz q2.2 ((0 : Int32))) else ((vc q2.2 3 l0 (f_X3_addStep q2.2 l0 s0)).bind fun q3 => bnd (l1 + (1 : Int32)) fun v4 => k_11 q3 l0 v4)
noncomputable def f_X3_readSum_36 (r_X3_readTerm : XM → Option Nat → Option (Int32 × XM)) (k_11 : XM → Option Nat → Int32 → Option (Int32 × XM)) (h : XM) (l0 : Option Nat) (l1 : Int32) : Option (Int32 × XM) := (gI h 3 l0 7).bind fun v5 => if v5 = ((43 : Int32)) then (f_X3_readSum_52 r_X3_readTerm k_11 h l0 l1 ((-9 : Int32))) else (f_X3_readSum_52 r_X3_readTerm k_11 h l0 l1 ((-10 : Int32)))
noncomputable def f_X3_readSum_77 (r_X3_readTerm : XM → Option Nat → Option (Int32 × XM)) (h : XM) : Option (Int32 × XM) := rz h ((1 : Int32))
noncomputable def fb_X3_readSum_11 (r_X3_readTerm : XM → Option Nat → Option (Int32 × XM)) (k_11 : XM → Option Nat → Int32 → Option (Int32 × XM)) (h : XM) (l0 : Option Nat) (l1 : Int32) : Option (Int32 × XM) := if l1 < ((160 : Int32)) then ((gI h 3 l0 7).bind fun v6 => if v6 = ((43 : Int32)) then (f_X3_readSum_36 r_X3_readTerm k_11 h l0 l1) else ((gI h 3 l0 7).bind fun v7 => if v7 = ((45 : Int32)) then (f_X3_readSum_36 r_X3_readTerm k_11 h l0 l1) else (f_X3_readSum_77 r_X3_readTerm h))) else (f_X3_readSum_77 r_X3_readTerm h)
noncomputable def f_X3_readSum_11 (r_X3_readTerm : XM → Option Nat → Option (Int32 × XM)) (n : Nat) : XM → Option Nat → Int32 → Option (Int32 × XM) := Nat.rec (motive := fun _ => XM → Option Nat → Int32 → Option (Int32 × XM)) (fun _ _ _ => none) (fun _ ih h l0 l1 => fb_X3_readSum_11 r_X3_readTerm ih h l0 l1) n
noncomputable def fe_X3_readSum (r_X3_readTerm : XM → Option Nat → Option (Int32 × XM)) (h : XM) (a0 : Option Nat) : Option (Int32 × XM) := (vc h 3 a0 (r_X3_readTerm h a0)).bind fun q8 => if q8.1 = 0 then (rz q8.2 ((0 : Int32))) else (f_X3_readSum_11 r_X3_readTerm FU q8.2 a0 ((0 : Int32)))
noncomputable def f_X3_readTerm_52 (r_X3_readOne : XM → Option Nat → Option (Int32 × XM)) (h : XM) : Option (Int32 × XM) := rz h ((1 : Int32))
noncomputable def fb_X3_readTerm_11 (r_X3_readOne : XM → Option Nat → Option (Int32 × XM)) (k_11 : XM → Option Nat → Int32 → Option (Int32 × XM)) (h : XM) (l0 : Option Nat) (l1 : Int32) : Option (Int32 × XM) := if l1 < ((160 : Int32)) then ((gI h 3 l0 7).bind fun v1 => if v1 = ((42 : Int32)) then ((vc h 3 l0 (f_X3_advance h l0)).bind fun q2 => (vc q2 3 l0 (r_X3_readOne q2 l0)).bind fun q3 => if q3.1 = 0 then (rz q3.2 ((0 : Int32))) else ((vc q3.2 3 l0 (f_X3_addStep q3.2 l0 ((-11 : Int32)))).bind fun q4 => bnd (l1 + (1 : Int32)) fun v5 => k_11 q4 l0 v5)) else (f_X3_readTerm_52 r_X3_readOne h)) else (f_X3_readTerm_52 r_X3_readOne h)
noncomputable def f_X3_readTerm_11 (r_X3_readOne : XM → Option Nat → Option (Int32 × XM)) (n : Nat) : XM → Option Nat → Int32 → Option (Int32 × XM) := Nat.rec (motive := fun _ => XM → Option Nat → Int32 → Option (Int32 × XM)) (fun _ _ _ => none) (fun _ ih h l0 l1 => fb_X3_readTerm_11 r_X3_readOne ih h l0 l1) n
noncomputable def fe_X3_readTerm (r_X3_readOne : XM → Option Nat → Option (Int32 × XM)) (h : XM) (a0 : Option Nat) : Option (Int32 × XM) := (vc h 3 a0 (r_X3_readOne h a0)).bind fun q6 => if q6.1 = 0 then (rz q6.2 ((0 : Int32))) else (f_X3_readTerm_11 r_X3_readOne FU q6.2 a0 ((0 : Int32)))
noncomputable def f_X3_readOne_50 (r_X3_readEither : XM → Option Nat → Option (Int32 × XM)) (r_X3_readOne : XM → Option Nat → Option (Int32 × XM)) (h : XM) (l0 : Option Nat) (s0 : Int32) (s1 : Option Nat) : Option (Int32 × XM) := (vc h 3 s1 (f_X3_addStep h s1 s0)).bind fun q1 => (vc q1 3 l0 (f_X3_advance q1 l0)).bind fun q2 => rz q2 ((1 : Int32))
noncomputable def f_X3_readOne_26 (r_X3_readEither : XM → Option Nat → Option (Int32 × XM)) (r_X3_readOne : XM → Option Nat → Option (Int32 × XM)) (h : XM) (l0 : Option Nat) : Option (Int32 × XM) := (gI h 3 l0 7).bind fun v3 => if v3 = ((256 : Int32)) then ((gI h 3 l0 8).bind fun v4 => f_X3_readOne_50 r_X3_readEither r_X3_readOne h l0 v4 l0) else ((gI h 3 l0 7).bind fun v5 => f_X3_readOne_50 r_X3_readEither r_X3_readOne h l0 (((-1 : Int32)) - v5) l0)
noncomputable def f_X3_readOne_82 (r_X3_readEither : XM → Option Nat → Option (Int32 × XM)) (r_X3_readOne : XM → Option Nat → Option (Int32 × XM)) (h : XM) : Option (Int32 × XM) := rz h ((0 : Int32))
noncomputable def f_X3_readOne_134 (r_X3_readEither : XM → Option Nat → Option (Int32 × XM)) (r_X3_readOne : XM → Option Nat → Option (Int32 × XM)) (h : XM) : Option (Int32 × XM) := rz h ((0 : Int32))
noncomputable def f_X3_readOne_59 (r_X3_readEither : XM → Option Nat → Option (Int32 × XM)) (r_X3_readOne : XM → Option Nat → Option (Int32 × XM)) (h : XM) (l0 : Option Nat) : Option (Int32 × XM) := (gI h 3 l0 7).bind fun v6 => if v6 = ((45 : Int32)) then ((vc h 3 l0 (f_X3_enter h l0)).bind fun q7 => if q7.1 = 0 then (f_X3_readOne_82 r_X3_readEither r_X3_readOne q7.2) else ((vc q7.2 3 l0 (r_X3_readOne q7.2 l0)).bind fun q8 => if q8.1 = 0 then (f_X3_readOne_82 r_X3_readEither r_X3_readOne q8.2) else ((gI q8.2 3 l0 9).bind fun v9 => (pI q8.2 3 l0 9 (v9 - ((1 : Int32)))).bind fun h10 => (vc h10 3 l0 (f_X3_addStep h10 l0 ((-7 : Int32)))).bind fun q11 => rz q11 ((1 : Int32))))) else ((gI h 3 l0 7).bind fun v12 => if v12 = ((40 : Int32)) then ((vc h 3 l0 (f_X3_enter h l0)).bind fun q13 => if q13.1 = 0 then (f_X3_readOne_134 r_X3_readEither r_X3_readOne q13.2) else ((vc q13.2 3 l0 (r_X3_readEither q13.2 l0)).bind fun q14 => if q14.1 = 0 then (f_X3_readOne_134 r_X3_readEither r_X3_readOne q14.2) else ((vc q14.2 3 l0 (f_X3_pass q14.2 l0 ((41 : Int32)))).bind fun q15 => if q15.1 = 0 then (f_X3_readOne_134 r_X3_readEither r_X3_readOne q15.2) else ((gI q15.2 3 l0 9).bind fun v16 => (pI q15.2 3 l0 9 (v16 - ((1 : Int32)))).bind fun h17 => rz h17 ((1 : Int32)))))) else (f_X3_readOne_134 r_X3_readEither r_X3_readOne h))
noncomputable def fe_X3_readOne (r_X3_readEither : XM → Option Nat → Option (Int32 × XM)) (r_X3_readOne : XM → Option Nat → Option (Int32 × XM)) (h : XM) (a0 : Option Nat) : Option (Int32 × XM) := (gI h 3 a0 7).bind fun v18 => if v18 = ((256 : Int32)) then (f_X3_readOne_26 r_X3_readEither r_X3_readOne h a0) else ((gI h 3 a0 7).bind fun v19 => if v19 < 0 then (f_X3_readOne_59 r_X3_readEither r_X3_readOne h a0) else ((gI h 3 a0 7).bind fun v20 => if v20 < ((6 : Int32)) then (f_X3_readOne_26 r_X3_readEither r_X3_readOne h a0) else (f_X3_readOne_59 r_X3_readEither r_X3_readOne h a0)))
noncomputable def g_X3_readEither (d : Nat) : (XM → Option Nat → Option (Int32 × XM)) × (XM → Option Nat → Option (Int32 × XM)) × (XM → Option Nat → Option (Int32 × XM)) × (XM → Option Nat → Option (Int32 × XM)) × (XM → Option Nat → Option (Int32 × XM)) × (XM → Option Nat → Option (Int32 × XM)) × (XM → Option Nat → Option (Int32 × XM)) := Nat.rec (motive := fun _ => (XM → Option Nat → Option (Int32 × XM)) × (XM → Option Nat → Option (Int32 × XM)) × (XM → Option Nat → Option (Int32 × XM)) × (XM → Option Nat → Option (Int32 × XM)) × (XM → Option Nat → Option (Int32 × XM)) × (XM → Option Nat → Option (Int32 × XM)) × (XM → Option Nat → Option (Int32 × XM))) ((fun _ _ => none), (fun _ _ => none), (fun _ _ => none), (fun _ _ => none), (fun _ _ => none), (fun _ _ => none), (fun _ _ => none)) (fun _ g => ((fun h a0 => fe_X3_readEither g.2.1 h a0), (fun h a0 => fe_X3_readBoth g.2.2.1 h a0), (fun h a0 => fe_X3_readNot g.2.2.1 g.2.2.2.1 h a0), (fun h a0 => fe_X3_readCompared g.2.2.2.2.1 h a0), (fun h a0 => fe_X3_readSum g.2.2.2.2.2.1 h a0), (fun h a0 => fe_X3_readTerm g.2.2.2.2.2.2 h a0), (fun h a0 => fe_X3_readOne g.1 g.2.2.2.2.2.2 h a0))) d
noncomputable def f_X3_readEither (d : Nat) : XM → Option Nat → Option (Int32 × XM) := (g_X3_readEither d).1
noncomputable def f_X3_readBoth (d : Nat) : XM → Option Nat → Option (Int32 × XM) := (g_X3_readEither d).2.1
noncomputable def f_X3_readNot (d : Nat) : XM → Option Nat → Option (Int32 × XM) := (g_X3_readEither d).2.2.1
noncomputable def f_X3_readCompared (d : Nat) : XM → Option Nat → Option (Int32 × XM) := (g_X3_readEither d).2.2.2.1
noncomputable def f_X3_readSum (d : Nat) : XM → Option Nat → Option (Int32 × XM) := (g_X3_readEither d).2.2.2.2.1
noncomputable def f_X3_readTerm (d : Nat) : XM → Option Nat → Option (Int32 × XM) := (g_X3_readEither d).2.2.2.2.2.1
noncomputable def f_X3_readOne (d : Nat) : XM → Option Nat → Option (Int32 × XM) := (g_X3_readEither d).2.2.2.2.2.2
theorem b_X3_readEither_52 (X : XX) (d : Nat) (r_X3_readBoth : XM → Option Nat → Option (Int32 × XM)) (hr_X3_readBoth : ∀ h a0, MC (I_X3_readBoth d) y_X3_readBoth [tA a0] h ρi (r_X3_readBoth h a0)) (h : XM) : SW X (I_X3_readEither (d + 1)) ρi 52 [] [] h 0 0 (f_X3_readEither_52 r_X3_readBoth h) := by
  unfold f_X3_readEither_52
  refine s_iconst (i := 26) rfl (v := (1 : Int32)) (by decide) ?_
  exact s_zret (i := 27) rfl rfl
theorem bb_X3_readEither_11 (X : XX) (d : Nat) (r_X3_readBoth : XM → Option Nat → Option (Int32 × XM)) (hr_X3_readBoth : ∀ h a0, MC (I_X3_readBoth d) y_X3_readBoth [tA a0] h ρi (r_X3_readBoth h a0)) (k_11 : XM → Option Nat → Int32 → Option (Int32 × XM)) (hk_11 : ∀ h l0 l1, SW X (I_X3_readEither (d + 1)) ρi 11 [(0, tA l0), (1, tI l1)] [] h 0 0 (k_11 h l0 l1)) (h : XM) (l0 : Option Nat) (l1 : Int32) : SW X (I_X3_readEither (d + 1)) ρi 11 [(0, tA l0), (1, tI l1)] [] h 0 0 (fb_X3_readEither_11 r_X3_readBoth k_11 h l0 l1) := by
  unfold fb_X3_readEither_11
  refine s_iload_n (i := 7) rfl 1 rfl ?_
  refine s_sipush (i := 8) rfl (v := (160 : Int32)) (by decide) ?_
  refine s_icmpge (i := 9) rfl (tgt := 52) (by decide) (fun z15 => ?_) (fun z15 => ?_)
  · refine s_aload_n (i := 10) rfl 0 rfl ?_
    refine s_getI (i := 11) rfl xf_3_55.r rfl (fun v1 => ?_)
    refine s_bipush (i := 12) rfl (v := (9 : Int32)) (by decide) ?_
    refine s_icmpne (i := 13) rfl (tgt := 52) (by decide) (fun z24 => ?_) (fun z24 => ?_)
    · refine s_aload_n (i := 14) rfl 0 rfl ?_
      refine u_callVv (kk := 3) [] l0 [] rfl (i := 15) rfl (c_X3_advance h l0) xm_X3_advance (tw348) rfl (Nat.le_of_ble_eq_true rfl) (xRm.in (show 7 + 1 ≤ 9 + (d + 1) by omega) (show 8 + (1 + 11) + 188 ≤ 229 + (d + 1) * 22 by omega)) ⟨rfl, rfl⟩ (fun q2 => ?_)
      refine s_aload_n (i := 16) rfl 0 rfl ?_
      refine u_callVi (kk := 3) [] l0 [] rfl (i := 17) rfl (hr_X3_readBoth q2 l0) (xm_X3_readBoth _) (tw401) rfl (Nat.le_of_ble_eq_true rfl) (xRm.in (show 9 + d + 1 ≤ 9 + (d + 1) by omega) (show 8 + (2 + 11) + (229 + d * 22) ≤ 229 + (d + 1) * 22 by rw [Nat.succ_mul]; omega)) ⟨rfl, rfl⟩ (fun q3 => ?_)
      refine s_ifne (i := 18) rfl (tgt := 40) (by decide) (fun z35 => ?_) (fun z35 => ?_)
      · refine s_iconst (i := 19) rfl (v := (0 : Int32)) (by decide) ?_
        exact s_zret (i := 20) rfl rfl
      · refine s_aload_n (i := 21) rfl 0 rfl ?_
        refine s_bipush (i := 22) rfl (v := (-15 : Int32)) (by decide) ?_
        refine u_callVv (kk := 3) [tI ((-15 : Int32))] l0 [] rfl (i := 23) rfl (c_X3_addStep q3.2 l0 ((-15 : Int32))) xm_X3_addStep (tw425) rfl (Nat.le_of_ble_eq_true rfl) (xRm.in (show 1 + 1 ≤ 9 + (d + 1) by omega) (show 8 + (2 + 11) + 60 ≤ 229 + (d + 1) * 22 by omega)) ⟨rfl, rfl⟩ (fun q4 => ?_)
        refine s_inc (i := 24) rfl 1 rfl (c9 := (1 : Int32)) (by decide) (Nat.le_of_ble_eq_true rfl) (fun v5 => ?_)
        refine s_ls (ls2 := [(1, tI v5), (0, tA l0)]) rfl ?_
        refine s_goto (i := 25) rfl (tgt := 11) (by decide) ?_
        exact s_sub [1, 0] rfl (hk_11 q4 l0 v5)
    · exact s_sub [] rfl (b_X3_readEither_52 X d r_X3_readBoth hr_X3_readBoth h)
  · exact s_sub [] rfl (b_X3_readEither_52 X d r_X3_readBoth hr_X3_readBoth h)
theorem b_X3_readEither_11 (X : XX) (d : Nat) (r_X3_readBoth : XM → Option Nat → Option (Int32 × XM)) (hr_X3_readBoth : ∀ h a0, MC (I_X3_readBoth d) y_X3_readBoth [tA a0] h ρi (r_X3_readBoth h a0)) : ∀ (n : Nat) (h : XM) (l0 : Option Nat) (l1 : Int32), SW X (I_X3_readEither (d + 1)) ρi 11 [(0, tA l0), (1, tI l1)] [] h 0 0 (f_X3_readEither_11 r_X3_readBoth n h l0 l1) := by
  intro n
  induction n with
  | zero =>
    intro h l0 l1
    exact s_none
  | succ n ih =>
    intro h l0 l1
    exact bb_X3_readEither_11 X d r_X3_readBoth hr_X3_readBoth (f_X3_readEither_11 r_X3_readBoth n) ih h l0 l1
theorem ce_X3_readEither (d : Nat) (r_X3_readBoth : XM → Option Nat → Option (Int32 × XM)) (hr_X3_readBoth : ∀ h a0, MC (I_X3_readBoth d) y_X3_readBoth [tA a0] h ρi (r_X3_readBoth h a0)) (h : XM) (a0 : Option Nat) : MC (I_X3_readEither (d + 1)) y_X3_readEither [tA a0] h ρi (fe_X3_readEither r_X3_readBoth h a0) := by
  refine MC_of ⟨by decide +kernel, rfl, rfl, Nat.le_of_ble_eq_true rfl⟩ dT_X3_readEither (fun X => ?_)
  show SW X (I_X3_readEither (d + 1)) ρi 0 [(0, tA a0)] [] h 0 0 (fe_X3_readEither r_X3_readBoth h a0)
  unfold fe_X3_readEither
  refine s_aload_n (i := 0) rfl 0 rfl ?_
  refine u_callVi (kk := 3) [] a0 [] rfl (i := 1) rfl (hr_X3_readBoth h a0) (xm_X3_readBoth _) (tw401) rfl (Nat.le_of_ble_eq_true rfl) (xRm.in (show 9 + d + 1 ≤ 9 + (d + 1) by omega) (show 8 + (2 + 11) + (229 + d * 22) ≤ 229 + (d + 1) * 22 by rw [Nat.succ_mul]; omega)) ⟨rfl, rfl⟩ (fun q6 => ?_)
  refine s_ifne (i := 2) rfl (tgt := 9) (by decide) (fun z4 => ?_) (fun z4 => ?_)
  · refine s_iconst (i := 3) rfl (v := (0 : Int32)) (by decide) ?_
    exact s_zret (i := 4) rfl rfl
  · refine s_iconst (i := 5) rfl (v := (0 : Int32)) (by decide) ?_
    refine s_istore_n (i := 6) rfl (Nat.le_of_ble_eq_true rfl) (ls2 := [(1, tI ((0 : Int32))), (0, tA a0)]) rfl ?_
    exact s_sub [1, 0] rfl (b_X3_readEither_11 X d r_X3_readBoth hr_X3_readBoth FU q6.2 a0 ((0 : Int32)))
theorem b_X3_readBoth_52 (X : XX) (d : Nat) (r_X3_readNot : XM → Option Nat → Option (Int32 × XM)) (hr_X3_readNot : ∀ h a0, MC (I_X3_readNot d) y_X3_readNot [tA a0] h ρi (r_X3_readNot h a0)) (h : XM) : SW X (I_X3_readBoth (d + 1)) ρi 52 [] [] h 0 0 (f_X3_readBoth_52 r_X3_readNot h) := by
  unfold f_X3_readBoth_52
  refine s_iconst (i := 26) rfl (v := (1 : Int32)) (by decide) ?_
  exact s_zret (i := 27) rfl rfl
theorem bb_X3_readBoth_11 (X : XX) (d : Nat) (r_X3_readNot : XM → Option Nat → Option (Int32 × XM)) (hr_X3_readNot : ∀ h a0, MC (I_X3_readNot d) y_X3_readNot [tA a0] h ρi (r_X3_readNot h a0)) (k_11 : XM → Option Nat → Int32 → Option (Int32 × XM)) (hk_11 : ∀ h l0 l1, SW X (I_X3_readBoth (d + 1)) ρi 11 [(0, tA l0), (1, tI l1)] [] h 0 0 (k_11 h l0 l1)) (h : XM) (l0 : Option Nat) (l1 : Int32) : SW X (I_X3_readBoth (d + 1)) ρi 11 [(0, tA l0), (1, tI l1)] [] h 0 0 (fb_X3_readBoth_11 r_X3_readNot k_11 h l0 l1) := by
  unfold fb_X3_readBoth_11
  refine s_iload_n (i := 7) rfl 1 rfl ?_
  refine s_sipush (i := 8) rfl (v := (160 : Int32)) (by decide) ?_
  refine s_icmpge (i := 9) rfl (tgt := 52) (by decide) (fun z15 => ?_) (fun z15 => ?_)
  · refine s_aload_n (i := 10) rfl 0 rfl ?_
    refine s_getI (i := 11) rfl xf_3_55.r rfl (fun v1 => ?_)
    refine s_bipush (i := 12) rfl (v := (10 : Int32)) (by decide) ?_
    refine s_icmpne (i := 13) rfl (tgt := 52) (by decide) (fun z24 => ?_) (fun z24 => ?_)
    · refine s_aload_n (i := 14) rfl 0 rfl ?_
      refine u_callVv (kk := 3) [] l0 [] rfl (i := 15) rfl (c_X3_advance h l0) xm_X3_advance (tw348) rfl (Nat.le_of_ble_eq_true rfl) (xRm.in (show 7 + 1 ≤ 9 + (d + 1) by omega) (show 8 + (1 + 11) + 188 ≤ 229 + (d + 1) * 22 by omega)) ⟨rfl, rfl⟩ (fun q2 => ?_)
      refine s_aload_n (i := 16) rfl 0 rfl ?_
      refine u_callVi (kk := 3) [] l0 [] rfl (i := 17) rfl (hr_X3_readNot q2 l0) (xm_X3_readNot _) (tw405) rfl (Nat.le_of_ble_eq_true rfl) (xRm.in (show 9 + d + 1 ≤ 9 + (d + 1) by omega) (show 8 + (1 + 11) + (229 + d * 22) ≤ 229 + (d + 1) * 22 by rw [Nat.succ_mul]; omega)) ⟨rfl, rfl⟩ (fun q3 => ?_)
      refine s_ifne (i := 18) rfl (tgt := 40) (by decide) (fun z35 => ?_) (fun z35 => ?_)
      · refine s_iconst (i := 19) rfl (v := (0 : Int32)) (by decide) ?_
        exact s_zret (i := 20) rfl rfl
      · refine s_aload_n (i := 21) rfl 0 rfl ?_
        refine s_bipush (i := 22) rfl (v := (-14 : Int32)) (by decide) ?_
        refine u_callVv (kk := 3) [tI ((-14 : Int32))] l0 [] rfl (i := 23) rfl (c_X3_addStep q3.2 l0 ((-14 : Int32))) xm_X3_addStep (tw425) rfl (Nat.le_of_ble_eq_true rfl) (xRm.in (show 1 + 1 ≤ 9 + (d + 1) by omega) (show 8 + (2 + 11) + 60 ≤ 229 + (d + 1) * 22 by omega)) ⟨rfl, rfl⟩ (fun q4 => ?_)
        refine s_inc (i := 24) rfl 1 rfl (c9 := (1 : Int32)) (by decide) (Nat.le_of_ble_eq_true rfl) (fun v5 => ?_)
        refine s_ls (ls2 := [(1, tI v5), (0, tA l0)]) rfl ?_
        refine s_goto (i := 25) rfl (tgt := 11) (by decide) ?_
        exact s_sub [1, 0] rfl (hk_11 q4 l0 v5)
    · exact s_sub [] rfl (b_X3_readBoth_52 X d r_X3_readNot hr_X3_readNot h)
  · exact s_sub [] rfl (b_X3_readBoth_52 X d r_X3_readNot hr_X3_readNot h)
theorem b_X3_readBoth_11 (X : XX) (d : Nat) (r_X3_readNot : XM → Option Nat → Option (Int32 × XM)) (hr_X3_readNot : ∀ h a0, MC (I_X3_readNot d) y_X3_readNot [tA a0] h ρi (r_X3_readNot h a0)) : ∀ (n : Nat) (h : XM) (l0 : Option Nat) (l1 : Int32), SW X (I_X3_readBoth (d + 1)) ρi 11 [(0, tA l0), (1, tI l1)] [] h 0 0 (f_X3_readBoth_11 r_X3_readNot n h l0 l1) := by
  intro n
  induction n with
  | zero =>
    intro h l0 l1
    exact s_none
  | succ n ih =>
    intro h l0 l1
    exact bb_X3_readBoth_11 X d r_X3_readNot hr_X3_readNot (f_X3_readBoth_11 r_X3_readNot n) ih h l0 l1
theorem ce_X3_readBoth (d : Nat) (r_X3_readNot : XM → Option Nat → Option (Int32 × XM)) (hr_X3_readNot : ∀ h a0, MC (I_X3_readNot d) y_X3_readNot [tA a0] h ρi (r_X3_readNot h a0)) (h : XM) (a0 : Option Nat) : MC (I_X3_readBoth (d + 1)) y_X3_readBoth [tA a0] h ρi (fe_X3_readBoth r_X3_readNot h a0) := by
  refine MC_of ⟨by decide +kernel, rfl, rfl, Nat.le_of_ble_eq_true rfl⟩ dT_X3_readBoth (fun X => ?_)
  show SW X (I_X3_readBoth (d + 1)) ρi 0 [(0, tA a0)] [] h 0 0 (fe_X3_readBoth r_X3_readNot h a0)
  unfold fe_X3_readBoth
  refine s_aload_n (i := 0) rfl 0 rfl ?_
  refine u_callVi (kk := 3) [] a0 [] rfl (i := 1) rfl (hr_X3_readNot h a0) (xm_X3_readNot _) (tw405) rfl (Nat.le_of_ble_eq_true rfl) (xRm.in (show 9 + d + 1 ≤ 9 + (d + 1) by omega) (show 8 + (1 + 11) + (229 + d * 22) ≤ 229 + (d + 1) * 22 by rw [Nat.succ_mul]; omega)) ⟨rfl, rfl⟩ (fun q6 => ?_)
  refine s_ifne (i := 2) rfl (tgt := 9) (by decide) (fun z4 => ?_) (fun z4 => ?_)
  · refine s_iconst (i := 3) rfl (v := (0 : Int32)) (by decide) ?_
    exact s_zret (i := 4) rfl rfl
  · refine s_iconst (i := 5) rfl (v := (0 : Int32)) (by decide) ?_
    refine s_istore_n (i := 6) rfl (Nat.le_of_ble_eq_true rfl) (ls2 := [(1, tI ((0 : Int32))), (0, tA a0)]) rfl ?_
    exact s_sub [1, 0] rfl (b_X3_readBoth_11 X d r_X3_readNot hr_X3_readNot FU q6.2 a0 ((0 : Int32)))
theorem b_X3_readNot_28 (X : XX) (d : Nat) (r_X3_readNot : XM → Option Nat → Option (Int32 × XM)) (r_X3_readCompared : XM → Option Nat → Option (Int32 × XM)) (hr_X3_readNot : ∀ h a0, MC (I_X3_readNot d) y_X3_readNot [tA a0] h ρi (r_X3_readNot h a0)) (hr_X3_readCompared : ∀ h a0, MC (I_X3_readCompared d) y_X3_readCompared [tA a0] h ρi (r_X3_readCompared h a0)) (h : XM) : SW X (I_X3_readNot (d + 1)) ρi 28 [] [] h 0 0 (f_X3_readNot_28 r_X3_readNot r_X3_readCompared h) := by
  unfold f_X3_readNot_28
  refine s_iconst (i := 13) rfl (v := (0 : Int32)) (by decide) ?_
  exact s_zret (i := 14) rfl rfl
theorem ce_X3_readNot (d : Nat) (r_X3_readNot : XM → Option Nat → Option (Int32 × XM)) (r_X3_readCompared : XM → Option Nat → Option (Int32 × XM)) (hr_X3_readNot : ∀ h a0, MC (I_X3_readNot d) y_X3_readNot [tA a0] h ρi (r_X3_readNot h a0)) (hr_X3_readCompared : ∀ h a0, MC (I_X3_readCompared d) y_X3_readCompared [tA a0] h ρi (r_X3_readCompared h a0)) (h : XM) (a0 : Option Nat) : MC (I_X3_readNot (d + 1)) y_X3_readNot [tA a0] h ρi (fe_X3_readNot r_X3_readNot r_X3_readCompared h a0) := by
  refine MC_of ⟨by decide +kernel, rfl, rfl, Nat.le_of_ble_eq_true rfl⟩ dT_X3_readNot (fun X => ?_)
  show SW X (I_X3_readNot (d + 1)) ρi 0 [(0, tA a0)] [] h 0 0 (fe_X3_readNot r_X3_readNot r_X3_readCompared h a0)
  unfold fe_X3_readNot
  refine s_aload_n (i := 0) rfl 0 rfl ?_
  refine s_getI (i := 1) rfl xf_3_55.r rfl (fun v1 => ?_)
  refine s_bipush (i := 2) rfl (v := (11 : Int32)) (by decide) ?_
  refine s_icmpeq (i := 3) rfl (tgt := 14) (by decide) (fun z6 => ?_) (fun z6 => ?_)
  · refine s_aload_n (i := 7) rfl 0 rfl ?_
    refine u_callVi (kk := 3) [] a0 [] rfl (i := 8) rfl (c_X3_enter h a0) xm_X3_enter (tw429) rfl (Nat.le_of_ble_eq_true rfl) (xRm.in (show 8 + 1 ≤ 9 + (d + 1) by omega) (show 8 + (1 + 11) + 208 ≤ 229 + (d + 1) * 22 by omega)) ⟨rfl, rfl⟩ (fun q2 => ?_)
    refine s_ifeq (i := 9) rfl (tgt := 28) (by decide) (fun z18 => ?_) (fun z18 => ?_)
    · exact s_sub [] rfl (b_X3_readNot_28 X d r_X3_readNot r_X3_readCompared hr_X3_readNot hr_X3_readCompared q2.2)
    · refine s_aload_n (i := 10) rfl 0 rfl ?_
      refine u_callVi (kk := 3) [] a0 [] rfl (i := 11) rfl (hr_X3_readNot q2.2 a0) (xm_X3_readNot _) (tw405) rfl (Nat.le_of_ble_eq_true rfl) (xRm.in (show 9 + d + 1 ≤ 9 + (d + 1) by omega) (show 8 + (1 + 11) + (229 + d * 22) ≤ 229 + (d + 1) * 22 by rw [Nat.succ_mul]; omega)) ⟨rfl, rfl⟩ (fun q3 => ?_)
      refine s_ifne (i := 12) rfl (tgt := 30) (by decide) (fun z25 => ?_) (fun z25 => ?_)
      · exact s_sub [] rfl (b_X3_readNot_28 X d r_X3_readNot r_X3_readCompared hr_X3_readNot hr_X3_readCompared q3.2)
      · refine s_aload_n (i := 15) rfl 0 rfl ?_
        refine s_dup (i := 16) rfl rfl ?_
        refine s_getI (i := 17) rfl xf_3_42.r rfl (fun v4 => ?_)
        refine s_iconst (i := 18) rfl (v := (1 : Int32)) (by decide) ?_
        refine s_isub (i := 19) rfl ?_
        refine s_putI (i := 20) rfl xf_3_42 (fun q => by cases q) rfl rfl (fun h5 => ?_)
        refine s_aload_n (i := 21) rfl 0 rfl ?_
        refine s_bipush (i := 22) rfl (v := (-8 : Int32)) (by decide) ?_
        refine u_callVv (kk := 3) [tI ((-8 : Int32))] a0 [] rfl (i := 23) rfl (c_X3_addStep h5 a0 ((-8 : Int32))) xm_X3_addStep (tw425) rfl (Nat.le_of_ble_eq_true rfl) (xRm.in (show 1 + 1 ≤ 9 + (d + 1) by omega) (show 8 + (2 + 11) + 60 ≤ 229 + (d + 1) * 22 by omega)) ⟨rfl, rfl⟩ (fun q6 => ?_)
        refine s_iconst (i := 24) rfl (v := (1 : Int32)) (by decide) ?_
        exact s_zret (i := 25) rfl rfl
  · refine s_aload_n (i := 4) rfl 0 rfl ?_
    refine u_callVi (kk := 3) [] a0 [] rfl (i := 5) rfl (hr_X3_readCompared h a0) (xm_X3_readCompared _) (tw409) rfl (Nat.le_of_ble_eq_true rfl) (xRm.in (show 9 + d + 1 ≤ 9 + (d + 1) by omega) (show 8 + (2 + 11) + (229 + d * 22) ≤ 229 + (d + 1) * 22 by rw [Nat.succ_mul]; omega)) ⟨rfl, rfl⟩ (fun q7 => ?_)
    exact s_zret (i := 6) rfl rfl
theorem b_X3_readCompared_45 (X : XX) (d : Nat) (r_X3_readSum : XM → Option Nat → Option (Int32 × XM)) (hr_X3_readSum : ∀ h a0, MC (I_X3_readSum d) y_X3_readSum [tA a0] h ρi (r_X3_readSum h a0)) (h : XM) (l0 : Option Nat) (s0 : Int32) : SW X (I_X3_readCompared (d + 1)) ρi 45 [(0, tA l0)] [tI s0] h 0 0 (f_X3_readCompared_45 r_X3_readSum h l0 s0) := by
  unfold f_X3_readCompared_45
  refine s_istore_n (i := 22) rfl (Nat.le_of_ble_eq_true rfl) (ls2 := [(1, tI s0), (0, tA l0)]) rfl ?_
  refine s_aload_n (i := 23) rfl 1 rfl ?_
  refine u_callVv (kk := 3) [] l0 [] rfl (i := 24) rfl (c_X3_advance h l0) xm_X3_advance (tw348) rfl (Nat.le_of_ble_eq_true rfl) (xRm.in (show 7 + 1 ≤ 9 + (d + 1) by omega) (show 8 + (1 + 11) + 188 ≤ 229 + (d + 1) * 22 by omega)) ⟨rfl, rfl⟩ (fun q1 => ?_)
  refine s_aload_n (i := 25) rfl 1 rfl ?_
  refine u_callVi (kk := 3) [] l0 [] rfl (i := 26) rfl (hr_X3_readSum q1 l0) (xm_X3_readSum _) (tw413) rfl (Nat.le_of_ble_eq_true rfl) (xRm.in (show 9 + d + 1 ≤ 9 + (d + 1) by omega) (show 8 + (3 + 11) + (229 + d * 22) ≤ 229 + (d + 1) * 22 by rw [Nat.succ_mul]; omega)) ⟨rfl, rfl⟩ (fun q2 => ?_)
  refine s_ifne (i := 27) rfl (tgt := 59) (by decide) (fun z54 => ?_) (fun z54 => ?_)
  · refine s_iconst (i := 28) rfl (v := (0 : Int32)) (by decide) ?_
    exact s_zret (i := 29) rfl rfl
  · refine s_aload_n (i := 30) rfl 1 rfl ?_
    refine s_iload_n (i := 31) rfl 0 rfl ?_
    refine u_callVv (kk := 3) [tI s0] l0 [] rfl (i := 32) rfl (c_X3_addStep q2.2 l0 s0) xm_X3_addStep (tw425) rfl (Nat.le_of_ble_eq_true rfl) (xRm.in (show 1 + 1 ≤ 9 + (d + 1) by omega) (show 8 + (2 + 11) + 60 ≤ 229 + (d + 1) * 22 by omega)) ⟨rfl, rfl⟩ (fun q3 => ?_)
    refine s_iconst (i := 33) rfl (v := (1 : Int32)) (by decide) ?_
    exact s_zret (i := 34) rfl rfl
theorem b_X3_readCompared_29 (X : XX) (d : Nat) (r_X3_readSum : XM → Option Nat → Option (Int32 × XM)) (hr_X3_readSum : ∀ h a0, MC (I_X3_readSum d) y_X3_readSum [tA a0] h ρi (r_X3_readSum h a0)) (h : XM) (l0 : Option Nat) : SW X (I_X3_readCompared (d + 1)) ρi 29 [(0, tA l0)] [] h 0 0 (f_X3_readCompared_29 r_X3_readSum h l0) := by
  unfold f_X3_readCompared_29
  refine s_aload_n (i := 15) rfl 0 rfl ?_
  refine s_getI (i := 16) rfl xf_3_55.r rfl (fun v4 => ?_)
  refine s_bipush (i := 17) rfl (v := (60 : Int32)) (by decide) ?_
  refine s_icmpne (i := 18) rfl (tgt := 43) (by decide) (fun z35 => ?_) (fun z35 => ?_)
  · refine s_bipush (i := 19) rfl (v := (-12 : Int32)) (by decide) ?_
    refine s_goto (i := 20) rfl (tgt := 45) (by decide) ?_
    exact s_sub [0] rfl (b_X3_readCompared_45 X d r_X3_readSum hr_X3_readSum h l0 ((-12 : Int32)))
  · refine s_bipush (i := 21) rfl (v := (-13 : Int32)) (by decide) ?_
    exact s_sub [0] rfl (b_X3_readCompared_45 X d r_X3_readSum hr_X3_readSum h l0 ((-13 : Int32)))
theorem ce_X3_readCompared (d : Nat) (r_X3_readSum : XM → Option Nat → Option (Int32 × XM)) (hr_X3_readSum : ∀ h a0, MC (I_X3_readSum d) y_X3_readSum [tA a0] h ρi (r_X3_readSum h a0)) (h : XM) (a0 : Option Nat) : MC (I_X3_readCompared (d + 1)) y_X3_readCompared [tA a0] h ρi (fe_X3_readCompared r_X3_readSum h a0) := by
  refine MC_of ⟨by decide +kernel, rfl, rfl, Nat.le_of_ble_eq_true rfl⟩ dT_X3_readCompared (fun X => ?_)
  show SW X (I_X3_readCompared (d + 1)) ρi 0 [(0, tA a0)] [] h 0 0 (fe_X3_readCompared r_X3_readSum h a0)
  unfold fe_X3_readCompared
  refine s_aload_n (i := 0) rfl 0 rfl ?_
  refine u_callVi (kk := 3) [] a0 [] rfl (i := 1) rfl (hr_X3_readSum h a0) (xm_X3_readSum _) (tw413) rfl (Nat.le_of_ble_eq_true rfl) (xRm.in (show 9 + d + 1 ≤ 9 + (d + 1) by omega) (show 8 + (3 + 11) + (229 + d * 22) ≤ 229 + (d + 1) * 22 by rw [Nat.succ_mul]; omega)) ⟨rfl, rfl⟩ (fun q5 => ?_)
  refine s_ifne (i := 2) rfl (tgt := 9) (by decide) (fun z4 => ?_) (fun z4 => ?_)
  · refine s_iconst (i := 3) rfl (v := (0 : Int32)) (by decide) ?_
    exact s_zret (i := 4) rfl rfl
  · refine s_aload_n (i := 5) rfl 0 rfl ?_
    refine s_getI (i := 6) rfl xf_3_55.r rfl (fun v6 => ?_)
    refine s_bipush (i := 7) rfl (v := (60 : Int32)) (by decide) ?_
    refine s_icmpeq (i := 8) rfl (tgt := 29) (by decide) (fun z15 => ?_) (fun z15 => ?_)
    · exact s_sub [0] rfl (b_X3_readCompared_29 X d r_X3_readSum hr_X3_readSum q5.2 a0)
    · refine s_aload_n (i := 9) rfl 0 rfl ?_
      refine s_getI (i := 10) rfl xf_3_55.r rfl (fun v7 => ?_)
      refine s_bipush (i := 11) rfl (v := (61 : Int32)) (by decide) ?_
      refine s_icmpeq (i := 12) rfl (tgt := 29) (by decide) (fun z24 => ?_) (fun z24 => ?_)
      · exact s_sub [0] rfl (b_X3_readCompared_29 X d r_X3_readSum hr_X3_readSum q5.2 a0)
      · refine s_iconst (i := 13) rfl (v := (1 : Int32)) (by decide) ?_
        exact s_zret (i := 14) rfl rfl
theorem b_X3_readSum_52 (X : XX) (d : Nat) (r_X3_readTerm : XM → Option Nat → Option (Int32 × XM)) (hr_X3_readTerm : ∀ h a0, MC (I_X3_readTerm d) y_X3_readTerm [tA a0] h ρi (r_X3_readTerm h a0)) (k_11 : XM → Option Nat → Int32 → Option (Int32 × XM)) (hk_11 : ∀ h l0 l1, SW X (I_X3_readSum (d + 1)) ρi 11 [(0, tA l0), (1, tI l1)] [] h 0 0 (k_11 h l0 l1)) (h : XM) (l0 : Option Nat) (l1 : Int32) (s0 : Int32) : SW X (I_X3_readSum (d + 1)) ρi 52 [(0, tA l0), (1, tI l1)] [tI s0] h 0 0 (f_X3_readSum_52 r_X3_readTerm k_11 h l0 l1 s0) := by
  unfold f_X3_readSum_52
  refine s_istore_n (i := 25) rfl (Nat.le_of_ble_eq_true rfl) (ls2 := [(2, tI s0), (0, tA l0), (1, tI l1)]) rfl ?_
  refine s_aload_n (i := 26) rfl 1 rfl ?_
  refine u_callVv (kk := 3) [] l0 [] rfl (i := 27) rfl (c_X3_advance h l0) xm_X3_advance (tw348) rfl (Nat.le_of_ble_eq_true rfl) (xRm.in (show 7 + 1 ≤ 9 + (d + 1) by omega) (show 8 + (1 + 11) + 188 ≤ 229 + (d + 1) * 22 by omega)) ⟨rfl, rfl⟩ (fun q1 => ?_)
  refine s_aload_n (i := 28) rfl 1 rfl ?_
  refine u_callVi (kk := 3) [] l0 [] rfl (i := 29) rfl (hr_X3_readTerm q1 l0) (xm_X3_readTerm _) (tw417) rfl (Nat.le_of_ble_eq_true rfl) (xRm.in (show 9 + d + 1 ≤ 9 + (d + 1) by omega) (show 8 + (2 + 11) + (229 + d * 22) ≤ 229 + (d + 1) * 22 by rw [Nat.succ_mul]; omega)) ⟨rfl, rfl⟩ (fun q2 => ?_)
  refine s_ifne (i := 30) rfl (tgt := 66) (by decide) (fun z61 => ?_) (fun z61 => ?_)
  · refine s_iconst (i := 31) rfl (v := (0 : Int32)) (by decide) ?_
    exact s_zret (i := 32) rfl rfl
  · refine s_aload_n (i := 33) rfl 1 rfl ?_
    refine s_iload_n (i := 34) rfl 0 rfl ?_
    refine u_callVv (kk := 3) [tI s0] l0 [] rfl (i := 35) rfl (c_X3_addStep q2.2 l0 s0) xm_X3_addStep (tw425) rfl (Nat.le_of_ble_eq_true rfl) (xRm.in (show 1 + 1 ≤ 9 + (d + 1) by omega) (show 8 + (2 + 11) + 60 ≤ 229 + (d + 1) * 22 by omega)) ⟨rfl, rfl⟩ (fun q3 => ?_)
    refine s_inc (i := 36) rfl 2 rfl (c9 := (1 : Int32)) (by decide) (Nat.le_of_ble_eq_true rfl) (fun v4 => ?_)
    refine s_ls (ls2 := [(1, tI v4), (2, tI s0), (0, tA l0)]) rfl ?_
    refine s_goto (i := 37) rfl (tgt := 11) (by decide) ?_
    exact s_sub [2, 0] rfl (hk_11 q3 l0 v4)
theorem b_X3_readSum_36 (X : XX) (d : Nat) (r_X3_readTerm : XM → Option Nat → Option (Int32 × XM)) (hr_X3_readTerm : ∀ h a0, MC (I_X3_readTerm d) y_X3_readTerm [tA a0] h ρi (r_X3_readTerm h a0)) (k_11 : XM → Option Nat → Int32 → Option (Int32 × XM)) (hk_11 : ∀ h l0 l1, SW X (I_X3_readSum (d + 1)) ρi 11 [(0, tA l0), (1, tI l1)] [] h 0 0 (k_11 h l0 l1)) (h : XM) (l0 : Option Nat) (l1 : Int32) : SW X (I_X3_readSum (d + 1)) ρi 36 [(0, tA l0), (1, tI l1)] [] h 0 0 (f_X3_readSum_36 r_X3_readTerm k_11 h l0 l1) := by
  unfold f_X3_readSum_36
  refine s_aload_n (i := 18) rfl 0 rfl ?_
  refine s_getI (i := 19) rfl xf_3_55.r rfl (fun v5 => ?_)
  refine s_bipush (i := 20) rfl (v := (43 : Int32)) (by decide) ?_
  refine s_icmpne (i := 21) rfl (tgt := 50) (by decide) (fun z42 => ?_) (fun z42 => ?_)
  · refine s_bipush (i := 22) rfl (v := (-9 : Int32)) (by decide) ?_
    refine s_goto (i := 23) rfl (tgt := 52) (by decide) ?_
    exact s_sub [0, 1] rfl (b_X3_readSum_52 X d r_X3_readTerm hr_X3_readTerm k_11 hk_11 h l0 l1 ((-9 : Int32)))
  · refine s_bipush (i := 24) rfl (v := (-10 : Int32)) (by decide) ?_
    exact s_sub [0, 1] rfl (b_X3_readSum_52 X d r_X3_readTerm hr_X3_readTerm k_11 hk_11 h l0 l1 ((-10 : Int32)))
theorem b_X3_readSum_77 (X : XX) (d : Nat) (r_X3_readTerm : XM → Option Nat → Option (Int32 × XM)) (hr_X3_readTerm : ∀ h a0, MC (I_X3_readTerm d) y_X3_readTerm [tA a0] h ρi (r_X3_readTerm h a0)) (h : XM) : SW X (I_X3_readSum (d + 1)) ρi 77 [] [] h 0 0 (f_X3_readSum_77 r_X3_readTerm h) := by
  unfold f_X3_readSum_77
  refine s_iconst (i := 38) rfl (v := (1 : Int32)) (by decide) ?_
  exact s_zret (i := 39) rfl rfl
theorem bb_X3_readSum_11 (X : XX) (d : Nat) (r_X3_readTerm : XM → Option Nat → Option (Int32 × XM)) (hr_X3_readTerm : ∀ h a0, MC (I_X3_readTerm d) y_X3_readTerm [tA a0] h ρi (r_X3_readTerm h a0)) (k_11 : XM → Option Nat → Int32 → Option (Int32 × XM)) (hk_11 : ∀ h l0 l1, SW X (I_X3_readSum (d + 1)) ρi 11 [(0, tA l0), (1, tI l1)] [] h 0 0 (k_11 h l0 l1)) (h : XM) (l0 : Option Nat) (l1 : Int32) : SW X (I_X3_readSum (d + 1)) ρi 11 [(0, tA l0), (1, tI l1)] [] h 0 0 (fb_X3_readSum_11 r_X3_readTerm k_11 h l0 l1) := by
  unfold fb_X3_readSum_11
  refine s_iload_n (i := 7) rfl 1 rfl ?_
  refine s_sipush (i := 8) rfl (v := (160 : Int32)) (by decide) ?_
  refine s_icmpge (i := 9) rfl (tgt := 77) (by decide) (fun z15 => ?_) (fun z15 => ?_)
  · refine s_aload_n (i := 10) rfl 0 rfl ?_
    refine s_getI (i := 11) rfl xf_3_55.r rfl (fun v6 => ?_)
    refine s_bipush (i := 12) rfl (v := (43 : Int32)) (by decide) ?_
    refine s_icmpeq (i := 13) rfl (tgt := 36) (by decide) (fun z24 => ?_) (fun z24 => ?_)
    · exact s_sub [0, 1] rfl (b_X3_readSum_36 X d r_X3_readTerm hr_X3_readTerm k_11 hk_11 h l0 l1)
    · refine s_aload_n (i := 14) rfl 0 rfl ?_
      refine s_getI (i := 15) rfl xf_3_55.r rfl (fun v7 => ?_)
      refine s_bipush (i := 16) rfl (v := (45 : Int32)) (by decide) ?_
      refine s_icmpne (i := 17) rfl (tgt := 77) (by decide) (fun z33 => ?_) (fun z33 => ?_)
      · exact s_sub [0, 1] rfl (b_X3_readSum_36 X d r_X3_readTerm hr_X3_readTerm k_11 hk_11 h l0 l1)
      · exact s_sub [] rfl (b_X3_readSum_77 X d r_X3_readTerm hr_X3_readTerm h)
  · exact s_sub [] rfl (b_X3_readSum_77 X d r_X3_readTerm hr_X3_readTerm h)
theorem b_X3_readSum_11 (X : XX) (d : Nat) (r_X3_readTerm : XM → Option Nat → Option (Int32 × XM)) (hr_X3_readTerm : ∀ h a0, MC (I_X3_readTerm d) y_X3_readTerm [tA a0] h ρi (r_X3_readTerm h a0)) : ∀ (n : Nat) (h : XM) (l0 : Option Nat) (l1 : Int32), SW X (I_X3_readSum (d + 1)) ρi 11 [(0, tA l0), (1, tI l1)] [] h 0 0 (f_X3_readSum_11 r_X3_readTerm n h l0 l1) := by
  intro n
  induction n with
  | zero =>
    intro h l0 l1
    exact s_none
  | succ n ih =>
    intro h l0 l1
    exact bb_X3_readSum_11 X d r_X3_readTerm hr_X3_readTerm (f_X3_readSum_11 r_X3_readTerm n) ih h l0 l1
theorem ce_X3_readSum (d : Nat) (r_X3_readTerm : XM → Option Nat → Option (Int32 × XM)) (hr_X3_readTerm : ∀ h a0, MC (I_X3_readTerm d) y_X3_readTerm [tA a0] h ρi (r_X3_readTerm h a0)) (h : XM) (a0 : Option Nat) : MC (I_X3_readSum (d + 1)) y_X3_readSum [tA a0] h ρi (fe_X3_readSum r_X3_readTerm h a0) := by
  refine MC_of ⟨by decide +kernel, rfl, rfl, Nat.le_of_ble_eq_true rfl⟩ dT_X3_readSum (fun X => ?_)
  show SW X (I_X3_readSum (d + 1)) ρi 0 [(0, tA a0)] [] h 0 0 (fe_X3_readSum r_X3_readTerm h a0)
  unfold fe_X3_readSum
  refine s_aload_n (i := 0) rfl 0 rfl ?_
  refine u_callVi (kk := 3) [] a0 [] rfl (i := 1) rfl (hr_X3_readTerm h a0) (xm_X3_readTerm _) (tw417) rfl (Nat.le_of_ble_eq_true rfl) (xRm.in (show 9 + d + 1 ≤ 9 + (d + 1) by omega) (show 8 + (2 + 11) + (229 + d * 22) ≤ 229 + (d + 1) * 22 by rw [Nat.succ_mul]; omega)) ⟨rfl, rfl⟩ (fun q8 => ?_)
  refine s_ifne (i := 2) rfl (tgt := 9) (by decide) (fun z4 => ?_) (fun z4 => ?_)
  · refine s_iconst (i := 3) rfl (v := (0 : Int32)) (by decide) ?_
    exact s_zret (i := 4) rfl rfl
  · refine s_iconst (i := 5) rfl (v := (0 : Int32)) (by decide) ?_
    refine s_istore_n (i := 6) rfl (Nat.le_of_ble_eq_true rfl) (ls2 := [(1, tI ((0 : Int32))), (0, tA a0)]) rfl ?_
    exact s_sub [1, 0] rfl (b_X3_readSum_11 X d r_X3_readTerm hr_X3_readTerm FU q8.2 a0 ((0 : Int32)))
theorem b_X3_readTerm_52 (X : XX) (d : Nat) (r_X3_readOne : XM → Option Nat → Option (Int32 × XM)) (hr_X3_readOne : ∀ h a0, MC (I_X3_readOne d) y_X3_readOne [tA a0] h ρi (r_X3_readOne h a0)) (h : XM) : SW X (I_X3_readTerm (d + 1)) ρi 52 [] [] h 0 0 (f_X3_readTerm_52 r_X3_readOne h) := by
  unfold f_X3_readTerm_52
  refine s_iconst (i := 26) rfl (v := (1 : Int32)) (by decide) ?_
  exact s_zret (i := 27) rfl rfl
theorem bb_X3_readTerm_11 (X : XX) (d : Nat) (r_X3_readOne : XM → Option Nat → Option (Int32 × XM)) (hr_X3_readOne : ∀ h a0, MC (I_X3_readOne d) y_X3_readOne [tA a0] h ρi (r_X3_readOne h a0)) (k_11 : XM → Option Nat → Int32 → Option (Int32 × XM)) (hk_11 : ∀ h l0 l1, SW X (I_X3_readTerm (d + 1)) ρi 11 [(0, tA l0), (1, tI l1)] [] h 0 0 (k_11 h l0 l1)) (h : XM) (l0 : Option Nat) (l1 : Int32) : SW X (I_X3_readTerm (d + 1)) ρi 11 [(0, tA l0), (1, tI l1)] [] h 0 0 (fb_X3_readTerm_11 r_X3_readOne k_11 h l0 l1) := by
  unfold fb_X3_readTerm_11
  refine s_iload_n (i := 7) rfl 1 rfl ?_
  refine s_sipush (i := 8) rfl (v := (160 : Int32)) (by decide) ?_
  refine s_icmpge (i := 9) rfl (tgt := 52) (by decide) (fun z15 => ?_) (fun z15 => ?_)
  · refine s_aload_n (i := 10) rfl 0 rfl ?_
    refine s_getI (i := 11) rfl xf_3_55.r rfl (fun v1 => ?_)
    refine s_bipush (i := 12) rfl (v := (42 : Int32)) (by decide) ?_
    refine s_icmpne (i := 13) rfl (tgt := 52) (by decide) (fun z24 => ?_) (fun z24 => ?_)
    · refine s_aload_n (i := 14) rfl 0 rfl ?_
      refine u_callVv (kk := 3) [] l0 [] rfl (i := 15) rfl (c_X3_advance h l0) xm_X3_advance (tw348) rfl (Nat.le_of_ble_eq_true rfl) (xRm.in (show 7 + 1 ≤ 9 + (d + 1) by omega) (show 8 + (1 + 11) + 188 ≤ 229 + (d + 1) * 22 by omega)) ⟨rfl, rfl⟩ (fun q2 => ?_)
      refine s_aload_n (i := 16) rfl 0 rfl ?_
      refine u_callVi (kk := 3) [] l0 [] rfl (i := 17) rfl (hr_X3_readOne q2 l0) (xm_X3_readOne _) (tw421) rfl (Nat.le_of_ble_eq_true rfl) (xRm.in (show 9 + d + 1 ≤ 9 + (d + 1) by omega) (show 8 + (1 + 11) + (229 + d * 22) ≤ 229 + (d + 1) * 22 by rw [Nat.succ_mul]; omega)) ⟨rfl, rfl⟩ (fun q3 => ?_)
      refine s_ifne (i := 18) rfl (tgt := 40) (by decide) (fun z35 => ?_) (fun z35 => ?_)
      · refine s_iconst (i := 19) rfl (v := (0 : Int32)) (by decide) ?_
        exact s_zret (i := 20) rfl rfl
      · refine s_aload_n (i := 21) rfl 0 rfl ?_
        refine s_bipush (i := 22) rfl (v := (-11 : Int32)) (by decide) ?_
        refine u_callVv (kk := 3) [tI ((-11 : Int32))] l0 [] rfl (i := 23) rfl (c_X3_addStep q3.2 l0 ((-11 : Int32))) xm_X3_addStep (tw425) rfl (Nat.le_of_ble_eq_true rfl) (xRm.in (show 1 + 1 ≤ 9 + (d + 1) by omega) (show 8 + (2 + 11) + 60 ≤ 229 + (d + 1) * 22 by omega)) ⟨rfl, rfl⟩ (fun q4 => ?_)
        refine s_inc (i := 24) rfl 1 rfl (c9 := (1 : Int32)) (by decide) (Nat.le_of_ble_eq_true rfl) (fun v5 => ?_)
        refine s_ls (ls2 := [(1, tI v5), (0, tA l0)]) rfl ?_
        refine s_goto (i := 25) rfl (tgt := 11) (by decide) ?_
        exact s_sub [1, 0] rfl (hk_11 q4 l0 v5)
    · exact s_sub [] rfl (b_X3_readTerm_52 X d r_X3_readOne hr_X3_readOne h)
  · exact s_sub [] rfl (b_X3_readTerm_52 X d r_X3_readOne hr_X3_readOne h)
theorem b_X3_readTerm_11 (X : XX) (d : Nat) (r_X3_readOne : XM → Option Nat → Option (Int32 × XM)) (hr_X3_readOne : ∀ h a0, MC (I_X3_readOne d) y_X3_readOne [tA a0] h ρi (r_X3_readOne h a0)) : ∀ (n : Nat) (h : XM) (l0 : Option Nat) (l1 : Int32), SW X (I_X3_readTerm (d + 1)) ρi 11 [(0, tA l0), (1, tI l1)] [] h 0 0 (f_X3_readTerm_11 r_X3_readOne n h l0 l1) := by
  intro n
  induction n with
  | zero =>
    intro h l0 l1
    exact s_none
  | succ n ih =>
    intro h l0 l1
    exact bb_X3_readTerm_11 X d r_X3_readOne hr_X3_readOne (f_X3_readTerm_11 r_X3_readOne n) ih h l0 l1
theorem ce_X3_readTerm (d : Nat) (r_X3_readOne : XM → Option Nat → Option (Int32 × XM)) (hr_X3_readOne : ∀ h a0, MC (I_X3_readOne d) y_X3_readOne [tA a0] h ρi (r_X3_readOne h a0)) (h : XM) (a0 : Option Nat) : MC (I_X3_readTerm (d + 1)) y_X3_readTerm [tA a0] h ρi (fe_X3_readTerm r_X3_readOne h a0) := by
  refine MC_of ⟨by decide +kernel, rfl, rfl, Nat.le_of_ble_eq_true rfl⟩ dT_X3_readTerm (fun X => ?_)
  show SW X (I_X3_readTerm (d + 1)) ρi 0 [(0, tA a0)] [] h 0 0 (fe_X3_readTerm r_X3_readOne h a0)
  unfold fe_X3_readTerm
  refine s_aload_n (i := 0) rfl 0 rfl ?_
  refine u_callVi (kk := 3) [] a0 [] rfl (i := 1) rfl (hr_X3_readOne h a0) (xm_X3_readOne _) (tw421) rfl (Nat.le_of_ble_eq_true rfl) (xRm.in (show 9 + d + 1 ≤ 9 + (d + 1) by omega) (show 8 + (1 + 11) + (229 + d * 22) ≤ 229 + (d + 1) * 22 by rw [Nat.succ_mul]; omega)) ⟨rfl, rfl⟩ (fun q6 => ?_)
  refine s_ifne (i := 2) rfl (tgt := 9) (by decide) (fun z4 => ?_) (fun z4 => ?_)
  · refine s_iconst (i := 3) rfl (v := (0 : Int32)) (by decide) ?_
    exact s_zret (i := 4) rfl rfl
  · refine s_iconst (i := 5) rfl (v := (0 : Int32)) (by decide) ?_
    refine s_istore_n (i := 6) rfl (Nat.le_of_ble_eq_true rfl) (ls2 := [(1, tI ((0 : Int32))), (0, tA a0)]) rfl ?_
    exact s_sub [1, 0] rfl (b_X3_readTerm_11 X d r_X3_readOne hr_X3_readOne FU q6.2 a0 ((0 : Int32)))
theorem b_X3_readOne_50 (X : XX) (d : Nat) (r_X3_readEither : XM → Option Nat → Option (Int32 × XM)) (r_X3_readOne : XM → Option Nat → Option (Int32 × XM)) (hr_X3_readEither : ∀ h a0, MC (I_X3_readEither d) y_X3_readEither [tA a0] h ρi (r_X3_readEither h a0)) (hr_X3_readOne : ∀ h a0, MC (I_X3_readOne d) y_X3_readOne [tA a0] h ρi (r_X3_readOne h a0)) (h : XM) (l0 : Option Nat) (s0 : Int32) (s1 : Option Nat) : SW X (I_X3_readOne (d + 1)) ρi 50 [(0, tA l0)] [tI s0, tA s1] h 0 0 (f_X3_readOne_50 r_X3_readEither r_X3_readOne h l0 s0 s1) := by
  unfold f_X3_readOne_50
  refine u_callVv (kk := 3) [tI s0] s1 [] rfl (i := 23) rfl (c_X3_addStep h s1 s0) xm_X3_addStep (tw425) rfl (Nat.le_of_ble_eq_true rfl) (xRm.in (show 1 + 1 ≤ 9 + (d + 1) by omega) (show 8 + (2 + 11) + 60 ≤ 229 + (d + 1) * 22 by omega)) ⟨rfl, rfl⟩ (fun q1 => ?_)
  refine s_aload_n (i := 24) rfl 0 rfl ?_
  refine u_callVv (kk := 3) [] l0 [] rfl (i := 25) rfl (c_X3_advance q1 l0) xm_X3_advance (tw348) rfl (Nat.le_of_ble_eq_true rfl) (xRm.in (show 7 + 1 ≤ 9 + (d + 1) by omega) (show 8 + (1 + 11) + 188 ≤ 229 + (d + 1) * 22 by omega)) ⟨rfl, rfl⟩ (fun q2 => ?_)
  refine s_iconst (i := 26) rfl (v := (1 : Int32)) (by decide) ?_
  exact s_zret (i := 27) rfl rfl
theorem b_X3_readOne_26 (X : XX) (d : Nat) (r_X3_readEither : XM → Option Nat → Option (Int32 × XM)) (r_X3_readOne : XM → Option Nat → Option (Int32 × XM)) (hr_X3_readEither : ∀ h a0, MC (I_X3_readEither d) y_X3_readEither [tA a0] h ρi (r_X3_readEither h a0)) (hr_X3_readOne : ∀ h a0, MC (I_X3_readOne d) y_X3_readOne [tA a0] h ρi (r_X3_readOne h a0)) (h : XM) (l0 : Option Nat) : SW X (I_X3_readOne (d + 1)) ρi 26 [(0, tA l0)] [] h 0 0 (f_X3_readOne_26 r_X3_readEither r_X3_readOne h l0) := by
  unfold f_X3_readOne_26
  refine s_aload_n (i := 11) rfl 0 rfl ?_
  refine s_aload_n (i := 12) rfl 0 rfl ?_
  refine s_getI (i := 13) rfl xf_3_55.r rfl (fun v3 => ?_)
  refine s_sipush (i := 14) rfl (v := (256 : Int32)) (by decide) ?_
  refine s_icmpne (i := 15) rfl (tgt := 44) (by decide) (fun z34 => ?_) (fun z34 => ?_)
  · refine s_aload_n (i := 16) rfl 0 rfl ?_
    refine s_getI (i := 17) rfl xf_3_107.r rfl (fun v4 => ?_)
    refine s_goto (i := 18) rfl (tgt := 50) (by decide) ?_
    exact s_sub [0] rfl (b_X3_readOne_50 X d r_X3_readEither r_X3_readOne hr_X3_readEither hr_X3_readOne h l0 v4 l0)
  · refine s_iconst (i := 19) rfl (v := (-1 : Int32)) (by decide) ?_
    refine s_aload_n (i := 20) rfl 0 rfl ?_
    refine s_getI (i := 21) rfl xf_3_55.r rfl (fun v5 => ?_)
    refine s_isub (i := 22) rfl ?_
    exact s_sub [0] rfl (b_X3_readOne_50 X d r_X3_readEither r_X3_readOne hr_X3_readEither hr_X3_readOne h l0 (((-1 : Int32)) - v5) l0)
theorem b_X3_readOne_82 (X : XX) (d : Nat) (r_X3_readEither : XM → Option Nat → Option (Int32 × XM)) (r_X3_readOne : XM → Option Nat → Option (Int32 × XM)) (hr_X3_readEither : ∀ h a0, MC (I_X3_readEither d) y_X3_readEither [tA a0] h ρi (r_X3_readEither h a0)) (hr_X3_readOne : ∀ h a0, MC (I_X3_readOne d) y_X3_readOne [tA a0] h ρi (r_X3_readOne h a0)) (h : XM) : SW X (I_X3_readOne (d + 1)) ρi 82 [] [] h 0 0 (f_X3_readOne_82 r_X3_readEither r_X3_readOne h) := by
  unfold f_X3_readOne_82
  refine s_iconst (i := 38) rfl (v := (0 : Int32)) (by decide) ?_
  exact s_zret (i := 39) rfl rfl
theorem b_X3_readOne_134 (X : XX) (d : Nat) (r_X3_readEither : XM → Option Nat → Option (Int32 × XM)) (r_X3_readOne : XM → Option Nat → Option (Int32 × XM)) (hr_X3_readEither : ∀ h a0, MC (I_X3_readEither d) y_X3_readEither [tA a0] h ρi (r_X3_readEither h a0)) (hr_X3_readOne : ∀ h a0, MC (I_X3_readOne d) y_X3_readOne [tA a0] h ρi (r_X3_readOne h a0)) (h : XM) : SW X (I_X3_readOne (d + 1)) ρi 134 [] [] h 0 0 (f_X3_readOne_134 r_X3_readEither r_X3_readOne h) := by
  unfold f_X3_readOne_134
  refine s_iconst (i := 65) rfl (v := (0 : Int32)) (by decide) ?_
  exact s_zret (i := 66) rfl rfl
theorem b_X3_readOne_59 (X : XX) (d : Nat) (r_X3_readEither : XM → Option Nat → Option (Int32 × XM)) (r_X3_readOne : XM → Option Nat → Option (Int32 × XM)) (hr_X3_readEither : ∀ h a0, MC (I_X3_readEither d) y_X3_readEither [tA a0] h ρi (r_X3_readEither h a0)) (hr_X3_readOne : ∀ h a0, MC (I_X3_readOne d) y_X3_readOne [tA a0] h ρi (r_X3_readOne h a0)) (h : XM) (l0 : Option Nat) : SW X (I_X3_readOne (d + 1)) ρi 59 [(0, tA l0)] [] h 0 0 (f_X3_readOne_59 r_X3_readEither r_X3_readOne h l0) := by
  unfold f_X3_readOne_59
  refine s_aload_n (i := 28) rfl 0 rfl ?_
  refine s_getI (i := 29) rfl xf_3_55.r rfl (fun v6 => ?_)
  refine s_bipush (i := 30) rfl (v := (45 : Int32)) (by decide) ?_
  refine s_icmpne (i := 31) rfl (tgt := 102) (by decide) (fun z65 => ?_) (fun z65 => ?_)
  · refine s_aload_n (i := 32) rfl 0 rfl ?_
    refine u_callVi (kk := 3) [] l0 [] rfl (i := 33) rfl (c_X3_enter h l0) xm_X3_enter (tw429) rfl (Nat.le_of_ble_eq_true rfl) (xRm.in (show 8 + 1 ≤ 9 + (d + 1) by omega) (show 8 + (1 + 11) + 208 ≤ 229 + (d + 1) * 22 by omega)) ⟨rfl, rfl⟩ (fun q7 => ?_)
    refine s_ifeq (i := 34) rfl (tgt := 82) (by decide) (fun z72 => ?_) (fun z72 => ?_)
    · exact s_sub [] rfl (b_X3_readOne_82 X d r_X3_readEither r_X3_readOne hr_X3_readEither hr_X3_readOne q7.2)
    · refine s_aload_n (i := 35) rfl 0 rfl ?_
      refine u_callVi (kk := 3) [] l0 [] rfl (i := 36) rfl (hr_X3_readOne q7.2 l0) (xm_X3_readOne _) (tw421) rfl (Nat.le_of_ble_eq_true rfl) (xRm.in (show 9 + d + 1 ≤ 9 + (d + 1) by omega) (show 8 + (1 + 11) + (229 + d * 22) ≤ 229 + (d + 1) * 22 by rw [Nat.succ_mul]; omega)) ⟨rfl, rfl⟩ (fun q8 => ?_)
      refine s_ifne (i := 37) rfl (tgt := 84) (by decide) (fun z79 => ?_) (fun z79 => ?_)
      · exact s_sub [] rfl (b_X3_readOne_82 X d r_X3_readEither r_X3_readOne hr_X3_readEither hr_X3_readOne q8.2)
      · refine s_aload_n (i := 40) rfl 0 rfl ?_
        refine s_dup (i := 41) rfl rfl ?_
        refine s_getI (i := 42) rfl xf_3_42.r rfl (fun v9 => ?_)
        refine s_iconst (i := 43) rfl (v := (1 : Int32)) (by decide) ?_
        refine s_isub (i := 44) rfl ?_
        refine s_putI (i := 45) rfl xf_3_42 (fun q => by cases q) rfl rfl (fun h10 => ?_)
        refine s_aload_n (i := 46) rfl 0 rfl ?_
        refine s_bipush (i := 47) rfl (v := (-7 : Int32)) (by decide) ?_
        refine u_callVv (kk := 3) [tI ((-7 : Int32))] l0 [] rfl (i := 48) rfl (c_X3_addStep h10 l0 ((-7 : Int32))) xm_X3_addStep (tw425) rfl (Nat.le_of_ble_eq_true rfl) (xRm.in (show 1 + 1 ≤ 9 + (d + 1) by omega) (show 8 + (2 + 11) + 60 ≤ 229 + (d + 1) * 22 by omega)) ⟨rfl, rfl⟩ (fun q11 => ?_)
        refine s_iconst (i := 49) rfl (v := (1 : Int32)) (by decide) ?_
        exact s_zret (i := 50) rfl rfl
  · refine s_aload_n (i := 51) rfl 0 rfl ?_
    refine s_getI (i := 52) rfl xf_3_55.r rfl (fun v12 => ?_)
    refine s_bipush (i := 53) rfl (v := (40 : Int32)) (by decide) ?_
    refine s_icmpne (i := 54) rfl (tgt := 134) (by decide) (fun z108 => ?_) (fun z108 => ?_)
    · refine s_aload_n (i := 55) rfl 0 rfl ?_
      refine u_callVi (kk := 3) [] l0 [] rfl (i := 56) rfl (c_X3_enter h l0) xm_X3_enter (tw429) rfl (Nat.le_of_ble_eq_true rfl) (xRm.in (show 8 + 1 ≤ 9 + (d + 1) by omega) (show 8 + (1 + 11) + 208 ≤ 229 + (d + 1) * 22 by omega)) ⟨rfl, rfl⟩ (fun q13 => ?_)
      refine s_ifeq (i := 57) rfl (tgt := 134) (by decide) (fun z115 => ?_) (fun z115 => ?_)
      · exact s_sub [] rfl (b_X3_readOne_134 X d r_X3_readEither r_X3_readOne hr_X3_readEither hr_X3_readOne q13.2)
      · refine s_aload_n (i := 58) rfl 0 rfl ?_
        refine u_callVi (kk := 3) [] l0 [] rfl (i := 59) rfl (hr_X3_readEither q13.2 l0) (xm_X3_readEither _) (tw397) rfl (Nat.le_of_ble_eq_true rfl) (xRm.in (show 9 + d + 1 ≤ 9 + (d + 1) by omega) (show 8 + (2 + 11) + (229 + d * 22) ≤ 229 + (d + 1) * 22 by rw [Nat.succ_mul]; omega)) ⟨rfl, rfl⟩ (fun q14 => ?_)
        refine s_ifeq (i := 60) rfl (tgt := 134) (by decide) (fun z122 => ?_) (fun z122 => ?_)
        · exact s_sub [] rfl (b_X3_readOne_134 X d r_X3_readEither r_X3_readOne hr_X3_readEither hr_X3_readOne q14.2)
        · refine s_aload_n (i := 61) rfl 0 rfl ?_
          refine s_bipush (i := 62) rfl (v := (41 : Int32)) (by decide) ?_
          refine u_callVi (kk := 3) [tI ((41 : Int32))] l0 [] rfl (i := 63) rfl (c_X3_pass q14.2 l0 ((41 : Int32))) xm_X3_pass (tw393) rfl (Nat.le_of_ble_eq_true rfl) (xRm.in (show 8 + 1 ≤ 9 + (d + 1) by omega) (show 8 + (2 + 11) + 208 ≤ 229 + (d + 1) * 22 by omega)) ⟨rfl, rfl⟩ (fun q15 => ?_)
          refine s_ifne (i := 64) rfl (tgt := 136) (by decide) (fun z131 => ?_) (fun z131 => ?_)
          · exact s_sub [] rfl (b_X3_readOne_134 X d r_X3_readEither r_X3_readOne hr_X3_readEither hr_X3_readOne q15.2)
          · refine s_aload_n (i := 67) rfl 0 rfl ?_
            refine s_dup (i := 68) rfl rfl ?_
            refine s_getI (i := 69) rfl xf_3_42.r rfl (fun v16 => ?_)
            refine s_iconst (i := 70) rfl (v := (1 : Int32)) (by decide) ?_
            refine s_isub (i := 71) rfl ?_
            refine s_putI (i := 72) rfl xf_3_42 (fun q => by cases q) rfl rfl (fun h17 => ?_)
            refine s_iconst (i := 73) rfl (v := (1 : Int32)) (by decide) ?_
            exact s_zret (i := 74) rfl rfl
    · exact s_sub [] rfl (b_X3_readOne_134 X d r_X3_readEither r_X3_readOne hr_X3_readEither hr_X3_readOne h)
theorem ce_X3_readOne (d : Nat) (r_X3_readEither : XM → Option Nat → Option (Int32 × XM)) (r_X3_readOne : XM → Option Nat → Option (Int32 × XM)) (hr_X3_readEither : ∀ h a0, MC (I_X3_readEither d) y_X3_readEither [tA a0] h ρi (r_X3_readEither h a0)) (hr_X3_readOne : ∀ h a0, MC (I_X3_readOne d) y_X3_readOne [tA a0] h ρi (r_X3_readOne h a0)) (h : XM) (a0 : Option Nat) : MC (I_X3_readOne (d + 1)) y_X3_readOne [tA a0] h ρi (fe_X3_readOne r_X3_readEither r_X3_readOne h a0) := by
  refine MC_of ⟨by decide +kernel, rfl, rfl, Nat.le_of_ble_eq_true rfl⟩ dT_X3_readOne (fun X => ?_)
  show SW X (I_X3_readOne (d + 1)) ρi 0 [(0, tA a0)] [] h 0 0 (fe_X3_readOne r_X3_readEither r_X3_readOne h a0)
  unfold fe_X3_readOne
  refine s_aload_n (i := 0) rfl 0 rfl ?_
  refine s_getI (i := 1) rfl xf_3_55.r rfl (fun v18 => ?_)
  refine s_sipush (i := 2) rfl (v := (256 : Int32)) (by decide) ?_
  refine s_icmpeq (i := 3) rfl (tgt := 26) (by decide) (fun z7 => ?_) (fun z7 => ?_)
  · exact s_sub [0] rfl (b_X3_readOne_26 X d r_X3_readEither r_X3_readOne hr_X3_readEither hr_X3_readOne h a0)
  · refine s_aload_n (i := 4) rfl 0 rfl ?_
    refine s_getI (i := 5) rfl xf_3_55.r rfl (fun v19 => ?_)
    refine s_iflt (i := 6) rfl (tgt := 59) (by decide) (fun z14 => ?_) (fun z14 => ?_)
    · exact s_sub [0] rfl (b_X3_readOne_59 X d r_X3_readEither r_X3_readOne hr_X3_readEither hr_X3_readOne h a0)
    · refine s_aload_n (i := 7) rfl 0 rfl ?_
      refine s_getI (i := 8) rfl xf_3_55.r rfl (fun v20 => ?_)
      refine s_bipush (i := 9) rfl (v := (6 : Int32)) (by decide) ?_
      refine s_icmpge (i := 10) rfl (tgt := 59) (by decide) (fun z23 => ?_) (fun z23 => ?_)
      · exact s_sub [0] rfl (b_X3_readOne_26 X d r_X3_readEither r_X3_readOne hr_X3_readEither hr_X3_readOne h a0)
      · exact s_sub [0] rfl (b_X3_readOne_59 X d r_X3_readEither r_X3_readOne hr_X3_readEither hr_X3_readOne h a0)
theorem cg_X3_readEither : ∀ d : Nat, (∀ (h : XM) (a0 : Option Nat), MC (I_X3_readEither d) y_X3_readEither [tA a0] h ρi (f_X3_readEither d h a0)) ∧ (∀ (h : XM) (a0 : Option Nat), MC (I_X3_readBoth d) y_X3_readBoth [tA a0] h ρi (f_X3_readBoth d h a0)) ∧ (∀ (h : XM) (a0 : Option Nat), MC (I_X3_readNot d) y_X3_readNot [tA a0] h ρi (f_X3_readNot d h a0)) ∧ (∀ (h : XM) (a0 : Option Nat), MC (I_X3_readCompared d) y_X3_readCompared [tA a0] h ρi (f_X3_readCompared d h a0)) ∧ (∀ (h : XM) (a0 : Option Nat), MC (I_X3_readSum d) y_X3_readSum [tA a0] h ρi (f_X3_readSum d h a0)) ∧ (∀ (h : XM) (a0 : Option Nat), MC (I_X3_readTerm d) y_X3_readTerm [tA a0] h ρi (f_X3_readTerm d h a0)) ∧ (∀ (h : XM) (a0 : Option Nat), MC (I_X3_readOne d) y_X3_readOne [tA a0] h ρi (f_X3_readOne d h a0)) := by
  intro d
  induction d with
  | zero => exact ⟨fun _ _ => MC_none, fun _ _ => MC_none, fun _ _ => MC_none, fun _ _ => MC_none, fun _ _ => MC_none, fun _ _ => MC_none, fun _ _ => MC_none⟩
  | succ d ih => exact ⟨fun h a0 => ce_X3_readEither d (f_X3_readBoth d) ih.2.1 h a0, fun h a0 => ce_X3_readBoth d (f_X3_readNot d) ih.2.2.1 h a0, fun h a0 => ce_X3_readNot d (f_X3_readNot d) (f_X3_readCompared d) ih.2.2.1 ih.2.2.2.1 h a0, fun h a0 => ce_X3_readCompared d (f_X3_readSum d) ih.2.2.2.2.1 h a0, fun h a0 => ce_X3_readSum d (f_X3_readTerm d) ih.2.2.2.2.2.1 h a0, fun h a0 => ce_X3_readTerm d (f_X3_readOne d) ih.2.2.2.2.2.2 h a0, fun h a0 => ce_X3_readOne d (f_X3_readEither d) (f_X3_readOne d) ih.1 ih.2.2.2.2.2.2 h a0⟩
theorem c_X3_readEither (d : Nat) (h : XM) (a0 : Option Nat) : MC (I_X3_readEither d) y_X3_readEither [tA a0] h ρi (f_X3_readEither d h a0) := (cg_X3_readEither d).1 h a0
theorem c_X3_readBoth (d : Nat) (h : XM) (a0 : Option Nat) : MC (I_X3_readBoth d) y_X3_readBoth [tA a0] h ρi (f_X3_readBoth d h a0) := (cg_X3_readEither d).2.1 h a0
theorem c_X3_readNot (d : Nat) (h : XM) (a0 : Option Nat) : MC (I_X3_readNot d) y_X3_readNot [tA a0] h ρi (f_X3_readNot d h a0) := (cg_X3_readEither d).2.2.1 h a0
theorem c_X3_readCompared (d : Nat) (h : XM) (a0 : Option Nat) : MC (I_X3_readCompared d) y_X3_readCompared [tA a0] h ρi (f_X3_readCompared d h a0) := (cg_X3_readEither d).2.2.2.1 h a0
theorem c_X3_readSum (d : Nat) (h : XM) (a0 : Option Nat) : MC (I_X3_readSum d) y_X3_readSum [tA a0] h ρi (f_X3_readSum d h a0) := (cg_X3_readEither d).2.2.2.2.1 h a0
theorem c_X3_readTerm (d : Nat) (h : XM) (a0 : Option Nat) : MC (I_X3_readTerm d) y_X3_readTerm [tA a0] h ρi (f_X3_readTerm d h a0) := (cg_X3_readEither d).2.2.2.2.2.1 h a0
theorem c_X3_readOne (d : Nat) (h : XM) (a0 : Option Nat) : MC (I_X3_readOne d) y_X3_readOne [tA a0] h ρi (f_X3_readOne d h a0) := (cg_X3_readEither d).2.2.2.2.2.2 h a0
def y_X3_readPart : MethodName := ⟨"OpensAtNine$Reader", "readPart", "(II)Z"⟩
def T_X3_readPart : List (Nat × Instr × Nat × Nat) := [(0, .aload_n 0, 1, 1), (1, .iload_n 2, 1, 2), (2, .invokevirtual 75, 3, 5), (5, .ifCond .eq 19, 3, 8), (8, .aload_n 0, 1, 9), (9, .invokevirtual 79, 3, 12), (12, .ifCond .eq 12, 3, 15), (15, .aload_n 0, 1, 16), (16, .bipush 59, 2, 18), (18, .invokevirtual 75, 3, 21), (21, .ifCond .ne 5, 3, 24), (24, .iconst 0, 1, 25), (25, .ireturn, 1, 26), (26, .aload_n 0, 1, 27), (27, .getfield 18, 3, 30), (30, .iload_n 1, 1, 31), (31, .iconst 1, 1, 32), (32, .iadd, 1, 33), (33, .aload_n 0, 1, 34), (34, .getfield 45, 3, 37), (37, .iastore, 1, 38), (38, .iconst 1, 1, 39), (39, .ireturn, 1, 40)]
def I_X3_readPart : MI := (prog_5_method_5_code, 3, (some .boolean), "OpensAtNine$Reader", "readPart", T_X3_readPart, 0, 0, 90, 2010)
theorem dT_X3_readPart : ∀ q ∈ T_X3_readPart, decode prog_5_method_5_code q.1 = .ok (q.2.1, q.2.2.1) ∧ q.2.2.2 = q.1 + q.2.2.1 := by decide +kernel
theorem xm_X3_readPart : xCM y_X3_readPart I_X3_readPart 3 2 := ⟨⟨tw391, tw5⟩, tw74, tw392, ⟨xT3, 11, rfl⟩, ⟨by decide +kernel, by decide +kernel, by decide +kernel⟩⟩
noncomputable def f_X3_readPart_24 (h : XM) : Option (Int32 × XM) := rz h ((0 : Int32))
noncomputable def f_X3_readPart (h : XM) (a0 : Option Nat) (a1 : Int32) (a2 : Int32) : Option (Int32 × XM) := (vc h 3 a0 (f_X3_pass h a0 a2)).bind fun q1 => if q1.1 = 0 then (f_X3_readPart_24 q1.2) else ((vc q1.2 3 a0 (f_X3_readEither 80 q1.2 a0)).bind fun q2 => if q2.1 = 0 then (f_X3_readPart_24 q2.2) else ((vc q2.2 3 a0 (f_X3_pass q2.2 a0 ((59 : Int32)))).bind fun q3 => if q3.1 = 0 then (f_X3_readPart_24 q3.2) else ((gR q3.2 3 a0 2).bind fun v4 => (gI q3.2 3 a0 10).bind fun v5 => (sI q3.2 v4 (a1 + ((1 : Int32))) v5).bind fun h6 => rz h6 ((1 : Int32)))))
theorem b_X3_readPart_24 (X : XX) (h : XM) : SW X I_X3_readPart ρi 24 [] [] h 0 0 (f_X3_readPart_24 h) := by
  unfold f_X3_readPart_24
  refine s_iconst (i := 11) rfl (v := (0 : Int32)) (by decide) ?_
  exact s_zret (i := 12) rfl rfl
theorem c_X3_readPart (h : XM) (a0 : Option Nat) (a1 : Int32) (a2 : Int32) : MC I_X3_readPart y_X3_readPart [tA a0, tI a1, tI a2] h ρi (f_X3_readPart h a0 a1 a2) := by
  refine MC_of ⟨by decide +kernel, rfl, rfl, Nat.le_of_ble_eq_true rfl⟩ dT_X3_readPart (fun X => ?_)
  show SW X I_X3_readPart ρi 0 [(0, tA a0), (1, tI a1), (2, tI a2)] [] h 0 0 (f_X3_readPart h a0 a1 a2)
  unfold f_X3_readPart
  refine s_aload_n (i := 0) rfl 0 rfl ?_
  refine s_iload_n (i := 1) rfl 2 rfl ?_
  refine u_callVi (kk := 3) [tI a2] a0 [] rfl (i := 2) rfl (c_X3_pass h a0 a2) xm_X3_pass (tw393) rfl (Nat.le_of_ble_eq_true rfl) (xRm.of rfl) ⟨rfl, rfl⟩ (fun q1 => ?_)
  refine s_ifeq (i := 3) rfl (tgt := 24) (by decide) (fun z5 => ?_) (fun z5 => ?_)
  · exact s_sub [] rfl (b_X3_readPart_24 X q1.2)
  · refine s_aload_n (i := 4) rfl 0 rfl ?_
    refine u_callVi (kk := 3) [] a0 [] rfl (i := 5) rfl (c_X3_readEither 80 q1.2 a0) (xm_X3_readEither _) (tw397) rfl (Nat.le_of_ble_eq_true rfl) (xRm.of rfl) ⟨rfl, rfl⟩ (fun q2 => ?_)
    refine s_ifeq (i := 6) rfl (tgt := 24) (by decide) (fun z12 => ?_) (fun z12 => ?_)
    · exact s_sub [] rfl (b_X3_readPart_24 X q2.2)
    · refine s_aload_n (i := 7) rfl 0 rfl ?_
      refine s_bipush (i := 8) rfl (v := (59 : Int32)) (by decide) ?_
      refine u_callVi (kk := 3) [tI ((59 : Int32))] a0 [] rfl (i := 9) rfl (c_X3_pass q2.2 a0 ((59 : Int32))) xm_X3_pass (tw393) rfl (Nat.le_of_ble_eq_true rfl) (xRm.of rfl) ⟨rfl, rfl⟩ (fun q3 => ?_)
      refine s_ifne (i := 10) rfl (tgt := 26) (by decide) (fun z21 => ?_) (fun z21 => ?_)
      · exact s_sub [] rfl (b_X3_readPart_24 X q3.2)
      · refine s_aload_n (i := 13) rfl 0 rfl ?_
        refine s_getR (i := 14) rfl xf_3_18.r rfl (fun v4 => ?_)
        refine s_iload_n (i := 15) rfl 1 rfl ?_
        refine s_iconst (i := 16) rfl (v := (1 : Int32)) (by decide) ?_
        refine s_iadd (i := 17) rfl ?_
        refine s_aload_n (i := 18) rfl 0 rfl ?_
        refine s_getI (i := 19) rfl xf_3_45.r rfl (fun v5 => ?_)
        refine s_iastore (i := 20) rfl (fun h6 => ?_)
        refine s_iconst (i := 21) rfl (v := (1 : Int32)) (by decide) ?_
        exact s_zret (i := 22) rfl rfl
def y_X3_readText : MethodName := ⟨"OpensAtNine$Reader", "readText", "()LOpensAtNine$Text;"⟩
def T_X3_readText : List (Nat × Instr × Nat × Nat) := [(0, .aload_n 0, 1, 1), (1, .iconst 0, 1, 2), (2, .putfield 39, 3, 5), (5, .aload_n 0, 1, 6), (6, .iconst 0, 1, 7), (7, .putfield 42, 3, 10), (10, .aload_n 0, 1, 11), (11, .iconst 0, 1, 12), (12, .putfield 45, 3, 15), (15, .aload_n 0, 1, 16), (16, .invokevirtual 48, 3, 19), (19, .aload_n 0, 1, 20), (20, .iconst 0, 1, 21), (21, .bipush 6, 2, 23), (23, .invokevirtual 51, 3, 26), (26, .ifCond .eq 37, 3, 29), (29, .aload_n 0, 1, 30), (30, .iconst 1, 1, 31), (31, .bipush 7, 2, 33), (33, .invokevirtual 51, 3, 36), (36, .ifCond .eq 27, 3, 39), (39, .aload_n 0, 1, 40), (40, .iconst 2, 1, 41), (41, .bipush 8, 2, 43), (43, .invokevirtual 51, 3, 46), (46, .ifCond .eq 17, 3, 49), (49, .aload_n 0, 1, 50), (50, .getfield 55, 3, 53), (53, .sipush 257, 3, 56), (56, .if_icmp .ne 7, 3, 59), (59, .iconst 1, 1, 60), (60, .goto 4, 3, 63), (63, .iconst 0, 1, 64), (64, .istore_n 1, 1, 65), (65, .aload_n 0, 1, 66), (66, .aload_n 0, 1, 67), (67, .getfield 58, 3, 70), (70, .putfield 61, 3, 73), (73, .aload_n 0, 1, 74), (74, .iconst 0, 1, 75), (75, .putfield 21, 3, 78), (78, .iload_n 1, 1, 79), (79, .ifCond .eq 32, 3, 82), (82, .new 64, 3, 85), (85, .dup, 1, 86), (86, .aload_n 0, 1, 87), (87, .getfield 15, 3, 90), (90, .aload_n 0, 1, 91), (91, .getfield 45, 3, 94), (94, .invokestatic 66, 3, 97), (97, .aload_n 0, 1, 98), (98, .getfield 18, 3, 101), (101, .iconst 4, 1, 102), (102, .invokestatic 66, 3, 105), (105, .invokespecial 72, 3, 108), (108, .goto 4, 3, 111), (111, .aconst_null, 1, 112), (112, .areturn, 1, 113)]
def I_X3_readText : MI := (prog_5_method_4_code, 2, (some (.object "OpensAtNine$Text")), "OpensAtNine$Reader", "readText", T_X3_readText, 4, 603, 91, 2032)
theorem dT_X3_readText : ∀ q ∈ T_X3_readText, decode prog_5_method_4_code q.1 = .ok (q.2.1, q.2.2.1) ∧ q.2.2.2 = q.1 + q.2.2.1 := by decide +kernel
theorem xm_X3_readText : xCM y_X3_readText I_X3_readText 3 0 := ⟨⟨tw345, tw346⟩, tw74, tw347, ⟨xT3, 11, rfl⟩, ⟨by decide +kernel, by decide +kernel, by decide +kernel⟩⟩
noncomputable def f_X3_readText_112 (h : XM) (s0 : Option Nat) : Option (Option Nat × XM) := some (s0, h)
noncomputable def f_X3_readText_64 (h : XM) (l0 : Option Nat) (s0 : Int32) : Option (Option Nat × XM) := (gI h 3 l0 6).bind fun v1 => (pI h 3 l0 4 v1).bind fun h2 => (pI h2 3 l0 3 ((0 : Int32))).bind fun h3 => if s0 = 0 then (f_X3_readText_112 h3 none) else ((nO h3 5 3).bind fun h4 => (gR h4 3 l0 1).bind fun v5 => (gI h4 3 l0 10).bind fun v6 => (f_J7_copyOf h4 v5 v6).bind fun q7 => (gR q7.2 3 l0 2).bind fun v8 => (f_J7_copyOf q7.2 v8 ((4 : Int32))).bind fun q9 => (((some (xc h3))).bind fun _ => f_X5_init q9.2 (some (xc h3)) q7.1 q9.1).bind fun q10 => f_X3_readText_112 q10 (some (xc h3)))
noncomputable def f_X3_readText_63 (h : XM) (l0 : Option Nat) : Option (Option Nat × XM) := f_X3_readText_64 h l0 ((0 : Int32))
noncomputable def f_X3_readText (h : XM) (a0 : Option Nat) : Option (Option Nat × XM) := (pI h 3 a0 5 ((0 : Int32))).bind fun h11 => (pI h11 3 a0 9 ((0 : Int32))).bind fun h12 => (pI h12 3 a0 10 ((0 : Int32))).bind fun h13 => (vc h13 3 a0 (f_X3_advance h13 a0)).bind fun q14 => (vc q14 3 a0 (f_X3_readPart q14 a0 ((0 : Int32)) ((6 : Int32)))).bind fun q15 => if q15.1 = 0 then (f_X3_readText_63 q15.2 a0) else ((vc q15.2 3 a0 (f_X3_readPart q15.2 a0 ((1 : Int32)) ((7 : Int32)))).bind fun q16 => if q16.1 = 0 then (f_X3_readText_63 q16.2 a0) else ((vc q16.2 3 a0 (f_X3_readPart q16.2 a0 ((2 : Int32)) ((8 : Int32)))).bind fun q17 => if q17.1 = 0 then (f_X3_readText_63 q17.2 a0) else ((gI q17.2 3 a0 7).bind fun v18 => if v18 = ((257 : Int32)) then (f_X3_readText_64 q17.2 a0 ((1 : Int32))) else (f_X3_readText_63 q17.2 a0))))
theorem b_X3_readText_112 (X : XX) (h : XM) (s0 : Option Nat) : SW X I_X3_readText ρa 112 [] [tA s0] h 0 0 (f_X3_readText_112 h s0) := by
  unfold f_X3_readText_112
  exact s_aret (i := 57) rfl rfl (Or.inl ⟨_, rfl⟩)
theorem b_X3_readText_64 (X : XX) (h : XM) (l0 : Option Nat) (s0 : Int32) : SW X I_X3_readText ρa 64 [(0, tA l0)] [tI s0] h 4 603 (f_X3_readText_64 h l0 s0) := by
  unfold f_X3_readText_64
  refine s_istore_n (i := 33) rfl (Nat.le_of_ble_eq_true rfl) (ls2 := [(1, tI s0), (0, tA l0)]) rfl ?_
  refine s_bud 4 603 (by omega) (by omega) ?_
  refine s_aload_n (i := 34) rfl 1 rfl ?_
  refine s_bud 4 603 (by omega) (by omega) ?_
  refine s_aload_n (i := 35) rfl 1 rfl ?_
  refine s_bud 4 603 (by omega) (by omega) ?_
  refine s_getI (i := 36) rfl xf_3_58.r rfl (fun v1 => ?_)
  refine s_bud 4 603 (by omega) (by omega) ?_
  refine s_putI (i := 37) rfl xf_3_61 (fun q => by cases q) rfl rfl (fun h2 => ?_)
  refine s_bud 4 603 (by omega) (by omega) ?_
  refine s_aload_n (i := 38) rfl 1 rfl ?_
  refine s_bud 4 603 (by omega) (by omega) ?_
  refine s_iconst (i := 39) rfl (v := (0 : Int32)) (by decide) ?_
  refine s_bud 4 603 (by omega) (by omega) ?_
  refine s_putI (i := 40) rfl xf_3_21 (fun q => by cases q) rfl rfl (fun h3 => ?_)
  refine s_bud 4 603 (by omega) (by omega) ?_
  refine s_iload_n (i := 41) rfl 0 rfl ?_
  refine s_bud 4 603 (by omega) (by omega) ?_
  refine s_ifeq (i := 42) rfl (tgt := 111) (by decide) (fun z79 => ?_) (fun z79 => ?_)
  · refine s_bud 0 0 (by omega) (by omega) ?_
    refine s_null (i := 56) rfl ?_
    refine s_bud 0 0 (by omega) (by omega) ?_
    exact s_sub [] rfl (b_X3_readText_112 X h3 none)
  · refine s_bud 4 603 (by omega) (by omega) ?_
    refine s_bud (1 + 3) (3 + 600) (by omega) (by omega) ?_
    refine s_new (i := 43) rfl xkc5 (by decide +kernel) ⟨tw433, tw434, tw80⟩ (fun h4 => ?_)
    refine s_bud 3 600 (by omega) (by omega) ?_
    refine s_dup (i := 44) rfl rfl ?_
    refine s_bud 3 600 (by omega) (by omega) ?_
    refine s_aload_n (i := 45) rfl 1 rfl ?_
    refine s_bud 3 600 (by omega) (by omega) ?_
    refine s_getR (i := 46) rfl xf_3_15.r rfl (fun v5 => ?_)
    refine s_bud 3 600 (by omega) (by omega) ?_
    refine s_aload_n (i := 47) rfl 1 rfl ?_
    refine s_bud 3 600 (by omega) (by omega) ?_
    refine s_getI (i := 48) rfl xf_3_45.r rfl (fun v6 => ?_)
    refine s_bud 3 600 (by omega) (by omega) ?_
    refine s_bud (1 + 2) (200 + 400) (by omega) (by omega) ?_
    refine t_callSa [tA v5, tI v6] [tA (some (xc h3)), tA (some (xc h3))] rfl (i := 49) rfl (c_J7_copyOf h4 v5 v6) xm_J7_copyOf (tw435) rfl (Nat.le_of_ble_eq_true rfl) (xRm.of rfl) (fun q7 => ?_)
    refine s_bud 2 400 (by omega) (by omega) ?_
    refine s_aload_n (i := 50) rfl 1 rfl ?_
    refine s_bud 2 400 (by omega) (by omega) ?_
    refine s_getR (i := 51) rfl xf_3_18.r rfl (fun v8 => ?_)
    refine s_bud 2 400 (by omega) (by omega) ?_
    refine s_iconst (i := 52) rfl (v := (4 : Int32)) (by decide) ?_
    refine s_bud 2 400 (by omega) (by omega) ?_
    refine s_bud (1 + 1) (200 + 200) (by omega) (by omega) ?_
    refine t_callSa [tA v8, tI ((4 : Int32))] [tA q7.1, tA (some (xc h3)), tA (some (xc h3))] rfl (i := 53) rfl (c_J7_copyOf q7.2 v8 ((4 : Int32))) xm_J7_copyOf (tw435) rfl (Nat.le_of_ble_eq_true rfl) (xRm.of rfl) (fun q9 => ?_)
    refine s_bud 1 200 (by omega) (by omega) ?_
    refine s_bud (1 + 0) (200 + 0) (by omega) (by omega) ?_
    refine t_callIv [tA q7.1, tA q9.1] (some (xc h3)) [tA (some (xc h3))] rfl (i := 54) rfl (c_X5_init q9.2 (some (xc h3)) q7.1 q9.1) xm_X5_init (tw451) rfl (Nat.le_of_ble_eq_true rfl) (xRm.of rfl) (fun q10 => ?_)
    refine s_bud 0 0 (by omega) (by omega) ?_
    refine s_goto (i := 55) rfl (tgt := 112) (by decide) ?_
    refine s_bud 0 0 (by omega) (by omega) ?_
    exact s_sub [] rfl (b_X3_readText_112 X q10 (some (xc h3)))
theorem b_X3_readText_63 (X : XX) (h : XM) (l0 : Option Nat) : SW X I_X3_readText ρa 63 [(0, tA l0)] [] h 4 603 (f_X3_readText_63 h l0) := by
  unfold f_X3_readText_63
  refine s_iconst (i := 32) rfl (v := (0 : Int32)) (by decide) ?_
  refine s_bud 4 603 (by omega) (by omega) ?_
  exact s_sub [0] rfl (b_X3_readText_64 X h l0 ((0 : Int32)))
theorem c_X3_readText (h : XM) (a0 : Option Nat) : MC I_X3_readText y_X3_readText [tA a0] h ρa (f_X3_readText h a0) := by
  refine MC_of ⟨by decide +kernel, rfl, rfl, Nat.le_of_ble_eq_true rfl⟩ dT_X3_readText (fun X => ?_)
  show SW X I_X3_readText ρa 0 [(0, tA a0)] [] h 4 603 (f_X3_readText h a0)
  unfold f_X3_readText
  refine s_aload_n (i := 0) rfl 0 rfl ?_
  refine s_bud 4 603 (by omega) (by omega) ?_
  refine s_iconst (i := 1) rfl (v := (0 : Int32)) (by decide) ?_
  refine s_bud 4 603 (by omega) (by omega) ?_
  refine s_putI (i := 2) rfl xf_3_39 (fun q => by cases q) rfl rfl (fun h11 => ?_)
  refine s_bud 4 603 (by omega) (by omega) ?_
  refine s_aload_n (i := 3) rfl 0 rfl ?_
  refine s_bud 4 603 (by omega) (by omega) ?_
  refine s_iconst (i := 4) rfl (v := (0 : Int32)) (by decide) ?_
  refine s_bud 4 603 (by omega) (by omega) ?_
  refine s_putI (i := 5) rfl xf_3_42 (fun q => by cases q) rfl rfl (fun h12 => ?_)
  refine s_bud 4 603 (by omega) (by omega) ?_
  refine s_aload_n (i := 6) rfl 0 rfl ?_
  refine s_bud 4 603 (by omega) (by omega) ?_
  refine s_iconst (i := 7) rfl (v := (0 : Int32)) (by decide) ?_
  refine s_bud 4 603 (by omega) (by omega) ?_
  refine s_putI (i := 8) rfl xf_3_45 (fun q => by cases q) rfl rfl (fun h13 => ?_)
  refine s_bud 4 603 (by omega) (by omega) ?_
  refine s_aload_n (i := 9) rfl 0 rfl ?_
  refine s_bud 4 603 (by omega) (by omega) ?_
  refine u_callVv (kk := 3) [] a0 [] rfl (i := 10) rfl (c_X3_advance h13 a0) xm_X3_advance (tw348) rfl (Nat.le_of_ble_eq_true rfl) (xRm.of rfl) ⟨rfl, rfl⟩ (fun q14 => ?_)
  refine s_bud 4 603 (by omega) (by omega) ?_
  refine s_aload_n (i := 11) rfl 0 rfl ?_
  refine s_bud 4 603 (by omega) (by omega) ?_
  refine s_iconst (i := 12) rfl (v := (0 : Int32)) (by decide) ?_
  refine s_bud 4 603 (by omega) (by omega) ?_
  refine s_bipush (i := 13) rfl (v := (6 : Int32)) (by decide) ?_
  refine s_bud 4 603 (by omega) (by omega) ?_
  refine u_callVi (kk := 3) [tI ((0 : Int32)), tI ((6 : Int32))] a0 [] rfl (i := 14) rfl (c_X3_readPart q14 a0 ((0 : Int32)) ((6 : Int32))) xm_X3_readPart (tw389) rfl (Nat.le_of_ble_eq_true rfl) (xRm.of rfl) ⟨rfl, rfl⟩ (fun q15 => ?_)
  refine s_bud 4 603 (by omega) (by omega) ?_
  refine s_ifeq (i := 15) rfl (tgt := 63) (by decide) (fun z26 => ?_) (fun z26 => ?_)
  · refine s_bud 4 603 (by omega) (by omega) ?_
    exact s_sub [0] rfl (b_X3_readText_63 X q15.2 a0)
  · refine s_bud 4 603 (by omega) (by omega) ?_
    refine s_aload_n (i := 16) rfl 0 rfl ?_
    refine s_bud 4 603 (by omega) (by omega) ?_
    refine s_iconst (i := 17) rfl (v := (1 : Int32)) (by decide) ?_
    refine s_bud 4 603 (by omega) (by omega) ?_
    refine s_bipush (i := 18) rfl (v := (7 : Int32)) (by decide) ?_
    refine s_bud 4 603 (by omega) (by omega) ?_
    refine u_callVi (kk := 3) [tI ((1 : Int32)), tI ((7 : Int32))] a0 [] rfl (i := 19) rfl (c_X3_readPart q15.2 a0 ((1 : Int32)) ((7 : Int32))) xm_X3_readPart (tw389) rfl (Nat.le_of_ble_eq_true rfl) (xRm.of rfl) ⟨rfl, rfl⟩ (fun q16 => ?_)
    refine s_bud 4 603 (by omega) (by omega) ?_
    refine s_ifeq (i := 20) rfl (tgt := 63) (by decide) (fun z36 => ?_) (fun z36 => ?_)
    · refine s_bud 4 603 (by omega) (by omega) ?_
      exact s_sub [0] rfl (b_X3_readText_63 X q16.2 a0)
    · refine s_bud 4 603 (by omega) (by omega) ?_
      refine s_aload_n (i := 21) rfl 0 rfl ?_
      refine s_bud 4 603 (by omega) (by omega) ?_
      refine s_iconst (i := 22) rfl (v := (2 : Int32)) (by decide) ?_
      refine s_bud 4 603 (by omega) (by omega) ?_
      refine s_bipush (i := 23) rfl (v := (8 : Int32)) (by decide) ?_
      refine s_bud 4 603 (by omega) (by omega) ?_
      refine u_callVi (kk := 3) [tI ((2 : Int32)), tI ((8 : Int32))] a0 [] rfl (i := 24) rfl (c_X3_readPart q16.2 a0 ((2 : Int32)) ((8 : Int32))) xm_X3_readPart (tw389) rfl (Nat.le_of_ble_eq_true rfl) (xRm.of rfl) ⟨rfl, rfl⟩ (fun q17 => ?_)
      refine s_bud 4 603 (by omega) (by omega) ?_
      refine s_ifeq (i := 25) rfl (tgt := 63) (by decide) (fun z46 => ?_) (fun z46 => ?_)
      · refine s_bud 4 603 (by omega) (by omega) ?_
        exact s_sub [0] rfl (b_X3_readText_63 X q17.2 a0)
      · refine s_bud 4 603 (by omega) (by omega) ?_
        refine s_aload_n (i := 26) rfl 0 rfl ?_
        refine s_bud 4 603 (by omega) (by omega) ?_
        refine s_getI (i := 27) rfl xf_3_55.r rfl (fun v18 => ?_)
        refine s_bud 4 603 (by omega) (by omega) ?_
        refine s_sipush (i := 28) rfl (v := (257 : Int32)) (by decide) ?_
        refine s_bud 4 603 (by omega) (by omega) ?_
        refine s_icmpne (i := 29) rfl (tgt := 63) (by decide) (fun z56 => ?_) (fun z56 => ?_)
        · refine s_bud 4 603 (by omega) (by omega) ?_
          refine s_iconst (i := 30) rfl (v := (1 : Int32)) (by decide) ?_
          refine s_bud 4 603 (by omega) (by omega) ?_
          refine s_goto (i := 31) rfl (tgt := 64) (by decide) ?_
          refine s_bud 4 603 (by omega) (by omega) ?_
          exact s_sub [0] rfl (b_X3_readText_64 X q17.2 a0 ((1 : Int32)))
        · refine s_bud 4 603 (by omega) (by omega) ?_
          exact s_sub [0] rfl (b_X3_readText_63 X q17.2 a0)
