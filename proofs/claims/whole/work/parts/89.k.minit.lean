/-! PURE: the reference's constructor up to its first text -/
noncomputable def P9 (h : XM) (a0 : Option Nat) : Option XM := (a0).bind fun _ => (pI h 9 a0 0 ((9 : Int32))).bind fun h8 => (nA h8 10 7 ((7 : Int32))).bind fun h9 => (pR h9 9 a0 6 (some (xc h8))).bind fun h10 => (nA h10 10 7 ((7 : Int32))).bind fun h11 => (pR h11 9 a0 7 (some (xc h10))).bind fun h12 => (nA h12 10 7 ((7 : Int32))).bind fun h13 => (pR h13 9 a0 8 (some (xc h12))).bind fun h14 => (nA h14 10 7 ((7 : Int32))).bind fun h15 => (pR h15 9 a0 9 (some (xc h14))).bind fun h16 => (nA h16 10 160 ((160 : Int32))).bind fun h17 => (pR h17 9 a0 11 (some (xc h16))).bind fun h18 => (nA h18 10 1200 ((1200 : Int32))).bind fun h19 => (pR h19 9 a0 13 (some (xc h18))).bind fun h20 => (nA h20 10 24 ((24 : Int32))).bind fun h21 => (pR h21 9 a0 14 (some (xc h20))).bind fun h22 => (nA h22 10 8 ((8 : Int32))).bind fun h23 => (pR h23 9 a0 18 (some (xc h22))).bind fun h24 => (nA h24 10 7 ((7 : Int32))).bind fun h25 => (pR h25 9 a0 19 (some (xc h24))).bind fun h26 => (nA h26 10 4 ((4 : Int32))).bind fun h27 => (sI h27 (some (xc h26)) ((0 : Int32)) ((-1 : Int32))).bind fun h28 => (sI h28 (some (xc h26)) ((1 : Int32)) ((-1 : Int32))).bind fun h29 => (sI h29 (some (xc h26)) ((2 : Int32)) ((-1 : Int32))).bind fun h30 => (sI h30 (some (xc h26)) ((3 : Int32)) ((-1 : Int32))).bind fun h31 => (pR h31 9 a0 20 (some (xc h26))).bind fun h32 => (nA h32 10 4 ((4 : Int32))).bind fun h33 => (pR h33 9 a0 21 (some (xc h32))).bind fun h34 => (nA h34 10 160 ((160 : Int32))).bind fun h35 => (pR h35 9 a0 22 (some (xc h34))).bind fun h36 => (nA h36 10 42 ((42 : Int32))).bind fun h37 => (sI h37 (some (xc h36)) ((0 : Int32)) ((111 : Int32))).bind fun h38 => (sI h38 (some (xc h36)) ((1 : Int32)) ((112 : Int32))).bind fun h39 => (sI h39 (some (xc h36)) ((2 : Int32)) ((101 : Int32))).bind fun h40 => (sI h40 (some (xc h36)) ((3 : Int32)) ((110 : Int32))).bind fun h41 => (sI h41 (some (xc h36)) ((4 : Int32)) ((115 : Int32))).bind fun h42 => (sI h42 (some (xc h36)) ((5 : Int32)) ((32 : Int32))).bind fun h43 => (sI h43 (some (xc h36)) ((6 : Int32)) ((114 : Int32))).bind fun h44 => (sI h44 (some (xc h36)) ((7 : Int32)) ((101 : Int32))).bind fun h45 => (sI h45 (some (xc h36)) ((8 : Int32)) ((115 : Int32))).bind fun h46 => (sI h46 (some (xc h36)) ((9 : Int32)) ((116 : Int32))).bind fun h47 => (sI h47 (some (xc h36)) ((10 : Int32)) ((32 : Int32))).bind fun h48 => (sI h48 (some (xc h36)) ((11 : Int32)) ((61 : Int32))).bind fun h49 => (sI h49 (some (xc h36)) ((12 : Int32)) ((32 : Int32))).bind fun h50 => (sI h50 (some (xc h36)) ((13 : Int32)) ((48 : Int32))).bind fun h51 => (sI h51 (some (xc h36)) ((14 : Int32)) ((32 : Int32))).bind fun h52 => (sI h52 (some (xc h36)) ((15 : Int32)) ((59 : Int32))).bind fun h53 => (sI h53 (some (xc h36)) ((16 : Int32)) ((32 : Int32))).bind fun h54 => (sI h54 (some (xc h36)) ((17 : Int32)) ((119 : Int32))).bind fun h55 => (sI h55 (some (xc h36)) ((18 : Int32)) ((111 : Int32))).bind fun h56 => (sI h56 (some (xc h36)) ((19 : Int32)) ((114 : Int32))).bind fun h57 => (sI h57 (some (xc h36)) ((20 : Int32)) ((116 : Int32))).bind fun h58 => (sI h58 (some (xc h36)) ((21 : Int32)) ((104 : Int32))).bind fun h59 => (sI h59 (some (xc h36)) ((22 : Int32)) ((32 : Int32))).bind fun h60 => (sI h60 (some (xc h36)) ((23 : Int32)) ((50 : Int32))).bind fun h61 => (sI h61 (some (xc h36)) ((24 : Int32)) ((48 : Int32))).bind fun h62 => (sI h62 (some (xc h36)) ((25 : Int32)) ((32 : Int32))).bind fun h63 => (sI h63 (some (xc h36)) ((26 : Int32)) ((59 : Int32))).bind fun h64 => (sI h64 (some (xc h36)) ((27 : Int32)) ((32 : Int32))).bind fun h65 => (sI h65 (some (xc h36)) ((28 : Int32)) ((104 : Int32))).bind fun h66 => (sI h66 (some (xc h36)) ((29 : Int32)) ((97 : Int32))).bind fun h67 => (sI h67 (some (xc h36)) ((30 : Int32)) ((115 : Int32))).bind fun h68 => (sI h68 (some (xc h36)) ((31 : Int32)) ((116 : Int32))).bind fun h69 => (sI h69 (some (xc h36)) ((32 : Int32)) ((101 : Int32))).bind fun h70 => (sI h70 (some (xc h36)) ((33 : Int32)) ((32 : Int32))).bind fun h71 => (sI h71 (some (xc h36)) ((34 : Int32)) ((109 : Int32))).bind fun h72 => (sI h72 (some (xc h36)) ((35 : Int32)) ((105 : Int32))).bind fun h73 => (sI h73 (some (xc h36)) ((36 : Int32)) ((110 : Int32))).bind fun h74 => (sI h74 (some (xc h36)) ((37 : Int32)) ((117 : Int32))).bind fun h75 => (sI h75 (some (xc h36)) ((38 : Int32)) ((116 : Int32))).bind fun h76 => (sI h76 (some (xc h36)) ((39 : Int32)) ((101 : Int32))).bind fun h77 => (sI h77 (some (xc h36)) ((40 : Int32)) ((32 : Int32))).bind fun h78 => (sI h78 (some (xc h36)) ((41 : Int32)) ((59 : Int32))).bind fun h79 => (pR h79 9 a0 23 (some (xc h36))).bind fun h80 => (nA h80 10 96 ((96 : Int32))).bind fun h81 => (sI h81 (some (xc h80)) ((0 : Int32)) ((111 : Int32))).bind fun h82 => (sI h82 (some (xc h80)) ((1 : Int32)) ((112 : Int32))).bind fun h83 => (sI h83 (some (xc h80)) ((2 : Int32)) ((101 : Int32))).bind fun h84 => (sI h84 (some (xc h80)) ((3 : Int32)) ((110 : Int32))).bind fun h85 => (sI h85 (some (xc h80)) ((4 : Int32)) ((115 : Int32))).bind fun h86 => (sI h86 (some (xc h80)) ((5 : Int32)) ((32 : Int32))).bind fun h87 => (sI h87 (some (xc h80)) ((6 : Int32)) ((32 : Int32))).bind fun h88 => (sI h88 (some (xc h80)) ((7 : Int32)) ((32 : Int32))).bind fun h89 => (sI h89 (some (xc h80)) ((8 : Int32)) ((119 : Int32))).bind fun h90 => (sI h90 (some (xc h80)) ((9 : Int32)) ((111 : Int32))).bind fun h91 => (sI h91 (some (xc h80)) ((10 : Int32)) ((114 : Int32))).bind fun h92 => (sI h92 (some (xc h80)) ((11 : Int32)) ((116 : Int32))).bind fun h93 => (sI h93 (some (xc h80)) ((12 : Int32)) ((104 : Int32))).bind fun h94 => (sI h94 (some (xc h80)) ((13 : Int32)) ((32 : Int32))).bind fun h95 => (sI h95 (some (xc h80)) ((14 : Int32)) ((32 : Int32))).bind fun h96 => (sI h96 (some (xc h80)) ((15 : Int32)) ((32 : Int32))).bind fun h97 => (sI h97 (some (xc h80)) ((16 : Int32)) ((104 : Int32))).bind fun h98 => (sI h98 (some (xc h80)) ((17 : Int32)) ((97 : Int32))).bind fun h99 => (sI h99 (some (xc h80)) ((18 : Int32)) ((115 : Int32))).bind fun h100 => (sI h100 (some (xc h80)) ((19 : Int32)) ((116 : Int32))).bind fun h101 => (sI h101 (some (xc h80)) ((20 : Int32)) ((101 : Int32))).bind fun h102 => (sI h102 (some (xc h80)) ((21 : Int32)) ((32 : Int32))).bind fun h103 => (sI h103 (some (xc h80)) ((22 : Int32)) ((32 : Int32))).bind fun h104 => (sI h104 (some (xc h80)) ((23 : Int32)) ((32 : Int32))).bind fun h105 => (sI h105 (some (xc h80)) ((24 : Int32)) ((115 : Int32))).bind fun h106 => (sI h106 (some (xc h80)) ((25 : Int32)) ((117 : Int32))).bind fun h107 => (sI h107 (some (xc h80)) ((26 : Int32)) ((109 : Int32))).bind fun h108 => (sI h108 (some (xc h80)) ((27 : Int32)) ((32 : Int32))).bind fun h109 => (sI h109 (some (xc h80)) ((28 : Int32)) ((32 : Int32))).bind fun h110 => (sI h110 (some (xc h80)) ((29 : Int32)) ((32 : Int32))).bind fun h111 => (sI h111 (some (xc h80)) ((30 : Int32)) ((32 : Int32))).bind fun h112 => (sI h112 (some (xc h80)) ((31 : Int32)) ((32 : Int32))).bind fun h113 => (sI h113 (some (xc h80)) ((32 : Int32)) ((114 : Int32))).bind fun h114 => (sI h114 (some (xc h80)) ((33 : Int32)) ((101 : Int32))).bind fun h115 => (sI h115 (some (xc h80)) ((34 : Int32)) ((115 : Int32))).bind fun h116 => (sI h116 (some (xc h80)) ((35 : Int32)) ((116 : Int32))).bind fun h117 => (sI h117 (some (xc h80)) ((36 : Int32)) ((32 : Int32))).bind fun h118 => (sI h118 (some (xc h80)) ((37 : Int32)) ((32 : Int32))).bind fun h119 => (sI h119 (some (xc h80)) ((38 : Int32)) ((32 : Int32))).bind fun h120 => (sI h120 (some (xc h80)) ((39 : Int32)) ((32 : Int32))).bind fun h121 => (sI h121 (some (xc h80)) ((40 : Int32)) ((118 : Int32))).bind fun h122 => (sI h122 (some (xc h80)) ((41 : Int32)) ((97 : Int32))).bind fun h123 => (sI h123 (some (xc h80)) ((42 : Int32)) ((108 : Int32))).bind fun h124 => (sI h124 (some (xc h80)) ((43 : Int32)) ((117 : Int32))).bind fun h125 => (sI h125 (some (xc h80)) ((44 : Int32)) ((101 : Int32))).bind fun h126 => (sI h126 (some (xc h80)) ((45 : Int32)) ((32 : Int32))).bind fun h127 => (sI h127 (some (xc h80)) ((46 : Int32)) ((32 : Int32))).bind fun h128 => (sI h128 (some (xc h80)) ((47 : Int32)) ((32 : Int32))).bind fun h129 => (sI h129 (some (xc h80)) ((48 : Int32)) ((109 : Int32))).bind fun h130 => (sI h130 (some (xc h80)) ((49 : Int32)) ((105 : Int32))).bind fun h131 => (sI h131 (some (xc h80)) ((50 : Int32)) ((110 : Int32))).bind fun h132 => (sI h132 (some (xc h80)) ((51 : Int32)) ((117 : Int32))).bind fun h133 => (sI h133 (some (xc h80)) ((52 : Int32)) ((116 : Int32))).bind fun h134 => (sI h134 (some (xc h80)) ((53 : Int32)) ((101 : Int32))).bind fun h135 => (sI h135 (some (xc h80)) ((54 : Int32)) ((32 : Int32))).bind fun h136 => (sI h136 (some (xc h80)) ((55 : Int32)) ((32 : Int32))).bind fun h137 => (sI h137 (some (xc h80)) ((56 : Int32)) ((99 : Int32))).bind fun h138 => (sI h138 (some (xc h80)) ((57 : Int32)) ((111 : Int32))).bind fun h139 => (sI h139 (some (xc h80)) ((58 : Int32)) ((105 : Int32))).bind fun h140 => (sI h140 (some (xc h80)) ((59 : Int32)) ((110 : Int32))).bind fun h141 => (sI h141 (some (xc h80)) ((60 : Int32)) ((115 : Int32))).bind fun h142 => (sI h142 (some (xc h80)) ((61 : Int32)) ((32 : Int32))).bind fun h143 => (sI h143 (some (xc h80)) ((62 : Int32)) ((32 : Int32))).bind fun h144 => (sI h144 (some (xc h80)) ((63 : Int32)) ((32 : Int32))).bind fun h145 => (sI h145 (some (xc h80)) ((64 : Int32)) ((119 : Int32))).bind fun h146 => (sI h146 (some (xc h80)) ((65 : Int32)) ((104 : Int32))).bind fun h147 => (sI h147 (some (xc h80)) ((66 : Int32)) ((111 : Int32))).bind fun h148 => (sI h148 (some (xc h80)) ((67 : Int32)) ((32 : Int32))).bind fun h149 => (sI h149 (some (xc h80)) ((68 : Int32)) ((32 : Int32))).bind fun h150 => (sI h150 (some (xc h80)) ((69 : Int32)) ((32 : Int32))).bind fun h151 => (sI h151 (some (xc h80)) ((70 : Int32)) ((32 : Int32))).bind fun h152 => (sI h152 (some (xc h80)) ((71 : Int32)) ((32 : Int32))).bind fun h153 => (sI h153 (some (xc h80)) ((72 : Int32)) ((111 : Int32))).bind fun h154 => (sI h154 (some (xc h80)) ((73 : Int32)) ((114 : Int32))).bind fun h155 => (sI h155 (some (xc h80)) ((74 : Int32)) ((32 : Int32))).bind fun h156 => (sI h156 (some (xc h80)) ((75 : Int32)) ((32 : Int32))).bind fun h157 => (sI h157 (some (xc h80)) ((76 : Int32)) ((32 : Int32))).bind fun h158 => (sI h158 (some (xc h80)) ((77 : Int32)) ((32 : Int32))).bind fun h159 => (sI h159 (some (xc h80)) ((78 : Int32)) ((32 : Int32))).bind fun h160 => (sI h160 (some (xc h80)) ((79 : Int32)) ((32 : Int32))).bind fun h161 => (sI h161 (some (xc h80)) ((80 : Int32)) ((97 : Int32))).bind fun h162 => (sI h162 (some (xc h80)) ((81 : Int32)) ((110 : Int32))).bind fun h163 => (sI h163 (some (xc h80)) ((82 : Int32)) ((100 : Int32))).bind fun h164 => (sI h164 (some (xc h80)) ((83 : Int32)) ((32 : Int32))).bind fun h165 => (sI h165 (some (xc h80)) ((84 : Int32)) ((32 : Int32))).bind fun h166 => (sI h166 (some (xc h80)) ((85 : Int32)) ((32 : Int32))).bind fun h167 => (sI h167 (some (xc h80)) ((86 : Int32)) ((32 : Int32))).bind fun h168 => (sI h168 (some (xc h80)) ((87 : Int32)) ((32 : Int32))).bind fun h169 => (sI h169 (some (xc h80)) ((88 : Int32)) ((110 : Int32))).bind fun h170 => (sI h170 (some (xc h80)) ((89 : Int32)) ((111 : Int32))).bind fun h171 => (sI h171 (some (xc h80)) ((90 : Int32)) ((116 : Int32))).bind fun h172 => (sI h172 (some (xc h80)) ((91 : Int32)) ((32 : Int32))).bind fun h173 => (sI h173 (some (xc h80)) ((92 : Int32)) ((32 : Int32))).bind fun h174 => (sI h174 (some (xc h80)) ((93 : Int32)) ((32 : Int32))).bind fun h175 => (sI h175 (some (xc h80)) ((94 : Int32)) ((32 : Int32))).bind fun h176 => (sI h176 (some (xc h80)) ((95 : Int32)) ((32 : Int32))).bind fun h177 => (pR h177 9 a0 28 (some (xc h80))).bind fun h178 => (nA h178 10 200 ((200 : Int32))).bind fun h179 => (pR h179 9 a0 29 (some (xc h178))).bind fun h180 => (nA h180 10 200 ((200 : Int32))).bind fun h181 => (pR h181 9 a0 33 (some (xc h180))).bind fun h182 => (nA h182 10 6 ((6 : Int32))).bind fun h183 => (pR h183 9 a0 34 (some (xc h182))).bind fun h184 => (nA h184 11 4096 ((4096 : Int32))).bind fun h185 => (pR h185 9 a0 35 (some (xc h184))).bind fun h186 => (nA h186 10 4096 ((4096 : Int32))).bind fun h187 => (pR h187 9 a0 36 (some (xc h186))).bind fun h188 => (nA h188 10 64 ((64 : Int32))).bind fun h189 => (pR h189 9 a0 38 (some (xc h188))).bind fun h190 => (nA h190 10 28 ((28 : Int32))).bind fun h191 => (pR h191 9 a0 43 (some (xc h190))).bind fun h192 => (nA h192 10 49 ((49 : Int32))).bind fun h193 => (pR h193 9 a0 44 (some (xc h192))).bind fun h194 => (nA h194 10 28 ((28 : Int32))).bind fun h195 => (pR h195 9 a0 45 (some (xc h194))).bind fun h196 => (nA h196 10 49 ((49 : Int32))).bind fun h197 => (pR h197 9 a0 46 (some (xc h196))).bind fun h198 => (nA h198 10 4 ((4 : Int32))).bind fun h199 => (pR h199 9 a0 47 (some (xc h198))).bind fun h200 => some h200
set_option maxRecDepth 40000 in
theorem X9_split (h : XM) (a0 : Option Nat) : f_X9_init h a0 = (P9 h a0).bind fun q => f_X9_init_1048 FU q a0 0 := by
  unfold f_X9_init P9
  simp only [Option.bind_assoc, Option.bind_some]
/-- two memories of c cells that agree from 50 on; below, the first is lo -/
def SM (lo : XM) (c : Nat) (h h2 : XM) : Prop := h.1 = c ∧ h2.1 = c ∧ (∀ b, b < 50 → xs h b = xs lo b ∧ xi h b = xi lo b ∧ xr h b = xr lo b) ∧ ∀ b, 50 ≤ b → b < c → xs h b = xs h2 b ∧ xi h b = xi h2 b ∧ xr h b = xr h2 b
def ORm (lo : XM) (c : Nat) (x y : Option XM) : Prop := ∀ h2, y = some h2 → ∃ h, x = some h ∧ SM lo c h h2
theorem ORm.bind {lo : XM} {c c2 : Nat} {x y : Option XM} {f g : XM → Option XM} (h : ORm lo c x y) (k : ∀ h h2, SM lo c h h2 → ORm lo c2 (f h) (g h2)) : ORm lo c2 (x.bind f) (y.bind g) := by
  intro h2 e
  cases hy : y with
  | none => rw [hy] at e; cases e
  | some z =>
    rw [hy] at e
    obtain ⟨w, e1, e2⟩ := h z hy
    rw [e1]
    exact k w z e2 h2 e
theorem ORm.ret {lo h h2 : XM} {c : Nat} (s : SM lo c h h2) : ORm lo c (some h) (some h2) := fun z e => ⟨h, rfl, by rw [← Option.some.inj e]; exact s⟩
theorem or_nA {lo h h2 : XM} {c : Nat} (s : SM lo c h h2) {k lim : Nat} {n : Int32} (hc : 50 ≤ c) : ORm lo (c + 1) (nA h k lim n) (nA h2 k lim n) := by
  intro z e
  unfold nA at e ⊢
  by_cases c : n < 0 ∨ lim < n.toNatClampNeg
  · rw [if_pos c] at e; cases e
  · rw [if_neg c] at e ⊢
    refine ⟨_, rfl, ?_⟩
    rw [← Option.some.inj e]
    obtain ⟨s1, s2, s3, s4⟩ := s
    refine ⟨congrArg (· + 1) s1, congrArg (· + 1) s2, fun b hb => ?_, fun b hb hb2 => ?_⟩
    · obtain ⟨a1, a2, a3⟩ := s3 b hb
      have hne : b ≠ h.1 := by omega
      exact ⟨(if_neg hne).trans a1, (if_neg hne).trans a2, (if_neg hne).trans a3⟩
    · by_cases c2 : b = h.1
      · have c3 : b = h2.1 := c2.trans (s1.trans s2.symm)
        exact ⟨(if_pos c2).trans (if_pos c3).symm, (if_pos c2).trans (if_pos c3).symm, (if_pos c2).trans (if_pos c3).symm⟩
      · have c3 : b ≠ h2.1 := fun y => c2 (y.trans (s2.trans s1.symm))
        obtain ⟨a1, a2, a3⟩ := s4 b hb (by omega)
        exact ⟨(if_neg c2).trans (a1.trans (if_neg c3).symm), (if_neg c2).trans (a2.trans (if_neg c3).symm), (if_neg c2).trans (a3.trans (if_neg c3).symm)⟩
theorem SM.wI {lo h h2 : XM} {c : Nat} (s : SM lo c h h2) {a j : Nat} {v : Int32} (ha : 50 ≤ a) : SM lo c (wI h a j v) (wI h2 a j v) := by
  obtain ⟨s1, s2, s3, s4⟩ := s
  refine ⟨s1, s2, fun b hb => ?_, fun b hb hb2 => ?_⟩
  · obtain ⟨a1, a2, a3⟩ := s3 b hb
    exact ⟨a1, (w2_ne (by omega)).trans a2, a3⟩
  · obtain ⟨a1, a2, a3⟩ := s4 b hb hb2
    refine ⟨a1, funext fun i => ?_, a3⟩
    show w2 (xi h) a j v b i = w2 (xi h2) a j v b i
    rw [w2_ap, w2_ap, congrFun a2 i]
theorem SM.wR {lo h h2 : XM} {c : Nat} (s : SM lo c h h2) {a j : Nat} {v : Option Nat} (ha : 50 ≤ a) : SM lo c (wR h a j v) (wR h2 a j v) := by
  obtain ⟨s1, s2, s3, s4⟩ := s
  refine ⟨s1, s2, fun b hb => ?_, fun b hb hb2 => ?_⟩
  · obtain ⟨a1, a2, a3⟩ := s3 b hb
    exact ⟨a1, a2, (w2_ne (by omega)).trans a3⟩
  · obtain ⟨a1, a2, a3⟩ := s4 b hb hb2
    refine ⟨a1, a2, funext fun i => ?_⟩
    show w2 (xr h) a j v b i = w2 (xr h2) a j v b i
    rw [w2_ap, w2_ap, congrFun a3 i]
theorem or_pI {lo h h2 : XM} {c : Nat} (s : SM lo c h h2) {k a j : Nat} {v : Int32} (ha : 50 ≤ a ∧ a < c) : ORm lo c (pI h k (some a) j v) (pI h2 k (some a) j v) := by
  intro z e
  unfold pI at e ⊢
  rw [Option.bind_some] at e ⊢
  rw [← (s.2.2.2 a ha.1 ha.2).1] at e
  by_cases c : (xs h a).1 = k
  · rw [if_pos c] at e ⊢
    exact ⟨_, rfl, by rw [← Option.some.inj e]; exact s.wI ha.1⟩
  · rw [if_neg c] at e; cases e
theorem or_pR {lo h h2 : XM} {c : Nat} (s : SM lo c h h2) {k a j u u2 : Nat} (ha : 50 ≤ a ∧ a < c) (hu : u = u2) : ORm lo c (pR h k (some a) j (some u)) (pR h2 k (some a) j (some u2)) := by
  subst hu
  intro z e
  unfold pR at e ⊢
  rw [Option.bind_some] at e ⊢
  rw [← (s.2.2.2 a ha.1 ha.2).1] at e
  by_cases c : (xs h a).1 = k
  · rw [if_pos c] at e ⊢
    exact ⟨_, rfl, by rw [← Option.some.inj e]; exact s.wR ha.1⟩
  · rw [if_neg c] at e; cases e
theorem or_sI {lo h h2 : XM} {c : Nat} (s : SM lo c h h2) {a a2 : Nat} {i v : Int32} (hu : a = a2) (ha : 50 ≤ a ∧ a < c) : ORm lo c (sI h (some a) i v) (sI h2 (some a2) i v) := by
  subst hu
  intro z e
  unfold sI at e ⊢
  rw [Option.bind_some] at e ⊢
  rw [← (s.2.2.2 a ha.1 ha.2).1] at e
  by_cases c : (xs h a).1 = 10 ∧ ¬ (i < 0 ∨ (xs h a).2 ≤ i.toNatClampNeg)
  · rw [if_pos c] at e ⊢
    exact ⟨_, rfl, by rw [← Option.some.inj e]; exact s.wI ha.1⟩
  · rw [if_neg c] at e; cases e
set_option maxRecDepth 4000 in
theorem P9_sim {lo h h' : XM} (s : SM lo 51 h h') : ORm lo 76 (P9 h (some 50)) (P9 h' (some 50)) := by
  unfold P9
  rw [Option.bind_some, Option.bind_some]
  refine ORm.bind (or_pI s (by omega)) (fun h8 h8' s8 => ?_)
  refine ORm.bind (or_nA s8 (by omega)) (fun h9 h9' s9 => ?_)
  refine ORm.bind (or_pR s9 (by omega) (s8.1.trans s8.2.1.symm)) (fun h10 h10' s10 => ?_)
  refine ORm.bind (or_nA s10 (by omega)) (fun h11 h11' s11 => ?_)
  refine ORm.bind (or_pR s11 (by omega) (s10.1.trans s10.2.1.symm)) (fun h12 h12' s12 => ?_)
  refine ORm.bind (or_nA s12 (by omega)) (fun h13 h13' s13 => ?_)
  refine ORm.bind (or_pR s13 (by omega) (s12.1.trans s12.2.1.symm)) (fun h14 h14' s14 => ?_)
  refine ORm.bind (or_nA s14 (by omega)) (fun h15 h15' s15 => ?_)
  refine ORm.bind (or_pR s15 (by omega) (s14.1.trans s14.2.1.symm)) (fun h16 h16' s16 => ?_)
  refine ORm.bind (or_nA s16 (by omega)) (fun h17 h17' s17 => ?_)
  refine ORm.bind (or_pR s17 (by omega) (s16.1.trans s16.2.1.symm)) (fun h18 h18' s18 => ?_)
  refine ORm.bind (or_nA s18 (by omega)) (fun h19 h19' s19 => ?_)
  refine ORm.bind (or_pR s19 (by omega) (s18.1.trans s18.2.1.symm)) (fun h20 h20' s20 => ?_)
  refine ORm.bind (or_nA s20 (by omega)) (fun h21 h21' s21 => ?_)
  refine ORm.bind (or_pR s21 (by omega) (s20.1.trans s20.2.1.symm)) (fun h22 h22' s22 => ?_)
  refine ORm.bind (or_nA s22 (by omega)) (fun h23 h23' s23 => ?_)
  refine ORm.bind (or_pR s23 (by omega) (s22.1.trans s22.2.1.symm)) (fun h24 h24' s24 => ?_)
  refine ORm.bind (or_nA s24 (by omega)) (fun h25 h25' s25 => ?_)
  refine ORm.bind (or_pR s25 (by omega) (s24.1.trans s24.2.1.symm)) (fun h26 h26' s26 => ?_)
  refine ORm.bind (or_nA s26 (by omega)) (fun h27 h27' s27 => ?_)
  refine ORm.bind (or_sI s27 (s26.1.trans s26.2.1.symm) (by have := s26.1; show 50 ≤ h26.1 ∧ h26.1 < _; omega)) (fun h28 h28' s28 => ?_)
  refine ORm.bind (or_sI s28 (s26.1.trans s26.2.1.symm) (by have := s26.1; show 50 ≤ h26.1 ∧ h26.1 < _; omega)) (fun h29 h29' s29 => ?_)
  refine ORm.bind (or_sI s29 (s26.1.trans s26.2.1.symm) (by have := s26.1; show 50 ≤ h26.1 ∧ h26.1 < _; omega)) (fun h30 h30' s30 => ?_)
  refine ORm.bind (or_sI s30 (s26.1.trans s26.2.1.symm) (by have := s26.1; show 50 ≤ h26.1 ∧ h26.1 < _; omega)) (fun h31 h31' s31 => ?_)
  refine ORm.bind (or_pR s31 (by omega) (s26.1.trans s26.2.1.symm)) (fun h32 h32' s32 => ?_)
  refine ORm.bind (or_nA s32 (by omega)) (fun h33 h33' s33 => ?_)
  refine ORm.bind (or_pR s33 (by omega) (s32.1.trans s32.2.1.symm)) (fun h34 h34' s34 => ?_)
  refine ORm.bind (or_nA s34 (by omega)) (fun h35 h35' s35 => ?_)
  refine ORm.bind (or_pR s35 (by omega) (s34.1.trans s34.2.1.symm)) (fun h36 h36' s36 => ?_)
  refine ORm.bind (or_nA s36 (by omega)) (fun h37 h37' s37 => ?_)
  refine ORm.bind (or_sI s37 (s36.1.trans s36.2.1.symm) (by have := s36.1; show 50 ≤ h36.1 ∧ h36.1 < _; omega)) (fun h38 h38' s38 => ?_)
  refine ORm.bind (or_sI s38 (s36.1.trans s36.2.1.symm) (by have := s36.1; show 50 ≤ h36.1 ∧ h36.1 < _; omega)) (fun h39 h39' s39 => ?_)
  refine ORm.bind (or_sI s39 (s36.1.trans s36.2.1.symm) (by have := s36.1; show 50 ≤ h36.1 ∧ h36.1 < _; omega)) (fun h40 h40' s40 => ?_)
  refine ORm.bind (or_sI s40 (s36.1.trans s36.2.1.symm) (by have := s36.1; show 50 ≤ h36.1 ∧ h36.1 < _; omega)) (fun h41 h41' s41 => ?_)
  refine ORm.bind (or_sI s41 (s36.1.trans s36.2.1.symm) (by have := s36.1; show 50 ≤ h36.1 ∧ h36.1 < _; omega)) (fun h42 h42' s42 => ?_)
  refine ORm.bind (or_sI s42 (s36.1.trans s36.2.1.symm) (by have := s36.1; show 50 ≤ h36.1 ∧ h36.1 < _; omega)) (fun h43 h43' s43 => ?_)
  refine ORm.bind (or_sI s43 (s36.1.trans s36.2.1.symm) (by have := s36.1; show 50 ≤ h36.1 ∧ h36.1 < _; omega)) (fun h44 h44' s44 => ?_)
  refine ORm.bind (or_sI s44 (s36.1.trans s36.2.1.symm) (by have := s36.1; show 50 ≤ h36.1 ∧ h36.1 < _; omega)) (fun h45 h45' s45 => ?_)
  refine ORm.bind (or_sI s45 (s36.1.trans s36.2.1.symm) (by have := s36.1; show 50 ≤ h36.1 ∧ h36.1 < _; omega)) (fun h46 h46' s46 => ?_)
  refine ORm.bind (or_sI s46 (s36.1.trans s36.2.1.symm) (by have := s36.1; show 50 ≤ h36.1 ∧ h36.1 < _; omega)) (fun h47 h47' s47 => ?_)
  refine ORm.bind (or_sI s47 (s36.1.trans s36.2.1.symm) (by have := s36.1; show 50 ≤ h36.1 ∧ h36.1 < _; omega)) (fun h48 h48' s48 => ?_)
  refine ORm.bind (or_sI s48 (s36.1.trans s36.2.1.symm) (by have := s36.1; show 50 ≤ h36.1 ∧ h36.1 < _; omega)) (fun h49 h49' s49 => ?_)
  refine ORm.bind (or_sI s49 (s36.1.trans s36.2.1.symm) (by have := s36.1; show 50 ≤ h36.1 ∧ h36.1 < _; omega)) (fun h50 h50' s50 => ?_)
  refine ORm.bind (or_sI s50 (s36.1.trans s36.2.1.symm) (by have := s36.1; show 50 ≤ h36.1 ∧ h36.1 < _; omega)) (fun h51 h51' s51 => ?_)
  refine ORm.bind (or_sI s51 (s36.1.trans s36.2.1.symm) (by have := s36.1; show 50 ≤ h36.1 ∧ h36.1 < _; omega)) (fun h52 h52' s52 => ?_)
  refine ORm.bind (or_sI s52 (s36.1.trans s36.2.1.symm) (by have := s36.1; show 50 ≤ h36.1 ∧ h36.1 < _; omega)) (fun h53 h53' s53 => ?_)
  refine ORm.bind (or_sI s53 (s36.1.trans s36.2.1.symm) (by have := s36.1; show 50 ≤ h36.1 ∧ h36.1 < _; omega)) (fun h54 h54' s54 => ?_)
  refine ORm.bind (or_sI s54 (s36.1.trans s36.2.1.symm) (by have := s36.1; show 50 ≤ h36.1 ∧ h36.1 < _; omega)) (fun h55 h55' s55 => ?_)
  refine ORm.bind (or_sI s55 (s36.1.trans s36.2.1.symm) (by have := s36.1; show 50 ≤ h36.1 ∧ h36.1 < _; omega)) (fun h56 h56' s56 => ?_)
  refine ORm.bind (or_sI s56 (s36.1.trans s36.2.1.symm) (by have := s36.1; show 50 ≤ h36.1 ∧ h36.1 < _; omega)) (fun h57 h57' s57 => ?_)
  refine ORm.bind (or_sI s57 (s36.1.trans s36.2.1.symm) (by have := s36.1; show 50 ≤ h36.1 ∧ h36.1 < _; omega)) (fun h58 h58' s58 => ?_)
  refine ORm.bind (or_sI s58 (s36.1.trans s36.2.1.symm) (by have := s36.1; show 50 ≤ h36.1 ∧ h36.1 < _; omega)) (fun h59 h59' s59 => ?_)
  refine ORm.bind (or_sI s59 (s36.1.trans s36.2.1.symm) (by have := s36.1; show 50 ≤ h36.1 ∧ h36.1 < _; omega)) (fun h60 h60' s60 => ?_)
  refine ORm.bind (or_sI s60 (s36.1.trans s36.2.1.symm) (by have := s36.1; show 50 ≤ h36.1 ∧ h36.1 < _; omega)) (fun h61 h61' s61 => ?_)
  refine ORm.bind (or_sI s61 (s36.1.trans s36.2.1.symm) (by have := s36.1; show 50 ≤ h36.1 ∧ h36.1 < _; omega)) (fun h62 h62' s62 => ?_)
  refine ORm.bind (or_sI s62 (s36.1.trans s36.2.1.symm) (by have := s36.1; show 50 ≤ h36.1 ∧ h36.1 < _; omega)) (fun h63 h63' s63 => ?_)
  refine ORm.bind (or_sI s63 (s36.1.trans s36.2.1.symm) (by have := s36.1; show 50 ≤ h36.1 ∧ h36.1 < _; omega)) (fun h64 h64' s64 => ?_)
  refine ORm.bind (or_sI s64 (s36.1.trans s36.2.1.symm) (by have := s36.1; show 50 ≤ h36.1 ∧ h36.1 < _; omega)) (fun h65 h65' s65 => ?_)
  refine ORm.bind (or_sI s65 (s36.1.trans s36.2.1.symm) (by have := s36.1; show 50 ≤ h36.1 ∧ h36.1 < _; omega)) (fun h66 h66' s66 => ?_)
  refine ORm.bind (or_sI s66 (s36.1.trans s36.2.1.symm) (by have := s36.1; show 50 ≤ h36.1 ∧ h36.1 < _; omega)) (fun h67 h67' s67 => ?_)
  refine ORm.bind (or_sI s67 (s36.1.trans s36.2.1.symm) (by have := s36.1; show 50 ≤ h36.1 ∧ h36.1 < _; omega)) (fun h68 h68' s68 => ?_)
  refine ORm.bind (or_sI s68 (s36.1.trans s36.2.1.symm) (by have := s36.1; show 50 ≤ h36.1 ∧ h36.1 < _; omega)) (fun h69 h69' s69 => ?_)
  refine ORm.bind (or_sI s69 (s36.1.trans s36.2.1.symm) (by have := s36.1; show 50 ≤ h36.1 ∧ h36.1 < _; omega)) (fun h70 h70' s70 => ?_)
  refine ORm.bind (or_sI s70 (s36.1.trans s36.2.1.symm) (by have := s36.1; show 50 ≤ h36.1 ∧ h36.1 < _; omega)) (fun h71 h71' s71 => ?_)
  refine ORm.bind (or_sI s71 (s36.1.trans s36.2.1.symm) (by have := s36.1; show 50 ≤ h36.1 ∧ h36.1 < _; omega)) (fun h72 h72' s72 => ?_)
  refine ORm.bind (or_sI s72 (s36.1.trans s36.2.1.symm) (by have := s36.1; show 50 ≤ h36.1 ∧ h36.1 < _; omega)) (fun h73 h73' s73 => ?_)
  refine ORm.bind (or_sI s73 (s36.1.trans s36.2.1.symm) (by have := s36.1; show 50 ≤ h36.1 ∧ h36.1 < _; omega)) (fun h74 h74' s74 => ?_)
  refine ORm.bind (or_sI s74 (s36.1.trans s36.2.1.symm) (by have := s36.1; show 50 ≤ h36.1 ∧ h36.1 < _; omega)) (fun h75 h75' s75 => ?_)
  refine ORm.bind (or_sI s75 (s36.1.trans s36.2.1.symm) (by have := s36.1; show 50 ≤ h36.1 ∧ h36.1 < _; omega)) (fun h76 h76' s76 => ?_)
  refine ORm.bind (or_sI s76 (s36.1.trans s36.2.1.symm) (by have := s36.1; show 50 ≤ h36.1 ∧ h36.1 < _; omega)) (fun h77 h77' s77 => ?_)
  refine ORm.bind (or_sI s77 (s36.1.trans s36.2.1.symm) (by have := s36.1; show 50 ≤ h36.1 ∧ h36.1 < _; omega)) (fun h78 h78' s78 => ?_)
  refine ORm.bind (or_sI s78 (s36.1.trans s36.2.1.symm) (by have := s36.1; show 50 ≤ h36.1 ∧ h36.1 < _; omega)) (fun h79 h79' s79 => ?_)
  refine ORm.bind (or_pR s79 (by omega) (s36.1.trans s36.2.1.symm)) (fun h80 h80' s80 => ?_)
  refine ORm.bind (or_nA s80 (by omega)) (fun h81 h81' s81 => ?_)
  refine ORm.bind (or_sI s81 (s80.1.trans s80.2.1.symm) (by have := s80.1; show 50 ≤ h80.1 ∧ h80.1 < _; omega)) (fun h82 h82' s82 => ?_)
  refine ORm.bind (or_sI s82 (s80.1.trans s80.2.1.symm) (by have := s80.1; show 50 ≤ h80.1 ∧ h80.1 < _; omega)) (fun h83 h83' s83 => ?_)
  refine ORm.bind (or_sI s83 (s80.1.trans s80.2.1.symm) (by have := s80.1; show 50 ≤ h80.1 ∧ h80.1 < _; omega)) (fun h84 h84' s84 => ?_)
  refine ORm.bind (or_sI s84 (s80.1.trans s80.2.1.symm) (by have := s80.1; show 50 ≤ h80.1 ∧ h80.1 < _; omega)) (fun h85 h85' s85 => ?_)
  refine ORm.bind (or_sI s85 (s80.1.trans s80.2.1.symm) (by have := s80.1; show 50 ≤ h80.1 ∧ h80.1 < _; omega)) (fun h86 h86' s86 => ?_)
  refine ORm.bind (or_sI s86 (s80.1.trans s80.2.1.symm) (by have := s80.1; show 50 ≤ h80.1 ∧ h80.1 < _; omega)) (fun h87 h87' s87 => ?_)
  refine ORm.bind (or_sI s87 (s80.1.trans s80.2.1.symm) (by have := s80.1; show 50 ≤ h80.1 ∧ h80.1 < _; omega)) (fun h88 h88' s88 => ?_)
  refine ORm.bind (or_sI s88 (s80.1.trans s80.2.1.symm) (by have := s80.1; show 50 ≤ h80.1 ∧ h80.1 < _; omega)) (fun h89 h89' s89 => ?_)
  refine ORm.bind (or_sI s89 (s80.1.trans s80.2.1.symm) (by have := s80.1; show 50 ≤ h80.1 ∧ h80.1 < _; omega)) (fun h90 h90' s90 => ?_)
  refine ORm.bind (or_sI s90 (s80.1.trans s80.2.1.symm) (by have := s80.1; show 50 ≤ h80.1 ∧ h80.1 < _; omega)) (fun h91 h91' s91 => ?_)
  refine ORm.bind (or_sI s91 (s80.1.trans s80.2.1.symm) (by have := s80.1; show 50 ≤ h80.1 ∧ h80.1 < _; omega)) (fun h92 h92' s92 => ?_)
  refine ORm.bind (or_sI s92 (s80.1.trans s80.2.1.symm) (by have := s80.1; show 50 ≤ h80.1 ∧ h80.1 < _; omega)) (fun h93 h93' s93 => ?_)
  refine ORm.bind (or_sI s93 (s80.1.trans s80.2.1.symm) (by have := s80.1; show 50 ≤ h80.1 ∧ h80.1 < _; omega)) (fun h94 h94' s94 => ?_)
  refine ORm.bind (or_sI s94 (s80.1.trans s80.2.1.symm) (by have := s80.1; show 50 ≤ h80.1 ∧ h80.1 < _; omega)) (fun h95 h95' s95 => ?_)
  refine ORm.bind (or_sI s95 (s80.1.trans s80.2.1.symm) (by have := s80.1; show 50 ≤ h80.1 ∧ h80.1 < _; omega)) (fun h96 h96' s96 => ?_)
  refine ORm.bind (or_sI s96 (s80.1.trans s80.2.1.symm) (by have := s80.1; show 50 ≤ h80.1 ∧ h80.1 < _; omega)) (fun h97 h97' s97 => ?_)
  refine ORm.bind (or_sI s97 (s80.1.trans s80.2.1.symm) (by have := s80.1; show 50 ≤ h80.1 ∧ h80.1 < _; omega)) (fun h98 h98' s98 => ?_)
  refine ORm.bind (or_sI s98 (s80.1.trans s80.2.1.symm) (by have := s80.1; show 50 ≤ h80.1 ∧ h80.1 < _; omega)) (fun h99 h99' s99 => ?_)
  refine ORm.bind (or_sI s99 (s80.1.trans s80.2.1.symm) (by have := s80.1; show 50 ≤ h80.1 ∧ h80.1 < _; omega)) (fun h100 h100' s100 => ?_)
  refine ORm.bind (or_sI s100 (s80.1.trans s80.2.1.symm) (by have := s80.1; show 50 ≤ h80.1 ∧ h80.1 < _; omega)) (fun h101 h101' s101 => ?_)
  refine ORm.bind (or_sI s101 (s80.1.trans s80.2.1.symm) (by have := s80.1; show 50 ≤ h80.1 ∧ h80.1 < _; omega)) (fun h102 h102' s102 => ?_)
  refine ORm.bind (or_sI s102 (s80.1.trans s80.2.1.symm) (by have := s80.1; show 50 ≤ h80.1 ∧ h80.1 < _; omega)) (fun h103 h103' s103 => ?_)
  refine ORm.bind (or_sI s103 (s80.1.trans s80.2.1.symm) (by have := s80.1; show 50 ≤ h80.1 ∧ h80.1 < _; omega)) (fun h104 h104' s104 => ?_)
  refine ORm.bind (or_sI s104 (s80.1.trans s80.2.1.symm) (by have := s80.1; show 50 ≤ h80.1 ∧ h80.1 < _; omega)) (fun h105 h105' s105 => ?_)
  refine ORm.bind (or_sI s105 (s80.1.trans s80.2.1.symm) (by have := s80.1; show 50 ≤ h80.1 ∧ h80.1 < _; omega)) (fun h106 h106' s106 => ?_)
  refine ORm.bind (or_sI s106 (s80.1.trans s80.2.1.symm) (by have := s80.1; show 50 ≤ h80.1 ∧ h80.1 < _; omega)) (fun h107 h107' s107 => ?_)
  refine ORm.bind (or_sI s107 (s80.1.trans s80.2.1.symm) (by have := s80.1; show 50 ≤ h80.1 ∧ h80.1 < _; omega)) (fun h108 h108' s108 => ?_)
  refine ORm.bind (or_sI s108 (s80.1.trans s80.2.1.symm) (by have := s80.1; show 50 ≤ h80.1 ∧ h80.1 < _; omega)) (fun h109 h109' s109 => ?_)
  refine ORm.bind (or_sI s109 (s80.1.trans s80.2.1.symm) (by have := s80.1; show 50 ≤ h80.1 ∧ h80.1 < _; omega)) (fun h110 h110' s110 => ?_)
  refine ORm.bind (or_sI s110 (s80.1.trans s80.2.1.symm) (by have := s80.1; show 50 ≤ h80.1 ∧ h80.1 < _; omega)) (fun h111 h111' s111 => ?_)
  refine ORm.bind (or_sI s111 (s80.1.trans s80.2.1.symm) (by have := s80.1; show 50 ≤ h80.1 ∧ h80.1 < _; omega)) (fun h112 h112' s112 => ?_)
  refine ORm.bind (or_sI s112 (s80.1.trans s80.2.1.symm) (by have := s80.1; show 50 ≤ h80.1 ∧ h80.1 < _; omega)) (fun h113 h113' s113 => ?_)
  refine ORm.bind (or_sI s113 (s80.1.trans s80.2.1.symm) (by have := s80.1; show 50 ≤ h80.1 ∧ h80.1 < _; omega)) (fun h114 h114' s114 => ?_)
  refine ORm.bind (or_sI s114 (s80.1.trans s80.2.1.symm) (by have := s80.1; show 50 ≤ h80.1 ∧ h80.1 < _; omega)) (fun h115 h115' s115 => ?_)
  refine ORm.bind (or_sI s115 (s80.1.trans s80.2.1.symm) (by have := s80.1; show 50 ≤ h80.1 ∧ h80.1 < _; omega)) (fun h116 h116' s116 => ?_)
  refine ORm.bind (or_sI s116 (s80.1.trans s80.2.1.symm) (by have := s80.1; show 50 ≤ h80.1 ∧ h80.1 < _; omega)) (fun h117 h117' s117 => ?_)
  refine ORm.bind (or_sI s117 (s80.1.trans s80.2.1.symm) (by have := s80.1; show 50 ≤ h80.1 ∧ h80.1 < _; omega)) (fun h118 h118' s118 => ?_)
  refine ORm.bind (or_sI s118 (s80.1.trans s80.2.1.symm) (by have := s80.1; show 50 ≤ h80.1 ∧ h80.1 < _; omega)) (fun h119 h119' s119 => ?_)
  refine ORm.bind (or_sI s119 (s80.1.trans s80.2.1.symm) (by have := s80.1; show 50 ≤ h80.1 ∧ h80.1 < _; omega)) (fun h120 h120' s120 => ?_)
  refine ORm.bind (or_sI s120 (s80.1.trans s80.2.1.symm) (by have := s80.1; show 50 ≤ h80.1 ∧ h80.1 < _; omega)) (fun h121 h121' s121 => ?_)
  refine ORm.bind (or_sI s121 (s80.1.trans s80.2.1.symm) (by have := s80.1; show 50 ≤ h80.1 ∧ h80.1 < _; omega)) (fun h122 h122' s122 => ?_)
  refine ORm.bind (or_sI s122 (s80.1.trans s80.2.1.symm) (by have := s80.1; show 50 ≤ h80.1 ∧ h80.1 < _; omega)) (fun h123 h123' s123 => ?_)
  refine ORm.bind (or_sI s123 (s80.1.trans s80.2.1.symm) (by have := s80.1; show 50 ≤ h80.1 ∧ h80.1 < _; omega)) (fun h124 h124' s124 => ?_)
  refine ORm.bind (or_sI s124 (s80.1.trans s80.2.1.symm) (by have := s80.1; show 50 ≤ h80.1 ∧ h80.1 < _; omega)) (fun h125 h125' s125 => ?_)
  refine ORm.bind (or_sI s125 (s80.1.trans s80.2.1.symm) (by have := s80.1; show 50 ≤ h80.1 ∧ h80.1 < _; omega)) (fun h126 h126' s126 => ?_)
  refine ORm.bind (or_sI s126 (s80.1.trans s80.2.1.symm) (by have := s80.1; show 50 ≤ h80.1 ∧ h80.1 < _; omega)) (fun h127 h127' s127 => ?_)
  refine ORm.bind (or_sI s127 (s80.1.trans s80.2.1.symm) (by have := s80.1; show 50 ≤ h80.1 ∧ h80.1 < _; omega)) (fun h128 h128' s128 => ?_)
  refine ORm.bind (or_sI s128 (s80.1.trans s80.2.1.symm) (by have := s80.1; show 50 ≤ h80.1 ∧ h80.1 < _; omega)) (fun h129 h129' s129 => ?_)
  refine ORm.bind (or_sI s129 (s80.1.trans s80.2.1.symm) (by have := s80.1; show 50 ≤ h80.1 ∧ h80.1 < _; omega)) (fun h130 h130' s130 => ?_)
  refine ORm.bind (or_sI s130 (s80.1.trans s80.2.1.symm) (by have := s80.1; show 50 ≤ h80.1 ∧ h80.1 < _; omega)) (fun h131 h131' s131 => ?_)
  refine ORm.bind (or_sI s131 (s80.1.trans s80.2.1.symm) (by have := s80.1; show 50 ≤ h80.1 ∧ h80.1 < _; omega)) (fun h132 h132' s132 => ?_)
  refine ORm.bind (or_sI s132 (s80.1.trans s80.2.1.symm) (by have := s80.1; show 50 ≤ h80.1 ∧ h80.1 < _; omega)) (fun h133 h133' s133 => ?_)
  refine ORm.bind (or_sI s133 (s80.1.trans s80.2.1.symm) (by have := s80.1; show 50 ≤ h80.1 ∧ h80.1 < _; omega)) (fun h134 h134' s134 => ?_)
  refine ORm.bind (or_sI s134 (s80.1.trans s80.2.1.symm) (by have := s80.1; show 50 ≤ h80.1 ∧ h80.1 < _; omega)) (fun h135 h135' s135 => ?_)
  refine ORm.bind (or_sI s135 (s80.1.trans s80.2.1.symm) (by have := s80.1; show 50 ≤ h80.1 ∧ h80.1 < _; omega)) (fun h136 h136' s136 => ?_)
  refine ORm.bind (or_sI s136 (s80.1.trans s80.2.1.symm) (by have := s80.1; show 50 ≤ h80.1 ∧ h80.1 < _; omega)) (fun h137 h137' s137 => ?_)
  refine ORm.bind (or_sI s137 (s80.1.trans s80.2.1.symm) (by have := s80.1; show 50 ≤ h80.1 ∧ h80.1 < _; omega)) (fun h138 h138' s138 => ?_)
  refine ORm.bind (or_sI s138 (s80.1.trans s80.2.1.symm) (by have := s80.1; show 50 ≤ h80.1 ∧ h80.1 < _; omega)) (fun h139 h139' s139 => ?_)
  refine ORm.bind (or_sI s139 (s80.1.trans s80.2.1.symm) (by have := s80.1; show 50 ≤ h80.1 ∧ h80.1 < _; omega)) (fun h140 h140' s140 => ?_)
  refine ORm.bind (or_sI s140 (s80.1.trans s80.2.1.symm) (by have := s80.1; show 50 ≤ h80.1 ∧ h80.1 < _; omega)) (fun h141 h141' s141 => ?_)
  refine ORm.bind (or_sI s141 (s80.1.trans s80.2.1.symm) (by have := s80.1; show 50 ≤ h80.1 ∧ h80.1 < _; omega)) (fun h142 h142' s142 => ?_)
  refine ORm.bind (or_sI s142 (s80.1.trans s80.2.1.symm) (by have := s80.1; show 50 ≤ h80.1 ∧ h80.1 < _; omega)) (fun h143 h143' s143 => ?_)
  refine ORm.bind (or_sI s143 (s80.1.trans s80.2.1.symm) (by have := s80.1; show 50 ≤ h80.1 ∧ h80.1 < _; omega)) (fun h144 h144' s144 => ?_)
  refine ORm.bind (or_sI s144 (s80.1.trans s80.2.1.symm) (by have := s80.1; show 50 ≤ h80.1 ∧ h80.1 < _; omega)) (fun h145 h145' s145 => ?_)
  refine ORm.bind (or_sI s145 (s80.1.trans s80.2.1.symm) (by have := s80.1; show 50 ≤ h80.1 ∧ h80.1 < _; omega)) (fun h146 h146' s146 => ?_)
  refine ORm.bind (or_sI s146 (s80.1.trans s80.2.1.symm) (by have := s80.1; show 50 ≤ h80.1 ∧ h80.1 < _; omega)) (fun h147 h147' s147 => ?_)
  refine ORm.bind (or_sI s147 (s80.1.trans s80.2.1.symm) (by have := s80.1; show 50 ≤ h80.1 ∧ h80.1 < _; omega)) (fun h148 h148' s148 => ?_)
  refine ORm.bind (or_sI s148 (s80.1.trans s80.2.1.symm) (by have := s80.1; show 50 ≤ h80.1 ∧ h80.1 < _; omega)) (fun h149 h149' s149 => ?_)
  refine ORm.bind (or_sI s149 (s80.1.trans s80.2.1.symm) (by have := s80.1; show 50 ≤ h80.1 ∧ h80.1 < _; omega)) (fun h150 h150' s150 => ?_)
  refine ORm.bind (or_sI s150 (s80.1.trans s80.2.1.symm) (by have := s80.1; show 50 ≤ h80.1 ∧ h80.1 < _; omega)) (fun h151 h151' s151 => ?_)
  refine ORm.bind (or_sI s151 (s80.1.trans s80.2.1.symm) (by have := s80.1; show 50 ≤ h80.1 ∧ h80.1 < _; omega)) (fun h152 h152' s152 => ?_)
  refine ORm.bind (or_sI s152 (s80.1.trans s80.2.1.symm) (by have := s80.1; show 50 ≤ h80.1 ∧ h80.1 < _; omega)) (fun h153 h153' s153 => ?_)
  refine ORm.bind (or_sI s153 (s80.1.trans s80.2.1.symm) (by have := s80.1; show 50 ≤ h80.1 ∧ h80.1 < _; omega)) (fun h154 h154' s154 => ?_)
  refine ORm.bind (or_sI s154 (s80.1.trans s80.2.1.symm) (by have := s80.1; show 50 ≤ h80.1 ∧ h80.1 < _; omega)) (fun h155 h155' s155 => ?_)
  refine ORm.bind (or_sI s155 (s80.1.trans s80.2.1.symm) (by have := s80.1; show 50 ≤ h80.1 ∧ h80.1 < _; omega)) (fun h156 h156' s156 => ?_)
  refine ORm.bind (or_sI s156 (s80.1.trans s80.2.1.symm) (by have := s80.1; show 50 ≤ h80.1 ∧ h80.1 < _; omega)) (fun h157 h157' s157 => ?_)
  refine ORm.bind (or_sI s157 (s80.1.trans s80.2.1.symm) (by have := s80.1; show 50 ≤ h80.1 ∧ h80.1 < _; omega)) (fun h158 h158' s158 => ?_)
  refine ORm.bind (or_sI s158 (s80.1.trans s80.2.1.symm) (by have := s80.1; show 50 ≤ h80.1 ∧ h80.1 < _; omega)) (fun h159 h159' s159 => ?_)
  refine ORm.bind (or_sI s159 (s80.1.trans s80.2.1.symm) (by have := s80.1; show 50 ≤ h80.1 ∧ h80.1 < _; omega)) (fun h160 h160' s160 => ?_)
  refine ORm.bind (or_sI s160 (s80.1.trans s80.2.1.symm) (by have := s80.1; show 50 ≤ h80.1 ∧ h80.1 < _; omega)) (fun h161 h161' s161 => ?_)
  refine ORm.bind (or_sI s161 (s80.1.trans s80.2.1.symm) (by have := s80.1; show 50 ≤ h80.1 ∧ h80.1 < _; omega)) (fun h162 h162' s162 => ?_)
  refine ORm.bind (or_sI s162 (s80.1.trans s80.2.1.symm) (by have := s80.1; show 50 ≤ h80.1 ∧ h80.1 < _; omega)) (fun h163 h163' s163 => ?_)
  refine ORm.bind (or_sI s163 (s80.1.trans s80.2.1.symm) (by have := s80.1; show 50 ≤ h80.1 ∧ h80.1 < _; omega)) (fun h164 h164' s164 => ?_)
  refine ORm.bind (or_sI s164 (s80.1.trans s80.2.1.symm) (by have := s80.1; show 50 ≤ h80.1 ∧ h80.1 < _; omega)) (fun h165 h165' s165 => ?_)
  refine ORm.bind (or_sI s165 (s80.1.trans s80.2.1.symm) (by have := s80.1; show 50 ≤ h80.1 ∧ h80.1 < _; omega)) (fun h166 h166' s166 => ?_)
  refine ORm.bind (or_sI s166 (s80.1.trans s80.2.1.symm) (by have := s80.1; show 50 ≤ h80.1 ∧ h80.1 < _; omega)) (fun h167 h167' s167 => ?_)
  refine ORm.bind (or_sI s167 (s80.1.trans s80.2.1.symm) (by have := s80.1; show 50 ≤ h80.1 ∧ h80.1 < _; omega)) (fun h168 h168' s168 => ?_)
  refine ORm.bind (or_sI s168 (s80.1.trans s80.2.1.symm) (by have := s80.1; show 50 ≤ h80.1 ∧ h80.1 < _; omega)) (fun h169 h169' s169 => ?_)
  refine ORm.bind (or_sI s169 (s80.1.trans s80.2.1.symm) (by have := s80.1; show 50 ≤ h80.1 ∧ h80.1 < _; omega)) (fun h170 h170' s170 => ?_)
  refine ORm.bind (or_sI s170 (s80.1.trans s80.2.1.symm) (by have := s80.1; show 50 ≤ h80.1 ∧ h80.1 < _; omega)) (fun h171 h171' s171 => ?_)
  refine ORm.bind (or_sI s171 (s80.1.trans s80.2.1.symm) (by have := s80.1; show 50 ≤ h80.1 ∧ h80.1 < _; omega)) (fun h172 h172' s172 => ?_)
  refine ORm.bind (or_sI s172 (s80.1.trans s80.2.1.symm) (by have := s80.1; show 50 ≤ h80.1 ∧ h80.1 < _; omega)) (fun h173 h173' s173 => ?_)
  refine ORm.bind (or_sI s173 (s80.1.trans s80.2.1.symm) (by have := s80.1; show 50 ≤ h80.1 ∧ h80.1 < _; omega)) (fun h174 h174' s174 => ?_)
  refine ORm.bind (or_sI s174 (s80.1.trans s80.2.1.symm) (by have := s80.1; show 50 ≤ h80.1 ∧ h80.1 < _; omega)) (fun h175 h175' s175 => ?_)
  refine ORm.bind (or_sI s175 (s80.1.trans s80.2.1.symm) (by have := s80.1; show 50 ≤ h80.1 ∧ h80.1 < _; omega)) (fun h176 h176' s176 => ?_)
  refine ORm.bind (or_sI s176 (s80.1.trans s80.2.1.symm) (by have := s80.1; show 50 ≤ h80.1 ∧ h80.1 < _; omega)) (fun h177 h177' s177 => ?_)
  refine ORm.bind (or_pR s177 (by omega) (s80.1.trans s80.2.1.symm)) (fun h178 h178' s178 => ?_)
  refine ORm.bind (or_nA s178 (by omega)) (fun h179 h179' s179 => ?_)
  refine ORm.bind (or_pR s179 (by omega) (s178.1.trans s178.2.1.symm)) (fun h180 h180' s180 => ?_)
  refine ORm.bind (or_nA s180 (by omega)) (fun h181 h181' s181 => ?_)
  refine ORm.bind (or_pR s181 (by omega) (s180.1.trans s180.2.1.symm)) (fun h182 h182' s182 => ?_)
  refine ORm.bind (or_nA s182 (by omega)) (fun h183 h183' s183 => ?_)
  refine ORm.bind (or_pR s183 (by omega) (s182.1.trans s182.2.1.symm)) (fun h184 h184' s184 => ?_)
  refine ORm.bind (or_nA s184 (by omega)) (fun h185 h185' s185 => ?_)
  refine ORm.bind (or_pR s185 (by omega) (s184.1.trans s184.2.1.symm)) (fun h186 h186' s186 => ?_)
  refine ORm.bind (or_nA s186 (by omega)) (fun h187 h187' s187 => ?_)
  refine ORm.bind (or_pR s187 (by omega) (s186.1.trans s186.2.1.symm)) (fun h188 h188' s188 => ?_)
  refine ORm.bind (or_nA s188 (by omega)) (fun h189 h189' s189 => ?_)
  refine ORm.bind (or_pR s189 (by omega) (s188.1.trans s188.2.1.symm)) (fun h190 h190' s190 => ?_)
  refine ORm.bind (or_nA s190 (by omega)) (fun h191 h191' s191 => ?_)
  refine ORm.bind (or_pR s191 (by omega) (s190.1.trans s190.2.1.symm)) (fun h192 h192' s192 => ?_)
  refine ORm.bind (or_nA s192 (by omega)) (fun h193 h193' s193 => ?_)
  refine ORm.bind (or_pR s193 (by omega) (s192.1.trans s192.2.1.symm)) (fun h194 h194' s194 => ?_)
  refine ORm.bind (or_nA s194 (by omega)) (fun h195 h195' s195 => ?_)
  refine ORm.bind (or_pR s195 (by omega) (s194.1.trans s194.2.1.symm)) (fun h196 h196' s196 => ?_)
  refine ORm.bind (or_nA s196 (by omega)) (fun h197 h197' s197 => ?_)
  refine ORm.bind (or_pR s197 (by omega) (s196.1.trans s196.2.1.symm)) (fun h198 h198' s198 => ?_)
  refine ORm.bind (or_nA s198 (by omega)) (fun h199 h199' s199 => ?_)
  refine ORm.bind (or_pR s199 (by omega) (s198.1.trans s198.2.1.symm)) (fun h200 h200' s200 => ?_)
  exact ORm.ret s200
def y50 : XM := nw (50, (fun _ => (99, 0)), (fun _ _ => 0), (fun _ _ => 0), (fun _ _ => none)) 9 49
/-- the ints that the reference must begin with -/
def i9T : List (Nat × Nat × Int32) := [(50, 0, 9), (50, 1, 0), (50, 2, 0), (50, 3, 0), (50, 4, 0), (50, 5, 0), (50, 10, 0), (50, 15, 0), (50, 16, 0), (50, 17, 0), (50, 37, 0), (60, 0, -1), (60, 1, -1), (60, 2, -1), (60, 3, -1), (61, 0, 0), (61, 1, 0), (61, 2, 0), (61, 3, 0)]
def chk9 (q : XM) : Bool := decide (q.1 = 76) && (shT.all (fun z => decide (50 ≤ z.1 → xs q z.1 = z.2)) && (rfT.all (fun z => decide (50 ≤ z.1 → xr q z.1 z.2.1 = some z.2.2)) && (i9T.all (fun z => decide (xi q z.1 z.2.1 = z.2.2)) && ((List.range 160).all (fun k => decide (xi q 62 k = 0)) && ((List.range 42).all (fun k => decide (xi q 63 k = nI (lw0 k))) && (List.range 96).all (fun k => decide (xi q 64 k = nI (wdT.getD k 0))))))))
theorem P9_ok : (P9 y50 (some 50)).map chk9 = some true := by decide +kernel
