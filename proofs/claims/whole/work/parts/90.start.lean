/-! the law from its start: what the Statement gives of it (written by wip/whole/gen/gen_start.py; R_law, lw_P .. lw_At and what follows whole_start are the skeleton's) -/
/-! THE CLAIM OUT OF ONE WALK OF THE LAW'S BODY. Your part is whole_start (and what it stands on); all else here is the same for every law, but numbers. -/
def R_law : String := "OpensAtNineLaw"
def lw_P (b : Addr) (xs : List Int32) (args : Array Value) (s : State) : Prop := args = #[.ref b] ∧ s.IntsAt b xs ∧ xs.length ≤ 3584 ∧ (Jvm.Cond.and given_1 narrow_1).before args s = true
def lw_Q (_ : Array Value) (s : State) (o : Outcome) (t : State) : Prop := o = .returned (some (.int 1)) ∧ Framed s o t [] 600000 7302250
def lw_Z (below : List Frame) (a : Array Value) (s : State) : State → Prop := fun t => ∃ o, t.status = .running ∧ Ended t below o ∧ lw_Q a s o t
/-- what holds at the law's entry: the machine, the code, the tables' words (any of lw_tbl by 'hts w (by decide +kernel)'), the script of L ints xs at the cell b, what the Statement gives of the start (any of its parts by flat_of_before) -/
def lw_At (p : Program) (s : State) (m : MethodId) (meth : Method) (c : Code) (b L : Nat) (xs : Nat → Int32) : Prop :=
  p.tables.exec = Jvm.exec ∧ c.code = code ∧ meth.sig.returnType = ret ∧ c.maxLocals = 4 ∧ s.vm.findClass R_law = some m.cls ∧ (∀ w ∈ lw_tbl, w.before #[Value.ref b] s = true) ∧ va_X b L xs s s.heap ∧ b < s.heap.size ∧ meth.locks = false ∧ meth.name = "law" ∧ (Jvm.Cond.and given_1 narrow_1).before #[Value.ref b] s = true
theorem xb1 {a b : Cond} {args : Array Value} {s : State} (h : (Cond.and a b).before args s = true) : a.before args s = true := by
  rw [Cond.before_and, Bool.and_eq_true] at h
  exact h.1
theorem xb2 {a b : Cond} {args : Array Value} {s : State} (h : (Cond.and a b).before args s = true) : b.before args s = true := by
  rw [Cond.before_and, Bool.and_eq_true] at h
  exact h.2
def tmS (i : Nat) : Term := .string (xSidx.getD i ("", 0)).1 (xSidx.getD i ("", 0)).2
set_option maxRecDepth 20000 in
theorem nx_ex {args : Array Value} {s : State} (h0 : narrow_1.before args s = true) : ∀ i : Nat, i < 13 → (Cond.exactly (tmS i) "java/lang/String").before args s = true := by
  unfold narrow_1 at h0
  intro i hi
  match i, hi with
  | 0, _ => exact (xb1 (xb2 (xb2 (xb2 (xb1 (xb2 (xb1 (xb1 h0))))))))
  | 1, _ => exact (xb2 (xb1 (xb1 (xb2 (xb2 (xb1 (xb2 (xb1 h0))))))))
  | 2, _ => exact (xb1 (xb1 (xb1 (xb1 (xb1 (xb2 (xb2 (xb1 h0))))))))
  | 3, _ => exact (xb1 (xb2 (xb1 (xb2 (xb1 (xb2 (xb2 (xb1 h0))))))))
  | 4, _ => exact (xb2 (xb1 (xb2 (xb1 (xb2 (xb2 (xb2 (xb1 h0))))))))
  | 5, _ => exact (xb1 (xb2 (xb1 (xb1 (xb1 (xb1 (xb1 (xb2 h0))))))))
  | 6, _ => exact (xb1 (xb1 (xb1 (xb1 (xb2 (xb1 (xb1 (xb2 h0))))))))
  | 7, _ => exact (xb2 (xb1 (xb2 (xb2 (xb2 (xb1 (xb1 (xb2 h0))))))))
  | 8, _ => exact (xb1 (xb1 (xb2 (xb2 (xb1 (xb2 (xb1 (xb2 h0))))))))
  | 9, _ => exact (xb1 (xb1 (xb2 (xb2 (xb2 (xb2 (xb1 (xb2 h0))))))))
  | 10, _ => exact (xb2 (xb1 (xb2 (xb2 (xb1 (xb1 (xb2 (xb2 h0))))))))
  | 11, _ => exact (xb1 (xb1 (xb2 (xb2 (xb2 (xb1 (xb2 (xb2 h0))))))))
  | 12, _ => exact (xb2 (xb1 (xb2 (xb2 (xb1 (xb2 (xb2 (xb2 h0))))))))
  | n + 13, h => exact absurd h (by omega)
set_option maxRecDepth 20000 in
theorem nx_co {args : Array Value} {s : State} (h0 : narrow_1.before args s = true) : ∀ i : Nat, i < 13 → (Cond.eq (.field (tmS i) "java/lang/String" "coder" "B") (.int 0)).before args s = true := by
  unfold narrow_1 at h0
  intro i hi
  match i, hi with
  | 0, _ => exact (xb1 (xb2 (xb2 (xb2 (xb2 (xb1 (xb2 (xb1 (xb1 h0)))))))))
  | 1, _ => exact (xb1 (xb2 (xb1 (xb2 (xb2 (xb1 (xb2 (xb1 h0))))))))
  | 2, _ => exact (xb2 (xb1 (xb1 (xb1 (xb1 (xb2 (xb2 (xb1 h0))))))))
  | 3, _ => exact (xb2 (xb2 (xb1 (xb2 (xb1 (xb2 (xb2 (xb1 h0))))))))
  | 4, _ => exact (xb1 (xb2 (xb2 (xb1 (xb2 (xb2 (xb2 (xb1 h0))))))))
  | 5, _ => exact (xb2 (xb2 (xb1 (xb1 (xb1 (xb1 (xb1 (xb2 h0))))))))
  | 6, _ => exact (xb2 (xb1 (xb1 (xb1 (xb2 (xb1 (xb1 (xb2 h0))))))))
  | 7, _ => exact (xb1 (xb2 (xb2 (xb2 (xb2 (xb1 (xb1 (xb2 h0))))))))
  | 8, _ => exact (xb2 (xb1 (xb2 (xb2 (xb1 (xb2 (xb1 (xb2 h0))))))))
  | 9, _ => exact (xb2 (xb1 (xb2 (xb2 (xb2 (xb2 (xb1 (xb2 h0))))))))
  | 10, _ => exact (xb1 (xb2 (xb2 (xb2 (xb1 (xb1 (xb2 (xb2 h0))))))))
  | 11, _ => exact (xb2 (xb1 (xb2 (xb2 (xb2 (xb1 (xb2 (xb2 h0))))))))
  | 12, _ => exact (xb1 (xb2 (xb2 (xb2 (xb1 (xb2 (xb2 (xb2 h0))))))))
  | n + 13, h => exact absurd h (by omega)
set_option maxRecDepth 20000 in
theorem nx_ar {args : Array Value} {s : State} (h0 : narrow_1.before args s = true) : ∀ i : Nat, i < 13 → (Cond.arrayOf (.field (tmS i) "java/lang/String" "value" "[B") .byte).before args s = true := by
  unfold narrow_1 at h0
  intro i hi
  match i, hi with
  | 0, _ => exact (xb2 (xb2 (xb2 (xb2 (xb2 (xb1 (xb2 (xb1 (xb1 h0)))))))))
  | 1, _ => exact (xb2 (xb2 (xb1 (xb2 (xb2 (xb1 (xb2 (xb1 h0))))))))
  | 2, _ => exact (xb1 (xb2 (xb1 (xb1 (xb1 (xb2 (xb2 (xb1 h0))))))))
  | 3, _ => exact (xb1 (xb1 (xb2 (xb2 (xb1 (xb2 (xb2 (xb1 h0))))))))
  | 4, _ => exact (xb2 (xb2 (xb2 (xb1 (xb2 (xb2 (xb2 (xb1 h0))))))))
  | 5, _ => exact (xb1 (xb1 (xb2 (xb1 (xb1 (xb1 (xb1 (xb2 h0))))))))
  | 6, _ => exact (xb1 (xb2 (xb1 (xb1 (xb2 (xb1 (xb1 (xb2 h0))))))))
  | 7, _ => exact (xb1 (xb2 (xb2 (xb2 (xb2 (xb2 (xb1 (xb1 (xb2 h0)))))))))
  | 8, _ => exact (xb1 (xb2 (xb2 (xb2 (xb1 (xb2 (xb1 (xb2 h0))))))))
  | 9, _ => exact (xb1 (xb2 (xb2 (xb2 (xb2 (xb2 (xb1 (xb2 h0))))))))
  | 10, _ => exact (xb1 (xb2 (xb2 (xb2 (xb2 (xb1 (xb1 (xb2 (xb2 h0)))))))))
  | 11, _ => exact (xb1 (xb2 (xb2 (xb2 (xb2 (xb1 (xb2 (xb2 h0))))))))
  | 12, _ => exact (xb1 (xb2 (xb2 (xb2 (xb2 (xb1 (xb2 (xb2 (xb2 h0)))))))))
  | n + 13, h => exact absurd h (by omega)
set_option maxRecDepth 20000 in
theorem nx_le {args : Array Value} {s : State} (h0 : narrow_1.before args s = true) : ∀ i : Nat, i < 13 → (Cond.eq (.length (.field (tmS i) "java/lang/String" "value" "[B")) (.int (Int32.ofNat (xLen.getD i 0)))).before args s = true := by
  unfold narrow_1 at h0
  intro i hi
  match i, hi with
  | 0, _ => exact (xb1 (xb1 (xb1 (xb1 (xb2 (xb2 (xb1 (xb1 h0))))))))
  | 1, _ => exact (xb1 (xb1 (xb2 (xb2 (xb2 (xb1 (xb2 (xb1 h0))))))))
  | 2, _ => exact (xb2 (xb2 (xb1 (xb1 (xb1 (xb2 (xb2 (xb1 h0))))))))
  | 3, _ => exact (xb2 (xb1 (xb2 (xb2 (xb1 (xb2 (xb2 (xb1 h0))))))))
  | 4, _ => exact (xb1 (xb1 (xb1 (xb2 (xb2 (xb2 (xb2 (xb1 h0))))))))
  | 5, _ => exact (xb2 (xb1 (xb2 (xb1 (xb1 (xb1 (xb1 (xb2 h0))))))))
  | 6, _ => exact (xb2 (xb2 (xb1 (xb1 (xb2 (xb1 (xb1 (xb2 h0))))))))
  | 7, _ => exact (xb2 (xb2 (xb2 (xb2 (xb2 (xb2 (xb1 (xb1 (xb2 h0)))))))))
  | 8, _ => exact (xb1 (xb2 (xb2 (xb2 (xb2 (xb1 (xb2 (xb1 (xb2 h0)))))))))
  | 9, _ => exact (xb1 (xb2 (xb2 (xb2 (xb2 (xb2 (xb2 (xb1 (xb2 h0)))))))))
  | 10, _ => exact (xb2 (xb2 (xb2 (xb2 (xb2 (xb1 (xb1 (xb2 (xb2 h0)))))))))
  | 11, _ => exact (xb1 (xb2 (xb2 (xb2 (xb2 (xb2 (xb1 (xb2 (xb2 h0)))))))))
  | 12, _ => exact (xb2 (xb2 (xb2 (xb2 (xb2 (xb1 (xb2 (xb2 (xb2 h0)))))))))
  | n + 13, h => exact absurd h (by omega)
set_option maxRecDepth 20000 in
theorem nx_el0 {args : Array Value} {s : State} (h0 : narrow_1.before args s = true) : ∀ i : Nat, i < 42 → (Cond.eq (.elem (.field (tmS 0) "java/lang/String" "value" "[B") (.int (Int32.ofNat i))) (.int ((xByt.getD 0 []).getD i 0))).before args s = true := by
  unfold narrow_1 at h0
  intro i hi
  match i, hi with
  | 0, _ => exact (xb2 (xb1 (xb1 (xb1 (xb2 (xb2 (xb1 (xb1 h0))))))))
  | 1, _ => exact (xb1 (xb2 (xb1 (xb1 (xb2 (xb2 (xb1 (xb1 h0))))))))
  | 2, _ => exact (xb2 (xb2 (xb1 (xb1 (xb2 (xb2 (xb1 (xb1 h0))))))))
  | 3, _ => exact (xb1 (xb1 (xb2 (xb1 (xb2 (xb2 (xb1 (xb1 h0))))))))
  | 4, _ => exact (xb2 (xb1 (xb2 (xb1 (xb2 (xb2 (xb1 (xb1 h0))))))))
  | 5, _ => exact (xb1 (xb2 (xb2 (xb1 (xb2 (xb2 (xb1 (xb1 h0))))))))
  | 6, _ => exact (xb2 (xb2 (xb2 (xb1 (xb2 (xb2 (xb1 (xb1 h0))))))))
  | 7, _ => exact (xb1 (xb1 (xb1 (xb2 (xb2 (xb2 (xb1 (xb1 h0))))))))
  | 8, _ => exact (xb2 (xb1 (xb1 (xb2 (xb2 (xb2 (xb1 (xb1 h0))))))))
  | 9, _ => exact (xb1 (xb2 (xb1 (xb2 (xb2 (xb2 (xb1 (xb1 h0))))))))
  | 10, _ => exact (xb2 (xb2 (xb1 (xb2 (xb2 (xb2 (xb1 (xb1 h0))))))))
  | 11, _ => exact (xb1 (xb1 (xb2 (xb2 (xb2 (xb2 (xb1 (xb1 h0))))))))
  | 12, _ => exact (xb2 (xb1 (xb2 (xb2 (xb2 (xb2 (xb1 (xb1 h0))))))))
  | 13, _ => exact (xb1 (xb2 (xb2 (xb2 (xb2 (xb2 (xb1 (xb1 h0))))))))
  | 14, _ => exact (xb1 (xb2 (xb2 (xb2 (xb2 (xb2 (xb2 (xb1 (xb1 h0)))))))))
  | 15, _ => exact (xb2 (xb2 (xb2 (xb2 (xb2 (xb2 (xb2 (xb1 (xb1 h0)))))))))
  | 16, _ => exact (xb1 (xb1 (xb1 (xb1 (xb1 (xb1 (xb2 (xb1 h0))))))))
  | 17, _ => exact (xb2 (xb1 (xb1 (xb1 (xb1 (xb1 (xb2 (xb1 h0))))))))
  | 18, _ => exact (xb1 (xb2 (xb1 (xb1 (xb1 (xb1 (xb2 (xb1 h0))))))))
  | 19, _ => exact (xb2 (xb2 (xb1 (xb1 (xb1 (xb1 (xb2 (xb1 h0))))))))
  | 20, _ => exact (xb1 (xb1 (xb2 (xb1 (xb1 (xb1 (xb2 (xb1 h0))))))))
  | 21, _ => exact (xb2 (xb1 (xb2 (xb1 (xb1 (xb1 (xb2 (xb1 h0))))))))
  | 22, _ => exact (xb1 (xb2 (xb2 (xb1 (xb1 (xb1 (xb2 (xb1 h0))))))))
  | 23, _ => exact (xb2 (xb2 (xb2 (xb1 (xb1 (xb1 (xb2 (xb1 h0))))))))
  | 24, _ => exact (xb1 (xb1 (xb1 (xb2 (xb1 (xb1 (xb2 (xb1 h0))))))))
  | 25, _ => exact (xb2 (xb1 (xb1 (xb2 (xb1 (xb1 (xb2 (xb1 h0))))))))
  | 26, _ => exact (xb1 (xb2 (xb1 (xb2 (xb1 (xb1 (xb2 (xb1 h0))))))))
  | 27, _ => exact (xb2 (xb2 (xb1 (xb2 (xb1 (xb1 (xb2 (xb1 h0))))))))
  | 28, _ => exact (xb1 (xb1 (xb2 (xb2 (xb1 (xb1 (xb2 (xb1 h0))))))))
  | 29, _ => exact (xb2 (xb1 (xb2 (xb2 (xb1 (xb1 (xb2 (xb1 h0))))))))
  | 30, _ => exact (xb1 (xb2 (xb2 (xb2 (xb1 (xb1 (xb2 (xb1 h0))))))))
  | 31, _ => exact (xb1 (xb2 (xb2 (xb2 (xb2 (xb1 (xb1 (xb2 (xb1 h0)))))))))
  | 32, _ => exact (xb2 (xb2 (xb2 (xb2 (xb2 (xb1 (xb1 (xb2 (xb1 h0)))))))))
  | 33, _ => exact (xb1 (xb1 (xb1 (xb1 (xb2 (xb1 (xb2 (xb1 h0))))))))
  | 34, _ => exact (xb2 (xb1 (xb1 (xb1 (xb2 (xb1 (xb2 (xb1 h0))))))))
  | 35, _ => exact (xb1 (xb2 (xb1 (xb1 (xb2 (xb1 (xb2 (xb1 h0))))))))
  | 36, _ => exact (xb2 (xb2 (xb1 (xb1 (xb2 (xb1 (xb2 (xb1 h0))))))))
  | 37, _ => exact (xb1 (xb1 (xb2 (xb1 (xb2 (xb1 (xb2 (xb1 h0))))))))
  | 38, _ => exact (xb2 (xb1 (xb2 (xb1 (xb2 (xb1 (xb2 (xb1 h0))))))))
  | 39, _ => exact (xb1 (xb2 (xb2 (xb1 (xb2 (xb1 (xb2 (xb1 h0))))))))
  | 40, _ => exact (xb2 (xb2 (xb2 (xb1 (xb2 (xb1 (xb2 (xb1 h0))))))))
  | 41, _ => exact (xb1 (xb1 (xb1 (xb2 (xb2 (xb1 (xb2 (xb1 h0))))))))
  | n + 42, h => exact absurd h (by omega)
set_option maxRecDepth 20000 in
theorem nx_el1 {args : Array Value} {s : State} (h0 : narrow_1.before args s = true) : ∀ i : Nat, i < 3 → (Cond.eq (.elem (.field (tmS 1) "java/lang/String" "value" "[B") (.int (Int32.ofNat i))) (.int ((xByt.getD 1 []).getD i 0))).before args s = true := by
  unfold narrow_1 at h0
  intro i hi
  match i, hi with
  | 0, _ => exact (xb2 (xb1 (xb2 (xb2 (xb2 (xb1 (xb2 (xb1 h0))))))))
  | 1, _ => exact (xb1 (xb2 (xb2 (xb2 (xb2 (xb1 (xb2 (xb1 h0))))))))
  | 2, _ => exact (xb1 (xb2 (xb2 (xb2 (xb2 (xb2 (xb1 (xb2 (xb1 h0)))))))))
  | n + 3, h => exact absurd h (by omega)
set_option maxRecDepth 20000 in
theorem nx_el2 {args : Array Value} {s : State} (h0 : narrow_1.before args s = true) : ∀ i : Nat, i < 4 → (Cond.eq (.elem (.field (tmS 2) "java/lang/String" "value" "[B") (.int (Int32.ofNat i))) (.int ((xByt.getD 2 []).getD i 0))).before args s = true := by
  unfold narrow_1 at h0
  intro i hi
  match i, hi with
  | 0, _ => exact (xb1 (xb1 (xb2 (xb1 (xb1 (xb2 (xb2 (xb1 h0))))))))
  | 1, _ => exact (xb2 (xb1 (xb2 (xb1 (xb1 (xb2 (xb2 (xb1 h0))))))))
  | 2, _ => exact (xb1 (xb2 (xb2 (xb1 (xb1 (xb2 (xb2 (xb1 h0))))))))
  | 3, _ => exact (xb2 (xb2 (xb2 (xb1 (xb1 (xb2 (xb2 (xb1 h0))))))))
  | n + 4, h => exact absurd h (by omega)
set_option maxRecDepth 20000 in
theorem nx_el3 {args : Array Value} {s : State} (h0 : narrow_1.before args s = true) : ∀ i : Nat, i < 5 → (Cond.eq (.elem (.field (tmS 3) "java/lang/String" "value" "[B") (.int (Int32.ofNat i))) (.int ((xByt.getD 3 []).getD i 0))).before args s = true := by
  unfold narrow_1 at h0
  intro i hi
  match i, hi with
  | 0, _ => exact (xb1 (xb2 (xb2 (xb2 (xb1 (xb2 (xb2 (xb1 h0))))))))
  | 1, _ => exact (xb1 (xb2 (xb2 (xb2 (xb2 (xb1 (xb2 (xb2 (xb1 h0)))))))))
  | 2, _ => exact (xb2 (xb2 (xb2 (xb2 (xb2 (xb1 (xb2 (xb2 (xb1 h0)))))))))
  | 3, _ => exact (xb1 (xb1 (xb1 (xb1 (xb2 (xb2 (xb2 (xb1 h0))))))))
  | 4, _ => exact (xb2 (xb1 (xb1 (xb1 (xb2 (xb2 (xb2 (xb1 h0))))))))
  | n + 5, h => exact absurd h (by omega)
set_option maxRecDepth 20000 in
theorem nx_el4 {args : Array Value} {s : State} (h0 : narrow_1.before args s = true) : ∀ i : Nat, i < 6 → (Cond.eq (.elem (.field (tmS 4) "java/lang/String" "value" "[B") (.int (Int32.ofNat i))) (.int ((xByt.getD 4 []).getD i 0))).before args s = true := by
  unfold narrow_1 at h0
  intro i hi
  match i, hi with
  | 0, _ => exact (xb2 (xb1 (xb1 (xb2 (xb2 (xb2 (xb2 (xb1 h0))))))))
  | 1, _ => exact (xb1 (xb2 (xb1 (xb2 (xb2 (xb2 (xb2 (xb1 h0))))))))
  | 2, _ => exact (xb2 (xb2 (xb1 (xb2 (xb2 (xb2 (xb2 (xb1 h0))))))))
  | 3, _ => exact (xb1 (xb1 (xb2 (xb2 (xb2 (xb2 (xb2 (xb1 h0))))))))
  | 4, _ => exact (xb2 (xb1 (xb2 (xb2 (xb2 (xb2 (xb2 (xb1 h0))))))))
  | 5, _ => exact (xb1 (xb2 (xb2 (xb2 (xb2 (xb2 (xb2 (xb1 h0))))))))
  | n + 6, h => exact absurd h (by omega)
set_option maxRecDepth 20000 in
theorem nx_el5 {args : Array Value} {s : State} (h0 : narrow_1.before args s = true) : ∀ i : Nat, i < 5 → (Cond.eq (.elem (.field (tmS 5) "java/lang/String" "value" "[B") (.int (Int32.ofNat i))) (.int ((xByt.getD 5 []).getD i 0))).before args s = true := by
  unfold narrow_1 at h0
  intro i hi
  match i, hi with
  | 0, _ => exact (xb1 (xb2 (xb2 (xb1 (xb1 (xb1 (xb1 (xb2 h0))))))))
  | 1, _ => exact (xb2 (xb2 (xb2 (xb1 (xb1 (xb1 (xb1 (xb2 h0))))))))
  | 2, _ => exact (xb1 (xb1 (xb1 (xb2 (xb1 (xb1 (xb1 (xb2 h0))))))))
  | 3, _ => exact (xb2 (xb1 (xb1 (xb2 (xb1 (xb1 (xb1 (xb2 h0))))))))
  | 4, _ => exact (xb1 (xb2 (xb1 (xb2 (xb1 (xb1 (xb1 (xb2 h0))))))))
  | n + 5, h => exact absurd h (by omega)
set_option maxRecDepth 20000 in
theorem nx_el6 {args : Array Value} {s : State} (h0 : narrow_1.before args s = true) : ∀ i : Nat, i < 3 → (Cond.eq (.elem (.field (tmS 6) "java/lang/String" "value" "[B") (.int (Int32.ofNat i))) (.int ((xByt.getD 6 []).getD i 0))).before args s = true := by
  unfold narrow_1 at h0
  intro i hi
  match i, hi with
  | 0, _ => exact (xb1 (xb1 (xb2 (xb1 (xb2 (xb1 (xb1 (xb2 h0))))))))
  | 1, _ => exact (xb2 (xb1 (xb2 (xb1 (xb2 (xb1 (xb1 (xb2 h0))))))))
  | 2, _ => exact (xb1 (xb2 (xb2 (xb1 (xb2 (xb1 (xb1 (xb2 h0))))))))
  | n + 3, h => exact absurd h (by omega)
set_option maxRecDepth 20000 in
theorem nx_el7 {args : Array Value} {s : State} (h0 : narrow_1.before args s = true) : ∀ i : Nat, i < 5 → (Cond.eq (.elem (.field (tmS 7) "java/lang/String" "value" "[B") (.int (Int32.ofNat i))) (.int ((xByt.getD 7 []).getD i 0))).before args s = true := by
  unfold narrow_1 at h0
  intro i hi
  match i, hi with
  | 0, _ => exact (xb1 (xb1 (xb1 (xb1 (xb1 (xb2 (xb1 (xb2 h0))))))))
  | 1, _ => exact (xb2 (xb1 (xb1 (xb1 (xb1 (xb2 (xb1 (xb2 h0))))))))
  | 2, _ => exact (xb1 (xb2 (xb1 (xb1 (xb1 (xb2 (xb1 (xb2 h0))))))))
  | 3, _ => exact (xb2 (xb2 (xb1 (xb1 (xb1 (xb2 (xb1 (xb2 h0))))))))
  | 4, _ => exact (xb1 (xb1 (xb2 (xb1 (xb1 (xb2 (xb1 (xb2 h0))))))))
  | n + 5, h => exact absurd h (by omega)
set_option maxRecDepth 20000 in
theorem nx_el8 {args : Array Value} {s : State} (h0 : narrow_1.before args s = true) : ∀ i : Nat, i < 5 → (Cond.eq (.elem (.field (tmS 8) "java/lang/String" "value" "[B") (.int (Int32.ofNat i))) (.int ((xByt.getD 8 []).getD i 0))).before args s = true := by
  unfold narrow_1 at h0
  intro i hi
  match i, hi with
  | 0, _ => exact (xb2 (xb2 (xb2 (xb2 (xb2 (xb1 (xb2 (xb1 (xb2 h0)))))))))
  | 1, _ => exact (xb1 (xb1 (xb1 (xb1 (xb2 (xb2 (xb1 (xb2 h0))))))))
  | 2, _ => exact (xb2 (xb1 (xb1 (xb1 (xb2 (xb2 (xb1 (xb2 h0))))))))
  | 3, _ => exact (xb1 (xb2 (xb1 (xb1 (xb2 (xb2 (xb1 (xb2 h0))))))))
  | 4, _ => exact (xb2 (xb2 (xb1 (xb1 (xb2 (xb2 (xb1 (xb2 h0))))))))
  | n + 5, h => exact absurd h (by omega)
set_option maxRecDepth 20000 in
theorem nx_el9 {args : Array Value} {s : State} (h0 : narrow_1.before args s = true) : ∀ i : Nat, i < 5 → (Cond.eq (.elem (.field (tmS 9) "java/lang/String" "value" "[B") (.int (Int32.ofNat i))) (.int ((xByt.getD 9 []).getD i 0))).before args s = true := by
  unfold narrow_1 at h0
  intro i hi
  match i, hi with
  | 0, _ => exact (xb2 (xb2 (xb2 (xb2 (xb2 (xb2 (xb2 (xb1 (xb2 h0)))))))))
  | 1, _ => exact (xb1 (xb1 (xb1 (xb1 (xb1 (xb1 (xb2 (xb2 h0))))))))
  | 2, _ => exact (xb2 (xb1 (xb1 (xb1 (xb1 (xb1 (xb2 (xb2 h0))))))))
  | 3, _ => exact (xb1 (xb2 (xb1 (xb1 (xb1 (xb1 (xb2 (xb2 h0))))))))
  | 4, _ => exact (xb2 (xb2 (xb1 (xb1 (xb1 (xb1 (xb2 (xb2 h0))))))))
  | n + 5, h => exact absurd h (by omega)
set_option maxRecDepth 20000 in
theorem nx_el10 {args : Array Value} {s : State} (h0 : narrow_1.before args s = true) : ∀ i : Nat, i < 2 → (Cond.eq (.elem (.field (tmS 10) "java/lang/String" "value" "[B") (.int (Int32.ofNat i))) (.int ((xByt.getD 10 []).getD i 0))).before args s = true := by
  unfold narrow_1 at h0
  intro i hi
  match i, hi with
  | 0, _ => exact (xb1 (xb1 (xb1 (xb1 (xb2 (xb1 (xb2 (xb2 h0))))))))
  | 1, _ => exact (xb2 (xb1 (xb1 (xb1 (xb2 (xb1 (xb2 (xb2 h0))))))))
  | n + 2, h => exact absurd h (by omega)
set_option maxRecDepth 20000 in
theorem nx_el11 {args : Array Value} {s : State} (h0 : narrow_1.before args s = true) : ∀ i : Nat, i < 3 → (Cond.eq (.elem (.field (tmS 11) "java/lang/String" "value" "[B") (.int (Int32.ofNat i))) (.int ((xByt.getD 11 []).getD i 0))).before args s = true := by
  unfold narrow_1 at h0
  intro i hi
  match i, hi with
  | 0, _ => exact (xb2 (xb2 (xb2 (xb2 (xb2 (xb2 (xb1 (xb2 (xb2 h0)))))))))
  | 1, _ => exact (xb1 (xb1 (xb1 (xb1 (xb1 (xb2 (xb2 (xb2 h0))))))))
  | 2, _ => exact (xb2 (xb1 (xb1 (xb1 (xb1 (xb2 (xb2 (xb2 h0))))))))
  | n + 3, h => exact absurd h (by omega)
set_option maxRecDepth 20000 in
theorem nx_el12 {args : Array Value} {s : State} (h0 : narrow_1.before args s = true) : ∀ i : Nat, i < 3 → (Cond.eq (.elem (.field (tmS 12) "java/lang/String" "value" "[B") (.int (Int32.ofNat i))) (.int ((xByt.getD 12 []).getD i 0))).before args s = true := by
  unfold narrow_1 at h0
  intro i hi
  match i, hi with
  | 0, _ => exact (xb1 (xb1 (xb1 (xb1 (xb2 (xb2 (xb2 (xb2 h0))))))))
  | 1, _ => exact (xb2 (xb1 (xb1 (xb1 (xb2 (xb2 (xb2 (xb2 h0))))))))
  | 2, _ => exact (xb1 (xb2 (xb1 (xb1 (xb2 (xb2 (xb2 (xb2 h0))))))))
  | n + 3, h => exact absurd h (by omega)
theorem nx_el {args : Array Value} {s : State} (h0 : narrow_1.before args s = true) : ∀ i : Nat, i < 13 → ∀ j : Nat, j < xLen.getD i 0 → (Cond.eq (.elem (.field (tmS i) "java/lang/String" "value" "[B") (.int (Int32.ofNat j))) (.int ((xByt.getD i []).getD j 0))).before args s = true := by
  intro i hi
  match i, hi with
  | 0, _ => exact fun j hj => nx_el0 h0 j hj
  | 1, _ => exact fun j hj => nx_el1 h0 j hj
  | 2, _ => exact fun j hj => nx_el2 h0 j hj
  | 3, _ => exact fun j hj => nx_el3 h0 j hj
  | 4, _ => exact fun j hj => nx_el4 h0 j hj
  | 5, _ => exact fun j hj => nx_el5 h0 j hj
  | 6, _ => exact fun j hj => nx_el6 h0 j hj
  | 7, _ => exact fun j hj => nx_el7 h0 j hj
  | 8, _ => exact fun j hj => nx_el8 h0 j hj
  | 9, _ => exact fun j hj => nx_el9 h0 j hj
  | 10, _ => exact fun j hj => nx_el10 h0 j hj
  | 11, _ => exact fun j hj => nx_el11 h0 j hj
  | 12, _ => exact fun j hj => nx_el12 h0 j hj
  | n + 13, h => exact absurd h (by omega)
set_option maxRecDepth 20000 in
theorem nx_ne {args : Array Value} {s : State} (h0 : narrow_1.before args s = true) : ∀ i j : Nat, i < 13 → j < 13 → i < j → (Cond.not (Cond.eq (tmS i) (tmS j))).before args s = true ∨ (Cond.not (Cond.eq (tmS j) (tmS i))).before args s = true := by
  unfold narrow_1 at h0
  intro i j hi hj hij
  match i, j, hi, hj, hij with
  | 0, 1, _, _, _ => exact Or.inl (xb2 (xb2 (xb2 (xb2 (xb2 (xb2 (xb1 (xb2 (xb1 h0)))))))))
  | 0, 2, _, _, _ => exact Or.inl (xb1 (xb1 (xb1 (xb2 (xb1 (xb2 (xb2 (xb1 h0))))))))
  | 0, 3, _, _, _ => exact Or.inl (xb1 (xb2 (xb1 (xb1 (xb2 (xb2 (xb2 (xb1 h0))))))))
  | 0, 4, _, _, _ => exact Or.inl (xb1 (xb2 (xb2 (xb2 (xb2 (xb2 (xb2 (xb2 (xb1 h0)))))))))
  | 0, 5, _, _, _ => exact Or.inl (xb2 (xb2 (xb1 (xb2 (xb1 (xb1 (xb1 (xb2 h0))))))))
  | 0, 6, _, _, _ => exact Or.inl (xb2 (xb2 (xb2 (xb1 (xb2 (xb1 (xb1 (xb2 h0))))))))
  | 0, 7, _, _, _ => exact Or.inl (xb2 (xb1 (xb2 (xb1 (xb1 (xb2 (xb1 (xb2 h0))))))))
  | 0, 8, _, _, _ => exact Or.inl (xb1 (xb1 (xb2 (xb1 (xb2 (xb2 (xb1 (xb2 h0))))))))
  | 0, 9, _, _, _ => exact Or.inl (xb1 (xb1 (xb2 (xb1 (xb1 (xb1 (xb2 (xb2 h0))))))))
  | 0, 10, _, _, _ => exact Or.inl (xb1 (xb2 (xb1 (xb1 (xb2 (xb1 (xb2 (xb2 h0))))))))
  | 0, 11, _, _, _ => exact Or.inl (xb1 (xb2 (xb1 (xb1 (xb1 (xb2 (xb2 (xb2 h0))))))))
  | 0, 12, _, _, _ => exact Or.inl (xb2 (xb2 (xb1 (xb1 (xb2 (xb2 (xb2 (xb2 h0))))))))
  | 1, 2, _, _, _ => exact Or.inl (xb2 (xb1 (xb1 (xb2 (xb1 (xb2 (xb2 (xb1 h0))))))))
  | 1, 3, _, _, _ => exact Or.inl (xb2 (xb2 (xb1 (xb1 (xb2 (xb2 (xb2 (xb1 h0))))))))
  | 1, 4, _, _, _ => exact Or.inl (xb2 (xb2 (xb2 (xb2 (xb2 (xb2 (xb2 (xb2 (xb1 h0)))))))))
  | 1, 5, _, _, _ => exact Or.inl (xb1 (xb1 (xb2 (xb2 (xb1 (xb1 (xb1 (xb2 h0))))))))
  | 1, 6, _, _, _ => exact Or.inl (xb1 (xb1 (xb1 (xb2 (xb2 (xb1 (xb1 (xb2 h0))))))))
  | 1, 7, _, _, _ => exact Or.inl (xb1 (xb2 (xb2 (xb1 (xb1 (xb2 (xb1 (xb2 h0))))))))
  | 1, 8, _, _, _ => exact Or.inl (xb2 (xb1 (xb2 (xb1 (xb2 (xb2 (xb1 (xb2 h0))))))))
  | 1, 9, _, _, _ => exact Or.inl (xb2 (xb1 (xb2 (xb1 (xb1 (xb1 (xb2 (xb2 h0))))))))
  | 1, 10, _, _, _ => exact Or.inl (xb2 (xb2 (xb1 (xb1 (xb2 (xb1 (xb2 (xb2 h0))))))))
  | 1, 11, _, _, _ => exact Or.inl (xb2 (xb2 (xb1 (xb1 (xb1 (xb2 (xb2 (xb2 h0))))))))
  | 1, 12, _, _, _ => exact Or.inl (xb1 (xb1 (xb2 (xb1 (xb2 (xb2 (xb2 (xb2 h0))))))))
  | 2, 3, _, _, _ => exact Or.inl (xb1 (xb1 (xb2 (xb1 (xb2 (xb2 (xb2 (xb1 h0))))))))
  | 2, 4, _, _, _ => exact Or.inl (xb1 (xb1 (xb1 (xb1 (xb1 (xb1 (xb1 (xb2 h0))))))))
  | 2, 5, _, _, _ => exact Or.inl (xb2 (xb1 (xb2 (xb2 (xb1 (xb1 (xb1 (xb2 h0))))))))
  | 2, 6, _, _, _ => exact Or.inl (xb2 (xb1 (xb1 (xb2 (xb2 (xb1 (xb1 (xb2 h0))))))))
  | 2, 7, _, _, _ => exact Or.inl (xb2 (xb2 (xb2 (xb1 (xb1 (xb2 (xb1 (xb2 h0))))))))
  | 2, 8, _, _, _ => exact Or.inl (xb1 (xb2 (xb2 (xb1 (xb2 (xb2 (xb1 (xb2 h0))))))))
  | 2, 9, _, _, _ => exact Or.inl (xb1 (xb2 (xb2 (xb1 (xb1 (xb1 (xb2 (xb2 h0))))))))
  | 2, 10, _, _, _ => exact Or.inl (xb1 (xb1 (xb2 (xb1 (xb2 (xb1 (xb2 (xb2 h0))))))))
  | 2, 11, _, _, _ => exact Or.inl (xb1 (xb1 (xb2 (xb1 (xb1 (xb2 (xb2 (xb2 h0))))))))
  | 2, 12, _, _, _ => exact Or.inl (xb2 (xb1 (xb2 (xb1 (xb2 (xb2 (xb2 (xb2 h0))))))))
  | 3, 4, _, _, _ => exact Or.inl (xb2 (xb1 (xb1 (xb1 (xb1 (xb1 (xb1 (xb2 h0))))))))
  | 3, 5, _, _, _ => exact Or.inl (xb1 (xb2 (xb2 (xb2 (xb1 (xb1 (xb1 (xb2 h0))))))))
  | 3, 6, _, _, _ => exact Or.inl (xb1 (xb2 (xb1 (xb2 (xb2 (xb1 (xb1 (xb2 h0))))))))
  | 3, 7, _, _, _ => exact Or.inl (xb1 (xb1 (xb1 (xb2 (xb1 (xb2 (xb1 (xb2 h0))))))))
  | 3, 8, _, _, _ => exact Or.inl (xb2 (xb2 (xb2 (xb1 (xb2 (xb2 (xb1 (xb2 h0))))))))
  | 3, 9, _, _, _ => exact Or.inl (xb2 (xb2 (xb2 (xb1 (xb1 (xb1 (xb2 (xb2 h0))))))))
  | 3, 10, _, _, _ => exact Or.inl (xb2 (xb1 (xb2 (xb1 (xb2 (xb1 (xb2 (xb2 h0))))))))
  | 3, 11, _, _, _ => exact Or.inl (xb2 (xb1 (xb2 (xb1 (xb1 (xb2 (xb2 (xb2 h0))))))))
  | 3, 12, _, _, _ => exact Or.inl (xb1 (xb2 (xb2 (xb1 (xb2 (xb2 (xb2 (xb2 h0))))))))
  | 4, 5, _, _, _ => exact Or.inl (xb2 (xb2 (xb2 (xb2 (xb1 (xb1 (xb1 (xb2 h0))))))))
  | 4, 6, _, _, _ => exact Or.inl (xb2 (xb2 (xb1 (xb2 (xb2 (xb1 (xb1 (xb2 h0))))))))
  | 4, 7, _, _, _ => exact Or.inl (xb2 (xb1 (xb1 (xb2 (xb1 (xb2 (xb1 (xb2 h0))))))))
  | 4, 8, _, _, _ => exact Or.inl (xb1 (xb1 (xb1 (xb2 (xb2 (xb2 (xb1 (xb2 h0))))))))
  | 4, 9, _, _, _ => exact Or.inl (xb1 (xb1 (xb1 (xb2 (xb1 (xb1 (xb2 (xb2 h0))))))))
  | 4, 10, _, _, _ => exact Or.inl (xb1 (xb2 (xb2 (xb1 (xb2 (xb1 (xb2 (xb2 h0))))))))
  | 4, 11, _, _, _ => exact Or.inl (xb1 (xb2 (xb2 (xb1 (xb1 (xb2 (xb2 (xb2 h0))))))))
  | 4, 12, _, _, _ => exact Or.inl (xb2 (xb2 (xb2 (xb1 (xb2 (xb2 (xb2 (xb2 h0))))))))
  | 5, 6, _, _, _ => exact Or.inl (xb1 (xb1 (xb2 (xb2 (xb2 (xb1 (xb1 (xb2 h0))))))))
  | 5, 7, _, _, _ => exact Or.inl (xb1 (xb2 (xb1 (xb2 (xb1 (xb2 (xb1 (xb2 h0))))))))
  | 5, 8, _, _, _ => exact Or.inl (xb2 (xb1 (xb1 (xb2 (xb2 (xb2 (xb1 (xb2 h0))))))))
  | 5, 9, _, _, _ => exact Or.inl (xb2 (xb1 (xb1 (xb2 (xb1 (xb1 (xb2 (xb2 h0))))))))
  | 5, 10, _, _, _ => exact Or.inl (xb2 (xb2 (xb2 (xb1 (xb2 (xb1 (xb2 (xb2 h0))))))))
  | 5, 11, _, _, _ => exact Or.inl (xb2 (xb2 (xb2 (xb1 (xb1 (xb2 (xb2 (xb2 h0))))))))
  | 5, 12, _, _, _ => exact Or.inl (xb1 (xb1 (xb1 (xb2 (xb2 (xb2 (xb2 (xb2 h0))))))))
  | 6, 7, _, _, _ => exact Or.inl (xb2 (xb2 (xb1 (xb2 (xb1 (xb2 (xb1 (xb2 h0))))))))
  | 6, 8, _, _, _ => exact Or.inl (xb1 (xb2 (xb1 (xb2 (xb2 (xb2 (xb1 (xb2 h0))))))))
  | 6, 9, _, _, _ => exact Or.inl (xb1 (xb2 (xb1 (xb2 (xb1 (xb1 (xb2 (xb2 h0))))))))
  | 6, 10, _, _, _ => exact Or.inl (xb1 (xb1 (xb1 (xb2 (xb2 (xb1 (xb2 (xb2 h0))))))))
  | 6, 11, _, _, _ => exact Or.inl (xb1 (xb1 (xb1 (xb2 (xb1 (xb2 (xb2 (xb2 h0))))))))
  | 6, 12, _, _, _ => exact Or.inl (xb2 (xb1 (xb1 (xb2 (xb2 (xb2 (xb2 (xb2 h0))))))))
  | 7, 8, _, _, _ => exact Or.inl (xb2 (xb2 (xb1 (xb2 (xb2 (xb2 (xb1 (xb2 h0))))))))
  | 7, 9, _, _, _ => exact Or.inl (xb2 (xb2 (xb1 (xb2 (xb1 (xb1 (xb2 (xb2 h0))))))))
  | 7, 10, _, _, _ => exact Or.inl (xb2 (xb1 (xb1 (xb2 (xb2 (xb1 (xb2 (xb2 h0))))))))
  | 7, 11, _, _, _ => exact Or.inl (xb2 (xb1 (xb1 (xb2 (xb1 (xb2 (xb2 (xb2 h0))))))))
  | 7, 12, _, _, _ => exact Or.inl (xb1 (xb2 (xb1 (xb2 (xb2 (xb2 (xb2 (xb2 h0))))))))
  | 8, 9, _, _, _ => exact Or.inl (xb1 (xb1 (xb2 (xb2 (xb1 (xb1 (xb2 (xb2 h0))))))))
  | 8, 10, _, _, _ => exact Or.inl (xb1 (xb2 (xb1 (xb2 (xb2 (xb1 (xb2 (xb2 h0))))))))
  | 8, 11, _, _, _ => exact Or.inl (xb1 (xb2 (xb1 (xb2 (xb1 (xb2 (xb2 (xb2 h0))))))))
  | 8, 12, _, _, _ => exact Or.inl (xb2 (xb2 (xb1 (xb2 (xb2 (xb2 (xb2 (xb2 h0))))))))
  | 9, 10, _, _, _ => exact Or.inl (xb2 (xb2 (xb1 (xb2 (xb2 (xb1 (xb2 (xb2 h0))))))))
  | 9, 11, _, _, _ => exact Or.inl (xb2 (xb2 (xb1 (xb2 (xb1 (xb2 (xb2 (xb2 h0))))))))
  | 9, 12, _, _, _ => exact Or.inl (xb1 (xb1 (xb2 (xb2 (xb2 (xb2 (xb2 (xb2 h0))))))))
  | 10, 11, _, _, _ => exact Or.inl (xb1 (xb1 (xb2 (xb2 (xb1 (xb2 (xb2 (xb2 h0))))))))
  | 10, 12, _, _, _ => exact Or.inl (xb2 (xb1 (xb2 (xb2 (xb2 (xb2 (xb2 (xb2 h0))))))))
  | 11, 12, _, _, _ => exact Or.inl (xb1 (xb2 (xb2 (xb2 (xb2 (xb2 (xb2 (xb2 h0))))))))
  | 0, j + 13, _, h, _ => exact absurd h (by omega)
  | 1, j + 13, _, h, _ => exact absurd h (by omega)
  | 2, j + 13, _, h, _ => exact absurd h (by omega)
  | 3, j + 13, _, h, _ => exact absurd h (by omega)
  | 4, j + 13, _, h, _ => exact absurd h (by omega)
  | 5, j + 13, _, h, _ => exact absurd h (by omega)
  | 6, j + 13, _, h, _ => exact absurd h (by omega)
  | 7, j + 13, _, h, _ => exact absurd h (by omega)
  | 8, j + 13, _, h, _ => exact absurd h (by omega)
  | 9, j + 13, _, h, _ => exact absurd h (by omega)
  | 10, j + 13, _, h, _ => exact absurd h (by omega)
  | 11, j + 13, _, h, _ => exact absurd h (by omega)
  | 12, j + 13, _, h, _ => exact absurd h (by omega)
  | i + 13, _, h, _, _ => exact absurd h (by omega)
  | 0, 0, _, _, h => exact absurd h (by omega)
  | 1, 0, _, _, h => exact absurd h (by omega)
  | 1, 1, _, _, h => exact absurd h (by omega)
  | 2, 0, _, _, h => exact absurd h (by omega)
  | 2, 1, _, _, h => exact absurd h (by omega)
  | 2, 2, _, _, h => exact absurd h (by omega)
  | 3, 0, _, _, h => exact absurd h (by omega)
  | 3, 1, _, _, h => exact absurd h (by omega)
  | 3, 2, _, _, h => exact absurd h (by omega)
  | 3, 3, _, _, h => exact absurd h (by omega)
  | 4, 0, _, _, h => exact absurd h (by omega)
  | 4, 1, _, _, h => exact absurd h (by omega)
  | 4, 2, _, _, h => exact absurd h (by omega)
  | 4, 3, _, _, h => exact absurd h (by omega)
  | 4, 4, _, _, h => exact absurd h (by omega)
  | 5, 0, _, _, h => exact absurd h (by omega)
  | 5, 1, _, _, h => exact absurd h (by omega)
  | 5, 2, _, _, h => exact absurd h (by omega)
  | 5, 3, _, _, h => exact absurd h (by omega)
  | 5, 4, _, _, h => exact absurd h (by omega)
  | 5, 5, _, _, h => exact absurd h (by omega)
  | 6, 0, _, _, h => exact absurd h (by omega)
  | 6, 1, _, _, h => exact absurd h (by omega)
  | 6, 2, _, _, h => exact absurd h (by omega)
  | 6, 3, _, _, h => exact absurd h (by omega)
  | 6, 4, _, _, h => exact absurd h (by omega)
  | 6, 5, _, _, h => exact absurd h (by omega)
  | 6, 6, _, _, h => exact absurd h (by omega)
  | 7, 0, _, _, h => exact absurd h (by omega)
  | 7, 1, _, _, h => exact absurd h (by omega)
  | 7, 2, _, _, h => exact absurd h (by omega)
  | 7, 3, _, _, h => exact absurd h (by omega)
  | 7, 4, _, _, h => exact absurd h (by omega)
  | 7, 5, _, _, h => exact absurd h (by omega)
  | 7, 6, _, _, h => exact absurd h (by omega)
  | 7, 7, _, _, h => exact absurd h (by omega)
  | 8, 0, _, _, h => exact absurd h (by omega)
  | 8, 1, _, _, h => exact absurd h (by omega)
  | 8, 2, _, _, h => exact absurd h (by omega)
  | 8, 3, _, _, h => exact absurd h (by omega)
  | 8, 4, _, _, h => exact absurd h (by omega)
  | 8, 5, _, _, h => exact absurd h (by omega)
  | 8, 6, _, _, h => exact absurd h (by omega)
  | 8, 7, _, _, h => exact absurd h (by omega)
  | 8, 8, _, _, h => exact absurd h (by omega)
  | 9, 0, _, _, h => exact absurd h (by omega)
  | 9, 1, _, _, h => exact absurd h (by omega)
  | 9, 2, _, _, h => exact absurd h (by omega)
  | 9, 3, _, _, h => exact absurd h (by omega)
  | 9, 4, _, _, h => exact absurd h (by omega)
  | 9, 5, _, _, h => exact absurd h (by omega)
  | 9, 6, _, _, h => exact absurd h (by omega)
  | 9, 7, _, _, h => exact absurd h (by omega)
  | 9, 8, _, _, h => exact absurd h (by omega)
  | 9, 9, _, _, h => exact absurd h (by omega)
  | 10, 0, _, _, h => exact absurd h (by omega)
  | 10, 1, _, _, h => exact absurd h (by omega)
  | 10, 2, _, _, h => exact absurd h (by omega)
  | 10, 3, _, _, h => exact absurd h (by omega)
  | 10, 4, _, _, h => exact absurd h (by omega)
  | 10, 5, _, _, h => exact absurd h (by omega)
  | 10, 6, _, _, h => exact absurd h (by omega)
  | 10, 7, _, _, h => exact absurd h (by omega)
  | 10, 8, _, _, h => exact absurd h (by omega)
  | 10, 9, _, _, h => exact absurd h (by omega)
  | 10, 10, _, _, h => exact absurd h (by omega)
  | 11, 0, _, _, h => exact absurd h (by omega)
  | 11, 1, _, _, h => exact absurd h (by omega)
  | 11, 2, _, _, h => exact absurd h (by omega)
  | 11, 3, _, _, h => exact absurd h (by omega)
  | 11, 4, _, _, h => exact absurd h (by omega)
  | 11, 5, _, _, h => exact absurd h (by omega)
  | 11, 6, _, _, h => exact absurd h (by omega)
  | 11, 7, _, _, h => exact absurd h (by omega)
  | 11, 8, _, _, h => exact absurd h (by omega)
  | 11, 9, _, _, h => exact absurd h (by omega)
  | 11, 10, _, _, h => exact absurd h (by omega)
  | 11, 11, _, _, h => exact absurd h (by omega)
  | 12, 0, _, _, h => exact absurd h (by omega)
  | 12, 1, _, _, h => exact absurd h (by omega)
  | 12, 2, _, _, h => exact absurd h (by omega)
  | 12, 3, _, _, h => exact absurd h (by omega)
  | 12, 4, _, _, h => exact absurd h (by omega)
  | 12, 5, _, _, h => exact absurd h (by omega)
  | 12, 6, _, _, h => exact absurd h (by omega)
  | 12, 7, _, _, h => exact absurd h (by omega)
  | 12, 8, _, _, h => exact absurd h (by omega)
  | 12, 9, _, _, h => exact absurd h (by omega)
  | 12, 10, _, _, h => exact absurd h (by omega)
  | 12, 11, _, _, h => exact absurd h (by omega)
  | 12, 12, _, _, h => exact absurd h (by omega)
set_option maxRecDepth 20000 in
theorem nx_st {args : Array Value} {s : State} (h0 : narrow_1.before args s = true) : (Jvm.Cond.eq (Jvm.Term.static "java/lang/String" "COMPACT_STRINGS" "Z") (Jvm.Term.int (1 : Int32))).before args s = true ∧ (Jvm.Cond.isRef (Jvm.Term.static "jdk/internal/util/Preconditions" "SIOOBE_FORMATTER" "Ljava/util/function/BiFunction;")).before args s = true ∧ (Jvm.Cond.arrayOf (Jvm.Term.static "OpensAtNine" "TENS" "[I") Jvm.ClassFile.FieldType.int).before args s = true ∧ (Jvm.Cond.eq (Jvm.Term.length (Jvm.Term.static "OpensAtNine" "TENS" "[I")) (Jvm.Term.int (7 : Int32))).before args s = true := by
  unfold narrow_1 at h0
  exact ⟨(xb1 (xb2 (xb1 (xb1 (xb1 (xb1 (xb1 (xb1 h0)))))))), (xb2 (xb2 (xb1 (xb1 (xb1 (xb1 (xb1 (xb1 h0)))))))), (xb1 (xb1 (xb1 (xb2 (xb1 (xb1 (xb1 (xb1 h0)))))))), (xb2 (xb1 (xb1 (xb2 (xb1 (xb1 (xb1 (xb1 h0))))))))⟩
set_option maxRecDepth 20000 in
theorem nx_te {args : Array Value} {s : State} (h0 : narrow_1.before args s = true) : ∀ i : Nat, i < 7 → (Cond.eq (.elem (.static "OpensAtNine" "TENS" "[I") (.int (Int32.ofNat i))) (.int (xTens.getD i 0))).before args s = true := by
  unfold narrow_1 at h0
  intro i hi
  match i, hi with
  | 0, _ => exact (xb1 (xb2 (xb1 (xb2 (xb1 (xb1 (xb1 (xb1 h0))))))))
  | 1, _ => exact (xb2 (xb2 (xb1 (xb2 (xb1 (xb1 (xb1 (xb1 h0))))))))
  | 2, _ => exact (xb1 (xb1 (xb2 (xb2 (xb1 (xb1 (xb1 (xb1 h0))))))))
  | 3, _ => exact (xb2 (xb1 (xb2 (xb2 (xb1 (xb1 (xb1 (xb1 h0))))))))
  | 4, _ => exact (xb1 (xb2 (xb2 (xb2 (xb1 (xb1 (xb1 (xb1 h0))))))))
  | 5, _ => exact (xb2 (xb2 (xb2 (xb2 (xb1 (xb1 (xb1 (xb1 h0))))))))
  | 6, _ => exact (xb1 (xb1 (xb1 (xb1 (xb2 (xb1 (xb1 (xb1 h0))))))))
  | n + 7, h => exact absurd h (by omega)
theorem xArr {s : State} {cA : ClassId} {kA : Class} {comp : ClassId} {ty : FieldType} (h1 : s.vm.classes[cA]? = some kA) (h2 : kA.kind = .array comp ty) : ArrOfT s cA ty := fun N z => ⟨(fun k h => by cases h), kA, h1, comp, h2⟩
theorem GI_start {s : State} {args : Array Value} {b : Nat} (hts : ∀ w ∈ XT, w.before args s = true) (hT : ∀ w ∈ lw_tbl, w.before args s = true) (h0 : narrow_1.before args s = true) : ∃ G : XG, gB G = s.heap.size ∧ gX G = b ∧ GI G s s.heap := by
  have hA : ∀ a : Nat, a < s.heap.size → ¬ (fun q : Nat => s.heap.size ≤ q) a := fun a h => Nat.not_le.mpr h
  obtain ⟨c0, i0, hk0⟩ := u_known (ws := XT) (C := xR0) (T := xT0) (N := 3) (n := 3) hts xkc0.2.1 (hts _ (XT3 25 rfl rfl))
  obtain ⟨c1, i1, hk1⟩ := u_known (ws := XT) (C := xR1) (T := xT1) (N := 12) (n := 12) hts xkc1.2.1 (hts _ (XT1 32 rfl rfl))
  obtain ⟨c2, i2, hk2⟩ := u_known (ws := XT) (C := xR2) (T := xT2) (N := 1) (n := 1) hts xkc2.2.1 (hts _ (XT1 92 rfl rfl))
  obtain ⟨c3, i3, hk3⟩ := u_known (ws := XT) (C := xR3) (T := xT3) (N := 11) (n := 11) hts xkc3.2.1 (hts _ (XT1 158 rfl rfl))
  obtain ⟨c4, i4, hk4⟩ := u_known (ws := XT) (C := xR4) (T := xT4) (N := 3) (n := 3) hts xkc4.2.1 (hts _ (XT1 201 rfl rfl))
  obtain ⟨c5, i5, hk5⟩ := u_known (ws := XT) (C := xR5) (T := xT5) (N := 3) (n := 3) hts xkc5.2.1 (hts _ (XT2 126 rfl rfl))
  obtain ⟨c6, i6, hk6⟩ := u_known (ws := XT) (C := xR6) (T := xT6) (N := 7) (n := 7) hts xkc6.2.1 (hts _ (XT1 128 rfl rfl))
  obtain ⟨c7, i7, hk7⟩ := u_known (ws := XT) (C := xR7) (T := xT7) (N := 6) (n := 6) hts xkc7.2.1 (hts _ (XT1 102 rfl rfl))
  obtain ⟨c8, i8, hk8⟩ := u_known (ws := XT) (C := xR8) (T := xT8) (N := 11) (n := 11) hts xkc8.2.1 (hts _ (XT1 20 rfl rfl))
  obtain ⟨c9, i9, hk9⟩ := u_known (ws := XT) (C := xR9) (T := xT9) (N := 49) (n := 49) hts xkc9.2.1 (hts _ (XT4 173 rfl rfl))
  obtain ⟨dC, dI, hKc⟩ : ∃ (dC : Nat → ClassId) (dI : Nat → Nat → Nat), ∀ (k : Nat) (q : vw_C), xCl[k]? = some q → u_Kn s q.1 q.2.1 q.2.2 (dC k) (dI k) := by
    refine ⟨fun k => match k with | 0 => c0 | 1 => c1 | 2 => c2 | 3 => c3 | 4 => c4 | 5 => c5 | 6 => c6 | 7 => c7 | 8 => c8 | _ => c9, fun k => match k with | 0 => i0 | 1 => i1 | 2 => i2 | 3 => i3 | 4 => i4 | 5 => i5 | 6 => i6 | 7 => i7 | 8 => i8 | _ => i9, ?_⟩
    intro k q hq
    match k, hq with
    | 0, hq => cases hq; exact hk0
    | 1, hq => cases hq; exact hk1
    | 2, hq => cases hq; exact hk2
    | 3, hq => cases hq; exact hk3
    | 4, hq => cases hq; exact hk4
    | 5, hq => cases hq; exact hk5
    | 6, hq => cases hq; exact hk6
    | 7, hq => cases hq; exact hk7
    | 8, hq => cases hq; exact hk8
    | 9, hq => cases hq; exact hk9
    | k + 10, hq => simp [xCl] at hq
  obtain ⟨a10, k10, m10, e10, f10, g10⟩ := Cond.arrayClass_spec (hts (.arrayClass .int) (XT1 90 rfl rfl))
  obtain ⟨a11, k11, m11, e11, f11, g11⟩ := Cond.arrayClass_spec (hts (.arrayClass .long) (XT5 133 rfl rfl))
  have ov12 : (Cond.arrayOver (.object xR0)).before args s = true := hT _ (List.mem_of_getElem? (i := 96) (by decide +kernel))
  obtain ⟨m12, a12, k12, d12, -, f12, g12, e12⟩ := Cond.arrayOver_spec ov12
  have ov13 : (Cond.arrayOver (.object xR5)).before args s = true := hT _ (List.mem_of_getElem? (i := 98) (by decide +kernel))
  obtain ⟨m13, a13, k13, d13, -, f13, g13, e13⟩ := Cond.arrayOver_spec ov13
  have ov14 : (Cond.arrayOver (.object xR4)).before args s = true := hT _ (List.mem_of_getElem? (i := 268) (by decide +kernel))
  obtain ⟨m14, a14, k14, d14, -, f14, g14, e14⟩ := Cond.arrayOver_spec ov14
  have ov15 : (Cond.arrayOver (.array .int)).before args s = true := hT _ (List.mem_of_getElem? (i := 202) (by decide +kernel))
  obtain ⟨m15, a15, k15, d15, -, f15, g15, e15⟩ := arrayOver_specB ov15
  obtain ⟨hcs, hfm, hta, htl⟩ := nx_st h0
  have hne : ∀ i j : Nat, i < 13 → j < 13 → i ≠ j → (Cond.not (Cond.eq (tmS i) (tmS j))).before args s = true ∨ (Cond.not (Cond.eq (tmS j) (tmS i))).before args s = true := by
    intro i j hi hj hij
    rcases Nat.lt_or_gt_of_ne hij with q | q
    · exact nx_ne h0 i j hi hj q
    · exact (nx_ne h0 j i hj hi q).symm
  obtain ⟨adK, adV, hS, hev⟩ := vk_Sof (tm := tmS) (N := 13) (len := xLen) (byt := xByt) (by decide +kernel) (nx_ex h0) (nx_co h0) (nx_ar h0) (nx_le h0) (nx_el h0) hne hA
  have hZc := va_Zof (v := .int 1) (hT _ (List.mem_of_getElem? (i := 301) (by decide +kernel))) (hts _ (XT1 8 rfl rfl)) (va_eqt hcs) hA
  have hZf := va_Zqof (hT _ (List.mem_of_getElem? (i := 317) (by decide +kernel))) (hts _ (XT1 10 rfl rfl)) hfm hA
  obtain ⟨fm, hZf⟩ : ∃ fm : Option Nat, va_Z "jdk/internal/util/Preconditions" "SIOOBE_FORMATTER" "Ljava/util/function/BiFunction;" (va_rf fm) (fun q : Nat => s.heap.size ≤ q) s s.heap := by
    rcases hZf with h | ⟨t, h⟩
    · exact ⟨none, h⟩
    · exact ⟨some t, h⟩
  obtain ⟨tT, htT, hTT⟩ := va_Tof (tm := .static "OpensAtNine" "TENS" "[I") (ty := .int) (N := 7) (f := fun j => .int (xTens.getD j 0)) (by decide) hta (va_eqt htl) (fun j hj => va_eqt (nx_te h0 j hj)) hA
  have hZt := va_Zof (v := .ref tT) (hT _ (List.mem_of_getElem? (i := 723) (by decide +kernel))) (hts _ (XT1 1 rfl rfl)) htT hA
  refine ⟨(s.heap.size, (dC, dI), (fun k => if k = 10 then a10 else if k = 11 then a11 else if k = 12 then a12 else if k = 13 then a13 else if k = 14 then a14 else a15), adK, adV, tT, fm, b), rfl, rfl, ⟨hKc, ?_⟩, hS, ?_, hZc, hZf, hZt, hTT, ⟨va_AO.of ov12, va_AO.of ov13, va_AO.of ov14, ov15, va_Nw.of rfl (hT _ (List.mem_of_getElem? (i := 443) (by decide +kernel)))⟩, va_Nw.of rfl (hT _ (List.mem_of_getElem? (i := 161) (by decide +kernel))), va_Nw.of rfl (hT _ (List.mem_of_getElem? (i := 227) (by decide +kernel))), va_Nw.of rfl (hT _ (List.mem_of_getElem? (i := 270) (by decide +kernel))), va_Nw.of rfl (hT _ (List.mem_of_getElem? (i := 733) (by decide +kernel))), va_Nw.of rfl (hT _ (List.mem_of_getElem? (i := 802) (by decide +kernel)))⟩
  · intro k q hq
    match k, hq with
    | 0, hq => cases hq; exact ⟨xArr f10 g10, e10⟩
    | 1, hq => cases hq; exact ⟨xArr f11 g11, e11⟩
    | 2, hq => cases hq; exact ⟨xArr f12 g12, k12, m12, f12, g12, by assumption, e12⟩
    | 3, hq => cases hq; exact ⟨xArr f13 g13, k13, m13, f13, g13, by assumption, e13⟩
    | 4, hq => cases hq; exact ⟨xArr f14 g14, k14, m14, f14, g14, by assumption, e14⟩
    | 5, hq => cases hq; exact ⟨xArr f15 g15, e15⟩
    | k + 6, hq => simp [xtys] at hq
  · intro i hi
    refine vk_R.of (A := args) ?_ (hev i hi)
    match i, hi with
    | 0, _ => exact hT _ (List.mem_of_getElem? (i := 287) (by decide +kernel))
    | 1, _ => exact hT _ (List.mem_of_getElem? (i := 362) (by decide +kernel))
    | 2, _ => exact hT _ (List.mem_of_getElem? (i := 363) (by decide +kernel))
    | 3, _ => exact hT _ (List.mem_of_getElem? (i := 364) (by decide +kernel))
    | 4, _ => exact hT _ (List.mem_of_getElem? (i := 365) (by decide +kernel))
    | 5, _ => exact hT _ (List.mem_of_getElem? (i := 366) (by decide +kernel))
    | 6, _ => exact hT _ (List.mem_of_getElem? (i := 367) (by decide +kernel))
    | 7, _ => exact hT _ (List.mem_of_getElem? (i := 368) (by decide +kernel))
    | 8, _ => exact hT _ (List.mem_of_getElem? (i := 369) (by decide +kernel))
    | 9, _ => exact hT _ (List.mem_of_getElem? (i := 370) (by decide +kernel))
    | 10, _ => exact hT _ (List.mem_of_getElem? (i := 371) (by decide +kernel))
    | 11, _ => exact hT _ (List.mem_of_getElem? (i := 372) (by decide +kernel))
    | 12, _ => exact hT _ (List.mem_of_getElem? (i := 373) (by decide +kernel))
    | n + 13, h => exact absurd h (by omega)
set_option maxHeartbeats 4000000 in
theorem whole_start {p : Program} {e : Env} {s : State} {m : MethodId} {below : List Frame} {meth : Method} {c : Code} (l : Launch) (hflags : l.flags = flags0) {b L : Nat} {xs : Nat → Int32} (hL : L ≤ 3584) (hpure : ∀ (xn : Nat) (xs9 : Nat → Int32), xn ≤ 3584 → ∃ h : XM, f_L_law xn xs9 x0 = some (1, h)) (C0 : lw_At p s m meth c b L xs) : W p l e room_1 s m #[Value.ref b] below meth c s.heap [] 0 0 (lw_Z below #[Value.ref b] s) (entryFrame m ([Value.ref b] : List Value).toArray 4) := by
  obtain ⟨hx, hb, hr, hml, hown, hts, hX, hbl, hlocks, hname, hgv⟩ := C0
  have hts2 : ∀ w ∈ XT, w.before #[Value.ref b] s = true := fun w hw => hts w (List.mem_filter.mp hw).1
  obtain ⟨G, hB, hGX, hG⟩ := GI_start (b := b) hts2 hts (xb2 hgv)
  obtain ⟨h, hh⟩ := hpure L xs hL
  have hl := lv_entry ([.ref b]) (n := 4) (Nat.le_of_ble_eq_true rfl)
  rw [lg_entry_eq]
  generalize (lg_sl ([.ref b]) ++ List.replicate (4 - (lg_sl ([.ref b])).length) Slot.unset).toArray = ls at hl ⊢
  have hl : lv_has ls 4 (lmap G [(0, tK 8)]) := by
    have e8 : xtv G (tK 8) = .ref b := by
      show xk G 8 = _
      unfold xk
      rw [if_neg (by decide), if_neg (by decide), if_neg (by decide), if_pos rfl, hGX]
    show lv_has ls 4 [(0, xtv G (tK 8))]
    rw [e8]
    exact hl
  have hR : Rep G x0 s.heap := by
    refine ⟨fun k q hq => ?_, hB.symm, fun a _ => rfl, fun a ha => absurd (show (99 : Nat) < 10 from ha) (by decide)⟩
    exact absurd (xW_inv hq).1 (Nat.not_lt_zero k)
  have hS : va_S (fun q => gB G ≤ q) s.heap s.heap [] := va_S.rf
  have K := b_L_law (G, p, l, e, s, m, #[Value.ref b], below, meth, c) L xs ⟨by rw [hGX]; exact hX, by rw [hGX]; exact hbl, by rw [hGX, hB]; exact hbl⟩ x0
  have K2 := K ⟨hx, hb, hml, hr, hown, hts2, hlocks, hname, dT_L_law, hG, by rw [hB]; exact Nat.le_refl _⟩ (1, h) hh s.heap [] ls 0 0 hR hS hl (Nat.le_of_eq (Nat.zero_add _)) (Nat.le_of_eq (Nat.zero_add _))
  intro T hT X
  obtain ⟨t, h1, o, h2, h3, hq, Lc, hF, hL9⟩ := K2 T hT X
  refine ⟨t, h1, o, h2, h3, hq.1, hF.1, hF.2.1, ?_⟩
  refine State.sameButNew.weaken hF.2.2 (fun y hy hlt => ?_) (Nat.le_refl _) (Nat.le_refl _)
  exact absurd hlt (Nat.not_lt.mpr (by have := hL9 y hy; rw [hB] at this; exact this))
set_option maxHeartbeats 4000000 in
theorem lw_walk (l : Launch) (hflags : l.flags = flags0) (hpure : ∀ (xn : Nat) (xs9 : Nat → Int32), xn ≤ 3584 → ∃ h : XM, f_L_law xn xs9 x0 = some (1, h)) (b : Addr) (xs : List Int32) : MetFree l x (headSpec (Jvm.Cond.code x code maxLocals ret :: tables_1) room_1) (lw_P b xs) (fun _ _ _ _ _ => True) lw_Q := by
  refine MetFree.of_bodyS (code := code) (maxLocals := maxLocals) (ret := ret) (by decide) ?_ ?_
  · intro args s m h hn
    obtain ⟨meth, c, h1, h2, h3, h4, h5, h6, -, -⟩ := Cond.code_spec hn (atoms_spec (ws := Jvm.Cond.code x code maxLocals ret :: tables_1) h _ List.mem_cons_self)
    exact ⟨meth, c, h1, h2, h3, h4, h5, h6⟩
  · intro p e s m args below meth c s₁ B hml0 hP _
    obtain ⟨rfl, hx, hbd, hgv⟩ := hP
    obtain ⟨scr, harrAt, hlist, hof, hsmall⟩ := hx
    obtain ⟨hcb, hkn, -, -⟩ := State.arrayAt?_spec harrAt
    have hown : s.vm.findClass R_law = some m.cls := findClass_of_methodNamed B.named
    have hts0 : ∀ c ∈ (Jvm.Cond.code x code maxLocals ret :: tables_1), c.before #[Value.ref b] s = true := atoms_spec (ws := Jvm.Cond.code x code maxLocals ret :: tables_1) B.pre
    have hts : ∀ w ∈ lw_tbl, w.before #[Value.ref b] s = true := k2_hts_sels lw_privs (fun w hw => hts0 w (List.mem_cons_of_mem _ hw)) lw_privs_ok
    have hml : c.maxLocals = 4 := B.maxLocals_eq (hts0 _ List.mem_cons_self)
    have X₀ : Stand p l e room_1 s m #[Value.ref b] below meth c s₁ [] 0 0 := Stand.of_body B
    have hh0 : s₁.heap = s.heap := by rw [B.state]; rfl
    have hsz : scr.slots.size = xs.length := by rw [← Array.length_toList, hlist, List.length_map]
    have hval : ∀ j : Nat, j < xs.length → scr.slots[j]? = some (.int (xs.getD j 0)) := fun j hj => by
      rw [← Array.getElem?_toList, hlist]
      simp [hj]
    have hbl : b < s.heap.size := (Array.getElem?_eq_some_iff.mp hcb).1
    have hX : va_X b xs.length (fun j => xs.getD j 0) s s.heap := ⟨scr, hcb, hof, hkn, hsz, hval⟩
    have K : W p l e room_1 s m #[Value.ref b] below meth c s₁.heap [] 0 0 (lw_Z below #[Value.ref b] s) (entryFrame m ([Value.ref b] : List Value).toArray 4) := by
      rw [hh0]
      exact whole_start l hflags hbd hpure ⟨B.exec, B.bytes, B.returns, hml, hown, hts, hX, hbl, B.notSynchronized, (name_of_methodNamed B.named B.method).1, hgv⟩
    obtain ⟨t, a1, o, b1, b2, b3⟩ := K s₁ rfl X₀
    exact ⟨t, o, a1, b1, b2, b3⟩
theorem lw_pre_spec {args : Array Value} {s : State} (h : (Jvm.Cond.and given_1 narrow_1).before args s = true) (hr : rest_1_c.before args s = true) : ∃ (b : Addr) (xs : List Int32), lw_P b xs args s := by
  have hs := flat_of_before _ h
  have hq := flat_of_before _ hr
  have hc : (Cond.count 1).before args s = true := hs _ (by decide +kernel)
  have harr : (Cond.arrayOf (.arg 0) .int).before args s = true := hs _ (by decide +kernel)
  have hle : (Cond.le (.length (.arg 0)) (.int 3584)).before args s = true := hs _ (by decide +kernel)
  have hlen : (Cond.isInt (.length (.arg 0))).before args s = true := hq _ (by decide +kernel)
  have hall : (Cond.all (.arg 0) (.isInt (.elem (.arg 0) (.index 0)))).before args s = true := hq _ (by decide +kernel)
  obtain ⟨b, xs, hb, hx⟩ := State.ints_of_pre rfl harr hlen hall
  have hsm : xs.length < 2 ^ 31 := hx.choose_spec.2.2.2
  have hev : (Term.length (.arg 0)).eval args s none [] s = some (.int xs.length.toInt32) := hx.length_eval hb
  have hv := Cond.le_ints hev (show (Term.int 3584).eval args s none [] s = some (.int 3584) from rfl)
  have hd : xs.length.toInt32 ≤ 3584 := by
    simpa [Cond.before, Cond.holds, hv] using hle
  have hN : xs.length ≤ 3584 := (Int32.ofNat_le_ofNat hsm (by decide)).mp (show Int32.ofNat xs.length ≤ Int32.ofNat 3584 from hd)
  exact ⟨b, xs, Cond.one_arg hc (show args[0]? = some (.ref b) from hb), hx, hN, h⟩
theorem lw_comes (l : Launch) (hflags : l.flags = flags0) (hpure : ∀ (xn : Nat) (xs9 : Nat → Int32), xn ≤ 3584 → ∃ h : XM, f_L_law xn xs9 x0 = some (1, h)) : Comes l x (Jvm.Cond.code x code maxLocals ret :: tables_1) room_1 (fun tb e args s => Calls_1 tb e args s ∧ rest_1 tb e args s ∧ Pre_1 tb e args s)
    (fun _ _ args s o t => lw_Q args s o t) := by
  intro p e ha hc hk s m args below hf hfit hheap happ hpre
  obtain ⟨b, xs, hP⟩ := lw_pre_spec hpre.2.2 hpre.2.1
  obtain ⟨k, o, h1, h2, h3, hQ⟩ := lw_walk l hflags hpure b xs p e ha hc hk s m args below hf ((Spec.applies_iff_loose hf).mp happ).1 hP trivial
  exact ⟨k, o, h1, h2, h3, hQ⟩
theorem lw_frame {s t : State} {o : Outcome} {args : Array Value} (h : Framed s o t [] 600000 7302250) :
    Framed s o t (fieldLocs frame_1_writes args s ++ arrayLocs frame_1_arrays args s ++ staticLocs frame_1_statics s) 600000 7302250 := h
theorem lw_limb (hpure : ∀ (xn : Nat) (xs9 : Nat → Int32), xn ≤ 3584 → ∃ h : XM, f_L_law xn xs9 x0 = some (1, h)) (L : Cond) (hL : ∀ (args : Array Value) (s t : State), L.after args s (.returned (some (.int 1))) t = true) :
    ArmFor flags0 classFile x code maxLocals ret World_1 tables_1 room_1 Calls_1 rest_1 Pre_1
      (fun tb e a s o t => postC L tb e a s o t ∧ Framed s o t (fieldLocs frame_1_writes a s ++ arrayLocs frame_1_arrays a s ++ staticLocs frame_1_statics s) 600000 7302250) := by
  intro l hflags _ _ p e ha hc hk s m args below hf hfit hheap happ hpre
  obtain ⟨k, o, h1, h2, h3, rfl, hF⟩ := lw_comes l hflags hpure p e ha hc hk s m args below hf hfit hheap happ hpre
  exact ⟨k, _, h1, h2, h3, hL args s _, lw_frame hF⟩
