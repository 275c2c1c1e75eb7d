/-! The abstract memory: how many cells, each cell's kind (0 .. 9 the classes of xCl; 10 int[]; 11 long[]; 12 .. 14 arrays of Coin, Text, Sheet; 15 int[][]; 99 none) and length, ints, longs, references. -/
abbrev XM : Type := Nat × (Nat → Nat × Nat) × (Nat → Nat → Int32) × (Nat → Nat → Int64) × (Nat → Nat → Option Nat)
def xc (h : XM) : Nat := h.1
def xs (h : XM) : Nat → Nat × Nat := h.2.1
def xi (h : XM) : Nat → Nat → Int32 := h.2.2.1
def xl (h : XM) : Nat → Nat → Int64 := h.2.2.2.1
def xr (h : XM) : Nat → Nat → Option Nat := h.2.2.2.2
def w2 {α : Type} (f : Nat → Nat → α) (a j : Nat) (v : α) : Nat → Nat → α := fun b k => if b = a ∧ k = j then v else f b k
def wI (h : XM) (a j : Nat) (v : Int32) : XM := (h.1, h.2.1, w2 h.2.2.1 a j v, h.2.2.2.1, h.2.2.2.2)
def wL (h : XM) (a j : Nat) (v : Int64) : XM := (h.1, h.2.1, h.2.2.1, w2 h.2.2.2.1 a j v, h.2.2.2.2)
def wR (h : XM) (a j : Nat) (v : Option Nat) : XM := (h.1, h.2.1, h.2.2.1, h.2.2.2.1, w2 h.2.2.2.2 a j v)
def nw (h : XM) (k n : Nat) : XM := (h.1 + 1, (fun b => if b = h.1 then (k, n) else h.2.1 b), (fun b => if b = h.1 then fun _ => 0 else h.2.2.1 b), (fun b => if b = h.1 then fun _ => 0 else h.2.2.2.1 b), (fun b => if b = h.1 then fun _ => none else h.2.2.2.2 b))
def x0 : XM := (0, (fun _ => (99, 0)), (fun _ _ => 0), (fun _ _ => 0), (fun _ _ => none))
/-! What the machine does there, or none where it isn't safe -/
def gI (h : XM) (k : Nat) (r : Option Nat) (j : Nat) : Option Int32 := r.bind fun a => if (xs h a).1 = k then some (xi h a j) else none
def gR (h : XM) (k : Nat) (r : Option Nat) (j : Nat) : Option (Option Nat) := r.bind fun a => if (xs h a).1 = k then some (xr h a j) else none
def pI (h : XM) (k : Nat) (r : Option Nat) (j : Nat) (v : Int32) : Option XM := r.bind fun a => if (xs h a).1 = k then some (wI h a j v) else none
def pZ (h : XM) (k : Nat) (r : Option Nat) (j : Nat) (v : Int32) : Option XM := r.bind fun a => if (xs h a).1 = k ∧ (v = 0 ∨ v = 1) then some (wI h a j v) else none
def pR (h : XM) (k : Nat) (r : Option Nat) (j : Nat) (v : Option Nat) : Option XM := r.bind fun a => if (xs h a).1 = k then some (wR h a j v) else none
def rI (h : XM) (r : Option Nat) (i : Int32) : Option Int32 := r.bind fun a => if (xs h a).1 = 10 ∧ ¬ (i < 0 ∨ (xs h a).2 ≤ i.toNatClampNeg) then some (xi h a i.toNatClampNeg) else none
def sI (h : XM) (r : Option Nat) (i v : Int32) : Option XM := r.bind fun a => if (xs h a).1 = 10 ∧ ¬ (i < 0 ∨ (xs h a).2 ≤ i.toNatClampNeg) then some (wI h a i.toNatClampNeg v) else none
def rL (h : XM) (r : Option Nat) (i : Int32) : Option Int64 := r.bind fun a => if (xs h a).1 = 11 ∧ ¬ (i < 0 ∨ (xs h a).2 ≤ i.toNatClampNeg) then some (xl h a i.toNatClampNeg) else none
def sL (h : XM) (r : Option Nat) (i : Int32) (v : Int64) : Option XM := r.bind fun a => if (xs h a).1 = 11 ∧ ¬ (i < 0 ∨ (xs h a).2 ≤ i.toNatClampNeg) then some (wL h a i.toNatClampNeg v) else none
def rR (k : Nat) (h : XM) (r : Option Nat) (i : Int32) : Option (Option Nat) := r.bind fun a => if (xs h a).1 = k ∧ ¬ (i < 0 ∨ (xs h a).2 ≤ i.toNatClampNeg) then some (xr h a i.toNatClampNeg) else none
/-- only cells of the kind kv are stored (no null) -/
def sR (k kv : Nat) (h : XM) (r : Option Nat) (i : Int32) (v : Option Nat) : Option XM := r.bind fun a => v.bind fun b => if ((xs h a).1 = k ∧ (xs h b).1 = kv) ∧ ¬ (i < 0 ∨ (xs h a).2 ≤ i.toNatClampNeg) then some (wR h a i.toNatClampNeg (some b)) else none
def ln (h : XM) (r : Option Nat) : Option Int32 := r.bind fun a => if 10 ≤ (xs h a).1 ∧ (xs h a).1 ≤ 15 then some (Int32.ofNat (xs h a).2) else none
def nO (h : XM) (k n : Nat) : Option XM := some (nw h k n)
def nA (h : XM) (k lim : Nat) (n : Int32) : Option XM := if n < 0 ∨ lim < n.toNatClampNeg then none else some (nw h k n.toNatClampNeg)
/-- the receiver of a call is there, and of its kind -/
def vc {α : Type} (h : XM) (k : Nat) (r : Option Nat) (o : Option α) : Option α := r.bind fun a => if (xs h a).1 = k then o else none
/-- an answer of boolean, byte, char -/
def rz (h : XM) (v : Int32) : Option (Int32 × XM) := if v = 0 ∨ v = 1 then some (v, h) else none
def irem (x y : Int32) : Option Int32 := if y = 0 then none else some (x - x / y * y)
def idiv (x y : Int32) : Option Int32 := if y = 0 then none else some (x / y)
def lrem (x y : Int64) : Option Int64 := if y = 0 then none else some (x - x / y * y)
def ldiv (x y : Int64) : Option Int64 := if y = 0 then none else some (x / y)
/-! typed values: ints, longs, references, constants (strings, their bytes, a static array) -/
abbrev TV : Type := Int32 ⊕ Int64 ⊕ Option Nat ⊕ Nat
abbrev tI (x : Int32) : TV := .inl x
abbrev tL (x : Int64) : TV := .inr (.inl x)
abbrev tA (r : Option Nat) : TV := .inr (.inr (.inl r))
abbrev tK (n : Nat) : TV := .inr (.inr (.inr n))
def tcat : TV → Nat
  | .inr (.inl _) => 2
  | _ => 1
/-- what is fixed: the address of cell 0, the classes, the arrays' classes, the strings, their bytes, TENS, the formatter -/
abbrev XG : Type := Nat × va_G × (Nat → ClassId) × (Nat → Nat) × (Nat → Nat) × Nat × Option Nat × Nat
def gB (G : XG) : Nat := G.1
def gD (G : XG) : va_G := G.2.1
def gC (G : XG) : Nat → ClassId := G.2.2.1
def gK (G : XG) : Nat → Nat := G.2.2.2.1
def gV (G : XG) : Nat → Nat := G.2.2.2.2.1
def gT (G : XG) : Nat := G.2.2.2.2.2.1
def gF (G : XG) : Option Nat := G.2.2.2.2.2.2.1
def gX (G : XG) : Nat := G.2.2.2.2.2.2.2
def xk (G : XG) (n : Nat) : Value := if n % 3 = 0 then .ref (gK G (n / 3)) else if n % 3 = 1 then .ref (gV G (n / 3)) else if n = 2 then .ref (gT G) else if n = 8 then .ref (gX G) else va_rf (gF G)
def xa (G : XG) (k : Nat) : Nat := gB G + k
def xtv (G : XG) : TV → Value
  | .inl x => .int x
  | .inr (.inl y) => .long y
  | .inr (.inr (.inl r)) => va_rf (r.map (xa G))
  | .inr (.inr (.inr n)) => xk G n
theorem va_rf_cat (r : Option Nat) : (va_rf r).category = 1 := by cases r <;> rfl
theorem xk_cat (G : XG) (n : Nat) : (xk G n).category = 1 := by
  unfold xk
  split
  · rfl
  · split
    · rfl
    · split
      · rfl
      · split
        · rfl
        · exact va_rf_cat _
theorem xtv_cat (G : XG) (v : TV) : (xtv G v).category = tcat v := by
  rcases v with x | y | r | n
  · rfl
  · rfl
  · exact va_rf_cat _
  · exact xk_cat G n
/-- which fields are references -/
def xrf : Nat → Nat → Bool := fun c j => match c with
  | 1 => decide (j < 4)
  | 2 => true
  | 3 => decide (j < 3)
  | 4 => decide (j = 0)
  | 5 => true
  | 6 => decide (j < 6)
  | 7 => decide (j < 2)
  | 8 => decide (j < 9)
  | 9 => decide (j ∈ [6, 7, 8, 9, 11, 13, 14, 18, 19, 20, 21, 22, 23, 28, 29, 33, 34, 35, 36, 38, 43, 44, 45, 46, 47])
  | _ => false
def xFs (G : XG) (h : XM) (k : Nat) : List Value := (List.range (xs h k).2).map fun j => if xrf (xs h k).1 j = true then va_rf ((xr h k j).map (xa G)) else .int (xi h k j)
def xAr (G : XG) (h : XM) (k : Nat) : vp_A := ((xs h k).2, if (xs h k).1 = 10 then .inl (xi h k) else if (xs h k).1 = 11 then .inr (.inl (xl h k)) else .inr (.inr (.inr (.inr (fun j => (xr h k j).map (xa G))))))
def xE (G : XG) (h : XM) (k : Nat) : va_E := if (xs h k).1 < 10 then .inr ((xs h k).1, xFs G h k) else .inl (gC G (xs h k).1, xAr G h k)
def xW (G : XG) (h : XM) : va_W := (List.range h.1).map fun k => (gB G + k, xE G h k)
/-- lengths of objects are their classes' -/
def xN : Nat → Nat := fun c => match c with
  | 0 => 3 | 1 => 12 | 2 => 1 | 3 => 11 | 4 => 3 | 5 => 3 | 6 => 7 | 7 => 6 | 8 => 11 | 9 => 49 | _ => 0
def Rep (G : XG) (h : XM) (H : Heap) : Prop := va_P (gD G) xCl (xW G h) H ∧ H.size = gB G + h.1 ∧ (∀ a, h.1 ≤ a → xs h a = (99, 0)) ∧ (∀ a, (xs h a).1 < 10 → (xs h a).2 = xN (xs h a).1)
def xtys (G : XG) : List (ClassId × FieldType) := [(gC G 10, .int), (gC G 11, .long), (gC G 12, .object xR0), (gC G 13, .object xR5), (gC G 14, .object xR4), (gC G 15, .array .int)]
/-! the strings -/
def xSidx : List (String × Nat) := [("OpensAtNine", 69), ("OpensAtNine$Reader", 133), ("OpensAtNine$Reader", 135), ("OpensAtNine$Reader", 137), ("OpensAtNine$Reader", 138), ("OpensAtNine$Reader", 140), ("OpensAtNine$Reader", 142), ("OpensAtNine$Reader", 144), ("OpensAtNine$Reader", 146), ("OpensAtNine$Reader", 148), ("OpensAtNine$Reader", 150), ("OpensAtNine$Reader", 152), ("OpensAtNine$Reader", 154)]
def xStx : List String := ["opens rest = 0 ; worth 20 ; haste minute ;", "sum", "rest", "value", "minute", "coins", "who", "opens", "worth", "haste", "or", "and", "not"]
def xByt : List (List Int32) := [[111, 112, 101, 110, 115, 32, 114, 101, 115, 116, 32, 61, 32, 48, 32, 59, 32, 119, 111, 114, 116, 104, 32, 50, 48, 32, 59, 32, 104, 97, 115, 116, 101, 32, 109, 105, 110, 117, 116, 101, 32, 59], [115, 117, 109], [114, 101, 115, 116], [118, 97, 108, 117, 101], [109, 105, 110, 117, 116, 101], [99, 111, 105, 110, 115], [119, 104, 111], [111, 112, 101, 110, 115], [119, 111, 114, 116, 104], [104, 97, 115, 116, 101], [111, 114], [97, 110, 100], [110, 111, 116]]
def xLen : List Nat := [42, 3, 4, 5, 6, 5, 3, 5, 5, 5, 2, 3, 3]
def xTens : List Int32 := [1, 10, 100, 1000, 10000, 100000, 1000000]
/-- what stays of the start: the classes, the strings, the statics -/
def GI (G : XG) (U : State) (H : Heap) : Prop :=
  va_K (gD G) xCl (xtys G) U ∧ vk_S 13 xLen xByt (gK G) (gV G) (fun q => gB G ≤ q) U H ∧ (∀ i, i < 13 → vk_R (xSidx.getD i ("", 0)).1 (xSidx.getD i ("", 0)).2 (xStx.getD i "") (gK G i) U) ∧
  va_Z "java/lang/String" "COMPACT_STRINGS" "Z" (.int 1) (fun q => gB G ≤ q) U H ∧ va_Z "jdk/internal/util/Preconditions" "SIOOBE_FORMATTER" "Ljava/util/function/BiFunction;" (va_rf (gF G)) (fun q => gB G ≤ q) U H ∧
  va_Z "OpensAtNine" "TENS" "[I" (.ref (gT G)) (fun q => gB G ≤ q) U H ∧ va_T .int (gT G) 7 (fun j => .int (xTens.getD j 0)) (fun q => gB G ≤ q) U H ∧
  (va_AO xR0 U ∧ va_AO xR5 U ∧ va_AO xR4 U ∧ (Cond.arrayOver (.array .int)).before #[] U = true ∧ va_Nw (.castable "[I" "java/lang/Cloneable") U) ∧
  (va_Nw (.methodLinkNest xR8 38 ⟨xR2, "<init>", "()V"⟩ xR8) U ∧ va_Nw (.methodLinkNest xR8 57 ⟨xR3, "<init>", "()V"⟩ xR8) U ∧ va_Nw (.methodLinkNest xR8 68 ⟨xR4, "<init>", "()V"⟩ xR8) U ∧ va_Nw (.fieldLinkNest xR1 92 "OpensAtNine" "TENS" "[I" xR8) U ∧ va_Nw (.fieldLinkNest xR6 120 "OpensAtNine" "TENS" "[I" xR8) U)
/-! One method under way: SW says that from here, where o is some answer, the machine ends with it -/
/-- bytes, locals, return type, class, name, the decoded rows (place, instruction, length, next place), cells, slots, frames, words -/
abbrev MI : Type := ByteArray × Nat × Option FieldType × String × String × List (Nat × Instr × Nat × Nat) × Nat × Nat × Nat × Nat
def mtab (I : MI) : List (Nat × Instr × Nat × Nat) := I.2.2.2.2.2.1
def mroom (I : MI) : Room := { frames := I.2.2.2.2.2.2.2.2.1, cells := I.2.2.2.2.2.2.1, slots := I.2.2.2.2.2.2.2.1, locals := I.2.2.2.2.2.2.2.2.2 }
def mmc (I : MI) : Nat := I.2.2.2.2.2.2.1
def mms (I : MI) : Nat := I.2.2.2.2.2.2.2.1
abbrev XX : Type := XG × Program × Launch × Env × State × MethodId × Array Value × List Frame × Method × Code
def xQ (G : XG) (r : Option TV × XM) : Array Value → State → Outcome → State → Prop := fun _ st oc t => oc = .returned (r.1.map (xtv G)) ∧ Rep G r.2 t.heap ∧ va_F (fun q => gB G ≤ q) st t
def XOK (X : XX) (I : MI) : Prop := match X with
  | (G, p, l, e, s, m, args, below, meth, c) => match I with
    | (cc, nL, ret, own, nm, tab, mc, ms, nfr, nlo) =>
      p.tables.exec = Jvm.exec ∧ c.code = cc ∧ c.maxLocals = nL ∧ meth.sig.returnType = ret ∧ s.vm.findClass own = some m.cls ∧ (∀ w ∈ XT, w.before args s = true) ∧ meth.locks = false ∧ meth.name = nm ∧ (∀ q ∈ tab, decode cc q.1 = .ok (q.2.1, q.2.2.1) ∧ q.2.2.2 = q.1 + q.2.2.1) ∧ GI G s s.heap ∧ gB G ≤ s.heap.size
def lmap (G : XG) (ls : List (Nat × TV)) : List (Nat × Value) := ls.map fun q => (q.1, xtv G q.2)
def SW {α : Type} (X : XX) (I : MI) (ρ : α → Option TV × XM) (pc : Nat) (ls : List (Nat × TV)) (st : List TV) (h : XM) (bc bs : Nat) (o : Option α) : Prop := match X with
  | (G, p, l, e, s, m, args, below, meth, c) => XOK (G, p, l, e, s, m, args, below, meth, c) I → ∀ r, o = some r → ∀ (H : Heap) (locs : List Loc) (lsA : Array Slot) (cells slots : Nat), Rep G h H → va_S (fun q => gB G ≤ q) s.heap H locs → lv_has lsA I.2.1 (lmap G ls) → cells + bc ≤ mmc I → slots + bs ≤ mms I →
    W p l e (mroom I) s m args below meth c H locs cells slots (MQ below (xQ G (ρ r)) args s (mmc I) (mms I) (fun q => gB G ≤ q)) (F0 m pc lsA (st.map (xtv G)))
def ρi (q : Int32 × XM) : Option TV × XM := (some (tI q.1), q.2)
def ρl (q : Int64 × XM) : Option TV × XM := (some (tL q.1), q.2)
def ρa (q : Option Nat × XM) : Option TV × XM := (some (tA q.1), q.2)
def ρk (q : Nat × XM) : Option TV × XM := (some (tK q.1), q.2)
def ρv (h : XM) : Option TV × XM := (none, h)
/-- the law's script: at gX, under the new cells -/
def xScr (X : XX) (xn : Nat) (xs : Nat → Int32) : Prop := match X with
  | (G, p, l, e, s, m, args, below, meth, c) => va_X (gX G) xn xs s s.heap ∧ gX G < s.heap.size ∧ gX G < gB G
