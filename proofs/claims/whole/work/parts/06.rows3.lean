/-! rows over SW: statics, strings, new cells, calls, ends (written by wip/whole/gen/gen_rows3.py) -/
theorem xAOA.moved {u U : State} (hvm : u.vm.Alike U.vm) (h : (Cond.arrayOver (.array .int)).before #[] u = true) : (Cond.arrayOver (.array .int)).before #[] U = true := by
  have e := Cond.arrayOver_setVmC (args := #[]) hvm (.array .int)
  have e2 : (Cond.arrayOver (.array .int)).before #[] U = (Cond.arrayOver (.array .int)).before #[] (u.setVm U.vm) := rfl
  rw [e2, e]
  exact h
theorem GI.call {G : XG} {s U : State} {H : Heap} {locs : List Loc} (hG : GI G s s.heap) (hW : s.WarmedH U.vm) (hS : va_S (fun q => gB G ≤ q) s.heap H locs) (hU : U.heap = H) : GI G U U.heap := by
  have hv := hW.alike
  obtain ⟨h1, h2, h3, h4, h5, h6, h7, ⟨h8, h9, h10, h11, h12⟩, h13, h14, h15, h16, h17⟩ := hG
  rw [hU]
  exact ⟨va_K.moved hv h1, vk_S.moved hv (h2.kept hS.2.1), fun i hi => (h3 i hi).warm hW, va_Z.moved hv (h4.kept hS.2.1), va_Z.moved hv (h5.kept hS.2.1), va_Z.moved hv (h6.kept hS.2.1), va_T.moved hv (h7.kept hS.2.1),
    ⟨va_AO.moved hv h8, va_AO.moved hv h9, va_AO.moved hv h10, xAOA.moved hv h11, va_Nw.warmC hW h12⟩, va_Nw.warmM hW h13, va_Nw.warmM hW h14, va_Nw.warmM hW h15, va_Nw.warmF hW h16, va_Nw.warmF hW h17⟩
theorem GI.blind {G : XG} {U : State} {g : JFrame} {mk : MethodId} {a : Array Value} (hG : GI G U U.heap) : GI G (U.calling g mk a) (U.calling g mk a).heap := by
  have hv : U.vm.Alike (U.calling g mk a).vm := Vm.Alike.refl U.vm
  obtain ⟨h1, h2, h3, h4, h5, h6, h7, ⟨h8, h9, h10, h11, h12⟩, h13, h14, h15, h16, h17⟩ := hG
  have e : ∀ (c : Cond), c.onTables = true → va_Nw c U → va_Nw c (U.calling g mk a) := fun c hc h => va_tabs (u := U) (U := U.calling g mk a) hc rfl h
  exact ⟨va_K.moved hv h1, vk_S.moved hv h2, fun i hi => (h3 i hi).same rfl, va_Z.moved hv h4, va_Z.moved hv h5, va_Z.moved hv h6, va_T.moved hv h7,
    ⟨va_AO.moved hv h8, va_AO.moved hv h9, va_AO.moved hv h10, xAOA.moved hv h11, e _ rfl h12⟩, e _ rfl h13, e _ rfl h14, e _ rfl h15, e _ rfl h16, e _ rfl h17⟩
def xPc (G : XG) (h : XM) (av : List TV) : Array Value → State → Prop := va_Pc (av.map (xtv G)) (fun U => GI G U U.heap ∧ gB G ≤ U.heap.size ∧ Rep G h U.heap)
theorem xPc_blind {G : XG} {h : XM} {av : List TV} : FrameBlind (xPc G h av) := fun a U g mk q => ⟨q.1, q.2.1.blind, q.2.2⟩
/-- A METHOD'S CONTRACT: at arguments av and memory h, where o is some answer -/
def MC {α : Type} (J : MI) (y : MethodName) (av : List TV) (h : XM) (ρ : α → Option TV × XM) (o : Option α) : Prop := ∀ (G : XG) (l : Launch) (r : α), o = some r → Met l y (Cond.code y J.1 J.2.1 J.2.2.1 :: XT) (mroom J) (xPc G h av) (xQ G (ρ r)) (mmc J) (mms J) (fun q => gB G ≤ q)
def targs : Nat → List TV → List (Nat × TV)
  | _, [] => []
  | i, v :: vs => (i, v) :: targs (if tcat v = 2 then i + 2 else i + 1) vs
theorem targs_map {G : XG} : ∀ (vs : List TV) (i : Nat), lv_args i (vs.map (xtv G)) = lmap G (targs i vs)
  | [], _ => rfl
  | v :: vs, i => by
    show (i, xtv G v) :: lv_args (if (xtv G v).category = 2 then i + 2 else i + 1) (vs.map (xtv G)) = (i, xtv G v) :: lmap G (targs (if tcat v = 2 then i + 2 else i + 1) vs)
    rw [xtv_cat, targs_map vs]
def tlen : List TV → Nat
  | [] => 0
  | v :: vs => (if tcat v = 2 then 2 else 1) + tlen vs
theorem tlen_map {G : XG} : ∀ (vs : List TV), (lg_sl (vs.map (xtv G))).length = tlen vs
  | [] => rfl
  | v :: vs => by
    have e : lg_sl ((v :: vs).map (xtv G)) = (if (xtv G v).category = 2 then [Slot.val (xtv G v), Slot.second] else [Slot.val (xtv G v)]) ++ lg_sl (vs.map (xtv G)) := rfl
    rw [e, List.length_append, tlen_map vs, xtv_cat]
    show _ = (if tcat v = 2 then 2 else 1) + tlen vs
    by_cases q : tcat v = 2
    · rw [if_pos q, if_pos q]
      rfl
    · rw [if_neg q, if_neg q]
      rfl
theorem MC_of {α : Type} {J : MI} {y : MethodName} {av : List TV} {h : XM} {ρ : α → Option TV × XM} {o : Option α} (hy : plainFor y = true ∧ J.2.2.2.1 = y.cls ∧ J.2.2.2.2.1 = y.name ∧ tlen av ≤ J.2.1) (htab : ∀ q ∈ mtab J, decode J.1 q.1 = .ok (q.2.1, q.2.2.1) ∧ q.2.2.2 = q.1 + q.2.2.1)
    (hb : ∀ X : XX, SW X J ρ 0 (targs 0 av) [] h (mmc J) (mms J) o) : MC J y av h ρ o := by
  intro G l r hr
  obtain ⟨hpl, hcls, hnm, hlen⟩ := hy
  refine va_MetF (cc := J.1) (maxL := J.2.1) (ret := J.2.2.1) hpl rfl ?_
  intro p e s m args below meth c s₁ B hml hv
  obtain ⟨rfl, hG, hB, hR⟩ := hv
  have hts := atoms_spec (ws := Cond.code y J.1 J.2.1 J.2.2.1 :: XT) B.pre
  have hown : s.vm.findClass J.2.2.2.1 = some m.cls := by rw [hcls]; exact findClass_of_methodNamed B.named
  have hin : meth.name = J.2.2.2.2.1 := by rw [hnm]; exact (name_of_methodNamed B.named B.method).1
  have hl := lv_entry (av.map (xtv G)) (n := J.2.1) (by rw [tlen_map]; exact hlen)
  rw [targs_map] at hl
  rw [lg_entry_eq]
  have K := hb (G, p, l, e, s, m, (av.map (xtv G)).toArray, below, meth, c)
  obtain ⟨cc, nL, ret, own, nm, tab, mc, ms, nfr, nlo⟩ := J
  exact K ⟨B.exec, B.bytes, hml, B.returns, hown, fun w hw => hts w (List.mem_cons_of_mem _ hw), B.notSynchronized, hin, htab, hG, hB⟩ r hr s.heap [] _ 0 0 hR va_S.rf hl (Nat.le_of_eq (Nat.zero_add _)) (Nat.le_of_eq (Nat.zero_add _))
/-- a method as a call finds it: its class's number, how many parameters -/
def xCM (y : MethodName) (J : MI) (kk n : Nat) : Prop := (Cond.instanceMethod y ∈ XT ∧ Cond.selects y.cls y y ∈ XT) ∧ Cond.initialized y.cls ∈ XT ∧ Cond.code y J.1 J.2.1 J.2.2.1 ∈ XT ∧ (∃ (T : u_T) (N : Nat), xCl[kk]? = some (y.cls, T, N)) ∧ (y.cls ≠ "java/lang/invoke/MethodHandle" ∧ y.cls ≠ "java/lang/invoke/VarHandle" ∧ (parseMethodDescriptor y.desc).map (fun d => d.parameters.length) = some n)
def xCK (y : MethodName) (J : MI) (n : Nat) : Prop := y.cls = "java/lang/String" ∧ (Cond.instanceMethod y ∈ XT ∧ Cond.selects y.cls y y ∈ XT) ∧ Cond.initialized y.cls ∈ XT ∧ Cond.code y J.1 J.2.1 J.2.2.1 ∈ XT ∧ (y.cls ≠ "java/lang/invoke/MethodHandle" ∧ y.cls ≠ "java/lang/invoke/VarHandle" ∧ (parseMethodDescriptor y.desc).map (fun d => d.parameters.length) = some n)
def xCS (y : MethodName) (J : MI) (n : Nat) : Prop := Cond.static y ∈ XT ∧ Cond.initialized y.cls ∈ XT ∧ Cond.code y J.1 J.2.1 J.2.2.1 ∈ XT ∧ (y.cls ≠ "java/lang/invoke/MethodHandle" ∧ y.cls ≠ "java/lang/invoke/VarHandle" ∧ (parseMethodDescriptor y.desc).map (fun d => d.parameters.length) = some n)
def xCI (y : MethodName) (J : MI) (n : Nat) : Prop := (y.name = "<init>" ∧ J.2.2.1 = none) ∧ Cond.instanceMethod y ∈ XT ∧ Cond.initialized y.cls ∈ XT ∧ Cond.code y J.1 J.2.1 J.2.2.1 ∈ XT ∧ (y.cls ≠ "java/lang/invoke/MethodHandle" ∧ y.cls ≠ "java/lang/invoke/VarHandle" ∧ (parseMethodDescriptor y.desc).map (fun d => d.parameters.length) = some n)
/-- the callee's frames and words have room in the caller's -/
def xRm (J I : MI) : Prop := J.2.2.2.2.2.2.2.2.1 + 1 ≤ I.2.2.2.2.2.2.2.2.1 ∧ 8 + (J.2.1 + 11) + J.2.2.2.2.2.2.2.2.2 ≤ I.2.2.2.2.2.2.2.2.2
theorem xgood {y : MethodName} {J : MI} (hc : Cond.code y J.1 J.2.1 J.2.2.1 ∈ XT) : GoodIn XT (Cond.code y J.1 J.2.1 J.2.2.1 :: XT) := fun w hw => by
  rcases List.mem_cons.mp hw with e | e
  · rw [e]
    exact XTgood _ hc
  · exact XTgood _ e
theorem xcats {G : XG} (st : List TV) : ((st.map (xtv G)).map fun v => v.category).sum = (st.map tcat).sum := by
  rw [List.map_map]
  congr 1
  apply List.map_congr_left
  intro v _
  exact xtv_cat G v
/-- behind a call -/
theorem xcall {p : Program} {l : Launch} {e : Env} {R : Room} {s : State} {m : MethodId} {args : Array Value} {below : List Frame} {meth : Method} {c : Code} {H : Heap} {locs : List Loc} {cells slots mc ms pc : Nat} {ls : Array Slot} {st0 rest : List Value} {a : Array Value} {Q : State → Prop} {G : XG} {q : Option TV × XM}
    (hr : va_Run p l e R s m args below meth c H locs cells slots mc ms (F0 m pc ls st0) rest (xQ G q a) (fun z => gB G ≤ z)) (hS : va_S (fun z => gB G ≤ z) s.heap H locs)
    (kk : ∀ (H1 : Heap) (locs1 : List Loc), Rep G q.2 H1 → va_S (fun z => gB G ≤ z) s.heap H1 locs1 → W p l e R s m args below meth c H1 locs1 (cells + mc) (slots + ms) Q (F0 m (pc + 3) ls ((q.1.map (xtv G)).toList ++ rest))) : W p l e R s m args below meth c H locs cells slots Q (F0 m pc ls st0) := by
  intro T hT X
  obtain ⟨v, st₀, t, T', L, h0, X', hL, e1, e2, ⟨hv, hrep, hz, hk⟩, st⟩ := hr T hT X
  have hv : v = q.1.map (xtv G) := Outcome.returned.inj hv
  subst hv
  rw [h0] at hz hk
  obtain ⟨t2, a1, b1⟩ := kk T'.heap (locs ++ L) (by rw [e1]; exact hrep)
    ⟨Nat.le_trans hS.1 (by rw [e1]; exact hz), fun q h1 h2 => by rw [e1, hk q (Nat.lt_of_lt_of_le h1 hS.1) h2]; exact hS.2.1 q h1 h2, fun q hq => by
      rcases List.mem_append.mp hq with h | h
      · exact hS.2.2 q h
      · exact hL q h⟩ T' rfl X'
  exact ⟨t2, st t2 a1, b1⟩
theorem tcat_list (o : Option TV) {G : XG} : (o.map (xtv G)).toList = o.toList.map (xtv G) := by cases o <;> rfl
/-- reads of what is constant: a string's bytes, their number, TENS -/
def gS (n : Nat) : Option Nat := if n % 3 = 0 ∧ n / 3 < 13 then some (n + 1) else none
def gCo (n : Nat) : Option Int32 := if n % 3 = 0 ∧ n / 3 < 13 then some 0 else none
def lnK (n : Nat) : Option Int32 := if n % 3 = 1 ∧ n / 3 < 13 then some (Int32.ofNat (xLen.getD (n / 3) 0)) else if n = 2 then some 7 else none
def rB (n : Nat) (j : Int32) : Option Int32 := if (n % 3 = 1 ∧ n / 3 < 13) ∧ ¬ (j < 0 ∨ xLen.getD (n / 3) 0 ≤ j.toNatClampNeg) then some ((xByt.getD (n / 3) []).getD j.toNatClampNeg 0) else none
def rT (j : Int32) : Option Int32 := if ¬ (j < 0 ∨ 7 ≤ j.toNatClampNeg) then some (xTens.getD j.toNatClampNeg 0) else none
def vk {α : Type} (n : Nat) (o : Option α) : Option α := if n % 3 = 0 ∧ n / 3 < 13 then o else none
theorem xk_s {G : XG} {n : Nat} (h : n % 3 = 0) : xk G n = .ref (gK G (n / 3)) := if_pos h
theorem xk_v {G : XG} {n : Nat} (h : n % 3 = 1) : xk G n = .ref (gV G (n / 3)) := by
  unfold xk
  rw [if_neg (by omega), if_pos h]
theorem s_getTens {α : Type} {X : XX} {I : MI} {ρ : α → Option TV × XM} {pc npc i : Nat} {ls : List (Nat × TV)} {st : List TV} {h : XM} {bc bs : Nat} {o : Option α} {idx : Nat} (hi : (mtab I)[i]? = some (pc, .getstatic idx, 3, npc)) (hw : Cond.fieldLink I.2.2.2.1 idx "OpensAtNine" "TENS" "[I" ∈ XT) (k : SW X I ρ npc ls (tK 2 :: st) h bc bs o) : SW X I ρ pc ls (st) h bc bs o := by
  obtain ⟨G, p, l, e, s, m, args, below, meth, c⟩ := X
  obtain ⟨cc, nL, ret, own, nm, tab, mc, ms, nfr, nlo⟩ := I
  intro ok r hr H locs lsA cells slots hR hS hl hc hs
  obtain ⟨hx, hb, hml, hret, hown, hts, hlocks, hnm, htab, hG, hB⟩ := id ok
  obtain ⟨hd, hn⟩ := htab _ (List.mem_of_getElem? hi)
  have hn : npc = pc + 3 := hn
  subst hn
  exact va_gets hx hb hG.2.2.2.2.2.1 hS hown (hts _ hw) (fun _ h9 => h9) hd (k ok r hr H locs lsA cells slots hR hS hl hc hs)
theorem s_getTensN1 {α : Type} {X : XX} {I : MI} {ρ : α → Option TV × XM} {pc npc i : Nat} {ls : List (Nat × TV)} {st : List TV} {h : XM} {bc bs : Nat} {o : Option α}  (hi : (mtab I)[i]? = some (pc, .getstatic 92, 3, npc)) (hw : I.2.2.2.1 = xR1) (k : SW X I ρ npc ls (tK 2 :: st) h bc bs o) : SW X I ρ pc ls (st) h bc bs o := by
  obtain ⟨G, p, l, e, s, m, args, below, meth, c⟩ := X
  obtain ⟨cc, nL, ret, own, nm, tab, mc, ms, nfr, nlo⟩ := I
  intro ok r hr H locs lsA cells slots hR hS hl hc hs
  obtain ⟨hx, hb, hml, hret, hown, hts, hlocks, hnm, htab, hG, hB⟩ := id ok
  obtain ⟨hd, hn⟩ := htab _ (List.mem_of_getElem? hi)
  have hn : npc = pc + 3 := hn
  subst hn
  have hw : own = xR1 := hw
  subst hw
  exact va_getsN hx hb hG.2.2.2.2.2.1 hS hown (va_Nw.use rfl hG.2.2.2.2.2.2.2.2.2.2.2.1) (fun _ h9 => h9) hd (k ok r hr H locs lsA cells slots hR hS hl hc hs)
theorem s_getTensN6 {α : Type} {X : XX} {I : MI} {ρ : α → Option TV × XM} {pc npc i : Nat} {ls : List (Nat × TV)} {st : List TV} {h : XM} {bc bs : Nat} {o : Option α}  (hi : (mtab I)[i]? = some (pc, .getstatic 120, 3, npc)) (hw : I.2.2.2.1 = xR6) (k : SW X I ρ npc ls (tK 2 :: st) h bc bs o) : SW X I ρ pc ls (st) h bc bs o := by
  obtain ⟨G, p, l, e, s, m, args, below, meth, c⟩ := X
  obtain ⟨cc, nL, ret, own, nm, tab, mc, ms, nfr, nlo⟩ := I
  intro ok r hr H locs lsA cells slots hR hS hl hc hs
  obtain ⟨hx, hb, hml, hret, hown, hts, hlocks, hnm, htab, hG, hB⟩ := id ok
  obtain ⟨hd, hn⟩ := htab _ (List.mem_of_getElem? hi)
  have hn : npc = pc + 3 := hn
  subst hn
  have hw : own = xR6 := hw
  subst hw
  exact va_getsN hx hb hG.2.2.2.2.2.1 hS hown (va_Nw.use rfl hG.2.2.2.2.2.2.2.2.2.2.2.2) (fun _ h9 => h9) hd (k ok r hr H locs lsA cells slots hR hS hl hc hs)
theorem s_getCompact {α : Type} {X : XX} {I : MI} {ρ : α → Option TV × XM} {pc npc i : Nat} {ls : List (Nat × TV)} {st : List TV} {h : XM} {bc bs : Nat} {o : Option α} {idx : Nat} (hi : (mtab I)[i]? = some (pc, .getstatic idx, 3, npc)) (hw : Cond.fieldLink I.2.2.2.1 idx "java/lang/String" "COMPACT_STRINGS" "Z" ∈ XT) (k : SW X I ρ npc ls (tI 1 :: st) h bc bs o) : SW X I ρ pc ls (st) h bc bs o := by
  obtain ⟨G, p, l, e, s, m, args, below, meth, c⟩ := X
  obtain ⟨cc, nL, ret, own, nm, tab, mc, ms, nfr, nlo⟩ := I
  intro ok r hr H locs lsA cells slots hR hS hl hc hs
  obtain ⟨hx, hb, hml, hret, hown, hts, hlocks, hnm, htab, hG, hB⟩ := id ok
  obtain ⟨hd, hn⟩ := htab _ (List.mem_of_getElem? hi)
  have hn : npc = pc + 3 := hn
  subst hn
  exact va_gets hx hb hG.2.2.2.1 hS hown (hts _ hw) (fun _ h9 => h9) hd (k ok r hr H locs lsA cells slots hR hS hl hc hs)
theorem s_getFmt {α : Type} {X : XX} {I : MI} {ρ : α → Option TV × XM} {pc npc i : Nat} {ls : List (Nat × TV)} {st : List TV} {h : XM} {bc bs : Nat} {o : Option α} {idx : Nat} (hi : (mtab I)[i]? = some (pc, .getstatic idx, 3, npc)) (hw : Cond.fieldLink I.2.2.2.1 idx "jdk/internal/util/Preconditions" "SIOOBE_FORMATTER" "Ljava/util/function/BiFunction;" ∈ XT) (k : SW X I ρ npc ls (tK 5 :: st) h bc bs o) : SW X I ρ pc ls (st) h bc bs o := by
  obtain ⟨G, p, l, e, s, m, args, below, meth, c⟩ := X
  obtain ⟨cc, nL, ret, own, nm, tab, mc, ms, nfr, nlo⟩ := I
  intro ok r hr H locs lsA cells slots hR hS hl hc hs
  obtain ⟨hx, hb, hml, hret, hown, hts, hlocks, hnm, htab, hG, hB⟩ := id ok
  obtain ⟨hd, hn⟩ := htab _ (List.mem_of_getElem? hi)
  have hn : npc = pc + 3 := hn
  subst hn
  exact va_gets (v := va_rf (gF G)) hx hb hG.2.2.2.2.1 hS hown (hts _ hw) (fun _ h9 => h9) hd (k ok r hr H locs lsA cells slots hR hS hl hc hs)
theorem s_ldcS {α : Type} {X : XX} {I : MI} {ρ : α → Option TV × XM} {pc npc i : Nat} {ls : List (Nat × TV)} {st : List TV} {h : XM} {bc bs : Nat} {o : Option α} {idx j : Nat} (hi : (mtab I)[i]? = some (pc, .ldc idx, 2, npc)) (hj : j < 13) (hw : xSidx[j]? = some (I.2.2.2.1, idx)) (k : SW X I ρ npc ls (tK (3 * j) :: st) h bc bs o) : SW X I ρ pc ls (st) h bc bs o := by
  obtain ⟨G, p, l, e, s, m, args, below, meth, c⟩ := X
  obtain ⟨cc, nL, ret, own, nm, tab, mc, ms, nfr, nlo⟩ := I
  intro ok r hr H locs lsA cells slots hR hS hl hc hs
  obtain ⟨hx, hb, hml, hret, hown, hts, hlocks, hnm, htab, hG, hB⟩ := id ok
  obtain ⟨hd, hn⟩ := htab _ (List.mem_of_getElem? hi)
  have hn : npc = pc + 2 := hn
  subst hn
  have h3 := hG.2.2.1 j hj
  rw [List.getD_eq_getElem?_getD, hw] at h3
  have K := (k ok r hr H locs lsA cells slots hR hS hl hc hs)
  have e0 : xtv G (tK (3 * j)) = .ref (gK G j) := by
    show xk G (3 * j) = _
    rw [xk_s (by omega), Nat.mul_div_cancel_left j (by decide)]
  have K2 : W p l e (mroom (cc, nL, ret, own, nm, tab, mc, ms, nfr, nlo)) s m args below meth c H locs cells slots (MQ below (xQ G (ρ r)) args s mc ms (fun q => gB G ≤ q)) (F0 m (pc + 2) lsA (.ref (gK G j) :: st.map (xtv G))) := by
    rw [← e0]
    exact K
  exact va_ldcS hx hb hown h3 hd K2
theorem s_strV {α : Type} {X : XX} {I : MI} {ρ : α → Option TV × XM} {pc npc i : Nat} {ls : List (Nat × TV)} {st : List TV} {h : XM} {bc bs : Nat} {F : Nat → Option α} {idx n : Nat} (hi : (mtab I)[i]? = some (pc, .getfield idx, 3, npc)) (hw : Cond.fieldLink I.2.2.2.1 idx "java/lang/String" "value" "[B" ∈ XT) (k : ∀ v, SW X I ρ npc ls (tK v :: st) h bc bs (F v)) : SW X I ρ pc ls (tK n :: st) h bc bs ((gS n).bind F) := by
  obtain ⟨G, p, l, e, s, m, args, below, meth, c⟩ := X
  obtain ⟨cc, nL, ret, own, nm, tab, mc, ms, nfr, nlo⟩ := I
  intro ok r hr H locs lsA cells slots hR hS hl hc hs
  obtain ⟨hx, hb, hml, hret, hown, hts, hlocks, hnm, htab, hG, hB⟩ := id ok
  obtain ⟨hd, hn⟩ := htab _ (List.mem_of_getElem? hi)
  have hn : npc = pc + 3 := hn
  subst hn
  unfold gS at hr
  by_cases hz : n % 3 = 0 ∧ n / 3 < 13
  · rw [if_pos hz] at hr
    have K := k _ ok r hr H locs lsA cells slots hR hS hl hc hs
    have e1 : xtv G (tK n) = .ref (gK G (n / 3)) := xk_s hz.1
    have e2 : xtv G (tK (n + 1)) = .ref (gV G (n / 3)) := by
      show xk G (n + 1) = _
      rw [xk_v (by omega), show (n + 1) / 3 = n / 3 by omega]
    rw [List.map_cons, e2] at K
    rw [List.map_cons, e1]
    exact vk_getf hx hb (hG.2.1.1 _ hz.2).2.2.1 hS hown (hts _ hw) (fun _ h9 => h9) hd K
  · rw [if_neg hz] at hr
    cases hr
theorem s_strC {α : Type} {X : XX} {I : MI} {ρ : α → Option TV × XM} {pc npc i : Nat} {ls : List (Nat × TV)} {st : List TV} {h : XM} {bc bs : Nat} {F : Int32 → Option α} {idx n : Nat} (hi : (mtab I)[i]? = some (pc, .getfield idx, 3, npc)) (hw : Cond.fieldLink I.2.2.2.1 idx "java/lang/String" "coder" "B" ∈ XT) (k : ∀ v, SW X I ρ npc ls (tI v :: st) h bc bs (F v)) : SW X I ρ pc ls (tK n :: st) h bc bs ((gCo n).bind F) := by
  obtain ⟨G, p, l, e, s, m, args, below, meth, c⟩ := X
  obtain ⟨cc, nL, ret, own, nm, tab, mc, ms, nfr, nlo⟩ := I
  intro ok r hr H locs lsA cells slots hR hS hl hc hs
  obtain ⟨hx, hb, hml, hret, hown, hts, hlocks, hnm, htab, hG, hB⟩ := id ok
  obtain ⟨hd, hn⟩ := htab _ (List.mem_of_getElem? hi)
  have hn : npc = pc + 3 := hn
  subst hn
  unfold gCo at hr
  by_cases hz : n % 3 = 0 ∧ n / 3 < 13
  · rw [if_pos hz] at hr
    have K := k _ ok r hr H locs lsA cells slots hR hS hl hc hs
    have e1 : xtv G (tK n) = .ref (gK G (n / 3)) := xk_s hz.1
    rw [List.map_cons, e1]
    exact vk_getf hx hb (hG.2.1.1 _ hz.2).2.1 hS hown (hts _ hw) (fun _ h9 => h9) hd K
  · rw [if_neg hz] at hr
    cases hr
theorem s_alenK {α : Type} {X : XX} {I : MI} {ρ : α → Option TV × XM} {pc npc i : Nat} {ls : List (Nat × TV)} {st : List TV} {h : XM} {bc bs : Nat} {F : Int32 → Option α} {n : Nat} (hi : (mtab I)[i]? = some (pc, .arraylength, 1, npc))  (k : ∀ v, SW X I ρ npc ls (tI v :: st) h bc bs (F v)) : SW X I ρ pc ls (tK n :: st) h bc bs ((lnK n).bind F) := by
  obtain ⟨G, p, l, e, s, m, args, below, meth, c⟩ := X
  obtain ⟨cc, nL, ret, own, nm, tab, mc, ms, nfr, nlo⟩ := I
  intro ok r hr H locs lsA cells slots hR hS hl hc hs
  obtain ⟨hx, hb, hml, hret, hown, hts, hlocks, hnm, htab, hG, hB⟩ := id ok
  obtain ⟨hd, hn⟩ := htab _ (List.mem_of_getElem? hi)
  have hn : npc = pc + 1 := hn
  subst hn
  unfold lnK at hr
  by_cases hz : n % 3 = 1 ∧ n / 3 < 13
  · rw [if_pos hz] at hr
    have K := k _ ok r hr H locs lsA cells slots hR hS hl hc hs
    have e1 : xtv G (tK n) = .ref (gV G (n / 3)) := xk_v hz.1
    rw [List.map_cons, e1]
    exact va_tlen hx hb (hG.2.1.1 _ hz.2).2.2.2 hS rfl hd K
  · rw [if_neg hz] at hr
    by_cases hz2 : n = 2
    · subst hz2
      rw [if_pos rfl] at hr
      have K := k _ ok r hr H locs lsA cells slots hR hS hl hc hs
      exact va_tlen hx hb hG.2.2.2.2.2.2.1 hS rfl hd K
    · rw [if_neg hz2] at hr
      cases hr
theorem s_baloadK {α : Type} {X : XX} {I : MI} {ρ : α → Option TV × XM} {pc npc i : Nat} {ls : List (Nat × TV)} {st : List TV} {h : XM} {bc bs : Nat} {F : Int32 → Option α} {n : Nat} {j : Int32} (hi : (mtab I)[i]? = some (pc, .baload, 1, npc))  (k : ∀ v, SW X I ρ npc ls (tI v :: st) h bc bs (F v)) : SW X I ρ pc ls (tI j :: tK n :: st) h bc bs ((rB n j).bind F) := by
  obtain ⟨G, p, l, e, s, m, args, below, meth, c⟩ := X
  obtain ⟨cc, nL, ret, own, nm, tab, mc, ms, nfr, nlo⟩ := I
  intro ok r hr H locs lsA cells slots hR hS hl hc hs
  obtain ⟨hx, hb, hml, hret, hown, hts, hlocks, hnm, htab, hG, hB⟩ := id ok
  obtain ⟨hd, hn⟩ := htab _ (List.mem_of_getElem? hi)
  have hn : npc = pc + 1 := hn
  subst hn
  unfold rB at hr
  by_cases hz : (n % 3 = 1 ∧ n / 3 < 13) ∧ ¬ (j < 0 ∨ xLen.getD (n / 3) 0 ≤ j.toNatClampNeg)
  · rw [if_pos hz] at hr
    have K := k _ ok r hr H locs lsA cells slots hR hS hl hc hs
    have e1 : xtv G (tK n) = .ref (gV G (n / 3)) := xk_v hz.1.1
    rw [List.map_cons, List.map_cons, e1]
    exact va_tb hx hb (hG.2.1.1 _ hz.1.2).2.2.2 hS hz.2 rfl hd K
  · rw [if_neg hz] at hr
    cases hr
theorem s_ialoadK {α : Type} {X : XX} {I : MI} {ρ : α → Option TV × XM} {pc npc i : Nat} {ls : List (Nat × TV)} {st : List TV} {h : XM} {bc bs : Nat} {F : Int32 → Option α} {j : Int32} (hi : (mtab I)[i]? = some (pc, .iaload, 1, npc))  (k : ∀ v, SW X I ρ npc ls (tI v :: st) h bc bs (F v)) : SW X I ρ pc ls (tI j :: tK 2 :: st) h bc bs ((rT j).bind F) := by
  obtain ⟨G, p, l, e, s, m, args, below, meth, c⟩ := X
  obtain ⟨cc, nL, ret, own, nm, tab, mc, ms, nfr, nlo⟩ := I
  intro ok r hr H locs lsA cells slots hR hS hl hc hs
  obtain ⟨hx, hb, hml, hret, hown, hts, hlocks, hnm, htab, hG, hB⟩ := id ok
  obtain ⟨hd, hn⟩ := htab _ (List.mem_of_getElem? hi)
  have hn : npc = pc + 1 := hn
  subst hn
  unfold rT at hr
  by_cases hz : ¬ (j < 0 ∨ 7 ≤ j.toNatClampNeg)
  · rw [if_pos hz] at hr
    have K := k _ ok r hr H locs lsA cells slots hR hS hl hc hs
    exact va_ti hx hb hG.2.2.2.2.2.2.1 hS hz rfl hd K
  · rw [if_neg hz] at hr
    cases hr
theorem s_callVi {α : Type} {X : XX} {I : MI} {ρ : α → Option TV × XM} {pc npc i : Nat} {ls : List (Nat × TV)} {st : List TV} {h : XM} {bc bs : Nat} {F : Int32 × XM → Option α} {oc : Option (Int32 × XM)} {J : MI} {idx kk n : Nat} {y : MethodName} (As : List TV) {r9 : Option Nat} (hi : (mtab I)[i]? = some (pc, .invokevirtual idx, 3, npc)) (hM : MC J y (tA r9 :: As) h ρi oc) (hw : xCM y J kk n) (hlk : Cond.methodLink I.2.2.2.1 idx y ∈ XT) (hnA : As.length = n) (hst : (st.map tcat).sum ≤ 8) (hroom : xRm J I) (k : ∀ q, SW X I ρ npc ls (tI q.1 :: st) (q.2) bc bs (F q)) : SW X I ρ pc ls (As.reverse ++ tA r9 :: st) h (mmc J + bc) (mms J + bs) ((vc h kk r9 oc).bind F) := by
  obtain ⟨G, p, l, e, s, m, args, below, meth, c⟩ := X
  obtain ⟨cc, nL, ret, own, nm, tab, mc, ms, nfr, nlo⟩ := I
  intro ok r hr H locs lsA cells slots hR hS hl hc hs
  obtain ⟨hx, hb, hml, hret, hown, hts, hlocks, hnm, htab, hG, hB⟩ := id ok
  obtain ⟨hd, hn⟩ := htab _ (List.mem_of_getElem? hi)
  have hn : npc = pc + 3 := hn
  subst hn
  unfold vc at hr
  cases r9 with
  | none => cases hr
  | some a =>
  simp only [Option.bind_some] at hr
  by_cases hk : (xs h a).1 = kk
  · rw [if_pos hk] at hr
    cases hoc : oc with
    | none =>
      rw [hoc] at hr
      cases hr
    | some q =>
    rw [hoc] at hr
    obtain ⟨⟨hw1, hw2⟩, hw3, hw4, ⟨Tc, Nc, hcl⟩, hw5⟩ := hw
    have hk10 := (xN_of hcl).1
    have hwx := xW_get (G := G) (h := h) (a := a) (hR.lt hk (by omega))
    rw [xE_obj hk hk10] at hwx
    have hMet := hM G l q hoc
    refine xcall (rest := st.map (xtv G)) (va_runV (nL := nL) (own := own) (C := y.cls) (n := n) (b := gB G + a) (As := As.map (xtv G)) ⟨hx, hb, hml, hown, hts⟩ hMet (cwV n hts (C := y.cls) (fun w hw9 => by
      unfold wsV at hw9
      rcases List.mem_append.mp hw9 with h9 | h9
      · simp only [List.mem_cons, List.not_mem_nil, or_false] at h9
        rcases h9 with h9 | h9 | h9 | h9 <;> subst h9
        · exact XTgood _ hlk
        · exact XTgood _ hw1
        · exact XTgood _ hw2
        · exact XTgood _ hw3
      · exact xgood hw4 w h9) rfl rfl rfl ⟨rfl, hw5⟩ hroom) ⟨xPc_blind, va_recv hG.1 hR.1 hcl hwx, fun U hU hW => ⟨rfl, hG.call hW hS hU, by rw [hU]; exact Nat.le_trans hB hS.1, by rw [hU]; exact hR⟩⟩ rfl (by rw [List.length_map]; exact hnA) hl.1 (by rw [List.map_append, List.map_reverse]; rfl) (lv_room (by rw [xcats]; exact hst)) hd ⟨by show cells + mmc J ≤ mc; have hc : cells + (mmc J + bc) ≤ mc := hc; omega, by show slots + mms J ≤ ms; have hs : slots + (mms J + bs) ≤ ms := hs; omega⟩) hS (fun H1 locs1 hR1 hS1 => by
      rw [tcat_list, ← List.map_append]
      exact k q ok r hr H1 locs1 lsA _ _ hR1 hS1 hl (by show cells + mmc J + bc ≤ mc; have hc : cells + (mmc J + bc) ≤ mc := hc; omega) (by show slots + mms J + bs ≤ ms; have hs : slots + (mms J + bs) ≤ ms := hs; omega))
  · rw [if_neg hk] at hr
    cases hr
theorem s_callVv {α : Type} {X : XX} {I : MI} {ρ : α → Option TV × XM} {pc npc i : Nat} {ls : List (Nat × TV)} {st : List TV} {h : XM} {bc bs : Nat} {F : XM → Option α} {oc : Option (XM)} {J : MI} {idx kk n : Nat} {y : MethodName} (As : List TV) {r9 : Option Nat} (hi : (mtab I)[i]? = some (pc, .invokevirtual idx, 3, npc)) (hM : MC J y (tA r9 :: As) h ρv oc) (hw : xCM y J kk n) (hlk : Cond.methodLink I.2.2.2.1 idx y ∈ XT) (hnA : As.length = n) (hst : (st.map tcat).sum ≤ 8) (hroom : xRm J I) (k : ∀ q, SW X I ρ npc ls (st) (q) bc bs (F q)) : SW X I ρ pc ls (As.reverse ++ tA r9 :: st) h (mmc J + bc) (mms J + bs) ((vc h kk r9 oc).bind F) := by
  obtain ⟨G, p, l, e, s, m, args, below, meth, c⟩ := X
  obtain ⟨cc, nL, ret, own, nm, tab, mc, ms, nfr, nlo⟩ := I
  intro ok r hr H locs lsA cells slots hR hS hl hc hs
  obtain ⟨hx, hb, hml, hret, hown, hts, hlocks, hnm, htab, hG, hB⟩ := id ok
  obtain ⟨hd, hn⟩ := htab _ (List.mem_of_getElem? hi)
  have hn : npc = pc + 3 := hn
  subst hn
  unfold vc at hr
  cases r9 with
  | none => cases hr
  | some a =>
  simp only [Option.bind_some] at hr
  by_cases hk : (xs h a).1 = kk
  · rw [if_pos hk] at hr
    cases hoc : oc with
    | none =>
      rw [hoc] at hr
      cases hr
    | some q =>
    rw [hoc] at hr
    obtain ⟨⟨hw1, hw2⟩, hw3, hw4, ⟨Tc, Nc, hcl⟩, hw5⟩ := hw
    have hk10 := (xN_of hcl).1
    have hwx := xW_get (G := G) (h := h) (a := a) (hR.lt hk (by omega))
    rw [xE_obj hk hk10] at hwx
    have hMet := hM G l q hoc
    refine xcall (rest := st.map (xtv G)) (va_runV (nL := nL) (own := own) (C := y.cls) (n := n) (b := gB G + a) (As := As.map (xtv G)) ⟨hx, hb, hml, hown, hts⟩ hMet (cwV n hts (C := y.cls) (fun w hw9 => by
      unfold wsV at hw9
      rcases List.mem_append.mp hw9 with h9 | h9
      · simp only [List.mem_cons, List.not_mem_nil, or_false] at h9
        rcases h9 with h9 | h9 | h9 | h9 <;> subst h9
        · exact XTgood _ hlk
        · exact XTgood _ hw1
        · exact XTgood _ hw2
        · exact XTgood _ hw3
      · exact xgood hw4 w h9) rfl rfl rfl ⟨rfl, hw5⟩ hroom) ⟨xPc_blind, va_recv hG.1 hR.1 hcl hwx, fun U hU hW => ⟨rfl, hG.call hW hS hU, by rw [hU]; exact Nat.le_trans hB hS.1, by rw [hU]; exact hR⟩⟩ rfl (by rw [List.length_map]; exact hnA) hl.1 (by rw [List.map_append, List.map_reverse]; rfl) (lv_room (by rw [xcats]; exact hst)) hd ⟨by show cells + mmc J ≤ mc; have hc : cells + (mmc J + bc) ≤ mc := hc; omega, by show slots + mms J ≤ ms; have hs : slots + (mms J + bs) ≤ ms := hs; omega⟩) hS (fun H1 locs1 hR1 hS1 => by
      rw [tcat_list, ← List.map_append]
      exact k q ok r hr H1 locs1 lsA _ _ hR1 hS1 hl (by show cells + mmc J + bc ≤ mc; have hc : cells + (mmc J + bc) ≤ mc := hc; omega) (by show slots + mms J + bs ≤ ms; have hs : slots + (mms J + bs) ≤ ms := hs; omega))
  · rw [if_neg hk] at hr
    cases hr
theorem s_callVa {α : Type} {X : XX} {I : MI} {ρ : α → Option TV × XM} {pc npc i : Nat} {ls : List (Nat × TV)} {st : List TV} {h : XM} {bc bs : Nat} {F : Option Nat × XM → Option α} {oc : Option (Option Nat × XM)} {J : MI} {idx kk n : Nat} {y : MethodName} (As : List TV) {r9 : Option Nat} (hi : (mtab I)[i]? = some (pc, .invokevirtual idx, 3, npc)) (hM : MC J y (tA r9 :: As) h ρa oc) (hw : xCM y J kk n) (hlk : Cond.methodLink I.2.2.2.1 idx y ∈ XT) (hnA : As.length = n) (hst : (st.map tcat).sum ≤ 8) (hroom : xRm J I) (k : ∀ q, SW X I ρ npc ls (tA q.1 :: st) (q.2) bc bs (F q)) : SW X I ρ pc ls (As.reverse ++ tA r9 :: st) h (mmc J + bc) (mms J + bs) ((vc h kk r9 oc).bind F) := by
  obtain ⟨G, p, l, e, s, m, args, below, meth, c⟩ := X
  obtain ⟨cc, nL, ret, own, nm, tab, mc, ms, nfr, nlo⟩ := I
  intro ok r hr H locs lsA cells slots hR hS hl hc hs
  obtain ⟨hx, hb, hml, hret, hown, hts, hlocks, hnm, htab, hG, hB⟩ := id ok
  obtain ⟨hd, hn⟩ := htab _ (List.mem_of_getElem? hi)
  have hn : npc = pc + 3 := hn
  subst hn
  unfold vc at hr
  cases r9 with
  | none => cases hr
  | some a =>
  simp only [Option.bind_some] at hr
  by_cases hk : (xs h a).1 = kk
  · rw [if_pos hk] at hr
    cases hoc : oc with
    | none =>
      rw [hoc] at hr
      cases hr
    | some q =>
    rw [hoc] at hr
    obtain ⟨⟨hw1, hw2⟩, hw3, hw4, ⟨Tc, Nc, hcl⟩, hw5⟩ := hw
    have hk10 := (xN_of hcl).1
    have hwx := xW_get (G := G) (h := h) (a := a) (hR.lt hk (by omega))
    rw [xE_obj hk hk10] at hwx
    have hMet := hM G l q hoc
    refine xcall (rest := st.map (xtv G)) (va_runV (nL := nL) (own := own) (C := y.cls) (n := n) (b := gB G + a) (As := As.map (xtv G)) ⟨hx, hb, hml, hown, hts⟩ hMet (cwV n hts (C := y.cls) (fun w hw9 => by
      unfold wsV at hw9
      rcases List.mem_append.mp hw9 with h9 | h9
      · simp only [List.mem_cons, List.not_mem_nil, or_false] at h9
        rcases h9 with h9 | h9 | h9 | h9 <;> subst h9
        · exact XTgood _ hlk
        · exact XTgood _ hw1
        · exact XTgood _ hw2
        · exact XTgood _ hw3
      · exact xgood hw4 w h9) rfl rfl rfl ⟨rfl, hw5⟩ hroom) ⟨xPc_blind, va_recv hG.1 hR.1 hcl hwx, fun U hU hW => ⟨rfl, hG.call hW hS hU, by rw [hU]; exact Nat.le_trans hB hS.1, by rw [hU]; exact hR⟩⟩ rfl (by rw [List.length_map]; exact hnA) hl.1 (by rw [List.map_append, List.map_reverse]; rfl) (lv_room (by rw [xcats]; exact hst)) hd ⟨by show cells + mmc J ≤ mc; have hc : cells + (mmc J + bc) ≤ mc := hc; omega, by show slots + mms J ≤ ms; have hs : slots + (mms J + bs) ≤ ms := hs; omega⟩) hS (fun H1 locs1 hR1 hS1 => by
      rw [tcat_list, ← List.map_append]
      exact k q ok r hr H1 locs1 lsA _ _ hR1 hS1 hl (by show cells + mmc J + bc ≤ mc; have hc : cells + (mmc J + bc) ≤ mc := hc; omega) (by show slots + mms J + bs ≤ ms; have hs : slots + (mms J + bs) ≤ ms := hs; omega))
  · rw [if_neg hk] at hr
    cases hr
theorem s_callVl {α : Type} {X : XX} {I : MI} {ρ : α → Option TV × XM} {pc npc i : Nat} {ls : List (Nat × TV)} {st : List TV} {h : XM} {bc bs : Nat} {F : Int64 × XM → Option α} {oc : Option (Int64 × XM)} {J : MI} {idx kk n : Nat} {y : MethodName} (As : List TV) {r9 : Option Nat} (hi : (mtab I)[i]? = some (pc, .invokevirtual idx, 3, npc)) (hM : MC J y (tA r9 :: As) h ρl oc) (hw : xCM y J kk n) (hlk : Cond.methodLink I.2.2.2.1 idx y ∈ XT) (hnA : As.length = n) (hst : (st.map tcat).sum ≤ 8) (hroom : xRm J I) (k : ∀ q, SW X I ρ npc ls (tL q.1 :: st) (q.2) bc bs (F q)) : SW X I ρ pc ls (As.reverse ++ tA r9 :: st) h (mmc J + bc) (mms J + bs) ((vc h kk r9 oc).bind F) := by
  obtain ⟨G, p, l, e, s, m, args, below, meth, c⟩ := X
  obtain ⟨cc, nL, ret, own, nm, tab, mc, ms, nfr, nlo⟩ := I
  intro ok r hr H locs lsA cells slots hR hS hl hc hs
  obtain ⟨hx, hb, hml, hret, hown, hts, hlocks, hnm, htab, hG, hB⟩ := id ok
  obtain ⟨hd, hn⟩ := htab _ (List.mem_of_getElem? hi)
  have hn : npc = pc + 3 := hn
  subst hn
  unfold vc at hr
  cases r9 with
  | none => cases hr
  | some a =>
  simp only [Option.bind_some] at hr
  by_cases hk : (xs h a).1 = kk
  · rw [if_pos hk] at hr
    cases hoc : oc with
    | none =>
      rw [hoc] at hr
      cases hr
    | some q =>
    rw [hoc] at hr
    obtain ⟨⟨hw1, hw2⟩, hw3, hw4, ⟨Tc, Nc, hcl⟩, hw5⟩ := hw
    have hk10 := (xN_of hcl).1
    have hwx := xW_get (G := G) (h := h) (a := a) (hR.lt hk (by omega))
    rw [xE_obj hk hk10] at hwx
    have hMet := hM G l q hoc
    refine xcall (rest := st.map (xtv G)) (va_runV (nL := nL) (own := own) (C := y.cls) (n := n) (b := gB G + a) (As := As.map (xtv G)) ⟨hx, hb, hml, hown, hts⟩ hMet (cwV n hts (C := y.cls) (fun w hw9 => by
      unfold wsV at hw9
      rcases List.mem_append.mp hw9 with h9 | h9
      · simp only [List.mem_cons, List.not_mem_nil, or_false] at h9
        rcases h9 with h9 | h9 | h9 | h9 <;> subst h9
        · exact XTgood _ hlk
        · exact XTgood _ hw1
        · exact XTgood _ hw2
        · exact XTgood _ hw3
      · exact xgood hw4 w h9) rfl rfl rfl ⟨rfl, hw5⟩ hroom) ⟨xPc_blind, va_recv hG.1 hR.1 hcl hwx, fun U hU hW => ⟨rfl, hG.call hW hS hU, by rw [hU]; exact Nat.le_trans hB hS.1, by rw [hU]; exact hR⟩⟩ rfl (by rw [List.length_map]; exact hnA) hl.1 (by rw [List.map_append, List.map_reverse]; rfl) (lv_room (by rw [xcats]; exact hst)) hd ⟨by show cells + mmc J ≤ mc; have hc : cells + (mmc J + bc) ≤ mc := hc; omega, by show slots + mms J ≤ ms; have hs : slots + (mms J + bs) ≤ ms := hs; omega⟩) hS (fun H1 locs1 hR1 hS1 => by
      rw [tcat_list, ← List.map_append]
      exact k q ok r hr H1 locs1 lsA _ _ hR1 hS1 hl (by show cells + mmc J + bc ≤ mc; have hc : cells + (mmc J + bc) ≤ mc := hc; omega) (by show slots + mms J + bs ≤ ms; have hs : slots + (mms J + bs) ≤ ms := hs; omega))
  · rw [if_neg hk] at hr
    cases hr
theorem s_callVk {α : Type} {X : XX} {I : MI} {ρ : α → Option TV × XM} {pc npc i : Nat} {ls : List (Nat × TV)} {st : List TV} {h : XM} {bc bs : Nat} {F : Nat × XM → Option α} {oc : Option (Nat × XM)} {J : MI} {idx kk n : Nat} {y : MethodName} (As : List TV) {r9 : Option Nat} (hi : (mtab I)[i]? = some (pc, .invokevirtual idx, 3, npc)) (hM : MC J y (tA r9 :: As) h ρk oc) (hw : xCM y J kk n) (hlk : Cond.methodLink I.2.2.2.1 idx y ∈ XT) (hnA : As.length = n) (hst : (st.map tcat).sum ≤ 8) (hroom : xRm J I) (k : ∀ q, SW X I ρ npc ls (tK q.1 :: st) (q.2) bc bs (F q)) : SW X I ρ pc ls (As.reverse ++ tA r9 :: st) h (mmc J + bc) (mms J + bs) ((vc h kk r9 oc).bind F) := by
  obtain ⟨G, p, l, e, s, m, args, below, meth, c⟩ := X
  obtain ⟨cc, nL, ret, own, nm, tab, mc, ms, nfr, nlo⟩ := I
  intro ok r hr H locs lsA cells slots hR hS hl hc hs
  obtain ⟨hx, hb, hml, hret, hown, hts, hlocks, hnm, htab, hG, hB⟩ := id ok
  obtain ⟨hd, hn⟩ := htab _ (List.mem_of_getElem? hi)
  have hn : npc = pc + 3 := hn
  subst hn
  unfold vc at hr
  cases r9 with
  | none => cases hr
  | some a =>
  simp only [Option.bind_some] at hr
  by_cases hk : (xs h a).1 = kk
  · rw [if_pos hk] at hr
    cases hoc : oc with
    | none =>
      rw [hoc] at hr
      cases hr
    | some q =>
    rw [hoc] at hr
    obtain ⟨⟨hw1, hw2⟩, hw3, hw4, ⟨Tc, Nc, hcl⟩, hw5⟩ := hw
    have hk10 := (xN_of hcl).1
    have hwx := xW_get (G := G) (h := h) (a := a) (hR.lt hk (by omega))
    rw [xE_obj hk hk10] at hwx
    have hMet := hM G l q hoc
    refine xcall (rest := st.map (xtv G)) (va_runV (nL := nL) (own := own) (C := y.cls) (n := n) (b := gB G + a) (As := As.map (xtv G)) ⟨hx, hb, hml, hown, hts⟩ hMet (cwV n hts (C := y.cls) (fun w hw9 => by
      unfold wsV at hw9
      rcases List.mem_append.mp hw9 with h9 | h9
      · simp only [List.mem_cons, List.not_mem_nil, or_false] at h9
        rcases h9 with h9 | h9 | h9 | h9 <;> subst h9
        · exact XTgood _ hlk
        · exact XTgood _ hw1
        · exact XTgood _ hw2
        · exact XTgood _ hw3
      · exact xgood hw4 w h9) rfl rfl rfl ⟨rfl, hw5⟩ hroom) ⟨xPc_blind, va_recv hG.1 hR.1 hcl hwx, fun U hU hW => ⟨rfl, hG.call hW hS hU, by rw [hU]; exact Nat.le_trans hB hS.1, by rw [hU]; exact hR⟩⟩ rfl (by rw [List.length_map]; exact hnA) hl.1 (by rw [List.map_append, List.map_reverse]; rfl) (lv_room (by rw [xcats]; exact hst)) hd ⟨by show cells + mmc J ≤ mc; have hc : cells + (mmc J + bc) ≤ mc := hc; omega, by show slots + mms J ≤ ms; have hs : slots + (mms J + bs) ≤ ms := hs; omega⟩) hS (fun H1 locs1 hR1 hS1 => by
      rw [tcat_list, ← List.map_append]
      exact k q ok r hr H1 locs1 lsA _ _ hR1 hS1 hl (by show cells + mmc J + bc ≤ mc; have hc : cells + (mmc J + bc) ≤ mc := hc; omega) (by show slots + mms J + bs ≤ ms; have hs : slots + (mms J + bs) ≤ ms := hs; omega))
  · rw [if_neg hk] at hr
    cases hr
theorem s_callKi {α : Type} {X : XX} {I : MI} {ρ : α → Option TV × XM} {pc npc i : Nat} {ls : List (Nat × TV)} {st : List TV} {h : XM} {bc bs : Nat} {F : Int32 × XM → Option α} {oc : Option (Int32 × XM)} {J : MI} {idx n : Nat} {y : MethodName} (As : List TV) {n9 : Nat} (hi : (mtab I)[i]? = some (pc, .invokevirtual idx, 3, npc)) (hM : MC J y (tK n9 :: As) h ρi oc) (hw : xCK y J n) (hlk : Cond.methodLink I.2.2.2.1 idx y ∈ XT) (hnA : As.length = n) (hst : (st.map tcat).sum ≤ 8) (hroom : xRm J I) (k : ∀ q, SW X I ρ npc ls (tI q.1 :: st) (q.2) bc bs (F q)) : SW X I ρ pc ls (As.reverse ++ tK n9 :: st) h (mmc J + bc) (mms J + bs) ((vk n9 oc).bind F) := by
  obtain ⟨G, p, l, e, s, m, args, below, meth, c⟩ := X
  obtain ⟨cc, nL, ret, own, nm, tab, mc, ms, nfr, nlo⟩ := I
  intro ok r hr H locs lsA cells slots hR hS hl hc hs
  obtain ⟨hx, hb, hml, hret, hown, hts, hlocks, hnm, htab, hG, hB⟩ := id ok
  obtain ⟨hd, hn⟩ := htab _ (List.mem_of_getElem? hi)
  have hn : npc = pc + 3 := hn
  subst hn
  unfold vk at hr
  by_cases hk : n9 % 3 = 0 ∧ n9 / 3 < 13
  · rw [if_pos hk] at hr
    cases hoc : oc with
    | none =>
      rw [hoc] at hr
      cases hr
    | some q =>
    rw [hoc] at hr
    obtain ⟨hy, ⟨hw1, hw2⟩, hw3, hw4, hw5⟩ := hw
    have hMet := hM G l q hoc
    have e1 : xtv G (tK n9) = .ref (gK G (n9 / 3)) := xk_s hk.1
    have hrec := vk_recv hG.2.1 hk.2 hS
    rw [← hy] at hrec
    have hPcx : xPc G h (tK n9 :: As) = xPc G h (tK n9 :: As) := rfl
    refine xcall (rest := st.map (xtv G)) (va_runV (nL := nL) (own := own) (C := y.cls) (n := n) (b := gK G (n9 / 3)) (As := As.map (xtv G)) ⟨hx, hb, hml, hown, hts⟩ hMet (cwV n hts (C := y.cls) (fun w hw9 => by
      unfold wsV at hw9
      rcases List.mem_append.mp hw9 with h9 | h9
      · simp only [List.mem_cons, List.not_mem_nil, or_false] at h9
        rcases h9 with h9 | h9 | h9 | h9 <;> subst h9
        · exact XTgood _ hlk
        · exact XTgood _ hw1
        · exact XTgood _ hw2
        · exact XTgood _ hw3
      · exact xgood hw4 w h9) rfl rfl rfl ⟨rfl, hw5⟩ hroom) ⟨xPc_blind, hrec, fun U hU hW => ⟨by rw [List.map_cons, e1], hG.call hW hS hU, by rw [hU]; exact Nat.le_trans hB hS.1, by rw [hU]; exact hR⟩⟩ rfl (by rw [List.length_map]; exact hnA) hl.1 (by rw [List.map_append, List.map_reverse, List.map_cons, e1]) (lv_room (by rw [xcats]; exact hst)) hd ⟨by show cells + mmc J ≤ mc; have hc : cells + (mmc J + bc) ≤ mc := hc; omega, by show slots + mms J ≤ ms; have hs : slots + (mms J + bs) ≤ ms := hs; omega⟩) hS (fun H1 locs1 hR1 hS1 => by
      rw [tcat_list, ← List.map_append]
      exact k q ok r hr H1 locs1 lsA _ _ hR1 hS1 hl (by show cells + mmc J + bc ≤ mc; have hc : cells + (mmc J + bc) ≤ mc := hc; omega) (by show slots + mms J + bs ≤ ms; have hs : slots + (mms J + bs) ≤ ms := hs; omega))
  · rw [if_neg hk] at hr
    cases hr
theorem s_callKv {α : Type} {X : XX} {I : MI} {ρ : α → Option TV × XM} {pc npc i : Nat} {ls : List (Nat × TV)} {st : List TV} {h : XM} {bc bs : Nat} {F : XM → Option α} {oc : Option (XM)} {J : MI} {idx n : Nat} {y : MethodName} (As : List TV) {n9 : Nat} (hi : (mtab I)[i]? = some (pc, .invokevirtual idx, 3, npc)) (hM : MC J y (tK n9 :: As) h ρv oc) (hw : xCK y J n) (hlk : Cond.methodLink I.2.2.2.1 idx y ∈ XT) (hnA : As.length = n) (hst : (st.map tcat).sum ≤ 8) (hroom : xRm J I) (k : ∀ q, SW X I ρ npc ls (st) (q) bc bs (F q)) : SW X I ρ pc ls (As.reverse ++ tK n9 :: st) h (mmc J + bc) (mms J + bs) ((vk n9 oc).bind F) := by
  obtain ⟨G, p, l, e, s, m, args, below, meth, c⟩ := X
  obtain ⟨cc, nL, ret, own, nm, tab, mc, ms, nfr, nlo⟩ := I
  intro ok r hr H locs lsA cells slots hR hS hl hc hs
  obtain ⟨hx, hb, hml, hret, hown, hts, hlocks, hnm, htab, hG, hB⟩ := id ok
  obtain ⟨hd, hn⟩ := htab _ (List.mem_of_getElem? hi)
  have hn : npc = pc + 3 := hn
  subst hn
  unfold vk at hr
  by_cases hk : n9 % 3 = 0 ∧ n9 / 3 < 13
  · rw [if_pos hk] at hr
    cases hoc : oc with
    | none =>
      rw [hoc] at hr
      cases hr
    | some q =>
    rw [hoc] at hr
    obtain ⟨hy, ⟨hw1, hw2⟩, hw3, hw4, hw5⟩ := hw
    have hMet := hM G l q hoc
    have e1 : xtv G (tK n9) = .ref (gK G (n9 / 3)) := xk_s hk.1
    have hrec := vk_recv hG.2.1 hk.2 hS
    rw [← hy] at hrec
    have hPcx : xPc G h (tK n9 :: As) = xPc G h (tK n9 :: As) := rfl
    refine xcall (rest := st.map (xtv G)) (va_runV (nL := nL) (own := own) (C := y.cls) (n := n) (b := gK G (n9 / 3)) (As := As.map (xtv G)) ⟨hx, hb, hml, hown, hts⟩ hMet (cwV n hts (C := y.cls) (fun w hw9 => by
      unfold wsV at hw9
      rcases List.mem_append.mp hw9 with h9 | h9
      · simp only [List.mem_cons, List.not_mem_nil, or_false] at h9
        rcases h9 with h9 | h9 | h9 | h9 <;> subst h9
        · exact XTgood _ hlk
        · exact XTgood _ hw1
        · exact XTgood _ hw2
        · exact XTgood _ hw3
      · exact xgood hw4 w h9) rfl rfl rfl ⟨rfl, hw5⟩ hroom) ⟨xPc_blind, hrec, fun U hU hW => ⟨by rw [List.map_cons, e1], hG.call hW hS hU, by rw [hU]; exact Nat.le_trans hB hS.1, by rw [hU]; exact hR⟩⟩ rfl (by rw [List.length_map]; exact hnA) hl.1 (by rw [List.map_append, List.map_reverse, List.map_cons, e1]) (lv_room (by rw [xcats]; exact hst)) hd ⟨by show cells + mmc J ≤ mc; have hc : cells + (mmc J + bc) ≤ mc := hc; omega, by show slots + mms J ≤ ms; have hs : slots + (mms J + bs) ≤ ms := hs; omega⟩) hS (fun H1 locs1 hR1 hS1 => by
      rw [tcat_list, ← List.map_append]
      exact k q ok r hr H1 locs1 lsA _ _ hR1 hS1 hl (by show cells + mmc J + bc ≤ mc; have hc : cells + (mmc J + bc) ≤ mc := hc; omega) (by show slots + mms J + bs ≤ ms; have hs : slots + (mms J + bs) ≤ ms := hs; omega))
  · rw [if_neg hk] at hr
    cases hr
theorem s_callKa {α : Type} {X : XX} {I : MI} {ρ : α → Option TV × XM} {pc npc i : Nat} {ls : List (Nat × TV)} {st : List TV} {h : XM} {bc bs : Nat} {F : Option Nat × XM → Option α} {oc : Option (Option Nat × XM)} {J : MI} {idx n : Nat} {y : MethodName} (As : List TV) {n9 : Nat} (hi : (mtab I)[i]? = some (pc, .invokevirtual idx, 3, npc)) (hM : MC J y (tK n9 :: As) h ρa oc) (hw : xCK y J n) (hlk : Cond.methodLink I.2.2.2.1 idx y ∈ XT) (hnA : As.length = n) (hst : (st.map tcat).sum ≤ 8) (hroom : xRm J I) (k : ∀ q, SW X I ρ npc ls (tA q.1 :: st) (q.2) bc bs (F q)) : SW X I ρ pc ls (As.reverse ++ tK n9 :: st) h (mmc J + bc) (mms J + bs) ((vk n9 oc).bind F) := by
  obtain ⟨G, p, l, e, s, m, args, below, meth, c⟩ := X
  obtain ⟨cc, nL, ret, own, nm, tab, mc, ms, nfr, nlo⟩ := I
  intro ok r hr H locs lsA cells slots hR hS hl hc hs
  obtain ⟨hx, hb, hml, hret, hown, hts, hlocks, hnm, htab, hG, hB⟩ := id ok
  obtain ⟨hd, hn⟩ := htab _ (List.mem_of_getElem? hi)
  have hn : npc = pc + 3 := hn
  subst hn
  unfold vk at hr
  by_cases hk : n9 % 3 = 0 ∧ n9 / 3 < 13
  · rw [if_pos hk] at hr
    cases hoc : oc with
    | none =>
      rw [hoc] at hr
      cases hr
    | some q =>
    rw [hoc] at hr
    obtain ⟨hy, ⟨hw1, hw2⟩, hw3, hw4, hw5⟩ := hw
    have hMet := hM G l q hoc
    have e1 : xtv G (tK n9) = .ref (gK G (n9 / 3)) := xk_s hk.1
    have hrec := vk_recv hG.2.1 hk.2 hS
    rw [← hy] at hrec
    have hPcx : xPc G h (tK n9 :: As) = xPc G h (tK n9 :: As) := rfl
    refine xcall (rest := st.map (xtv G)) (va_runV (nL := nL) (own := own) (C := y.cls) (n := n) (b := gK G (n9 / 3)) (As := As.map (xtv G)) ⟨hx, hb, hml, hown, hts⟩ hMet (cwV n hts (C := y.cls) (fun w hw9 => by
      unfold wsV at hw9
      rcases List.mem_append.mp hw9 with h9 | h9
      · simp only [List.mem_cons, List.not_mem_nil, or_false] at h9
        rcases h9 with h9 | h9 | h9 | h9 <;> subst h9
        · exact XTgood _ hlk
        · exact XTgood _ hw1
        · exact XTgood _ hw2
        · exact XTgood _ hw3
      · exact xgood hw4 w h9) rfl rfl rfl ⟨rfl, hw5⟩ hroom) ⟨xPc_blind, hrec, fun U hU hW => ⟨by rw [List.map_cons, e1], hG.call hW hS hU, by rw [hU]; exact Nat.le_trans hB hS.1, by rw [hU]; exact hR⟩⟩ rfl (by rw [List.length_map]; exact hnA) hl.1 (by rw [List.map_append, List.map_reverse, List.map_cons, e1]) (lv_room (by rw [xcats]; exact hst)) hd ⟨by show cells + mmc J ≤ mc; have hc : cells + (mmc J + bc) ≤ mc := hc; omega, by show slots + mms J ≤ ms; have hs : slots + (mms J + bs) ≤ ms := hs; omega⟩) hS (fun H1 locs1 hR1 hS1 => by
      rw [tcat_list, ← List.map_append]
      exact k q ok r hr H1 locs1 lsA _ _ hR1 hS1 hl (by show cells + mmc J + bc ≤ mc; have hc : cells + (mmc J + bc) ≤ mc := hc; omega) (by show slots + mms J + bs ≤ ms; have hs : slots + (mms J + bs) ≤ ms := hs; omega))
  · rw [if_neg hk] at hr
    cases hr
theorem s_callKl {α : Type} {X : XX} {I : MI} {ρ : α → Option TV × XM} {pc npc i : Nat} {ls : List (Nat × TV)} {st : List TV} {h : XM} {bc bs : Nat} {F : Int64 × XM → Option α} {oc : Option (Int64 × XM)} {J : MI} {idx n : Nat} {y : MethodName} (As : List TV) {n9 : Nat} (hi : (mtab I)[i]? = some (pc, .invokevirtual idx, 3, npc)) (hM : MC J y (tK n9 :: As) h ρl oc) (hw : xCK y J n) (hlk : Cond.methodLink I.2.2.2.1 idx y ∈ XT) (hnA : As.length = n) (hst : (st.map tcat).sum ≤ 8) (hroom : xRm J I) (k : ∀ q, SW X I ρ npc ls (tL q.1 :: st) (q.2) bc bs (F q)) : SW X I ρ pc ls (As.reverse ++ tK n9 :: st) h (mmc J + bc) (mms J + bs) ((vk n9 oc).bind F) := by
  obtain ⟨G, p, l, e, s, m, args, below, meth, c⟩ := X
  obtain ⟨cc, nL, ret, own, nm, tab, mc, ms, nfr, nlo⟩ := I
  intro ok r hr H locs lsA cells slots hR hS hl hc hs
  obtain ⟨hx, hb, hml, hret, hown, hts, hlocks, hnm, htab, hG, hB⟩ := id ok
  obtain ⟨hd, hn⟩ := htab _ (List.mem_of_getElem? hi)
  have hn : npc = pc + 3 := hn
  subst hn
  unfold vk at hr
  by_cases hk : n9 % 3 = 0 ∧ n9 / 3 < 13
  · rw [if_pos hk] at hr
    cases hoc : oc with
    | none =>
      rw [hoc] at hr
      cases hr
    | some q =>
    rw [hoc] at hr
    obtain ⟨hy, ⟨hw1, hw2⟩, hw3, hw4, hw5⟩ := hw
    have hMet := hM G l q hoc
    have e1 : xtv G (tK n9) = .ref (gK G (n9 / 3)) := xk_s hk.1
    have hrec := vk_recv hG.2.1 hk.2 hS
    rw [← hy] at hrec
    have hPcx : xPc G h (tK n9 :: As) = xPc G h (tK n9 :: As) := rfl
    refine xcall (rest := st.map (xtv G)) (va_runV (nL := nL) (own := own) (C := y.cls) (n := n) (b := gK G (n9 / 3)) (As := As.map (xtv G)) ⟨hx, hb, hml, hown, hts⟩ hMet (cwV n hts (C := y.cls) (fun w hw9 => by
      unfold wsV at hw9
      rcases List.mem_append.mp hw9 with h9 | h9
      · simp only [List.mem_cons, List.not_mem_nil, or_false] at h9
        rcases h9 with h9 | h9 | h9 | h9 <;> subst h9
        · exact XTgood _ hlk
        · exact XTgood _ hw1
        · exact XTgood _ hw2
        · exact XTgood _ hw3
      · exact xgood hw4 w h9) rfl rfl rfl ⟨rfl, hw5⟩ hroom) ⟨xPc_blind, hrec, fun U hU hW => ⟨by rw [List.map_cons, e1], hG.call hW hS hU, by rw [hU]; exact Nat.le_trans hB hS.1, by rw [hU]; exact hR⟩⟩ rfl (by rw [List.length_map]; exact hnA) hl.1 (by rw [List.map_append, List.map_reverse, List.map_cons, e1]) (lv_room (by rw [xcats]; exact hst)) hd ⟨by show cells + mmc J ≤ mc; have hc : cells + (mmc J + bc) ≤ mc := hc; omega, by show slots + mms J ≤ ms; have hs : slots + (mms J + bs) ≤ ms := hs; omega⟩) hS (fun H1 locs1 hR1 hS1 => by
      rw [tcat_list, ← List.map_append]
      exact k q ok r hr H1 locs1 lsA _ _ hR1 hS1 hl (by show cells + mmc J + bc ≤ mc; have hc : cells + (mmc J + bc) ≤ mc := hc; omega) (by show slots + mms J + bs ≤ ms; have hs : slots + (mms J + bs) ≤ ms := hs; omega))
  · rw [if_neg hk] at hr
    cases hr
theorem s_callSi {α : Type} {X : XX} {I : MI} {ρ : α → Option TV × XM} {pc npc i : Nat} {ls : List (Nat × TV)} {st : List TV} {h : XM} {bc bs : Nat} {F : Int32 × XM → Option α} {oc : Option (Int32 × XM)} {J : MI} {idx n : Nat} {y : MethodName} (As : List TV)  (hi : (mtab I)[i]? = some (pc, .invokestatic idx, 3, npc)) (hM : MC J y (As) h ρi oc) (hw : xCS y J n) (hlk : Cond.methodLink I.2.2.2.1 idx y ∈ XT) (hnA : As.length = n) (hst : (st.map tcat).sum ≤ 8) (hroom : xRm J I) (k : ∀ q, SW X I ρ npc ls (tI q.1 :: st) (q.2) bc bs (F q)) : SW X I ρ pc ls (As.reverse ++ st) h (mmc J + bc) (mms J + bs) ((oc).bind F) := by
  obtain ⟨G, p, l, e, s, m, args, below, meth, c⟩ := X
  obtain ⟨cc, nL, ret, own, nm, tab, mc, ms, nfr, nlo⟩ := I
  intro ok r hr H locs lsA cells slots hR hS hl hc hs
  obtain ⟨hx, hb, hml, hret, hown, hts, hlocks, hnm, htab, hG, hB⟩ := id ok
  obtain ⟨hd, hn⟩ := htab _ (List.mem_of_getElem? hi)
  have hn : npc = pc + 3 := hn
  subst hn
  cases hoc : oc with
  | none =>
    rw [hoc] at hr
    cases hr
  | some q =>
    rw [hoc] at hr
    obtain ⟨hw1, hw3, hw4, hw5⟩ := hw
    have hMet := hM G l q hoc
    refine xcall (rest := st.map (xtv G)) (va_runS (nL := nL) (own := own) (n := n) (As := As.map (xtv G)) ⟨hx, hb, hml, hown, hts⟩ hMet (va_cwS n hts (fun w hw9 => by
      unfold va_wsS at hw9
      rcases List.mem_append.mp hw9 with h9 | h9
      · simp only [List.mem_cons, List.not_mem_nil, or_false] at h9
        rcases h9 with h9 | h9 | h9 <;> subst h9
        · exact XTgood _ hlk
        · exact XTgood _ hw1
        · exact XTgood _ hw3
      · exact xgood hw4 w h9) rfl rfl rfl hw5 hroom) ⟨xPc_blind, fun U hU hW => ⟨rfl, hG.call hW hS hU, by rw [hU]; exact Nat.le_trans hB hS.1, by rw [hU]; exact hR⟩⟩ rfl (by rw [List.length_map]; exact hnA) hl.1 (by rw [List.map_append, List.map_reverse]) (lv_room (by rw [xcats]; exact hst)) hd ⟨by show cells + mmc J ≤ mc; have hc : cells + (mmc J + bc) ≤ mc := hc; omega, by show slots + mms J ≤ ms; have hs : slots + (mms J + bs) ≤ ms := hs; omega⟩) hS (fun H1 locs1 hR1 hS1 => by
      rw [tcat_list, ← List.map_append]
      exact k q ok r hr H1 locs1 lsA _ _ hR1 hS1 hl (by show cells + mmc J + bc ≤ mc; have hc : cells + (mmc J + bc) ≤ mc := hc; omega) (by show slots + mms J + bs ≤ ms; have hs : slots + (mms J + bs) ≤ ms := hs; omega))
theorem s_callSv {α : Type} {X : XX} {I : MI} {ρ : α → Option TV × XM} {pc npc i : Nat} {ls : List (Nat × TV)} {st : List TV} {h : XM} {bc bs : Nat} {F : XM → Option α} {oc : Option (XM)} {J : MI} {idx n : Nat} {y : MethodName} (As : List TV)  (hi : (mtab I)[i]? = some (pc, .invokestatic idx, 3, npc)) (hM : MC J y (As) h ρv oc) (hw : xCS y J n) (hlk : Cond.methodLink I.2.2.2.1 idx y ∈ XT) (hnA : As.length = n) (hst : (st.map tcat).sum ≤ 8) (hroom : xRm J I) (k : ∀ q, SW X I ρ npc ls (st) (q) bc bs (F q)) : SW X I ρ pc ls (As.reverse ++ st) h (mmc J + bc) (mms J + bs) ((oc).bind F) := by
  obtain ⟨G, p, l, e, s, m, args, below, meth, c⟩ := X
  obtain ⟨cc, nL, ret, own, nm, tab, mc, ms, nfr, nlo⟩ := I
  intro ok r hr H locs lsA cells slots hR hS hl hc hs
  obtain ⟨hx, hb, hml, hret, hown, hts, hlocks, hnm, htab, hG, hB⟩ := id ok
  obtain ⟨hd, hn⟩ := htab _ (List.mem_of_getElem? hi)
  have hn : npc = pc + 3 := hn
  subst hn
  cases hoc : oc with
  | none =>
    rw [hoc] at hr
    cases hr
  | some q =>
    rw [hoc] at hr
    obtain ⟨hw1, hw3, hw4, hw5⟩ := hw
    have hMet := hM G l q hoc
    refine xcall (rest := st.map (xtv G)) (va_runS (nL := nL) (own := own) (n := n) (As := As.map (xtv G)) ⟨hx, hb, hml, hown, hts⟩ hMet (va_cwS n hts (fun w hw9 => by
      unfold va_wsS at hw9
      rcases List.mem_append.mp hw9 with h9 | h9
      · simp only [List.mem_cons, List.not_mem_nil, or_false] at h9
        rcases h9 with h9 | h9 | h9 <;> subst h9
        · exact XTgood _ hlk
        · exact XTgood _ hw1
        · exact XTgood _ hw3
      · exact xgood hw4 w h9) rfl rfl rfl hw5 hroom) ⟨xPc_blind, fun U hU hW => ⟨rfl, hG.call hW hS hU, by rw [hU]; exact Nat.le_trans hB hS.1, by rw [hU]; exact hR⟩⟩ rfl (by rw [List.length_map]; exact hnA) hl.1 (by rw [List.map_append, List.map_reverse]) (lv_room (by rw [xcats]; exact hst)) hd ⟨by show cells + mmc J ≤ mc; have hc : cells + (mmc J + bc) ≤ mc := hc; omega, by show slots + mms J ≤ ms; have hs : slots + (mms J + bs) ≤ ms := hs; omega⟩) hS (fun H1 locs1 hR1 hS1 => by
      rw [tcat_list, ← List.map_append]
      exact k q ok r hr H1 locs1 lsA _ _ hR1 hS1 hl (by show cells + mmc J + bc ≤ mc; have hc : cells + (mmc J + bc) ≤ mc := hc; omega) (by show slots + mms J + bs ≤ ms; have hs : slots + (mms J + bs) ≤ ms := hs; omega))
theorem s_callSa {α : Type} {X : XX} {I : MI} {ρ : α → Option TV × XM} {pc npc i : Nat} {ls : List (Nat × TV)} {st : List TV} {h : XM} {bc bs : Nat} {F : Option Nat × XM → Option α} {oc : Option (Option Nat × XM)} {J : MI} {idx n : Nat} {y : MethodName} (As : List TV)  (hi : (mtab I)[i]? = some (pc, .invokestatic idx, 3, npc)) (hM : MC J y (As) h ρa oc) (hw : xCS y J n) (hlk : Cond.methodLink I.2.2.2.1 idx y ∈ XT) (hnA : As.length = n) (hst : (st.map tcat).sum ≤ 8) (hroom : xRm J I) (k : ∀ q, SW X I ρ npc ls (tA q.1 :: st) (q.2) bc bs (F q)) : SW X I ρ pc ls (As.reverse ++ st) h (mmc J + bc) (mms J + bs) ((oc).bind F) := by
  obtain ⟨G, p, l, e, s, m, args, below, meth, c⟩ := X
  obtain ⟨cc, nL, ret, own, nm, tab, mc, ms, nfr, nlo⟩ := I
  intro ok r hr H locs lsA cells slots hR hS hl hc hs
  obtain ⟨hx, hb, hml, hret, hown, hts, hlocks, hnm, htab, hG, hB⟩ := id ok
  obtain ⟨hd, hn⟩ := htab _ (List.mem_of_getElem? hi)
  have hn : npc = pc + 3 := hn
  subst hn
  cases hoc : oc with
  | none =>
    rw [hoc] at hr
    cases hr
  | some q =>
    rw [hoc] at hr
    obtain ⟨hw1, hw3, hw4, hw5⟩ := hw
    have hMet := hM G l q hoc
    refine xcall (rest := st.map (xtv G)) (va_runS (nL := nL) (own := own) (n := n) (As := As.map (xtv G)) ⟨hx, hb, hml, hown, hts⟩ hMet (va_cwS n hts (fun w hw9 => by
      unfold va_wsS at hw9
      rcases List.mem_append.mp hw9 with h9 | h9
      · simp only [List.mem_cons, List.not_mem_nil, or_false] at h9
        rcases h9 with h9 | h9 | h9 <;> subst h9
        · exact XTgood _ hlk
        · exact XTgood _ hw1
        · exact XTgood _ hw3
      · exact xgood hw4 w h9) rfl rfl rfl hw5 hroom) ⟨xPc_blind, fun U hU hW => ⟨rfl, hG.call hW hS hU, by rw [hU]; exact Nat.le_trans hB hS.1, by rw [hU]; exact hR⟩⟩ rfl (by rw [List.length_map]; exact hnA) hl.1 (by rw [List.map_append, List.map_reverse]) (lv_room (by rw [xcats]; exact hst)) hd ⟨by show cells + mmc J ≤ mc; have hc : cells + (mmc J + bc) ≤ mc := hc; omega, by show slots + mms J ≤ ms; have hs : slots + (mms J + bs) ≤ ms := hs; omega⟩) hS (fun H1 locs1 hR1 hS1 => by
      rw [tcat_list, ← List.map_append]
      exact k q ok r hr H1 locs1 lsA _ _ hR1 hS1 hl (by show cells + mmc J + bc ≤ mc; have hc : cells + (mmc J + bc) ≤ mc := hc; omega) (by show slots + mms J + bs ≤ ms; have hs : slots + (mms J + bs) ≤ ms := hs; omega))
theorem s_callSl {α : Type} {X : XX} {I : MI} {ρ : α → Option TV × XM} {pc npc i : Nat} {ls : List (Nat × TV)} {st : List TV} {h : XM} {bc bs : Nat} {F : Int64 × XM → Option α} {oc : Option (Int64 × XM)} {J : MI} {idx n : Nat} {y : MethodName} (As : List TV)  (hi : (mtab I)[i]? = some (pc, .invokestatic idx, 3, npc)) (hM : MC J y (As) h ρl oc) (hw : xCS y J n) (hlk : Cond.methodLink I.2.2.2.1 idx y ∈ XT) (hnA : As.length = n) (hst : (st.map tcat).sum ≤ 8) (hroom : xRm J I) (k : ∀ q, SW X I ρ npc ls (tL q.1 :: st) (q.2) bc bs (F q)) : SW X I ρ pc ls (As.reverse ++ st) h (mmc J + bc) (mms J + bs) ((oc).bind F) := by
  obtain ⟨G, p, l, e, s, m, args, below, meth, c⟩ := X
  obtain ⟨cc, nL, ret, own, nm, tab, mc, ms, nfr, nlo⟩ := I
  intro ok r hr H locs lsA cells slots hR hS hl hc hs
  obtain ⟨hx, hb, hml, hret, hown, hts, hlocks, hnm, htab, hG, hB⟩ := id ok
  obtain ⟨hd, hn⟩ := htab _ (List.mem_of_getElem? hi)
  have hn : npc = pc + 3 := hn
  subst hn
  cases hoc : oc with
  | none =>
    rw [hoc] at hr
    cases hr
  | some q =>
    rw [hoc] at hr
    obtain ⟨hw1, hw3, hw4, hw5⟩ := hw
    have hMet := hM G l q hoc
    refine xcall (rest := st.map (xtv G)) (va_runS (nL := nL) (own := own) (n := n) (As := As.map (xtv G)) ⟨hx, hb, hml, hown, hts⟩ hMet (va_cwS n hts (fun w hw9 => by
      unfold va_wsS at hw9
      rcases List.mem_append.mp hw9 with h9 | h9
      · simp only [List.mem_cons, List.not_mem_nil, or_false] at h9
        rcases h9 with h9 | h9 | h9 <;> subst h9
        · exact XTgood _ hlk
        · exact XTgood _ hw1
        · exact XTgood _ hw3
      · exact xgood hw4 w h9) rfl rfl rfl hw5 hroom) ⟨xPc_blind, fun U hU hW => ⟨rfl, hG.call hW hS hU, by rw [hU]; exact Nat.le_trans hB hS.1, by rw [hU]; exact hR⟩⟩ rfl (by rw [List.length_map]; exact hnA) hl.1 (by rw [List.map_append, List.map_reverse]) (lv_room (by rw [xcats]; exact hst)) hd ⟨by show cells + mmc J ≤ mc; have hc : cells + (mmc J + bc) ≤ mc := hc; omega, by show slots + mms J ≤ ms; have hs : slots + (mms J + bs) ≤ ms := hs; omega⟩) hS (fun H1 locs1 hR1 hS1 => by
      rw [tcat_list, ← List.map_append]
      exact k q ok r hr H1 locs1 lsA _ _ hR1 hS1 hl (by show cells + mmc J + bc ≤ mc; have hc : cells + (mmc J + bc) ≤ mc := hc; omega) (by show slots + mms J + bs ≤ ms; have hs : slots + (mms J + bs) ≤ ms := hs; omega))
theorem s_callSk {α : Type} {X : XX} {I : MI} {ρ : α → Option TV × XM} {pc npc i : Nat} {ls : List (Nat × TV)} {st : List TV} {h : XM} {bc bs : Nat} {F : Nat × XM → Option α} {oc : Option (Nat × XM)} {J : MI} {idx n : Nat} {y : MethodName} (As : List TV)  (hi : (mtab I)[i]? = some (pc, .invokestatic idx, 3, npc)) (hM : MC J y (As) h ρk oc) (hw : xCS y J n) (hlk : Cond.methodLink I.2.2.2.1 idx y ∈ XT) (hnA : As.length = n) (hst : (st.map tcat).sum ≤ 8) (hroom : xRm J I) (k : ∀ q, SW X I ρ npc ls (tK q.1 :: st) (q.2) bc bs (F q)) : SW X I ρ pc ls (As.reverse ++ st) h (mmc J + bc) (mms J + bs) ((oc).bind F) := by
  obtain ⟨G, p, l, e, s, m, args, below, meth, c⟩ := X
  obtain ⟨cc, nL, ret, own, nm, tab, mc, ms, nfr, nlo⟩ := I
  intro ok r hr H locs lsA cells slots hR hS hl hc hs
  obtain ⟨hx, hb, hml, hret, hown, hts, hlocks, hnm, htab, hG, hB⟩ := id ok
  obtain ⟨hd, hn⟩ := htab _ (List.mem_of_getElem? hi)
  have hn : npc = pc + 3 := hn
  subst hn
  cases hoc : oc with
  | none =>
    rw [hoc] at hr
    cases hr
  | some q =>
    rw [hoc] at hr
    obtain ⟨hw1, hw3, hw4, hw5⟩ := hw
    have hMet := hM G l q hoc
    refine xcall (rest := st.map (xtv G)) (va_runS (nL := nL) (own := own) (n := n) (As := As.map (xtv G)) ⟨hx, hb, hml, hown, hts⟩ hMet (va_cwS n hts (fun w hw9 => by
      unfold va_wsS at hw9
      rcases List.mem_append.mp hw9 with h9 | h9
      · simp only [List.mem_cons, List.not_mem_nil, or_false] at h9
        rcases h9 with h9 | h9 | h9 <;> subst h9
        · exact XTgood _ hlk
        · exact XTgood _ hw1
        · exact XTgood _ hw3
      · exact xgood hw4 w h9) rfl rfl rfl hw5 hroom) ⟨xPc_blind, fun U hU hW => ⟨rfl, hG.call hW hS hU, by rw [hU]; exact Nat.le_trans hB hS.1, by rw [hU]; exact hR⟩⟩ rfl (by rw [List.length_map]; exact hnA) hl.1 (by rw [List.map_append, List.map_reverse]) (lv_room (by rw [xcats]; exact hst)) hd ⟨by show cells + mmc J ≤ mc; have hc : cells + (mmc J + bc) ≤ mc := hc; omega, by show slots + mms J ≤ ms; have hs : slots + (mms J + bs) ≤ ms := hs; omega⟩) hS (fun H1 locs1 hR1 hS1 => by
      rw [tcat_list, ← List.map_append]
      exact k q ok r hr H1 locs1 lsA _ _ hR1 hS1 hl (by show cells + mmc J + bc ≤ mc; have hc : cells + (mmc J + bc) ≤ mc := hc; omega) (by show slots + mms J + bs ≤ ms; have hs : slots + (mms J + bs) ≤ ms := hs; omega))
theorem s_callIv {α : Type} {X : XX} {I : MI} {ρ : α → Option TV × XM} {pc npc i : Nat} {ls : List (Nat × TV)} {st : List TV} {h : XM} {bc bs : Nat} {F : XM → Option α} {oc : Option (XM)} {J : MI} {idx n : Nat} {y : MethodName} (As : List TV) {r9 : Option Nat} (hi : (mtab I)[i]? = some (pc, .invokespecial idx, 3, npc)) (hM : MC J y (tA r9 :: As) h ρv oc) (hw : xCI y J n) (hlk : Cond.methodLink I.2.2.2.1 idx y ∈ XT) (hnA : As.length = n) (hst : (st.map tcat).sum ≤ 8) (hroom : xRm J I) (k : ∀ q, SW X I ρ npc ls (st) (q) bc bs (F q)) : SW X I ρ pc ls (As.reverse ++ tA r9 :: st) h (mmc J + bc) (mms J + bs) ((r9.bind fun _ => oc).bind F) := by
  obtain ⟨G, p, l, e, s, m, args, below, meth, c⟩ := X
  obtain ⟨cc, nL, ret, own, nm, tab, mc, ms, nfr, nlo⟩ := I
  intro ok r hr H locs lsA cells slots hR hS hl hc hs
  obtain ⟨hx, hb, hml, hret, hown, hts, hlocks, hnm, htab, hG, hB⟩ := id ok
  obtain ⟨hd, hn⟩ := htab _ (List.mem_of_getElem? hi)
  have hn : npc = pc + 3 := hn
  subst hn
  cases r9 with
  | none => cases hr
  | some a =>
  simp only [Option.bind_some] at hr
  cases hoc : oc with
  | none =>
    rw [hoc] at hr
    cases hr
  | some q =>
    rw [hoc] at hr
    obtain ⟨⟨hw0, hret9⟩, hw1, hw3, hw4, hw5⟩ := hw
    have hMet := hM G l q hoc
    rw [hret9] at hMet hw4
    refine xcall (rest := st.map (xtv G)) (va_runI (nL := nL) (own := own) (n := n) (b := gB G + a) (As := As.map (xtv G)) ⟨hx, hb, hml, hown, hts⟩ hMet (cwI n hts (fun w hw9 => by
      rcases List.mem_cons.mp hw9 with e | e
      · rw [e]
        exact XTgood _ hw4
      · exact XTgood _ e) rfl rfl rfl (hts _ hw3) (hts _ hlk) (hts _ hw1) hw0 hw5 hroom) ⟨xPc_blind, fun U hU hW => ⟨rfl, hG.call hW hS hU, by rw [hU]; exact Nat.le_trans hB hS.1, by rw [hU]; exact hR⟩⟩ rfl (by rw [List.length_map]; exact hnA) hl.1 (by rw [List.map_append, List.map_reverse]; rfl) (lv_room (by rw [xcats]; exact hst)) hd ⟨by show cells + mmc J ≤ mc; have hc : cells + (mmc J + bc) ≤ mc := hc; omega, by show slots + mms J ≤ ms; have hs : slots + (mms J + bs) ≤ ms := hs; omega⟩) hS (fun H1 locs1 hR1 hS1 => by
      rw [tcat_list, ← List.map_append]
      exact k q ok r hr H1 locs1 lsA _ _ hR1 hS1 hl (by show cells + mmc J + bc ≤ mc; have hc : cells + (mmc J + bc) ≤ mc := hc; omega) (by show slots + mms J + bs ≤ ms; have hs : slots + (mms J + bs) ≤ ms := hs; omega))
theorem s_callNv {α : Type} {X : XX} {I : MI} {ρ : α → Option TV × XM} {pc npc i : Nat} {ls : List (Nat × TV)} {st : List TV} {h : XM} {bc bs : Nat} {F : XM → Option α} {oc : Option (XM)} {J : MI} {idx n : Nat} {y : MethodName} (As : List TV) {r9 : Option Nat} (hi : (mtab I)[i]? = some (pc, .invokespecial idx, 3, npc)) (hM : MC J y (tA r9 :: As) h ρv oc) (hw : xCI y J n) (hlk : ∀ (G : XG) (s : State), GI G s s.heap → va_Nw (.methodLinkNest I.2.2.2.1 idx y xR8) s) (hnA : As.length = n) (hst : (st.map tcat).sum ≤ 8) (hroom : xRm J I) (k : ∀ q, SW X I ρ npc ls (st) (q) bc bs (F q)) : SW X I ρ pc ls (As.reverse ++ tA r9 :: st) h (mmc J + bc) (mms J + bs) ((r9.bind fun _ => oc).bind F) := by
  obtain ⟨G, p, l, e, s, m, args, below, meth, c⟩ := X
  obtain ⟨cc, nL, ret, own, nm, tab, mc, ms, nfr, nlo⟩ := I
  intro ok r hr H locs lsA cells slots hR hS hl hc hs
  obtain ⟨hx, hb, hml, hret, hown, hts, hlocks, hnm, htab, hG, hB⟩ := id ok
  obtain ⟨hd, hn⟩ := htab _ (List.mem_of_getElem? hi)
  have hn : npc = pc + 3 := hn
  subst hn
  cases r9 with
  | none => cases hr
  | some a =>
  simp only [Option.bind_some] at hr
  cases hoc : oc with
  | none =>
    rw [hoc] at hr
    cases hr
  | some q =>
    rw [hoc] at hr
    obtain ⟨⟨hw0, hret9⟩, hw1, hw3, hw4, hw5⟩ := hw
    have hMet := hM G l q hoc
    rw [hret9] at hMet hw4
    refine xcall (rest := st.map (xtv G)) (va_runIN (nL := nL) (own := own) (n := n) (b := gB G + a) (As := As.map (xtv G)) ⟨hx, hb, hml, hown, hts⟩ hMet ⟨va_cnB n hts (fun w hw9 => by
      rcases List.mem_cons.mp hw9 with e | e
      · rw [e]
        exact XTgood _ hw4
      · exact XTgood _ e) rfl rfl rfl (hlk G s hG) (hts _ hw3) hw5 hroom, hw0, hts _ hw1⟩ ⟨xPc_blind, fun U hU hW => ⟨rfl, hG.call hW hS hU, by rw [hU]; exact Nat.le_trans hB hS.1, by rw [hU]; exact hR⟩⟩ rfl (by rw [List.length_map]; exact hnA) hl.1 (by rw [List.map_append, List.map_reverse]; rfl) (lv_room (by rw [xcats]; exact hst)) hd ⟨by show cells + mmc J ≤ mc; have hc : cells + (mmc J + bc) ≤ mc := hc; omega, by show slots + mms J ≤ ms; have hs : slots + (mms J + bs) ≤ ms := hs; omega⟩) hS (fun H1 locs1 hR1 hS1 => by
      rw [tcat_list, ← List.map_append]
      exact k q ok r hr H1 locs1 lsA _ _ hR1 hS1 hl (by show cells + mmc J + bc ≤ mc; have hc : cells + (mmc J + bc) ≤ mc := hc; omega) (by show slots + mms J + bs ≤ ms; have hs : slots + (mms J + bs) ≤ ms := hs; omega))
theorem s_objInit {α : Type} {X : XX} {I : MI} {ρ : α → Option TV × XM} {pc npc i : Nat} {ls : List (Nat × TV)} {st : List TV} {h : XM} {bc bs : Nat} {o : Option α} {idx : Nat} {r9 : Option Nat} (hi : (mtab I)[i]? = some (pc, .invokespecial idx, 3, npc)) (hlk : Cond.methodLink I.2.2.2.1 idx objectInit ∈ XT ∧ Cond.instanceMethod objectInit ∈ XT ∧ Cond.code objectInit ⟨#[0xb1]⟩ 1 none ∈ XT) (hroom : 1 ≤ I.2.2.2.2.2.2.2.2.1 ∧ 20 ≤ I.2.2.2.2.2.2.2.2.2) (hst : st = []) (k : SW X I ρ npc ls st h bc bs o) : SW X I ρ pc ls (tA r9 :: st) h bc bs (r9.bind fun _ => o) := by
  obtain ⟨G, p, l, e, s, m, args, below, meth, c⟩ := X
  obtain ⟨cc, nL, ret, own, nm, tab, mc, ms, nfr, nlo⟩ := I
  intro ok r hr H locs lsA cells slots hR hS hl hc hs
  obtain ⟨hx, hb, hml, hret, hown, hts, hlocks, hnm, htab, hG, hB⟩ := id ok
  obtain ⟨hd, hn⟩ := htab _ (List.mem_of_getElem? hi)
  have hn : npc = pc + 3 := hn
  subst hn
  subst hst
  cases r9 with
  | none => cases hr
  | some a =>
    refine W.objInit hx hb hown (hts _ hlk.1) (hts _ hlk.2.1) (hts _ hlk.2.2) rfl (by rw [hml]; exact hl.1) rfl hd hroom.1 (Nat.le_trans (m := 20) (Nat.le_of_ble_eq_true rfl) hroom.2) ?_
    exact k ok r hr H locs lsA cells slots hR hS hl hc hs
theorem s_iret {X : XX} {I : MI} {pc npc i : Nat} {ls : List (Nat × TV)} {h : XM} {bc bs : Nat} {v : Int32} (hi : (mtab I)[i]? = some (pc, .ireturn, 1, npc)) (hret9 : I.2.2.1 = some .int) : SW (α := Int32 × XM) X I ρi pc ls [tI v] h bc bs (some (v, h)) := by
  obtain ⟨G, p, l, e, s, m, args, below, meth, c⟩ := X
  obtain ⟨cc, nL, ret, own, nm, tab, mc, ms, nfr, nlo⟩ := I
  intro ok r hr H locs lsA cells slots hR hS hl hc hs
  obtain ⟨hx, hb, hml, hret, hown, hts, hlocks, hnm, htab, hG, hB⟩ := id ok
  obtain ⟨hd, hn⟩ := htab _ (List.mem_of_getElem? hi)
  have hn : npc = pc + 1 := hn
  subst hn
  cases hr
  have hret9 : ret = some .int := hret9
  subst hret9
  exact W.widen (k := mc) (n := ms) (by have hc : cells + bc ≤ mc := hc; omega) (by have hs : slots + bs ≤ ms := hs; omega) (W.iret (v := v) hx hb hret (fun t ht hW => ⟨rfl, by rw [ht]; exact hR, hS.F ht⟩) hS.2.2 hd)
theorem s_zret {X : XX} {I : MI} {pc npc i : Nat} {ls : List (Nat × TV)} {h : XM} {bc bs : Nat} {v : Int32} (hi : (mtab I)[i]? = some (pc, .ireturn, 1, npc)) (hret9 : I.2.2.1 = some .boolean) : SW (α := Int32 × XM) X I ρi pc ls [tI v] h bc bs (rz h v) := by
  obtain ⟨G, p, l, e, s, m, args, below, meth, c⟩ := X
  obtain ⟨cc, nL, ret, own, nm, tab, mc, ms, nfr, nlo⟩ := I
  intro ok r hr H locs lsA cells slots hR hS hl hc hs
  obtain ⟨hx, hb, hml, hret, hown, hts, hlocks, hnm, htab, hG, hB⟩ := id ok
  obtain ⟨hd, hn⟩ := htab _ (List.mem_of_getElem? hi)
  have hn : npc = pc + 1 := hn
  subst hn
  unfold rz at hr
  by_cases hz : v = 0 ∨ v = 1
  · rw [if_pos hz] at hr
    cases hr
    have hret9 : ret = some .boolean := hret9
    subst hret9
    exact W.widen (k := mc) (n := ms) (by have hc : cells + bc ≤ mc := hc; omega) (by have hs : slots + bs ≤ ms := hs; omega) (W.zret (v := v) hx hb hret (by rcases hz with e9 | e9 <;> subst e9 <;> rfl) (fun t ht hW => ⟨rfl, by rw [ht]; exact hR, hS.F ht⟩) hS.2.2 hd)
  · rw [if_neg hz] at hr
    cases hr
def rzb (h : XM) (v : Int32) : Option (Int32 × XM) := if v = 0 then some (v, h) else none
theorem s_bret {X : XX} {I : MI} {pc npc i : Nat} {ls : List (Nat × TV)} {h : XM} {bc bs : Nat} {v : Int32} (hi : (mtab I)[i]? = some (pc, .ireturn, 1, npc)) (hret9 : I.2.2.1 = some .byte) : SW (α := Int32 × XM) X I ρi pc ls [tI v] h bc bs (rzb h v) := by
  obtain ⟨G, p, l, e, s, m, args, below, meth, c⟩ := X
  obtain ⟨cc, nL, ret, own, nm, tab, mc, ms, nfr, nlo⟩ := I
  intro ok r hr H locs lsA cells slots hR hS hl hc hs
  obtain ⟨hx, hb, hml, hret, hown, hts, hlocks, hnm, htab, hG, hB⟩ := id ok
  obtain ⟨hd, hn⟩ := htab _ (List.mem_of_getElem? hi)
  have hn : npc = pc + 1 := hn
  subst hn
  unfold rzb at hr
  by_cases hz : v = 0
  · rw [if_pos hz] at hr
    cases hr
    have hret9 : ret = some .byte := hret9
    subst hret9
    exact W.widen (k := mc) (n := ms) (by have hc : cells + bc ≤ mc := hc; omega) (by have hs : slots + bs ≤ ms := hs; omega) (W.zret (v := v) hx hb hret (by subst hz; rfl) (fun t ht hW => ⟨rfl, by rw [ht]; exact hR, hS.F ht⟩) hS.2.2 hd)
  · rw [if_neg hz] at hr
    cases hr
def rzc (h : XM) (v : Int32) : Option (Int32 × XM) := if narrow .char (.int v) = .int v then some (v, h) else none
theorem s_cret {X : XX} {I : MI} {pc npc i : Nat} {ls : List (Nat × TV)} {h : XM} {bc bs : Nat} {v : Int32} (hi : (mtab I)[i]? = some (pc, .ireturn, 1, npc)) (hret9 : I.2.2.1 = some .char) : SW (α := Int32 × XM) X I ρi pc ls [tI v] h bc bs (rzc h v) := by
  obtain ⟨G, p, l, e, s, m, args, below, meth, c⟩ := X
  obtain ⟨cc, nL, ret, own, nm, tab, mc, ms, nfr, nlo⟩ := I
  intro ok r hr H locs lsA cells slots hR hS hl hc hs
  obtain ⟨hx, hb, hml, hret, hown, hts, hlocks, hnm, htab, hG, hB⟩ := id ok
  obtain ⟨hd, hn⟩ := htab _ (List.mem_of_getElem? hi)
  have hn : npc = pc + 1 := hn
  subst hn
  unfold rzc at hr
  by_cases hz : narrow .char (.int v) = .int v
  · rw [if_pos hz] at hr
    cases hr
    have hret9 : ret = some .char := hret9
    subst hret9
    exact W.widen (k := mc) (n := ms) (by have hc : cells + bc ≤ mc := hc; omega) (by have hs : slots + bs ≤ ms := hs; omega) (W.zret (v := v) hx hb hret hz (fun t ht hW => ⟨rfl, by rw [ht]; exact hR, hS.F ht⟩) hS.2.2 hd)
  · rw [if_neg hz] at hr
    cases hr
theorem s_lret {X : XX} {I : MI} {pc npc i : Nat} {ls : List (Nat × TV)} {h : XM} {bc bs : Nat} {v : Int64} (hi : (mtab I)[i]? = some (pc, .lreturn, 1, npc)) (hret9 : I.2.2.1 = some .long) : SW (α := Int64 × XM) X I ρl pc ls [tL v] h bc bs (some (v, h)) := by
  obtain ⟨G, p, l, e, s, m, args, below, meth, c⟩ := X
  obtain ⟨cc, nL, ret, own, nm, tab, mc, ms, nfr, nlo⟩ := I
  intro ok r hr H locs lsA cells slots hR hS hl hc hs
  obtain ⟨hx, hb, hml, hret, hown, hts, hlocks, hnm, htab, hG, hB⟩ := id ok
  obtain ⟨hd, hn⟩ := htab _ (List.mem_of_getElem? hi)
  have hn : npc = pc + 1 := hn
  subst hn
  cases hr
  have hret9 : ret = some .long := hret9
  subst hret9
  exact W.widen (k := mc) (n := ms) (by have hc : cells + bc ≤ mc := hc; omega) (by have hs : slots + bs ≤ ms := hs; omega) (W.lret (v := v) hx hb hret (fun t ht hW => ⟨rfl, by rw [ht]; exact hR, hS.F ht⟩) hS.2.2 hd)
theorem s_aret {X : XX} {I : MI} {pc npc i : Nat} {ls : List (Nat × TV)} {h : XM} {bc bs : Nat} {v : Option Nat} (hi : (mtab I)[i]? = some (pc, .areturn, 1, npc)) {rt : FieldType} (hret9 : I.2.2.1 = some rt) (hrt : (∃ n, rt = .object n) ∨ ∃ t, rt = .array t) : SW (α := Option Nat × XM) X I ρa pc ls [tA v] h bc bs (some (v, h)) := by
  obtain ⟨G, p, l, e, s, m, args, below, meth, c⟩ := X
  obtain ⟨cc, nL, ret, own, nm, tab, mc, ms, nfr, nlo⟩ := I
  intro ok r hr H locs lsA cells slots hR hS hl hc hs
  obtain ⟨hx, hb, hml, hret, hown, hts, hlocks, hnm, htab, hG, hB⟩ := id ok
  obtain ⟨hd, hn⟩ := htab _ (List.mem_of_getElem? hi)
  have hn : npc = pc + 1 := hn
  subst hn
  cases hr
  have hret9 : ret = some rt := hret9
  subst hret9
  exact W.widen (k := mc) (n := ms) (by have hc : cells + bc ≤ mc := hc; omega) (by have hs : slots + bs ≤ ms := hs; omega) (W.aret (v := va_rf (v.map (xa G))) hx hb hret hrt (by cases v; exact Or.inl rfl; exact Or.inr ⟨_, rfl⟩) (fun t ht hW => ⟨rfl, by rw [ht]; exact hR, hS.F ht⟩) hS.2.2 hd)
theorem s_kret {X : XX} {I : MI} {pc npc i : Nat} {ls : List (Nat × TV)} {h : XM} {bc bs : Nat} {v : Nat} (hi : (mtab I)[i]? = some (pc, .areturn, 1, npc)) {rt : FieldType} (hret9 : I.2.2.1 = some rt) (hrt : (∃ n, rt = .object n) ∨ ∃ t, rt = .array t) : SW (α := Nat × XM) X I ρk pc ls [tK v] h bc bs (some (v, h)) := by
  obtain ⟨G, p, l, e, s, m, args, below, meth, c⟩ := X
  obtain ⟨cc, nL, ret, own, nm, tab, mc, ms, nfr, nlo⟩ := I
  intro ok r hr H locs lsA cells slots hR hS hl hc hs
  obtain ⟨hx, hb, hml, hret, hown, hts, hlocks, hnm, htab, hG, hB⟩ := id ok
  obtain ⟨hd, hn⟩ := htab _ (List.mem_of_getElem? hi)
  have hn : npc = pc + 1 := hn
  subst hn
  cases hr
  have hret9 : ret = some rt := hret9
  subst hret9
  exact W.widen (k := mc) (n := ms) (by have hc : cells + bc ≤ mc := hc; omega) (by have hs : slots + bs ≤ ms := hs; omega) (W.aret (v := xk G v) hx hb hret hrt (xk_ref G v) (fun t ht hW => ⟨rfl, by rw [ht]; exact hR, hS.F ht⟩) hS.2.2 hd)
theorem s_vret {X : XX} {I : MI} {pc npc i : Nat} {ls : List (Nat × TV)} {h : XM} {bc bs : Nat}  (hi : (mtab I)[i]? = some (pc, .return_, 1, npc)) (hret9 : I.2.2.1 = none) : SW (α := XM) X I ρv pc ls [] h bc bs (some h) := by
  obtain ⟨G, p, l, e, s, m, args, below, meth, c⟩ := X
  obtain ⟨cc, nL, ret, own, nm, tab, mc, ms, nfr, nlo⟩ := I
  intro ok r hr H locs lsA cells slots hR hS hl hc hs
  obtain ⟨hx, hb, hml, hret, hown, hts, hlocks, hnm, htab, hG, hB⟩ := id ok
  obtain ⟨hd, hn⟩ := htab _ (List.mem_of_getElem? hi)
  have hn : npc = pc + 1 := hn
  subst hn
  cases hr
  have hret9 : ret = none := hret9
  subst hret9
  exact W.widen (k := mc) (n := ms) (by have hc : cells + bc ≤ mc := hc; omega) (by have hs : slots + bs ≤ ms := hs; omega) (W.vret hx hb hret (fun t ht hW => ⟨rfl, by rw [ht]; exact hR, hS.F ht⟩) hS.2.2 hd)
theorem s_mmax {α : Type} {X : XX} {I : MI} {ρ : α → Option TV × XM} {pc npc i : Nat} {ls : List (Nat × TV)} {st : List TV} {h : XM} {bc bs : Nat} {o : Option α} {idx : Nat} {x y : Int32} (hi : (mtab I)[i]? = some (pc, .invokestatic idx, 3, npc)) (hw : Cond.methodLink I.2.2.2.1 idx Lib.Math.max.name ∈ XT ∧ Cond.static Lib.Math.max.name ∈ XT ∧ Cond.initialized "java/lang/Math" ∈ XT ∧ Cond.code Lib.Math.max.name Lib.Math.max.code 2 (some .int) ∈ XT) (hst : (st.map tcat).sum ≤ 8) (hroom : 1 ≤ I.2.2.2.2.2.2.2.2.1 ∧ 40 ≤ I.2.2.2.2.2.2.2.2.2) (k : SW X I ρ npc ls (tI (if x < y then y else x) :: st) h bc bs o) : SW X I ρ pc ls (tI y :: tI x :: st) h bc bs o := by
  obtain ⟨G, p, l, e, s, m, args, below, meth, c⟩ := X
  obtain ⟨cc, nL, ret, own, nm, tab, mc, ms, nfr, nlo⟩ := I
  intro ok r hr H locs lsA cells slots hR hS hl hc hs
  obtain ⟨hx, hb, hml, hret, hown, hts, hlocks, hnm, htab, hG, hB⟩ := id ok
  obtain ⟨hd, hn⟩ := htab _ (List.mem_of_getElem? hi)
  have hn : npc = pc + 3 := hn
  subst hn
  refine va_mmax hx hb (by show c.maxLocals = lsA.size; rw [hml]; exact hl.1.symm) hown (hts _ hw.1) (hts _ hw.2.1) (hts _ hw.2.2.1) (hts _ hw.2.2.2) hroom.1 (by rw [xcats]; have h40 : 40 ≤ nlo := hroom.2; show _ + 13 ≤ nlo; omega) (by show cells ≤ mc; have hc : cells + bc ≤ mc := hc; omega) (by show slots ≤ ms; have hs : slots + bs ≤ ms := hs; omega) hd ?_
  exact k ok r hr H locs lsA cells slots hR hS hl hc hs
theorem s_mmin {α : Type} {X : XX} {I : MI} {ρ : α → Option TV × XM} {pc npc i : Nat} {ls : List (Nat × TV)} {st : List TV} {h : XM} {bc bs : Nat} {o : Option α} {idx : Nat} {x y : Int32} (hi : (mtab I)[i]? = some (pc, .invokestatic idx, 3, npc)) (hw : Cond.methodLink I.2.2.2.1 idx Lib.Math.min.name ∈ XT ∧ Cond.static Lib.Math.min.name ∈ XT ∧ Cond.initialized "java/lang/Math" ∈ XT ∧ Cond.code Lib.Math.min.name Lib.Math.min.code 2 (some .int) ∈ XT) (hst : (st.map tcat).sum ≤ 8) (hroom : 1 ≤ I.2.2.2.2.2.2.2.2.1 ∧ 40 ≤ I.2.2.2.2.2.2.2.2.2) (k : SW X I ρ npc ls (tI (if y < x then y else x) :: st) h bc bs o) : SW X I ρ pc ls (tI y :: tI x :: st) h bc bs o := by
  obtain ⟨G, p, l, e, s, m, args, below, meth, c⟩ := X
  obtain ⟨cc, nL, ret, own, nm, tab, mc, ms, nfr, nlo⟩ := I
  intro ok r hr H locs lsA cells slots hR hS hl hc hs
  obtain ⟨hx, hb, hml, hret, hown, hts, hlocks, hnm, htab, hG, hB⟩ := id ok
  obtain ⟨hd, hn⟩ := htab _ (List.mem_of_getElem? hi)
  have hn : npc = pc + 3 := hn
  subst hn
  refine va_mmin hx hb (by show c.maxLocals = lsA.size; rw [hml]; exact hl.1.symm) hown (hts _ hw.1) (hts _ hw.2.1) (hts _ hw.2.2.1) (hts _ hw.2.2.2) hroom.1 (by rw [xcats]; have h40 : 40 ≤ nlo := hroom.2; show _ + 13 ≤ nlo; omega) (by show cells ≤ mc; have hc : cells + bc ≤ mc := hc; omega) (by show slots ≤ ms; have hs : slots + bs ≤ ms := hs; omega) hd ?_
  exact k ok r hr H locs lsA cells slots hR hS hl hc hs
