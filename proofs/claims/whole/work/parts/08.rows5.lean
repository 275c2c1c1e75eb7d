/-! rows as the generator uses them (written by wip/whole/gen/gen_rows5.py) -/
def FU : Nat := 5000
/-- a value gets a name -/
def bnd {β α : Type} (e : β) (F : β → Option α) : Option α := F e
theorem bnd_eq {β α : Type} (e : β) (F : β → Option α) : bnd e F = F e := rfl
theorem s_none {α : Type} {X : XX} {I : MI} {ρ : α → Option TV × XM} {pc : Nat} {ls : List (Nat × TV)} {st : List TV} {h : XM} {bc bs : Nat} : SW X I ρ pc ls st h bc bs (none : Option α) := by
  obtain ⟨G, p, l, e, s, m, args, below, meth, c⟩ := X
  intro ok r hr
  cases hr
theorem s_bnd {α : Type} {X : XX} {I : MI} {ρ : α → Option TV × XM} {pc : Nat} {ls : List (Nat × TV)} {st : List TV} {h : XM} {bc bs : Nat} {F : Int32 → Option α} {e : Int32} (k : ∀ v, SW X I ρ pc ls (tI v :: st) h bc bs (F v)) : SW X I ρ pc ls (tI e :: st) h bc bs (bnd e F) := k e
theorem s_bndL {α : Type} {X : XX} {I : MI} {ρ : α → Option TV × XM} {pc : Nat} {ls : List (Nat × TV)} {st : List TV} {h : XM} {bc bs : Nat} {F : Int64 → Option α} {e : Int64} (k : ∀ v, SW X I ρ pc ls (tL v :: st) h bc bs (F v)) : SW X I ρ pc ls (tL e :: st) h bc bs (bnd e F) := k e
theorem s_bnd2 {α : Type} {X : XX} {I : MI} {ρ : α → Option TV × XM} {pc : Nat} {ls : List (Nat × TV)} {st : List TV} {h : XM} {bc bs : Nat} {F : Int32 → Option α} {e : Int32} {u : TV} (k : ∀ v, SW X I ρ pc ls (u :: tI v :: st) h bc bs (F v)) : SW X I ρ pc ls (u :: tI e :: st) h bc bs (bnd e F) := k e
theorem s_inc {α : Type} {X : XX} {I : MI} {ρ : α → Option TV × XM} {pc npc i : Nat} {ls : List (Nat × TV)} {st : List TV} {h : XM} {bc bs : Nat} {F : Int32 → Option α} {j : Nat} {n : Int} {x c9 : Int32} (hi : (mtab I)[i]? = some (pc, .iinc j n, 3, npc)) (q : Nat) (hq : ls[q]? = some (j, tI x)) (hv : Int32.ofInt n = c9) (hj : j < I.2.1) (k : ∀ v, SW X I ρ npc (lset j (tI v) ls) st h bc bs (F v)) : SW X I ρ pc ls st h bc bs (bnd (x + c9) F) := by
  subst hv
  exact s_iinc hi q hq rfl hj rfl (k _)
theorem s_ls {α : Type} {X : XX} {I : MI} {ρ : α → Option TV × XM} {pc : Nat} {ls ls2 : List (Nat × TV)} {st : List TV} {h : XM} {bc bs : Nat} {o : Option α} (hls : ls = ls2) (k : SW X I ρ pc ls2 st h bc bs o) : SW X I ρ pc ls st h bc bs o := by
  rw [hls]
  exact k
theorem s_bud {α : Type} {X : XX} {I : MI} {ρ : α → Option TV × XM} {pc : Nat} {ls : List (Nat × TV)} {st : List TV} {h : XM} {bc bs : Nat} {o : Option α} (bc1 bs1 : Nat) (h1 : bc1 ≤ bc) (h2 : bs1 ≤ bs) (k : SW X I ρ pc ls st h bc1 bs1 o) : SW X I ρ pc ls st h bc bs o := by
  obtain ⟨G, p, l, e, s, m, args, below, meth, c⟩ := X
  intro ok r hr H locs lsA cells slots hR hS hl hc hs
  exact k ok r hr H locs lsA cells slots hR hS hl (by omega) (by omega)
theorem MC_none {α : Type} {J : MI} {y : MethodName} {av : List TV} {h : XM} {ρ : α → Option TV × XM} : MC J y av h ρ (none : Option α) := fun G l r hr => by cases hr
theorem xRm.of {J I : MI} (h : (Nat.ble (J.2.2.2.2.2.2.2.2.1 + 1) I.2.2.2.2.2.2.2.2.1 && Nat.ble (8 + (J.2.1 + 11) + J.2.2.2.2.2.2.2.2.2) I.2.2.2.2.2.2.2.2.2) = true) : xRm J I := by
  rw [Bool.and_eq_true] at h
  exact ⟨Nat.le_of_ble_eq_true h.1, Nat.le_of_ble_eq_true h.2⟩
theorem xRm.in {J I : MI} (a : J.2.2.2.2.2.2.2.2.1 + 1 ≤ I.2.2.2.2.2.2.2.2.1) (b : 8 + (J.2.1 + 11) + J.2.2.2.2.2.2.2.2.2 ≤ I.2.2.2.2.2.2.2.2.2) : xRm J I := ⟨a, b⟩
theorem swT_out {dflt lo hi9 : Int} {offs : Array Int} {x : Int32} (h : ∀ k : Int, lo ≤ k → k ≤ hi9 → (offs[(k - lo).toNat]?).getD dflt = dflt ∨ ¬ x = Int32.ofInt k) : swT dflt lo hi9 offs x = dflt := by
  unfold swT
  by_cases hz : x.toInt < lo ∨ hi9 < x.toInt
  · rw [if_pos hz]
  · rw [if_neg hz]
    rcases h x.toInt (by omega) (by omega) with q | q
    · exact q
    · exact absurd (Int32.ofInt_toInt x).symm q
theorem t_callVi {α : Type} {X : XX} {I : MI} {ρ : α → Option TV × XM} {pc npc i : Nat} {ls : List (Nat × TV)} {stk : List TV} {h : XM} {bc bs : Nat} {F : Int32 × XM → Option α} {oc : Option (Int32 × XM)} {J : MI} {idx kk n : Nat} {y : MethodName} (As : List TV) (r9 : Option Nat) (st : List TV) (hstk : As.reverse ++ tA r9 :: st = stk) (hi : (mtab I)[i]? = some (pc, .invokevirtual idx, 3, npc)) (hM : MC J y (tA r9 :: As) h ρi oc) (hw : xCM y J kk n) (hlk : Cond.methodLink I.2.2.2.1 idx y ∈ XT) (hnA : As.length = n) (hst : (st.map tcat).sum ≤ 8) (hroom : xRm J I) (k : ∀ q, SW X I ρ npc ls (tI q.1 :: st) (q.2) bc bs (F q)) : SW X I ρ pc ls stk h (mmc J + bc) (mms J + bs) ((vc h kk r9 oc).bind F) := by
  subst hstk
  exact s_callVi As hi hM hw hlk hnA hst hroom k
theorem u_callVi {α : Type} {X : XX} {I : MI} {ρ : α → Option TV × XM} {pc npc i : Nat} {ls : List (Nat × TV)} {stk : List TV} {h : XM} {bc bs : Nat} {F : Int32 × XM → Option α} {oc : Option (Int32 × XM)} {J : MI} {idx kk n : Nat} {y : MethodName} (As : List TV) (r9 : Option Nat) (st : List TV) (hstk : As.reverse ++ tA r9 :: st = stk) (hi : (mtab I)[i]? = some (pc, .invokevirtual idx, 3, npc)) (hM : MC J y (tA r9 :: As) h ρi oc) (hw : xCM y J kk n) (hlk : Cond.methodLink I.2.2.2.1 idx y ∈ XT) (hnA : As.length = n) (hst : (st.map tcat).sum ≤ 8) (hroom : xRm J I) (hz : mmc J = 0 ∧ mms J = 0) (k : ∀ q, SW X I ρ npc ls (tI q.1 :: st) (q.2) bc bs (F q)) : SW X I ρ pc ls stk h bc bs ((vc h kk r9 oc).bind F) := by
  have K := t_callVi (kk := kk) As r9 st hstk hi hM hw hlk hnA hst hroom k
  rw [hz.1, hz.2, Nat.zero_add, Nat.zero_add] at K
  exact K
theorem t_callVv {α : Type} {X : XX} {I : MI} {ρ : α → Option TV × XM} {pc npc i : Nat} {ls : List (Nat × TV)} {stk : List TV} {h : XM} {bc bs : Nat} {F : XM → Option α} {oc : Option (XM)} {J : MI} {idx kk n : Nat} {y : MethodName} (As : List TV) (r9 : Option Nat) (st : List TV) (hstk : As.reverse ++ tA r9 :: st = stk) (hi : (mtab I)[i]? = some (pc, .invokevirtual idx, 3, npc)) (hM : MC J y (tA r9 :: As) h ρv oc) (hw : xCM y J kk n) (hlk : Cond.methodLink I.2.2.2.1 idx y ∈ XT) (hnA : As.length = n) (hst : (st.map tcat).sum ≤ 8) (hroom : xRm J I) (k : ∀ q, SW X I ρ npc ls (st) (q) bc bs (F q)) : SW X I ρ pc ls stk h (mmc J + bc) (mms J + bs) ((vc h kk r9 oc).bind F) := by
  subst hstk
  exact s_callVv As hi hM hw hlk hnA hst hroom k
theorem u_callVv {α : Type} {X : XX} {I : MI} {ρ : α → Option TV × XM} {pc npc i : Nat} {ls : List (Nat × TV)} {stk : List TV} {h : XM} {bc bs : Nat} {F : XM → Option α} {oc : Option (XM)} {J : MI} {idx kk n : Nat} {y : MethodName} (As : List TV) (r9 : Option Nat) (st : List TV) (hstk : As.reverse ++ tA r9 :: st = stk) (hi : (mtab I)[i]? = some (pc, .invokevirtual idx, 3, npc)) (hM : MC J y (tA r9 :: As) h ρv oc) (hw : xCM y J kk n) (hlk : Cond.methodLink I.2.2.2.1 idx y ∈ XT) (hnA : As.length = n) (hst : (st.map tcat).sum ≤ 8) (hroom : xRm J I) (hz : mmc J = 0 ∧ mms J = 0) (k : ∀ q, SW X I ρ npc ls (st) (q) bc bs (F q)) : SW X I ρ pc ls stk h bc bs ((vc h kk r9 oc).bind F) := by
  have K := t_callVv (kk := kk) As r9 st hstk hi hM hw hlk hnA hst hroom k
  rw [hz.1, hz.2, Nat.zero_add, Nat.zero_add] at K
  exact K
theorem t_callVa {α : Type} {X : XX} {I : MI} {ρ : α → Option TV × XM} {pc npc i : Nat} {ls : List (Nat × TV)} {stk : List TV} {h : XM} {bc bs : Nat} {F : Option Nat × XM → Option α} {oc : Option (Option Nat × XM)} {J : MI} {idx kk n : Nat} {y : MethodName} (As : List TV) (r9 : Option Nat) (st : List TV) (hstk : As.reverse ++ tA r9 :: st = stk) (hi : (mtab I)[i]? = some (pc, .invokevirtual idx, 3, npc)) (hM : MC J y (tA r9 :: As) h ρa oc) (hw : xCM y J kk n) (hlk : Cond.methodLink I.2.2.2.1 idx y ∈ XT) (hnA : As.length = n) (hst : (st.map tcat).sum ≤ 8) (hroom : xRm J I) (k : ∀ q, SW X I ρ npc ls (tA q.1 :: st) (q.2) bc bs (F q)) : SW X I ρ pc ls stk h (mmc J + bc) (mms J + bs) ((vc h kk r9 oc).bind F) := by
  subst hstk
  exact s_callVa As hi hM hw hlk hnA hst hroom k
theorem u_callVa {α : Type} {X : XX} {I : MI} {ρ : α → Option TV × XM} {pc npc i : Nat} {ls : List (Nat × TV)} {stk : List TV} {h : XM} {bc bs : Nat} {F : Option Nat × XM → Option α} {oc : Option (Option Nat × XM)} {J : MI} {idx kk n : Nat} {y : MethodName} (As : List TV) (r9 : Option Nat) (st : List TV) (hstk : As.reverse ++ tA r9 :: st = stk) (hi : (mtab I)[i]? = some (pc, .invokevirtual idx, 3, npc)) (hM : MC J y (tA r9 :: As) h ρa oc) (hw : xCM y J kk n) (hlk : Cond.methodLink I.2.2.2.1 idx y ∈ XT) (hnA : As.length = n) (hst : (st.map tcat).sum ≤ 8) (hroom : xRm J I) (hz : mmc J = 0 ∧ mms J = 0) (k : ∀ q, SW X I ρ npc ls (tA q.1 :: st) (q.2) bc bs (F q)) : SW X I ρ pc ls stk h bc bs ((vc h kk r9 oc).bind F) := by
  have K := t_callVa (kk := kk) As r9 st hstk hi hM hw hlk hnA hst hroom k
  rw [hz.1, hz.2, Nat.zero_add, Nat.zero_add] at K
  exact K
theorem t_callVl {α : Type} {X : XX} {I : MI} {ρ : α → Option TV × XM} {pc npc i : Nat} {ls : List (Nat × TV)} {stk : List TV} {h : XM} {bc bs : Nat} {F : Int64 × XM → Option α} {oc : Option (Int64 × XM)} {J : MI} {idx kk n : Nat} {y : MethodName} (As : List TV) (r9 : Option Nat) (st : List TV) (hstk : As.reverse ++ tA r9 :: st = stk) (hi : (mtab I)[i]? = some (pc, .invokevirtual idx, 3, npc)) (hM : MC J y (tA r9 :: As) h ρl oc) (hw : xCM y J kk n) (hlk : Cond.methodLink I.2.2.2.1 idx y ∈ XT) (hnA : As.length = n) (hst : (st.map tcat).sum ≤ 8) (hroom : xRm J I) (k : ∀ q, SW X I ρ npc ls (tL q.1 :: st) (q.2) bc bs (F q)) : SW X I ρ pc ls stk h (mmc J + bc) (mms J + bs) ((vc h kk r9 oc).bind F) := by
  subst hstk
  exact s_callVl As hi hM hw hlk hnA hst hroom k
theorem u_callVl {α : Type} {X : XX} {I : MI} {ρ : α → Option TV × XM} {pc npc i : Nat} {ls : List (Nat × TV)} {stk : List TV} {h : XM} {bc bs : Nat} {F : Int64 × XM → Option α} {oc : Option (Int64 × XM)} {J : MI} {idx kk n : Nat} {y : MethodName} (As : List TV) (r9 : Option Nat) (st : List TV) (hstk : As.reverse ++ tA r9 :: st = stk) (hi : (mtab I)[i]? = some (pc, .invokevirtual idx, 3, npc)) (hM : MC J y (tA r9 :: As) h ρl oc) (hw : xCM y J kk n) (hlk : Cond.methodLink I.2.2.2.1 idx y ∈ XT) (hnA : As.length = n) (hst : (st.map tcat).sum ≤ 8) (hroom : xRm J I) (hz : mmc J = 0 ∧ mms J = 0) (k : ∀ q, SW X I ρ npc ls (tL q.1 :: st) (q.2) bc bs (F q)) : SW X I ρ pc ls stk h bc bs ((vc h kk r9 oc).bind F) := by
  have K := t_callVl (kk := kk) As r9 st hstk hi hM hw hlk hnA hst hroom k
  rw [hz.1, hz.2, Nat.zero_add, Nat.zero_add] at K
  exact K
theorem t_callVk {α : Type} {X : XX} {I : MI} {ρ : α → Option TV × XM} {pc npc i : Nat} {ls : List (Nat × TV)} {stk : List TV} {h : XM} {bc bs : Nat} {F : Nat × XM → Option α} {oc : Option (Nat × XM)} {J : MI} {idx kk n : Nat} {y : MethodName} (As : List TV) (r9 : Option Nat) (st : List TV) (hstk : As.reverse ++ tA r9 :: st = stk) (hi : (mtab I)[i]? = some (pc, .invokevirtual idx, 3, npc)) (hM : MC J y (tA r9 :: As) h ρk oc) (hw : xCM y J kk n) (hlk : Cond.methodLink I.2.2.2.1 idx y ∈ XT) (hnA : As.length = n) (hst : (st.map tcat).sum ≤ 8) (hroom : xRm J I) (k : ∀ q, SW X I ρ npc ls (tK q.1 :: st) (q.2) bc bs (F q)) : SW X I ρ pc ls stk h (mmc J + bc) (mms J + bs) ((vc h kk r9 oc).bind F) := by
  subst hstk
  exact s_callVk As hi hM hw hlk hnA hst hroom k
theorem u_callVk {α : Type} {X : XX} {I : MI} {ρ : α → Option TV × XM} {pc npc i : Nat} {ls : List (Nat × TV)} {stk : List TV} {h : XM} {bc bs : Nat} {F : Nat × XM → Option α} {oc : Option (Nat × XM)} {J : MI} {idx kk n : Nat} {y : MethodName} (As : List TV) (r9 : Option Nat) (st : List TV) (hstk : As.reverse ++ tA r9 :: st = stk) (hi : (mtab I)[i]? = some (pc, .invokevirtual idx, 3, npc)) (hM : MC J y (tA r9 :: As) h ρk oc) (hw : xCM y J kk n) (hlk : Cond.methodLink I.2.2.2.1 idx y ∈ XT) (hnA : As.length = n) (hst : (st.map tcat).sum ≤ 8) (hroom : xRm J I) (hz : mmc J = 0 ∧ mms J = 0) (k : ∀ q, SW X I ρ npc ls (tK q.1 :: st) (q.2) bc bs (F q)) : SW X I ρ pc ls stk h bc bs ((vc h kk r9 oc).bind F) := by
  have K := t_callVk (kk := kk) As r9 st hstk hi hM hw hlk hnA hst hroom k
  rw [hz.1, hz.2, Nat.zero_add, Nat.zero_add] at K
  exact K
theorem t_callKi {α : Type} {X : XX} {I : MI} {ρ : α → Option TV × XM} {pc npc i : Nat} {ls : List (Nat × TV)} {stk : List TV} {h : XM} {bc bs : Nat} {F : Int32 × XM → Option α} {oc : Option (Int32 × XM)} {J : MI} {idx n : Nat} {y : MethodName} (As : List TV) (n9 : Nat) (st : List TV) (hstk : As.reverse ++ tK n9 :: st = stk) (hi : (mtab I)[i]? = some (pc, .invokevirtual idx, 3, npc)) (hM : MC J y (tK n9 :: As) h ρi oc) (hw : xCK y J n) (hlk : Cond.methodLink I.2.2.2.1 idx y ∈ XT) (hnA : As.length = n) (hst : (st.map tcat).sum ≤ 8) (hroom : xRm J I) (k : ∀ q, SW X I ρ npc ls (tI q.1 :: st) (q.2) bc bs (F q)) : SW X I ρ pc ls stk h (mmc J + bc) (mms J + bs) ((vk n9 oc).bind F) := by
  subst hstk
  exact s_callKi As hi hM hw hlk hnA hst hroom k
theorem u_callKi {α : Type} {X : XX} {I : MI} {ρ : α → Option TV × XM} {pc npc i : Nat} {ls : List (Nat × TV)} {stk : List TV} {h : XM} {bc bs : Nat} {F : Int32 × XM → Option α} {oc : Option (Int32 × XM)} {J : MI} {idx n : Nat} {y : MethodName} (As : List TV) (n9 : Nat) (st : List TV) (hstk : As.reverse ++ tK n9 :: st = stk) (hi : (mtab I)[i]? = some (pc, .invokevirtual idx, 3, npc)) (hM : MC J y (tK n9 :: As) h ρi oc) (hw : xCK y J n) (hlk : Cond.methodLink I.2.2.2.1 idx y ∈ XT) (hnA : As.length = n) (hst : (st.map tcat).sum ≤ 8) (hroom : xRm J I) (hz : mmc J = 0 ∧ mms J = 0) (k : ∀ q, SW X I ρ npc ls (tI q.1 :: st) (q.2) bc bs (F q)) : SW X I ρ pc ls stk h bc bs ((vk n9 oc).bind F) := by
  have K := t_callKi As n9 st hstk hi hM hw hlk hnA hst hroom k
  rw [hz.1, hz.2, Nat.zero_add, Nat.zero_add] at K
  exact K
theorem t_callKv {α : Type} {X : XX} {I : MI} {ρ : α → Option TV × XM} {pc npc i : Nat} {ls : List (Nat × TV)} {stk : List TV} {h : XM} {bc bs : Nat} {F : XM → Option α} {oc : Option (XM)} {J : MI} {idx n : Nat} {y : MethodName} (As : List TV) (n9 : Nat) (st : List TV) (hstk : As.reverse ++ tK n9 :: st = stk) (hi : (mtab I)[i]? = some (pc, .invokevirtual idx, 3, npc)) (hM : MC J y (tK n9 :: As) h ρv oc) (hw : xCK y J n) (hlk : Cond.methodLink I.2.2.2.1 idx y ∈ XT) (hnA : As.length = n) (hst : (st.map tcat).sum ≤ 8) (hroom : xRm J I) (k : ∀ q, SW X I ρ npc ls (st) (q) bc bs (F q)) : SW X I ρ pc ls stk h (mmc J + bc) (mms J + bs) ((vk n9 oc).bind F) := by
  subst hstk
  exact s_callKv As hi hM hw hlk hnA hst hroom k
theorem u_callKv {α : Type} {X : XX} {I : MI} {ρ : α → Option TV × XM} {pc npc i : Nat} {ls : List (Nat × TV)} {stk : List TV} {h : XM} {bc bs : Nat} {F : XM → Option α} {oc : Option (XM)} {J : MI} {idx n : Nat} {y : MethodName} (As : List TV) (n9 : Nat) (st : List TV) (hstk : As.reverse ++ tK n9 :: st = stk) (hi : (mtab I)[i]? = some (pc, .invokevirtual idx, 3, npc)) (hM : MC J y (tK n9 :: As) h ρv oc) (hw : xCK y J n) (hlk : Cond.methodLink I.2.2.2.1 idx y ∈ XT) (hnA : As.length = n) (hst : (st.map tcat).sum ≤ 8) (hroom : xRm J I) (hz : mmc J = 0 ∧ mms J = 0) (k : ∀ q, SW X I ρ npc ls (st) (q) bc bs (F q)) : SW X I ρ pc ls stk h bc bs ((vk n9 oc).bind F) := by
  have K := t_callKv As n9 st hstk hi hM hw hlk hnA hst hroom k
  rw [hz.1, hz.2, Nat.zero_add, Nat.zero_add] at K
  exact K
theorem t_callKa {α : Type} {X : XX} {I : MI} {ρ : α → Option TV × XM} {pc npc i : Nat} {ls : List (Nat × TV)} {stk : List TV} {h : XM} {bc bs : Nat} {F : Option Nat × XM → Option α} {oc : Option (Option Nat × XM)} {J : MI} {idx n : Nat} {y : MethodName} (As : List TV) (n9 : Nat) (st : List TV) (hstk : As.reverse ++ tK n9 :: st = stk) (hi : (mtab I)[i]? = some (pc, .invokevirtual idx, 3, npc)) (hM : MC J y (tK n9 :: As) h ρa oc) (hw : xCK y J n) (hlk : Cond.methodLink I.2.2.2.1 idx y ∈ XT) (hnA : As.length = n) (hst : (st.map tcat).sum ≤ 8) (hroom : xRm J I) (k : ∀ q, SW X I ρ npc ls (tA q.1 :: st) (q.2) bc bs (F q)) : SW X I ρ pc ls stk h (mmc J + bc) (mms J + bs) ((vk n9 oc).bind F) := by
  subst hstk
  exact s_callKa As hi hM hw hlk hnA hst hroom k
theorem u_callKa {α : Type} {X : XX} {I : MI} {ρ : α → Option TV × XM} {pc npc i : Nat} {ls : List (Nat × TV)} {stk : List TV} {h : XM} {bc bs : Nat} {F : Option Nat × XM → Option α} {oc : Option (Option Nat × XM)} {J : MI} {idx n : Nat} {y : MethodName} (As : List TV) (n9 : Nat) (st : List TV) (hstk : As.reverse ++ tK n9 :: st = stk) (hi : (mtab I)[i]? = some (pc, .invokevirtual idx, 3, npc)) (hM : MC J y (tK n9 :: As) h ρa oc) (hw : xCK y J n) (hlk : Cond.methodLink I.2.2.2.1 idx y ∈ XT) (hnA : As.length = n) (hst : (st.map tcat).sum ≤ 8) (hroom : xRm J I) (hz : mmc J = 0 ∧ mms J = 0) (k : ∀ q, SW X I ρ npc ls (tA q.1 :: st) (q.2) bc bs (F q)) : SW X I ρ pc ls stk h bc bs ((vk n9 oc).bind F) := by
  have K := t_callKa As n9 st hstk hi hM hw hlk hnA hst hroom k
  rw [hz.1, hz.2, Nat.zero_add, Nat.zero_add] at K
  exact K
theorem t_callKl {α : Type} {X : XX} {I : MI} {ρ : α → Option TV × XM} {pc npc i : Nat} {ls : List (Nat × TV)} {stk : List TV} {h : XM} {bc bs : Nat} {F : Int64 × XM → Option α} {oc : Option (Int64 × XM)} {J : MI} {idx n : Nat} {y : MethodName} (As : List TV) (n9 : Nat) (st : List TV) (hstk : As.reverse ++ tK n9 :: st = stk) (hi : (mtab I)[i]? = some (pc, .invokevirtual idx, 3, npc)) (hM : MC J y (tK n9 :: As) h ρl oc) (hw : xCK y J n) (hlk : Cond.methodLink I.2.2.2.1 idx y ∈ XT) (hnA : As.length = n) (hst : (st.map tcat).sum ≤ 8) (hroom : xRm J I) (k : ∀ q, SW X I ρ npc ls (tL q.1 :: st) (q.2) bc bs (F q)) : SW X I ρ pc ls stk h (mmc J + bc) (mms J + bs) ((vk n9 oc).bind F) := by
  subst hstk
  exact s_callKl As hi hM hw hlk hnA hst hroom k
theorem u_callKl {α : Type} {X : XX} {I : MI} {ρ : α → Option TV × XM} {pc npc i : Nat} {ls : List (Nat × TV)} {stk : List TV} {h : XM} {bc bs : Nat} {F : Int64 × XM → Option α} {oc : Option (Int64 × XM)} {J : MI} {idx n : Nat} {y : MethodName} (As : List TV) (n9 : Nat) (st : List TV) (hstk : As.reverse ++ tK n9 :: st = stk) (hi : (mtab I)[i]? = some (pc, .invokevirtual idx, 3, npc)) (hM : MC J y (tK n9 :: As) h ρl oc) (hw : xCK y J n) (hlk : Cond.methodLink I.2.2.2.1 idx y ∈ XT) (hnA : As.length = n) (hst : (st.map tcat).sum ≤ 8) (hroom : xRm J I) (hz : mmc J = 0 ∧ mms J = 0) (k : ∀ q, SW X I ρ npc ls (tL q.1 :: st) (q.2) bc bs (F q)) : SW X I ρ pc ls stk h bc bs ((vk n9 oc).bind F) := by
  have K := t_callKl As n9 st hstk hi hM hw hlk hnA hst hroom k
  rw [hz.1, hz.2, Nat.zero_add, Nat.zero_add] at K
  exact K
theorem t_callSi {α : Type} {X : XX} {I : MI} {ρ : α → Option TV × XM} {pc npc i : Nat} {ls : List (Nat × TV)} {stk : List TV} {h : XM} {bc bs : Nat} {F : Int32 × XM → Option α} {oc : Option (Int32 × XM)} {J : MI} {idx n : Nat} {y : MethodName} (As : List TV)  (st : List TV) (hstk : As.reverse ++ st = stk) (hi : (mtab I)[i]? = some (pc, .invokestatic idx, 3, npc)) (hM : MC J y (As) h ρi oc) (hw : xCS y J n) (hlk : Cond.methodLink I.2.2.2.1 idx y ∈ XT) (hnA : As.length = n) (hst : (st.map tcat).sum ≤ 8) (hroom : xRm J I) (k : ∀ q, SW X I ρ npc ls (tI q.1 :: st) (q.2) bc bs (F q)) : SW X I ρ pc ls stk h (mmc J + bc) (mms J + bs) ((oc).bind F) := by
  subst hstk
  exact s_callSi As hi hM hw hlk hnA hst hroom k
theorem u_callSi {α : Type} {X : XX} {I : MI} {ρ : α → Option TV × XM} {pc npc i : Nat} {ls : List (Nat × TV)} {stk : List TV} {h : XM} {bc bs : Nat} {F : Int32 × XM → Option α} {oc : Option (Int32 × XM)} {J : MI} {idx n : Nat} {y : MethodName} (As : List TV)  (st : List TV) (hstk : As.reverse ++ st = stk) (hi : (mtab I)[i]? = some (pc, .invokestatic idx, 3, npc)) (hM : MC J y (As) h ρi oc) (hw : xCS y J n) (hlk : Cond.methodLink I.2.2.2.1 idx y ∈ XT) (hnA : As.length = n) (hst : (st.map tcat).sum ≤ 8) (hroom : xRm J I) (hz : mmc J = 0 ∧ mms J = 0) (k : ∀ q, SW X I ρ npc ls (tI q.1 :: st) (q.2) bc bs (F q)) : SW X I ρ pc ls stk h bc bs ((oc).bind F) := by
  have K := t_callSi As st hstk hi hM hw hlk hnA hst hroom k
  rw [hz.1, hz.2, Nat.zero_add, Nat.zero_add] at K
  exact K
theorem t_callSv {α : Type} {X : XX} {I : MI} {ρ : α → Option TV × XM} {pc npc i : Nat} {ls : List (Nat × TV)} {stk : List TV} {h : XM} {bc bs : Nat} {F : XM → Option α} {oc : Option (XM)} {J : MI} {idx n : Nat} {y : MethodName} (As : List TV)  (st : List TV) (hstk : As.reverse ++ st = stk) (hi : (mtab I)[i]? = some (pc, .invokestatic idx, 3, npc)) (hM : MC J y (As) h ρv oc) (hw : xCS y J n) (hlk : Cond.methodLink I.2.2.2.1 idx y ∈ XT) (hnA : As.length = n) (hst : (st.map tcat).sum ≤ 8) (hroom : xRm J I) (k : ∀ q, SW X I ρ npc ls (st) (q) bc bs (F q)) : SW X I ρ pc ls stk h (mmc J + bc) (mms J + bs) ((oc).bind F) := by
  subst hstk
  exact s_callSv As hi hM hw hlk hnA hst hroom k
theorem u_callSv {α : Type} {X : XX} {I : MI} {ρ : α → Option TV × XM} {pc npc i : Nat} {ls : List (Nat × TV)} {stk : List TV} {h : XM} {bc bs : Nat} {F : XM → Option α} {oc : Option (XM)} {J : MI} {idx n : Nat} {y : MethodName} (As : List TV)  (st : List TV) (hstk : As.reverse ++ st = stk) (hi : (mtab I)[i]? = some (pc, .invokestatic idx, 3, npc)) (hM : MC J y (As) h ρv oc) (hw : xCS y J n) (hlk : Cond.methodLink I.2.2.2.1 idx y ∈ XT) (hnA : As.length = n) (hst : (st.map tcat).sum ≤ 8) (hroom : xRm J I) (hz : mmc J = 0 ∧ mms J = 0) (k : ∀ q, SW X I ρ npc ls (st) (q) bc bs (F q)) : SW X I ρ pc ls stk h bc bs ((oc).bind F) := by
  have K := t_callSv As st hstk hi hM hw hlk hnA hst hroom k
  rw [hz.1, hz.2, Nat.zero_add, Nat.zero_add] at K
  exact K
theorem t_callSa {α : Type} {X : XX} {I : MI} {ρ : α → Option TV × XM} {pc npc i : Nat} {ls : List (Nat × TV)} {stk : List TV} {h : XM} {bc bs : Nat} {F : Option Nat × XM → Option α} {oc : Option (Option Nat × XM)} {J : MI} {idx n : Nat} {y : MethodName} (As : List TV)  (st : List TV) (hstk : As.reverse ++ st = stk) (hi : (mtab I)[i]? = some (pc, .invokestatic idx, 3, npc)) (hM : MC J y (As) h ρa oc) (hw : xCS y J n) (hlk : Cond.methodLink I.2.2.2.1 idx y ∈ XT) (hnA : As.length = n) (hst : (st.map tcat).sum ≤ 8) (hroom : xRm J I) (k : ∀ q, SW X I ρ npc ls (tA q.1 :: st) (q.2) bc bs (F q)) : SW X I ρ pc ls stk h (mmc J + bc) (mms J + bs) ((oc).bind F) := by
  subst hstk
  exact s_callSa As hi hM hw hlk hnA hst hroom k
theorem u_callSa {α : Type} {X : XX} {I : MI} {ρ : α → Option TV × XM} {pc npc i : Nat} {ls : List (Nat × TV)} {stk : List TV} {h : XM} {bc bs : Nat} {F : Option Nat × XM → Option α} {oc : Option (Option Nat × XM)} {J : MI} {idx n : Nat} {y : MethodName} (As : List TV)  (st : List TV) (hstk : As.reverse ++ st = stk) (hi : (mtab I)[i]? = some (pc, .invokestatic idx, 3, npc)) (hM : MC J y (As) h ρa oc) (hw : xCS y J n) (hlk : Cond.methodLink I.2.2.2.1 idx y ∈ XT) (hnA : As.length = n) (hst : (st.map tcat).sum ≤ 8) (hroom : xRm J I) (hz : mmc J = 0 ∧ mms J = 0) (k : ∀ q, SW X I ρ npc ls (tA q.1 :: st) (q.2) bc bs (F q)) : SW X I ρ pc ls stk h bc bs ((oc).bind F) := by
  have K := t_callSa As st hstk hi hM hw hlk hnA hst hroom k
  rw [hz.1, hz.2, Nat.zero_add, Nat.zero_add] at K
  exact K
theorem t_callSl {α : Type} {X : XX} {I : MI} {ρ : α → Option TV × XM} {pc npc i : Nat} {ls : List (Nat × TV)} {stk : List TV} {h : XM} {bc bs : Nat} {F : Int64 × XM → Option α} {oc : Option (Int64 × XM)} {J : MI} {idx n : Nat} {y : MethodName} (As : List TV)  (st : List TV) (hstk : As.reverse ++ st = stk) (hi : (mtab I)[i]? = some (pc, .invokestatic idx, 3, npc)) (hM : MC J y (As) h ρl oc) (hw : xCS y J n) (hlk : Cond.methodLink I.2.2.2.1 idx y ∈ XT) (hnA : As.length = n) (hst : (st.map tcat).sum ≤ 8) (hroom : xRm J I) (k : ∀ q, SW X I ρ npc ls (tL q.1 :: st) (q.2) bc bs (F q)) : SW X I ρ pc ls stk h (mmc J + bc) (mms J + bs) ((oc).bind F) := by
  subst hstk
  exact s_callSl As hi hM hw hlk hnA hst hroom k
theorem u_callSl {α : Type} {X : XX} {I : MI} {ρ : α → Option TV × XM} {pc npc i : Nat} {ls : List (Nat × TV)} {stk : List TV} {h : XM} {bc bs : Nat} {F : Int64 × XM → Option α} {oc : Option (Int64 × XM)} {J : MI} {idx n : Nat} {y : MethodName} (As : List TV)  (st : List TV) (hstk : As.reverse ++ st = stk) (hi : (mtab I)[i]? = some (pc, .invokestatic idx, 3, npc)) (hM : MC J y (As) h ρl oc) (hw : xCS y J n) (hlk : Cond.methodLink I.2.2.2.1 idx y ∈ XT) (hnA : As.length = n) (hst : (st.map tcat).sum ≤ 8) (hroom : xRm J I) (hz : mmc J = 0 ∧ mms J = 0) (k : ∀ q, SW X I ρ npc ls (tL q.1 :: st) (q.2) bc bs (F q)) : SW X I ρ pc ls stk h bc bs ((oc).bind F) := by
  have K := t_callSl As st hstk hi hM hw hlk hnA hst hroom k
  rw [hz.1, hz.2, Nat.zero_add, Nat.zero_add] at K
  exact K
theorem t_callSk {α : Type} {X : XX} {I : MI} {ρ : α → Option TV × XM} {pc npc i : Nat} {ls : List (Nat × TV)} {stk : List TV} {h : XM} {bc bs : Nat} {F : Nat × XM → Option α} {oc : Option (Nat × XM)} {J : MI} {idx n : Nat} {y : MethodName} (As : List TV)  (st : List TV) (hstk : As.reverse ++ st = stk) (hi : (mtab I)[i]? = some (pc, .invokestatic idx, 3, npc)) (hM : MC J y (As) h ρk oc) (hw : xCS y J n) (hlk : Cond.methodLink I.2.2.2.1 idx y ∈ XT) (hnA : As.length = n) (hst : (st.map tcat).sum ≤ 8) (hroom : xRm J I) (k : ∀ q, SW X I ρ npc ls (tK q.1 :: st) (q.2) bc bs (F q)) : SW X I ρ pc ls stk h (mmc J + bc) (mms J + bs) ((oc).bind F) := by
  subst hstk
  exact s_callSk As hi hM hw hlk hnA hst hroom k
theorem u_callSk {α : Type} {X : XX} {I : MI} {ρ : α → Option TV × XM} {pc npc i : Nat} {ls : List (Nat × TV)} {stk : List TV} {h : XM} {bc bs : Nat} {F : Nat × XM → Option α} {oc : Option (Nat × XM)} {J : MI} {idx n : Nat} {y : MethodName} (As : List TV)  (st : List TV) (hstk : As.reverse ++ st = stk) (hi : (mtab I)[i]? = some (pc, .invokestatic idx, 3, npc)) (hM : MC J y (As) h ρk oc) (hw : xCS y J n) (hlk : Cond.methodLink I.2.2.2.1 idx y ∈ XT) (hnA : As.length = n) (hst : (st.map tcat).sum ≤ 8) (hroom : xRm J I) (hz : mmc J = 0 ∧ mms J = 0) (k : ∀ q, SW X I ρ npc ls (tK q.1 :: st) (q.2) bc bs (F q)) : SW X I ρ pc ls stk h bc bs ((oc).bind F) := by
  have K := t_callSk As st hstk hi hM hw hlk hnA hst hroom k
  rw [hz.1, hz.2, Nat.zero_add, Nat.zero_add] at K
  exact K
theorem t_callIv {α : Type} {X : XX} {I : MI} {ρ : α → Option TV × XM} {pc npc i : Nat} {ls : List (Nat × TV)} {stk : List TV} {h : XM} {bc bs : Nat} {F : XM → Option α} {oc : Option (XM)} {J : MI} {idx n : Nat} {y : MethodName} (As : List TV) (r9 : Option Nat) (st : List TV) (hstk : As.reverse ++ tA r9 :: st = stk) (hi : (mtab I)[i]? = some (pc, .invokespecial idx, 3, npc)) (hM : MC J y (tA r9 :: As) h ρv oc) (hw : xCI y J n) (hlk : Cond.methodLink I.2.2.2.1 idx y ∈ XT) (hnA : As.length = n) (hst : (st.map tcat).sum ≤ 8) (hroom : xRm J I) (k : ∀ q, SW X I ρ npc ls (st) (q) bc bs (F q)) : SW X I ρ pc ls stk h (mmc J + bc) (mms J + bs) ((r9.bind fun _ => oc).bind F) := by
  subst hstk
  exact s_callIv As hi hM hw hlk hnA hst hroom k
theorem u_callIv {α : Type} {X : XX} {I : MI} {ρ : α → Option TV × XM} {pc npc i : Nat} {ls : List (Nat × TV)} {stk : List TV} {h : XM} {bc bs : Nat} {F : XM → Option α} {oc : Option (XM)} {J : MI} {idx n : Nat} {y : MethodName} (As : List TV) (r9 : Option Nat) (st : List TV) (hstk : As.reverse ++ tA r9 :: st = stk) (hi : (mtab I)[i]? = some (pc, .invokespecial idx, 3, npc)) (hM : MC J y (tA r9 :: As) h ρv oc) (hw : xCI y J n) (hlk : Cond.methodLink I.2.2.2.1 idx y ∈ XT) (hnA : As.length = n) (hst : (st.map tcat).sum ≤ 8) (hroom : xRm J I) (hz : mmc J = 0 ∧ mms J = 0) (k : ∀ q, SW X I ρ npc ls (st) (q) bc bs (F q)) : SW X I ρ pc ls stk h bc bs ((r9.bind fun _ => oc).bind F) := by
  have K := t_callIv As r9 st hstk hi hM hw hlk hnA hst hroom k
  rw [hz.1, hz.2, Nat.zero_add, Nat.zero_add] at K
  exact K
theorem t_callNv {α : Type} {X : XX} {I : MI} {ρ : α → Option TV × XM} {pc npc i : Nat} {ls : List (Nat × TV)} {stk : List TV} {h : XM} {bc bs : Nat} {F : XM → Option α} {oc : Option (XM)} {J : MI} {idx n : Nat} {y : MethodName} (As : List TV) (r9 : Option Nat) (st : List TV) (hstk : As.reverse ++ tA r9 :: st = stk) (hi : (mtab I)[i]? = some (pc, .invokespecial idx, 3, npc)) (hM : MC J y (tA r9 :: As) h ρv oc) (hw : xCI y J n) (hlk : ∀ (G : XG) (s : State), GI G s s.heap → va_Nw (.methodLinkNest I.2.2.2.1 idx y xR8) s) (hnA : As.length = n) (hst : (st.map tcat).sum ≤ 8) (hroom : xRm J I) (k : ∀ q, SW X I ρ npc ls (st) (q) bc bs (F q)) : SW X I ρ pc ls stk h (mmc J + bc) (mms J + bs) ((r9.bind fun _ => oc).bind F) := by
  subst hstk
  exact s_callNv As hi hM hw hlk hnA hst hroom k
theorem u_callNv {α : Type} {X : XX} {I : MI} {ρ : α → Option TV × XM} {pc npc i : Nat} {ls : List (Nat × TV)} {stk : List TV} {h : XM} {bc bs : Nat} {F : XM → Option α} {oc : Option (XM)} {J : MI} {idx n : Nat} {y : MethodName} (As : List TV) (r9 : Option Nat) (st : List TV) (hstk : As.reverse ++ tA r9 :: st = stk) (hi : (mtab I)[i]? = some (pc, .invokespecial idx, 3, npc)) (hM : MC J y (tA r9 :: As) h ρv oc) (hw : xCI y J n) (hlk : ∀ (G : XG) (s : State), GI G s s.heap → va_Nw (.methodLinkNest I.2.2.2.1 idx y xR8) s) (hnA : As.length = n) (hst : (st.map tcat).sum ≤ 8) (hroom : xRm J I) (hz : mmc J = 0 ∧ mms J = 0) (k : ∀ q, SW X I ρ npc ls (st) (q) bc bs (F q)) : SW X I ρ pc ls stk h bc bs ((r9.bind fun _ => oc).bind F) := by
  have K := t_callNv As r9 st hstk hi hM hw hlk hnA hst hroom k
  rw [hz.1, hz.2, Nat.zero_add, Nat.zero_add] at K
  exact K
def rS (xn : Nat) (xs : Nat → Int32) (j : Int32) : Option Int32 := if ¬ (j < 0 ∨ xn ≤ j.toNatClampNeg) then some (xs j.toNatClampNeg) else none
theorem s_ialoadS {α : Type} {X : XX} {I : MI} {ρ : α → Option TV × XM} {pc npc i : Nat} {ls : List (Nat × TV)} {st : List TV} {h : XM} {bc bs : Nat} {F : Int32 → Option α} {j : Int32} {xn : Nat} {xs9 : Nat → Int32} (hX : xScr X xn xs9) (hi : (mtab I)[i]? = some (pc, .iaload, 1, npc)) (k : ∀ v, SW X I ρ npc ls (tI v :: st) h bc bs (F v)) : SW X I ρ pc ls (tI j :: tK 8 :: st) h bc bs ((rS xn xs9 j).bind F) := by
  obtain ⟨G, p, l, e, s, m, args, below, meth, c⟩ := X
  obtain ⟨cc, nL, ret, own, nm, tab, mc, ms, nfr, nlo⟩ := I
  intro ok r hr H locs lsA cells slots hR hS hl hc hs
  obtain ⟨hx, hb, hml, hret, hown, hts, hlocks, hnm, htab, hG, hB⟩ := id ok
  obtain ⟨hd, hn⟩ := htab _ (List.mem_of_getElem? hi)
  have hn : npc = pc + 1 := hn
  subst hn
  unfold rS at hr
  by_cases hz : ¬ (j < 0 ∨ xn ≤ j.toNatClampNeg)
  · rw [if_pos hz] at hr
    have K := k _ ok r hr H locs lsA cells slots hR hS hl hc hs
    obtain ⟨hX1, hX2, hX3⟩ := hX
    exact va_sld hx hb hX1 hX2 (Nat.not_le.mpr hX3) hS hz hd K
  · rw [if_neg hz] at hr
    cases hr
theorem s_alenS {α : Type} {X : XX} {I : MI} {ρ : α → Option TV × XM} {pc npc i : Nat} {ls : List (Nat × TV)} {st : List TV} {h : XM} {bc bs : Nat} {o : Option α} {xn : Nat} {xs9 : Nat → Int32} (hX : xScr X xn xs9) (hi : (mtab I)[i]? = some (pc, .arraylength, 1, npc)) (k : SW X I ρ npc ls (tI (nI xn) :: st) h bc bs o) : SW X I ρ pc ls (tK 8 :: st) h bc bs o := by
  obtain ⟨G, p, l, e, s, m, args, below, meth, c⟩ := X
  obtain ⟨cc, nL, ret, own, nm, tab, mc, ms, nfr, nlo⟩ := I
  intro ok r hr H locs lsA cells slots hR hS hl hc hs
  obtain ⟨hx, hb, hml, hret, hown, hts, hlocks, hnm, htab, hG, hB⟩ := id ok
  obtain ⟨hd, hn⟩ := htab _ (List.mem_of_getElem? hi)
  have hn : npc = pc + 1 := hn
  subst hn
  obtain ⟨hX1, hX2, hX3⟩ := hX
  exact va_slen hx hb hX1 hX2 (Nat.not_le.mpr hX3) hS hd (k ok r hr H locs lsA cells slots hR hS hl hc hs)
