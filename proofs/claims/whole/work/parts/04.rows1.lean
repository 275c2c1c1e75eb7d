/-! rows over SW: constants, locals, stack, arithmetic, branches (written by wip/whole/gen/gen_rows1.py) -/
theorem s_iconst {α : Type} {X : XX} {I : MI} {ρ : α → Option TV × XM} {pc npc i : Nat} {ls : List (Nat × TV)} {st : List TV} {h : XM} {bc bs : Nat} {o : Option α} {n : Int} {v : Int32} (hi : (mtab I)[i]? = some (pc, .iconst n, 1, npc)) (hv : Int32.ofInt n = v) (k : SW X I ρ npc ls (tI v :: st) h bc bs o) : SW X I ρ pc ls (st) h bc bs o := by
  obtain ⟨G, p, l, e, s, m, args, below, meth, c⟩ := X
  obtain ⟨cc, nL, ret, own, nm, tab, mc, ms, nfr, nlo⟩ := I
  intro ok r hr H locs lsA cells slots hR hS hl hc hs
  obtain ⟨hx, hb, hml, hret, hown, hts, hlocks, hnm, htab, hG, hB⟩ := id ok
  obtain ⟨hd, hn⟩ := htab _ (List.mem_of_getElem? hi)
  have hn : npc = pc + 1 := hn
  subst hn
  refine lv_iconst hx hb hd hv ?_
  exact k ok r hr H locs lsA cells slots hR hS hl hc hs
theorem s_bipush {α : Type} {X : XX} {I : MI} {ρ : α → Option TV × XM} {pc npc i : Nat} {ls : List (Nat × TV)} {st : List TV} {h : XM} {bc bs : Nat} {o : Option α} {n : Int} {v : Int32} (hi : (mtab I)[i]? = some (pc, .bipush n, 2, npc)) (hv : (Int8.ofInt n).toInt32 = v) (k : SW X I ρ npc ls (tI v :: st) h bc bs o) : SW X I ρ pc ls (st) h bc bs o := by
  obtain ⟨G, p, l, e, s, m, args, below, meth, c⟩ := X
  obtain ⟨cc, nL, ret, own, nm, tab, mc, ms, nfr, nlo⟩ := I
  intro ok r hr H locs lsA cells slots hR hS hl hc hs
  obtain ⟨hx, hb, hml, hret, hown, hts, hlocks, hnm, htab, hG, hB⟩ := id ok
  obtain ⟨hd, hn⟩ := htab _ (List.mem_of_getElem? hi)
  have hn : npc = pc + 2 := hn
  subst hn
  refine lv_bipush hx hb hd hv ?_
  exact k ok r hr H locs lsA cells slots hR hS hl hc hs
theorem s_sipush {α : Type} {X : XX} {I : MI} {ρ : α → Option TV × XM} {pc npc i : Nat} {ls : List (Nat × TV)} {st : List TV} {h : XM} {bc bs : Nat} {o : Option α} {n : Int} {v : Int32} (hi : (mtab I)[i]? = some (pc, .sipush n, 3, npc)) (hv : (Int16.ofInt n).toInt32 = v) (k : SW X I ρ npc ls (tI v :: st) h bc bs o) : SW X I ρ pc ls (st) h bc bs o := by
  obtain ⟨G, p, l, e, s, m, args, below, meth, c⟩ := X
  obtain ⟨cc, nL, ret, own, nm, tab, mc, ms, nfr, nlo⟩ := I
  intro ok r hr H locs lsA cells slots hR hS hl hc hs
  obtain ⟨hx, hb, hml, hret, hown, hts, hlocks, hnm, htab, hG, hB⟩ := id ok
  obtain ⟨hd, hn⟩ := htab _ (List.mem_of_getElem? hi)
  have hn : npc = pc + 3 := hn
  subst hn
  refine lv_sipush hx hb hd hv ?_
  exact k ok r hr H locs lsA cells slots hR hS hl hc hs
theorem s_lconst {α : Type} {X : XX} {I : MI} {ρ : α → Option TV × XM} {pc npc i : Nat} {ls : List (Nat × TV)} {st : List TV} {h : XM} {bc bs : Nat} {o : Option α} {n : Fin 2} {v : Int64} (hi : (mtab I)[i]? = some (pc, .lconst n, 1, npc)) (hv : Int64.ofNat (n : Nat) = v) (k : SW X I ρ npc ls (tL v :: st) h bc bs o) : SW X I ρ pc ls (st) h bc bs o := by
  obtain ⟨G, p, l, e, s, m, args, below, meth, c⟩ := X
  obtain ⟨cc, nL, ret, own, nm, tab, mc, ms, nfr, nlo⟩ := I
  intro ok r hr H locs lsA cells slots hR hS hl hc hs
  obtain ⟨hx, hb, hml, hret, hown, hts, hlocks, hnm, htab, hG, hB⟩ := id ok
  obtain ⟨hd, hn⟩ := htab _ (List.mem_of_getElem? hi)
  have hn : npc = pc + 1 := hn
  subst hn
  refine lv_lconst hx hb hd hv ?_
  exact k ok r hr H locs lsA cells slots hR hS hl hc hs
theorem s_null {α : Type} {X : XX} {I : MI} {ρ : α → Option TV × XM} {pc npc i : Nat} {ls : List (Nat × TV)} {st : List TV} {h : XM} {bc bs : Nat} {o : Option α}  (hi : (mtab I)[i]? = some (pc, .aconst_null, 1, npc))  (k : SW X I ρ npc ls (tA none :: st) h bc bs o) : SW X I ρ pc ls (st) h bc bs o := by
  obtain ⟨G, p, l, e, s, m, args, below, meth, c⟩ := X
  obtain ⟨cc, nL, ret, own, nm, tab, mc, ms, nfr, nlo⟩ := I
  intro ok r hr H locs lsA cells slots hR hS hl hc hs
  obtain ⟨hx, hb, hml, hret, hown, hts, hlocks, hnm, htab, hG, hB⟩ := id ok
  obtain ⟨hd, hn⟩ := htab _ (List.mem_of_getElem? hi)
  have hn : npc = pc + 1 := hn
  subst hn
  refine lv_null hx hb hd ?_
  exact k ok r hr H locs lsA cells slots hR hS hl hc hs
theorem s_ldc {α : Type} {X : XX} {I : MI} {ρ : α → Option TV × XM} {pc npc i : Nat} {ls : List (Nat × TV)} {st : List TV} {h : XM} {bc bs : Nat} {o : Option α} {n : Nat} {v : Int32} (hi : (mtab I)[i]? = some (pc, .ldc n, 2, npc)) (hw : Cond.constant I.2.2.2.1 n v ∈ XT) (k : SW X I ρ npc ls (tI v :: st) h bc bs o) : SW X I ρ pc ls (st) h bc bs o := by
  obtain ⟨G, p, l, e, s, m, args, below, meth, c⟩ := X
  obtain ⟨cc, nL, ret, own, nm, tab, mc, ms, nfr, nlo⟩ := I
  intro ok r hr H locs lsA cells slots hR hS hl hc hs
  obtain ⟨hx, hb, hml, hret, hown, hts, hlocks, hnm, htab, hG, hB⟩ := id ok
  obtain ⟨hd, hn⟩ := htab _ (List.mem_of_getElem? hi)
  have hn : npc = pc + 2 := hn
  subst hn
  refine lv_ldc hx hb hown (hts _ hw) hd ?_
  exact k ok r hr H locs lsA cells slots hR hS hl hc hs
theorem s_ldcw {α : Type} {X : XX} {I : MI} {ρ : α → Option TV × XM} {pc npc i : Nat} {ls : List (Nat × TV)} {st : List TV} {h : XM} {bc bs : Nat} {o : Option α} {n : Nat} {v : Int32} (hi : (mtab I)[i]? = some (pc, .ldc_w n, 3, npc)) (hw : Cond.constant I.2.2.2.1 n v ∈ XT) (k : SW X I ρ npc ls (tI v :: st) h bc bs o) : SW X I ρ pc ls (st) h bc bs o := by
  obtain ⟨G, p, l, e, s, m, args, below, meth, c⟩ := X
  obtain ⟨cc, nL, ret, own, nm, tab, mc, ms, nfr, nlo⟩ := I
  intro ok r hr H locs lsA cells slots hR hS hl hc hs
  obtain ⟨hx, hb, hml, hret, hown, hts, hlocks, hnm, htab, hG, hB⟩ := id ok
  obtain ⟨hd, hn⟩ := htab _ (List.mem_of_getElem? hi)
  have hn : npc = pc + 3 := hn
  subst hn
  refine lv_ldcw hx hb hown (hts _ hw) hd ?_
  exact k ok r hr H locs lsA cells slots hR hS hl hc hs
theorem s_ldc2 {α : Type} {X : XX} {I : MI} {ρ : α → Option TV × XM} {pc npc i : Nat} {ls : List (Nat × TV)} {st : List TV} {h : XM} {bc bs : Nat} {o : Option α} {n : Nat} {v : Int64} (hi : (mtab I)[i]? = some (pc, .ldc2_w n, 3, npc)) (hw : Cond.constantLong I.2.2.2.1 n v ∈ XT) (k : SW X I ρ npc ls (tL v :: st) h bc bs o) : SW X I ρ pc ls (st) h bc bs o := by
  obtain ⟨G, p, l, e, s, m, args, below, meth, c⟩ := X
  obtain ⟨cc, nL, ret, own, nm, tab, mc, ms, nfr, nlo⟩ := I
  intro ok r hr H locs lsA cells slots hR hS hl hc hs
  obtain ⟨hx, hb, hml, hret, hown, hts, hlocks, hnm, htab, hG, hB⟩ := id ok
  obtain ⟨hd, hn⟩ := htab _ (List.mem_of_getElem? hi)
  have hn : npc = pc + 3 := hn
  subst hn
  refine lv_ldc2 hx hb hown (hts _ hw) hd ?_
  exact k ok r hr H locs lsA cells slots hR hS hl hc hs
theorem lmap_at {G : XG} {ls : List (Nat × TV)} {k j : Nat} {v : TV} (h : ls[k]? = some (j, v)) : (lmap G ls)[k]? = some (j, xtv G v) := by
  unfold lmap
  rw [List.getElem?_map, h]
  rfl
def lset (j : Nat) (v : TV) (ls : List (Nat × TV)) : List (Nat × TV) := (j, v) :: ls.filter (fun q => !(q.1 == j) && !(q.1 + 1 == j && tcat q.2 == 2))
def lset2 (j : Nat) (v : TV) (ls : List (Nat × TV)) : List (Nat × TV) := (j, v) :: ls.filter (fun q => !(q.1 == j) && (!(q.1 == j + 1) && !(q.1 + 1 == j && tcat q.2 == 2)))
theorem lmap_set {G : XG} {j : Nat} {v : TV} (ls : List (Nat × TV)) : (j, xtv G v) :: (lmap G ls).filter (fun q => !(q.1 == j) && !(q.1 + 1 == j && q.2.category == 2)) = lmap G (lset j v ls) := by
  unfold lmap lset
  rw [List.map_cons, List.filter_map]
  congr 2
  apply List.filter_congr
  intro q _
  simp [xtv_cat]
theorem lmap_set2 {G : XG} {j : Nat} {v : TV} (ls : List (Nat × TV)) : (j, xtv G v) :: (lmap G ls).filter (fun q => !(q.1 == j) && (!(q.1 == j + 1) && !(q.1 + 1 == j && q.2.category == 2))) = lmap G (lset2 j v ls) := by
  unfold lmap lset2
  rw [List.map_cons, List.filter_map]
  congr 2
  apply List.filter_congr
  intro q _
  simp [xtv_cat]
def lpick (ls : List (Nat × TV)) (ks : List Nat) : List (Nat × TV) := ks.filterMap (fun k => ls[k]?)
theorem lmap_pick {G : XG} {ls ls2 : List (Nat × TV)} (ks : List Nat) (h : lpick ls ks = ls2) : lv_pick (lmap G ls) ks = lmap G ls2 := by
  subst h
  unfold lv_pick lpick lmap
  rw [List.map_filterMap]
  congr 1
  funext k
  rw [List.getElem?_map]
theorem s_iload_n {α : Type} {X : XX} {I : MI} {ρ : α → Option TV × XM} {pc npc i : Nat} {ls : List (Nat × TV)} {st : List TV} {h : XM} {bc bs : Nat} {o : Option α} {f : Fin 4} {x : Int32} (hi : (mtab I)[i]? = some (pc, .iload_n f, 1, npc)) (q : Nat) (hq : ls[q]? = some ((f : Nat), tI x)) (k : SW X I ρ npc ls (tI x :: st) h bc bs o) : SW X I ρ pc ls (st) h bc bs o := by
  obtain ⟨G, p, l, e, s, m, args, below, meth, c⟩ := X
  obtain ⟨cc, nL, ret, own, nm, tab, mc, ms, nfr, nlo⟩ := I
  intro ok r hr H locs lsA cells slots hR hS hl hc hs
  obtain ⟨hx, hb, hml, hret, hown, hts, hlocks, hnm, htab, hG, hB⟩ := id ok
  obtain ⟨hd, hn⟩ := htab _ (List.mem_of_getElem? hi)
  have hn : npc = pc + 1 := hn
  subst hn
  refine lv_iload_n hx hb hd rfl (lv_at hl q (lmap_at hq)) ?_
  exact k ok r hr H locs lsA cells slots hR hS hl hc hs
theorem s_iload {α : Type} {X : XX} {I : MI} {ρ : α → Option TV × XM} {pc npc i : Nat} {ls : List (Nat × TV)} {st : List TV} {h : XM} {bc bs : Nat} {o : Option α} {j : Nat} {x : Int32} (hi : (mtab I)[i]? = some (pc, .iload j, 2, npc)) (q : Nat) (hq : ls[q]? = some (j, tI x)) (k : SW X I ρ npc ls (tI x :: st) h bc bs o) : SW X I ρ pc ls (st) h bc bs o := by
  obtain ⟨G, p, l, e, s, m, args, below, meth, c⟩ := X
  obtain ⟨cc, nL, ret, own, nm, tab, mc, ms, nfr, nlo⟩ := I
  intro ok r hr H locs lsA cells slots hR hS hl hc hs
  obtain ⟨hx, hb, hml, hret, hown, hts, hlocks, hnm, htab, hG, hB⟩ := id ok
  obtain ⟨hd, hn⟩ := htab _ (List.mem_of_getElem? hi)
  have hn : npc = pc + 2 := hn
  subst hn
  refine lv_iload hx hb hd (lv_at hl q (lmap_at hq)) ?_
  exact k ok r hr H locs lsA cells slots hR hS hl hc hs
theorem s_lload_n {α : Type} {X : XX} {I : MI} {ρ : α → Option TV × XM} {pc npc i : Nat} {ls : List (Nat × TV)} {st : List TV} {h : XM} {bc bs : Nat} {o : Option α} {f : Fin 4} {x : Int64} (hi : (mtab I)[i]? = some (pc, .lload_n f, 1, npc)) (q : Nat) (hq : ls[q]? = some ((f : Nat), tL x)) (k : SW X I ρ npc ls (tL x :: st) h bc bs o) : SW X I ρ pc ls (st) h bc bs o := by
  obtain ⟨G, p, l, e, s, m, args, below, meth, c⟩ := X
  obtain ⟨cc, nL, ret, own, nm, tab, mc, ms, nfr, nlo⟩ := I
  intro ok r hr H locs lsA cells slots hR hS hl hc hs
  obtain ⟨hx, hb, hml, hret, hown, hts, hlocks, hnm, htab, hG, hB⟩ := id ok
  obtain ⟨hd, hn⟩ := htab _ (List.mem_of_getElem? hi)
  have hn : npc = pc + 1 := hn
  subst hn
  refine lv_lload_n hx hb hd rfl (lv_at hl q (lmap_at hq)) ?_
  exact k ok r hr H locs lsA cells slots hR hS hl hc hs
theorem s_lload {α : Type} {X : XX} {I : MI} {ρ : α → Option TV × XM} {pc npc i : Nat} {ls : List (Nat × TV)} {st : List TV} {h : XM} {bc bs : Nat} {o : Option α} {j : Nat} {x : Int64} (hi : (mtab I)[i]? = some (pc, .lload j, 2, npc)) (q : Nat) (hq : ls[q]? = some (j, tL x)) (k : SW X I ρ npc ls (tL x :: st) h bc bs o) : SW X I ρ pc ls (st) h bc bs o := by
  obtain ⟨G, p, l, e, s, m, args, below, meth, c⟩ := X
  obtain ⟨cc, nL, ret, own, nm, tab, mc, ms, nfr, nlo⟩ := I
  intro ok r hr H locs lsA cells slots hR hS hl hc hs
  obtain ⟨hx, hb, hml, hret, hown, hts, hlocks, hnm, htab, hG, hB⟩ := id ok
  obtain ⟨hd, hn⟩ := htab _ (List.mem_of_getElem? hi)
  have hn : npc = pc + 2 := hn
  subst hn
  refine lv_lload hx hb hd (lv_at hl q (lmap_at hq)) ?_
  exact k ok r hr H locs lsA cells slots hR hS hl hc hs
theorem s_aload_n {α : Type} {X : XX} {I : MI} {ρ : α → Option TV × XM} {pc npc i : Nat} {ls : List (Nat × TV)} {st : List TV} {h : XM} {bc bs : Nat} {o : Option α} {f : Fin 4} {x : Option Nat} (hi : (mtab I)[i]? = some (pc, .aload_n f, 1, npc)) (q : Nat) (hq : ls[q]? = some ((f : Nat), tA x)) (k : SW X I ρ npc ls (tA x :: st) h bc bs o) : SW X I ρ pc ls (st) h bc bs o := by
  obtain ⟨G, p, l, e, s, m, args, below, meth, c⟩ := X
  obtain ⟨cc, nL, ret, own, nm, tab, mc, ms, nfr, nlo⟩ := I
  intro ok r hr H locs lsA cells slots hR hS hl hc hs
  obtain ⟨hx, hb, hml, hret, hown, hts, hlocks, hnm, htab, hG, hB⟩ := id ok
  obtain ⟨hd, hn⟩ := htab _ (List.mem_of_getElem? hi)
  have hn : npc = pc + 1 := hn
  subst hn
  have hv := lv_at hl q (lmap_at hq)
  cases x with
  | none => exact lv_aload_nN hx hb hd rfl hv (k ok r hr H locs lsA cells slots hR hS hl hc hs)
  | some x => exact lv_aload_n hx hb hd rfl hv (k ok r hr H locs lsA cells slots hR hS hl hc hs)
theorem s_aload {α : Type} {X : XX} {I : MI} {ρ : α → Option TV × XM} {pc npc i : Nat} {ls : List (Nat × TV)} {st : List TV} {h : XM} {bc bs : Nat} {o : Option α} {j : Nat} {x : Option Nat} (hi : (mtab I)[i]? = some (pc, .aload j, 2, npc)) (q : Nat) (hq : ls[q]? = some (j, tA x)) (k : SW X I ρ npc ls (tA x :: st) h bc bs o) : SW X I ρ pc ls (st) h bc bs o := by
  obtain ⟨G, p, l, e, s, m, args, below, meth, c⟩ := X
  obtain ⟨cc, nL, ret, own, nm, tab, mc, ms, nfr, nlo⟩ := I
  intro ok r hr H locs lsA cells slots hR hS hl hc hs
  obtain ⟨hx, hb, hml, hret, hown, hts, hlocks, hnm, htab, hG, hB⟩ := id ok
  obtain ⟨hd, hn⟩ := htab _ (List.mem_of_getElem? hi)
  have hn : npc = pc + 2 := hn
  subst hn
  have hv := lv_at hl q (lmap_at hq)
  cases x with
  | none => exact lv_aloadN hx hb hd hv (k ok r hr H locs lsA cells slots hR hS hl hc hs)
  | some x => exact lv_aload hx hb hd hv (k ok r hr H locs lsA cells slots hR hS hl hc hs)
theorem xk_ref (G : XG) (n : Nat) : xk G n = .null ∨ ∃ a, xk G n = .ref a := by
  unfold xk
  split
  · exact Or.inr ⟨_, rfl⟩
  · split
    · exact Or.inr ⟨_, rfl⟩
    · split
      · exact Or.inr ⟨_, rfl⟩
      · split
        · exact Or.inr ⟨_, rfl⟩
        · cases gF G with
          | none => exact Or.inl rfl
          | some a => exact Or.inr ⟨a, rfl⟩
theorem s_aloadK_n {α : Type} {X : XX} {I : MI} {ρ : α → Option TV × XM} {pc npc i : Nat} {ls : List (Nat × TV)} {st : List TV} {h : XM} {bc bs : Nat} {o : Option α} {f : Fin 4} {x : Nat} (hi : (mtab I)[i]? = some (pc, .aload_n f, 1, npc)) (q : Nat) (hq : ls[q]? = some ((f : Nat), tK x)) (k : SW X I ρ npc ls (tK x :: st) h bc bs o) : SW X I ρ pc ls (st) h bc bs o := by
  obtain ⟨G, p, l, e, s, m, args, below, meth, c⟩ := X
  obtain ⟨cc, nL, ret, own, nm, tab, mc, ms, nfr, nlo⟩ := I
  intro ok r hr H locs lsA cells slots hR hS hl hc hs
  obtain ⟨hx, hb, hml, hret, hown, hts, hlocks, hnm, htab, hG, hB⟩ := id ok
  obtain ⟨hd, hn⟩ := htab _ (List.mem_of_getElem? hi)
  have hn : npc = pc + 1 := hn
  subst hn
  have hv := lv_at hl q (lmap_at hq)
  have K := k ok r hr H locs lsA cells slots hR hS hl hc hs
  have hv : lsA[(f : Nat)]? = some (.val (xk G x)) := hv
  have K : W p l e (mroom (cc, nL, ret, own, nm, tab, mc, ms, nfr, nlo)) s m args below meth c H locs cells slots (MQ below (xQ G (ρ r)) args s mc ms (fun q => gB G ≤ q)) (F0 m (pc + 1) lsA (xk G x :: st.map (xtv G))) := K
  rcases xk_ref G x with hz | ⟨a, hz⟩
  · rw [hz] at hv K
    exact lv_aload_nN hx hb hd rfl hv K
  · rw [hz] at hv K
    exact lv_aload_n hx hb hd rfl hv K
theorem s_istore_n {α : Type} {X : XX} {I : MI} {ρ : α → Option TV × XM} {pc npc i : Nat} {ls ls2 : List (Nat × TV)} {st : List TV} {h : XM} {bc bs : Nat} {o : Option α} {f : Fin 4} {x : Int32} (hi : (mtab I)[i]? = some (pc, .istore_n f, 1, npc)) (hj : (f : Nat) < I.2.1) (hls : lset f (tI x) ls = ls2) (k : SW X I ρ npc ls2 st h bc bs o) : SW X I ρ pc ls (tI x :: st) h bc bs o := by
  obtain ⟨G, p, l, e, s, m, args, below, meth, c⟩ := X
  obtain ⟨cc, nL, ret, own, nm, tab, mc, ms, nfr, nlo⟩ := I
  intro ok r hr H locs lsA cells slots hR hS hl hc hs
  obtain ⟨hx, hb, hml, hret, hown, hts, hlocks, hnm, htab, hG, hB⟩ := id ok
  obtain ⟨hd, hn⟩ := htab _ (List.mem_of_getElem? hi)
  have hn : npc = pc + 1 := hn
  subst hn
  subst hls
  exact lv_istore_n hx hb hd rfl hl hj (lmap_set (v := tI x) ls) (fun ls9 hl9 => k ok r hr H locs ls9 cells slots hR hS hl9 hc hs)
theorem s_istore {α : Type} {X : XX} {I : MI} {ρ : α → Option TV × XM} {pc npc i : Nat} {ls ls2 : List (Nat × TV)} {st : List TV} {h : XM} {bc bs : Nat} {o : Option α} {j : Nat} {x : Int32} (hi : (mtab I)[i]? = some (pc, .istore j, 2, npc)) (hj : j < I.2.1) (hls : lset j (tI x) ls = ls2) (k : SW X I ρ npc ls2 st h bc bs o) : SW X I ρ pc ls (tI x :: st) h bc bs o := by
  obtain ⟨G, p, l, e, s, m, args, below, meth, c⟩ := X
  obtain ⟨cc, nL, ret, own, nm, tab, mc, ms, nfr, nlo⟩ := I
  intro ok r hr H locs lsA cells slots hR hS hl hc hs
  obtain ⟨hx, hb, hml, hret, hown, hts, hlocks, hnm, htab, hG, hB⟩ := id ok
  obtain ⟨hd, hn⟩ := htab _ (List.mem_of_getElem? hi)
  have hn : npc = pc + 2 := hn
  subst hn
  subst hls
  exact lv_istore hx hb hd hl hj (lmap_set (v := tI x) ls) (fun ls9 hl9 => k ok r hr H locs ls9 cells slots hR hS hl9 hc hs)
theorem s_lstore_n {α : Type} {X : XX} {I : MI} {ρ : α → Option TV × XM} {pc npc i : Nat} {ls ls2 : List (Nat × TV)} {st : List TV} {h : XM} {bc bs : Nat} {o : Option α} {f : Fin 4} {x : Int64} (hi : (mtab I)[i]? = some (pc, .lstore_n f, 1, npc)) (hj : (f : Nat) + 1 < I.2.1) (hls : lset2 f (tL x) ls = ls2) (k : SW X I ρ npc ls2 st h bc bs o) : SW X I ρ pc ls (tL x :: st) h bc bs o := by
  obtain ⟨G, p, l, e, s, m, args, below, meth, c⟩ := X
  obtain ⟨cc, nL, ret, own, nm, tab, mc, ms, nfr, nlo⟩ := I
  intro ok r hr H locs lsA cells slots hR hS hl hc hs
  obtain ⟨hx, hb, hml, hret, hown, hts, hlocks, hnm, htab, hG, hB⟩ := id ok
  obtain ⟨hd, hn⟩ := htab _ (List.mem_of_getElem? hi)
  have hn : npc = pc + 1 := hn
  subst hn
  subst hls
  exact lv_lstore_n hx hb hd rfl hl hj (lmap_set2 (v := tL x) ls) (fun ls9 hl9 => k ok r hr H locs ls9 cells slots hR hS hl9 hc hs)
theorem s_lstore {α : Type} {X : XX} {I : MI} {ρ : α → Option TV × XM} {pc npc i : Nat} {ls ls2 : List (Nat × TV)} {st : List TV} {h : XM} {bc bs : Nat} {o : Option α} {j : Nat} {x : Int64} (hi : (mtab I)[i]? = some (pc, .lstore j, 2, npc)) (hj : j + 1 < I.2.1) (hls : lset2 j (tL x) ls = ls2) (k : SW X I ρ npc ls2 st h bc bs o) : SW X I ρ pc ls (tL x :: st) h bc bs o := by
  obtain ⟨G, p, l, e, s, m, args, below, meth, c⟩ := X
  obtain ⟨cc, nL, ret, own, nm, tab, mc, ms, nfr, nlo⟩ := I
  intro ok r hr H locs lsA cells slots hR hS hl hc hs
  obtain ⟨hx, hb, hml, hret, hown, hts, hlocks, hnm, htab, hG, hB⟩ := id ok
  obtain ⟨hd, hn⟩ := htab _ (List.mem_of_getElem? hi)
  have hn : npc = pc + 2 := hn
  subst hn
  subst hls
  exact lv_lstore hx hb hd hl hj (lmap_set2 (v := tL x) ls) (fun ls9 hl9 => k ok r hr H locs ls9 cells slots hR hS hl9 hc hs)
theorem s_astore_n {α : Type} {X : XX} {I : MI} {ρ : α → Option TV × XM} {pc npc i : Nat} {ls ls2 : List (Nat × TV)} {st : List TV} {h : XM} {bc bs : Nat} {o : Option α} {f : Fin 4} {x : Option Nat} (hi : (mtab I)[i]? = some (pc, .astore_n f, 1, npc)) (hj : (f : Nat) < I.2.1) (hls : lset f (tA x) ls = ls2) (k : SW X I ρ npc ls2 st h bc bs o) : SW X I ρ pc ls (tA x :: st) h bc bs o := by
  obtain ⟨G, p, l, e, s, m, args, below, meth, c⟩ := X
  obtain ⟨cc, nL, ret, own, nm, tab, mc, ms, nfr, nlo⟩ := I
  intro ok r hr H locs lsA cells slots hR hS hl hc hs
  obtain ⟨hx, hb, hml, hret, hown, hts, hlocks, hnm, htab, hG, hB⟩ := id ok
  obtain ⟨hd, hn⟩ := htab _ (List.mem_of_getElem? hi)
  have hn : npc = pc + 1 := hn
  subst hn
  subst hls
  cases x with
  | none => exact lv_astore_nN hx hb hd rfl hl hj (lmap_set (v := tA none) ls) (fun ls9 hl9 => k ok r hr H locs ls9 cells slots hR hS hl9 hc hs)
  | some x => exact lv_astore_n hx hb hd rfl hl hj (lmap_set (v := tA (some x)) ls) (fun ls9 hl9 => k ok r hr H locs ls9 cells slots hR hS hl9 hc hs)
theorem s_astore {α : Type} {X : XX} {I : MI} {ρ : α → Option TV × XM} {pc npc i : Nat} {ls ls2 : List (Nat × TV)} {st : List TV} {h : XM} {bc bs : Nat} {o : Option α} {j : Nat} {x : Option Nat} (hi : (mtab I)[i]? = some (pc, .astore j, 2, npc)) (hj : j < I.2.1) (hls : lset j (tA x) ls = ls2) (k : SW X I ρ npc ls2 st h bc bs o) : SW X I ρ pc ls (tA x :: st) h bc bs o := by
  obtain ⟨G, p, l, e, s, m, args, below, meth, c⟩ := X
  obtain ⟨cc, nL, ret, own, nm, tab, mc, ms, nfr, nlo⟩ := I
  intro ok r hr H locs lsA cells slots hR hS hl hc hs
  obtain ⟨hx, hb, hml, hret, hown, hts, hlocks, hnm, htab, hG, hB⟩ := id ok
  obtain ⟨hd, hn⟩ := htab _ (List.mem_of_getElem? hi)
  have hn : npc = pc + 2 := hn
  subst hn
  subst hls
  cases x with
  | none => exact lv_astoreN hx hb hd hl hj (lmap_set (v := tA none) ls) (fun ls9 hl9 => k ok r hr H locs ls9 cells slots hR hS hl9 hc hs)
  | some x => exact lv_astore hx hb hd hl hj (lmap_set (v := tA (some x)) ls) (fun ls9 hl9 => k ok r hr H locs ls9 cells slots hR hS hl9 hc hs)
theorem s_iinc {α : Type} {X : XX} {I : MI} {ρ : α → Option TV × XM} {pc npc i : Nat} {ls ls2 : List (Nat × TV)} {st : List TV} {h : XM} {bc bs : Nat} {o : Option α} {j : Nat} {n : Int} {x v : Int32} (hi : (mtab I)[i]? = some (pc, .iinc j n, 3, npc)) (q : Nat) (hq : ls[q]? = some (j, tI x)) (hv : x + Int32.ofInt n = v) (hj : j < I.2.1) (hls : lset j (tI v) ls = ls2) (k : SW X I ρ npc ls2 st h bc bs o) : SW X I ρ pc ls st h bc bs o := by
  obtain ⟨G, p, l, e, s, m, args, below, meth, c⟩ := X
  obtain ⟨cc, nL, ret, own, nm, tab, mc, ms, nfr, nlo⟩ := I
  intro ok r hr H locs lsA cells slots hR hS hl hc hs
  obtain ⟨hx, hb, hml, hret, hown, hts, hlocks, hnm, htab, hG, hB⟩ := id ok
  obtain ⟨hd, hn⟩ := htab _ (List.mem_of_getElem? hi)
  have hn : npc = pc + 3 := hn
  subst hn
  subst hls
  exact lv_iinc hx hb hd hl (lmap_at hq) hv hj (lmap_set (v := tI v) ls) (fun ls9 hl9 => k ok r hr H locs ls9 cells slots hR hS hl9 hc hs)
theorem s_sub {α : Type} {X : XX} {I : MI} {ρ : α → Option TV × XM} {pc : Nat} {ls ls2 : List (Nat × TV)} {st : List TV} {h : XM} {bc bs : Nat} {o : Option α} (ks : List Nat) (hls : lpick ls ks = ls2) (k : SW X I ρ pc ls2 st h bc bs o) : SW X I ρ pc ls st h bc bs o := by
  obtain ⟨G, p, l, e, s, m, args, below, meth, c⟩ := X
  intro ok r hr H locs lsA cells slots hR hS hl hc hs
  exact k ok r hr H locs lsA cells slots hR hS (lv_sub hl ks (lmap_pick ks hls)) hc hs
theorem s_iadd {α : Type} {X : XX} {I : MI} {ρ : α → Option TV × XM} {pc npc i : Nat} {ls : List (Nat × TV)} {st : List TV} {h : XM} {bc bs : Nat} {o : Option α} {x y : Int32} (hi : (mtab I)[i]? = some (pc, .iadd, 1, npc))  (k : SW X I ρ npc ls (tI (x + y) :: st) h bc bs o) : SW X I ρ pc ls (tI y :: tI x :: st) h bc bs o := by
  obtain ⟨G, p, l, e, s, m, args, below, meth, c⟩ := X
  obtain ⟨cc, nL, ret, own, nm, tab, mc, ms, nfr, nlo⟩ := I
  intro ok r hr H locs lsA cells slots hR hS hl hc hs
  obtain ⟨hx, hb, hml, hret, hown, hts, hlocks, hnm, htab, hG, hB⟩ := id ok
  obtain ⟨hd, hn⟩ := htab _ (List.mem_of_getElem? hi)
  have hn : npc = pc + 1 := hn
  subst hn
  refine lv_iadd hx hb hd ?_
  exact k ok r hr H locs lsA cells slots hR hS hl hc hs
theorem s_isub {α : Type} {X : XX} {I : MI} {ρ : α → Option TV × XM} {pc npc i : Nat} {ls : List (Nat × TV)} {st : List TV} {h : XM} {bc bs : Nat} {o : Option α} {x y : Int32} (hi : (mtab I)[i]? = some (pc, .isub, 1, npc))  (k : SW X I ρ npc ls (tI (x - y) :: st) h bc bs o) : SW X I ρ pc ls (tI y :: tI x :: st) h bc bs o := by
  obtain ⟨G, p, l, e, s, m, args, below, meth, c⟩ := X
  obtain ⟨cc, nL, ret, own, nm, tab, mc, ms, nfr, nlo⟩ := I
  intro ok r hr H locs lsA cells slots hR hS hl hc hs
  obtain ⟨hx, hb, hml, hret, hown, hts, hlocks, hnm, htab, hG, hB⟩ := id ok
  obtain ⟨hd, hn⟩ := htab _ (List.mem_of_getElem? hi)
  have hn : npc = pc + 1 := hn
  subst hn
  refine lv_isub hx hb hd ?_
  exact k ok r hr H locs lsA cells slots hR hS hl hc hs
theorem s_imul {α : Type} {X : XX} {I : MI} {ρ : α → Option TV × XM} {pc npc i : Nat} {ls : List (Nat × TV)} {st : List TV} {h : XM} {bc bs : Nat} {o : Option α} {x y : Int32} (hi : (mtab I)[i]? = some (pc, .imul, 1, npc))  (k : SW X I ρ npc ls (tI (x * y) :: st) h bc bs o) : SW X I ρ pc ls (tI y :: tI x :: st) h bc bs o := by
  obtain ⟨G, p, l, e, s, m, args, below, meth, c⟩ := X
  obtain ⟨cc, nL, ret, own, nm, tab, mc, ms, nfr, nlo⟩ := I
  intro ok r hr H locs lsA cells slots hR hS hl hc hs
  obtain ⟨hx, hb, hml, hret, hown, hts, hlocks, hnm, htab, hG, hB⟩ := id ok
  obtain ⟨hd, hn⟩ := htab _ (List.mem_of_getElem? hi)
  have hn : npc = pc + 1 := hn
  subst hn
  refine lv_imul hx hb hd ?_
  exact k ok r hr H locs lsA cells slots hR hS hl hc hs
theorem s_iand {α : Type} {X : XX} {I : MI} {ρ : α → Option TV × XM} {pc npc i : Nat} {ls : List (Nat × TV)} {st : List TV} {h : XM} {bc bs : Nat} {o : Option α} {x y : Int32} (hi : (mtab I)[i]? = some (pc, .iand, 1, npc))  (k : SW X I ρ npc ls (tI (x &&& y) :: st) h bc bs o) : SW X I ρ pc ls (tI y :: tI x :: st) h bc bs o := by
  obtain ⟨G, p, l, e, s, m, args, below, meth, c⟩ := X
  obtain ⟨cc, nL, ret, own, nm, tab, mc, ms, nfr, nlo⟩ := I
  intro ok r hr H locs lsA cells slots hR hS hl hc hs
  obtain ⟨hx, hb, hml, hret, hown, hts, hlocks, hnm, htab, hG, hB⟩ := id ok
  obtain ⟨hd, hn⟩ := htab _ (List.mem_of_getElem? hi)
  have hn : npc = pc + 1 := hn
  subst hn
  refine lv_iand hx hb hd ?_
  exact k ok r hr H locs lsA cells slots hR hS hl hc hs
theorem s_ior {α : Type} {X : XX} {I : MI} {ρ : α → Option TV × XM} {pc npc i : Nat} {ls : List (Nat × TV)} {st : List TV} {h : XM} {bc bs : Nat} {o : Option α} {x y : Int32} (hi : (mtab I)[i]? = some (pc, .ior, 1, npc))  (k : SW X I ρ npc ls (tI (x ||| y) :: st) h bc bs o) : SW X I ρ pc ls (tI y :: tI x :: st) h bc bs o := by
  obtain ⟨G, p, l, e, s, m, args, below, meth, c⟩ := X
  obtain ⟨cc, nL, ret, own, nm, tab, mc, ms, nfr, nlo⟩ := I
  intro ok r hr H locs lsA cells slots hR hS hl hc hs
  obtain ⟨hx, hb, hml, hret, hown, hts, hlocks, hnm, htab, hG, hB⟩ := id ok
  obtain ⟨hd, hn⟩ := htab _ (List.mem_of_getElem? hi)
  have hn : npc = pc + 1 := hn
  subst hn
  refine lv_ior hx hb hd ?_
  exact k ok r hr H locs lsA cells slots hR hS hl hc hs
theorem s_ixor {α : Type} {X : XX} {I : MI} {ρ : α → Option TV × XM} {pc npc i : Nat} {ls : List (Nat × TV)} {st : List TV} {h : XM} {bc bs : Nat} {o : Option α} {x y : Int32} (hi : (mtab I)[i]? = some (pc, .ixor, 1, npc))  (k : SW X I ρ npc ls (tI (x ^^^ y) :: st) h bc bs o) : SW X I ρ pc ls (tI y :: tI x :: st) h bc bs o := by
  obtain ⟨G, p, l, e, s, m, args, below, meth, c⟩ := X
  obtain ⟨cc, nL, ret, own, nm, tab, mc, ms, nfr, nlo⟩ := I
  intro ok r hr H locs lsA cells slots hR hS hl hc hs
  obtain ⟨hx, hb, hml, hret, hown, hts, hlocks, hnm, htab, hG, hB⟩ := id ok
  obtain ⟨hd, hn⟩ := htab _ (List.mem_of_getElem? hi)
  have hn : npc = pc + 1 := hn
  subst hn
  refine lv_ixor hx hb hd ?_
  exact k ok r hr H locs lsA cells slots hR hS hl hc hs
theorem s_ishl {α : Type} {X : XX} {I : MI} {ρ : α → Option TV × XM} {pc npc i : Nat} {ls : List (Nat × TV)} {st : List TV} {h : XM} {bc bs : Nat} {o : Option α} {x y : Int32} (hi : (mtab I)[i]? = some (pc, .ishl, 1, npc))  (k : SW X I ρ npc ls (tI (x <<< (y &&& 31)) :: st) h bc bs o) : SW X I ρ pc ls (tI y :: tI x :: st) h bc bs o := by
  obtain ⟨G, p, l, e, s, m, args, below, meth, c⟩ := X
  obtain ⟨cc, nL, ret, own, nm, tab, mc, ms, nfr, nlo⟩ := I
  intro ok r hr H locs lsA cells slots hR hS hl hc hs
  obtain ⟨hx, hb, hml, hret, hown, hts, hlocks, hnm, htab, hG, hB⟩ := id ok
  obtain ⟨hd, hn⟩ := htab _ (List.mem_of_getElem? hi)
  have hn : npc = pc + 1 := hn
  subst hn
  refine lv_ishl hx hb hd ?_
  exact k ok r hr H locs lsA cells slots hR hS hl hc hs
theorem s_ishr {α : Type} {X : XX} {I : MI} {ρ : α → Option TV × XM} {pc npc i : Nat} {ls : List (Nat × TV)} {st : List TV} {h : XM} {bc bs : Nat} {o : Option α} {x y : Int32} (hi : (mtab I)[i]? = some (pc, .ishr, 1, npc))  (k : SW X I ρ npc ls (tI (x >>> (y &&& 31)) :: st) h bc bs o) : SW X I ρ pc ls (tI y :: tI x :: st) h bc bs o := by
  obtain ⟨G, p, l, e, s, m, args, below, meth, c⟩ := X
  obtain ⟨cc, nL, ret, own, nm, tab, mc, ms, nfr, nlo⟩ := I
  intro ok r hr H locs lsA cells slots hR hS hl hc hs
  obtain ⟨hx, hb, hml, hret, hown, hts, hlocks, hnm, htab, hG, hB⟩ := id ok
  obtain ⟨hd, hn⟩ := htab _ (List.mem_of_getElem? hi)
  have hn : npc = pc + 1 := hn
  subst hn
  refine lv_ishr hx hb hd ?_
  exact k ok r hr H locs lsA cells slots hR hS hl hc hs
theorem s_iushr {α : Type} {X : XX} {I : MI} {ρ : α → Option TV × XM} {pc npc i : Nat} {ls : List (Nat × TV)} {st : List TV} {h : XM} {bc bs : Nat} {o : Option α} {x y : Int32} (hi : (mtab I)[i]? = some (pc, .iushr, 1, npc))  (k : SW X I ρ npc ls (tI ((x.toUInt32 >>> (y.toUInt32 &&& Int32.toUInt32 31)).toInt32) :: st) h bc bs o) : SW X I ρ pc ls (tI y :: tI x :: st) h bc bs o := by
  obtain ⟨G, p, l, e, s, m, args, below, meth, c⟩ := X
  obtain ⟨cc, nL, ret, own, nm, tab, mc, ms, nfr, nlo⟩ := I
  intro ok r hr H locs lsA cells slots hR hS hl hc hs
  obtain ⟨hx, hb, hml, hret, hown, hts, hlocks, hnm, htab, hG, hB⟩ := id ok
  obtain ⟨hd, hn⟩ := htab _ (List.mem_of_getElem? hi)
  have hn : npc = pc + 1 := hn
  subst hn
  refine lv_iushr hx hb hd rfl ?_
  exact k ok r hr H locs lsA cells slots hR hS hl hc hs
theorem s_ladd {α : Type} {X : XX} {I : MI} {ρ : α → Option TV × XM} {pc npc i : Nat} {ls : List (Nat × TV)} {st : List TV} {h : XM} {bc bs : Nat} {o : Option α} {x y : Int64} (hi : (mtab I)[i]? = some (pc, .ladd, 1, npc))  (k : SW X I ρ npc ls (tL (x + y) :: st) h bc bs o) : SW X I ρ pc ls (tL y :: tL x :: st) h bc bs o := by
  obtain ⟨G, p, l, e, s, m, args, below, meth, c⟩ := X
  obtain ⟨cc, nL, ret, own, nm, tab, mc, ms, nfr, nlo⟩ := I
  intro ok r hr H locs lsA cells slots hR hS hl hc hs
  obtain ⟨hx, hb, hml, hret, hown, hts, hlocks, hnm, htab, hG, hB⟩ := id ok
  obtain ⟨hd, hn⟩ := htab _ (List.mem_of_getElem? hi)
  have hn : npc = pc + 1 := hn
  subst hn
  refine lv_ladd hx hb hd ?_
  exact k ok r hr H locs lsA cells slots hR hS hl hc hs
theorem s_lmul {α : Type} {X : XX} {I : MI} {ρ : α → Option TV × XM} {pc npc i : Nat} {ls : List (Nat × TV)} {st : List TV} {h : XM} {bc bs : Nat} {o : Option α} {x y : Int64} (hi : (mtab I)[i]? = some (pc, .lmul, 1, npc))  (k : SW X I ρ npc ls (tL (x * y) :: st) h bc bs o) : SW X I ρ pc ls (tL y :: tL x :: st) h bc bs o := by
  obtain ⟨G, p, l, e, s, m, args, below, meth, c⟩ := X
  obtain ⟨cc, nL, ret, own, nm, tab, mc, ms, nfr, nlo⟩ := I
  intro ok r hr H locs lsA cells slots hR hS hl hc hs
  obtain ⟨hx, hb, hml, hret, hown, hts, hlocks, hnm, htab, hG, hB⟩ := id ok
  obtain ⟨hd, hn⟩ := htab _ (List.mem_of_getElem? hi)
  have hn : npc = pc + 1 := hn
  subst hn
  refine lv_lmul hx hb hd ?_
  exact k ok r hr H locs lsA cells slots hR hS hl hc hs
theorem s_lcmp {α : Type} {X : XX} {I : MI} {ρ : α → Option TV × XM} {pc npc i : Nat} {ls : List (Nat × TV)} {st : List TV} {h : XM} {bc bs : Nat} {o : Option α} {x y : Int64} (hi : (mtab I)[i]? = some (pc, .lcmp, 1, npc))  (k : SW X I ρ npc ls (tI (lg_cmp x y) :: st) h bc bs o) : SW X I ρ pc ls (tL y :: tL x :: st) h bc bs o := by
  obtain ⟨G, p, l, e, s, m, args, below, meth, c⟩ := X
  obtain ⟨cc, nL, ret, own, nm, tab, mc, ms, nfr, nlo⟩ := I
  intro ok r hr H locs lsA cells slots hR hS hl hc hs
  obtain ⟨hx, hb, hml, hret, hown, hts, hlocks, hnm, htab, hG, hB⟩ := id ok
  obtain ⟨hd, hn⟩ := htab _ (List.mem_of_getElem? hi)
  have hn : npc = pc + 1 := hn
  subst hn
  refine W.lcmp hx hb hd ?_
  exact k ok r hr H locs lsA cells slots hR hS hl hc hs
theorem s_ineg {α : Type} {X : XX} {I : MI} {ρ : α → Option TV × XM} {pc npc i : Nat} {ls : List (Nat × TV)} {st : List TV} {h : XM} {bc bs : Nat} {o : Option α} {x : Int32} (hi : (mtab I)[i]? = some (pc, .ineg, 1, npc))  (k : SW X I ρ npc ls (tI (-x) :: st) h bc bs o) : SW X I ρ pc ls (tI x :: st) h bc bs o := by
  obtain ⟨G, p, l, e, s, m, args, below, meth, c⟩ := X
  obtain ⟨cc, nL, ret, own, nm, tab, mc, ms, nfr, nlo⟩ := I
  intro ok r hr H locs lsA cells slots hR hS hl hc hs
  obtain ⟨hx, hb, hml, hret, hown, hts, hlocks, hnm, htab, hG, hB⟩ := id ok
  obtain ⟨hd, hn⟩ := htab _ (List.mem_of_getElem? hi)
  have hn : npc = pc + 1 := hn
  subst hn
  refine lv_ineg hx hb hd ?_
  exact k ok r hr H locs lsA cells slots hR hS hl hc hs
theorem s_i2l {α : Type} {X : XX} {I : MI} {ρ : α → Option TV × XM} {pc npc i : Nat} {ls : List (Nat × TV)} {st : List TV} {h : XM} {bc bs : Nat} {o : Option α} {x : Int32} (hi : (mtab I)[i]? = some (pc, .i2l, 1, npc))  (k : SW X I ρ npc ls (tL (x.toInt64) :: st) h bc bs o) : SW X I ρ pc ls (tI x :: st) h bc bs o := by
  obtain ⟨G, p, l, e, s, m, args, below, meth, c⟩ := X
  obtain ⟨cc, nL, ret, own, nm, tab, mc, ms, nfr, nlo⟩ := I
  intro ok r hr H locs lsA cells slots hR hS hl hc hs
  obtain ⟨hx, hb, hml, hret, hown, hts, hlocks, hnm, htab, hG, hB⟩ := id ok
  obtain ⟨hd, hn⟩ := htab _ (List.mem_of_getElem? hi)
  have hn : npc = pc + 1 := hn
  subst hn
  refine lv_i2l hx hb hd rfl ?_
  exact k ok r hr H locs lsA cells slots hR hS hl hc hs
theorem s_l2i {α : Type} {X : XX} {I : MI} {ρ : α → Option TV × XM} {pc npc i : Nat} {ls : List (Nat × TV)} {st : List TV} {h : XM} {bc bs : Nat} {o : Option α} {x : Int64} (hi : (mtab I)[i]? = some (pc, .l2i, 1, npc))  (k : SW X I ρ npc ls (tI (x.toInt32) :: st) h bc bs o) : SW X I ρ pc ls (tL x :: st) h bc bs o := by
  obtain ⟨G, p, l, e, s, m, args, below, meth, c⟩ := X
  obtain ⟨cc, nL, ret, own, nm, tab, mc, ms, nfr, nlo⟩ := I
  intro ok r hr H locs lsA cells slots hR hS hl hc hs
  obtain ⟨hx, hb, hml, hret, hown, hts, hlocks, hnm, htab, hG, hB⟩ := id ok
  obtain ⟨hd, hn⟩ := htab _ (List.mem_of_getElem? hi)
  have hn : npc = pc + 1 := hn
  subst hn
  refine lv_l2i hx hb hd rfl ?_
  exact k ok r hr H locs lsA cells slots hR hS hl hc hs
theorem s_i2b {α : Type} {X : XX} {I : MI} {ρ : α → Option TV × XM} {pc npc i : Nat} {ls : List (Nat × TV)} {st : List TV} {h : XM} {bc bs : Nat} {o : Option α} {x : Int32} (hi : (mtab I)[i]? = some (pc, .i2b, 1, npc))  (k : SW X I ρ npc ls (tI (x.toInt8.toInt32) :: st) h bc bs o) : SW X I ρ pc ls (tI x :: st) h bc bs o := by
  obtain ⟨G, p, l, e, s, m, args, below, meth, c⟩ := X
  obtain ⟨cc, nL, ret, own, nm, tab, mc, ms, nfr, nlo⟩ := I
  intro ok r hr H locs lsA cells slots hR hS hl hc hs
  obtain ⟨hx, hb, hml, hret, hown, hts, hlocks, hnm, htab, hG, hB⟩ := id ok
  obtain ⟨hd, hn⟩ := htab _ (List.mem_of_getElem? hi)
  have hn : npc = pc + 1 := hn
  subst hn
  refine lv_i2b hx hb hd rfl ?_
  exact k ok r hr H locs lsA cells slots hR hS hl hc hs
theorem s_i2s {α : Type} {X : XX} {I : MI} {ρ : α → Option TV × XM} {pc npc i : Nat} {ls : List (Nat × TV)} {st : List TV} {h : XM} {bc bs : Nat} {o : Option α} {x : Int32} (hi : (mtab I)[i]? = some (pc, .i2s, 1, npc))  (k : SW X I ρ npc ls (tI (x.toInt16.toInt32) :: st) h bc bs o) : SW X I ρ pc ls (tI x :: st) h bc bs o := by
  obtain ⟨G, p, l, e, s, m, args, below, meth, c⟩ := X
  obtain ⟨cc, nL, ret, own, nm, tab, mc, ms, nfr, nlo⟩ := I
  intro ok r hr H locs lsA cells slots hR hS hl hc hs
  obtain ⟨hx, hb, hml, hret, hown, hts, hlocks, hnm, htab, hG, hB⟩ := id ok
  obtain ⟨hd, hn⟩ := htab _ (List.mem_of_getElem? hi)
  have hn : npc = pc + 1 := hn
  subst hn
  refine lv_i2s hx hb hd rfl ?_
  exact k ok r hr H locs lsA cells slots hR hS hl hc hs
theorem s_i2c {α : Type} {X : XX} {I : MI} {ρ : α → Option TV × XM} {pc npc i : Nat} {ls : List (Nat × TV)} {st : List TV} {h : XM} {bc bs : Nat} {o : Option α} {x : Int32} (hi : (mtab I)[i]? = some (pc, .i2c, 1, npc))  (k : SW X I ρ npc ls (tI ((x.toUInt32 % 65536).toInt32) :: st) h bc bs o) : SW X I ρ pc ls (tI x :: st) h bc bs o := by
  obtain ⟨G, p, l, e, s, m, args, below, meth, c⟩ := X
  obtain ⟨cc, nL, ret, own, nm, tab, mc, ms, nfr, nlo⟩ := I
  intro ok r hr H locs lsA cells slots hR hS hl hc hs
  obtain ⟨hx, hb, hml, hret, hown, hts, hlocks, hnm, htab, hG, hB⟩ := id ok
  obtain ⟨hd, hn⟩ := htab _ (List.mem_of_getElem? hi)
  have hn : npc = pc + 1 := hn
  subst hn
  refine lv_i2c hx hb hd rfl ?_
  exact k ok r hr H locs lsA cells slots hR hS hl hc hs
theorem s_idiv {α : Type} {X : XX} {I : MI} {ρ : α → Option TV × XM} {pc npc i : Nat} {ls : List (Nat × TV)} {st : List TV} {h : XM} {bc bs : Nat} {F : Int32 → Option α} {x y : Int32} (hi : (mtab I)[i]? = some (pc, .idiv, 1, npc)) (k : ∀ z, SW X I ρ npc ls (tI z :: st) h bc bs (F z)) : SW X I ρ pc ls (tI y :: tI x :: st) h bc bs ((idiv x y).bind F) := by
  obtain ⟨G, p, l, e, s, m, args, below, meth, c⟩ := X
  obtain ⟨cc, nL, ret, own, nm, tab, mc, ms, nfr, nlo⟩ := I
  intro ok r hr H locs lsA cells slots hR hS hl hc hs
  obtain ⟨hx, hb, hml, hret, hown, hts, hlocks, hnm, htab, hG, hB⟩ := id ok
  obtain ⟨hd, hn⟩ := htab _ (List.mem_of_getElem? hi)
  have hn : npc = pc + 1 := hn
  subst hn
  unfold idiv at hr
  by_cases hy : y = 0
  · rw [if_pos hy] at hr
    cases hr
  · rw [if_neg hy] at hr
    refine lv_idiv hx hb hd hy ?_
    exact k _ ok r hr H locs lsA cells slots hR hS hl hc hs
theorem s_irem {α : Type} {X : XX} {I : MI} {ρ : α → Option TV × XM} {pc npc i : Nat} {ls : List (Nat × TV)} {st : List TV} {h : XM} {bc bs : Nat} {F : Int32 → Option α} {x y : Int32} (hi : (mtab I)[i]? = some (pc, .irem, 1, npc)) (k : ∀ z, SW X I ρ npc ls (tI z :: st) h bc bs (F z)) : SW X I ρ pc ls (tI y :: tI x :: st) h bc bs ((irem x y).bind F) := by
  obtain ⟨G, p, l, e, s, m, args, below, meth, c⟩ := X
  obtain ⟨cc, nL, ret, own, nm, tab, mc, ms, nfr, nlo⟩ := I
  intro ok r hr H locs lsA cells slots hR hS hl hc hs
  obtain ⟨hx, hb, hml, hret, hown, hts, hlocks, hnm, htab, hG, hB⟩ := id ok
  obtain ⟨hd, hn⟩ := htab _ (List.mem_of_getElem? hi)
  have hn : npc = pc + 1 := hn
  subst hn
  unfold irem at hr
  by_cases hy : y = 0
  · rw [if_pos hy] at hr
    cases hr
  · rw [if_neg hy] at hr
    refine lv_irem hx hb hd hy ?_
    exact k _ ok r hr H locs lsA cells slots hR hS hl hc hs
theorem s_ldiv {α : Type} {X : XX} {I : MI} {ρ : α → Option TV × XM} {pc npc i : Nat} {ls : List (Nat × TV)} {st : List TV} {h : XM} {bc bs : Nat} {F : Int64 → Option α} {x y : Int64} (hi : (mtab I)[i]? = some (pc, .ldiv, 1, npc)) (k : ∀ z, SW X I ρ npc ls (tL z :: st) h bc bs (F z)) : SW X I ρ pc ls (tL y :: tL x :: st) h bc bs ((ldiv x y).bind F) := by
  obtain ⟨G, p, l, e, s, m, args, below, meth, c⟩ := X
  obtain ⟨cc, nL, ret, own, nm, tab, mc, ms, nfr, nlo⟩ := I
  intro ok r hr H locs lsA cells slots hR hS hl hc hs
  obtain ⟨hx, hb, hml, hret, hown, hts, hlocks, hnm, htab, hG, hB⟩ := id ok
  obtain ⟨hd, hn⟩ := htab _ (List.mem_of_getElem? hi)
  have hn : npc = pc + 1 := hn
  subst hn
  unfold ldiv at hr
  by_cases hy : y = 0
  · rw [if_pos hy] at hr
    cases hr
  · rw [if_neg hy] at hr
    refine lv_ldiv hx hb hd hy ?_
    exact k _ ok r hr H locs lsA cells slots hR hS hl hc hs
theorem s_lrem {α : Type} {X : XX} {I : MI} {ρ : α → Option TV × XM} {pc npc i : Nat} {ls : List (Nat × TV)} {st : List TV} {h : XM} {bc bs : Nat} {F : Int64 → Option α} {x y : Int64} (hi : (mtab I)[i]? = some (pc, .lrem, 1, npc)) (k : ∀ z, SW X I ρ npc ls (tL z :: st) h bc bs (F z)) : SW X I ρ pc ls (tL y :: tL x :: st) h bc bs ((lrem x y).bind F) := by
  obtain ⟨G, p, l, e, s, m, args, below, meth, c⟩ := X
  obtain ⟨cc, nL, ret, own, nm, tab, mc, ms, nfr, nlo⟩ := I
  intro ok r hr H locs lsA cells slots hR hS hl hc hs
  obtain ⟨hx, hb, hml, hret, hown, hts, hlocks, hnm, htab, hG, hB⟩ := id ok
  obtain ⟨hd, hn⟩ := htab _ (List.mem_of_getElem? hi)
  have hn : npc = pc + 1 := hn
  subst hn
  unfold lrem at hr
  by_cases hy : y = 0
  · rw [if_pos hy] at hr
    cases hr
  · rw [if_neg hy] at hr
    refine lv_lrem hx hb hd hy ?_
    exact k _ ok r hr H locs lsA cells slots hR hS hl hc hs
theorem s_dup {α : Type} {X : XX} {I : MI} {ρ : α → Option TV × XM} {pc npc i : Nat} {ls : List (Nat × TV)} {st : List TV} {h : XM} {bc bs : Nat} {o : Option α} {v : TV} (hi : (mtab I)[i]? = some (pc, .dup, 1, npc)) (hv : tcat v = 1) (k : SW X I ρ npc ls (v :: v :: st) h bc bs o) : SW X I ρ pc ls (v :: st) h bc bs o := by
  obtain ⟨G, p, l, e, s, m, args, below, meth, c⟩ := X
  obtain ⟨cc, nL, ret, own, nm, tab, mc, ms, nfr, nlo⟩ := I
  intro ok r hr H locs lsA cells slots hR hS hl hc hs
  obtain ⟨hx, hb, hml, hret, hown, hts, hlocks, hnm, htab, hG, hB⟩ := id ok
  obtain ⟨hd, hn⟩ := htab _ (List.mem_of_getElem? hi)
  have hn : npc = pc + 1 := hn
  subst hn
  refine lv_dup hx hb hd ((xtv_cat G v).trans hv) ?_
  exact k ok r hr H locs lsA cells slots hR hS hl hc hs
theorem s_pop {α : Type} {X : XX} {I : MI} {ρ : α → Option TV × XM} {pc npc i : Nat} {ls : List (Nat × TV)} {st : List TV} {h : XM} {bc bs : Nat} {o : Option α} {v : TV} (hi : (mtab I)[i]? = some (pc, .pop, 1, npc)) (hv : tcat v = 1) (k : SW X I ρ npc ls (st) h bc bs o) : SW X I ρ pc ls (v :: st) h bc bs o := by
  obtain ⟨G, p, l, e, s, m, args, below, meth, c⟩ := X
  obtain ⟨cc, nL, ret, own, nm, tab, mc, ms, nfr, nlo⟩ := I
  intro ok r hr H locs lsA cells slots hR hS hl hc hs
  obtain ⟨hx, hb, hml, hret, hown, hts, hlocks, hnm, htab, hG, hB⟩ := id ok
  obtain ⟨hd, hn⟩ := htab _ (List.mem_of_getElem? hi)
  have hn : npc = pc + 1 := hn
  subst hn
  refine lv_pop hx hb hd ((xtv_cat G v).trans hv) ?_
  exact k ok r hr H locs lsA cells slots hR hS hl hc hs
theorem s_dup2 {α : Type} {X : XX} {I : MI} {ρ : α → Option TV × XM} {pc npc i : Nat} {ls : List (Nat × TV)} {st : List TV} {h : XM} {bc bs : Nat} {o : Option α} {v u : TV} (hi : (mtab I)[i]? = some (pc, .dup2, 1, npc)) (hv : tcat v = 1) (hu : tcat u = 1) (k : SW X I ρ npc ls (v :: u :: v :: u :: st) h bc bs o) : SW X I ρ pc ls (v :: u :: st) h bc bs o := by
  obtain ⟨G, p, l, e, s, m, args, below, meth, c⟩ := X
  obtain ⟨cc, nL, ret, own, nm, tab, mc, ms, nfr, nlo⟩ := I
  intro ok r hr H locs lsA cells slots hR hS hl hc hs
  obtain ⟨hx, hb, hml, hret, hown, hts, hlocks, hnm, htab, hG, hB⟩ := id ok
  obtain ⟨hd, hn⟩ := htab _ (List.mem_of_getElem? hi)
  have hn : npc = pc + 1 := hn
  subst hn
  refine lv_dup2_11 hx hb hd ((xtv_cat G v).trans hv) ((xtv_cat G u).trans hu) ?_
  exact k ok r hr H locs lsA cells slots hR hS hl hc hs
theorem xle {x y : Int32} (h : ¬ x < y) : y ≤ x := Int32.not_lt.mp h
theorem s_ifeq {α : Type} {X : XX} {I : MI} {ρ : α → Option TV × XM} {pc npc i : Nat} {ls : List (Nat × TV)} {st : List TV} {h : XM} {bc bs : Nat} {A B : Option α} {x : Int32} {off : Int} {tgt : Nat} (hi : (mtab I)[i]? = some (pc, .ifCond .eq off, 3, npc)) (ht : (pc : Int) + off = (tgt : Int)) (kt : x = 0 → SW X I ρ tgt ls st h bc bs A) (kf : ¬ x = 0 → SW X I ρ npc ls st h bc bs B) : SW X I ρ pc ls (tI x :: st) h bc bs (if x = 0 then A else B) := by
  obtain ⟨G, p, l, e, s, m, args, below, meth, c⟩ := X
  obtain ⟨cc, nL, ret, own, nm, tab, mc, ms, nfr, nlo⟩ := I
  intro ok r hr H locs lsA cells slots hR hS hl hc hs
  obtain ⟨hx, hb, hml, hret, hown, hts, hlocks, hnm, htab, hG, hB⟩ := id ok
  obtain ⟨hd, hn⟩ := htab _ (List.mem_of_getElem? hi)
  have hn : npc = pc + 3 := hn
  subst hn
  by_cases hz : x = 0
  · rw [if_pos hz] at hr
    have K := kt hz ok r hr H locs lsA cells slots hR hS hl hc hs
    exact lv_if_eq hx hb hd ht (fun _ => K) (fun q => absurd hz q)
  · rw [if_neg hz] at hr
    have K := kf hz ok r hr H locs lsA cells slots hR hS hl hc hs
    exact lv_if_eq hx hb hd ht (fun q => absurd q hz) (fun _ => K)
theorem s_ifne {α : Type} {X : XX} {I : MI} {ρ : α → Option TV × XM} {pc npc i : Nat} {ls : List (Nat × TV)} {st : List TV} {h : XM} {bc bs : Nat} {A B : Option α} {x : Int32} {off : Int} {tgt : Nat} (hi : (mtab I)[i]? = some (pc, .ifCond .ne off, 3, npc)) (ht : (pc : Int) + off = (tgt : Int)) (kt : x = 0 → SW X I ρ npc ls st h bc bs A) (kf : ¬ x = 0 → SW X I ρ tgt ls st h bc bs B) : SW X I ρ pc ls (tI x :: st) h bc bs (if x = 0 then A else B) := by
  obtain ⟨G, p, l, e, s, m, args, below, meth, c⟩ := X
  obtain ⟨cc, nL, ret, own, nm, tab, mc, ms, nfr, nlo⟩ := I
  intro ok r hr H locs lsA cells slots hR hS hl hc hs
  obtain ⟨hx, hb, hml, hret, hown, hts, hlocks, hnm, htab, hG, hB⟩ := id ok
  obtain ⟨hd, hn⟩ := htab _ (List.mem_of_getElem? hi)
  have hn : npc = pc + 3 := hn
  subst hn
  by_cases hz : x = 0
  · rw [if_pos hz] at hr
    have K := kt hz ok r hr H locs lsA cells slots hR hS hl hc hs
    exact lv_if_ne hx hb hd ht (fun q => absurd hz q) (fun _ => K)
  · rw [if_neg hz] at hr
    have K := kf hz ok r hr H locs lsA cells slots hR hS hl hc hs
    exact lv_if_ne hx hb hd ht (fun _ => K) (fun q => absurd q hz)
theorem s_iflt {α : Type} {X : XX} {I : MI} {ρ : α → Option TV × XM} {pc npc i : Nat} {ls : List (Nat × TV)} {st : List TV} {h : XM} {bc bs : Nat} {A B : Option α} {x : Int32} {off : Int} {tgt : Nat} (hi : (mtab I)[i]? = some (pc, .ifCond .lt off, 3, npc)) (ht : (pc : Int) + off = (tgt : Int)) (kt : x < 0 → SW X I ρ tgt ls st h bc bs A) (kf : ¬ x < 0 → SW X I ρ npc ls st h bc bs B) : SW X I ρ pc ls (tI x :: st) h bc bs (if x < 0 then A else B) := by
  obtain ⟨G, p, l, e, s, m, args, below, meth, c⟩ := X
  obtain ⟨cc, nL, ret, own, nm, tab, mc, ms, nfr, nlo⟩ := I
  intro ok r hr H locs lsA cells slots hR hS hl hc hs
  obtain ⟨hx, hb, hml, hret, hown, hts, hlocks, hnm, htab, hG, hB⟩ := id ok
  obtain ⟨hd, hn⟩ := htab _ (List.mem_of_getElem? hi)
  have hn : npc = pc + 3 := hn
  subst hn
  by_cases hz : x < 0
  · rw [if_pos hz] at hr
    have K := kt hz ok r hr H locs lsA cells slots hR hS hl hc hs
    exact lv_if_lt hx hb hd ht (fun _ => K) (fun q => absurd hz q)
  · rw [if_neg hz] at hr
    have K := kf hz ok r hr H locs lsA cells slots hR hS hl hc hs
    exact lv_if_lt hx hb hd ht (fun q => absurd q hz) (fun _ => K)
theorem s_ifge {α : Type} {X : XX} {I : MI} {ρ : α → Option TV × XM} {pc npc i : Nat} {ls : List (Nat × TV)} {st : List TV} {h : XM} {bc bs : Nat} {A B : Option α} {x : Int32} {off : Int} {tgt : Nat} (hi : (mtab I)[i]? = some (pc, .ifCond .ge off, 3, npc)) (ht : (pc : Int) + off = (tgt : Int)) (kt : x < 0 → SW X I ρ npc ls st h bc bs A) (kf : ¬ x < 0 → SW X I ρ tgt ls st h bc bs B) : SW X I ρ pc ls (tI x :: st) h bc bs (if x < 0 then A else B) := by
  obtain ⟨G, p, l, e, s, m, args, below, meth, c⟩ := X
  obtain ⟨cc, nL, ret, own, nm, tab, mc, ms, nfr, nlo⟩ := I
  intro ok r hr H locs lsA cells slots hR hS hl hc hs
  obtain ⟨hx, hb, hml, hret, hown, hts, hlocks, hnm, htab, hG, hB⟩ := id ok
  obtain ⟨hd, hn⟩ := htab _ (List.mem_of_getElem? hi)
  have hn : npc = pc + 3 := hn
  subst hn
  by_cases hz : x < 0
  · rw [if_pos hz] at hr
    have K := kt hz ok r hr H locs lsA cells slots hR hS hl hc hs
    exact lv_if_ge hx hb hd ht (fun q => absurd hz (Int32.not_lt.mpr q)) (fun _ => K)
  · rw [if_neg hz] at hr
    have K := kf hz ok r hr H locs lsA cells slots hR hS hl hc hs
    exact lv_if_ge hx hb hd ht (fun _ => K) (fun q => absurd (xle hz) q)
theorem s_ifgt {α : Type} {X : XX} {I : MI} {ρ : α → Option TV × XM} {pc npc i : Nat} {ls : List (Nat × TV)} {st : List TV} {h : XM} {bc bs : Nat} {A B : Option α} {x : Int32} {off : Int} {tgt : Nat} (hi : (mtab I)[i]? = some (pc, .ifCond .gt off, 3, npc)) (ht : (pc : Int) + off = (tgt : Int)) (kt : 0 < x → SW X I ρ tgt ls st h bc bs A) (kf : ¬ 0 < x → SW X I ρ npc ls st h bc bs B) : SW X I ρ pc ls (tI x :: st) h bc bs (if 0 < x then A else B) := by
  obtain ⟨G, p, l, e, s, m, args, below, meth, c⟩ := X
  obtain ⟨cc, nL, ret, own, nm, tab, mc, ms, nfr, nlo⟩ := I
  intro ok r hr H locs lsA cells slots hR hS hl hc hs
  obtain ⟨hx, hb, hml, hret, hown, hts, hlocks, hnm, htab, hG, hB⟩ := id ok
  obtain ⟨hd, hn⟩ := htab _ (List.mem_of_getElem? hi)
  have hn : npc = pc + 3 := hn
  subst hn
  by_cases hz : 0 < x
  · rw [if_pos hz] at hr
    have K := kt hz ok r hr H locs lsA cells slots hR hS hl hc hs
    exact lv_if_gt hx hb hd ht (fun _ => K) (fun q => absurd hz q)
  · rw [if_neg hz] at hr
    have K := kf hz ok r hr H locs lsA cells slots hR hS hl hc hs
    exact lv_if_gt hx hb hd ht (fun q => absurd q hz) (fun _ => K)
theorem s_ifle {α : Type} {X : XX} {I : MI} {ρ : α → Option TV × XM} {pc npc i : Nat} {ls : List (Nat × TV)} {st : List TV} {h : XM} {bc bs : Nat} {A B : Option α} {x : Int32} {off : Int} {tgt : Nat} (hi : (mtab I)[i]? = some (pc, .ifCond .le off, 3, npc)) (ht : (pc : Int) + off = (tgt : Int)) (kt : 0 < x → SW X I ρ npc ls st h bc bs A) (kf : ¬ 0 < x → SW X I ρ tgt ls st h bc bs B) : SW X I ρ pc ls (tI x :: st) h bc bs (if 0 < x then A else B) := by
  obtain ⟨G, p, l, e, s, m, args, below, meth, c⟩ := X
  obtain ⟨cc, nL, ret, own, nm, tab, mc, ms, nfr, nlo⟩ := I
  intro ok r hr H locs lsA cells slots hR hS hl hc hs
  obtain ⟨hx, hb, hml, hret, hown, hts, hlocks, hnm, htab, hG, hB⟩ := id ok
  obtain ⟨hd, hn⟩ := htab _ (List.mem_of_getElem? hi)
  have hn : npc = pc + 3 := hn
  subst hn
  by_cases hz : 0 < x
  · rw [if_pos hz] at hr
    have K := kt hz ok r hr H locs lsA cells slots hR hS hl hc hs
    exact lv_if_le hx hb hd ht (fun q => absurd hz (Int32.not_lt.mpr q)) (fun _ => K)
  · rw [if_neg hz] at hr
    have K := kf hz ok r hr H locs lsA cells slots hR hS hl hc hs
    exact lv_if_le hx hb hd ht (fun _ => K) (fun q => absurd (xle hz) q)
theorem s_icmpeq {α : Type} {X : XX} {I : MI} {ρ : α → Option TV × XM} {pc npc i : Nat} {ls : List (Nat × TV)} {st : List TV} {h : XM} {bc bs : Nat} {A B : Option α} {x y : Int32} {off : Int} {tgt : Nat} (hi : (mtab I)[i]? = some (pc, .if_icmp .eq off, 3, npc)) (ht : (pc : Int) + off = (tgt : Int)) (kt : x = y → SW X I ρ tgt ls st h bc bs A) (kf : ¬ x = y → SW X I ρ npc ls st h bc bs B) : SW X I ρ pc ls (tI y :: tI x :: st) h bc bs (if x = y then A else B) := by
  obtain ⟨G, p, l, e, s, m, args, below, meth, c⟩ := X
  obtain ⟨cc, nL, ret, own, nm, tab, mc, ms, nfr, nlo⟩ := I
  intro ok r hr H locs lsA cells slots hR hS hl hc hs
  obtain ⟨hx, hb, hml, hret, hown, hts, hlocks, hnm, htab, hG, hB⟩ := id ok
  obtain ⟨hd, hn⟩ := htab _ (List.mem_of_getElem? hi)
  have hn : npc = pc + 3 := hn
  subst hn
  by_cases hz : x = y
  · rw [if_pos hz] at hr
    have K := kt hz ok r hr H locs lsA cells slots hR hS hl hc hs
    exact lv_icmp_eq hx hb hd ht (fun _ => K) (fun q => absurd hz q)
  · rw [if_neg hz] at hr
    have K := kf hz ok r hr H locs lsA cells slots hR hS hl hc hs
    exact lv_icmp_eq hx hb hd ht (fun q => absurd q hz) (fun _ => K)
theorem s_icmpne {α : Type} {X : XX} {I : MI} {ρ : α → Option TV × XM} {pc npc i : Nat} {ls : List (Nat × TV)} {st : List TV} {h : XM} {bc bs : Nat} {A B : Option α} {x y : Int32} {off : Int} {tgt : Nat} (hi : (mtab I)[i]? = some (pc, .if_icmp .ne off, 3, npc)) (ht : (pc : Int) + off = (tgt : Int)) (kt : x = y → SW X I ρ npc ls st h bc bs A) (kf : ¬ x = y → SW X I ρ tgt ls st h bc bs B) : SW X I ρ pc ls (tI y :: tI x :: st) h bc bs (if x = y then A else B) := by
  obtain ⟨G, p, l, e, s, m, args, below, meth, c⟩ := X
  obtain ⟨cc, nL, ret, own, nm, tab, mc, ms, nfr, nlo⟩ := I
  intro ok r hr H locs lsA cells slots hR hS hl hc hs
  obtain ⟨hx, hb, hml, hret, hown, hts, hlocks, hnm, htab, hG, hB⟩ := id ok
  obtain ⟨hd, hn⟩ := htab _ (List.mem_of_getElem? hi)
  have hn : npc = pc + 3 := hn
  subst hn
  by_cases hz : x = y
  · rw [if_pos hz] at hr
    have K := kt hz ok r hr H locs lsA cells slots hR hS hl hc hs
    exact lv_icmp_ne hx hb hd ht (fun q => absurd hz q) (fun _ => K)
  · rw [if_neg hz] at hr
    have K := kf hz ok r hr H locs lsA cells slots hR hS hl hc hs
    exact lv_icmp_ne hx hb hd ht (fun _ => K) (fun q => absurd q hz)
theorem s_icmplt {α : Type} {X : XX} {I : MI} {ρ : α → Option TV × XM} {pc npc i : Nat} {ls : List (Nat × TV)} {st : List TV} {h : XM} {bc bs : Nat} {A B : Option α} {x y : Int32} {off : Int} {tgt : Nat} (hi : (mtab I)[i]? = some (pc, .if_icmp .lt off, 3, npc)) (ht : (pc : Int) + off = (tgt : Int)) (kt : x < y → SW X I ρ tgt ls st h bc bs A) (kf : ¬ x < y → SW X I ρ npc ls st h bc bs B) : SW X I ρ pc ls (tI y :: tI x :: st) h bc bs (if x < y then A else B) := by
  obtain ⟨G, p, l, e, s, m, args, below, meth, c⟩ := X
  obtain ⟨cc, nL, ret, own, nm, tab, mc, ms, nfr, nlo⟩ := I
  intro ok r hr H locs lsA cells slots hR hS hl hc hs
  obtain ⟨hx, hb, hml, hret, hown, hts, hlocks, hnm, htab, hG, hB⟩ := id ok
  obtain ⟨hd, hn⟩ := htab _ (List.mem_of_getElem? hi)
  have hn : npc = pc + 3 := hn
  subst hn
  by_cases hz : x < y
  · rw [if_pos hz] at hr
    have K := kt hz ok r hr H locs lsA cells slots hR hS hl hc hs
    exact lv_icmp_lt hx hb hd ht (fun _ => K) (fun q => absurd hz q)
  · rw [if_neg hz] at hr
    have K := kf hz ok r hr H locs lsA cells slots hR hS hl hc hs
    exact lv_icmp_lt hx hb hd ht (fun q => absurd q hz) (fun _ => K)
theorem s_icmpge {α : Type} {X : XX} {I : MI} {ρ : α → Option TV × XM} {pc npc i : Nat} {ls : List (Nat × TV)} {st : List TV} {h : XM} {bc bs : Nat} {A B : Option α} {x y : Int32} {off : Int} {tgt : Nat} (hi : (mtab I)[i]? = some (pc, .if_icmp .ge off, 3, npc)) (ht : (pc : Int) + off = (tgt : Int)) (kt : x < y → SW X I ρ npc ls st h bc bs A) (kf : ¬ x < y → SW X I ρ tgt ls st h bc bs B) : SW X I ρ pc ls (tI y :: tI x :: st) h bc bs (if x < y then A else B) := by
  obtain ⟨G, p, l, e, s, m, args, below, meth, c⟩ := X
  obtain ⟨cc, nL, ret, own, nm, tab, mc, ms, nfr, nlo⟩ := I
  intro ok r hr H locs lsA cells slots hR hS hl hc hs
  obtain ⟨hx, hb, hml, hret, hown, hts, hlocks, hnm, htab, hG, hB⟩ := id ok
  obtain ⟨hd, hn⟩ := htab _ (List.mem_of_getElem? hi)
  have hn : npc = pc + 3 := hn
  subst hn
  by_cases hz : x < y
  · rw [if_pos hz] at hr
    have K := kt hz ok r hr H locs lsA cells slots hR hS hl hc hs
    exact lv_icmp_ge hx hb hd ht (fun q => absurd hz (Int32.not_lt.mpr q)) (fun _ => K)
  · rw [if_neg hz] at hr
    have K := kf hz ok r hr H locs lsA cells slots hR hS hl hc hs
    exact lv_icmp_ge hx hb hd ht (fun _ => K) (fun q => absurd (xle hz) q)
theorem s_icmpgt {α : Type} {X : XX} {I : MI} {ρ : α → Option TV × XM} {pc npc i : Nat} {ls : List (Nat × TV)} {st : List TV} {h : XM} {bc bs : Nat} {A B : Option α} {x y : Int32} {off : Int} {tgt : Nat} (hi : (mtab I)[i]? = some (pc, .if_icmp .gt off, 3, npc)) (ht : (pc : Int) + off = (tgt : Int)) (kt : y < x → SW X I ρ tgt ls st h bc bs A) (kf : ¬ y < x → SW X I ρ npc ls st h bc bs B) : SW X I ρ pc ls (tI y :: tI x :: st) h bc bs (if y < x then A else B) := by
  obtain ⟨G, p, l, e, s, m, args, below, meth, c⟩ := X
  obtain ⟨cc, nL, ret, own, nm, tab, mc, ms, nfr, nlo⟩ := I
  intro ok r hr H locs lsA cells slots hR hS hl hc hs
  obtain ⟨hx, hb, hml, hret, hown, hts, hlocks, hnm, htab, hG, hB⟩ := id ok
  obtain ⟨hd, hn⟩ := htab _ (List.mem_of_getElem? hi)
  have hn : npc = pc + 3 := hn
  subst hn
  by_cases hz : y < x
  · rw [if_pos hz] at hr
    have K := kt hz ok r hr H locs lsA cells slots hR hS hl hc hs
    exact lv_icmp_gt hx hb hd ht (fun _ => K) (fun q => absurd hz q)
  · rw [if_neg hz] at hr
    have K := kf hz ok r hr H locs lsA cells slots hR hS hl hc hs
    exact lv_icmp_gt hx hb hd ht (fun q => absurd q hz) (fun _ => K)
theorem s_icmple {α : Type} {X : XX} {I : MI} {ρ : α → Option TV × XM} {pc npc i : Nat} {ls : List (Nat × TV)} {st : List TV} {h : XM} {bc bs : Nat} {A B : Option α} {x y : Int32} {off : Int} {tgt : Nat} (hi : (mtab I)[i]? = some (pc, .if_icmp .le off, 3, npc)) (ht : (pc : Int) + off = (tgt : Int)) (kt : y < x → SW X I ρ npc ls st h bc bs A) (kf : ¬ y < x → SW X I ρ tgt ls st h bc bs B) : SW X I ρ pc ls (tI y :: tI x :: st) h bc bs (if y < x then A else B) := by
  obtain ⟨G, p, l, e, s, m, args, below, meth, c⟩ := X
  obtain ⟨cc, nL, ret, own, nm, tab, mc, ms, nfr, nlo⟩ := I
  intro ok r hr H locs lsA cells slots hR hS hl hc hs
  obtain ⟨hx, hb, hml, hret, hown, hts, hlocks, hnm, htab, hG, hB⟩ := id ok
  obtain ⟨hd, hn⟩ := htab _ (List.mem_of_getElem? hi)
  have hn : npc = pc + 3 := hn
  subst hn
  by_cases hz : y < x
  · rw [if_pos hz] at hr
    have K := kt hz ok r hr H locs lsA cells slots hR hS hl hc hs
    exact lv_icmp_le hx hb hd ht (fun q => absurd hz (Int32.not_lt.mpr q)) (fun _ => K)
  · rw [if_neg hz] at hr
    have K := kf hz ok r hr H locs lsA cells slots hR hS hl hc hs
    exact lv_icmp_le hx hb hd ht (fun _ => K) (fun q => absurd (xle hz) q)
theorem s_ifnull {α : Type} {X : XX} {I : MI} {ρ : α → Option TV × XM} {pc npc i : Nat} {ls : List (Nat × TV)} {st : List TV} {h : XM} {bc bs : Nat} {A B : Option α} {x : Option Nat} {off : Int} {tgt : Nat} (hi : (mtab I)[i]? = some (pc, .ifnull off, 3, npc)) (ht : (pc : Int) + off = (tgt : Int)) (kt : x = none → SW X I ρ tgt ls st h bc bs A) (kf : ¬ x = none → SW X I ρ npc ls st h bc bs B) : SW X I ρ pc ls (tA x :: st) h bc bs (if x = none then A else B) := by
  obtain ⟨G, p, l, e, s, m, args, below, meth, c⟩ := X
  obtain ⟨cc, nL, ret, own, nm, tab, mc, ms, nfr, nlo⟩ := I
  intro ok r hr H locs lsA cells slots hR hS hl hc hs
  obtain ⟨hx, hb, hml, hret, hown, hts, hlocks, hnm, htab, hG, hB⟩ := id ok
  obtain ⟨hd, hn⟩ := htab _ (List.mem_of_getElem? hi)
  have hn : npc = pc + 3 := hn
  subst hn
  cases x with
  | none => exact lv_ifnullN hx hb hd ht (kt rfl ok r hr H locs lsA cells slots hR hS hl hc hs)
  | some y => exact lv_ifnull hx hb hd (kf (fun q => by cases q) ok r hr H locs lsA cells slots hR hS hl hc hs)
theorem s_ifnonnull {α : Type} {X : XX} {I : MI} {ρ : α → Option TV × XM} {pc npc i : Nat} {ls : List (Nat × TV)} {st : List TV} {h : XM} {bc bs : Nat} {A B : Option α} {x : Option Nat} {off : Int} {tgt : Nat} (hi : (mtab I)[i]? = some (pc, .ifnonnull off, 3, npc)) (ht : (pc : Int) + off = (tgt : Int)) (kt : x = none → SW X I ρ npc ls st h bc bs A) (kf : ¬ x = none → SW X I ρ tgt ls st h bc bs B) : SW X I ρ pc ls (tA x :: st) h bc bs (if x = none then A else B) := by
  obtain ⟨G, p, l, e, s, m, args, below, meth, c⟩ := X
  obtain ⟨cc, nL, ret, own, nm, tab, mc, ms, nfr, nlo⟩ := I
  intro ok r hr H locs lsA cells slots hR hS hl hc hs
  obtain ⟨hx, hb, hml, hret, hown, hts, hlocks, hnm, htab, hG, hB⟩ := id ok
  obtain ⟨hd, hn⟩ := htab _ (List.mem_of_getElem? hi)
  have hn : npc = pc + 3 := hn
  subst hn
  cases x with
  | none => exact lv_ifnonnullN hx hb hd (kt rfl ok r hr H locs lsA cells slots hR hS hl hc hs)
  | some y => exact lv_ifnonnull hx hb hd ht (kf (fun q => by cases q) ok r hr H locs lsA cells slots hR hS hl hc hs)
theorem s_goto {α : Type} {X : XX} {I : MI} {ρ : α → Option TV × XM} {pc npc i : Nat} {ls : List (Nat × TV)} {st : List TV} {h : XM} {bc bs : Nat} {o : Option α} {off : Int} {tgt : Nat} (hi : (mtab I)[i]? = some (pc, .goto off, 3, npc)) (ht : (pc : Int) + off = (tgt : Int)) (k : SW X I ρ tgt ls st h bc bs o) : SW X I ρ pc ls st h bc bs o := by
  obtain ⟨G, p, l, e, s, m, args, below, meth, c⟩ := X
  obtain ⟨cc, nL, ret, own, nm, tab, mc, ms, nfr, nlo⟩ := I
  intro ok r hr H locs lsA cells slots hR hS hl hc hs
  obtain ⟨hx, hb, hml, hret, hown, hts, hlocks, hnm, htab, hG, hB⟩ := id ok
  obtain ⟨hd, hn⟩ := htab _ (List.mem_of_getElem? hi)
  have hn : npc = pc + 3 := hn
  subst hn
  exact lv_goto hx hb hd ht (k ok r hr H locs lsA cells slots hR hS hl hc hs)
/-- where a switch goes, by the value -/
def swT (dflt lo hi : Int) (offs : Array Int) (x : Int32) : Int := if x.toInt < lo ∨ hi < x.toInt then dflt else (offs[(x.toInt - lo).toNat]?).getD dflt
theorem s_table {α : Type} {X : XX} {I : MI} {ρ : α → Option TV × XM} {pc npc i : Nat} {ls : List (Nat × TV)} {st : List TV} {h : XM} {bc bs : Nat} {o : Option α} {dflt lo hi9 : Int} {offs : Array Int} {len : Nat} {x : Int32} (tgt : Nat) (hi : (mtab I)[i]? = some (pc, .tableswitch dflt lo hi9 offs, len, npc)) (hsz : (hi9 - lo + 1).toNat = offs.size) (ht : (pc : Int) + swT dflt lo hi9 offs x = (tgt : Int)) (k : SW X I ρ tgt ls st h bc bs o) : SW X I ρ pc ls (tI x :: st) h bc bs o := by
  obtain ⟨G, p, l, e, s, m, args, below, meth, c⟩ := X
  obtain ⟨cc, nL, ret, own, nm, tab, mc, ms, nfr, nlo⟩ := I
  intro ok r hr H locs lsA cells slots hR hS hl hc hs
  obtain ⟨hx, hb, hml, hret, hown, hts, hlocks, hnm, htab, hG, hB⟩ := id ok
  obtain ⟨hd, hn⟩ := htab _ (List.mem_of_getElem? hi)
  have K := k ok r hr H locs lsA cells slots hR hS hl hc hs
  unfold swT at ht
  by_cases hz : x.toInt < lo ∨ hi9 < x.toInt
  · rw [if_pos hz] at ht
    exact lv_tableOut hx hb hd hz ht K
  · rw [if_neg hz] at ht
    have h1 : ¬ x.toInt < lo := fun q => hz (Or.inl q)
    have h2 : ¬ hi9 < x.toInt := fun q => hz (Or.inr q)
    have h3 : (x.toInt - lo).toNat < offs.size := by omega
    have h4 : offs[(x.toInt - lo).toNat]? = some (offs[(x.toInt - lo).toNat]'h3) := Array.getElem?_eq_getElem h3
    rw [h4] at ht
    exact lv_tableIn hx hb hd h1 h2 h4 ht K
theorem s_lookup {α : Type} {X : XX} {I : MI} {ρ : α → Option TV × XM} {pc npc i : Nat} {ls : List (Nat × TV)} {st : List TV} {h : XM} {bc bs : Nat} {o : Option α} {dflt : Int} {ps : Array (Int × Int)} {len : Nat} {x : Int32} (tgt : Nat) (hi : (mtab I)[i]? = some (pc, .lookupswitch dflt ps, len, npc)) (hp : (ps.toList.zip (ps.toList.drop 1)).all (fun (a, next) => a.1 < next.1) = true) (ht : (pc : Int) + Op.lookupswitch.offset ps.toList dflt x.toInt = (tgt : Int)) (k : SW X I ρ tgt ls st h bc bs o) : SW X I ρ pc ls (tI x :: st) h bc bs o := by
  obtain ⟨G, p, l, e, s, m, args, below, meth, c⟩ := X
  obtain ⟨cc, nL, ret, own, nm, tab, mc, ms, nfr, nlo⟩ := I
  intro ok r hr H locs lsA cells slots hR hS hl hc hs
  obtain ⟨hx, hb, hml, hret, hown, hts, hlocks, hnm, htab, hG, hB⟩ := id ok
  obtain ⟨hd, hn⟩ := htab _ (List.mem_of_getElem? hi)
  exact lv_lookup hx hb hd hp rfl ht (k ok r hr H locs lsA cells slots hR hS hl hc hs)
theorem s_if {α : Type} {X : XX} {I : MI} {ρ : α → Option TV × XM} {pc : Nat} {ls : List (Nat × TV)} {st : List TV} {h : XM} {bc bs : Nat} {P : Prop} [Decidable P] {A B : Option α} (kt : P → SW X I ρ pc ls st h bc bs A) (kf : ¬ P → SW X I ρ pc ls st h bc bs B) : SW X I ρ pc ls st h bc bs (if P then A else B) := by
  by_cases hz : P
  · rw [if_pos hz]
    exact kt hz
  · rw [if_neg hz]
    exact kf hz
