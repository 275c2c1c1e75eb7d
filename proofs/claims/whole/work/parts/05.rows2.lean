/-! rows over SW: fields, arrays (written by wip/whole/gen/gen_rows2.py) -/
theorem xN_of {k : Nat} {C : String} {T : u_T} {N : Nat} (h : xCl[k]? = some (C, T, N)) : k < 10 ∧ xN k = N := by
  have hk : k < 10 := (List.getElem?_eq_some_iff.mp h).1
  refine ⟨hk, ?_⟩
  rcases (show k = 0 ∨ k = 1 ∨ k = 2 ∨ k = 3 ∨ k = 4 ∨ k = 5 ∨ k = 6 ∨ k = 7 ∨ k = 8 ∨ k = 9 by omega) with e | e | e | e | e | e | e | e | e | e <;> subst e <;> cases h <;> rfl
theorem xW_get {G : XG} {h : XM} {a : Nat} (ha : a < h.1) : (xW G h)[a]? = some (gB G + a, xE G h a) := by
  unfold xW
  rw [List.getElem?_map, List.getElem?_range ha]
  rfl
theorem xW_inv {G : XG} {h : XM} {a : Nat} {q : Nat × va_E} (hq : (xW G h)[a]? = some q) : a < h.1 ∧ q = (gB G + a, xE G h a) := by
  have ha : a < h.1 := by
    have := (List.getElem?_eq_some_iff.mp hq).1
    simpa [xW] using this
  rw [xW_get ha] at hq
  exact ⟨ha, (Option.some.inj hq).symm⟩
theorem xW_D {G : XG} {h : XM} : va_D (fun q => gB G ≤ q) (xW G h) := by
  refine ⟨fun i j p q hp hq e => ?_, fun k q hq => ?_⟩
  · obtain ⟨-, rfl⟩ := xW_inv hp
    obtain ⟨-, rfl⟩ := xW_inv hq
    exact Nat.add_left_cancel e
  · obtain ⟨-, rfl⟩ := xW_inv hq
    exact Nat.le_add_right _ _
theorem Rep.lt {G : XG} {h : XM} {H : Heap} (hR : Rep G h H) {a k : Nat} (hk : (xs h a).1 = k) (h9 : k ≠ 99) : a < h.1 := by
  rcases Nat.lt_or_ge a h.1 with q | q
  · exact q
  · rw [hR.2.2.1 a q] at hk
    exact absurd hk.symm h9
theorem Rep.at {G : XG} {h : XM} {H : Heap} (hR : Rep G h H) {a k : Nat} (hk : (xs h a).1 = k) (h9 : k ≠ 99) : va_at (gD G) xCl (gB G + a, xE G h a) H := hR.1 a _ (xW_get (hR.lt hk h9))
theorem xE_obj {G : XG} {h : XM} {a k : Nat} (hk : (xs h a).1 = k) (h10 : k < 10) : xE G h a = .inr (k, xFs G h a) := by
  unfold xE
  rw [if_pos (by rw [hk]; exact h10), hk]
theorem xE_arr {G : XG} {h : XM} {a k : Nat} (hk : (xs h a).1 = k) (h10 : 10 ≤ k) : xE G h a = .inl (gC G k, xAr G h a) := by
  unfold xE
  rw [if_neg (by rw [hk]; omega), hk]
theorem xFs_get {G : XG} {h : XM} {a j : Nat} (hj : j < (xs h a).2) : (xFs G h a)[j]? = some (if xrf (xs h a).1 j = true then va_rf ((xr h a j).map (xa G)) else .int (xi h a j)) := by
  unfold xFs
  rw [List.getElem?_map, List.getElem?_range hj]
  rfl
theorem xFs_V {G : XG} {h : XM} {a j : Nat} (hj : j < (xs h a).2) : vp_V (xFs G h a) j = if xrf (xs h a).1 j = true then va_rf ((xr h a j).map (xa G)) else .int (xi h a j) := by
  unfold vp_V
  rw [List.getD_eq_getElem?_getD, xFs_get hj]
  rfl
theorem Rep.set {G : XG} {h h2 : XM} {H H1 : Heap} (hR : Rep G h H) {a : Nat} (hc : h2.1 = h.1) (hs : xs h2 = xs h) (hE : ∀ b, b ≠ a → xE G h2 b = xE G h b) (hat : va_at (gD G) xCl (gB G + a, xE G h2 a) H1) (e2 : H1.size = H.size) (e3 : ∀ q, q ≠ gB G + a → H1[q]? = H[q]?) : Rep G h2 H1 := by
  refine ⟨fun k q hq => ?_, by rw [e2, hR.2.1, hc], fun b hb => by rw [hs]; exact hR.2.2.1 b (by rw [← hc]; exact hb), fun b hb => by rw [hs] at hb ⊢; exact hR.2.2.2 b hb⟩
  obtain ⟨hk, rfl⟩ := xW_inv hq
  by_cases e : k = a
  · subst e
    exact hat
  · rw [hE k e]
    exact (hR.1 k _ (xW_get (by rw [← hc]; exact hk))).kept (e3 _ (by omega))
theorem w2_ne {α : Type} {f : Nat → Nat → α} {a j b : Nat} {v : α} (hb : b ≠ a) : w2 f a j v b = f b := by
  funext k
  unfold w2
  rw [if_neg (fun q => hb q.1)]
theorem w2_i {f : Nat → Nat → Int32} {a j : Nat} {v : Int32} : w2 f a j v a = upd (f a) j v := by
  funext k
  unfold w2 upd
  by_cases e : k = j
  · rw [if_pos ⟨rfl, e⟩, if_pos e]
  · rw [if_neg (fun q => e q.2), if_neg e]
theorem w2_l {f : Nat → Nat → Int64} {a j : Nat} {v : Int64} : w2 f a j v a = vp_updL (f a) j v := by
  funext k
  unfold w2 vp_updL
  by_cases e : k = j
  · rw [if_pos ⟨rfl, e⟩, if_pos e]
  · rw [if_neg (fun q => e q.2), if_neg e]
theorem w2_at {α : Type} {f : Nat → Nat → α} {a j k : Nat} {v : α} : w2 f a j v a k = if k = j then v else f a k := by
  unfold w2
  by_cases e : k = j
  · rw [if_pos ⟨rfl, e⟩, if_pos e]
  · rw [if_neg (fun q => e q.2), if_neg e]
theorem xE_wI {G : XG} {h : XM} {a j b : Nat} {v : Int32} (hb : b ≠ a) : xE G (wI h a j v) b = xE G h b := by
  have e : xi (wI h a j v) b = xi h b := w2_ne hb
  unfold xE xFs xAr
  rw [e]
  rfl
theorem xE_wL {G : XG} {h : XM} {a j b : Nat} {v : Int64} (hb : b ≠ a) : xE G (wL h a j v) b = xE G h b := by
  have e : xl (wL h a j v) b = xl h b := w2_ne hb
  unfold xE xFs xAr
  rw [e]
  rfl
theorem xE_wR {G : XG} {h : XM} {a j b : Nat} {v : Option Nat} (hb : b ≠ a) : xE G (wR h a j v) b = xE G h b := by
  have e : xr (wR h a j v) b = xr h b := w2_ne hb
  unfold xE xFs xAr
  rw [e]
  rfl
/-- a field's store, whatever the value: what the machine needs -/
theorem xput {G : XG} {p : Program} {l : Launch} {e : Env} {R : Room} {s : State} {m : MethodId} {args : Array Value} {below : List Frame} {meth : Method} {c : Code} {H : Heap} {locs : List Loc} {cells slots : Nat} {Q : State → Prop} {cc : ByteArray} {pc : Nat} {lsA : Array Slot} {rest : List Value} {h h2 : XM} {own : String} {idx k j a : Nat} {fin : Bool} {fty : FieldType} {v : Value}
    (hx : p.tables.exec = Jvm.exec) (hb : c.code = cc) (hts : ∀ w ∈ XT, w.before args s = true) (hown : s.vm.findClass own = some m.cls) (hK : va_K (gD G) xCl (xtys G) s) (hf : xFL own idx k j fin fty) (hfin : fin = true → meth.name = "<init>") (hR : Rep G h H) (hS : va_S (fun q => gB G ≤ q) s.heap H locs) (hk : (xs h a).1 = k)
    (hn : narrow fty v = v) (hfit : fits fty v = true) (hc2 : h2.1 = h.1) (hs2 : xs h2 = xs h) (hE : ∀ b, b ≠ a → xE G h2 b = xE G h b) (hV : ∀ i, i < xN k → updV (vp_V (xFs G h a)) j v i = vp_V (xFs G h2 a) i)
    (hd : decode cc pc = .ok (.putfield idx, 3)) (kk : ∀ (H1 : Heap) (locs1 : List Loc), Rep G h2 H1 → va_S (fun q => gB G ≤ q) s.heap H1 locs1 → W p l e R s m args below meth c H1 locs1 cells slots Q (F0 m (pc + 3) lsA rest)) : W p l e R s m args below meth c H locs cells slots Q (F0 m pc lsA (v :: .ref (gB G + a) :: rest)) := by
  obtain ⟨C, T, N, ty, ⟨hcl, hin, hty, hnm⟩, hj, hlw, hff, hfd, hdecl⟩ := hf
  obtain ⟨hk10, hN⟩ := xN_of hcl
  have hlink := hts _ hlw
  have hap := va_apart (own := own) hts hin ty hty hnm hK hcl
  have hat := hR.at hk (by omega)
  rw [xE_obj hk hk10] at hat
  obtain ⟨r, h1, cell, q1, q2, q3, q4⟩ := hat
  have hr : r = (C, T, N) := Option.some.inj (h1.symm.trans hcl)
  subst hr
  obtain ⟨hSl, hfc, kC, hkC, hkind⟩ := hK.1 k _ hcl
  obtain ⟨cf, kf, fi, f, hi, hsl⟩ := hSl j hj
  have hlay := hts _ (hin _ (u_in_lay hj))
  unfold u_lay at hlay
  have hst := (u_facts hfc hkC (u_lays hts hin hj) hi).1
  have fin9 : ∀ (H1 : Heap), H1[gB G + a]? = some (cell.setSlot f.slot v) → H1.size = H.size → (∀ q, q ≠ gB G + a → H1[q]? = H[q]?) → Rep G h2 H1 := by
    intro H1 e1 e2 e3
    refine hR.set hc2 hs2 hE ?_ e2 e3
    rw [xE_obj (by rw [hs2]; exact hk) hk10]
    refine ⟨_, hcl, ?_⟩
    rw [hsl] at e1
    exact t_OB.to (V := updV (vp_V (xFs G h a)) j v) ⟨_, e1, q2, q3, t_set q4 hap hj v⟩ (fun i hi9 => hV i (by rw [hN]; exact hi9))
  cases fin with
  | false =>
    rw [if_neg (by rw [hff]; decide)] at hlay
    have h6 := u_store hfc hkC hkind hlay hi hfd hn hfit
    refine W.putK hx hb (f := f) ⟨hown, hlink, ⟨_, _, _, hi⟩, hst⟩ (by rw [q2]; exact h6) q1 q3 (by rw [hsl]; exact k2_hasslot (q4 j hj)) rfl rfl hd fun H1 e1 e2 e3 => ?_
    exact kk H1 _ (fin9 H1 e1 e2 e3) (hS.put e2 e3 (Nat.le_add_right _ _))
  | true =>
    rw [if_pos hff] at hlay
    have hcf : m.cls = cf := by
      obtain ⟨_, _, c', _, _, _, -, -, hf', -, -, -, hown2, -⟩ := Cond.laysFinal_spec hlay
      have e1 : c' = cf := by have := hi.symm.trans hf'; simp at this; exact this.1.symm
      rw [hdecl rfl] at hown2
      rw [← e1]; exact Option.some.inj (hown.symm.trans hown2)
    have h6 := u_fits hfc hkC hkind (Or.inr hlay) hi hfd hn hfit
    refine W.putFinK hx hb hown hlink hi hst hcf (hfin rfl) (by rw [q2]; exact h6) q1 q3 (by rw [hsl]; exact k2_hasslot (q4 j hj)) rfl rfl hd fun H1 e1 e2 e3 => ?_
    exact kk H1 _ (fin9 H1 e1 e2 e3) (hS.put e2 e3 (Nat.le_add_right _ _))
theorem xV_I {G : XG} {h : XM} {H : Heap} {a k j : Nat} {v : Int32} (hR : Rep G h H) (hk : (xs h a).1 = k) (h10 : k < 10) (hrf : xrf k j = false) : ∀ i, i < xN k → updV (vp_V (xFs G h a)) j (.int v) i = vp_V (xFs G (wI h a j v) a) i := by
  intro i hi
  have hn : (xs h a).2 = xN k := by rw [hR.2.2.2 a (by rw [hk]; exact h10), hk]
  have e : xs (wI h a j v) = xs h := rfl
  have e0 := xFs_V (G := G) (h := wI h a j v) (a := a) (j := i) (by rw [e, hn]; exact hi)
  have e2 : xr (wI h a j v) = xr h := rfl
  have e3 : xi (wI h a j v) a i = if i = j then v else xi h a i := w2_at
  unfold updV
  rw [e0, e, e2, e3, hk]
  by_cases q : i = j
  · subst q
    rw [if_pos rfl, if_pos rfl, hrf]
    rfl
  · rw [if_neg q, if_neg q, xFs_V (by rw [hn]; exact hi), hk]
theorem xV_R {G : XG} {h : XM} {H : Heap} {a k j : Nat} {v : Option Nat} (hR : Rep G h H) (hk : (xs h a).1 = k) (h10 : k < 10) (hrf : xrf k j = true) : ∀ i, i < xN k → updV (vp_V (xFs G h a)) j (va_rf (v.map (xa G))) i = vp_V (xFs G (wR h a j v) a) i := by
  intro i hi
  have hn : (xs h a).2 = xN k := by rw [hR.2.2.2 a (by rw [hk]; exact h10), hk]
  have e : xs (wR h a j v) = xs h := rfl
  have e0 := xFs_V (G := G) (h := wR h a j v) (a := a) (j := i) (by rw [e, hn]; exact hi)
  have e2 : xi (wR h a j v) = xi h := rfl
  have e3 : xr (wR h a j v) a i = if i = j then v else xr h a i := w2_at
  unfold updV
  rw [e0, e, e2, e3, hk]
  by_cases q : i = j
  · subst q
    rw [if_pos rfl, if_pos rfl, hrf]
    rfl
  · rw [if_neg q, if_neg q, xFs_V (by rw [hn]; exact hi), hk]
theorem fits_rf (fty : FieldType) (h : (∃ n, fty = .object n) ∨ ∃ t, fty = .array t) (v : Option Nat) : narrow fty (va_rf v) = va_rf v ∧ fits fty (va_rf v) = true := by
  rcases h with ⟨n, rfl⟩ | ⟨t, rfl⟩ <;> cases v <;> exact ⟨rfl, rfl⟩
theorem s_getI {α : Type} {X : XX} {I : MI} {ρ : α → Option TV × XM} {pc npc i : Nat} {ls : List (Nat × TV)} {st : List TV} {h : XM} {bc bs : Nat} {F : Int32 → Option α} {idx kk j : Nat} {r9 : Option Nat} {fin : Bool} {fty : FieldType} (hi : (mtab I)[i]? = some (pc, .getfield idx, 3, npc)) (hf : xFR I.2.2.2.1 idx kk j fin fty) (hrf : xrf kk j = false) (k : ∀ v, SW X I ρ npc ls (tI v :: st) h bc bs (F v)) : SW X I ρ pc ls (tA r9 :: st) h bc bs ((gI h kk r9 j).bind F) := by
  obtain ⟨G, p, l, e, s, m, args, below, meth, c⟩ := X
  obtain ⟨cc, nL, ret, own, nm, tab, mc, ms, nfr, nlo⟩ := I
  intro ok r hr H locs lsA cells slots hR hS hl hc hs
  obtain ⟨hx, hb, hml, hret, hown, hts, hlocks, hnm, htab, hG, hB⟩ := id ok
  obtain ⟨hd, hn⟩ := htab _ (List.mem_of_getElem? hi)
  have hn : npc = pc + 3 := hn
  subst hn
  unfold gI at hr
  cases r9 with
  | none => cases hr
  | some a =>
    simp only [Option.bind_some] at hr
    by_cases hk : (xs h a).1 = kk
    · rw [if_pos hk] at hr
      have K := k _ ok r hr H locs lsA cells slots hR hS hl hc hs
      obtain ⟨C, T, N, ty, ⟨hcl, hin, hty, hnm9⟩, hj, hlw⟩ := hf
      obtain ⟨hk10, hN⟩ := xN_of hcl
      have hn2 : (xs h a).2 = xN kk := by rw [hR.2.2.2 a (by rw [hk]; exact hk10), hk]
      have hv := xFs_get (G := G) (h := h) (a := a) (j := j) (by rw [hn2, hN]; exact hj)
      rw [hk, hrf] at hv
      have hw := xW_get (G := G) (h := h) (a := a) (hR.lt hk (by omega))
      rw [xE_obj hk hk10] at hw
      exact va_get (D := gD G) hx hb hts hin hown hG.1 hR.1 a hw hcl j hj (hts _ hlw) (fun _ h9 => h9) hv hd K
    · rw [if_neg hk] at hr
      cases hr
theorem s_getR {α : Type} {X : XX} {I : MI} {ρ : α → Option TV × XM} {pc npc i : Nat} {ls : List (Nat × TV)} {st : List TV} {h : XM} {bc bs : Nat} {F : Option Nat → Option α} {idx kk j : Nat} {r9 : Option Nat} {fin : Bool} {fty : FieldType} (hi : (mtab I)[i]? = some (pc, .getfield idx, 3, npc)) (hf : xFR I.2.2.2.1 idx kk j fin fty) (hrf : xrf kk j = true) (k : ∀ v, SW X I ρ npc ls (tA v :: st) h bc bs (F v)) : SW X I ρ pc ls (tA r9 :: st) h bc bs ((gR h kk r9 j).bind F) := by
  obtain ⟨G, p, l, e, s, m, args, below, meth, c⟩ := X
  obtain ⟨cc, nL, ret, own, nm, tab, mc, ms, nfr, nlo⟩ := I
  intro ok r hr H locs lsA cells slots hR hS hl hc hs
  obtain ⟨hx, hb, hml, hret, hown, hts, hlocks, hnm, htab, hG, hB⟩ := id ok
  obtain ⟨hd, hn⟩ := htab _ (List.mem_of_getElem? hi)
  have hn : npc = pc + 3 := hn
  subst hn
  unfold gR at hr
  cases r9 with
  | none => cases hr
  | some a =>
    simp only [Option.bind_some] at hr
    by_cases hk : (xs h a).1 = kk
    · rw [if_pos hk] at hr
      have K := k _ ok r hr H locs lsA cells slots hR hS hl hc hs
      obtain ⟨C, T, N, ty, ⟨hcl, hin, hty, hnm9⟩, hj, hlw⟩ := hf
      obtain ⟨hk10, hN⟩ := xN_of hcl
      have hn2 : (xs h a).2 = xN kk := by rw [hR.2.2.2 a (by rw [hk]; exact hk10), hk]
      have hv := xFs_get (G := G) (h := h) (a := a) (j := j) (by rw [hn2, hN]; exact hj)
      rw [hk, hrf] at hv
      have hw := xW_get (G := G) (h := h) (a := a) (hR.lt hk (by omega))
      rw [xE_obj hk hk10] at hw
      exact va_get (D := gD G) hx hb hts hin hown hG.1 hR.1 a hw hcl j hj (hts _ hlw) (fun _ h9 => h9) hv hd K
    · rw [if_neg hk] at hr
      cases hr
theorem s_putI {α : Type} {X : XX} {I : MI} {ρ : α → Option TV × XM} {pc npc i : Nat} {ls : List (Nat × TV)} {st : List TV} {h : XM} {bc bs : Nat} {F : XM → Option α} {idx kk j : Nat} {r9 : Option Nat} {v : Int32} {fin : Bool} {fty : FieldType} (hi : (mtab I)[i]? = some (pc, .putfield idx, 3, npc)) (hf : xFL I.2.2.2.1 idx kk j fin fty) (hfin : fin = true → I.2.2.2.2.1 = "<init>") (hrf : xrf kk j = false) (hty : fty = .int) (k : ∀ h2, SW X I ρ npc ls st h2 bc bs (F h2)) : SW X I ρ pc ls (tI v :: tA r9 :: st) h bc bs ((pI h kk r9 j v).bind F) := by
  obtain ⟨G, p, l, e, s, m, args, below, meth, c⟩ := X
  obtain ⟨cc, nL, ret, own, nm, tab, mc, ms, nfr, nlo⟩ := I
  intro ok r hr H locs lsA cells slots hR hS hl hc hs
  obtain ⟨hx, hb, hml, hret, hown, hts, hlocks, hnm, htab, hG, hB⟩ := id ok
  obtain ⟨hd, hn⟩ := htab _ (List.mem_of_getElem? hi)
  have hn : npc = pc + 3 := hn
  subst hn
  unfold pI at hr
  cases r9 with
  | none => cases hr
  | some a =>
    simp only [Option.bind_some] at hr
    by_cases hk9 : (xs h a).1 = kk
    · rw [if_pos hk9] at hr
      have hk : (xs h a).1 = kk := hk9
      have hcl := hf
      obtain ⟨C, T, N, ty, ⟨hcl, -⟩, -⟩ := hcl
      have hk10 := (xN_of hcl).1
      have hft : narrow fty (.int v) = (.int v) ∧ fits fty (.int v) = true := by subst hty; exact ⟨rfl, rfl⟩
      exact xput (G := G) (h := h) (h2 := wI h a j v) hx hb hts hown hG.1 hf (fun q => hnm.trans (hfin q)) hR hS hk hft.1 hft.2 rfl rfl (fun b hb9 => xE_wI hb9) (xV_I hR hk hk10 hrf) hd (fun H1 locs1 hR1 hS1 => k _ ok r hr H1 locs1 lsA cells slots hR1 hS1 hl hc hs)
    · rw [if_neg hk9] at hr
      cases hr
theorem s_putZ {α : Type} {X : XX} {I : MI} {ρ : α → Option TV × XM} {pc npc i : Nat} {ls : List (Nat × TV)} {st : List TV} {h : XM} {bc bs : Nat} {F : XM → Option α} {idx kk j : Nat} {r9 : Option Nat} {v : Int32} {fin : Bool} {fty : FieldType} (hi : (mtab I)[i]? = some (pc, .putfield idx, 3, npc)) (hf : xFL I.2.2.2.1 idx kk j fin fty) (hfin : fin = true → I.2.2.2.2.1 = "<init>") (hrf : xrf kk j = false) (hty : fty = .boolean) (k : ∀ h2, SW X I ρ npc ls st h2 bc bs (F h2)) : SW X I ρ pc ls (tI v :: tA r9 :: st) h bc bs ((pZ h kk r9 j v).bind F) := by
  obtain ⟨G, p, l, e, s, m, args, below, meth, c⟩ := X
  obtain ⟨cc, nL, ret, own, nm, tab, mc, ms, nfr, nlo⟩ := I
  intro ok r hr H locs lsA cells slots hR hS hl hc hs
  obtain ⟨hx, hb, hml, hret, hown, hts, hlocks, hnm, htab, hG, hB⟩ := id ok
  obtain ⟨hd, hn⟩ := htab _ (List.mem_of_getElem? hi)
  have hn : npc = pc + 3 := hn
  subst hn
  unfold pZ at hr
  cases r9 with
  | none => cases hr
  | some a =>
    simp only [Option.bind_some] at hr
    by_cases hk9 : (xs h a).1 = kk ∧ (v = 0 ∨ v = 1)
    · rw [if_pos hk9] at hr
      have hk : (xs h a).1 = kk := hk9.1
      have hcl := hf
      obtain ⟨C, T, N, ty, ⟨hcl, -⟩, -⟩ := hcl
      have hk10 := (xN_of hcl).1
      have hft : narrow fty (.int v) = (.int v) ∧ fits fty (.int v) = true := by subst hty; rcases hk9.2 with e9 | e9 <;> subst e9 <;> exact ⟨rfl, rfl⟩
      exact xput (G := G) (h := h) (h2 := wI h a j v) hx hb hts hown hG.1 hf (fun q => hnm.trans (hfin q)) hR hS hk hft.1 hft.2 rfl rfl (fun b hb9 => xE_wI hb9) (xV_I hR hk hk10 hrf) hd (fun H1 locs1 hR1 hS1 => k _ ok r hr H1 locs1 lsA cells slots hR1 hS1 hl hc hs)
    · rw [if_neg hk9] at hr
      cases hr
theorem s_putR {α : Type} {X : XX} {I : MI} {ρ : α → Option TV × XM} {pc npc i : Nat} {ls : List (Nat × TV)} {st : List TV} {h : XM} {bc bs : Nat} {F : XM → Option α} {idx kk j : Nat} {r9 : Option Nat} {v : Option Nat} {fin : Bool} {fty : FieldType} (hi : (mtab I)[i]? = some (pc, .putfield idx, 3, npc)) (hf : xFL I.2.2.2.1 idx kk j fin fty) (hfin : fin = true → I.2.2.2.2.1 = "<init>") (hrf : xrf kk j = true) (hty : (∃ n, fty = .object n) ∨ ∃ t, fty = .array t) (k : ∀ h2, SW X I ρ npc ls st h2 bc bs (F h2)) : SW X I ρ pc ls (tA v :: tA r9 :: st) h bc bs ((pR h kk r9 j v).bind F) := by
  obtain ⟨G, p, l, e, s, m, args, below, meth, c⟩ := X
  obtain ⟨cc, nL, ret, own, nm, tab, mc, ms, nfr, nlo⟩ := I
  intro ok r hr H locs lsA cells slots hR hS hl hc hs
  obtain ⟨hx, hb, hml, hret, hown, hts, hlocks, hnm, htab, hG, hB⟩ := id ok
  obtain ⟨hd, hn⟩ := htab _ (List.mem_of_getElem? hi)
  have hn : npc = pc + 3 := hn
  subst hn
  unfold pR at hr
  cases r9 with
  | none => cases hr
  | some a =>
    simp only [Option.bind_some] at hr
    by_cases hk9 : (xs h a).1 = kk
    · rw [if_pos hk9] at hr
      have hk : (xs h a).1 = kk := hk9
      have hcl := hf
      obtain ⟨C, T, N, ty, ⟨hcl, -⟩, -⟩ := hcl
      have hk10 := (xN_of hcl).1
      have hft : narrow fty (va_rf (v.map (xa G))) = (va_rf (v.map (xa G))) ∧ fits fty (va_rf (v.map (xa G))) = true := fits_rf fty hty _
      exact xput (G := G) (h := h) (h2 := wR h a j v) hx hb hts hown hG.1 hf (fun q => hnm.trans (hfin q)) hR hS hk hft.1 hft.2 rfl rfl (fun b hb9 => xE_wR hb9) (xV_R hR hk hk10 hrf) hd (fun H1 locs1 hR1 hS1 => k _ ok r hr H1 locs1 lsA cells slots hR1 hS1 hl hc hs)
    · rw [if_neg hk9] at hr
      cases hr
theorem s_iaload {α : Type} {X : XX} {I : MI} {ρ : α → Option TV × XM} {pc npc i : Nat} {ls : List (Nat × TV)} {st : List TV} {h : XM} {bc bs : Nat} {F : Int32 → Option α} {j : Int32} {r9 : Option Nat} (hi : (mtab I)[i]? = some (pc, .iaload, 1, npc)) (k : ∀ v, SW X I ρ npc ls (tI v :: st) h bc bs (F v)) : SW X I ρ pc ls (tI j :: tA r9 :: st) h bc bs ((rI h r9 j).bind F) := by
  obtain ⟨G, p, l, e, s, m, args, below, meth, c⟩ := X
  obtain ⟨cc, nL, ret, own, nm, tab, mc, ms, nfr, nlo⟩ := I
  intro ok r hr H locs lsA cells slots hR hS hl hc hs
  obtain ⟨hx, hb, hml, hret, hown, hts, hlocks, hnm, htab, hG, hB⟩ := id ok
  obtain ⟨hd, hn⟩ := htab _ (List.mem_of_getElem? hi)
  have hn : npc = pc + 1 := hn
  subst hn
  unfold rI at hr
  cases r9 with
  | none => cases hr
  | some a =>
    simp only [Option.bind_some] at hr
    by_cases hk9 : (xs h a).1 = 10 ∧ ¬ (j < 0 ∨ (xs h a).2 ≤ j.toNatClampNeg)
    · rw [if_pos hk9] at hr
      obtain ⟨hk, hin⟩ := hk9
      have K := k _ ok r hr H locs lsA cells slots hR hS hl hc hs
      have hw := xW_get (G := G) (h := h) (a := a) (hR.lt hk (by decide))
      rw [xE_arr hk (by decide)] at hw
      unfold xAr at hw
      rw [hk] at hw
      exact va_iald (D := gD G) (tys := xtys G) hx hb hG.1 hR.1 a 0 (f := xi h a) hw rfl hin hd K
    · rw [if_neg hk9] at hr
      cases hr
theorem s_laload {α : Type} {X : XX} {I : MI} {ρ : α → Option TV × XM} {pc npc i : Nat} {ls : List (Nat × TV)} {st : List TV} {h : XM} {bc bs : Nat} {F : Int64 → Option α} {j : Int32} {r9 : Option Nat} (hi : (mtab I)[i]? = some (pc, .laload, 1, npc)) (k : ∀ v, SW X I ρ npc ls (tL v :: st) h bc bs (F v)) : SW X I ρ pc ls (tI j :: tA r9 :: st) h bc bs ((rL h r9 j).bind F) := by
  obtain ⟨G, p, l, e, s, m, args, below, meth, c⟩ := X
  obtain ⟨cc, nL, ret, own, nm, tab, mc, ms, nfr, nlo⟩ := I
  intro ok r hr H locs lsA cells slots hR hS hl hc hs
  obtain ⟨hx, hb, hml, hret, hown, hts, hlocks, hnm, htab, hG, hB⟩ := id ok
  obtain ⟨hd, hn⟩ := htab _ (List.mem_of_getElem? hi)
  have hn : npc = pc + 1 := hn
  subst hn
  unfold rL at hr
  cases r9 with
  | none => cases hr
  | some a =>
    simp only [Option.bind_some] at hr
    by_cases hk9 : (xs h a).1 = 11 ∧ ¬ (j < 0 ∨ (xs h a).2 ≤ j.toNatClampNeg)
    · rw [if_pos hk9] at hr
      obtain ⟨hk, hin⟩ := hk9
      have K := k _ ok r hr H locs lsA cells slots hR hS hl hc hs
      have hw := xW_get (G := G) (h := h) (a := a) (hR.lt hk (by decide))
      rw [xE_arr hk (by decide)] at hw
      unfold xAr at hw
      rw [hk] at hw
      exact va_lald (D := gD G) (tys := xtys G) hx hb hG.1 hR.1 a 1 (f := xl h a) hw rfl hin hd K
    · rw [if_neg hk9] at hr
      cases hr
theorem s_iastore {α : Type} {X : XX} {I : MI} {ρ : α → Option TV × XM} {pc npc i : Nat} {ls : List (Nat × TV)} {st : List TV} {h : XM} {bc bs : Nat} {F : XM → Option α} {j : Int32} {v : Int32} {r9 : Option Nat} (hi : (mtab I)[i]? = some (pc, .iastore, 1, npc)) (k : ∀ h2, SW X I ρ npc ls st h2 bc bs (F h2)) : SW X I ρ pc ls (tI v :: tI j :: tA r9 :: st) h bc bs ((sI h r9 j v).bind F) := by
  obtain ⟨G, p, l, e, s, m, args, below, meth, c⟩ := X
  obtain ⟨cc, nL, ret, own, nm, tab, mc, ms, nfr, nlo⟩ := I
  intro ok r hr H locs lsA cells slots hR hS hl hc hs
  obtain ⟨hx, hb, hml, hret, hown, hts, hlocks, hnm, htab, hG, hB⟩ := id ok
  obtain ⟨hd, hn⟩ := htab _ (List.mem_of_getElem? hi)
  have hn : npc = pc + 1 := hn
  subst hn
  unfold sI at hr
  cases r9 with
  | none => cases hr
  | some a =>
    simp only [Option.bind_some] at hr
    by_cases hk9 : (xs h a).1 = 10 ∧ ¬ (j < 0 ∨ (xs h a).2 ≤ j.toNatClampNeg)
    · rw [if_pos hk9] at hr
      obtain ⟨hk, hin⟩ := hk9
      have hat := hR.at hk (by decide)
      rw [xE_arr hk (by decide)] at hat
      unfold xAr at hat
      rw [hk] at hat
      refine W.iast hx hb hat ((hG.1.2 0 _ rfl).1 (xs h a).2 (fun j => .int (xi h a j))) (fun q => by cases q) (by show ¬ (j < 0 ∨ (arrV _ _ _).slots.size ≤ _); rw [arrV_size]; exact hin) rfl rfl hd fun H1 e1 e2 e3 => ?_
      refine k _ ok r hr H1 _ lsA cells slots (hR.set (h2 := wI h a j.toNatClampNeg v) rfl rfl (fun b hb9 => xE_wI hb9) ?_ e2 e3) (hS.put e2 e3 (Nat.le_add_right _ _)) hl hc hs
      have hk2 : (xs (wI h a j.toNatClampNeg v) a).1 = 10 := hk
      rw [xE_arr hk2 (by decide)]
      unfold xAr
      rw [hk2]
      show H1[gB G + a]? = some (vp_cell _ _)
      rw [e1]
      have e9 : xi (wI h a j.toNatClampNeg v) a = upd (xi h a) j.toNatClampNeg v := w2_i
      simp only [e9, if_true, if_false, show (11 : Nat) ≠ 10 by decide]
      have e8 : xs (wI h a j.toNatClampNeg v) a = xs h a := rfl
      rw [e8, vp_cell_i, vp_cell_i, arrV_store]
      congr 2
      funext q
      by_cases hq : q = j.toNatClampNeg
      · subst hq
        simp [updV, upd]
      · simp [updV, upd, hq]
    · rw [if_neg hk9] at hr
      cases hr
theorem s_lastore {α : Type} {X : XX} {I : MI} {ρ : α → Option TV × XM} {pc npc i : Nat} {ls : List (Nat × TV)} {st : List TV} {h : XM} {bc bs : Nat} {F : XM → Option α} {j : Int32} {v : Int64} {r9 : Option Nat} (hi : (mtab I)[i]? = some (pc, .lastore, 1, npc)) (k : ∀ h2, SW X I ρ npc ls st h2 bc bs (F h2)) : SW X I ρ pc ls (tL v :: tI j :: tA r9 :: st) h bc bs ((sL h r9 j v).bind F) := by
  obtain ⟨G, p, l, e, s, m, args, below, meth, c⟩ := X
  obtain ⟨cc, nL, ret, own, nm, tab, mc, ms, nfr, nlo⟩ := I
  intro ok r hr H locs lsA cells slots hR hS hl hc hs
  obtain ⟨hx, hb, hml, hret, hown, hts, hlocks, hnm, htab, hG, hB⟩ := id ok
  obtain ⟨hd, hn⟩ := htab _ (List.mem_of_getElem? hi)
  have hn : npc = pc + 1 := hn
  subst hn
  unfold sL at hr
  cases r9 with
  | none => cases hr
  | some a =>
    simp only [Option.bind_some] at hr
    by_cases hk9 : (xs h a).1 = 11 ∧ ¬ (j < 0 ∨ (xs h a).2 ≤ j.toNatClampNeg)
    · rw [if_pos hk9] at hr
      obtain ⟨hk, hin⟩ := hk9
      have hat := hR.at hk (by decide)
      rw [xE_arr hk (by decide)] at hat
      unfold xAr at hat
      rw [hk] at hat
      refine W.last hx hb hat ((hG.1.2 1 _ rfl).1 (xs h a).2 (fun j => .long (xl h a j))) (fun q => by cases q) (by show ¬ (j < 0 ∨ (arrV _ _ _).slots.size ≤ _); rw [arrV_size]; exact hin) rfl rfl hd fun H1 e1 e2 e3 => ?_
      refine k _ ok r hr H1 _ lsA cells slots (hR.set (h2 := wL h a j.toNatClampNeg v) rfl rfl (fun b hb9 => xE_wL hb9) ?_ e2 e3) (hS.put e2 e3 (Nat.le_add_right _ _)) hl hc hs
      have hk2 : (xs (wL h a j.toNatClampNeg v) a).1 = 11 := hk
      rw [xE_arr hk2 (by decide)]
      unfold xAr
      rw [hk2]
      show H1[gB G + a]? = some (vp_cell _ _)
      rw [e1]
      have e9 : xl (wL h a j.toNatClampNeg v) a = vp_updL (xl h a) j.toNatClampNeg v := w2_l
      simp only [e9, if_true, if_false, show (11 : Nat) ≠ 10 by decide]
      have e8 : xs (wL h a j.toNatClampNeg v) a = xs h a := rfl
      rw [e8, vp_cell_l, vp_cell_l, arrV_store]
      congr 2
      funext q
      by_cases hq : q = j.toNatClampNeg
      · subst hq
        simp [updV, vp_updL]
      · simp [updV, vp_updL, hq]
    · rw [if_neg hk9] at hr
      cases hr
theorem s_alen {α : Type} {X : XX} {I : MI} {ρ : α → Option TV × XM} {pc npc i : Nat} {ls : List (Nat × TV)} {st : List TV} {h : XM} {bc bs : Nat} {F : Int32 → Option α} {r9 : Option Nat} (hi : (mtab I)[i]? = some (pc, .arraylength, 1, npc)) (k : ∀ v, SW X I ρ npc ls (tI v :: st) h bc bs (F v)) : SW X I ρ pc ls (tA r9 :: st) h bc bs ((ln h r9).bind F) := by
  obtain ⟨G, p, l, e, s, m, args, below, meth, c⟩ := X
  obtain ⟨cc, nL, ret, own, nm, tab, mc, ms, nfr, nlo⟩ := I
  intro ok r hr H locs lsA cells slots hR hS hl hc hs
  obtain ⟨hx, hb, hml, hret, hown, hts, hlocks, hnm, htab, hG, hB⟩ := id ok
  obtain ⟨hd, hn⟩ := htab _ (List.mem_of_getElem? hi)
  have hn : npc = pc + 1 := hn
  subst hn
  unfold ln at hr
  cases r9 with
  | none => cases hr
  | some a =>
    simp only [Option.bind_some] at hr
    by_cases hk9 : 10 ≤ (xs h a).1 ∧ (xs h a).1 ≤ 15
    · rw [if_pos hk9] at hr
      have K := k _ ok r hr H locs lsA cells slots hR hS hl hc hs
      obtain ⟨kk, hk⟩ : ∃ kk, (xs h a).1 = kk := ⟨_, rfl⟩
      rw [hk] at hk9
      have hw := xW_get (G := G) (h := h) (a := a) (hR.lt hk (by omega))
      rw [xE_arr hk hk9.1] at hw
      rcases (show kk = 10 ∨ kk = 11 ∨ kk = 12 ∨ kk = 13 ∨ kk = 14 ∨ kk = 15 by omega) with e9 | e9 | e9 | e9 | e9 | e9 <;> subst e9
      · exact va_alen (D := gD G) (tys := xtys G) hx hb hG.1 hR.1 a 0 hw rfl rfl hd K
      · exact va_alen (D := gD G) (tys := xtys G) hx hb hG.1 hR.1 a 1 hw rfl rfl hd K
      · exact va_alen (D := gD G) (tys := xtys G) hx hb hG.1 hR.1 a 2 hw rfl rfl hd K
      · exact va_alen (D := gD G) (tys := xtys G) hx hb hG.1 hR.1 a 3 hw rfl rfl hd K
      · exact va_alen (D := gD G) (tys := xtys G) hx hb hG.1 hR.1 a 4 hw rfl rfl hd K
      · exact va_alen (D := gD G) (tys := xtys G) hx hb hG.1 hR.1 a 5 hw rfl rfl hd K
    · rw [if_neg hk9] at hr
      cases hr
theorem s_aaload {α : Type} {X : XX} {I : MI} {ρ : α → Option TV × XM} {pc npc i : Nat} {ls : List (Nat × TV)} {st : List TV} {h : XM} {bc bs : Nat} {F : Option Nat → Option α} {j : Int32} {r9 : Option Nat} {kk : Nat} (hi : (mtab I)[i]? = some (pc, .aaload, 1, npc)) (hkk : 12 ≤ kk ∧ kk ≤ 15) (k : ∀ v, SW X I ρ npc ls (tA v :: st) h bc bs (F v)) : SW X I ρ pc ls (tI j :: tA r9 :: st) h bc bs ((rR kk h r9 j).bind F) := by
  obtain ⟨G, p, l, e, s, m, args, below, meth, c⟩ := X
  obtain ⟨cc, nL, ret, own, nm, tab, mc, ms, nfr, nlo⟩ := I
  intro ok r hr H locs lsA cells slots hR hS hl hc hs
  obtain ⟨hx, hb, hml, hret, hown, hts, hlocks, hnm, htab, hG, hB⟩ := id ok
  obtain ⟨hd, hn⟩ := htab _ (List.mem_of_getElem? hi)
  have hn : npc = pc + 1 := hn
  subst hn
  unfold rR at hr
  cases r9 with
  | none => cases hr
  | some a =>
    simp only [Option.bind_some] at hr
    by_cases hk9 : (xs h a).1 = kk ∧ ¬ (j < 0 ∨ (xs h a).2 ≤ j.toNatClampNeg)
    · rw [if_pos hk9] at hr
      obtain ⟨hk, hin⟩ := hk9
      have K := k _ ok r hr H locs lsA cells slots hR hS hl hc hs
      have hat := hR.at hk (by omega)
      rw [xE_arr hk (by omega)] at hat
      have hA : xAr G h a = ((xs h a).2, .inr (.inr (.inr (.inr (fun j => (xr h a j).map (xa G)))))) := by
        unfold xAr
        rw [hk, if_neg (by omega), if_neg (by omega)]
      rw [hA] at hat
      have hlt : j.toNatClampNeg < (xs h a).2 := Nat.not_le.mp fun q => hin (Or.inr q)
      have hof : ∃ ty, ty.isReference = true ∧ s.isArrayOf (arrV (gC G kk) (xs h a).2 (fun j => va_rf ((xr h a j).map (xa G)))) ty := by
        rcases (show kk = 12 ∨ kk = 13 ∨ kk = 14 ∨ kk = 15 by omega) with e9 | e9 | e9 | e9 <;> subst e9
        · exact ⟨.object xR0, rfl, (hG.1.2 2 _ rfl).1 _ _⟩
        · exact ⟨.object xR5, rfl, (hG.1.2 3 _ rfl).1 _ _⟩
        · exact ⟨.object xR4, rfl, (hG.1.2 4 _ rfl).1 _ _⟩
        · exact ⟨.array .int, rfl, (hG.1.2 5 _ rfl).1 _ _⟩
      obtain ⟨ty, hty, hof⟩ := hof
      exact W.aald (v := va_rf ((xr h a j.toNatClampNeg).map (xa G))) (ty := ty) hx hb hat hof hty (fun q => by cases q) (by show ¬ (j < 0 ∨ (arrV _ _ _).slots.size ≤ _); rw [arrV_size]; exact hin) (by show (arrV _ _ _).slots[_]? = _; rw [arrV_read _ _ hlt]) rfl rfl hd K
    · rw [if_neg hk9] at hr
      cases hr
