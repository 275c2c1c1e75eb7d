/-! rows over SW: new cells, stores of references, copies (written by wip/whole/gen/gen_rows4.py) -/
theorem Rep.push {G : XG} {h h2 : XM} {H H1 : Heap} (hR : Rep G h H) (n : Nat) (hc : h2.1 = h.1 + n) (hE : ∀ b, b < h.1 → xE G h2 b = xE G h b) (hs : ∀ a, h2.1 ≤ a → xs h2 a = (99, 0)) (hn : ∀ a, (xs h2 a).1 < 10 → (xs h2 a).2 = xN (xs h2 a).1) (hat : ∀ j, j < n → va_at (gD G) xCl (gB G + (h.1 + j), xE G h2 (h.1 + j)) H1) (z : H1.size = H.size + n) (o : ∀ q, q < H.size → H1[q]? = H[q]?) : Rep G h2 H1 := by
  refine ⟨fun k q hq => ?_, by rw [z, hR.2.1, hc, Nat.add_assoc], hs, hn⟩
  obtain ⟨hk, rfl⟩ := xW_inv hq
  rcases Nat.lt_or_ge k h.1 with q | q
  · rw [hE k q]
    exact (hR.1 k _ (xW_get q)).kept (o _ (by rw [hR.2.1]; show gB G + k < _; omega))
  · have e : k = h.1 + (k - h.1) := by omega
    rw [e]
    exact hat _ (by omega)
theorem nw_E {G : XG} {h : XM} {k n b : Nat} (hb : b ≠ h.1) : xE G (nw h k n) b = xE G h b := by
  have e1 : xs (nw h k n) b = xs h b := by simp [nw, xs, hb]
  have e2 : xi (nw h k n) b = xi h b := by simp [nw, xi, hb]
  have e3 : xl (nw h k n) b = xl h b := by simp [nw, xl, hb]
  have e4 : xr (nw h k n) b = xr h b := by simp [nw, xr, hb]
  unfold xE xFs xAr
  rw [e1, e2, e3, e4]
theorem nw_s {h : XM} {k n : Nat} : xs (nw h k n) h.1 = (k, n) := by
  simp [nw, xs]
theorem nw_s2 {h : XM} {k n b : Nat} (hb : b ≠ h.1) : xs (nw h k n) b = xs h b := by
  simp [nw, xs, hb]
theorem Rep.push1 {G : XG} {h : XM} {H H1 : Heap} (hR : Rep G h H) {k n : Nat} (hkn : k < 10 → n = xN k) (hat : va_at (gD G) xCl (gB G + h.1, xE G (nw h k n) h.1) H1) (z : H1.size = H.size + 1) (o : ∀ q, q < H.size → H1[q]? = H[q]?) : Rep G (nw h k n) H1 := by
  refine hR.push 1 rfl (fun b hb => nw_E (Nat.ne_of_lt hb)) (fun a ha => ?_) (fun a ha => ?_) (fun j hj => ?_) z o
  · have ha : h.1 + 1 ≤ a := ha
    rw [nw_s2 (by omega)]
    exact hR.2.2.1 a (by omega)
  · by_cases e : a = h.1
    · subst e
      rw [nw_s] at ha ⊢
      exact hkn ha
    · rw [nw_s2 e] at ha ⊢
      exact hR.2.2.2 a ha
  · rw [show j = 0 by omega]
    exact hat
theorem xAr_i {G : XG} {h : XM} {a : Nat} (hk : (xs h a).1 = 10) : xAr G h a = ((xs h a).2, .inl (xi h a)) := by
  unfold xAr
  rw [hk]
  rfl
theorem xAr_l {G : XG} {h : XM} {a : Nat} (hk : (xs h a).1 = 11) : xAr G h a = ((xs h a).2, .inr (.inl (xl h a))) := by
  unfold xAr
  rw [hk]
  rfl
theorem xAr_r {G : XG} {h : XM} {a : Nat} (hk : 12 ≤ (xs h a).1) : xAr G h a = ((xs h a).2, .inr (.inr (.inr (.inr (fun j => (xr h a j).map (xa G)))))) := by
  unfold xAr
  rw [if_neg (by omega), if_neg (by omega)]
theorem xS_push {G : XG} {H0 H H1 : Heap} {locs : List Loc} (hS : va_S (fun q => gB G ≤ q) H0 H locs) {n : Nat} (z : H1.size = H.size + n) (o : ∀ q, q < H.size → H1[q]? = H[q]?) : va_S (fun q => gB G ≤ q) H0 H1 locs :=
  ⟨Nat.le_trans hS.1 (by omega), fun q h1 h2 => (o q (Nat.lt_of_lt_of_le h1 hS.1)).trans (hS.2.1 q h1 h2), hS.2.2⟩
theorem xFs_nw {G : XG} {h : XM} {k n j : Nat} (hj : j < n) : vp_V (xFs G (nw h k n) h.1) j = if xrf k j = true then .null else .int 0 := by
  rw [xFs_V (by rw [nw_s]; exact hj), nw_s]
  have e1 : xr (nw h k n) h.1 j = none := by simp [nw, xr]
  have e2 : xi (nw h k n) h.1 j = 0 := by simp [nw, xi]
  rw [e1, e2]
  rfl
theorem s_new {α : Type} {X : XX} {I : MI} {ρ : α → Option TV × XM} {pc npc i : Nat} {ls : List (Nat × TV)} {st : List TV} {h : XM} {bc bs : Nat} {F : XM → Option α} {idx kk N : Nat} {C : String} {T : u_T} {ty : Nat → FieldType} (hi : (mtab I)[i]? = some (pc, .new idx, 3, npc)) (hkc : xKC kk C T N ty) (hdef : ∀ j, j < N → defaultValue (ty j) = if xrf kk j = true then .null else .int 0) (hw : Cond.classLink I.2.2.2.1 idx C ∈ XT ∧ Cond.instantiable C N ∈ XT ∧ Cond.initialized C ∈ XT) (k : ∀ h2, SW X I ρ npc ls (tA (some (xc h)) :: st) h2 bc bs (F h2)) : SW X I ρ pc ls st h (1 + bc) (N + bs) ((nO h kk N).bind F) := by
  obtain ⟨G, p, l, e, s, m, args, below, meth, c⟩ := X
  obtain ⟨cc, nL, ret, own, nm, tab, mc, ms, nfr, nlo⟩ := I
  intro ok r hr H locs lsA cells slots hR hS hl hc hs
  obtain ⟨hx, hb, hml, hret, hown, hts, hlocks, hnm, htab, hG, hB⟩ := id ok
  obtain ⟨hd, hn⟩ := htab _ (List.mem_of_getElem? hi)
  have hn : npc = pc + 3 := hn
  subst hn
  obtain ⟨hcl, hin, hty, hnm9⟩ := hkc
  obtain ⟨hk10, hN⟩ := xN_of hcl
  have hKn := hG.1.1 kk _ hcl
  refine W.newcK hx hb hown (hts _ hw.1) (hts _ hw.2.1) (hts _ hw.2.2) rfl hd (by show cells + 1 ≤ mc; have hc : cells + (1 + bc) ≤ mc := hc; omega) (by show slots + N ≤ ms; have hs : slots + (N + bs) ≤ ms := hs; omega) hKn.2.1 rfl fun H1 kC hkC e1 z1 o1 => ?_
  have hz := hR.2.1
  have hR1 : Rep G (nw h kk N) H1 := by
    refine hR.push1 (fun _ => hN.symm) ?_ z1 o1
    rw [xE_obj (by rw [nw_s]) hk10]
    refine ⟨_, hcl, ?_⟩
    rw [hz] at e1
    exact (u_born ty hts hin hKn hkC e1 hty).to (fun j hj => by rw [xFs_nw hj]; exact hdef j hj)
  rw [hz]
  exact k _ ok r hr H1 locs lsA _ _ hR1 (xS_push hS z1 o1) hl (by show cells + 1 + bc ≤ mc; have hc : cells + (1 + bc) ≤ mc := hc; omega) (by show slots + N + bs ≤ ms; have hs : slots + (N + bs) ≤ ms := hs; omega)
theorem s_newarr {α : Type} {X : XX} {I : MI} {ρ : α → Option TV × XM} {pc npc i : Nat} {ls : List (Nat × TV)} {st : List TV} {h : XM} {bc bs : Nat} {F : XM → Option α} {at9 : ArrayType} {lim kk : Nat} {n : Int32} (hi : (mtab I)[i]? = some (pc, .newarray at9, 2, npc)) (hkk : (at9 = .int ∧ kk = 10) ∨ (at9 = .long ∧ kk = 11)) (hlim : lim ≤ 100000) (hw : Cond.arrayClass (newarray.typeOf at9) ∈ XT) (k : ∀ h2, SW X I ρ npc ls (tA (some (xc h)) :: st) h2 bc bs (F h2)) : SW X I ρ pc ls (tI n :: st) h (1 + bc) (lim + bs) ((nA h kk lim n).bind F) := by
  obtain ⟨G, p, l, e, s, m, args, below, meth, c⟩ := X
  obtain ⟨cc, nL, ret, own, nm, tab, mc, ms, nfr, nlo⟩ := I
  intro ok r hr H locs lsA cells slots hR hS hl hc hs
  obtain ⟨hx, hb, hml, hret, hown, hts, hlocks, hnm, htab, hG, hB⟩ := id ok
  obtain ⟨hd, hn⟩ := htab _ (List.mem_of_getElem? hi)
  have hn : npc = pc + 2 := hn
  subst hn
  unfold nA at hr
  by_cases hz : n < 0 ∨ lim < n.toNatClampNeg
  · rw [if_pos hz] at hr
    cases hr
  · rw [if_neg hz] at hr
    have hn0 : ¬ n < 0 := fun q => hz (Or.inl q)
    have hnl : n.toNatClampNeg ≤ lim := Nat.not_lt.mp fun q => hz (Or.inr q)
    have hsz := hR.2.1
    have hw9 := hts _ hw
    rcases hkk with ⟨e9, e8⟩ | ⟨e9, e8⟩ <;> subst e9 <;> subst e8
    · refine va_newaK hx hb hw9 rfl hd rfl hn0 rfl (show n.toNatClampNeg * 4 ≤ 536870912 by omega) (by show cells + 1 ≤ mc; have hc : cells + (1 + bc) ≤ mc := hc; omega) (by show slots + n.toNatClampNeg ≤ ms; have hs : slots + (lim + bs) ≤ ms := hs; omega) rfl fun H1 cA e1 z1 o1 hAr hfc => ?_
      have hcA : cA = gC G 10 := Option.some.inj (hfc.symm.trans (hG.1.2 0 _ rfl).2)
      subst hcA
      have hR1 : Rep G (nw h 10 n.toNatClampNeg) H1 := by
        refine hR.push1 (fun q => absurd q (by decide)) ?_ z1 o1
        rw [xE_arr (k := 10) (by rw [nw_s]) (by decide)]
        show H1[gB G + h.1]? = some (vp_cell _ _)
        rw [← hsz, e1, xAr_i (by rw [nw_s])]
        have e0 : xi (nw h 10 n.toNatClampNeg) h.1 = fun _ => 0 := by simp [nw, xi]
        rw [e0, nw_s]
        rfl
      rw [hsz]
      exact k _ ok r hr H1 locs lsA _ _ hR1 (xS_push hS z1 o1) hl (by show cells + 1 + bc ≤ mc; have hc : cells + (1 + bc) ≤ mc := hc; omega) (by show slots + n.toNatClampNeg + bs ≤ ms; have hs : slots + (lim + bs) ≤ ms := hs; omega)
    · refine va_newaK hx hb hw9 rfl hd rfl hn0 rfl (show n.toNatClampNeg * 8 ≤ 536870912 by omega) (by show cells + 1 ≤ mc; have hc : cells + (1 + bc) ≤ mc := hc; omega) (by show slots + n.toNatClampNeg ≤ ms; have hs : slots + (lim + bs) ≤ ms := hs; omega) rfl fun H1 cA e1 z1 o1 hAr hfc => ?_
      have hcA : cA = gC G 11 := Option.some.inj (hfc.symm.trans (hG.1.2 1 _ rfl).2)
      subst hcA
      have hR1 : Rep G (nw h 11 n.toNatClampNeg) H1 := by
        refine hR.push1 (fun q => absurd q (by decide)) ?_ z1 o1
        rw [xE_arr (k := 11) (by rw [nw_s]) (by decide)]
        show H1[gB G + h.1]? = some (vp_cell _ _)
        rw [← hsz, e1, xAr_l (by rw [nw_s])]
        have e0 : xl (nw h 11 n.toNatClampNeg) h.1 = fun _ => 0 := by simp [nw, xl]
        rw [e0, nw_s]
        rfl
      rw [hsz]
      exact k _ ok r hr H1 locs lsA _ _ hR1 (xS_push hS z1 o1) hl (by show cells + 1 + bc ≤ mc; have hc : cells + (1 + bc) ≤ mc := hc; omega) (by show slots + n.toNatClampNeg + bs ≤ ms; have hs : slots + (lim + bs) ≤ ms := hs; omega)
theorem s_anew {α : Type} {X : XX} {I : MI} {ρ : α → Option TV × XM} {pc npc i : Nat} {ls : List (Nat × TV)} {st : List TV} {h : XM} {bc bs : Nat} {F : XM → Option α} {idx lim kk t9 : Nat} {C : String} {n : Int32} (hi : (mtab I)[i]? = some (pc, .anewarray idx, 3, npc)) (hkk : (C = xR0 ∧ kk = 12 ∧ t9 = 2) ∨ (C = xR5 ∧ kk = 13 ∧ t9 = 3) ∨ (C = xR4 ∧ kk = 14 ∧ t9 = 4)) (hlim : lim ≤ 100000) (hw : Cond.classLink I.2.2.2.1 idx C ∈ XT) (k : ∀ h2, SW X I ρ npc ls (tA (some (xc h)) :: st) h2 bc bs (F h2)) : SW X I ρ pc ls (tI n :: st) h (1 + bc) (lim + bs) ((nA h kk lim n).bind F) := by
  obtain ⟨G, p, l, e, s, m, args, below, meth, c⟩ := X
  obtain ⟨cc, nL, ret, own, nm, tab, mc, ms, nfr, nlo⟩ := I
  intro ok r hr H locs lsA cells slots hR hS hl hc hs
  obtain ⟨hx, hb, hml, hret, hown, hts, hlocks, hnm, htab, hG, hB⟩ := id ok
  obtain ⟨hd, hn⟩ := htab _ (List.mem_of_getElem? hi)
  have hn : npc = pc + 3 := hn
  subst hn
  unfold nA at hr
  by_cases hz : n < 0 ∨ lim < n.toNatClampNeg
  · rw [if_pos hz] at hr
    cases hr
  · rw [if_neg hz] at hr
    have hn0 : ¬ n < 0 := fun q => hz (Or.inl q)
    have hnl : n.toNatClampNeg ≤ lim := Nat.not_lt.mp fun q => hz (Or.inr q)
    have hsz := hR.2.1
    have hov : va_AO C s := by
      rcases hkk with ⟨e9, -⟩ | ⟨e9, -⟩ | ⟨e9, -⟩ <;> subst e9
      · exact hG.2.2.2.2.2.2.2.1.1
      · exact hG.2.2.2.2.2.2.2.1.2.1
      · exact hG.2.2.2.2.2.2.2.1.2.2.1
    refine W.anew hx hb hown (hts _ hw) (va_AO.use hov) rfl hd rfl hn0 (by omega) (by show cells + 1 ≤ mc; have hc : cells + (1 + bc) ≤ mc := hc; omega) (by show slots + n.toNatClampNeg ≤ ms; have hs : slots + (lim + bs) ≤ ms := hs; omega) fun cA kA comp f1 f2 f3 f4 => ?_
    have hcA : cA = gC G kk ∧ 12 ≤ kk := by
      rcases hkk with ⟨e9, e8, -⟩ | ⟨e9, e8, -⟩ | ⟨e9, e8, -⟩ <;> subst e9 <;> subst e8
      · obtain ⟨_, _, _, _, _, g4⟩ := (hG.1.2 2 _ rfl).2
        exact ⟨Option.some.inj (f1.symm.trans g4), by decide⟩
      · obtain ⟨_, _, _, _, _, g4⟩ := (hG.1.2 3 _ rfl).2
        exact ⟨Option.some.inj (f1.symm.trans g4), by decide⟩
      · obtain ⟨_, _, _, _, _, g4⟩ := (hG.1.2 4 _ rfl).2
        exact ⟨Option.some.inj (f1.symm.trans g4), by decide⟩
    obtain ⟨hcA, hk12⟩ := hcA
    subst hcA
    generalize hH1 : H.push ({ cls := gC G kk, slots := Array.replicate n.toNatClampNeg .null, vm := .none } : Cell) = H1
    have z1 : H1.size = H.size + 1 := by rw [← hH1, Array.size_push]
    have e1 : H1[H.size]? = some (arrV (gC G kk) n.toNatClampNeg (fun _ => .null)) := by rw [← hH1, Array.getElem?_push_size, ← arrV_new]
    have o1 : ∀ q : Nat, q < H.size → H1[q]? = H[q]? := fun q hq => by rw [← hH1, Array.getElem?_push, if_neg (Nat.ne_of_lt hq)]
    have hR1 : Rep G (nw h kk n.toNatClampNeg) H1 := by
      refine hR.push1 (fun q => absurd q (by omega)) ?_ z1 o1
      rw [xE_arr (k := kk) (by rw [nw_s]) (by omega)]
      show H1[gB G + h.1]? = some (vp_cell _ _)
      rw [← hsz, e1, xAr_r (by rw [nw_s]; exact hk12)]
      have e0 : xr (nw h kk n.toNatClampNeg) h.1 = fun _ => none := by simp [nw, xr]
      rw [e0, nw_s]
      rfl
    rw [hsz]
    exact k _ ok r hr H1 locs lsA _ _ hR1 (xS_push hS z1 o1) hl (by show cells + 1 + bc ≤ mc; have hc : cells + (1 + bc) ≤ mc := hc; omega) (by show slots + n.toNatClampNeg + bs ≤ ms; have hs : slots + (lim + bs) ≤ ms := hs; omega)
theorem s_aastore {α : Type} {X : XX} {I : MI} {ρ : α → Option TV × XM} {pc npc i : Nat} {ls : List (Nat × TV)} {st : List TV} {h : XM} {bc bs : Nat} {F : XM → Option α} {j : Int32} {v r9 : Option Nat} {kk kv t9 : Nat} (hi : (mtab I)[i]? = some (pc, .aastore, 1, npc)) (hkk : (kk = 12 ∧ kv = 0 ∧ t9 = 2) ∨ (kk = 13 ∧ kv = 5 ∧ t9 = 3) ∨ (kk = 14 ∧ kv = 4 ∧ t9 = 4)) (k : ∀ h2, SW X I ρ npc ls st h2 bc bs (F h2)) : SW X I ρ pc ls (tA v :: tI j :: tA r9 :: st) h bc bs ((sR kk kv h r9 j v).bind F) := by
  obtain ⟨G, p, l, e, s, m, args, below, meth, c⟩ := X
  obtain ⟨cc, nL, ret, own, nm, tab, mc, ms, nfr, nlo⟩ := I
  intro ok r hr H locs lsA cells slots hR hS hl hc hs
  obtain ⟨hx, hb, hml, hret, hown, hts, hlocks, hnm, htab, hG, hB⟩ := id ok
  obtain ⟨hd, hn⟩ := htab _ (List.mem_of_getElem? hi)
  have hn : npc = pc + 1 := hn
  subst hn
  unfold sR at hr
  cases r9 with
  | none => cases hr
  | some a =>
  cases v with
  | none => cases hr
  | some b =>
    simp only [Option.bind_some] at hr
    by_cases hk9 : ((xs h a).1 = kk ∧ (xs h b).1 = kv) ∧ ¬ (j < 0 ∨ (xs h a).2 ≤ j.toNatClampNeg)
    · rw [if_pos hk9] at hr
      obtain ⟨⟨hk, hkv⟩, hin⟩ := hk9
      have hat := hR.at hk (by omega)
      rw [xE_arr hk (by omega)] at hat
      have hA : xAr G h a = ((xs h a).2, .inr (.inr (.inr (.inr (fun j => (xr h a j).map (xa G)))))) := by
        unfold xAr
        rw [hk, if_neg (by omega), if_neg (by omega)]
      rw [hA] at hat
      have hlt : j.toNatClampNeg < (xs h a).2 := Nat.not_le.mp fun q => hin (Or.inr q)
      have h0 : ¬ j < 0 := fun q => hin (Or.inl q)
      obtain ⟨C, T, N, hcl, htc⟩ : ∃ C T N, xCl[kv]? = some (C, T, N) ∧ (xtys G)[t9]? = some (gC G kk, .object C) := by
        rcases hkk with ⟨e7, e8, e9⟩ | ⟨e7, e8, e9⟩ | ⟨e7, e8, e9⟩ <;> subst e7 <;> subst e8 <;> subst e9
        · exact ⟨_, _, _, rfl, rfl⟩
        · exact ⟨_, _, _, rfl, rfl⟩
        · exact ⟨_, _, _, rfl, rfl⟩
      have hk10 := (xN_of hcl).1
      have hatv := hR.at hkv (by omega)
      rw [xE_obj hkv hk10] at hatv
      obtain ⟨r', hr', cellV, g1, g2, g3, -⟩ := hatv
      have hcls := (hG.1.1 kv _ hcl).2
      obtain ⟨kA, comp, k1, k2, k3, -⟩ := (hG.1.2 t9 _ htc).2
      have hcomp : comp = (gD G).1 kv := Option.some.inj (k3.symm.trans hcls.1)
      subst hcomp
      obtain ⟨kC, hkC, -⟩ := hcls.2
      refine W.aast hx hb hat (fun q h => by cases h) (fun h => by cases h) k1 k2 rfl hkC ⟨h0, by show _ < (arrV _ _ _).slots.size; rw [arrV_size]; exact hlt⟩ g1 (fun q h => by rw [g3] at h; cases h) (by rw [g2]; exact hkC) (by rw [g2]; exact va_assign hcls) rfl rfl hd fun H1 e1 e2 e3 => ?_
      refine k _ ok r hr H1 _ lsA cells slots (hR.set (h2 := wR h a j.toNatClampNeg (some b)) rfl rfl (fun b hb9 => xE_wR hb9) ?_ e2 e3) (hS.put e2 e3 (Nat.le_add_right _ _)) hl hc hs
      have hk2 : (xs (wR h a j.toNatClampNeg (some b)) a).1 = kk := hk
      rw [xE_arr hk2 (by omega)]
      have hA2 : xAr G (wR h a j.toNatClampNeg (some b)) a = ((xs h a).2, .inr (.inr (.inr (.inr (fun i => ((if i = j.toNatClampNeg then some b else xr h a i)).map (xa G)))))) := by
        unfold xAr
        rw [hk2, if_neg (by omega), if_neg (by omega)]
        have e7 : xr (wR h a j.toNatClampNeg (some b)) a = fun i => if i = j.toNatClampNeg then some b else xr h a i := by
          funext i
          exact w2_at
        rw [e7]
        rfl
      rw [hA2]
      show H1[gB G + a]? = some (vp_cell _ _)
      rw [e1, vp_cell_q, vp_cell_q, arrV_store]
      congr 2
      funext q
      by_cases hq : q = j.toNatClampNeg
      · subst hq
        simp [updV, va_rf, xa]
      · simp [updV, hq]
    · rw [if_neg hk9] at hr
      cases hr
def nwC (h : XM) (a : Nat) : XM := (h.1 + 1, (fun b => if b = h.1 then (10, (xs h a).2) else h.2.1 b), (fun b => if b = h.1 then xi h a else h.2.2.1 b), (fun b => if b = h.1 then fun _ => 0 else h.2.2.2.1 b), (fun b => if b = h.1 then fun _ => none else h.2.2.2.2 b))
def nC (h : XM) (lim : Nat) (r : Option Nat) : Option XM := r.bind fun a => if (xs h a).1 = 10 ∧ (xs h a).2 ≤ lim then some (nwC h a) else none
def cpM (h : XM) (a b sp dp n : Nat) : XM := (h.1, h.2.1, (fun c => if c = b then va_cpy (xi h a) (xi h b) sp dp n else h.2.2.1 c), h.2.2.2.1, h.2.2.2.2)
def cp (h : XM) (r1 : Option Nat) (sp : Int32) (r2 : Option Nat) (dp n : Int32) : Option XM := r1.bind fun a => r2.bind fun b => if ((xs h a).1 = 10 ∧ (xs h b).1 = 10) ∧ (¬ sp < 0 ∧ ¬ dp < 0 ∧ ¬ n < 0) ∧ sp.toNatClampNeg + n.toNatClampNeg ≤ (xs h a).2 ∧ dp.toNatClampNeg + n.toNatClampNeg ≤ (xs h b).2 then some (cpM h a b sp.toNatClampNeg dp.toNatClampNeg n.toNatClampNeg) else none
theorem nwC_E {G : XG} {h : XM} {a b : Nat} (hb : b ≠ h.1) : xE G (nwC h a) b = xE G h b := by
  have e1 : xs (nwC h a) b = xs h b := by simp [nwC, xs, hb]
  have e2 : xi (nwC h a) b = xi h b := by simp [nwC, xi, hb]
  have e3 : xl (nwC h a) b = xl h b := by simp [nwC, xl, hb]
  have e4 : xr (nwC h a) b = xr h b := by simp [nwC, xr, hb]
  unfold xE xFs xAr
  rw [e1, e2, e3, e4]
theorem nwC_s {h : XM} {a : Nat} : xs (nwC h a) h.1 = (10, (xs h a).2) := by
  simp [nwC, xs]
theorem nwC_s2 {h : XM} {a b : Nat} (hb : b ≠ h.1) : xs (nwC h a) b = xs h b := by
  simp [nwC, xs, hb]
theorem fits_arr {cA : ClassId} {n : Nat} {f : Nat → Int32} : ∀ (i : Nat) (v : Value), (vp_cell cA (n, .inl f)).slots[i]? = some v → fits .int v = true := by
  intro i v hv
  have hv : (arrV cA n (fun j => .int (f j))).slots[i]? = some v := hv
  have hi : i < n := by
    have := (Array.getElem?_eq_some_iff.mp hv).1
    rwa [arrV_size] at this
  rw [arrV_read _ _ hi] at hv
  cases hv
  rfl
theorem s_clone {α : Type} {X : XX} {I : MI} {ρ : α → Option TV × XM} {pc npc i : Nat} {ls : List (Nat × TV)} {st : List TV} {h : XM} {bc bs : Nat} {F : XM → Option α} {idx lim : Nat} {r9 : Option Nat} (hi : (mtab I)[i]? = some (pc, .invokevirtual idx, 3, npc)) (hw : Cond.methodLink I.2.2.2.1 idx ⟨"[I", "clone", "()Ljava/lang/Object;"⟩ ∈ XT ∧ Cond.sameMethod "[I" "java/lang/Object" "clone" "()Ljava/lang/Object;" ∈ XT ∧ Cond.native ⟨"java/lang/Object", "clone", "()Ljava/lang/Object;"⟩ ∈ XT ∧ Cond.instanceMethod ⟨"java/lang/Object", "clone", "()Ljava/lang/Object;"⟩ ∈ XT ∧ Cond.selects "[I" ⟨"[I", "clone", "()Ljava/lang/Object;"⟩ ⟨"java/lang/Object", "clone", "()Ljava/lang/Object;"⟩ ∈ XT) (hst : (st.map tcat).sum ≤ 8) (hroom : 1 ≤ I.2.2.2.2.2.2.2.2.1 ∧ 40 ≤ I.2.2.2.2.2.2.2.2.2) (k : ∀ h2, SW X I ρ npc ls (tA (some (xc h)) :: st) h2 bc bs (F h2)) : SW X I ρ pc ls (tA r9 :: st) h (1 + bc) (lim + bs) ((nC h lim r9).bind F) := by
  obtain ⟨G, p, l, e, s, m, args, below, meth, c⟩ := X
  obtain ⟨cc, nL, ret, own, nm, tab, mc, ms, nfr, nlo⟩ := I
  intro ok r hr H locs lsA cells slots hR hS hl hc hs
  obtain ⟨hx, hb, hml, hret, hown, hts, hlocks, hnm, htab, hG, hB⟩ := id ok
  obtain ⟨hd, hn⟩ := htab _ (List.mem_of_getElem? hi)
  have hn : npc = pc + 3 := hn
  subst hn
  unfold nC at hr
  cases r9 with
  | none => cases hr
  | some a =>
    simp only [Option.bind_some] at hr
    by_cases hz : (xs h a).1 = 10 ∧ (xs h a).2 ≤ lim
    · rw [if_pos hz] at hr
      obtain ⟨hk, hlim⟩ := hz
      have hsz := hR.2.1
      have hat := hR.at hk (by decide)
      rw [xE_arr hk (by decide)] at hat
      have hA : xAr G h a = ((xs h a).2, .inl (xi h a)) := by
        unfold xAr
        rw [hk]
        rfl
      rw [hA] at hat
      have hat : H[gB G + a]? = some (vp_cell (gC G 10) ((xs h a).2, .inl (xi h a))) := hat
      have hnm10 : s.vm.findClass "[I" = some (gC G 10) := (hG.1.2 0 _ rfl).2
      obtain ⟨c0, t0', f1, f2, f3⟩ := Cond.castable_spec (va_Nw.use (A := args) rfl hG.2.2.2.2.2.2.2.1.2.2.2.2)
      cases hnm10.symm.trans f1
      intro T9 hT X9
      have hcellT : T9.heap[gB G + a]? = some (vp_cell (gC G 10) ((xs h a).2, .inl (xi h a))) := by rw [hT]; exact hat
      obtain ⟨-, kA, hkA, comp, hkind⟩ := State.isArrayOf_alike X9.warmed.alike ((hG.1.2 0 _ rfl).1 0 (fun _ => .null))
      obtain ⟨-, kS, hkS, compS, hkindS⟩ := (hG.1.2 0 _ rfl).1 0 (fun _ => .null)
      have hsz9 : (vp_cell (gC G 10) ((xs h a).2, .inl (xi h a))).slots.size = (xs h a).2 := arrV_size _ _ _
      obtain ⟨vm', X', st'⟩ := X9.cloneArray hx hown (hts _ hw.1) (hts _ hw.2.1) (hts _ hw.2.2.1) (hts _ hw.2.2.2.1) (hts _ hw.2.2.2.2) (a := gB G + a) (cell := vp_cell (gC G 10) ((xs h a).2, .inl (xi h a))) hcellT (fun k h => by cases h) (fun h => by cases h) hnm10 f2 f3
        (fun i v hv => by
          have hk' : T9.vm.classes[gC G 10]? = some kA := hkA
          have hclq : (vp_cell (gC G 10) ((xs h a).2, .inl (xi h a))).cls = gC G 10 := rfl
          rw [hclq]
          simpa [State.fitsSlot, State.slotType?, hk', hkind] using fits_arr i v hv)
        (g := F0 m pc lsA (.ref (gB G + a) :: st.map (xtv G))) rfl (by show lsA.size = _; rw [hml]; exact hl.1) rfl (by rw [hb]; exact hd) hroom.1 (by rw [xcats]; show 2 * 0 + _ + 14 ≤ _; have h40 : 40 ≤ nlo := hroom.2; show 2 * 0 + _ + 14 ≤ nlo; omega) (by show cells + 1 ≤ mc; have hc : cells + (1 + bc) ≤ mc := hc; omega) (by rw [hsz9]; show slots + (xs h a).2 ≤ ms; have hs : slots + (lim + bs) ≤ ms := hs; omega) (hloader := Vm.clonesLoader_of_array hkS hkindS)
      have hcellE : ({ cls := (vp_cell (gC G 10) ((xs h a).2, .inl (xi h a))).cls, slots := (vp_cell (gC G 10) ((xs h a).2, .inl (xi h a))).slots } : Cell) = vp_cell (gC G 10) ((xs h a).2, .inl (xi h a)) := rfl
      rw [hcellE, hsz9] at X'
      generalize hH1 : H.push (vp_cell (gC G 10) ((xs h a).2, .inl (xi h a))) = H1
      have z1 : H1.size = H.size + 1 := by rw [← hH1, Array.size_push]
      have e1 : H1[H.size]? = some (vp_cell (gC G 10) ((xs h a).2, .inl (xi h a))) := by rw [← hH1, Array.getElem?_push_size]
      have o1 : ∀ q : Nat, q < H.size → H1[q]? = H[q]? := fun q hq => by rw [← hH1, Array.getElem?_push, if_neg (Nat.ne_of_lt hq)]
      have hR1 : Rep G (nwC h a) H1 := by
        refine hR.push 1 rfl (fun b hb => nwC_E (Nat.ne_of_lt hb)) (fun a9 ha => ?_) (fun a9 ha => ?_) (fun j hj => ?_) z1 o1
        · have ha : h.1 + 1 ≤ a9 := ha
          rw [nwC_s2 (by omega)]
          exact hR.2.2.1 a9 (by omega)
        · by_cases e : a9 = h.1
          · subst e
            rw [nwC_s] at ha
            exact absurd (show (10 : Nat) < 10 from ha) (by decide)
          · rw [nwC_s2 e] at ha ⊢
            exact hR.2.2.2 a9 ha
        · rw [show j = 0 by omega, Nat.add_zero, xE_arr (k := 10) (by rw [nwC_s]) (by decide)]
          show H1[gB G + h.1]? = some (vp_cell _ _)
          rw [← hsz, e1]
          rw [xAr_i (by rw [nwC_s]), nwC_s]
          have e0 : xi (nwC h a) h.1 = xi h a := by simp [nwC, xi]
          rw [e0]
      have K := k _ ok r hr H1 locs lsA (cells + 1) (slots + (xs h a).2) hR1 (xS_push hS z1 o1) hl (by show cells + 1 + bc ≤ mc; have hc : cells + (1 + bc) ≤ mc := hc; omega) (by show slots + (xs h a).2 + bs ≤ ms; have hs : slots + (lim + bs) ≤ ms := hs; omega)
      obtain ⟨t, b1, b2⟩ := K ((T9.setVm vm').pushCell (vp_cell (gC G 10) ((xs h a).2, .inl (xi h a)))) (by rw [← hH1, ← hT]; rfl) X'
      refine ⟨t, st' t ?_, b2⟩
      rw [hcellE, hT, hsz]
      exact b1
    · rw [if_neg hz] at hr
      cases hr
theorem s_castI {α : Type} {X : XX} {I : MI} {ρ : α → Option TV × XM} {pc npc i : Nat} {ls : List (Nat × TV)} {st : List TV} {h : XM} {bc bs : Nat} {o : Option α} {idx : Nat} {r9 : Option Nat} (hi : (mtab I)[i]? = some (pc, .checkcast idx, 3, npc)) (hw : Cond.classLink I.2.2.2.1 idx "[I" ∈ XT) (k : SW X I ρ npc ls (tA r9 :: st) h bc bs o) : SW X I ρ pc ls (tA r9 :: st) h bc bs (vc h 10 r9 o) := by
  obtain ⟨G, p, l, e, s, m, args, below, meth, c⟩ := X
  obtain ⟨cc, nL, ret, own, nm, tab, mc, ms, nfr, nlo⟩ := I
  intro ok r hr H locs lsA cells slots hR hS hl hc hs
  obtain ⟨hx, hb, hml, hret, hown, hts, hlocks, hnm, htab, hG, hB⟩ := id ok
  obtain ⟨hd, hn⟩ := htab _ (List.mem_of_getElem? hi)
  have hn : npc = pc + 3 := hn
  subst hn
  unfold vc at hr
  cases r9 with
  | none => cases hr
  | some a =>
    simp only [Option.bind_some] at hr
    by_cases hk : (xs h a).1 = 10
    · rw [if_pos hk] at hr
      have hwx := xW_get (G := G) (h := h) (a := a) (hR.lt hk (by decide))
      rw [xE_arr hk (by decide)] at hwx
      exact va_castA hx hb hown (hts _ hw) hR.1 a hwx (hG.1.2 0 _ rfl).2 hd (k ok r hr H locs lsA cells slots hR hS hl hc hs)
    · rw [if_neg hk] at hr
      cases hr
theorem xnn {z : Int32} (hz : ¬ z < 0) : z.toInt = (z.toNatClampNeg : Int) := by
  have hz0 : (0 : Int) ≤ z.toInt := by
    have := Int32.not_lt.mp hz
    simpa using Int32.le_iff_toInt_le.mp this
  show z.toInt = ((z.toInt.toNat : Nat) : Int)
  omega
theorem s_copy {α : Type} {X : XX} {I : MI} {ρ : α → Option TV × XM} {pc npc i : Nat} {ls : List (Nat × TV)} {st : List TV} {h : XM} {bc bs : Nat} {F : XM → Option α} {idx : Nat} {r1 r2 : Option Nat} {sp dp n : Int32} (hi : (mtab I)[i]? = some (pc, .invokestatic idx, 3, npc)) (hw : Cond.methodLink I.2.2.2.1 idx arraycopyName ∈ XT ∧ Cond.native arraycopyName ∈ XT ∧ Cond.static arraycopyName ∈ XT ∧ Cond.initialized "java/lang/System" ∈ XT) (hst : (st.map tcat).sum ≤ 8) (hroom : 1 ≤ I.2.2.2.2.2.2.2.2.1 ∧ 60 ≤ I.2.2.2.2.2.2.2.2.2) (k : ∀ h2, SW X I ρ npc ls st h2 bc bs (F h2)) : SW X I ρ pc ls (tI n :: tI dp :: tA r2 :: tI sp :: tA r1 :: st) h bc bs ((cp h r1 sp r2 dp n).bind F) := by
  obtain ⟨G, p, l, e, s, m, args, below, meth, c⟩ := X
  obtain ⟨cc, nL, ret, own, nm, tab, mc, ms, nfr, nlo⟩ := I
  intro ok r hr H locs lsA cells slots hR hS hl hc hs
  obtain ⟨hx, hb, hml, hret, hown, hts, hlocks, hnm, htab, hG, hB⟩ := id ok
  obtain ⟨hd, hn⟩ := htab _ (List.mem_of_getElem? hi)
  have hn : npc = pc + 3 := hn
  subst hn
  unfold cp at hr
  cases r1 with
  | none => cases hr
  | some a =>
  cases r2 with
  | none => cases hr
  | some b =>
    simp only [Option.bind_some] at hr
    by_cases hz : ((xs h a).1 = 10 ∧ (xs h b).1 = 10) ∧ (¬ sp < 0 ∧ ¬ dp < 0 ∧ ¬ n < 0) ∧ sp.toNatClampNeg + n.toNatClampNeg ≤ (xs h a).2 ∧ dp.toNatClampNeg + n.toNatClampNeg ≤ (xs h b).2
    · rw [if_pos hz] at hr
      obtain ⟨⟨hka, hkb⟩, ⟨h1, h2, h3⟩, h4, h5⟩ := hz
      have hc0 := hR.at hka (by decide)
      rw [xE_arr hka (by decide)] at hc0
      have hA : ∀ a, (xs h a).1 = 10 → xAr G h a = ((xs h a).2, .inl (xi h a)) := by
        intro a hk
        unfold xAr
        rw [hk]
        rfl
      rw [hA a hka] at hc0
      have hc1 := hR.at hkb (by decide)
      rw [xE_arr hkb (by decide), hA b hkb] at hc1
      have hc0 : H[gB G + a]? = some (vp_cell (gC G 10) ((xs h a).2, .inl (xi h a))) := hc0
      have hc1 : H[gB G + b]? = some (vp_cell (gC G 10) ((xs h b).2, .inl (xi h b))) := hc1
      have hlo9 : 2 * 0 + (st.map tcat).sum + (nativeFrameWords "java/lang/System" "arraycopy" 5 + 11) ≤ nlo := by
        have h60 : 60 ≤ nlo := hroom.2
        have e9 : nativeFrameWords "java/lang/System" "arraycopy" 5 + 11 ≤ 52 := by decide +kernel
        omega
      intro T9 hT X9
      obtain ⟨-, k0, hk0, cm0, hkk0⟩ := (hG.1.2 0 _ rfl).1 (xs h a).2 (fun j => .int (xi h a j))
      obtain ⟨-, k1, hk1, cm1, hkk1⟩ := (hG.1.2 0 _ rfl).1 (xs h b).2 (fun j => .int (xi h b j))
      obtain ⟨vm', X', step⟩ := X9.arraycopy hx hown (hts _ hw.1) (hts _ hw.2.1) (hts _ hw.2.2.1) (hts _ hw.2.2.2) (src := gB G + a) (dst := gB G + b) (cs := vp_cell (gC G 10) ((xs h a).2, .inl (xi h a))) (cd := vp_cell (gC G 10) ((xs h b).2, .inl (xi h b))) (srcPos := sp) (destPos := dp) (n := n) (by rw [hT]; exact hc0) (by rw [hT]; exact hc1)
        (fun _ h => by cases h) (fun _ h => by cases h) (fun h => by cases h) (fun h => by cases h) hk0 hk1 hkk0 hkk1 (by simp) h1 h2 h3
        (by rw [xnn h1, xnn h3]; show ¬ _ > ((arrV (gC G 10) (xs h a).2 (fun j => .int (xi h a j))).slots.size : Int); rw [arrV_size]; omega)
        (by rw [xnn h2, xnn h3]; show ¬ _ > ((arrV (gC G 10) (xs h b).2 (fun j => .int (xi h b j))).slots.size : Int); rw [arrV_size]; omega)
        (fun vm₁ _ i hi => by
          have e : (vp_cell (gC G 10) ((xs h a).2, .inl (xi h a))).slots.getD (sp.toNatClampNeg + i) .null = .int (xi h a (sp.toNatClampNeg + i)) := by
            show (arrV (gC G 10) (xs h a).2 (fun j => .int (xi h a j))).slots.getD _ _ = _
            rw [Array.getD_eq_getD_getElem?, arrV_read _ _ (by omega)]
            rfl
          refine ⟨?_, ?_⟩
          · rw [e]
            rfl
          · rw [e]
            exact trivial)
        (g := F0 m pc lsA (.int n :: .int dp :: .ref (gB G + b) :: .int sp :: .ref (gB G + a) :: st.map (xtv G))) rfl (by show lsA.size = _; rw [hml]; exact hl.1) (rest := st.map (xtv G)) rfl (by rw [hb]; exact hd) hroom.1 (by rw [xcats]; exact hlo9)
      have e1 : copied (vp_cell (gC G 10) ((xs h a).2, .inl (xi h a))) (vp_cell (gC G 10) ((xs h b).2, .inl (xi h b))) sp dp n = vp_cell (gC G 10) ((xs h b).2, .inl (va_cpy (xi h a) (xi h b) sp.toNatClampNeg dp.toNatClampNeg n.toNatClampNeg)) := va_copied (fun z => .int z) (gC G 10) (gC G 10) (xi h a) (xi h b) h4
      rw [e1] at X' step
      have hl9 : gB G + b < H.size := (Array.getElem?_eq_some_iff.mp hc1).1
      generalize hH1 : H.setIfInBounds (gB G + b) (vp_cell (gC G 10) ((xs h b).2, .inl (va_cpy (xi h a) (xi h b) sp.toNatClampNeg dp.toNatClampNeg n.toNatClampNeg))) = H1
      have hheap : ((T9.setVm vm').setCell (gB G + b) (vp_cell (gC G 10) ((xs h b).2, .inl (va_cpy (xi h a) (xi h b) sp.toNatClampNeg dp.toNatClampNeg n.toNatClampNeg)))).heap = H1 := by rw [← hH1, ← hT]; rfl
      have oq : ∀ q : Nat, q ≠ gB G + b → H1[q]? = H[q]? := fun q hq => by rw [← hH1]; simp [Array.getElem?_setIfInBounds, Ne.symm hq]
      have z1 : H1.size = H.size := by rw [← hH1]; simp
      have hR1 : Rep G (cpM h a b sp.toNatClampNeg dp.toNatClampNeg n.toNatClampNeg) H1 := by
        refine hR.set (a := b) rfl rfl (fun c hc9 => ?_) ?_ z1 oq
        · have e5 : xi (cpM h a b sp.toNatClampNeg dp.toNatClampNeg n.toNatClampNeg) c = xi h c := by simp [cpM, xi, hc9]
          unfold xE xFs xAr
          rw [e5]
          rfl
        · have hk2 : (xs (cpM h a b sp.toNatClampNeg dp.toNatClampNeg n.toNatClampNeg) b).1 = 10 := hkb
          rw [xE_arr hk2 (by decide)]
          have e6 : xAr G (cpM h a b sp.toNatClampNeg dp.toNatClampNeg n.toNatClampNeg) b = ((xs h b).2, .inl (va_cpy (xi h a) (xi h b) sp.toNatClampNeg dp.toNatClampNeg n.toNatClampNeg)) := by
            unfold xAr
            rw [hk2]
            have e5 : xi (cpM h a b sp.toNatClampNeg dp.toNatClampNeg n.toNatClampNeg) b = va_cpy (xi h a) (xi h b) sp.toNatClampNeg dp.toNatClampNeg n.toNatClampNeg := by simp [cpM, xi]
            rw [e5]
            rfl
          rw [e6]
          show H1[gB G + b]? = some _
          rw [← hH1]
          simp [Array.getElem?_setIfInBounds, hl9]
      obtain ⟨t, a1, b1⟩ := k _ ok r hr H1 _ lsA cells slots hR1 ⟨by rw [z1]; exact hS.1, fun q g1 g2 => by
          rw [oq q (fun e => g2 (by rw [e]; exact Nat.le_add_right _ _))]
          exact hS.2.1 q g1 g2, fun q hq => by
          rcases List.mem_append.mp hq with h | h
          · exact hS.2.2 q h
          · obtain ⟨z, -, hz⟩ := List.mem_map.mp h
            rw [← hz]
            exact Nat.le_add_right _ _⟩ hl hc hs _ hheap X'
      exact ⟨t, step t a1, b1⟩
    · rw [if_neg hz] at hr
      cases hr
def nwM (h : XM) (n k : Nat) : XM := (h.1 + (1 + n), (fun b => if b = h.1 then (15, n) else if h.1 < b ∧ b < h.1 + (1 + n) then (10, k) else h.2.1 b), (fun b => if h.1 ≤ b ∧ b < h.1 + (1 + n) then fun _ => 0 else h.2.2.1 b), (fun b => if h.1 ≤ b ∧ b < h.1 + (1 + n) then fun _ => 0 else h.2.2.2.1 b), (fun b => if b = h.1 then (fun j => if j < n then some (h.1 + 1 + j) else none) else if h.1 < b ∧ b < h.1 + (1 + n) then fun _ => none else h.2.2.2.2 b))
def nM (h : XM) (n k : Int32) : Option XM := if n < 0 ∨ k < 0 ∨ 10 < n.toNatClampNeg ∨ 10 < k.toNatClampNeg then none else some (nwM h n.toNatClampNeg k.toNatClampNeg)
theorem nwM_lo {G : XG} {h : XM} {n k b : Nat} (hb : b < h.1) : xE G (nwM h n k) b = xE G h b := by
  have e1 : xs (nwM h n k) b = xs h b := by
    show (if b = h.1 then _ else if h.1 < b ∧ _ then _ else _) = _
    rw [if_neg (by omega), if_neg (by omega)]
    rfl
  have e2 : xi (nwM h n k) b = xi h b := by
    show (if h.1 ≤ b ∧ _ then _ else _) = _
    rw [if_neg (by omega)]
    rfl
  have e3 : xl (nwM h n k) b = xl h b := by
    show (if h.1 ≤ b ∧ _ then _ else _) = _
    rw [if_neg (by omega)]
    rfl
  have e4 : xr (nwM h n k) b = xr h b := by
    show (if b = h.1 then _ else if h.1 < b ∧ _ then _ else _) = _
    rw [if_neg (by omega), if_neg (by omega)]
    rfl
  unfold xE xFs xAr
  rw [e1, e2, e3, e4]
theorem nwM_s0 {h : XM} {n k : Nat} : xs (nwM h n k) h.1 = (15, n) := if_pos rfl
theorem nwM_s1 {h : XM} {n k b : Nat} (hb : h.1 < b ∧ b < h.1 + (1 + n)) : xs (nwM h n k) b = (10, k) := by
  show (if b = h.1 then _ else if h.1 < b ∧ _ then _ else _) = _
  rw [if_neg (by omega), if_pos hb]
theorem nwM_s2 {h : XM} {n k b : Nat} (hb : b < h.1 ∨ h.1 + (1 + n) ≤ b) : xs (nwM h n k) b = xs h b := by
  show (if b = h.1 then _ else if h.1 < b ∧ _ then _ else _) = _
  rw [if_neg (by omega), if_neg (by omega)]
  rfl
theorem xouter (c : ClassId) (N h0 : Nat) : ∀ i : Nat, Multi.outerC c N h0 i = arrV c N (fun j => va_rf (if j < i then some (h0 + 1 + j) else none))
  | 0 => by
    show ({ cls := c, slots := Array.replicate N .null, vm := .none } : Cell) = _
    rw [arrV_new]
    refine congrArg (arrV c N) (funext fun j => ?_)
    simp [va_rf]
  | i + 1 => by
    show (Multi.outerC c N h0 i).setSlot i (.ref (h0 + 1 + i)) = _
    rw [xouter c N h0 i, arrV_store]
    refine congrArg (arrV c N) (funext fun j => ?_)
    by_cases e : j = i
    · subst e
      simp [updV, va_rf]
    · by_cases h : j < i
      · simp [updV, e, h, Nat.lt_succ_of_lt h]
      · simp [updV, e, h, show ¬ j < i + 1 by omega]
theorem s_mna {α : Type} {X : XX} {I : MI} {ρ : α → Option TV × XM} {pc npc i : Nat} {ls : List (Nat × TV)} {st : List TV} {h : XM} {bc bs : Nat} {F : XM → Option α} {idx : Nat} {n k9 : Int32} (hi : (mtab I)[i]? = some (pc, .multianewarray idx 2, 4, npc)) (hw : Cond.classLink I.2.2.2.1 idx "[[I" ∈ XT ∧ Cond.arrayClass .int ∈ XT) (k : ∀ h2, SW X I ρ npc ls (tA (some (xc h)) :: st) h2 bc bs (F h2)) : SW X I ρ pc ls (tI k9 :: tI n :: st) h (11 + bc) (110 + bs) ((nM h n k9).bind F) := by
  obtain ⟨G, p, l, e, s, m, args, below, meth, c⟩ := X
  obtain ⟨cc, nL, ret, own, nm, tab, mc, ms, nfr, nlo⟩ := I
  intro ok r hr H locs lsA cells slots hR hS hl hc hs
  obtain ⟨hx, hb, hml, hret, hown, hts, hlocks, hnm, htab, hG, hB⟩ := id ok
  obtain ⟨hd, hn⟩ := htab _ (List.mem_of_getElem? hi)
  have hn : npc = pc + 4 := hn
  subst hn
  unfold nM at hr
  by_cases hz : n < 0 ∨ k9 < 0 ∨ 10 < n.toNatClampNeg ∨ 10 < k9.toNatClampNeg
  · rw [if_pos hz] at hr
    cases hr
  · rw [if_neg hz] at hr
    have hn0 : ¬ n < 0 := fun q => hz (Or.inl q)
    have hk0 : ¬ k9 < 0 := fun q => hz (Or.inr (Or.inl q))
    have hnl : n.toNatClampNeg ≤ 10 := Nat.not_lt.mp fun q => hz (Or.inr (Or.inr (Or.inl q)))
    have hkl : k9.toNatClampNeg ≤ 10 := Nat.not_lt.mp fun q => hz (Or.inr (Or.inr (Or.inr q)))
    have hmul : n.toNatClampNeg * k9.toNatClampNeg ≤ 10 * 10 := Nat.mul_le_mul hnl hkl
    have hsz := hR.2.1
    intro T9 hT X9
    obtain ⟨vm₁, cA, comp, -, fA, fC, hO, -, X', step⟩ := X9.multianewarray2F hx hown (ty := .int) (hts _ hw.1) (show (Cond.arrayOver (.array .int)).before args s = true from hG.2.2.2.2.2.2.2.1.2.2.2.1) (hts _ hw.2) (g := F0 m pc lsA (.int k9 :: .int n :: st.map (xtv G))) rfl (by rw [hb]; exact hd) rfl hn0 hk0 (by omega) (show k9.toNatClampNeg * 4 ≤ 536870912 by omega) (by omega) rfl rfl (by show cells + (1 + n.toNatClampNeg) ≤ mc; have hc : cells + (11 + bc) ≤ mc := hc; omega) (by show slots + (n.toNatClampNeg + n.toNatClampNeg * k9.toNatClampNeg) ≤ ms; have hs : slots + (110 + bs) ≤ ms := hs; omega)
    have hcomp : comp = gC G 10 := Option.some.inj (fC.symm.trans (hG.1.2 0 _ rfl).2)
    have hcA : cA = gC G 15 := Option.some.inj (fA.symm.trans (hG.1.2 5 _ rfl).2)
    subst hcomp
    subst hcA
    generalize hF : Multi.fill (T9.setVm vm₁) (gC G 15) (gC G 10) n.toNatClampNeg k9.toNatClampNeg (defaultValue .int) n.toNatClampNeg = F9 at X' step
    have hTh : (T9.setVm vm₁).heap = H := hT
    obtain ⟨f1, f2, -, -⟩ := Multi.fill_facts (T9.setVm vm₁) (gC G 15) (gC G 10) n.toNatClampNeg k9.toNatClampNeg (defaultValue .int) n.toNatClampNeg
    rw [hF, hTh] at f1 f2
    have hold : ∀ x : Nat, x < H.size → F9.heap[x]? = H[x]? := fun x hx => by
      have := Multi.fill_old (T9.setVm vm₁) (gC G 15) (gC G 10) n.toNatClampNeg k9.toNatClampNeg (defaultValue .int) (a := x) (by rw [hTh]; exact hx) n.toNatClampNeg
      rw [hF, hTh] at this
      exact this
    have hrow : ∀ j : Nat, j < n.toNatClampNeg → F9.heap[H.size + 1 + j]? = some (vp_cell (gC G 10) (k9.toNatClampNeg, .inl (fun _ => 0))) := fun j hj => by
      have := Multi.fill_inner (T9.setVm vm₁) (gC G 15) (gC G 10) n.toNatClampNeg k9.toNatClampNeg (defaultValue .int) n.toNatClampNeg j hj
      rw [hF, hTh] at this
      rw [this, vp_cell_i, ← arrV_new]
      rfl
    rw [xouter] at f2
    have z1 : F9.heap.size = H.size + (1 + n.toNatClampNeg) := by rw [f1]; omega
    have hR1 : Rep G (nwM h n.toNatClampNeg k9.toNatClampNeg) F9.heap := by
      refine hR.push (1 + n.toNatClampNeg) rfl (fun b hb => nwM_lo hb) (fun a9 ha => ?_) (fun a9 ha => ?_) (fun j hj => ?_) z1 hold
      · have ha : h.1 + (1 + n.toNatClampNeg) ≤ a9 := ha
        rw [nwM_s2 (Or.inr ha)]
        exact hR.2.2.1 a9 (by omega)
      · by_cases e : a9 = h.1
        · subst e
          rw [nwM_s0] at ha
          exact absurd (show (15 : Nat) < 10 from ha) (by decide)
        · by_cases e2 : h.1 < a9 ∧ a9 < h.1 + (1 + n.toNatClampNeg)
          · rw [nwM_s1 e2] at ha
            exact absurd (show (10 : Nat) < 10 from ha) (by decide)
          · rw [nwM_s2 (by omega)] at ha ⊢
            exact hR.2.2.2 a9 ha
      · by_cases e : j = 0
        · subst e
          rw [Nat.add_zero, xE_arr (k := 15) (by rw [nwM_s0]) (by decide), xAr_r (by rw [nwM_s0]; show (12 : Nat) ≤ 15; decide)]
          show F9.heap[gB G + h.1]? = some (vp_cell _ _)
          rw [← hsz, f2, nwM_s0]
          have e0 : xr (nwM h n.toNatClampNeg k9.toNatClampNeg) h.1 = fun j => if j < n.toNatClampNeg then some (h.1 + 1 + j) else none := if_pos rfl
          rw [e0]
          show some _ = some (vp_cell (gC G 15) (n.toNatClampNeg, .inr (.inr (.inr (.inr (fun j => (if j < n.toNatClampNeg then some (h.1 + 1 + j) else none).map (xa G)))))))
          rw [vp_cell_q]
          congr 2
          funext i9
          by_cases q : i9 < n.toNatClampNeg
          · rw [if_pos q, if_pos q]
            show Value.ref _ = Value.ref _
            rw [hsz]
            exact congrArg Value.ref (show gB G + h.1 + 1 + i9 = gB G + (h.1 + 1 + i9) by omega)
          · rw [if_neg q, if_neg q]
            rfl
        · rw [xE_arr (k := 10) (by rw [nwM_s1 (by omega)]) (by decide), xAr_i (by rw [nwM_s1 (by omega)])]
          show F9.heap[gB G + (h.1 + j)]? = some (vp_cell _ _)
          have e3 : gB G + (h.1 + j) = H.size + 1 + (j - 1) := by rw [hsz]; omega
          rw [e3, hrow (j - 1) (by omega), nwM_s1 (by omega)]
          have e0 : xi (nwM h n.toNatClampNeg k9.toNatClampNeg) (h.1 + j) = fun _ => 0 := if_pos (by omega)
          rw [e0]
    have K := k _ ok r hr F9.heap locs lsA (cells + 1 + n.toNatClampNeg) (slots + n.toNatClampNeg + n.toNatClampNeg * k9.toNatClampNeg) hR1 (xS_push hS z1 hold) hl (by show cells + 1 + n.toNatClampNeg + bc ≤ mc; have hc : cells + (11 + bc) ≤ mc := hc; omega) (by show slots + n.toNatClampNeg + n.toNatClampNeg * k9.toNatClampNeg + bs ≤ ms; have hs : slots + (110 + bs) ≤ ms := hs; omega)
    rw [List.map_cons] at K
    have e4 : xtv G (tA (some (xc h))) = .ref H.size := by rw [hsz]; rfl
    rw [e4] at K
    obtain ⟨t, b1, b2⟩ := K F9 rfl X'
    refine ⟨t, step t ?_, b2⟩
    rw [← hTh] at b1
    exact b1
