/-! PURE: the memory as a skeleton S (number of cells, shapes, longs, references) and the ints m -/
abbrev SK : Type := Nat × (Nat → Nat × Nat) × (Nat → Nat → Int64) × (Nat → Nat → Option Nat)
def mk (S : SK) (m : Nat → Nat → Int32) : XM := (S.1, S.2.1, m, S.2.2.1, S.2.2.2)
def sh (S : SK) : Nat → Nat × Nat := S.2.1
def lg (S : SK) : Nat → Nat → Int64 := S.2.2.1
def rf (S : SK) : Nat → Nat → Option Nat := S.2.2.2
theorem mk_of (h : XM) : h = mk (h.1, h.2.1, h.2.2.2.1, h.2.2.2.2) h.2.2.1 := rfl
theorem xs_mk (S : SK) (m : Nat → Nat → Int32) : xs (mk S m) = sh S := rfl
theorem xi_mk (S : SK) (m : Nat → Nat → Int32) : xi (mk S m) = m := rfl
theorem xr_mk (S : SK) (m : Nat → Nat → Int32) : xr (mk S m) = rf S := rfl
theorem xl_mk (S : SK) (m : Nat → Nat → Int32) : xl (mk S m) = lg S := rfl
theorem xc_mk (S : SK) (m : Nat → Nat → Int32) : xc (mk S m) = S.1 := rfl
theorem wI_mk (S : SK) (m : Nat → Nat → Int32) (a j : Nat) (v : Int32) : wI (mk S m) a j v = mk S (w2 m a j v) := rfl
theorem gI_mk {S : SK} {m : Nat → Nat → Int32} {k a j : Nat} : gI (mk S m) k (some a) j = if (sh S a).1 = k then some (m a j) else none := rfl
theorem gR_mk {S : SK} {m : Nat → Nat → Int32} {k a j : Nat} : gR (mk S m) k (some a) j = if (sh S a).1 = k then some (rf S a j) else none := rfl
theorem pI_mk {S : SK} {m : Nat → Nat → Int32} {k a j : Nat} {v : Int32} : pI (mk S m) k (some a) j v = if (sh S a).1 = k then some (mk S (w2 m a j v)) else none := rfl
theorem pZ_mk {S : SK} {m : Nat → Nat → Int32} {k a j : Nat} {v : Int32} : pZ (mk S m) k (some a) j v = if (sh S a).1 = k ∧ (v = 0 ∨ v = 1) then some (mk S (w2 m a j v)) else none := rfl
theorem rI_mk {S : SK} {m : Nat → Nat → Int32} {a : Nat} {i : Int32} : rI (mk S m) (some a) i = if (sh S a).1 = 10 ∧ ¬ (i < 0 ∨ (sh S a).2 ≤ i.toNatClampNeg) then some (m a i.toNatClampNeg) else none := rfl
theorem sI_mk {S : SK} {m : Nat → Nat → Int32} {a : Nat} {i v : Int32} : sI (mk S m) (some a) i v = if (sh S a).1 = 10 ∧ ¬ (i < 0 ∨ (sh S a).2 ≤ i.toNatClampNeg) then some (mk S (w2 m a i.toNatClampNeg v)) else none := rfl
theorem rR_mk {S : SK} {m : Nat → Nat → Int32} {k a : Nat} {i : Int32} : rR k (mk S m) (some a) i = if (sh S a).1 = k ∧ ¬ (i < 0 ∨ (sh S a).2 ≤ i.toNatClampNeg) then some (rf S a i.toNatClampNeg) else none := rfl
theorem ln_mk {S : SK} {m : Nat → Nat → Int32} {a : Nat} : ln (mk S m) (some a) = if 10 ≤ (sh S a).1 ∧ (sh S a).1 ≤ 15 then some (Int32.ofNat (sh S a).2) else none := rfl
theorem vc_mk {α : Type} {S : SK} {m : Nat → Nat → Int32} {k a : Nat} {o : Option α} : vc (mk S m) k (some a) o = if (sh S a).1 = k then o else none := rfl
theorem w2_ap {α : Type} {f : Nat → Nat → α} {a j b k : Nat} {v : α} : w2 f a j v b k = if b = a ∧ k = j then v else f b k := rfl
theorem w2_w2 {α : Type} {f : Nat → Nat → α} {a j : Nat} {u v : α} : w2 (w2 f a j u) a j v = w2 f a j v := by
  funext b k
  simp only [w2]
  split <;> rfl
theorem w2_id {α : Type} {f : Nat → Nat → α} {a j : Nat} : w2 f a j (f a j) = f := by
  funext b k
  simp only [w2]
  split
  · rename_i h
    rw [h.1, h.2]
  · rfl
theorem nI_ofNat (n : Nat) : Int32.ofNat n = nI n := rfl
/-- an index in range -/
theorem ixN {n N : Nat} (h : n < N) (hN : N < 2 ^ 31) : ¬ (nI n < 0 ∨ N ≤ (nI n).toNatClampNeg) := nI_in h hN
theorem rI_n {S : SK} {m : Nat → Nat → Int32} {a n N : Nat} (hs : sh S a = (10, N)) (hn : n < N) (hN : N < 2 ^ 31) : rI (mk S m) (some a) (nI n) = some (m a n) := by
  rw [rI_mk, hs, if_pos ⟨rfl, ixN hn hN⟩, nI_clamp (by omega)]
theorem sI_n {S : SK} {m : Nat → Nat → Int32} {a n N : Nat} {v : Int32} (hs : sh S a = (10, N)) (hn : n < N) (hN : N < 2 ^ 31) : sI (mk S m) (some a) (nI n) v = some (mk S (w2 m a n v)) := by
  rw [sI_mk, hs, if_pos ⟨rfl, ixN hn hN⟩, nI_clamp (by omega)]
theorem rR_n {S : SK} {m : Nat → Nat → Int32} {k a n N : Nat} (hs : sh S a = (k, N)) (hn : n < N) (hN : N < 2 ^ 31) : rR k (mk S m) (some a) (nI n) = some (rf S a n) := by
  rw [rR_mk, hs, if_pos ⟨rfl, ixN hn hN⟩, nI_clamp (by omega)]
theorem gI_k {S : SK} {m : Nat → Nat → Int32} {k a j : Nat} (h : (sh S a).1 = k) : gI (mk S m) k (some a) j = some (m a j) := by rw [gI_mk, if_pos h]
theorem gR_k {S : SK} {m : Nat → Nat → Int32} {k a j : Nat} (h : (sh S a).1 = k) : gR (mk S m) k (some a) j = some (rf S a j) := by rw [gR_mk, if_pos h]
theorem pI_k {S : SK} {m : Nat → Nat → Int32} {k a j : Nat} {v : Int32} (h : (sh S a).1 = k) : pI (mk S m) k (some a) j v = some (mk S (w2 m a j v)) := by rw [pI_mk, if_pos h]
theorem vc_k {α : Type} {S : SK} {m : Nat → Nat → Int32} {k a : Nat} {o : Option α} (h : (sh S a).1 = k) : vc (mk S m) k (some a) o = o := by rw [vc_mk, if_pos h]
/-- a literal as a number -/
theorem lI (n : Nat) : (OfNat.ofNat n : Int32) = nI n := rfl
/-- the ints agree but at some cells -/
def Ag (Z : Nat → Prop) (m m2 : Nat → Nat → Int32) : Prop := ∀ a, ¬ Z a → m2 a = m a
theorem Ag.rf {Z : Nat → Prop} {m : Nat → Nat → Int32} : Ag Z m m := fun _ _ => rfl
theorem Ag.tr {Z : Nat → Prop} {m m2 m3 : Nat → Nat → Int32} (h : Ag Z m m2) (h2 : Ag Z m2 m3) : Ag Z m m3 := fun a ha => (h2 a ha).trans (h a ha)
theorem Ag.w2 {Z : Nat → Prop} {m m2 : Nat → Nat → Int32} {a j : Nat} {v : Int32} (h : Ag Z m m2) (ha : Z a) : Ag Z m (w2 m2 a j v) := fun b hb => by
  rw [w2_ne (fun e => hb (by rw [e]; exact ha))]
  exact h b hb
theorem Ag.mono {Z Z2 : Nat → Prop} {m m2 : Nat → Nat → Int32} (h : Ag Z m m2) (hz : ∀ a, Z a → Z2 a) : Ag Z2 m m2 := fun a ha => h a (fun q => ha (hz a q))
