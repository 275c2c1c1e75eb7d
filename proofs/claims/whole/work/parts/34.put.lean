/-! PURE: the class's gate: the end of a coin put in -/
theorem X1_put0 {S : SK} {m : Nat → Nat → Int32} {g w : Nat} {p : Int32} (hG : GS S g) (hw : m g 6 = nI w) (h9 : w ≤ 99) : f_X1_putIn_89 (mk S m) (some g) p (nI 0) = some (nI 0, mk S (w2 m g 6 (nI (min (w + 1) 99)))) := by
  have hk : (sh S g).1 = 1 := by rw [hG.1]
  unfold f_X1_putIn_89
  rw [vc_k hk, X1_waitOn hG hw h9]
  rfl
theorem X1_put1 {S : SK} {m : Nat → Nat → Int32} {g w i p : Nat} (hG : GS S g) (hw : m g 6 = nI w) (h9 : w ≤ 99) (hi : m g 8 = nI i) (hp : p < 31) : f_X1_putIn_89 (mk S m) (some g) (nI p) (nI 1) = some (nI 1, mk S (w2 (w2 m g 6 (nI (min (w + 1) 99))) g 8 (nI i ||| nI (2 ^ p)))) := by
  have hk : (sh S g).1 = 1 := by rw [hG.1]
  have e : w2 m g 6 (nI (min (w + 1) 99)) g 8 = nI i := by rw [w2_ap, if_neg (by omega)]; exact hi
  have hs := shl1 (c := p) hp
  unfold f_X1_putIn_89
  rw [vc_k hk, X1_waitOn hG hw h9]
  simp only [Option.bind_some]
  rw [if_neg (by decide), gI_k hk, e]
  simp only [Option.bind_some]
  rw [pI_k hk]
  simp only [Option.bind_some]
  have hs2 : (1 : Int32) <<< (nI p &&& 31) = nI (2 ^ p) := hs
  rw [hs2]
  rfl
