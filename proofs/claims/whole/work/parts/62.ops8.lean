/-! PURE: calls: keys, gifts -/
def ksS (p : Nat → Bool) : Nat → Nat → Nat → Nat
  | 0, _, a => a
  | r + 1, i, a => ksS p r (i + 1) (if p i = true then a ||| 2 ^ i else a)
def anyS (p : Nat → Bool) : Nat → Nat → Bool
  | 0, _ => false
  | r + 1, i => p i || anyS p r (i + 1)
theorem rz_n {h : XM} {b : Bool} : rz h (nI (if b = true then 1 else 0)) = some (nI (if b = true then 1 else 0), h) := by
  cases b <;> rfl
theorem m1_bits : ∀ p, p < 4 → (((-1 : Int32) >>> (nI p &&& nI 31)) &&& nI 1) = nI (if (fun _ : Nat => true) p = true then 1 else 0) := by decide +kernel
theorem C_may {S : SK} {m : Nat → Nat → Int32} {g : Nat} {E : EN} {l : Nat} {q : QS} (h : CI S m g E l q) : ∃ may, f_X1_movable (mk S m) (some g) (-1) = some (nI may, mk S m) ∧ may < 128 ∧ ∀ c, may.testBit c = true ↔ c < eN E ∧ canS E q c = true := by
  have hE := h.1.2.1
  refine ⟨_, C_movable h m1_bits, mv_lt E q (fun _ => true) (eP E) hE.2.2.1, fun c => ?_⟩
  rw [mv_bit]
  constructor
  · rintro ⟨a, _, _, d⟩
    exact ⟨a, d⟩
  · rintro ⟨a, d⟩
    exact ⟨a, (hE.2.2.2 c a).1, rfl, d⟩
theorem ks_skip (p : Nat → Bool) {N i a : Nat} (h : ¬ (i < N ∧ p i = true)) : ksS p (N - i) i a = ksS p (N - (i + 1)) (i + 1) a := by
  by_cases z : i < N
  · obtain ⟨s, hs⟩ : ∃ s, N - i = s + 1 := ⟨N - i - 1, by omega⟩
    have hs2 : N - (i + 1) = s := by omega
    rw [hs, hs2]
    show ksS p s (i + 1) (if p i = true then _ else a) = _
    rw [if_neg (fun y => h ⟨z, y⟩)]
  · have e1 : N - i = 0 := by omega
    have e2 : N - (i + 1) = 0 := by omega
    rw [e1, e2]
    rfl
theorem ks_take (p : Nat → Bool) {N i a : Nat} (h : i < N) (h2 : p i = true) : ksS p (N - i) i a = ksS p (N - (i + 1)) (i + 1) (a ||| 2 ^ i) := by
  obtain ⟨s, hs⟩ : ∃ s, N - i = s + 1 := ⟨N - i - 1, by omega⟩
  have hs2 : N - (i + 1) = s := by omega
  rw [hs, hs2]
  show ksS p s (i + 1) (if p i = true then _ else a) = _
  rw [if_pos h2]
theorem zg9_zj {S : SK} {b : Nat} (h : ZG S 9 b) : ZJ S b := by
  rcases h with z | z | z
  · exact Or.inr (Or.inl (by omega))
  · exact Or.inr (Or.inl (by omega))
  · exact Or.inr (Or.inr z)
def keyB (E : EN) (q : QS) (c : Nat) : Bool := canS E q c && opS E q c
theorem C_keys {S : SK} {E : EN} {l may : Nat} {q : QS} (hm : may < 128) (hb : ∀ c, may.testBit c = true ↔ c < eN E ∧ canS E q c = true) : ∀ (r f i : Nat) (m : Nat → Nat → Int32) (a : Nat), i + r = 7 → r < f → CI S m 3 E l q →
    ∃ m2, f_X8_keys_13 f (mk S m) (some 0) (nI may) (nI a) (nI i) = some (nI (ksS (keyB E q) (eN E - i) i a), mk S m2) ∧ Ag (ZJ S) m m2 := by
  intro r
  induction r with
  | zero =>
    intro f i m a hi hf hC
    obtain ⟨f, rfl⟩ : ∃ k, f = k + 1 := ⟨f - 1, by omega⟩
    have hi : i = 7 := by omega
    subst hi
    have hN := hC.1.2.1.2.2.1
    have e0 : eN E - 7 = 0 := by omega
    rw [e0]
    exact ⟨m, rfl, Ag.rf⟩
  | succ r ih =>
    intro f i m a hi hf hC
    obtain ⟨f, rfl⟩ : ∃ k, f = k + 1 := ⟨f - 1, by omega⟩
    have hS := hC.1.1
    have hk8 : (sh S 0).1 = 8 := by rw [sk0 hS]
    have hk1 : (sh S 9).1 = 1 := by rw [sk9 hS]
    have hk3 : (sh S 3).1 = 1 := by rw [sk3 hS]
    have r04 : ∀ m', gR (mk S m') 8 (some 0) 4 = some (some 9) := fun m' => by rw [gR_k hk8, rk0_4 hS]
    have hbit : ((nI may >>> (nI i &&& 31)) &&& 1) = nI (if may.testBit i = true then 1 else 0) := bitI (by omega) (by omega)
    have e58 : ∀ h a, f_X8_keys_58 (f_X8_keys_13 f) h (some 0) (nI may) (nI a) (nI i) = f_X8_keys_13 f h (some 0) (nI may) (nI a) (nI (i + 1)) := fun h a => by
      unfold f_X8_keys_58
      rw [bnd_eq, show nI i + (1 : Int32) = nI (i + 1) from nI_add i 1]
    show ∃ m2, fb_X8_keys_13 (f_X8_keys_13 f) (mk S m) (some 0) (nI may) (nI a) (nI i) = _ ∧ _
    unfold fb_X8_keys_13
    rw [if_pos (show nI i < (7 : Int32) from (nI_ltI (b := 7) (by omega) (by omega)).2 (by omega)), hbit]
    by_cases hmb : may.testBit i = true
    · obtain ⟨hiN, hcan⟩ := (hb i).1 hmb
      obtain ⟨m1, e1, hC1, ag1⟩ := C_become hC (g := 9) (Or.inr (Or.inr (Or.inl rfl))) (by decide)
      obtain ⟨m2, e2, _, ag2⟩ := C_put hC1 hiN
      have agJ : Ag (ZJ S) m m2 := (ag1.mono (fun b hb => Or.inr (Or.inl (by omega)))).tr (ag2.mono (fun b hb => zg9_zj hb))
      have hC2 := hC.zj agJ
      rw [hmb, if_neg (show ¬ nI (if true = true then 1 else 0) = (0 : Int32) by decide), r04, Option.bind_some, r0_2 hS, Option.bind_some, vc_k hk1, e1, Option.bind_some, r04, Option.bind_some, vc_k hk1, e2, Option.bind_some]
      by_cases hop : opS E q i = true
      · have hk : keyB E q i = true := by
          unfold keyB
          rw [hcan, hop]
          rfl
        obtain ⟨m3, e3, ag3⟩ := ih f (i + 1) m2 (a ||| 2 ^ i) (by omega) (by omega) hC2
        rw [ks_take (keyB E q) hiN hk]
        refine ⟨m3, ?_, agJ.tr ag3⟩
        rw [hop, if_neg (show ¬ nI (if true = true then 1 else 0) = (0 : Int32) by decide), bnd_eq, show (1 : Int32) <<< (nI i &&& 31) = nI (2 ^ i) from shl1 (by omega), fa_or, e58]
        exact e3
      · have hop' : opS E q i = false := by simpa using hop
        obtain ⟨m3, e3, ag3⟩ := ih f (i + 1) m2 a (by omega) (by omega) hC2
        rw [ks_skip (keyB E q) (fun z => by
          have := z.2
          unfold keyB at this
          rw [hop'] at this
          simp at this)]
        refine ⟨m3, ?_, agJ.tr ag3⟩
        rw [hop', if_pos (show nI (if false = true then 1 else 0) = (0 : Int32) from rfl), e58]
        exact e3
    · have hmb' : may.testBit i = false := by simpa using hmb
      obtain ⟨m3, e3, ag3⟩ := ih f (i + 1) m a (by omega) (by omega) hC
      rw [ks_skip (keyB E q) (fun z => hmb ((hb i).2 ⟨z.1, by
        have := z.2
        unfold keyB at this
        exact (Bool.and_eq_true _ _ ▸ this).1⟩))]
      refine ⟨m3, ?_, ag3⟩
      rw [hmb', if_pos (show nI (if false = true then 1 else 0) = (0 : Int32) from rfl), e58]
      exact e3
theorem M_would {S : SK} {m : Nat → Nat → Int32} {E : EN} {l c dp : Nat} {q : QS} (h : MV S m E l q) (hc : c < eN E) (hd : dp < 16) :
    ∃ L m2, f_X9_wouldOpen (mk S m) (some 50) (nI c) (nI dp) = some (nI (if opS E q c = true then 1 else 0), mk (sLg S L) m2) ∧ MV (sLg S L) m2 E l q ∧ AgM ZB JQ m m2 ∧ ∀ j, j < 4 * dp ∨ 4 * dp + 4 ≤ j → m2 70 j = m 70 j := by
  obtain ⟨m1, e1, hM1, hK1, ag1, lo1⟩ := M_keeps h hd
  obtain ⟨L, m2, e2, hM2, ag2⟩ := M_put hM1 hc
  have hK2 : KP m2 dp q := by
    unfold KP
    rw [ag2.1 70 (by decide) (by unfold ZA; omega)]
    exact hK1
  obtain ⟨m3, e3, hM3, ag3⟩ := M_lays hM2 hd hK2 h.2.2.2.2.1
  refine ⟨L, m3, ?_, hM3, ?_, ?_⟩
  · unfold f_X9_wouldOpen
    rw [vc_k h.k, e1, Option.bind_some, vc_k hM1.k, e2, Option.bind_some]
    show (vc (mk (sLg S L) m2) 9 (some 50) (f_X9_laysBack (mk (sLg S L) m2) (some 50) (nI dp))).bind _ = _
    rw [vc_k hM2.k, e3, Option.bind_some, rz_n]
  · exact ((ag1.mono (fun b hb => by unfold Z70 at hb; unfold ZB; omega) (fun _ z => z.elim)).tr (ag2.mono (fun b hb => by unfold ZA at hb; unfold ZB; omega) (fun _ z => z))).tr (ag3.mono (fun _ z => z.elim) (fun _ z => z))
  · intro j hj
    rw [ag3.1 70 (by decide) id, ag2.1 70 (by decide) (by unfold ZA; omega), lo1 j hj]
theorem M_keys {E : EN} {l : Nat} {q : QS} : ∀ (r f i : Nat) (S : SK) (m : Nat → Nat → Int32) (a : Nat), i + r = eN E → r < f → MV S m E l q →
    ∃ L m2, f_X9_keys_4 f (mk S m) (some 50) (nI a) (nI i) = some (nI (ksS (keyB E q) r i a), mk (sLg S L) m2) ∧ MV (sLg S L) m2 E l q ∧ AgM ZB JQ m m2 := by
  intro r
  induction r with
  | zero =>
    intro f i S m a hi hf hM
    obtain ⟨f, rfl⟩ : ∃ k, f = k + 1 := ⟨f - 1, by omega⟩
    have hN := hM.2.1.2.2.1
    refine ⟨lg S, m, ?_, hM, AgM.rf⟩
    show fb_X9_keys_4 (f_X9_keys_4 f) (mk S m) (some 50) (nI a) (nI i) = _
    unfold fb_X9_keys_4
    rw [gI_k hM.k, hM.2.2.2.1.2.2.2.2.2.1, Option.bind_some, if_neg (by rw [nI_ltI (by omega) (by omega)]; omega)]
    rfl
  | succ r ih =>
    intro f i S m a hi hf hM
    obtain ⟨f, rfl⟩ : ∃ k, f = k + 1 := ⟨f - 1, by omega⟩
    have hN := hM.2.1.2.2.1
    have hiN : i < eN E := by omega
    have e36 : ∀ h a, f_X9_keys_36 (f_X9_keys_4 f) h (some 50) (nI i) (nI a) = f_X9_keys_4 f h (some 50) (nI a) (nI (i + 1)) := fun h a => by
      unfold f_X9_keys_36 f_X9_keys_37
      rw [bnd_eq, bnd_eq, show nI a ||| (0 : Int32) = nI (a ||| 0) from fa_or a 0, Nat.or_zero, show nI i + (1 : Int32) = nI (i + 1) from nI_add i 1]
    have e37 : ∀ h a b, f_X9_keys_37 (f_X9_keys_4 f) h (some 50) (nI i) (nI b) (nI a) = f_X9_keys_4 f h (some 50) (nI (a ||| b)) (nI (i + 1)) := fun h a b => by
      unfold f_X9_keys_37
      rw [bnd_eq, bnd_eq, fa_or, show nI i + (1 : Int32) = nI (i + 1) from nI_add i 1]
    have es : ksS (keyB E q) (r + 1) i a = ksS (keyB E q) r (i + 1) (if keyB E q i = true then a ||| 2 ^ i else a) := rfl
    rw [es]
    show ∃ L m2, fb_X9_keys_4 (f_X9_keys_4 f) (mk S m) (some 50) (nI a) (nI i) = _ ∧ _
    unfold fb_X9_keys_4
    rw [gI_k hM.k, hM.2.2.2.1.2.2.2.2.2.1, Option.bind_some, if_pos (by rw [nI_ltI (by omega) (by omega)]; omega), vc_k hM.k, M_canPut hM hiN, Option.bind_some]
    by_cases hcan : canS E q i = true
    · obtain ⟨L1, m1, e1, hM1, ag1, _⟩ := M_would hM hiN (dp := 0) (by decide)
      have e1' : f_X9_wouldOpen (mk S m) (some 50) (nI i) (0 : Int32) = _ := e1
      rw [hcan, if_neg (show ¬ nI (if true = true then 1 else 0) = (0 : Int32) by decide), vc_k hM.k, e1', Option.bind_some]
      have hkb : keyB E q i = opS E q i := by
        unfold keyB
        rw [hcan]
        rfl
      rw [hkb]
      by_cases hop : opS E q i = true
      · obtain ⟨L2, m2, e2, hM2, ag2⟩ := ih f (i + 1) (sLg S L1) m1 (a ||| 2 ^ i) (by omega) (by omega) hM1
        refine ⟨L2, m2, ?_, hM2, ag1.tr ag2⟩
        rw [hop, if_neg (show ¬ nI (if true = true then 1 else 0) = (0 : Int32) by decide), if_pos rfl, show (1 : Int32) <<< (nI i &&& 31) = nI (2 ^ i) from shl1 (by omega), e37]
        exact e2
      · have hop' : opS E q i = false := by simpa using hop
        obtain ⟨L2, m2, e2, hM2, ag2⟩ := ih f (i + 1) (sLg S L1) m1 a (by omega) (by omega) hM1
        refine ⟨L2, m2, ?_, hM2, ag1.tr ag2⟩
        rw [hop', if_pos (show nI (if false = true then 1 else 0) = (0 : Int32) from rfl), if_neg (by decide), e36]
        exact e2
    · have hcan' : canS E q i = false := by simpa using hcan
      obtain ⟨L2, m2, e2, hM2, ag2⟩ := ih f (i + 1) S m a (by omega) (by omega) hM
      refine ⟨L2, m2, ?_, hM2, ag2⟩
      have hkb : keyB E q i = false := by
        unfold keyB
        rw [hcan']
        rfl
      rw [hcan', if_pos (show nI (if false = true then 1 else 0) = (0 : Int32) from rfl), hkb, if_neg (by decide), e36]
      exact e2
theorem jq_jm {j : Nat} (h : JQ j) : JM j := by
  unfold JQ at h
  unfold JM
  omega
theorem op_keys {S : SK} {m : Nat → Nat → Int32} (hR : RR S m) : RES (f_X8_keys (mk S m) (some 0)) (fun S1 m1 => f_X9_keys (mk S1 m1) (some 50)) := by
  have hR0 := hR
  have hS := hR.ok
  have hk8 : (sh S 0).1 = 8 := by rw [sk0 hS]
  have hk1 : (sh S 3).1 = 1 := by rw [sk3 hS]
  have hk : (sh S 50).1 = 9 := by rw [sk50 hS]
  obtain ⟨d, P, N, l, T, wh, kd, td, mo, prs, q, h⟩ := hR
  obtain ⟨hl, ⟨g1, g2, g3⟩, hO⟩ := h
  have hN : N ≤ 7 := g1.1.2.1.2.2.1
  obtain ⟨may, em, hm, hb⟩ := C_may g1
  obtain ⟨m1, e1, agJ⟩ := C_keys hm hb 7 FU 0 m 0 (by omega) (by unfold FU; omega) g1
  have hM1 := g2.ofC agJ zj_50
  obtain ⟨L, m2, e2, hM2, ag2⟩ := M_keys (E := mkE d P N wh kd td mo (prs l)) (q := q) N FU 0 S m1 0 (show 0 + N = N by omega) (by unfold FU; omega) hM1
  have h37 : m2 50 37 = nI 0 := by
    rw [ag2.2 37 (by unfold JQ; omega), agJ 50 (zj_50 50 (by omega))]
    exact g3
  refine op_mk (a := nI (ksS (keyB (mkE d P N wh kd td mo (prs l)) q) N 0 0)) (S1 := S) (m1 := m1) (S2 := sLg S L) (m2 := m2) ?_ e2 ⟨d, P, N, l, T, wh, kd, td, mo, prs, q, RP.q ⟨hl, ⟨g1, g2, g3⟩, hO⟩ agJ (ag2.mono (fun b hb => zb_zm hb) (fun j hj => jq_jm hj)) hM2 h37⟩
  unfold f_X8_keys
  rw [r0_2 hS, Option.bind_some, vc_k hk1, em, Option.bind_some]
  exact e1
/-! gifts -/
def giftB (E : EN) (q : QS) (c o : Nat) : Bool := !decide (eW E o = eW E c) && canS E q o && opS E (putS E q c) o
def gifB (E : EN) (q : QS) (c : Nat) : Bool := canS E q c && anyS (giftB E q c) (eN E) 0
theorem can_put {E : EN} {q : QS} {c o : Nat} (h : ¬ eW E o = eW E c) : canS E (putS E q c) o = canS E q o := by
  have hne : ¬ c = o := fun z => h (by rw [z])
  have e1 : (putS E q c).2.2.2.testBit o = q.2.2.2.testBit o := by
    show (q.2.2.2 ||| 2 ^ c).testBit o = _
    rw [tb_set]
    simp [hne]
  have e2 : (putS E q c).2.2.1.testBit (eW E o) = q.2.2.1.testBit (eW E o) := by
    show (if opS E q c = true then q.2.2.1 ||| 2 ^ eW E c else q.2.2.1).testBit (eW E o) = _
    split
    · rw [tb_set]
      have : decide (eW E c = eW E o) = false := by
        simp
        exact fun z => h z.symm
      rw [this, Bool.or_false]
    · rfl
  unfold canS
  rw [e1, e2]
theorem any_skip (p : Nat → Bool) {N i : Nat} (h : ¬ (i < N ∧ p i = true)) : anyS p (N - i) i = anyS p (N - (i + 1)) (i + 1) := by
  by_cases z : i < N
  · obtain ⟨s, hs⟩ : ∃ s, N - i = s + 1 := ⟨N - i - 1, by omega⟩
    have hs2 : N - (i + 1) = s := by omega
    rw [hs, hs2]
    show (p i || anyS p s (i + 1)) = _
    have : p i = false := by
      cases hp : p i
      · rfl
      · exact absurd ⟨z, hp⟩ h
    rw [this, Bool.false_or]
  · have e1 : N - i = 0 := by omega
    have e2 : N - (i + 1) = 0 := by omega
    rw [e1, e2]
    rfl
theorem any_take (p : Nat → Bool) {N i : Nat} (h : i < N) (h2 : p i = true) : anyS p (N - i) i = true := by
  obtain ⟨s, hs⟩ : ∃ s, N - i = s + 1 := ⟨N - i - 1, by omega⟩
  rw [hs]
  show (p i || anyS p s (i + 1)) = true
  rw [h2]
  rfl
theorem C_isGiftL {S : SK} {E : EN} {l oth c : Nat} {q : QS} (hc : c < eN E) (hm : oth < 128) (hb : ∀ o, oth.testBit o = true ↔ o < eN E ∧ (¬ eW E o = eW E c ∧ canS E q o = true)) : ∀ (r f i : Nat) (m : Nat → Nat → Int32), i + r = 7 → r < f → CI S m 3 E l q →
    ∃ m2, f_X8_isGift_23 f (mk S m) (some 0) (nI c) (nI oth) (nI i) = some (nI (if anyS (giftB E q c) (eN E - i) i = true then 1 else 0), mk S m2) ∧ Ag (ZJ S) m m2 := by
  intro r
  induction r with
  | zero =>
    intro f i m hi hf hC
    obtain ⟨f, rfl⟩ : ∃ k, f = k + 1 := ⟨f - 1, by omega⟩
    have hi : i = 7 := by omega
    subst hi
    have hN := hC.1.2.1.2.2.1
    have e0 : eN E - 7 = 0 := by omega
    rw [e0]
    exact ⟨m, rfl, Ag.rf⟩
  | succ r ih =>
    intro f i m hi hf hC
    obtain ⟨f, rfl⟩ : ∃ k, f = k + 1 := ⟨f - 1, by omega⟩
    have hS := hC.1.1
    have hk8 : (sh S 0).1 = 8 := by rw [sk0 hS]
    have hk1 : (sh S 9).1 = 1 := by rw [sk9 hS]
    have r04 : ∀ m', gR (mk S m') 8 (some 0) 4 = some (some 9) := fun m' => by rw [gR_k hk8, rk0_4 hS]
    have hbit : ((nI oth >>> (nI i &&& 31)) &&& 1) = nI (if oth.testBit i = true then 1 else 0) := bitI (by omega) (by omega)
    have e76 : ∀ h, f_X8_isGift_76 (f_X8_isGift_23 f) h (some 0) (nI c) (nI oth) (nI i) = f_X8_isGift_23 f h (some 0) (nI c) (nI oth) (nI (i + 1)) := fun h => by
      unfold f_X8_isGift_76
      rw [bnd_eq, show nI i + (1 : Int32) = nI (i + 1) from nI_add i 1]
    show ∃ m2, fb_X8_isGift_23 (f_X8_isGift_23 f) (mk S m) (some 0) (nI c) (nI oth) (nI i) = _ ∧ _
    unfold fb_X8_isGift_23
    rw [if_pos (show nI i < (7 : Int32) from (nI_ltI (b := 7) (by omega) (by omega)).2 (by omega)), hbit]
    by_cases hmb : oth.testBit i = true
    · obtain ⟨hiN, hw, hcan⟩ := (hb i).1 hmb
      obtain ⟨m1, e1, hC1, ag1⟩ := C_become hC (g := 9) (Or.inr (Or.inr (Or.inl rfl))) (by decide)
      obtain ⟨m2, e2, hC2, ag2⟩ := C_put hC1 hc
      obtain ⟨m3, e3, _, ag3⟩ := C_put hC2 hiN
      have agJ : Ag (ZJ S) m m3 := ((ag1.mono (fun b hb => Or.inr (Or.inl (by omega)))).tr (ag2.mono (fun b hb => zg9_zj hb))).tr (ag3.mono (fun b hb => zg9_zj hb))
      have hC3 := hC.zj agJ
      have hgb : giftB E q c i = opS E (putS E q c) i := by
        unfold giftB
        rw [hcan]
        simp [hw]
      rw [hmb, if_neg (show ¬ nI (if true = true then 1 else 0) = (0 : Int32) by decide), r04, Option.bind_some, r0_2 hS, Option.bind_some, vc_k hk1, e1, Option.bind_some, r04, Option.bind_some, vc_k hk1, e2, Option.bind_some]
      show ∃ m2', (gR (mk S m2) 8 (some 0) 4).bind _ = _ ∧ _
      rw [r04, Option.bind_some, vc_k hk1, e3, Option.bind_some]
      by_cases hop : opS E (putS E q c) i = true
      · rw [any_take (giftB E q c) hiN (by rw [hgb]; exact hop)]
        refine ⟨m3, ?_, agJ⟩
        rw [hop, if_neg (show ¬ nI (if true = true then 1 else 0) = (0 : Int32) by decide)]
        rfl
      · have hop' : opS E (putS E q c) i = false := by simpa using hop
        obtain ⟨m4, e4, ag4⟩ := ih f (i + 1) m3 (by omega) (by omega) hC3
        rw [any_skip (giftB E q c) (fun z => hop (by rw [← hgb]; exact z.2))]
        refine ⟨m4, ?_, agJ.tr ag4⟩
        rw [hop', if_pos (show nI (if false = true then 1 else 0) = (0 : Int32) from rfl), e76]
        exact e4
    · have hmb' : oth.testBit i = false := by simpa using hmb
      obtain ⟨m3, e3, ag3⟩ := ih f (i + 1) m (by omega) (by omega) hC
      rw [any_skip (giftB E q c) (fun z => hmb ((hb i).2 ⟨z.1, by
        have := z.2
        unfold giftB at this
        simp at this
        exact ⟨this.1.1, this.1.2⟩⟩))]
      refine ⟨m3, ?_, ag3⟩
      rw [hmb', if_pos (show nI (if false = true then 1 else 0) = (0 : Int32) from rfl), e76]
      exact e3
theorem C_isGift {S : SK} {m : Nat → Nat → Int32} {E : EN} {l may c : Nat} {q : QS} (hC : CI S m 3 E l q) (hc : c < eN E) (hm : may < 128) (hb : ∀ o, may.testBit o = true ↔ o < eN E ∧ canS E q o = true) :
    ∃ m2, f_X8_isGift (mk S m) (some 0) (nI c) (nI may) = some (nI (if anyS (giftB E q c) (eN E) 0 = true then 1 else 0), mk S m2) ∧ Ag (ZJ S) m m2 := by
  have hS := hC.1.1
  have hE := hC.1.2.1
  have hN := hE.2.2.1
  have hk3 : (sh S 3).1 = 1 := by rw [sk3 hS]
  have hG := GS_of hS hC.2.1
  have hw4 : eW E c < 4 := Nat.lt_of_lt_of_le (hE.2.2.2 c hc).1 hE.2.1
  have eo := X1_ownerOf (S := S) (m := m) (c := c) hG hC.own (by omega)
  rw [hC.owS hc] at eo
  have el := X1_leftOf (S := S) (m := m) (p := eW E c) hG (hC.own _ hw4).1 hC.2.2.1.2.2.2.2.2.2.1 (hC.own _ hw4).2 hw4
  have hlm : omS (eW E) (eW E c) (eN E) ^^^ (omS (eW E) (eW E c) (eN E) &&& q.2.2.2) = lmS E (eW E c) q.2.2.2 := rfl
  rw [hlm] at el
  obtain ⟨oth, ho⟩ : ∃ oth, oth = may ^^^ (may &&& lmS E (eW E c) q.2.2.2) := ⟨_, rfl⟩
  have hoth : oth < 128 := by
    rw [ho]
    exact Nat.xor_lt_two_pow (n := 7) hm (Nat.lt_of_le_of_lt Nat.and_le_left hm)
  have hbo : ∀ o, oth.testBit o = true ↔ o < eN E ∧ (¬ eW E o = eW E c ∧ canS E q o = true) := by
    intro o
    have h1 := hb o
    have h2 := lm_bit E (eW E c) q.2.2.2 o
    rw [ho, tb_diff]
    constructor
    · intro z
      have z' : may.testBit o = true ∧ (lmS E (eW E c) q.2.2.2).testBit o = false := by simpa using z
      obtain ⟨a1, a2⟩ := h1.1 z'.1
      refine ⟨a1, fun y => ?_, a2⟩
      have := h2.2 ⟨a1, y, (can_iff.1 a2).1⟩
      rw [this] at z'
      exact absurd z'.2 (by decide)
    · rintro ⟨a1, a2, a3⟩
      have b1 := h1.2 ⟨a1, a3⟩
      have b2 : (lmS E (eW E c) q.2.2.2).testBit o = false := by
        cases z : (lmS E (eW E c) q.2.2.2).testBit o
        · rfl
        · exact absurd (h2.1 z).2.1 a2
      rw [b1, b2]
      rfl
  obtain ⟨m2, e2, ag2⟩ := C_isGiftL hc hoth hbo 7 FU 0 m (by omega) (by unfold FU; omega) hC
  refine ⟨m2, ?_, ag2⟩
  unfold f_X8_isGift
  rw [r0_2 hS, Option.bind_some, Option.bind_some, vc_k hk3, eo, Option.bind_some, vc_k hk3, el, Option.bind_some, bnd_eq]
  rw [show nI may &&& ((nI (lmS E (eW E c) q.2.2.2), mk S m).1 ^^^ (-1 : Int32)) = nI oth from by rw [ho]; exact compl_n (by omega)]
  exact e2
theorem C_gifts {S : SK} {E : EN} {l may : Nat} {q : QS} (hm : may < 128) (hb : ∀ c, may.testBit c = true ↔ c < eN E ∧ canS E q c = true) : ∀ (r f i : Nat) (m : Nat → Nat → Int32) (a : Nat), i + r = 7 → r < f → CI S m 3 E l q →
    ∃ m2, f_X8_gifts_13 f (mk S m) (some 0) (nI may) (nI a) (nI i) = some (nI (ksS (gifB E q) (eN E - i) i a), mk S m2) ∧ Ag (ZJ S) m m2 := by
  intro r
  induction r with
  | zero =>
    intro f i m a hi hf hC
    obtain ⟨f, rfl⟩ : ∃ k, f = k + 1 := ⟨f - 1, by omega⟩
    have hi : i = 7 := by omega
    subst hi
    have hN := hC.1.2.1.2.2.1
    have e0 : eN E - 7 = 0 := by omega
    rw [e0]
    exact ⟨m, rfl, Ag.rf⟩
  | succ r ih =>
    intro f i m a hi hf hC
    obtain ⟨f, rfl⟩ : ∃ k, f = k + 1 := ⟨f - 1, by omega⟩
    have hk8 : (sh S 0).1 = 8 := by rw [sk0 hC.1.1]
    have hbit : ((nI may >>> (nI i &&& 31)) &&& 1) = nI (if may.testBit i = true then 1 else 0) := bitI (by omega) (by omega)
    have e42 : ∀ h a, f_X8_gifts_42 (f_X8_gifts_13 f) h (some 0) (nI may) (nI a) (nI i) = f_X8_gifts_13 f h (some 0) (nI may) (nI a) (nI (i + 1)) := fun h a => by
      unfold f_X8_gifts_42
      rw [bnd_eq, show nI i + (1 : Int32) = nI (i + 1) from nI_add i 1]
    show ∃ m2, fb_X8_gifts_13 (f_X8_gifts_13 f) (mk S m) (some 0) (nI may) (nI a) (nI i) = _ ∧ _
    unfold fb_X8_gifts_13
    rw [if_pos (show nI i < (7 : Int32) from (nI_ltI (b := 7) (by omega) (by omega)).2 (by omega)), hbit]
    by_cases hmb : may.testBit i = true
    · obtain ⟨hiN, hcan⟩ := (hb i).1 hmb
      obtain ⟨m2, e2, agJ⟩ := C_isGift hC hiN hm hb
      have hC2 := hC.zj agJ
      have hgb : gifB E q i = anyS (giftB E q i) (eN E) 0 := by
        unfold gifB
        rw [hcan]
        rfl
      rw [hmb, if_neg (show ¬ nI (if true = true then 1 else 0) = (0 : Int32) by decide), vc_k hk8, e2, Option.bind_some]
      by_cases hop : anyS (giftB E q i) (eN E) 0 = true
      · obtain ⟨m3, e3, ag3⟩ := ih f (i + 1) m2 (a ||| 2 ^ i) (by omega) (by omega) hC2
        rw [ks_take (gifB E q) hiN (by rw [hgb]; exact hop)]
        refine ⟨m3, ?_, agJ.tr ag3⟩
        rw [hop, if_neg (show ¬ nI (if true = true then 1 else 0) = (0 : Int32) by decide), bnd_eq, show (1 : Int32) <<< (nI i &&& 31) = nI (2 ^ i) from shl1 (by omega), fa_or, e42]
        exact e3
      · have hop' : anyS (giftB E q i) (eN E) 0 = false := by simpa using hop
        obtain ⟨m3, e3, ag3⟩ := ih f (i + 1) m2 a (by omega) (by omega) hC2
        rw [ks_skip (gifB E q) (fun z => hop (by rw [← hgb]; exact z.2))]
        refine ⟨m3, ?_, agJ.tr ag3⟩
        rw [hop', if_pos (show nI (if false = true then 1 else 0) = (0 : Int32) from rfl), e42]
        exact e3
    · have hmb' : may.testBit i = false := by simpa using hmb
      obtain ⟨m3, e3, ag3⟩ := ih f (i + 1) m a (by omega) (by omega) hC
      rw [ks_skip (gifB E q) (fun z => hmb ((hb i).2 ⟨z.1, by
        have := z.2
        unfold gifB at this
        exact (Bool.and_eq_true _ _ ▸ this).1⟩))]
      refine ⟨m3, ?_, ag3⟩
      rw [hmb', if_pos (show nI (if false = true then 1 else 0) = (0 : Int32) from rfl), e42]
      exact e3
theorem M_isGiftL {E : EN} {l c : Nat} {q : QS} (hc : c < eN E) : ∀ (r f i : Nat) (S : SK) (m : Nat → Nat → Int32) (a : Bool), i + r = eN E → r < f → MV S m E l (putS E q c) → KP m 0 q → QOK E q →
    ∃ L m2, f_X9_isGift_15 f (mk S m) (some 50) (nI c) (nI (if a = true then 1 else 0)) (nI i) = some (nI (if (a || anyS (giftB E q c) r i) = true then 1 else 0), mk (sLg S L) m2) ∧ MV (sLg S L) m2 E l q ∧ AgM ZB JQ m m2 := by
  intro r
  induction r with
  | zero =>
    intro f i S m a hi hf hM hK hq
    obtain ⟨f, rfl⟩ : ∃ k, f = k + 1 := ⟨f - 1, by omega⟩
    have hN := hM.2.1.2.2.1
    obtain ⟨m2, e2, hM2, ag2⟩ := M_lays hM (d := 0) (by decide) hK hq
    have e2' : f_X9_laysBack (mk S m) (some 50) (0 : Int32) = _ := e2
    refine ⟨lg S, m2, ?_, hM2, ag2.mono (fun _ z => z.elim) (fun _ z => z)⟩
    show fb_X9_isGift_15 (f_X9_isGift_15 f) (mk S m) (some 50) (nI c) _ (nI i) = _
    unfold fb_X9_isGift_15
    rw [gI_k hM.k, hM.2.2.2.1.2.2.2.2.2.1, Option.bind_some, if_neg (by rw [nI_ltI (by omega) (by omega)]; omega), vc_k hM.k, e2', Option.bind_some]
    cases a <;> rfl
  | succ r ih =>
    intro f i S m a hi hf hM hK hq
    obtain ⟨f, rfl⟩ : ∃ k, f = k + 1 := ⟨f - 1, by omega⟩
    have hE := hM.2.1
    have hN := hE.2.2.1
    have hP := hE.2.1
    have hiN : i < eN E := by omega
    have hEi := hE.2.2.2 i hiN
    have hEc := hE.2.2.2 c hc
    have hwi := M_whose hM hiN
    have hwc := M_whose hM hc
    have e63 : ∀ h, f_X9_isGift_63 (f_X9_isGift_15 f) h (some 50) (nI c) (nI i) = f_X9_isGift_15 f h (some 50) (nI c) (nI (if false = true then 1 else 0)) (nI (i + 1)) := fun h => by
      unfold f_X9_isGift_63 f_X9_isGift_64
      rw [bnd_eq, show nI i + (1 : Int32) = nI (i + 1) from nI_add i 1]
      rfl
    have e59 : ∀ h, f_X9_isGift_59 (f_X9_isGift_15 f) h (some 50) (nI c) (nI i) = f_X9_isGift_15 f h (some 50) (nI c) (nI (if true = true then 1 else 0)) (nI (i + 1)) := fun h => by
      unfold f_X9_isGift_59 f_X9_isGift_64
      rw [bnd_eq, show nI i + (1 : Int32) = nI (i + 1) from nI_add i 1]
      rfl
    have es : (a || anyS (giftB E q c) (r + 1) i) = ((a || giftB E q c i) || anyS (giftB E q c) r (i + 1)) := by
      show (a || (giftB E q c i || anyS (giftB E q c) r (i + 1))) = _
      rw [Bool.or_assoc]
    rw [es]
    show ∃ L m2, fb_X9_isGift_15 (f_X9_isGift_15 f) (mk S m) (some 50) (nI c) _ (nI i) = _ ∧ _
    unfold fb_X9_isGift_15
    rw [gI_k hM.k, hM.2.2.2.1.2.2.2.2.2.1, Option.bind_some, if_pos (by rw [nI_ltI (by omega) (by omega)]; omega)]
    cases a with
    | true =>
      rw [if_neg (show ¬ nI (if true = true then 1 else 0) = (0 : Int32) by decide), e59]
      exact ih f (i + 1) S m true (by omega) (by omega) hM hK hq
    | false =>
      rw [if_pos (show nI (if false = true then 1 else 0) = (0 : Int32) from rfl), hwi.1, Option.bind_some, hwi.2, Option.bind_some, Option.bind_some, hwc.2, Option.bind_some, Bool.false_or]
      by_cases hw : eW E i = eW E c
      · have hg0 : giftB E q c i = false := by
          unfold giftB
          simp [hw]
        rw [if_pos (by rw [hw]), hg0, e63]
        exact ih f (i + 1) S m false (by omega) (by omega) hM hK hq
      · rw [if_neg (fun z => hw ((nI_eq (by omega) (by omega)).1 z)), vc_k hM.k, M_canPut hM hiN, Option.bind_some, can_put hw]
        by_cases hcan : canS E q i = true
        · obtain ⟨L1, m1, e1, hM1, ag1, lo1⟩ := M_would hM hiN (dp := 1) (by decide)
          have e1' : f_X9_wouldOpen (mk S m) (some 50) (nI i) (1 : Int32) = _ := e1
          have hK1 : KP m1 0 q := by
            unfold KP
            rw [lo1 _ (by omega), lo1 _ (by omega), lo1 _ (by omega), lo1 _ (by omega)]
            exact hK
          have hg0 : giftB E q c i = opS E (putS E q c) i := by
            unfold giftB
            rw [hcan]
            simp [hw]
          rw [hcan, if_neg (show ¬ nI (if true = true then 1 else 0) = (0 : Int32) by decide), vc_k hM.k, e1', Option.bind_some, hg0]
          cases hop : opS E (putS E q c) i
          · rw [if_pos (show nI (if false = true then 1 else 0) = (0 : Int32) from rfl), e63]
            obtain ⟨L2, m2, e2, hM2, ag2⟩ := ih f (i + 1) (sLg S L1) m1 false (by omega) (by omega) hM1 hK1 hq
            exact ⟨L2, m2, e2, hM2, ag1.tr ag2⟩
          · rw [if_neg (show ¬ nI (if true = true then 1 else 0) = (0 : Int32) by decide), e59]
            obtain ⟨L2, m2, e2, hM2, ag2⟩ := ih f (i + 1) (sLg S L1) m1 true (by omega) (by omega) hM1 hK1 hq
            exact ⟨L2, m2, e2, hM2, ag1.tr ag2⟩
        · have hcan' : canS E q i = false := by simpa using hcan
          have hg0 : giftB E q c i = false := by
            unfold giftB
            rw [hcan']
            simp
          rw [hcan', if_pos (show nI (if false = true then 1 else 0) = (0 : Int32) from rfl), hg0, e63]
          exact ih f (i + 1) S m false (by omega) (by omega) hM hK hq
theorem M_isGift {S : SK} {m : Nat → Nat → Int32} {E : EN} {l c : Nat} {q : QS} (h : MV S m E l q) (hc : c < eN E) :
    ∃ L m2, f_X9_isGift (mk S m) (some 50) (nI c) = some (nI (if anyS (giftB E q c) (eN E) 0 = true then 1 else 0), mk (sLg S L) m2) ∧ MV (sLg S L) m2 E l q ∧ AgM ZB JQ m m2 := by
  obtain ⟨m1, e1, hM1, hK1, ag1, _⟩ := M_keeps h (d := 0) (by decide)
  obtain ⟨L, m2, e2, hM2, ag2⟩ := M_put hM1 hc
  have hK2 : KP m2 0 q := by
    unfold KP
    rw [ag2.1 70 (by decide) (by unfold ZA; omega)]
    exact hK1
  have hN := h.2.1.2.2.1
  obtain ⟨L3, m3, e3, hM3, ag3⟩ := M_isGiftL hc (eN E) FU 0 (sLg S L) m2 false (by omega) (by unfold FU; omega) hM2 hK2 h.2.2.2.2.1
  rw [Bool.false_or] at e3
  have e1' : f_X9_keeps (mk S m) (some 50) (0 : Int32) = _ := e1
  refine ⟨L3, m3, ?_, hM3, ((ag1.mono (fun b hb => by unfold Z70 at hb; unfold ZB; omega) (fun _ z => z.elim)).tr (ag2.mono (fun b hb => by unfold ZA at hb; unfold ZB; omega) (fun _ z => z))).tr ag3⟩
  unfold f_X9_isGift
  rw [vc_k h.k, e1', Option.bind_some, vc_k hM1.k, e2, Option.bind_some]
  exact e3
theorem M_gifts {E : EN} {l : Nat} {q : QS} : ∀ (r f i : Nat) (S : SK) (m : Nat → Nat → Int32) (a : Nat), i + r = eN E → r < f → MV S m E l q →
    ∃ L m2, f_X9_gifts_4 f (mk S m) (some 50) (nI a) (nI i) = some (nI (ksS (gifB E q) r i a), mk (sLg S L) m2) ∧ MV (sLg S L) m2 E l q ∧ AgM ZB JQ m m2 := by
  intro r
  induction r with
  | zero =>
    intro f i S m a hi hf hM
    obtain ⟨f, rfl⟩ : ∃ k, f = k + 1 := ⟨f - 1, by omega⟩
    have hN := hM.2.1.2.2.1
    refine ⟨lg S, m, ?_, hM, AgM.rf⟩
    show fb_X9_gifts_4 (f_X9_gifts_4 f) (mk S m) (some 50) (nI a) (nI i) = _
    unfold fb_X9_gifts_4
    rw [gI_k hM.k, hM.2.2.2.1.2.2.2.2.2.1, Option.bind_some, if_neg (by rw [nI_ltI (by omega) (by omega)]; omega)]
    rfl
  | succ r ih =>
    intro f i S m a hi hf hM
    obtain ⟨f, rfl⟩ : ∃ k, f = k + 1 := ⟨f - 1, by omega⟩
    have hN := hM.2.1.2.2.1
    have hiN : i < eN E := by omega
    have e35 : ∀ h a, f_X9_gifts_35 (f_X9_gifts_4 f) h (some 50) (nI i) (nI a) = f_X9_gifts_4 f h (some 50) (nI a) (nI (i + 1)) := fun h a => by
      unfold f_X9_gifts_35 f_X9_gifts_36
      rw [bnd_eq, bnd_eq, show nI a ||| (0 : Int32) = nI (a ||| 0) from fa_or a 0, Nat.or_zero, show nI i + (1 : Int32) = nI (i + 1) from nI_add i 1]
    have e36 : ∀ h a b, f_X9_gifts_36 (f_X9_gifts_4 f) h (some 50) (nI i) (nI b) (nI a) = f_X9_gifts_4 f h (some 50) (nI (a ||| b)) (nI (i + 1)) := fun h a b => by
      unfold f_X9_gifts_36
      rw [bnd_eq, bnd_eq, fa_or, show nI i + (1 : Int32) = nI (i + 1) from nI_add i 1]
    have es : ksS (gifB E q) (r + 1) i a = ksS (gifB E q) r (i + 1) (if gifB E q i = true then a ||| 2 ^ i else a) := rfl
    rw [es]
    show ∃ L m2, fb_X9_gifts_4 (f_X9_gifts_4 f) (mk S m) (some 50) (nI a) (nI i) = _ ∧ _
    unfold fb_X9_gifts_4
    rw [gI_k hM.k, hM.2.2.2.1.2.2.2.2.2.1, Option.bind_some, if_pos (by rw [nI_ltI (by omega) (by omega)]; omega), vc_k hM.k, M_canPut hM hiN, Option.bind_some]
    by_cases hcan : canS E q i = true
    · obtain ⟨L1, m1, e1, hM1, ag1⟩ := M_isGift hM hiN
      rw [hcan, if_neg (show ¬ nI (if true = true then 1 else 0) = (0 : Int32) by decide), vc_k hM.k, e1, Option.bind_some]
      have hkb : gifB E q i = anyS (giftB E q i) (eN E) 0 := by
        unfold gifB
        rw [hcan]
        rfl
      rw [hkb]
      cases hop : anyS (giftB E q i) (eN E) 0
      · obtain ⟨L2, m2, e2, hM2, ag2⟩ := ih f (i + 1) (sLg S L1) m1 a (by omega) (by omega) hM1
        refine ⟨L2, m2, ?_, hM2, ag1.tr ag2⟩
        rw [if_pos (show nI (if false = true then 1 else 0) = (0 : Int32) from rfl), if_neg (by decide), e35]
        exact e2
      · obtain ⟨L2, m2, e2, hM2, ag2⟩ := ih f (i + 1) (sLg S L1) m1 (a ||| 2 ^ i) (by omega) (by omega) hM1
        refine ⟨L2, m2, ?_, hM2, ag1.tr ag2⟩
        rw [if_neg (show ¬ nI (if true = true then 1 else 0) = (0 : Int32) by decide), if_pos rfl, show (1 : Int32) <<< (nI i &&& 31) = nI (2 ^ i) from shl1 (by omega), e36]
        exact e2
    · have hcan' : canS E q i = false := by simpa using hcan
      obtain ⟨L2, m2, e2, hM2, ag2⟩ := ih f (i + 1) S m a (by omega) (by omega) hM
      refine ⟨L2, m2, ?_, hM2, ag2⟩
      have hkb : gifB E q i = false := by
        unfold gifB
        rw [hcan']
        rfl
      rw [hcan', if_pos (show nI (if false = true then 1 else 0) = (0 : Int32) from rfl), hkb, if_neg (by decide), e35]
      exact e2
theorem op_gifts {S : SK} {m : Nat → Nat → Int32} (hR : RR S m) : RES (f_X8_gifts (mk S m) (some 0)) (fun S1 m1 => f_X9_gifts (mk S1 m1) (some 50)) := by
  have hR0 := hR
  have hS := hR.ok
  have hk8 : (sh S 0).1 = 8 := by rw [sk0 hS]
  have hk1 : (sh S 3).1 = 1 := by rw [sk3 hS]
  have hk : (sh S 50).1 = 9 := by rw [sk50 hS]
  obtain ⟨d, P, N, l, T, wh, kd, td, mo, prs, q, h⟩ := hR
  obtain ⟨hl, ⟨g1, g2, g3⟩, hO⟩ := h
  have hN : N ≤ 7 := g1.1.2.1.2.2.1
  obtain ⟨may, em, hm, hb⟩ := C_may g1
  obtain ⟨m1, e1, agJ⟩ := C_gifts hm hb 7 FU 0 m 0 (by omega) (by unfold FU; omega) g1
  have hM1 := g2.ofC agJ zj_50
  obtain ⟨L, m2, e2, hM2, ag2⟩ := M_gifts (E := mkE d P N wh kd td mo (prs l)) (q := q) N FU 0 S m1 0 (show 0 + N = N by omega) (by unfold FU; omega) hM1
  have h37 : m2 50 37 = nI 0 := by
    rw [ag2.2 37 (by unfold JQ; omega), agJ 50 (zj_50 50 (by omega))]
    exact g3
  refine op_mk (a := nI (ksS (gifB (mkE d P N wh kd td mo (prs l)) q) N 0 0)) (S1 := S) (m1 := m1) (S2 := sLg S L) (m2 := m2) ?_ e2 ⟨d, P, N, l, T, wh, kd, td, mo, prs, q, RP.q ⟨hl, ⟨g1, g2, g3⟩, hO⟩ agJ (ag2.mono (fun b hb => zb_zm hb) (fun j hj => jq_jm hj)) hM2 h37⟩
  unfold f_X8_gifts
  rw [r0_2 hS, Option.bind_some, vc_k hk1, em, Option.bind_some]
  exact e1
