/-! PURE: the class and the reference side by side -/
def mkE (d P N : Nat) (wh kd td mo : Nat → Nat) (pr : Nat → List Nat) : EN := (d, P, N, wh, kd, td, mo, pr)
/-- the model's words -/
def wdT : List Nat := [111, 112, 101, 110, 115, 32, 32, 32, 119, 111, 114, 116, 104, 32, 32, 32, 104, 97, 115, 116, 101, 32, 32, 32, 115, 117, 109, 32, 32, 32, 32, 32, 114, 101, 115, 116, 32, 32, 32, 32, 118, 97, 108, 117, 101, 32, 32, 32, 109, 105, 110, 117, 116, 101, 32, 32, 99, 111, 105, 110, 115, 32, 32, 32, 119, 104, 111, 32, 32, 32, 32, 32, 111, 114, 32, 32, 32, 32, 32, 32, 97, 110, 100, 32, 32, 32, 32, 32, 110, 111, 116, 32, 32, 32, 32, 32]
def RTx (S : SK) (m : Nat → Nat → Int32) (T : Nat) (prs : Nat → Nat → List Nat) : Prop := 1 ≤ T ∧ T ≤ 6 ∧ m 0 9 = nI T ∧ m 50 15 = nI T ∧ ∀ t, t < T → CText S m t (prs t) ∧ ∃ fr, TxM m t (prs t) fr
def RIm (S : SK) (m : Nat → Nat → Int32) (N T : Nat) (kd td mo : Nat → Nat) (prs : Nat → Nat → List Nat) : Prop := (m 0 10 = nI 0 ∧ m 50 17 = nI 0) ∨ (m 0 10 = nI 1 ∧ m 50 17 = nI 1 ∧ ∃ d P N2 wh l, ∃ q : QS, CI S m 6 (mkE d P N2 wh kd td mo (prs l)) l q ∧ l < T ∧ N2 ≤ N ∧ m 58 0 = nI d ∧ m 58 1 = nI q.1 ∧ m 58 2 = nI q.2.1 ∧ m 58 3 = nI P ∧ m 58 4 = nI q.2.2.1 ∧ m 58 5 = nI N2 ∧ m 58 6 = nI q.2.2.2 ∧ m 58 7 = nI l ∧ ∀ c, c < N2 → m 59 c = nI (wh c))
def RSh (m : Nat → Nat → Int32) : Prop := ∀ s, s < 4 → m 60 s = m (38 + 2 * s) 1 ∧ m 61 s = m (38 + 2 * s) 2 ∧ (∀ k, k < 40 → m 62 (40 * s + k) = m (39 + 2 * s) k) ∧ (m (38 + 2 * s) 1 = -1 ∨ m (38 + 2 * s) 1 = nI 0 ∨ m (38 + 2 * s) 1 = nI 1 ∨ m (38 + 2 * s) 1 = nI 2) ∧ ∃ z, z ≤ 40 ∧ m (38 + 2 * s) 2 = nI z
def RTp (m : Nat → Nat → Int32) : Prop := ∃ z, z ≤ 160 ∧ m 33 3 = nI z ∧ m 50 12 = nI z ∧ ∀ k, k < z → m 55 k = m 34 k ∧ ∃ b, b ≤ 255 ∧ m 34 k = nI b
def RWd (m : Nat → Nat → Int32) : Prop := (∀ k, k < 96 → m 64 k = nI (wdT.getD k 0)) ∧ m 36 0 = nI 0
def RAd (S : SK) (N T : Nat) : Prop := (∀ c A, c < N → rf S 1 c = some A → A < S.1) ∧ ∀ t A, t < T → rf S 2 t = some A → A + 3 < S.1
def RO (S : SK) (m : Nat → Nat → Int32) (N T : Nat) (kd td mo : Nat → Nat) (prs : Nat → Nat → List Nat) : Prop := RTx S m T prs ∧ RIm S m N T kd td mo prs ∧ RSh m ∧ RTp m ∧ RWd m ∧ RAd S N T
def RG (S : SK) (m : Nat → Nat → Int32) (d P N l : Nat) (wh kd td mo : Nat → Nat) (prs : Nat → Nat → List Nat) (q : QS) : Prop := CI S m 3 (mkE d P N wh kd td mo (prs l)) l q ∧ MV S m (mkE d P N wh kd td mo (prs l)) l q ∧ m 50 37 = nI 0
def RP (S : SK) (m : Nat → Nat → Int32) (d P N l T : Nat) (wh kd td mo : Nat → Nat) (prs : Nat → Nat → List Nat) (q : QS) : Prop := l < T ∧ RG S m d P N l wh kd td mo prs q ∧ RO S m N T kd td mo prs
def RR (S : SK) (m : Nat → Nat → Int32) : Prop := ∃ d P N l T wh kd td mo prs q, RP S m d P N l T wh kd td mo prs q
def RCell (b : Nat) : Prop := b = 0 ∨ b = 6 ∨ b = 7 ∨ b = 33 ∨ b = 34 ∨ b = 36 ∨ (38 ≤ b ∧ b ≤ 45) ∨ (55 ≤ b ∧ b ≤ 64)
theorem TxS.lg {S : SK} {L : Nat → Nat → Int64} {A N : Nat} : TxS S A N ↔ TxS (sLg S L) A N := Iff.rfl
theorem CI.lg {S : SK} {L : Nat → Nat → Int64} {m : Nat → Nat → Int32} {g : Nat} {E : EN} {l : Nat} {q : QS} (h : CI S m g E l q) : CI (sLg S L) m g E l q := h
theorem RO.ag {S : SK} {m m2 : Nat → Nat → Int32} {N T : Nat} {kd td mo : Nat → Nat} {prs : Nat → Nat → List Nat} {Z J : Nat → Prop} {L : Nat → Nat → Int64} (h : RO S m N T kd td mo prs) (ha : AgM Z J m m2) (hz : ZOK S Z) (h50 : ¬ Z 50) (hc : ∀ b, RCell b → ¬ Z b) (hj : ∀ j, j = 12 ∨ j = 15 ∨ j = 17 → ¬ J j) : RO (sLg S L) m2 N T kd td mo prs := by
  obtain ⟨⟨t1, t2, t3, t4, t5⟩, hI, hSh, ⟨z, z1, z2, z3, z4⟩, hW, hA⟩ := h
  have e := fun b (hb : RCell b) (h5 : b ≠ 50) => ha.1 b h5 (hc b hb)
  have e5 := fun j hj2 => ha.2 j (hj j hj2)
  have agz : Ag (fun b => Z b ∨ b = 50) m m2 := fun b hb => ha.1 b (fun y => hb (Or.inr y)) (fun y => hb (Or.inl y))
  have hz2 : ZOK S (fun b => Z b ∨ b = 50) := by
    constructor
    · intro A a1 a2 a3
      rcases a3 with y | y
      · exact hz.1 A a1 a2 y
      · omega
    · intro A N a1 a2
      have := hz.2 A N a1 a2
      constructor
      · rintro (y | y)
        · exact this.1 y
        · omega
      · rintro (y | y)
        · exact this.2 y
        · omega
  refine ⟨⟨t1, t2, by rw [e 0 (Or.inl rfl) (by decide)]; exact t3, by rw [e5 15 (by decide)]; exact t4, ?_⟩, ?_, ?_, ⟨z, z1, by rw [e 33 (by unfold RCell; omega) (by decide)]; exact z2, by rw [e5 12 (by decide)]; exact z3, ?_⟩, ?_, hA⟩
  · intro t ht
    obtain ⟨a1, fr, a2⟩ := t5 t ht
    exact ⟨a1.ag agz hz2.2, fr, a2.ag (e 56 (by unfold RCell; omega) (by decide)) (e 57 (by unfold RCell; omega) (by decide))⟩
  · unfold RIm at hI ⊢
    rw [e 0 (Or.inl rfl) (by decide), e5 17 (by decide), e 58 (by unfold RCell; omega) (by decide), e 59 (by unfold RCell; omega) (by decide)]
    rcases hI with y | ⟨y1, y2, d, P, N2, wh, l, q, y3, y4⟩
    · exact Or.inl y
    · refine Or.inr ⟨y1, y2, d, P, N2, wh, l, q, ?_, y4⟩
      exact (y3.ag agz hz2 (by
        rintro (y | y)
        · exact hc 6 (by unfold RCell; omega) y
        · omega) (by
        rintro (y | y)
        · exact hc 7 (by unfold RCell; omega) y
        · omega)).lg
  · intro s hs
    rw [e 60 (by unfold RCell; omega) (by decide), e 61 (by unfold RCell; omega) (by decide), e 62 (by unfold RCell; omega) (by decide), e (38 + 2 * s) (by unfold RCell; omega) (by omega), e (39 + 2 * s) (by unfold RCell; omega) (by omega)]
    exact hSh s hs
  · intro k hk
    rw [e 55 (by unfold RCell; omega) (by decide), e 34 (by unfold RCell; omega) (by decide)]
    exact z4 k hk
  · refine ⟨fun k hk => ?_, ?_⟩
    · rw [e 64 (by unfold RCell; omega) (by decide)]
      exact hW.1 k hk
    · rw [e 36 (by unfold RCell; omega) (by decide)]
      exact hW.2
/-- what the class writes in thought alone -/
def ZJ (S : SK) (b : Nat) : Prop := b = 5 ∨ (8 ≤ b ∧ b ≤ 32) ∨ Stk S b
theorem ZJ.ok {S : SK} : ZOK S (ZJ S) := ZOK.of (fun b hb => by
  rcases hb with e | e | e
  · exact Or.inr (Or.inl (by omega))
  · exact Or.inr (Or.inl (by omega))
  · exact Or.inl e)
theorem ZJ.no {S : SK} {b : Nat} (h : ZJ S b) : b = 5 ∨ (8 ≤ b ∧ b ≤ 32) ∨ b = 49 ∨ 79 ≤ b := by
  rcases h with e | e | e
  · exact Or.inl e
  · exact Or.inr (Or.inl e)
  · have := e.ge
    omega
def JM (j : Nat) : Prop := j = 1 ∨ j = 2 ∨ j = 4 ∨ j = 10 ∨ 24 ≤ j
def ZM (b : Nat) : Prop := 65 ≤ b ∧ b ≤ 75
theorem MV.ofC {S : SK} {m m2 : Nat → Nat → Int32} {E : EN} {l : Nat} {q : QS} {Z : Nat → Prop} (h : MV S m E l q) (ha : Ag Z m m2) (hz : ∀ b, 50 ≤ b ∧ b ≤ 75 → ¬ Z b) : MV S m2 E l q := h.ag (AgM.of (Z := Z) (J := J0) ha (hz 50 (by omega))) (fun b hb => hz b (by omega)) (fun _ _ => id)
/-- a question in thought changes nothing of what both hold -/
theorem RP.q {S : SK} {m m1 m2 : Nat → Nat → Int32} {d P N l T : Nat} {wh kd td mo : Nat → Nat} {prs : Nat → Nat → List Nat} {q : QS} {L : Nat → Nat → Int64} (h : RP S m d P N l T wh kd td mo prs q) (ha : Ag (ZJ S) m m1) (hb : AgM ZM JM m1 m2) (hM : MV (sLg S L) m2 (mkE d P N wh kd td mo (prs l)) l q) (h37 : m2 50 37 = nI 0) : RP (sLg S L) m2 d P N l T wh kd td mo prs q := by
  obtain ⟨hl, ⟨g1, g2, g3⟩, hO⟩ := h
  have hA : Ag (fun b => ZJ S b ∨ (50 ≤ b ∧ b ≤ 75)) m m2 := fun b hb2 => by
    rw [hb.1 b (fun y => hb2 (Or.inr (by omega))) (fun y => hb2 (Or.inr (by unfold ZM at y; omega))), ha b (fun y => hb2 (Or.inl y))]
  have hAM : AgM (fun b => ZJ S b ∨ ZM b) JM m m2 := by
    refine ⟨fun b h5 hb2 => ?_, fun j hj => ?_⟩
    · rw [hb.1 b h5 (fun y => hb2 (Or.inr y)), ha b (fun y => hb2 (Or.inl y))]
    · rw [hb.2 j hj, ha 50 (fun y => by have := y.no; omega)]
  have hzk : ZOK S (fun b => ZJ S b ∨ ZM b) := ZOK.of (fun b hb2 => by
    rcases hb2 with (y | y | y) | y
    · exact Or.inr (Or.inl (by omega))
    · exact Or.inr (Or.inl (by omega))
    · exact Or.inl y
    · exact Or.inr (Or.inr (by unfold ZM at y; omega)))
  refine ⟨hl, ⟨?_, hM, h37⟩, hO.ag hAM hzk ?_ ?_ ?_⟩
  · refine (g1.ag hA (ZOK.of (fun b hb2 => ?_)) ?_ ?_).lg
    · rcases hb2 with (y | y | y) | y
      · exact Or.inr (Or.inl (by omega))
      · exact Or.inr (Or.inl (by omega))
      · exact Or.inl y
      · by_cases z : b < 76
        · exact Or.inr (Or.inr ⟨y.1, z⟩)
        · omega
    · rintro (y | y)
      · have := y.no
        omega
      · omega
    · rintro (y | y)
      · have := y.no
        omega
      · omega
  · rintro (y | y)
    · have := y.no
      omega
    · unfold ZM at y
      omega
  · intro b hb2
    unfold RCell at hb2
    rintro (y | y)
    · have := y.no
      omega
    · unfold ZM at y
      omega
  · intro j hj
    unfold JM
    omega
/-- what a call must give: one answer, and both go on side by side -/
abbrev RES (x : Option (Int32 × XM)) (y : SK → (Nat → Nat → Int32) → Option (Int32 × XM)) : Prop := ∃ a S1 m1 S2 m2, x = some (a, mk S1 m1) ∧ y S1 m1 = some (a, mk S2 m2) ∧ RR S2 m2 ∧ sh S1 50 = (9, 49)
abbrev RESL (x : Option (Int64 × XM)) (y : SK → (Nat → Nat → Int32) → Option (Int64 × XM)) : Prop := ∃ a S1 m1 S2 m2, x = some (a, mk S1 m1) ∧ y S1 m1 = some (a, mk S2 m2) ∧ RR S2 m2 ∧ sh S1 50 = (9, 49)
theorem RR.ok {S : SK} {m : Nat → Nat → Int32} (h : RR S m) : SkOK S := by
  obtain ⟨d, P, N, l, T, wh, kd, td, mo, prs, q, h⟩ := h
  exact h.2.1.1.1.1
/-- nothing is changed, and one answer -/
theorem op_same {x : Option (Int32 × XM)} {y : SK → (Nat → Nat → Int32) → Option (Int32 × XM)} {S : SK} {m : Nat → Nat → Int32} {a : Int32} (h : RR S m) (h1 : x = some (a, mk S m)) (h2 : y S m = some (a, mk S m)) : RES x y := ⟨a, S, m, S, m, h1, h2, h, sk50 h.ok⟩
theorem op_mk {x : Option (Int32 × XM)} {y : SK → (Nat → Nat → Int32) → Option (Int32 × XM)} {S1 S2 : SK} {m1 m2 : Nat → Nat → Int32} {a : Int32} (h1 : x = some (a, mk S1 m1)) (h2 : y S1 m1 = some (a, mk S2 m2)) (h : RR S2 m2) (hs : sh S1 50 = sh S2 50 := by rfl) : RES x y := ⟨a, S1, m1, S2, m2, h1, h2, h, hs.trans (sk50 h.ok)⟩
