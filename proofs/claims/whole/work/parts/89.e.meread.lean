/-! PURE: the reference's loop over a part's tokens -/
theorem rt_is {m : Nat → Nat → Int32} {t c : Nat} (h : m 50 26 = rtI t) (ht : t ≤ 258) (hc : 12 ≤ c ∧ c ≤ 255) : m 50 26 = nI c ↔ t = c := by
  rw [h, rt_eq ht hc.2]
  unfold rtN
  repeat' split
  all_goals omega
def ERES (S : SK) (T n : Nat) (tp : Nat → Nat) (m : Nat → Nat → Int32) (R : Option (List Nat) × Nat) (res : Option (Int32 × XM)) : Prop :=
  ∃ m2, MFr T m m2 ∧ TPm m2 n tp ∧ m2 50 15 = nI T ∧ ((∃ p2, R = (none, p2) ∧ m2 50 25 = nI (tpP tp n p2) ∧ res = some (0, mk S m2)) ∨ (∃ w2 p2 o2, R = (some w2, p2) ∧ VM T n tp [] o2 w2 m2 ∧ m2 50 24 = nI p2 ∧ p2 ≤ n ∧ w2.length ≤ p2 ∧ res = some (1, mk S m2)))
theorem ERES.mono {S : SK} {T n : Nat} {tp : Nat → Nat} {m m1 : Nat → Nat → Int32} {R : Option (List Nat) × Nat} {res : Option (Int32 × XM)} (h : MFr T m m1) (h2 : ERES S T n tp m1 R res) : ERES S T n tp m R res := by
  obtain ⟨m2, a1, a2⟩ := h2
  exact ⟨m2, h.tr a1, a2⟩
theorem M_eLoop {S : SK} {T n : Nat} {tp : Nat → Nat} (hS : SkOK S) : ∀ (f0 f p : Nat) (H : List Nat) (o : Nat) (w : List Nat) (m : Nat → Nat → Int32) (wants mn : Bool) (R : Option (List Nat) × Nat), mcS (tkT tp n) f0 p H o w wants mn = some R → f0 ≤ f → VM T n tp H o w m → m 50 24 = nI p → p ≤ n → w.length + H.length ≤ p → ERES S T n tp m R (f_X9_eRead_14 f (mk S m) (some 50) (bI wants) (bI mn)) := by
  have hk : (sh S 50).1 = 9 := by rw [sk50 hS]
  intro f0
  induction f0 with
  | zero =>
    intro f p H o w m wants mn R h
    cases wants <;> cases h
  | succ f0 ih =>
    intro f p H o w m wants mn R h hf hV h24 hp hl
    obtain ⟨f, rfl⟩ : ∃ k, f = k + 1 := ⟨f - 1, by omega⟩
    have hn := hV.1.2.1
    have hnx := tk_next (tp := tp) hp
    have ht : (tkT tp n p).1 ≤ 258 := hnx.2.2.2 (fun k hk => (hV.1.2.2.1 k hk).2)
    obtain ⟨m1, a1, a2, a3, a4, a5, a6⟩ := M_tok hS hV.1 h24 hp
    have hV1 := hV.fr a1
    have hT15 : m1 50 15 = nI T := hV1.2.2.2.2.2.2.1
    apply ERES.mono a1.mf
    show ERES S T n tp m1 R (fb_X9_eRead_14 (f_X9_eRead_14 f) (mk S m) (some 50) (bI wants) (bI mn))
    unfold fb_X9_eRead_14
    rw [vc_k hk, a6, Option.bind_some]
    have fail : R = (none, p) → ∀ y, y = some ((0 : Int32), mk S m1) → ERES S T n tp m1 R y := fun hR y hy => ⟨m1, fun _ _ _ _ _ => rfl, hV1.1, hT15, Or.inl ⟨p, hR, a3, hy⟩⟩
    have nx : (tkT tp n p).1 ≠ 257 → p < (tkT tp n p).2.2 := hnx.2.2.1
    have rt2 : ∀ c : Nat, c ≤ 255 → (m1 50 26 = nI c ↔ rtN (tkT tp n p).1 = c) := fun c hc => by rw [a4, rt_eq ht hc]
    cases wants with
    | true =>
      rw [show bI true = 1 from rfl, if_neg (show ¬ (1 : Int32) = 0 by decide)]
      simp only [gI_k hk]
      rw [Option.bind_some]
      by_cases c1 : (tkT tp n p).1 = 256 ∨ (tkT tp n p).1 < 6
      · change (if (tkT tp n p).1 = 256 ∨ (tkT tp n p).1 < 6 then _ else _) = some R at h
        rw [if_pos c1] at h
        have hnx1 := nx (by omega)
        have e61 : ∀ (v : Int32) (c : Nat), v = nI c → c = (if (tkT tp n p).1 = 256 then 100000 + (tkT tp n p).2.1 else (tkT tp n p).1) → ERES S T n tp m1 R (f_X9_eRead_61 (f_X9_eRead_14 f) (mk S m1) (some 50) (bI mn) v (some 50)) := by
          intro v c hv hc
          obtain ⟨m2, b1, b2, b3, b4, b5⟩ := M_puts (c := c) hS hV1 (by omega)
          obtain ⟨m3, d1, d2, d3, d4, d5, d6⟩ := M_unw1 (r := 7) hS (by omega) b1
          unfold f_X9_eRead_61
          rw [vc_k hk, hv, b5, Option.bind_some, vc_k hk, show f_X9_unwinds (mk S m2) (some 50) (7 : Int32) = some (mk S m3) from d6, Option.bind_some]
          rw [← hc] at h
          have hl2 : (w ++ [c]).length = w.length + 1 := by rw [List.length_append]; rfl
          exact (ih f _ _ _ _ m3 false mn R h (by omega) d1 (by rw [d3, b3]; exact a2) hnx.1 (by omega)).mono (b2.tr d2)
        have e38 : ERES S T n tp m1 R (f_X9_eRead_38 (f_X9_eRead_14 f) (mk S m1) (some 50) (bI mn)) := by
          unfold f_X9_eRead_38
          simp only [gI_k hk]
          rw [Option.bind_some, a5 (by omega)]
          by_cases c2 : (tkT tp n p).1 = 256
          · rw [if_pos (show m1 50 26 = (1 : Int32) from (rt2 1 (by decide)).2 (by rw [c2]; rfl)), Option.bind_some]
            have er : rvT (tkT tp n p).1 (tkT tp n p).2.1 = (tkT tp n p).2.1 := by
              unfold rvT
              rw [if_neg (by omega), if_neg (by omega)]
            rw [er]
            exact e61 _ (100000 + (tkT tp n p).2.1) (nI_add 100000 _) (by rw [if_pos c2])
          · have c3 : (tkT tp n p).1 < 6 := by omega
            rw [if_neg (show ¬ m1 50 26 = (1 : Int32) from fun y => by
              have := (rt2 1 (by decide)).1 y
              unfold rtN at this
              rw [if_pos c3] at this
              omega), Option.bind_some]
            have er : rvT (tkT tp n p).1 (tkT tp n p).2.1 = (tkT tp n p).1 := by
              unfold rvT
              rw [if_pos c3]
            rw [er]
            exact e61 _ (tkT tp n p).1 rfl (by rw [if_neg c2])
        by_cases c2 : (tkT tp n p).1 = 256
        · rw [if_pos (show m1 50 26 = (1 : Int32) from (rt2 1 (by decide)).2 (by rw [c2]; rfl))]
          exact e38
        · have c3 : (tkT tp n p).1 < 6 := by omega
          have er : rtN (tkT tp n p).1 = 2 := by
            unfold rtN
            rw [if_pos c3]
          rw [if_neg (show ¬ m1 50 26 = (1 : Int32) from fun y => by
            have := (rt2 1 (by decide)).1 y
            omega), Option.bind_some, if_pos (show m1 50 26 = (2 : Int32) from (rt2 2 (by decide)).2 er)]
          exact e38
      · have n1 : rtN (tkT tp n p).1 ≠ 1 ∧ rtN (tkT tp n p).1 ≠ 2 ∧ (rtN (tkT tp n p).1 = 6 ↔ (tkT tp n p).1 = 11) := by
          unfold rtN
          repeat' split
          all_goals omega
        rw [if_neg (show ¬ m1 50 26 = (1 : Int32) from fun y => n1.1 ((rt2 1 (by decide)).1 y)), Option.bind_some, if_neg (show ¬ m1 50 26 = (2 : Int32) from fun y => n1.2.1 ((rt2 2 (by decide)).1 y)), Option.bind_some]
        have h0 := h
        change (if (tkT tp n p).1 = 256 ∨ (tkT tp n p).1 < 6 then _ else if (tkT tp n p).1 = 11 ∧ mn = true then _ else _) = some R at h
        rw [if_neg c1] at h
        have opn : ∀ (x : Nat) (mn2 : Bool), (x = 0 ∨ x = 13 ∨ x = 19) → (tkT tp n p).1 ≠ 257 → (if o = 5 then some (none, p) else mcS (tkT tp n) f0 (tkT tp n p).2.2 (x :: H) (o + 1) w true mn2) = some R → ERES S T n tp m1 R ((vc (mk S m1) 9 (some 50) (f_X9_opensOne (mk S m1) (some 50) (nI x))).bind fun q7 => if q7.1 = 0 then (rz q7.2 ((0 : Int32))) else (f_X9_eRead_14 f q7.2 (some 50) 1 (bI mn2))) := by
          intro x mn2 hx h257 hh
          have hnx1 := nx h257
          rw [vc_k hk]
          rcases M_opens hS hV1 hx with ⟨d1, d2⟩ | ⟨d1, d2⟩
          · rw [if_pos d1] at hh
            rw [d2, Option.bind_some, if_pos rfl]
            exact fail (Option.some.inj hh).symm _ rz0
          · rw [if_neg d1] at hh
            obtain ⟨m2, b1, b2, b3, b4, b5⟩ := d2 (by omega)
            rw [b5, Option.bind_some, if_neg (show ¬ (1 : Int32) = 0 by decide)]
            have hl3 : (x :: H).length = H.length + 1 := rfl
            exact (ih f _ _ _ _ m2 true mn2 R hh (by omega) b1 (by rw [b3]; exact a2) hnx.1 (by omega)).mono b2
        have e99 : ¬ ((tkT tp n p).1 = 11 ∧ mn = true) → ERES S T n tp m1 R (f_X9_eRead_99 (f_X9_eRead_14 f) (mk S m1) (some 50) 1) := by
          intro c2
          rw [if_neg c2] at h
          unfold f_X9_eRead_99
          simp only [gI_k hk]
          rw [Option.bind_some]
          by_cases c3 : (tkT tp n p).1 = 45
          · rw [if_pos c3] at h
            rw [if_pos (show m1 50 26 = (45 : Int32) from (rt_is (c := 45) a4 ht (by decide)).2 c3)]
            exact opn 19 false (by omega) (by omega) h
          · rw [if_neg c3] at h
            rw [if_neg (show ¬ m1 50 26 = (45 : Int32) from fun y => c3 ((rt_is (c := 45) a4 ht (by decide)).1 y)), Option.bind_some]
            by_cases c4 : (tkT tp n p).1 = 40
            · rw [if_pos c4] at h
              rw [if_pos (show m1 50 26 = (40 : Int32) from (rt_is (c := 40) a4 ht (by decide)).2 c4)]
              exact opn 0 true (by omega) (by omega) h
            · rw [if_neg c4] at h
              rw [if_neg (show ¬ m1 50 26 = (40 : Int32) from fun y => c4 ((rt_is (c := 40) a4 ht (by decide)).1 y))]
              exact fail (Option.some.inj h).symm _ rz0
        by_cases c2 : (tkT tp n p).1 = 11
        · rw [if_pos (show m1 50 26 = (6 : Int32) from (rt2 6 (by decide)).2 (n1.2.2.2 c2))]
          cases mn with
          | true =>
            rw [if_pos ⟨c2, rfl⟩] at h
            rw [show bI true = 1 from rfl, if_neg (show ¬ (1 : Int32) = 0 by decide)]
            exact opn 13 true (by omega) (by omega) h
          | false =>
            rw [show bI false = 0 from rfl, if_pos rfl]
            exact e99 (fun y => absurd y.2 (by decide))
        · rw [if_neg (show ¬ m1 50 26 = (6 : Int32) from fun y => c2 (n1.2.2.1 ((rt2 6 (by decide)).1 y)))]
          exact e99 (fun y => c2 y.1)
    | false =>
      rw [show bI false = 0 from rfl, if_pos rfl]
      rw [gI_k hk, Option.bind_some]
      change (if (tkT tp n p).1 = 59 then _ else _) = some R at h
      by_cases c1 : (tkT tp n p).1 = 59
      · have hnx1 := nx (by omega)
        rw [if_pos c1] at h
        rw [if_pos (show m1 50 26 = (59 : Int32) from (rt_is (c := 59) a4 ht (by decide)).2 c1), vc_k hk]
        obtain ⟨m3, d1, d2, d3, d4, d5, d6⟩ := M_unw1 (r := 1) hS (by omega) hV1
        rw [show f_X9_unwinds (mk S m1) (some 50) (1 : Int32) = some (mk S m3) from d6, Option.bind_some, gI_k hk, Option.bind_some, d1.2.1]
        unfold f_X9_eRead_176
        by_cases c2 : (unS 1 H o w).1 = []
        · rw [if_pos c2] at h
          rw [c2] at d1 d5 ⊢
          rw [if_pos (show nI ([] : List Nat).length = 0 from rfl), rz1]
          refine ⟨m3, d2, d1.1, d1.2.2.2.2.2.2.1, Or.inr ⟨_, _, _, (Option.some.inj h).symm, d1, by rw [d3]; exact a2, hnx.1, ?_, rfl⟩⟩
          have : ([] : List Nat).length = 0 := rfl
          omega
        · rw [if_neg c2] at h
          have hpos : 0 < (unS 1 H o w).1.length := List.length_pos_iff.2 c2
          have hle := d1.2.2.2.2.2.2.2.2.2
          rw [if_neg (nI_ne0 hpos (by omega)), rz0]
          exact ⟨m3, d2, d1.1, d1.2.2.2.2.2.2.1, Or.inl ⟨p, (Option.some.inj h).symm, by rw [d4]; exact a3, rfl⟩⟩
      · rw [if_neg c1] at h
        rw [if_neg (show ¬ m1 50 26 = (59 : Int32) from fun y => c1 ((rt_is (c := 59) a4 ht (by decide)).1 y)), Option.bind_some]
        by_cases c2 : (tkT tp n p).1 = 41
        · have hnx1 := nx (by omega)
          rw [if_pos c2] at h
          rw [if_pos (show m1 50 26 = (41 : Int32) from (rt_is (c := 41) a4 ht (by decide)).2 c2), vc_k hk]
          obtain ⟨m3, d1, d2, d3, d4, d5, d6⟩ := M_unw1 (r := 1) hS (by omega) hV1
          have htr := unS_tr (r := 1) H o w
          rw [show f_X9_unwinds (mk S m1) (some 50) (1 : Int32) = some (mk S m3) from d6, Option.bind_some, gI_k hk, Option.bind_some, Option.bind_some, d1.2.1]
          generalize unS 1 H o w = u at *
          obtain ⟨u1, u2, u3⟩ := u
          cases u1 with
          | nil =>
            rw [if_pos (show nI ([] : List Nat).length = 0 from rfl), rz0]
            exact ⟨m3, d2, d1.1, d1.2.2.2.2.2.2.1, Or.inl ⟨p, (Option.some.inj h).symm, by rw [d4]; exact a3, rfl⟩⟩
          | cons x H2 =>
            have d1 : VM T n tp (x :: H2) u2 u3 m3 := d1
            have d5 : u3.length + (x :: H2).length = w.length + H.length := d5
            have hx0 : x = 0 := by
              rcases htr with y | y
              · cases y
              · exact rk_0 y
            have e30 : nI (x :: H2).length - (1 : Int32) = nI H2.length := by
              show nI (H2.length + 1) - nI 1 = _
              rw [pk_sub (by omega)]
              rfl
            have hle := d1.2.2.2.2.2.2.2.2.2
            have hlc : (x :: H2).length = H2.length + 1 := rfl
            have hco : u2 = coS (x :: H2) := d1.2.2.2.2.2.2.2.2.1
            have hco2 : coS (x :: H2) = 1 + coS H2 := by
              show (if x = 0 ∨ x = 13 ∨ x = 19 then 1 else 0) + coS H2 = _
              rw [if_pos (Or.inl hx0)]
            have g31 : w2 m3 50 30 (nI H2.length) 50 31 = nI u2 := by
              rw [w2_ap, if_neg (by omega)]
              exact d1.2.2.2.1
            rw [if_neg (show ¬ nI (x :: H2).length = 0 from nI_ne0 (by omega) (by omega)), e30, pI_k hk, Option.bind_some, gI_k hk, Option.bind_some, g31, show nI u2 - (1 : Int32) = nI (u2 - 1) from by
              rw [show (1 : Int32) = nI 1 from rfl, pk_sub (by omega)], pI_k hk, Option.bind_some, vc_k hk]
            have hV3 : VM T n tp H2 (u2 - 1) u3 (w2 (w2 m3 50 30 (nI H2.length)) 50 31 (nI (u2 - 1))) := by
              obtain ⟨⟨t1, t2, t3, t4⟩, q2, q3, q4, q5, q6, q7, q8, q9, q10⟩ := d1
              refine ⟨⟨?_, t2, fun k hk => ?_, fun k hk => ?_⟩, ?_, q3.2.2.ag (fun j _ => ?_), ?_, ?_, ?_, ?_, q8, by omega, by omega⟩
              · rw [w2_ap, if_neg (by omega), w2_ap, if_neg (by omega)]; exact t1
              · rw [w2_ap, if_neg (by omega), w2_ap, if_neg (by omega)]; exact t3 k hk
              · rw [w2_ap, if_neg (by omega), w2_ap, if_neg (by omega)]; exact t4 k hk
              · rw [w2_ap, if_neg (by omega), w2_ap, if_pos ⟨rfl, rfl⟩]
              · rw [w2_ap, if_neg (by omega), w2_ap, if_neg (by omega)]
              · rw [w2_ap, if_pos ⟨rfl, rfl⟩]
              · rw [w2_ap, if_neg (by omega), w2_ap, if_neg (by omega)]; exact q5
              · exact q6.ag (funext fun j => by rw [w2_ap, if_neg (by omega), w2_ap, if_neg (by omega)])
              · rw [w2_ap, if_neg (by omega), w2_ap, if_neg (by omega)]; exact q7
            have hfr : MFr T m3 (w2 (w2 m3 50 30 (nI H2.length)) 50 31 (nI (u2 - 1))) := fun b j b1 b2 b3 => by
              rw [w2_ap, if_neg (by omega), w2_ap, if_neg (by omega)]
            obtain ⟨m4, i1, i2, i3, i4, i5, i6⟩ := M_unw1 (r := 7) hS (by omega) hV3
            rw [show f_X9_unwinds (mk S (w2 (w2 m3 50 30 (nI H2.length)) 50 31 (nI (u2 - 1)))) (some 50) (7 : Int32) = some (mk S m4) from i6, Option.bind_some]
            have h24b : m4 50 24 = nI (tkT tp n p).2.2 := by
              rw [i3, w2_ap, if_neg (by omega), w2_ap, if_neg (by omega), d3]
              exact a2
            exact (ih f _ _ _ _ m4 false mn R h (by omega) i1 h24b hnx.1 (by
              show (unS 7 H2 (u2 - 1) u3).2.2.length + (unS 7 H2 (u2 - 1) u3).1.length ≤ _
              omega)).mono ((d2.tr hfr).tr i2)
        · rw [if_neg c2] at h
          rw [if_neg (show ¬ m1 50 26 = (41 : Int32) from fun y => c2 ((rt_is (c := 41) a4 ht (by decide)).1 y)), vc_k hk, M_sgn hS a4 ht, Option.bind_some]
          unfold f_X9_eRead_247 f_X9_eRead_262
          by_cases c3 : sgS (tkT tp n p).1 = 0
          · rw [if_pos c3] at h
            rw [if_pos c3, if_pos rfl]
            exact fail (Option.some.inj h).symm _ rz0
          · rw [if_neg c3] at h
            have hx : sgS (tkT tp n p).1 = 11 ∨ sgS (tkT tp n p).1 = 12 ∨ sgS (tkT tp n p).1 = 14 ∨ sgS (tkT tp n p).1 = 15 ∨ sgS (tkT tp n p).1 = 16 ∨ sgS (tkT tp n p).1 = 17 ∨ sgS (tkT tp n p).1 = 18 := by
              have := sg_im (tkT tp n p).1
              omega
            have hnx1 := nx (fun y => c3 (by rw [y]; decide))
            obtain ⟨m3, d1, d2, d3, d4, d5⟩ := M_btw (x := sgS (tkT tp n p).1) hS hV1 hx (by omega)
            rw [if_neg c3, if_neg (n_m1 _ (by omega))]
            show ERES S T n tp m1 R ((vc (mk S m1) 9 (some 50) (f_X9_between (mk S m1) (some 50) (nI (sgS (tkT tp n p).1)))).bind fun q23 => if q23.1 = 0 then (rz q23.2 ((0 : Int32))) else (if ((12 : Int32)) < nI (sgS (tkT tp n p).1) then (f_X9_eRead_14 f q23.2 (some 50) ((1 : Int32)) ((0 : Int32))) else (f_X9_eRead_14 f q23.2 (some 50) ((1 : Int32)) ((1 : Int32)))))
            rw [vc_k hk]
            rcases d5 with ⟨g1, g2, g3, g4⟩ | ⟨g1, g2, g3⟩
            · rw [if_pos ⟨g1, g2⟩] at h
              rw [g4, Option.bind_some, if_pos rfl, rz0]
              exact ⟨m3, d1, g3, by rw [d1 50 15 (by omega) (by omega) (by omega)]; exact hT15, Or.inl ⟨p, (Option.some.inj h).symm, by rw [d3]; exact a3, rfl⟩⟩
            · rw [if_neg g1] at h
              rw [g3, Option.bind_some, if_neg (show ¬ (1 : Int32) = 0 by decide)]
              have go := ih f _ _ _ _ m3 true _ R h (by omega) g2 (by rw [d2]; exact a2) hnx.1 (by
                have : (sgS (tkT tp n p).1 :: (unS (lqS (sgS (tkT tp n p).1)) H o w).1).length = (unS (lqS (sgS (tkT tp n p).1)) H o w).1.length + 1 := rfl
                omega)
              by_cases c4 : sgS (tkT tp n p).1 ≤ 12
              · rw [if_neg (show ¬ (12 : Int32) < nI (sgS (tkT tp n p).1) from nI_nlt (a := 12) c4 (by decide))]
                rw [decide_eq_true c4] at go
                exact go.mono d1
              · rw [if_pos (show (12 : Int32) < nI (sgS (tkT tp n p).1) from nI_lt (a := 12) (by omega) (by omega))]
                rw [decide_eq_false c4] at go
                exact go.mono d1
