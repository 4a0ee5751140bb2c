section PU
variable {k w : Nat} {ra wa : Nat → Nat} {p : Nat} {T : MS} {S : CS}
theorem out_now {T0 T' : MS} {x : Int64 × CS} {st : Nat} (h20 : T'.1 20 = nI p) (hpi : Pile p T0 T') (hc : Core k w ra wa x.2 T') (hs : SR st x.2 T') (h6 : qI x.2 6 = T'.1 27) (hn : ¬ T'.1 27 = 0) : Out k w ra wa p T0 x T' := ⟨T', st, Rs.rf, h20, hpi, hc, hs, h6, fun z => absurd z hn⟩
/-- a frame is laid on the pile -/
theorem push_m {st j : Nat} {lo wy : Int32} (hc : Core k w ra wa S T) (h27 : T.1 27 = 0) : ∃ T7 : MS, T7 = msI (msJ (msA (msA (msA (msA (msI T 18 (nI (st + 1))) 21 p (nI j)) 22 p lo) 23 p wy) 24 p 0) 25 p 0) 20 (nI (p + 1)) ∧ Top p j lo wy 0 T7 ∧ T7.1 27 = 0 ∧ T7.1 18 = nI (st + 1) ∧ Pile p T T7 ∧ Core k w ra wa S T7 := by
  obtain ⟨T1, h1⟩ : ∃ z, z = msI T 18 (nI (st + 1)) := ⟨_, rfl⟩
  obtain ⟨T2, h2⟩ : ∃ z, z = msA T1 21 p (nI j) := ⟨_, rfl⟩
  obtain ⟨T3, h3⟩ : ∃ z, z = msA T2 22 p lo := ⟨_, rfl⟩
  obtain ⟨T4, h4⟩ : ∃ z, z = msA T3 23 p wy := ⟨_, rfl⟩
  obtain ⟨T5, h5⟩ : ∃ z, z = msA T4 24 p 0 := ⟨_, rfl⟩
  obtain ⟨T6, h6⟩ : ∃ z, z = msJ T5 25 p 0 := ⟨_, rfl⟩
  obtain ⟨T7, h7⟩ : ∃ z, z = msI T6 20 (nI (p + 1)) := ⟨_, rfl⟩
  have i1 : T1.1 18 = nI (st + 1) := by rw [h1]; exact msI_eq _ _ _
  have i1n : ∀ m, m ≠ 18 → T1.1 m = T.1 m := fun m hm => by rw [h1]; exact msI_ne _ _ _ _ hm
  have a1 : T1.2 = T.2 := by rw [h1]
  have i2 : T2.1 = T1.1 := by rw [h2]
  have a2 : T2.2.1 21 = upd (T1.2.1 21) p (nI j) := by rw [h2]; exact msA_eq _ _ _ _
  have a2n : ∀ m, m ≠ 21 → T2.2.1 m = T1.2.1 m := fun m hm => by rw [h2]; exact msA_ne _ _ _ _ _ hm
  have j2 : T2.2.2 = T1.2.2 := by rw [h2]
  have i3 : T3.1 = T2.1 := by rw [h3]
  have a3 : T3.2.1 22 = upd (T2.2.1 22) p lo := by rw [h3]; exact msA_eq _ _ _ _
  have a3n : ∀ m, m ≠ 22 → T3.2.1 m = T2.2.1 m := fun m hm => by rw [h3]; exact msA_ne _ _ _ _ _ hm
  have j3 : T3.2.2 = T2.2.2 := by rw [h3]
  have i4 : T4.1 = T3.1 := by rw [h4]
  have a4 : T4.2.1 23 = upd (T3.2.1 23) p wy := by rw [h4]; exact msA_eq _ _ _ _
  have a4n : ∀ m, m ≠ 23 → T4.2.1 m = T3.2.1 m := fun m hm => by rw [h4]; exact msA_ne _ _ _ _ _ hm
  have j4 : T4.2.2 = T3.2.2 := by rw [h4]
  have i5 : T5.1 = T4.1 := by rw [h5]
  have a5 : T5.2.1 24 = upd (T4.2.1 24) p 0 := by rw [h5]; exact msA_eq _ _ _ _
  have a5n : ∀ m, m ≠ 24 → T5.2.1 m = T4.2.1 m := fun m hm => by rw [h5]; exact msA_ne _ _ _ _ _ hm
  have j5 : T5.2.2 = T4.2.2 := by rw [h5]
  have i6 : T6.1 = T5.1 := by rw [h6]
  have a6 : T6.2.1 = T5.2.1 := by rw [h6]
  have j6 : T6.2.2.1 25 = vp_updL (T5.2.2.1 25) p 0 := by rw [h6]; exact msJ_eq _ _ _ _
  have i7 : T7.1 20 = nI (p + 1) := by rw [h7]; exact msI_eq _ _ _
  have i7n : ∀ m, m ≠ 20 → T7.1 m = T6.1 m := fun m hm => by rw [h7]; exact msI_ne _ _ _ _ hm
  have a7 : T7.2 = T6.2 := by rw [h7]
  have x21 : T7.2.1 21 = upd (T.2.1 21) p (nI j) := by rw [a7, a6, a5n 21 (by decide), a4n 21 (by decide), a3n 21 (by decide), a2, a1]
  have x22 : T7.2.1 22 = upd (T.2.1 22) p lo := by rw [a7, a6, a5n 22 (by decide), a4n 22 (by decide), a3, a2n 22 (by decide), a1]
  have x23 : T7.2.1 23 = upd (T.2.1 23) p wy := by rw [a7, a6, a5n 23 (by decide), a4, a3n 23 (by decide), a2n 23 (by decide), a1]
  have x24 : T7.2.1 24 = upd (T.2.1 24) p 0 := by rw [a7, a6, a5, a4n 24 (by decide), a3n 24 (by decide), a2n 24 (by decide), a1]
  have x6 : T7.2.1 6 = T.2.1 6 := by rw [a7, a6, a5n 6 (by decide), a4n 6 (by decide), a3n 6 (by decide), a2n 6 (by decide), a1]
  have x25 : T7.2.2.1 25 = vp_updL (T.2.2.1 25) p 0 := by rw [a7, j6, j5, j4, j3, j2, a1]
  have iI : ∀ m, m ≠ 20 → m ≠ 18 → T7.1 m = T.1 m := fun m m1 m2 => by rw [i7n m m1, i6, i5, i4, i3, i2, i1n m m2]
  refine ⟨T7, by rw [h7, h6, h5, h4, h3, h2, h1], ⟨i7, by rw [x21, upd_eq], by rw [x22, upd_eq], by rw [x23, upd_eq], by rw [x24, upd_eq]; rfl⟩, by rw [iI 27 (by decide) (by decide)]; exact h27, by rw [i7n 18 (by decide), i6, i5, i4, i3, i2]; exact i1, ⟨iI 17 (by decide) (by decide), x6, fun m hm => by rw [x21, x22, x23, x24, x25, upd_ne (by omega), upd_ne (by omega), upd_ne (by omega), upd_ne (by omega), updL_ne (by omega)]; exact ⟨rfl, rfl, rfl, rfl, rfl⟩⟩, ?_⟩
  rw [h7, h6, h5, h4, h3, h2, h1]
  exact ((((((hc.i18 _).a21 _ _).a22 _ _).a23 _ _).a24 _ _).j25 _ _).i20 _
/-- a child is asked out of the frame on top, and comes back -/
theorem child {fa : CS → Option Nat → Int32 → Int32 → Int32 → Int64 × CS} {fo : CS → Option Nat → Int32 → Int32 → Int32 → Prop} (G : Good k w ra wa fa fo (p + 1)) (hp : p < 24) {j q st : Nat} {lo wy : Int32} (ht : Top p j lo wy q T) (hc : Core k w ra wa S T) (hs : SR st S T) (h6 : qI S 6 = 0) (h27 : T.1 27 = 0) {r : Option Nat} {idx : Int32} (hl : Lnk k ra r idx) (lo' wy' : Int32) :
    fo S r lo' wy' (nI (p + 1)) ∧ ok_X2_asks T idx lo' wy' ∧ ∃ (T3 : MS) (st3 : Nat), Rs (p_X2_asks T idx lo' wy') T3 ∧ Top p j lo wy (q + 1) T3 ∧ Pile p T T3 ∧ T3.2.2.1 25 p = T.2.2.1 25 p ∧ Core k w ra wa (fa S r lo' wy' (nI (p + 1))).2 T3 ∧ SR st3 (fa S r lo' wy' (nI (p + 1))).2 T3 ∧ qI (fa S r lo' wy' (nI (p + 1))).2 6 = T3.1 27 ∧ (T3.1 27 = 0 → T3.2.2.2 = (fa S r lo' wy' (nI (p + 1))).1) := by
  obtain ⟨e20, e21, e22, e23, e24⟩ := ht
  have e20' : T.1 20 - 1 = nI p := by rw [e20, nI_pred]
  obtain ⟨T2, h2⟩ : ∃ z, z = msA T 24 p (nI (q + 1)) := ⟨_, rfl⟩
  have i2 : T2.1 = T.1 := by rw [h2]
  have a2 : T2.2.1 24 = upd (T.2.1 24) p (nI (q + 1)) := by rw [h2]; exact msA_eq _ _ _ _
  have a2n : ∀ m, m ≠ 24 → T2.2.1 m = T.2.1 m := fun m hm => by rw [h2]; exact msA_ne _ _ _ _ _ hm
  have j2 : T2.2.2 = T.2.2 := by rw [h2]
  have c2 : Core k w ra wa S T2 := by rw [h2]; exact hc.a24 _ _
  have e : p_X2_asks T idx lo' wy' = p_X2_begin T2 idx lo' wy' := by
    unfold p_X2_asks
    rw [e20', cl p (by omega), e24, nI_1, ← h2]
  have v : vp_in (nI p) 24 := vp_in_nI hp (by omega)
  obtain ⟨g1, g2, T3, st3, r1, r2, r3, r4, r5, r6, r7⟩ := G S T2 r idx lo' wy' st c2 ⟨hs.1, hs.2.1, by rw [i2]; exact hs.2.2⟩ h6 (by rw [i2]; exact h27) (by rw [i2]; exact e20) hl
  refine ⟨g1, ?_, T3, st3, by rw [e]; exact r1, ?_, ?_, ?_, r4, r5, r6, r7⟩
  · unfold ok_X2_asks
    rw [e20', cl p (by omega), e24, nI_1, ← h2]
    exact ⟨v, v, g2, trivial⟩
  · obtain ⟨b1, b2, b3, b4, b5⟩ := r3.2.2 p (by omega)
    exact ⟨r2, by rw [b1, a2n 21 (by decide)]; exact e21, by rw [b2, a2n 22 (by decide)]; exact e22, by rw [b3, a2n 23 (by decide)]; exact e23, by rw [b4, a2, upd_eq]⟩
  · refine Pile.trans ?_ (r3.le (Nat.le_succ p))
    exact ⟨by rw [i2], a2n 6 (by decide), fun m hm => by rw [a2n 21 (by decide), a2n 22 (by decide), a2n 23 (by decide), a2, j2, upd_ne (by omega)]; exact ⟨rfl, rfl, rfl, rfl, rfl⟩⟩
  · obtain ⟨b1, b2, b3, b4, b5⟩ := r3.2.2 p (by omega)
    rw [b5, j2]
theorem guard_m {j : Nat} {lo wy : Int32} (hp : p < 24) (hj : j < 4000) (ht : Top p j lo wy 1 T) (e6 : T.2.1 6 j = nI 8) (h1 : ¬ T.1 27 = -6) (h2 : ¬ T.1 27 = -7) : fall1 T = p_X2_asks (msI T 27 0) (T.2.1 8 j) lo wy ∧ (ok_X2_asks (msI T 27 0) (T.2.1 8 j) lo wy → okf1 T) := by
  obtain ⟨e20, e21, e22, e23, e24⟩ := ht
  have e20' : T.1 20 - 1 = nI p := by rw [e20, nI_pred]
  have v : vp_in (nI p) 24 := vp_in_nI hp (by omega)
  have vj : vp_in (nI j) 4200 := vp_in_nI (by omega) (by omega)
  have k8 : nI 8 = (8 : Int32) := rfl
  have k1 : nI 1 = (1 : Int32) := rfl
  constructor
  · unfold fall1
    rw [e20', cl p (by omega), e21, cl j (by omega), e6, e24, e22, e23, if_pos k8, if_pos k1, if_neg h1, if_neg h2]
    rfl
  · intro hk
    unfold okf1
    rw [e20', cl p (by omega), e21, cl j (by omega), e6, e24, e22, e23]
    exact ⟨v, vj, fun _ => ⟨v, fun _ => ⟨fun z => absurd z h1, fun _ => ⟨fun z => absurd z h2, fun _ => ⟨vj, v, v, hk, trivial⟩⟩⟩, fun _ => trivial⟩, fun _ => trivial⟩
end PU
theorem good_answer {k w : Nat} {ra wa : Nat → Nat} (n p : Nat) (hp : p ≤ 24) (hk : k < 4000)
    (inside : p < 24 → ∀ (S : CS) (T : MS) (j : Nat) (lo wy : Int32) (st : Nat), Core k w ra wa S T → SR st S T → qI S 6 = 0 → T.1 27 = 0 → Top p j lo wy 0 T → j < k → ok_X1_answerByKind (p_X1_answer n) (ok_X1_answer n) S (ra j) lo wy (nI (p + 1)) ∧ Out k w ra wa p T (p_X1_answerByKind (p_X1_answer n) S (ra j) lo wy (nI (p + 1))) T) :
    Good k w ra wa (p_X1_answer (n + 1)) (ok_X1_answer (n + 1)) p := by
  intro S T r idx lo wy st hc hs h6 h27 h20 hl
  obtain ⟨s1, s2, s3⟩ := id hs
  rw [p_X1_answer, ok_X1_answer]
  unfold p_X2_begin ok_X2_begin
  rw [s2, s3, h20]
  by_cases hst : st = 80
  · subst hst
    have n1 : ¬ nI 80 < (80 : Int32) := by decide
    have n2 : nI 80 = (80 : Int32) := by decide
    rw [if_neg n1, if_pos n2]
    refine ⟨⟨fun z => absurd z n1, fun _ => ⟨trivial, trivial⟩⟩, ⟨fun _ => trivial, fun z => absurd n2 z⟩, ?_⟩
    refine out_now (st := 80) ((msI_ne T 27 20 _ (by decide)).trans h20) ⟨msI_ne T 27 17 _ (by decide), rfl, fun _ _ => ⟨rfl, rfl, rfl, rfl, rfl⟩⟩ ((hc.s6 (-6)).i27 _) ⟨by omega, (qI_csI_ne S 6 4 _ (by decide)).trans s2, (msI_ne T 27 18 _ (by decide)).trans s3⟩ ((qI_csI_eq S 6 (-6)).trans (msI_eq T 27 (-6)).symm) (by rw [msI_eq]; decide)
  have n1 : nI st < (80 : Int32) := nI_lt (b := 80) (by omega) (by omega)
  have n2 : ¬ nI st = (80 : Int32) := by
    rw [show (80 : Int32) = nI 80 from rfl, nI_eq (by omega) (by omega)]
    exact hst
  rw [if_pos n1, if_neg n2, nI_1]
  obtain ⟨S1, hS1⟩ : ∃ z, z = csI S 4 (nI (st + 1)) := ⟨_, rfl⟩
  have q4 : qI S1 4 = nI (st + 1) := by rw [hS1]; exact qI_csI_eq _ _ _
  have q6 : qI S1 6 = 0 := by rw [hS1]; exact (qI_csI_ne S 4 6 _ (by decide)).trans h6
  rw [← hS1]
  have c1 : Core k w ra wa S1 T := by rw [hS1]; exact hc.s4 _
  obtain ⟨T1, hT1⟩ : ∃ z, z = msI T 18 (nI (st + 1)) := ⟨_, rfl⟩
  have t18 : T1.1 18 = nI (st + 1) := by rw [hT1]; exact msI_eq _ _ _
  have tn : ∀ m, m ≠ 18 → T1.1 m = T.1 m := fun m hm => by rw [hT1]; exact msI_ne _ _ _ _ hm
  have t2 : T1.2 = T.2 := by rw [hT1]
  have cT1 : Core k w ra wa S1 T1 := by rw [hT1]; exact c1.i18 _
  have bad : ∀ what : Int32, ¬ what = 0 → Out k w ra wa p T (p_X1_fail S1 what) (msI T1 27 what) := by
    intro what hw
    refine out_now (st := st + 1) ?_ ⟨?_, ?_, ?_⟩ ((cT1.s6 what).i27 _) ⟨by omega, (qI_csI_ne S1 6 4 _ (by decide)).trans q4, (msI_ne T1 27 18 _ (by decide)).trans t18⟩ ((qI_csI_eq S1 6 what).trans (msI_eq T1 27 what).symm) (by rw [msI_eq]; exact hw)
    · rw [msI_ne T1 27 20 _ (by decide), tn 20 (by decide)]
      exact h20
    · rw [msI_ne T1 27 17 _ (by decide), tn 17 (by decide)]
    · show T1.2.1 6 = T.2.1 6
      rw [t2]
    · intro m _
      show T1.2.1 21 m = T.2.1 21 m ∧ T1.2.1 22 m = T.2.1 22 m ∧ T1.2.1 23 m = T.2.1 23 m ∧ T1.2.1 24 m = T.2.1 24 m ∧ T1.2.2.1 25 m = T.2.2.1 25 m
      rw [t2]
      exact ⟨rfl, rfl, rfl, rfl, rfl⟩
  by_cases hp24 : p = 24
  · subst hp24
    have m1 : ¬ nI 24 < (24 : Int32) := by decide
    have m2 : nI 24 = (24 : Int32) := by decide
    rw [if_neg m1, if_pos m2, ← hT1]
    exact ⟨⟨fun _ => ⟨fun z => absurd z m1, fun _ => ⟨trivial, trivial⟩⟩, fun z => absurd n1 z⟩, ⟨fun z => absurd z n2, fun _ => ⟨fun _ => trivial, fun z => absurd m2 z⟩⟩, bad (-7) (by decide)⟩
  have m1 : nI p < (24 : Int32) := nI_lt (b := 24) (by omega) (by omega)
  have m2 : ¬ nI p = (24 : Int32) := by
    rw [show (24 : Int32) = nI 24 from rfl, nI_eq (by omega) (by omega)]
    exact hp24
  rw [if_pos m1, if_neg m2]
  have v : vp_in (nI p) 24 := vp_in_nI (by omega) (by omega)
  rcases hl with ⟨rfl, rfl⟩ | ⟨j, hj, rfl, rfl⟩
  · have z1 : ¬ (0 : Int32) ≤ -1 := by decide
    rw [if_pos rfl, if_neg z1, ← hT1]
    exact ⟨⟨fun _ => ⟨fun _ => ⟨fun _ => ⟨trivial, trivial⟩, fun z => absurd rfl z⟩, fun z => absurd m1 z⟩, fun z => absurd n1 z⟩, ⟨fun z => absurd z n2, fun _ => ⟨fun z => absurd z m2, fun _ => ⟨fun z => absurd z z1, fun _ => trivial⟩⟩⟩, bad (-2) (by decide)⟩
  · have z1 : (0 : Int32) ≤ nI j := nI_pos' (by omega)
    have z2 : ¬ (some (ra j) : Option Nat) = none := by simp
    rw [if_neg z2, if_pos z1, cl p (by omega), nI_1]
    obtain ⟨T7, e7, f1, f2, f3, f4, f5⟩ := push_m (st := st) (p := p) (j := j) (lo := lo) (wy := wy) c1 h27
    rw [← e7]
    obtain ⟨g1, g2⟩ := inside (by omega) S1 T7 j lo wy (st + 1) f5 ⟨by omega, q4, f3⟩ q6 f2 f1 hj
    exact ⟨⟨fun _ => ⟨fun _ => ⟨fun z => absurd z z2, fun _ => ⟨g1, trivial⟩⟩, fun z => absurd m1 z⟩, fun z => absurd n1 z⟩, ⟨fun z => absurd z n2, fun _ => ⟨fun z => absurd z m2, fun _ => ⟨fun _ => ⟨v, v, v, v, v, trivial⟩, fun z => absurd z1 z⟩⟩⟩, g2.base f4⟩
