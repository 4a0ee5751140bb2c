theorem join_c (S : CS) (T : MS) (op : Int32) (x y : Int64) : ok_X1_combine S op x y ∧ ok_X2_join T op x y ∧ ((∃ v, p_X1_combine S op x y = (v, S) ∧ p_X2_join T op x y = p_X2_gives T v) ∨ (p_X1_combine S op x y = (0, csI S 6 (-3)) ∧ p_X2_join T op x y = p_X2_fails T (-3))) := by
  have hz : ¬ lg_cmp y 0 = 0 → ¬ y = 0 := fun a b => a ((lg_cmp_eq y 0).mpr b)
  have hmin : (if y < x then y else x) = (if 0 ≤ lg_cmp x y then y else x) := by
    by_cases h : y < x
    · rw [if_pos h, if_pos ((lg_cmp_ge x y).mpr (Int64.le_of_lt h))]
    · rw [if_neg h]
      by_cases h2 : 0 ≤ lg_cmp x y
      · rw [if_pos h2]
        exact Int64.le_antisymm (Int64.not_lt.mp h) ((lg_cmp_ge x y).mp h2)
      · rw [if_neg h2]
  refine ⟨?_, ?_, ?_⟩
  · unfold ok_X1_combine
    exact ⟨fun _ => trivial, fun _ => ⟨fun _ => trivial, fun _ => ⟨fun _ => trivial, fun _ => ⟨fun _ => ⟨fun _ => ⟨trivial, trivial⟩, fun z => ⟨hz z, trivial⟩⟩, fun _ => ⟨fun _ => ⟨fun _ => ⟨trivial, trivial⟩, fun z => ⟨hz z, trivial⟩⟩, fun _ => ⟨fun _ => trivial, fun _ => trivial⟩⟩⟩⟩⟩⟩
  · unfold ok_X2_join
    exact ⟨fun _ => ⟨fun _ => ⟨trivial, trivial⟩, fun z => ⟨hz z, trivial, trivial⟩⟩, fun _ => ⟨fun _ => ⟨fun _ => ⟨trivial, trivial⟩, fun z => ⟨hz z, trivial, trivial⟩⟩, fun _ => ⟨fun _ => ⟨trivial, trivial⟩, fun _ => ⟨fun _ => ⟨trivial, trivial⟩, fun _ => ⟨fun _ => ⟨trivial, trivial⟩, fun _ => ⟨fun _ => ⟨trivial, trivial⟩, fun _ => ⟨trivial, trivial⟩⟩⟩⟩⟩⟩⟩
  unfold p_X1_combine p_X2_join
  by_cases h0 : op = 0
  · subst h0
    rw [if_pos rfl, if_neg (show ¬ (0 : Int32) = 3 by decide), if_neg (show ¬ (0 : Int32) = 4 by decide), if_pos rfl]
    exact Or.inl ⟨_, rfl, rfl⟩
  by_cases h1 : op = 1
  · subst h1
    rw [if_neg (show ¬ (1 : Int32) = 0 by decide), if_pos rfl, if_neg (show ¬ (1 : Int32) = 3 by decide), if_neg (show ¬ (1 : Int32) = 4 by decide), if_neg (show ¬ (1 : Int32) = 0 by decide), if_pos rfl]
    exact Or.inl ⟨_, rfl, rfl⟩
  by_cases h2 : op = 2
  · subst h2
    rw [if_neg (show ¬ (2 : Int32) = 0 by decide), if_neg (show ¬ (2 : Int32) = 1 by decide), if_pos rfl, if_neg (show ¬ (2 : Int32) = 3 by decide), if_neg (show ¬ (2 : Int32) = 4 by decide), if_neg (show ¬ (2 : Int32) = 0 by decide), if_neg (show ¬ (2 : Int32) = 1 by decide), if_pos rfl]
    exact Or.inl ⟨_, rfl, rfl⟩
  rw [if_neg h0, if_neg h1, if_neg h2]
  by_cases h3 : op = 3
  · rw [if_pos h3, if_pos h3]
    by_cases hy : lg_cmp y 0 = 0
    · rw [if_pos hy, if_pos hy]
      exact Or.inr ⟨rfl, rfl⟩
    · rw [if_neg hy, if_neg hy]
      exact Or.inl ⟨_, rfl, rfl⟩
  rw [if_neg h3, if_neg h3]
  by_cases h4 : op = 4
  · rw [if_pos h4, if_pos h4]
    by_cases hy : lg_cmp y 0 = 0
    · rw [if_pos hy, if_pos hy]
      exact Or.inr ⟨rfl, rfl⟩
    · rw [if_neg hy, if_neg hy]
      exact Or.inl ⟨_, rfl, rfl⟩
  rw [if_neg h4, if_neg h4, hmin]
  refine Or.inl ⟨if 0 ≤ lg_cmp x y then y else x, ?_, ?_⟩
  · by_cases h5 : op = 5
    · rw [if_pos h5]
    · rw [if_neg h5]
  · rw [if_neg h0, if_neg h1, if_neg h2]
    by_cases hh : 0 ≤ lg_cmp x y
    · rw [if_pos hh, if_pos hh]
    · rw [if_neg hh, if_neg hh]
theorem RIe (S : CS) (k a : Nat) (v : Int32) : qRI (csRI S k a v) k = va_up (qRI S k) a v := up_eq (f := qRI S) (k := k) (v := va_up (qRI S k) a v)
theorem core_frame {k w : Nat} {ra wa : Nat → Nat} {S S1 : CS} {T T1 : MS} (h : Core k w ra wa S T) (aI : qI S1 = qI S) (aR : qR S1 = qR S) (aW : qW S1 = qW S) (aP : qP S1 = qP S) (aL : qL S1 = qL S) (aK : qK S1 = qK S) (aO : qRO S1 = qRO S) (aN : qWL S1 = qWL S) (aA : qWA S1 = qWA S) (b1 : T1.1 = T.1) (b2 : ∀ m, m < 11 ∨ m = 16 → T1.2.1 m = T.2.1 m) (b3 : T1.2.2.1 10 = T.2.2.1 10) (a0 : qRI S1 0 = qRI S 0) (a1 : qRI S1 1 = qRI S 1) (hq : ∀ i, i < k → T1.2.1 11 i = qRI S1 6 (ra i) ∧ T1.2.1 12 i = qRI S1 7 (ra i) ∧ (¬ qRI S1 7 (ra i) = 0 → T1.2.1 13 i = qRI S1 8 (ra i) ∧ T1.2.1 14 i = qRI S1 9 (ra i) ∧ T1.2.2.1 15 i = qRJ S1 (ra i))) : Core k w ra wa S1 T1 := by
  obtain ⟨s1, s2, s3, s4, s5, s6, s7, s8, s9⟩ := h
  refine ⟨by rw [b1, aI]; exact s1, by rw [b1, aI]; exact s2, by rw [aR, b2 0 (by omega)]; exact s3, by rw [b2 1 (by omega), aW]; exact s4, ?_, ?_, ?_, s8, s9⟩
  · unfold RowR
    rw [aL, aK, aN, aA, b2 2 (by omega), b2 3 (by omega)]
    exact s5
  · unfold PlaceR
    rw [aP, b2 16 (by omega)]
    exact s6
  · intro i hi
    obtain ⟨g1, g2, n, hn, e6, e0, d1, d2, d3, d4, d5, d6, d7, d8, d9, d10⟩ := s7 i hi
    obtain ⟨q1, q2, q3⟩ := hq i hi
    exact ⟨by rw [aL]; exact g1, by rw [aK]; exact g2, n, hn, by rw [b2 6 (by omega)]; exact e6, by rw [a0]; exact e0, by rw [b3, a1]; exact d1, by rw [b2 7 (by omega), a1]; exact d2, by rw [b2 7 (by omega), a1]; exact d3, by rw [b2 7 (by omega), aO]; exact d4, by rw [b2 7 (by omega), aO]; exact d5, by rw [b2 8 (by omega), aO]; exact d6, by rw [b2 9 (by omega), aO]; exact d7, q1, q2, q3⟩
theorem core_count {k w : Nat} {ra wa : Nat → Nat} {S : CS} {T : MS} {v : Int32} (h : Core k w ra wa S T) {j : Nat} (hj : j < k) : Core k w ra wa (csRI S 6 (ra j) v) (msA T 11 j v) := by
  have q6 : qRI (csRI S 6 (ra j) v) 6 = va_up (qRI S 6) (ra j) v := RIe _ _ _ _
  have qn : ∀ m, m ≠ 6 → qRI (csRI S 6 (ra j) v) m = qRI S m := fun m hm => up_ne hm
  refine core_frame h rfl rfl rfl rfl rfl rfl rfl rfl rfl rfl (fun m hm => msA_ne T 11 j m v (by omega)) rfl (qn 0 (by decide)) (qn 1 (by decide)) ?_
  intro i hi
  obtain ⟨-, -, n, hn, e6, e0, d1, d2, d3, d4, d5, d6, d7, d8, d9, d10⟩ := h.2.2.2.2.2.2.1 i hi
  rw [msA_eq, msA_ne _ 11 _ 12 _ (by decide), msA_ne _ 11 _ 13 _ (by decide), msA_ne _ 11 _ 14 _ (by decide), q6, qn 7 (by decide), qn 8 (by decide), qn 9 (by decide)]
  refine ⟨?_, d9, d10⟩
  by_cases e : i = j
  · rw [e, upd_eq, up_eq]
  · rw [upd_ne e, up_ne (fun z => e (h.2.2.2.2.2.2.2.1 i j hi hj z))]
    exact d8
theorem core_keep {k w : Nat} {ra wa : Nat → Nat} {S : CS} {T : MS} (lo wy : Int32) (x : Int64) (h : Core k w ra wa S T) {j : Nat} (hj : j < k) : ∃ (S4 : CS) (T4 : MS), S4 = csRJ (csRI (csRI (csRI S 7 (ra j) 1) 8 (ra j) lo) 9 (ra j) wy) (ra j) x ∧ T4 = msJ (msA (msA (msA T 12 j 1) 13 j lo) 14 j wy) 15 j x ∧ Core k w ra wa S4 T4 ∧ qI S4 = qI S ∧ T4.1 = T.1 ∧ ∀ p, Pile p T T4 := by
  obtain ⟨S1, h1⟩ : ∃ z, z = csRI S 7 (ra j) 1 := ⟨_, rfl⟩
  obtain ⟨S2, h2⟩ : ∃ z, z = csRI S1 8 (ra j) lo := ⟨_, rfl⟩
  obtain ⟨S3, h3⟩ : ∃ z, z = csRI S2 9 (ra j) wy := ⟨_, rfl⟩
  obtain ⟨S4, h4⟩ : ∃ z, z = csRJ S3 (ra j) x := ⟨_, rfl⟩
  obtain ⟨T1, k1⟩ : ∃ z, z = msA T 12 j 1 := ⟨_, rfl⟩
  obtain ⟨T2, k2⟩ : ∃ z, z = msA T1 13 j lo := ⟨_, rfl⟩
  obtain ⟨T3, k3⟩ : ∃ z, z = msA T2 14 j wy := ⟨_, rfl⟩
  obtain ⟨T4, k4⟩ : ∃ z, z = msJ T3 15 j x := ⟨_, rfl⟩
  have i1 : T1.1 = T.1 := by rw [k1]
  have i2 : T2.1 = T1.1 := by rw [k2]
  have i3 : T3.1 = T2.1 := by rw [k3]
  have i4 : T4.1 = T3.1 := by rw [k4]
  have a1 : T1.2.1 12 = upd (T.2.1 12) j 1 := by rw [k1]; exact msA_eq _ _ _ _
  have a1n : ∀ m, m ≠ 12 → T1.2.1 m = T.2.1 m := fun m hm => by rw [k1]; exact msA_ne _ _ _ _ _ hm
  have a2 : T2.2.1 13 = upd (T1.2.1 13) j lo := by rw [k2]; exact msA_eq _ _ _ _
  have a2n : ∀ m, m ≠ 13 → T2.2.1 m = T1.2.1 m := fun m hm => by rw [k2]; exact msA_ne _ _ _ _ _ hm
  have a3 : T3.2.1 14 = upd (T2.2.1 14) j wy := by rw [k3]; exact msA_eq _ _ _ _
  have a3n : ∀ m, m ≠ 14 → T3.2.1 m = T2.2.1 m := fun m hm => by rw [k3]; exact msA_ne _ _ _ _ _ hm
  have a4 : T4.2.1 = T3.2.1 := by rw [k4]
  have j1 : T1.2.2 = T.2.2 := by rw [k1]
  have j2 : T2.2.2 = T1.2.2 := by rw [k2]
  have j3 : T3.2.2 = T2.2.2 := by rw [k3]
  have j4 : T4.2.2.1 15 = vp_updL (T3.2.2.1 15) j x := by rw [k4]; exact msJ_eq _ _ _ _
  have j4n : ∀ m, m ≠ 15 → T4.2.2.1 m = T3.2.2.1 m := fun m hm => by rw [k4]; exact msJ_ne _ _ _ _ _ hm
  have b1 : T4.1 = T.1 := by rw [i4, i3, i2, i1]
  have bn : ∀ m, m ≠ 12 → m ≠ 13 → m ≠ 14 → T4.2.1 m = T.2.1 m := fun m m1 m2 m3 => by rw [a4, a3n m m3, a2n m m2, a1n m m1]
  have b12 : T4.2.1 12 = upd (T.2.1 12) j 1 := by rw [a4, a3n 12 (by decide), a2n 12 (by decide), a1]
  have b13 : T4.2.1 13 = upd (T.2.1 13) j lo := by rw [a4, a3n 13 (by decide), a2, a1n 13 (by decide)]
  have b14 : T4.2.1 14 = upd (T.2.1 14) j wy := by rw [a4, a3, a2n 14 (by decide), a1n 14 (by decide)]
  have b15 : T4.2.2.1 15 = vp_updL (T.2.2.1 15) j x := by rw [j4, j3, j2, j1]
  have jn : ∀ m, m ≠ 15 → T4.2.2.1 m = T.2.2.1 m := fun m hm => by rw [j4n m hm, j3, j2, j1]
  have u1 : qRI S1 7 = va_up (qRI S 7) (ra j) 1 := by rw [h1]; exact RIe _ _ _ _
  have u1n : ∀ m, m ≠ 7 → qRI S1 m = qRI S m := fun m hm => by rw [h1]; exact up_ne hm
  have u2 : qRI S2 8 = va_up (qRI S1 8) (ra j) lo := by rw [h2]; exact RIe _ _ _ _
  have u2n : ∀ m, m ≠ 8 → qRI S2 m = qRI S1 m := fun m hm => by rw [h2]; exact up_ne hm
  have u3 : qRI S3 9 = va_up (qRI S2 9) (ra j) wy := by rw [h3]; exact RIe _ _ _ _
  have u3n : ∀ m, m ≠ 9 → qRI S3 m = qRI S2 m := fun m hm => by rw [h3]; exact up_ne hm
  have u4 : qRI S4 = qRI S3 := by rw [h4]
  have v7 : qRI S4 7 = va_up (qRI S 7) (ra j) 1 := by rw [u4, u3n 7 (by decide), u2n 7 (by decide), u1]
  have v8 : qRI S4 8 = va_up (qRI S 8) (ra j) lo := by rw [u4, u3n 8 (by decide), u2, u1n 8 (by decide)]
  have v9 : qRI S4 9 = va_up (qRI S 9) (ra j) wy := by rw [u4, u3, u2n 9 (by decide), u1n 9 (by decide)]
  have vn : ∀ m, m ≠ 7 → m ≠ 8 → m ≠ 9 → qRI S4 m = qRI S m := fun m m1 m2 m3 => by rw [u4, u3n m m3, u2n m m2, u1n m m1]
  have vJ : qRJ S4 = va_up (qRJ S) (ra j) x := by
    have e1 : qRJ S4 = va_up (qRJ S3) (ra j) x := by rw [h4]
    rw [e1, h3, qRJ_csRI, h2, qRJ_csRI, h1, qRJ_csRI]
  refine ⟨S4, T4, by rw [h4, h3, h2, h1], by rw [k4, k3, k2, k1], ?_, by rw [h4, qI_csRJ, h3, qI_csRI, h2, qI_csRI, h1, qI_csRI], b1, fun p => ⟨by rw [b1], bn 6 (by decide) (by decide) (by decide), fun m _ => ⟨by rw [bn 21 (by decide) (by decide) (by decide)], by rw [bn 22 (by decide) (by decide) (by decide)], by rw [bn 23 (by decide) (by decide) (by decide)], by rw [bn 24 (by decide) (by decide) (by decide)], by rw [jn 25 (by decide)]⟩⟩⟩
  refine core_frame h (by rw [h4, qI_csRJ, h3, qI_csRI, h2, qI_csRI, h1, qI_csRI]) (by rw [h4, qR_csRJ, h3, qR_csRI, h2, qR_csRI, h1, qR_csRI]) (by rw [h4, qW_csRJ, h3, qW_csRI, h2, qW_csRI, h1, qW_csRI]) (by rw [h4, qP_csRJ, h3, qP_csRI, h2, qP_csRI, h1, qP_csRI]) (by rw [h4, qL_csRJ, h3, qL_csRI, h2, qL_csRI, h1, qL_csRI]) (by rw [h4, qK_csRJ, h3, qK_csRI, h2, qK_csRI, h1, qK_csRI]) (by rw [h4, qRO_csRJ, h3, qRO_csRI, h2, qRO_csRI, h1, qRO_csRI]) (by rw [h4, qWL_csRJ, h3, qWL_csRI, h2, qWL_csRI, h1, qWL_csRI]) (by rw [h4, qWA_csRJ, h3, qWA_csRI, h2, qWA_csRI, h1, qWA_csRI]) b1 (fun m hm => bn m (by omega) (by omega) (by omega)) (jn 10 (by decide)) (vn 0 (by decide) (by decide) (by decide)) (vn 1 (by decide) (by decide) (by decide)) ?_
  intro i hi
  obtain ⟨-, -, n, hn, e6, e0, d1, d2, d3, d4, d5, d6, d7, d8, d9, d10⟩ := h.2.2.2.2.2.2.1 i hi
  rw [bn 11 (by decide) (by decide) (by decide), b12, b13, b14, b15, vn 6 (by decide) (by decide) (by decide), v7, v8, v9, vJ]
  by_cases e : i = j
  · rw [e] at d8 ⊢
    rw [upd_eq, upd_eq, upd_eq, updL_eq, up_eq, up_eq, up_eq, up_eq]
    exact ⟨d8, rfl, fun _ => ⟨rfl, rfl, rfl⟩⟩
  · have en : ra i ≠ ra j := fun z => e (h.2.2.2.2.2.2.2.1 i j hi hj z)
    rw [upd_ne e, upd_ne e, upd_ne e, updL_ne e, up_ne en, up_ne en, up_ne en, up_ne en]
    exact ⟨d8, d9, d10⟩
section IN
variable {k w : Nat} {ra wa : Nat → Nat} {p : Nat} {T : MS} {S : CS}
theorem in_4 {fa : CS → Option Nat → Int32 → Int32 → Int32 → Int64 × CS} {fo : CS → Option Nat → Int32 → Int32 → Int32 → Prop} (G : Good k w ra wa fa fo (p + 1)) (hp : p < 24) (hk : k < 4000) (hw : w < 4000) {j st : Nat} {lo wy : Int32} (ht : Top p j lo wy 0 T) (hc : Core k w ra wa S T) (hs : SR st S T) (h6 : qI S 6 = 0) (h27 : T.1 27 = 0) (hj : j < k) (e6 : T.2.1 6 j = nI 4) : ok_X1_answerByKind fa fo S (ra j) lo wy (nI (p + 1)) ∧ Out k w ra wa p T (p_X1_answerByKind fa S (ra j) lo wy (nI (p + 1))) T := by
  obtain ⟨hm, e0, d1, d2, d3, d4, d5, d6, d7, d8, d9, d10⟩ := rk_of hc hj e6 (by omega)
  have A := abk_4 (fa := fa) (fo := fo) (lo := lo) (wy := wy) (o := nI (p + 1)) e0 hm
  rw [A.1]
  obtain ⟨c1, c2, T3, st3, r1, r2, r3, r4, r5, r6, r7, r8⟩ := child G hp ht hc hs h6 h27 (d5 (by omega) (by omega)) lo wy
  have g := go_4_0 ht (by omega) hp e6
  have s1 := step_go hp ht h27 (g.2 c2) g.1
  have e63 : T3.2.1 6 j = nI 4 := by rw [r3.2.1]; exact e6
  obtain ⟨x1, hx1⟩ : ∃ z, z = fa S (qRO S 3 (ra j)) lo wy (nI (p + 1)) := ⟨_, rfl⟩
  obtain ⟨x2, hx2⟩ : ∃ z, z = fa x1.2 (qRO x1.2 4 (ra j)) lo wy (nI (p + 1)) := ⟨_, rfl⟩
  unfold p_X1_answerJoined
  have okf : ok_X1_answerJoined fa fo S (ra j) lo wy (nI (p + 1)) ↔ ((ra j ∈ qL S ∧ qK S (ra j) = true) ∧ (fo S (qRO S 3 (ra j)) lo wy (nI (p + 1)) ∧ ((qI x1.2 6 = 0 → ((ra j ∈ qL x1.2 ∧ qK x1.2 (ra j) = true) ∧ (fo x1.2 (qRO x1.2 4 (ra j)) lo wy (nI (p + 1)) ∧ ((qI x2.2 6 = 0 → ((ra j ∈ qL x2.2 ∧ qK x2.2 (ra j) = true) ∧ (ok_X1_combine x2.2 (qRI x2.2 1 (ra j)) x1.1 x2.1 ∧ True))) ∧ (¬ qI x2.2 6 = 0 → True))))) ∧ (¬ qI x1.2 6 = 0 → True)))) := by rw [hx2, hx1]; rfl
  rw [okf] at A
  rw [← hx1, ← hx2]
  rw [← hx1] at r5 r6 r7 r8
  by_cases hf : T3.1 27 = 0
  · have q6 : qI x1.2 6 = 0 := r7.trans hf
    rw [if_pos q6]
    obtain ⟨hm2, f0, f1, f2, f3, f4, f5, f6, -⟩ := rk_of r5 hj e63 (by omega)
    obtain ⟨T4, hT4⟩ : ∃ z, z = msJ T3 25 p T3.2.2.2 := ⟨_, rfl⟩
    have t1 : T4.1 = T3.1 := by rw [hT4]
    have t2 : T4.2.1 = T3.2.1 := by rw [hT4]
    have t25 : T4.2.2.1 25 p = T3.2.2.2 := by rw [hT4, msJ_eq, updL_eq]
    have t25n : ∀ m, m ≠ p → T4.2.2.1 25 m = T3.2.2.1 25 m := fun m hm => by rw [hT4, msJ_eq, updL_ne hm]
    have ct : Core k w ra wa x1.2 T4 := by rw [hT4]; exact r5.j25 _ _
    have top4 : Top p j lo wy 1 T4 := ⟨by rw [t1]; exact r2.1, by rw [t2]; exact r2.2.1, by rw [t2]; exact r2.2.2.1, by rw [t2]; exact r2.2.2.2.1, by rw [t2]; exact r2.2.2.2.2⟩
    have p34 : Pile p T3 T4 := ⟨by rw [t1], by rw [t2], fun m hm => ⟨by rw [t2], by rw [t2], by rw [t2], by rw [t2], t25n m (by omega)⟩⟩
    obtain ⟨c3, c4, T5, st5, u1, u2, u3, u4, u5, u6, u7, u8⟩ := child G hp top4 ct ⟨r6.1, r6.2.1, by rw [t1]; exact r6.2.2⟩ q6 (by rw [t1]; exact hf) (f6 (by omega)) lo wy
    have g2 := go_4_1 r2 (by omega) hp e63
    rw [← hT4] at g2
    rw [← hx2] at u5 u6 u7 u8
    have s2 := (step_go hp r2 hf (g2.2 c4) g2.1).trans u1
    have e65 : T5.2.1 6 j = nI 4 := by rw [u3.2.1, t2]; exact e63
    have pp := r3.trans (p34.trans u3)
    by_cases hf2 : T5.1 27 = 0
    · have q62 : qI x2.2 6 = 0 := u7.trans hf2
      rw [if_pos q62]
      obtain ⟨hm3, v0, v1, -⟩ := rk_of u5 hj e65 (by omega)
      have op : (T5.2.2.1 10 j).toInt32 = qRI x2.2 1 (ra j) := by rw [v1 (by omega) (by omega), t32]
      have g3 := go_4_2 u2 (by omega) hp e65
      rw [op, u4, t25, r8 hf, u8 hf2] at g3
      obtain ⟨j1, j2, j3⟩ := join_c x2.2 T5 (qRI x2.2 1 (ra j)) x1.1 x2.1
      refine ⟨A.2 ⟨hm, c1, fun _ => ⟨hm2, c3, fun _ => ⟨hm3, j1, trivial⟩, fun z => absurd q62 z⟩, fun z => absurd q6 z⟩, ?_⟩
      refine Out.step (T2 := T5) ?_ (s1.trans (r1.trans s2))
      show Out k w ra wa p T (p_X1_combine x2.2 (qRI x2.2 1 (ra j)) x1.1 x2.1) T5
      rcases j3 with ⟨v, e1, e2⟩ | ⟨e1, e2⟩
      · rw [e1]
        exact out_gives (S := x2.2) (st := st5) hp u2.1 hf2 (g3.1.trans e2) (g3.2 j2) u2.1 hf2 pp u5 u6 q62
      · rw [e1]
        exact out_fails (S := x2.2) (st := st5) (z := 0) hp u2.1 hf2 (g3.1.trans e2) (g3.2 j2) (by decide) pp u5 u6
    · have q62 : ¬ qI x2.2 6 = 0 := fun z => hf2 (u7.symm.trans z)
      rw [if_neg q62]
      exact ⟨A.2 ⟨hm, c1, fun _ => ⟨hm2, c3, fun z => absurd z q62, fun _ => trivial⟩, fun z => absurd q6 z⟩, (out_pop (z := 0) (S := x2.2) (st := st5) hp (by omega) u2 hf2 e65 (by omega) (by omega) (fun z => by omega) pp u5 u6 u7).step (s1.trans (r1.trans s2))⟩
  · have q6 : ¬ qI x1.2 6 = 0 := fun z => hf (r7.symm.trans z)
    rw [if_neg q6]
    exact ⟨A.2 ⟨hm, c1, fun z => absurd z q6, fun _ => trivial⟩, (out_pop (z := 0) (S := x1.2) (st := st3) hp (by omega) r2 hf e63 (by omega) (by omega) (fun z => by omega) r3 r5 r6 r7).step (s1.trans r1)⟩
theorem in_11 {fa : CS → Option Nat → Int32 → Int32 → Int32 → Int64 × CS} {fo : CS → Option Nat → Int32 → Int32 → Int32 → Prop} (G : Good k w ra wa fa fo (p + 1)) (hp : p < 24) (hk : k < 4000) (hw : w < 4000) {j st : Nat} {lo wy : Int32} (ht : Top p j lo wy 0 T) (hc : Core k w ra wa S T) (hs : SR st S T) (h6 : qI S 6 = 0) (h27 : T.1 27 = 0) (hj : j < k) (e6 : T.2.1 6 j = nI 11) : ok_X1_answerByKind fa fo S (ra j) lo wy (nI (p + 1)) ∧ Out k w ra wa p T (p_X1_answerByKind fa S (ra j) lo wy (nI (p + 1))) T := by
  obtain ⟨hm, e0, d1, d2, d3, d4, d5, d6, d7, d8, d9, d10⟩ := rk_of hc hj e6 (by omega)
  have A := abk_11 (fa := fa) (fo := fo) (lo := lo) (wy := wy) (o := nI (p + 1)) e0 hm
  rw [A.1]
  obtain ⟨S1, hS1⟩ : ∃ z, z = csRI S 6 (ra j) (qRI S 6 (ra j) + 1) := ⟨_, rfl⟩
  obtain ⟨T1, hT1⟩ : ∃ z, z = msA T 11 j (T.2.1 11 j + 1) := ⟨_, rfl⟩
  have t1 : T1.1 = T.1 := by rw [hT1]
  have tn : ∀ m, m ≠ 11 → T1.2.1 m = T.2.1 m := fun m hm => by rw [hT1]; exact msA_ne _ _ _ _ _ hm
  have t3 : T1.2.2 = T.2.2 := by rw [hT1]
  have c1 : Core k w ra wa S1 T1 := by rw [hT1, hS1, d8]; exact core_count hc hj
  have top1 : Top p j lo wy 0 T1 := ⟨by rw [t1]; exact ht.1, by rw [tn 21 (by decide)]; exact ht.2.1, by rw [tn 22 (by decide)]; exact ht.2.2.1, by rw [tn 23 (by decide)]; exact ht.2.2.2.1, by rw [tn 24 (by decide)]; exact ht.2.2.2.2⟩
  have p01 : Pile p T T1 := ⟨by rw [t1], tn 6 (by decide), fun m _ => ⟨by rw [tn 21 (by decide)], by rw [tn 22 (by decide)], by rw [tn 23 (by decide)], by rw [tn 24 (by decide)], by rw [t3]⟩⟩
  have hs1 : SR st S1 T1 := ⟨hs.1, by rw [hS1]; exact hs.2.1, by rw [t1]; exact hs.2.2⟩
  have h61 : qI S1 6 = 0 := by rw [hS1]; exact h6
  obtain ⟨c2, c3, T3, st3, r1, r2, r3, r4, r5, r6, r7, r8⟩ := child G hp top1 c1 hs1 h61 (by rw [t1]; exact h27) (d5 (by omega) (by omega)) lo wy
  have g := go_11_0 ht (by omega) hp e6
  rw [← hT1] at g
  have s1 := step_go hp ht h27 (g.2 c3) g.1
  have e63 : T3.2.1 6 j = nI 11 := by rw [r3.2.1, tn 6 (by decide)]; exact e6
  obtain ⟨x1, hx1⟩ : ∃ z, z = fa S1 (qRO S 3 (ra j)) lo wy (nI (p + 1)) := ⟨_, rfl⟩
  unfold p_X1_answerCounted
  have okf : ok_X1_answerCounted fa fo S (ra j) lo wy (nI (p + 1)) ↔ ((ra j ∈ qL S ∧ qK S (ra j) = true) ∧ ((ra j ∈ qL S ∧ qK S (ra j) = true) ∧ ((ra j ∈ qL S ∧ qK S (ra j) = true) ∧ (fo S1 (qRO S 3 (ra j)) lo wy (nI (p + 1)) ∧ ((qI x1.2 6 = 0 → ((ra j ∈ qL x1.2 ∧ qK x1.2 (ra j) = true) ∧ True)) ∧ (¬ qI x1.2 6 = 0 → True)))))) := by rw [hx1, hS1]; rfl
  rw [okf] at A
  rw [← hS1, ← hx1]
  rw [← hx1] at r5 r6 r7 r8
  by_cases hf : T3.1 27 = 0
  · have q6 : qI x1.2 6 = 0 := r7.trans hf
    rw [if_pos q6]
    obtain ⟨hm2, f0, f1, f2, f3, f4, f5, f6, f7, f8, -⟩ := rk_of r5 hj e63 (by omega)
    have g2 := go_11_1 r2 (by omega) hp e63
    refine ⟨A.2 ⟨hm, hm, hm, c2, fun _ => ⟨hm2, trivial⟩, fun _ => trivial⟩, ?_⟩
    have := out_gives (T0 := T) (S := x1.2) (st := st3) hp r2.1 hf g2.1 g2.2 r2.1 hf (p01.trans r3) r5 r6 q6
    rw [r8 hf, f8] at this
    exact this.step (s1.trans r1)
  · have q6 : ¬ qI x1.2 6 = 0 := fun z => hf (r7.symm.trans z)
    rw [if_neg q6]
    exact ⟨A.2 ⟨hm, hm, hm, c2, fun z => absurd z q6, fun _ => trivial⟩, (out_pop (z := 0) (S := x1.2) (st := st3) hp (by omega) r2 hf e63 (by omega) (by omega) (fun z => by omega) (p01.trans r3) r5 r6 r7).step (s1.trans r1)⟩
theorem in_12 {fa : CS → Option Nat → Int32 → Int32 → Int32 → Int64 × CS} {fo : CS → Option Nat → Int32 → Int32 → Int32 → Prop} (G : Good k w ra wa fa fo (p + 1)) (hp : p < 24) (hk : k < 4000) (hw : w < 4000) {j st : Nat} {lo wy : Int32} (ht : Top p j lo wy 0 T) (hc : Core k w ra wa S T) (hs : SR st S T) (h6 : qI S 6 = 0) (h27 : T.1 27 = 0) (hj : j < k) (e6 : T.2.1 6 j = nI 12) : ok_X1_answerByKind fa fo S (ra j) lo wy (nI (p + 1)) ∧ Out k w ra wa p T (p_X1_answerByKind fa S (ra j) lo wy (nI (p + 1))) T := by
  obtain ⟨hm, e0, d1, d2, d3, d4, d5, d6, d7, d8, d9, d10⟩ := rk_of hc hj e6 (by omega)
  have A := abk_12 (fa := fa) (fo := fo) (lo := lo) (wy := wy) (o := nI (p + 1)) e0 hm
  rw [A.1]
  obtain ⟨x1, hx1⟩ : ∃ z, z = fa S (qRO S 3 (ra j)) lo wy (nI (p + 1)) := ⟨_, rfl⟩
  have route : (p_X2_go T = p_X2_asks T (T.2.1 7 j) lo wy ∧ (ok_X2_asks T (T.2.1 7 j) lo wy → ok_X2_go T)) → fo S (qRO S 3 (ra j)) lo wy (nI (p + 1)) ∧ (qI x1.2 6 = 0 → (ra j ∈ qL x1.2 ∧ qK x1.2 (ra j) = true)) ∧ Out k w ra wa p T (if qI x1.2 6 = 0 then (x1.1, csRJ (csRI (csRI (csRI x1.2 7 (ra j) 1) 8 (ra j) lo) 9 (ra j) wy) (ra j) x1.1) else (0, x1.2)) T := by
    intro g
    obtain ⟨c1, c2, T3, st3, r1, r2, r3, r4, r5, r6, r7, r8⟩ := child G hp ht hc hs h6 h27 (d5 (by omega) (by omega)) lo wy
    rw [← hx1] at r5 r6 r7 r8
    have s1 := step_go hp ht h27 (g.2 c2) g.1
    have e63 : T3.2.1 6 j = nI 12 := by rw [r3.2.1]; exact e6
    obtain ⟨hm2, -⟩ := rk_of r5 hj e63 (by omega)
    refine ⟨c1, fun _ => hm2, ?_⟩
    refine Out.step (T2 := T3) ?_ (s1.trans r1)
    by_cases hf : T3.1 27 = 0
    · have q6 : qI x1.2 6 = 0 := r7.trans hf
      rw [if_pos q6]
      have g2 := go_12_1 r2 (by omega) hp e63
      rw [r8 hf] at g2
      obtain ⟨S4, T4, hS4, hT4, y3, z1, y1, y2⟩ := core_keep lo wy x1.1 r5 hj
      rw [← hS4]
      rw [← hT4] at g2
      exact out_gives (T2 := T4) (S := S4) (st := st3) hp r2.1 hf g2.1 g2.2 (by rw [y1]; exact r2.1) (by rw [y1]; exact hf) (r3.trans (y2 p)) y3 ⟨r6.1, by rw [z1]; exact r6.2.1, by rw [y1]; exact r6.2.2⟩ (by rw [z1]; exact q6)
    · have q6 : ¬ qI x1.2 6 = 0 := fun z => hf (r7.symm.trans z)
      rw [if_neg q6]
      exact out_pop (z := 0) (S := x1.2) (st := st3) hp (by omega) r2 hf e63 (by omega) (by omega) (fun z => by omega) r3 r5 r6 r7
  unfold p_X1_answerKept
  have okf : ok_X1_answerKept fa fo S (ra j) lo wy (nI (p + 1)) ↔ ((ra j ∈ qL S ∧ qK S (ra j) = true) ∧ ((qRI S 7 (ra j) = 0 → ((ra j ∈ qL S ∧ qK S (ra j) = true) ∧ (fo S (qRO S 3 (ra j)) lo wy (nI (p + 1)) ∧ ((qI x1.2 6 = 0 → ((ra j ∈ qL x1.2 ∧ qK x1.2 (ra j) = true) ∧ ((ra j ∈ qL x1.2 ∧ qK x1.2 (ra j) = true) ∧ ((ra j ∈ qL x1.2 ∧ qK x1.2 (ra j) = true) ∧ ((ra j ∈ qL x1.2 ∧ qK x1.2 (ra j) = true) ∧ True))))) ∧ (¬ qI x1.2 6 = 0 → True))))) ∧ (¬ qRI S 7 (ra j) = 0 → ((ra j ∈ qL S ∧ qK S (ra j) = true) ∧ ((qRI S 8 (ra j) = lo → ((ra j ∈ qL S ∧ qK S (ra j) = true) ∧ ((qRI S 9 (ra j) = wy → ((ra j ∈ qL S ∧ qK S (ra j) = true) ∧ True)) ∧ (¬ qRI S 9 (ra j) = wy → ((ra j ∈ qL S ∧ qK S (ra j) = true) ∧ (fo S (qRO S 3 (ra j)) lo wy (nI (p + 1)) ∧ ((qI x1.2 6 = 0 → ((ra j ∈ qL x1.2 ∧ qK x1.2 (ra j) = true) ∧ ((ra j ∈ qL x1.2 ∧ qK x1.2 (ra j) = true) ∧ ((ra j ∈ qL x1.2 ∧ qK x1.2 (ra j) = true) ∧ ((ra j ∈ qL x1.2 ∧ qK x1.2 (ra j) = true) ∧ True))))) ∧ (¬ qI x1.2 6 = 0 → True)))))))) ∧ (¬ qRI S 8 (ra j) = lo → ((ra j ∈ qL S ∧ qK S (ra j) = true) ∧ (fo S (qRO S 3 (ra j)) lo wy (nI (p + 1)) ∧ ((qI x1.2 6 = 0 → ((ra j ∈ qL x1.2 ∧ qK x1.2 (ra j) = true) ∧ ((ra j ∈ qL x1.2 ∧ qK x1.2 (ra j) = true) ∧ ((ra j ∈ qL x1.2 ∧ qK x1.2 (ra j) = true) ∧ ((ra j ∈ qL x1.2 ∧ qK x1.2 (ra j) = true) ∧ True))))) ∧ (¬ qI x1.2 6 = 0 → True)))))))))) := by rw [hx1]; rfl
  rw [okf] at A
  rw [← hx1]
  by_cases k0 : qRI S 7 (ra j) = 0
  · rw [if_pos k0]
    obtain ⟨q1, q2, q3⟩ := route (go_12_0a ht (by omega) hp e6 (by rw [d9]; exact k0))
    exact ⟨A.2 ⟨hm, fun _ => ⟨hm, q1, fun z => ⟨q2 z, q2 z, q2 z, q2 z, trivial⟩, fun _ => trivial⟩, fun z => absurd k0 z⟩, q3⟩
  · rw [if_neg k0]
    obtain ⟨w1, w2, w3⟩ := d10 k0
    have k0' : ¬ T.2.1 12 j = 0 := by rw [d9]; exact k0
    by_cases k1 : qRI S 8 (ra j) = lo
    · rw [if_pos k1]
      by_cases k2 : qRI S 9 (ra j) = wy
      · rw [if_pos k2]
        have g := go_12_0d ht (by omega) hp e6 k0' (w1.trans k1) (w2.trans k2)
        have := out_gives (T0 := T) (S := S) (st := st) hp ht.1 h27 g.1 g.2 ht.1 h27 Pile.rf hc hs h6
        rw [w3] at this
        exact ⟨A.2 ⟨hm, fun z => absurd z k0, fun _ => ⟨hm, fun _ => ⟨hm, fun _ => ⟨hm, trivial⟩, fun z => absurd k2 z⟩, fun z => absurd k1 z⟩⟩, this⟩
      · rw [if_neg k2]
        obtain ⟨q1, q2, q3⟩ := route (go_12_0c ht (by omega) hp e6 k0' (w1.trans k1) (by rw [w2]; exact k2))
        exact ⟨A.2 ⟨hm, fun z => absurd z k0, fun _ => ⟨hm, fun _ => ⟨hm, fun z => absurd z k2, fun _ => ⟨hm, q1, fun z => ⟨q2 z, q2 z, q2 z, q2 z, trivial⟩, fun _ => trivial⟩⟩, fun z => absurd k1 z⟩⟩, q3⟩
    · rw [if_neg k1]
      obtain ⟨q1, q2, q3⟩ := route (go_12_0b ht (by omega) hp e6 k0' (by rw [w1]; exact k1))
      exact ⟨A.2 ⟨hm, fun z => absurd z k0, fun _ => ⟨hm, fun z => absurd z k1, fun _ => ⟨hm, q1, fun z => ⟨q2 z, q2 z, q2 z, q2 z, trivial⟩, fun _ => trivial⟩⟩⟩, q3⟩
theorem inside {fa : CS → Option Nat → Int32 → Int32 → Int32 → Int64 × CS} {fo : CS → Option Nat → Int32 → Int32 → Int32 → Prop} (G : Good k w ra wa fa fo (p + 1)) (hp : p < 24) (hk : k < 4000) (hw : w < 4000) {j st : Nat} {lo wy : Int32} (ht : Top p j lo wy 0 T) (hc : Core k w ra wa S T) (hs : SR st S T) (h6 : qI S 6 = 0) (h27 : T.1 27 = 0) (hj : j < k) : ok_X1_answerByKind fa fo S (ra j) lo wy (nI (p + 1)) ∧ Out k w ra wa p T (p_X1_answerByKind fa S (ra j) lo wy (nI (p + 1))) T := by
  obtain ⟨-, -, n, hn, e6, -⟩ := hc.2.2.2.2.2.2.1 j hj
  rcases (by omega : n = 0 ∨ n = 1 ∨ n = 2 ∨ n = 3 ∨ n = 4 ∨ n = 5 ∨ n = 6 ∨ n = 7 ∨ n = 8 ∨ n = 9 ∨ n = 10 ∨ n = 11 ∨ n = 12) with rfl | rfl | rfl | rfl | rfl | rfl | rfl | rfl | rfl | rfl | rfl | rfl | rfl
  · exact in_0 G hp hk hw ht hc hs h6 h27 hj e6
  · exact in_1 G hp hk hw ht hc hs h6 h27 hj e6
  · exact in_2 G hp hk hw ht hc hs h6 h27 hj e6
  · exact in_3 G hp hk hw ht hc hs h6 h27 hj e6
  · exact in_4 G hp hk hw ht hc hs h6 h27 hj e6
  · exact in_5 G hp hk hw ht hc hs h6 h27 hj e6
  · exact in_6 G hp hk hw ht hc hs h6 h27 hj e6
  · exact in_7 G hp hk hw ht hc hs h6 h27 hj e6
  · exact in_8 G hp hk hw ht hc hs h6 h27 hj e6
  · exact in_9 G hp hk hw ht hc hs h6 h27 hj e6
  · exact in_10 G hp hk hw ht hc hs h6 h27 hj e6
  · exact in_11 G hp hk hw ht hc hs h6 h27 hj e6
  · exact in_12 G hp hk hw ht hc hs h6 h27 hj e6
theorem good_all (hk : k < 4000) (hw : w < 4000) : ∀ (n p : Nat), p ≤ 24 → 25 ≤ p + n → Good k w ra wa (p_X1_answer n) (ok_X1_answer n) p := by
  intro n
  induction n with
  | zero =>
    intro p h1 h2
    omega
  | succ n ih =>
    intro p hp hn
    refine good_answer n p hp hk ?_
    intro hp2 S T j lo wy st hc hs h6 h27 ht hj
    exact inside (ih (p + 1) (by omega) (by omega)) hp2 hk hw ht hc hs h6 h27 hj
theorem Core.f (h : Core k w ra wa S T) (a : Int32) : Core k w ra wa (csI S 5 a) (msI T 19 a) := ⟨h.1, (qI_csI_eq S 5 a).trans (msI_eq T 19 a).symm, h.2.2⟩
end IN
theorem ask_both {c : Nat} {S : CS} {T : MS} (h : SimN c S T) (hc : c < 512) (a1 a2 a3 : Int32) : ok_X1_ask 26 S a1 a2 a3 ∧ ∃ N2, ok_X2_ask N2 T a1 a2 a3 ∧ ∀ {r1 r2 : Int64} {u1 : CS} {u2 : MS}, (r1, u1) = p_X1_ask 26 S a1 a2 a3 → (r2, u2) = p_X2_ask N2 T a1 a2 a3 → r1 = r2 ∧ SimN (c + 1) u1 u2 := by
  obtain ⟨k, w, ra, wa, hk, hw, hs⟩ := h
  obtain ⟨Sa, hSa⟩ : ∃ z, z = csI S 4 0 := ⟨_, rfl⟩
  obtain ⟨S0, hS0⟩ : ∃ z, z = csI Sa 6 0 := ⟨_, rfl⟩
  have n0 : nI 0 = (0 : Int32) := by decide
  have c0 : Core k w ra wa S0 T := by rw [hS0, hSa]; exact (hs.core.s4 0).s6 0
  have q4 : qI S0 4 = nI 0 := by rw [hS0, qI_csI_ne _ 6 4 _ (by decide), hSa, qI_csI_eq, n0]
  have q6 : qI S0 6 = 0 := by rw [hS0, qI_csI_eq]
  unfold ok_X1_ask ok_X2_ask p_X1_ask p_X2_ask
  rw [← hSa, ← hS0]
  have bad : ∀ what : Int32, Sim k w ra wa (csI S0 6 what) (msI (msI T 18 0) 17 what) := by
    intro what
    refine Core.sim (((c0.s6 what).i18 0).i17 what) ?_ ?_
    · rw [qI_csI_ne _ 6 4 _ (by decide), q4, msI_ne _ 17 18 _ (by decide), msI_eq, n0]
    · rw [qI_csI_eq, msI_eq]
  rcases rngP a1 with ⟨e1, e2⟩ | ⟨i, hi, rfl, e1, e2⟩
  · refine ⟨⟨fun _ => ⟨trivial, trivial⟩, fun z => absurd e1 z⟩, 0, ⟨fun _ => trivial, fun z => absurd e2 z⟩, ?_⟩
    intro r1 r2 u1 u2 h1 h2
    rw [if_pos e1] at h1
    rw [if_pos e2] at h2
    obtain ⟨rfl, rfl⟩ := pair_inj h1
    obtain ⟨rfl, rfl⟩ := pair_inj h2
    exact ⟨rfl, k, w, ra, wa, by omega, by omega, bad (-1)⟩
  rw [cl i (by omega)]
  have vi : vp_in (nI i) 16 := vp_in_nI hi (by omega)
  rcases hs.2.2.2.2.2.1 i hi with ⟨z1, z2⟩ | ⟨q, hq, z1, z2⟩
  · refine ⟨⟨fun z => absurd z e1, fun _ => ⟨vi, fun _ => ⟨trivial, trivial⟩, fun z => absurd z1 z⟩⟩, 0, ⟨fun z => absurd z e2, fun _ => ⟨vi, fun _ => trivial, fun z => absurd z2 z⟩⟩, ?_⟩
    intro r1 r2 u1 u2 h1 h2
    rw [if_neg e1, if_pos z1] at h1
    rw [if_neg e2, if_pos z2] at h2
    obtain ⟨rfl, rfl⟩ := pair_inj h1
    obtain ⟨rfl, rfl⟩ := pair_inj h2
    exact ⟨rfl, k, w, ra, wa, by omega, by omega, bad (-2)⟩
  have gd : (some (ra q)).getD 0 = ra q := rfl
  have z1n : ¬ (some (ra q) : Option Nat) = none := by simp
  have z2n : ¬ T.2.1 16 i = 0 := by rw [z2]; exact nI_s0 (by omega)
  rw [z1, gd]
  obtain ⟨A1, k1⟩ : ∃ z, z = msI T 18 0 := ⟨_, rfl⟩
  obtain ⟨A2, k2⟩ : ∃ z, z = msI A1 17 0 := ⟨_, rfl⟩
  obtain ⟨A3, k3⟩ : ∃ z, z = msI A2 20 0 := ⟨_, rfl⟩
  obtain ⟨A4, k4⟩ : ∃ z, z = msI A3 27 0 := ⟨_, rfl⟩
  obtain ⟨T0, k5⟩ : ∃ z, z = msG A4 0 := ⟨_, rfl⟩
  rw [← k1, ← k2, ← k3, ← k4, ← k5]
  have w1 : A1.1 18 = 0 := by rw [k1, msI_eq]
  have w2 : A2.1 17 = 0 := by rw [k2, msI_eq]
  have w2n : ∀ m, m ≠ 17 → A2.1 m = A1.1 m := fun m hm => by rw [k2]; exact msI_ne _ _ _ _ hm
  have w3 : A3.1 20 = 0 := by rw [k3, msI_eq]
  have w3n : ∀ m, m ≠ 20 → A3.1 m = A2.1 m := fun m hm => by rw [k3]; exact msI_ne _ _ _ _ hm
  have w4 : A4.1 27 = 0 := by rw [k4, msI_eq]
  have w4n : ∀ m, m ≠ 27 → A4.1 m = A3.1 m := fun m hm => by rw [k4]; exact msI_ne _ _ _ _ hm
  have w5 : T0.1 = A4.1 := by rw [k5]
  have t18 : T0.1 18 = nI 0 := by rw [w5, w4n 18 (by decide), w3n 18 (by decide), w2n 18 (by decide), w1, n0]
  have t17 : T0.1 17 = 0 := by rw [w5, w4n 17 (by decide), w3n 17 (by decide), w2]
  have t20 : T0.1 20 = nI 0 := by rw [w5, w4n 20 (by decide), w3, n0]
  have t27 : T0.1 27 = 0 := by rw [w5, w4]
  have y1 : A1.2 = T.2 := by rw [k1]
  have y2 : A2.2 = A1.2 := by rw [k2]
  have y3 : A3.2 = A2.2 := by rw [k3]
  have y4 : A4.2 = A3.2 := by rw [k4]
  have y5 : T0.2.1 = A4.2.1 := by rw [k5]
  have yy : T0.2.1 = T.2.1 := by rw [y5, y4, y3, y2, y1]
  have cT0 : Core k w ra wa S0 T0 := by rw [k5, k4, k3, k2, k1]; exact ((((c0.i18 0).i17 0).i20 0).i27 0).g 0
  obtain ⟨idx, hidx⟩ : ∃ z, z = p_X2_at T0 (nI i) := ⟨_, rfl⟩
  have eidx : idx = nI q := by
    rw [hidx]
    unfold p_X2_at
    rw [yy, cl i (by omega), z2, nI_pred]
  rw [← hidx]
  obtain ⟨g1, g2, Tf, st, ⟨n, rn⟩, f20, fp, fc, fs, f6, fv⟩ := good_all (k := k) (w := w) (ra := ra) (wa := wa) (by omega) (by omega) 26 0 (by omega) (by omega) S0 T0 (some (ra q)) idx a2 a3 0 cT0 ⟨by omega, q4, t18⟩ q6 t27 t20 (Or.inr ⟨q, hq, rfl, eidx⟩)
  rw [n0] at g1 fc fs f6 fv f20
  obtain ⟨x1, hx1⟩ : ∃ z, z = p_X1_answer 26 S0 (some (ra q)) a2 a3 0 := ⟨_, rfl⟩
  rw [← hx1] at fc fs f6 fv ⊢
  obtain ⟨Tb, hTb⟩ : ∃ z, z = p_X2_begin T0 idx a2 a3 := ⟨_, rfl⟩
  have hb : Tb.1 27 = 0 := by
    rw [hTb, eidx]
    unfold p_X2_begin
    obtain ⟨T7, e7, v1, v2, -⟩ := push_m (st := 0) (p := 0) (j := q) (lo := a2) (wy := a3) cT0 t27
    rw [t18, t20, if_neg (show ¬ nI 0 = (80 : Int32) by decide), if_neg (show ¬ nI 0 = (24 : Int32) by decide), if_pos (nI_pos' (by omega)), cl 0 (by omega), nI_1, ← e7]
    exact v2
  rw [← hTb] at rn ⊢
  obtain ⟨b1, b2⟩ := ask_b (Tf := Tf) (by rw [f20]; decide) (n + 1) (nI i) a2 a3 n Tb (n + 1) rn (Or.inr hb) (by omega) (by omega)
  refine ⟨⟨fun z => absurd z e1, fun _ => ⟨vi, fun z => absurd z z1n, fun _ => ⟨vi, g1, fun _ => trivial, fun _ => trivial⟩⟩⟩, n + 1, ⟨fun z => absurd z e2, fun _ => ⟨vi, fun z => absurd z z2n, fun _ => ⟨okm_at hi, g2, b1⟩⟩⟩, ?_⟩
  intro r1 r2 u1 u2 h1 h2
  rw [if_neg e1, if_neg z1n] at h1
  rw [if_neg e2, if_neg z2n, b2] at h2
  by_cases hf : Tf.1 27 = 0
  · have qz : qI x1.2 6 = 0 := f6.trans hf
    rw [if_pos qz] at h1
    rw [if_pos hf] at h2
    obtain ⟨rfl, rfl⟩ := pair_inj h1
    obtain ⟨rfl, rfl⟩ := pair_inj h2
    refine ⟨(fv hf).symm, k, w, ra, wa, by omega, by omega, fc.sim (fs.2.1.trans fs.2.2.symm) ?_⟩
    rw [qz, fp.1, t17]
  · have qz : ¬ qI x1.2 6 = 0 := fun z => hf (f6.symm.trans z)
    rw [if_neg qz] at h1
    rw [if_neg hf] at h2
    obtain ⟨rfl, rfl⟩ := pair_inj h1
    obtain ⟨rfl, rfl⟩ := pair_inj h2
    refine ⟨rfl, k, w, ra, wa, by omega, by omega, ?_⟩
    rw [fc.2.1]
    refine Core.sim ((fc.i17 (Tf.1 27)).f (Tf.1 19 + 1)) ?_ ?_
    · rw [qI_csI_ne _ 5 4 _ (by decide), msI_ne _ 19 18 _ (by decide), msI_ne _ 17 18 _ (by decide)]
      exact fs.2.1.trans fs.2.2.symm
    · rw [qI_csI_ne _ 5 6 _ (by decide), msI_ne _ 19 17 _ (by decide), msI_eq]
      exact f6
theorem okc_ask {c : Nat} {S : CS} {T : MS} (h : SimN c S T) (hc : c < 512) (a1 a2 a3 : Int32) : ok_X1_ask 26 S a1 a2 a3 := (ask_both h hc a1 a2 a3).1
theorem M_ask {c : Nat} {S : CS} {T : MS} (h : SimN c S T) (hc : c < 512) (a1 a2 a3 : Int32) : ∃ N2, ok_X2_ask N2 T a1 a2 a3 ∧ ∀ {r1 r2 : Int64} {u1 : CS} {u2 : MS}, (r1, u1) = p_X1_ask 26 S a1 a2 a3 → (r2, u2) = p_X2_ask N2 T a1 a2 a3 → r1 = r2 ∧ SimN (c + 1) u1 u2 := (ask_both h hc a1 a2 a3).2
