/-! book -/
theorem okc_book {c : Nat} {S : CS} {T : MS} (h : SimN c S T) (hc : c < 512) (a1 a2 a3 : Int32) : ok_X1_book S a1 a2 a3 := by
  obtain ⟨k, w, ra, wa, hk, hw, hs⟩ := h
  unfold ok_X1_book
  rcases rng4 a1 with ⟨h1, h2⟩ | ⟨i, hi, rfl, h1, h2⟩
  · exact ⟨fun _ => trivial, fun z => absurd h1 z⟩
  obtain ⟨j, hj, z1, z2⟩ := hs.2.2.2.1 i hi
  obtain ⟨g1, g2, g3, g4, g5⟩ := hs.2.2.2.2.1 j hj
  rw [cl i (by omega), z2]
  show _ ∧ (_ → _ ∧ _ ∧ (wa j ∈ qL S ∧ qK S (wa j) = false) ∧ (p_X1_isBelow a2 (nI (qWL S (wa j))) = 0 → True) ∧ (¬ p_X1_isBelow a2 (nI (qWL S (wa j))) = 0 → _ ∧ _ ∧ (wa j ∈ qL S ∧ qK S (wa j) = false) ∧ vp_in a2 (qWL S (wa j)) ∧ True))
  refine ⟨fun _ => trivial, fun _ => ⟨vp_in_nI hi (by omega), by simp, ⟨g1, g2⟩, fun _ => trivial, fun hb => ⟨vp_in_nI hi (by omega), by simp, ⟨g1, g2⟩, ?_, trivial⟩⟩⟩
  rcases rng a2 (qWL S (wa j)) (by omega) with ⟨e1, e2⟩ | ⟨m, hm, rfl, e1, e2⟩
  · exact absurd e1 hb
  · exact vp_in_nI hm (by omega)
theorem ix8 (j m : Nat) : 8 * nI j + nI m = nI (8 * j + m) := by
  rw [show (8 : Int32) = nI 8 from rfl, pk_mul, nI_add]
theorem okm_book {c : Nat} {S : CS} {T : MS} (h : SimN c S T) (hc : c < 512) (a1 a2 a3 : Int32) : ok_X2_book T a1 a2 a3 := by
  obtain ⟨k, w, ra, wa, hk, hw, hs⟩ := h
  unfold ok_X2_book
  rcases rng4 a1 with ⟨h1, h2⟩ | ⟨i, hi, rfl, h1, h2⟩
  · exact ⟨fun _ => trivial, fun z => absurd h2 z⟩
  obtain ⟨j, hj, z1, z2⟩ := hs.2.2.2.1 i hi
  obtain ⟨g1, g2, g3, g4, g5⟩ := hs.2.2.2.2.1 j hj
  rw [cl i (by omega), z1, cl j (by omega), g3]
  refine ⟨fun _ => trivial, fun _ => ⟨vp_in_nI hi (by omega), vp_in_nI (by omega) (by omega), fun _ => trivial, fun hb => ⟨vp_in_nI hi (by omega), ?_, trivial⟩⟩⟩
  rcases rng a2 (qWL S (wa j)) (by omega) with ⟨e1, e2⟩ | ⟨m, hm, rfl, e1, e2⟩
  · exact absurd e2 hb
  · rw [ix8]
    exact vp_in_nI (by omega) (by omega)
theorem L_book {c : Nat} {S : CS} {T : MS} (h : SimN c S T) (hc : c < 512) (a1 a2 a3 : Int32) {r1 r2 : Int32} {u1 : CS} {u2 : MS} (h1 : (r1, u1) = p_X1_book S a1 a2 a3) (h2 : (r2, u2) = p_X2_book T a1 a2 a3) : r1 = r2 ∧ SimN (c + 1) u1 u2 := by
  have hup := h.up
  obtain ⟨k, w, ra, wa, hk, hw, hs⟩ := h
  unfold p_X1_book at h1
  unfold p_X2_book at h2
  rcases rng4 a1 with ⟨e1, e2⟩ | ⟨i, hi, rfl, e1, e2⟩
  · rw [if_pos e1] at h1
    rw [if_pos e2] at h2
    obtain ⟨rfl, rfl⟩ := pair_inj h1
    obtain ⟨rfl, rfl⟩ := pair_inj h2
    exact ⟨rfl, hup⟩
  obtain ⟨j, hj, z1, z2⟩ := hs.2.2.2.1 i hi
  obtain ⟨g1, g2, g3, g4, g5⟩ := hs.2.2.2.2.1 j hj
  have gd : (some (wa j)).getD 0 = wa j := rfl
  rw [if_neg e1, cl i (by omega), z2, gd] at h1
  rw [if_neg e2, cl i (by omega), z1, cl j (by omega), g3] at h2
  rcases rng a2 (qWL S (wa j)) (by omega) with ⟨f1, f2⟩ | ⟨m, hm, rfl, f1, f2⟩
  · rw [if_pos f1] at h1
    rw [if_pos f2] at h2
    obtain ⟨rfl, rfl⟩ := pair_inj h1
    obtain ⟨rfl, rfl⟩ := pair_inj h2
    exact ⟨rfl, hup⟩
  rw [if_neg f1, cl m (by omega)] at h1
  rw [if_neg f2, ix8, cl (8 * j + m) (by omega)] at h2
  obtain ⟨rfl, rfl⟩ := pair_inj h1
  obtain ⟨rfl, rfl⟩ := pair_inj h2
  obtain ⟨s1, s2, s3, s4, s5, s6, s7, s8, s9⟩ := hs
  refine ⟨rfl, k, w, ra, wa, by omega, by omega, s1, s2, s3, s4, ?_, s6, s7, s8, s9⟩
  intro z hz
  obtain ⟨y1, y2, y3, y4, y5⟩ := s5 z hz
  refine ⟨y1, y2, y3, y4, ?_⟩
  intro x hx
  have hx : x < qWL S (wa z) := hx
  show va_up (qWA S) (wa j) (upd (qWA S (wa j)) m a3) (wa z) x = upd (T.2.1 3) (8 * j + m) a3 (8 * z + x)
  by_cases hzj : z = j
  · subst hzj
    rw [up_eq]
    by_cases hxm : x = m
    · rw [hxm, upd_eq, upd_eq]
    · rw [upd_ne hxm, upd_ne (by omega)]
      exact y5 x hx
  · rw [up_ne (fun e => hzj (s9 z j hz hj e)), upd_ne (by omega)]
    exact y5 x hx
/-! told -/
theorem told_cm {k w : Nat} {ra wa : Nat → Nat} {S : CS} {T : MS} (hs : Sim k w ra wa S T) (hk : k < 4000) (N : Nat) (a : Int32) : ∀ (d i n : Nat) (x : Int32), i + d = 16 → d < n → okL_X1_takenPlaces_4 N n S x (nI i) ∧ okL_X2_told_4 N n T a x (nI i) ∧ ∃ r, pL_X1_takenPlaces_4 N n S x (nI i) = (r, S) ∧ pL_X2_told_4 N n T a x (nI i) = if a = 0 then (T.1 5, T) else (if a = 1 then (T.1 18, T) else (if a = 2 then (T.1 19, T) else (if a = 3 then (r, T) else ((-1), T)))) := by
  intro d
  induction d with
  | zero =>
    intro i n x hi hn
    obtain ⟨n, rfl⟩ : ∃ m, n = m + 1 := ⟨n - 1, by omega⟩
    obtain rfl : i = 16 := by omega
    have h16 : (16 : Int32) ≤ nI 16 := by decide
    rw [okL_X1_takenPlaces_4, okL_X2_told_4, pL_X1_takenPlaces_4, pL_X2_told_4, if_pos h16, if_pos h16]
    refine ⟨⟨fun _ => trivial, fun z => absurd h16 z⟩, ⟨fun _ => ⟨fun _ => trivial, fun _ => ⟨fun _ => trivial, fun _ => ⟨fun _ => trivial, fun _ => ⟨fun _ => trivial, fun _ => trivial⟩⟩⟩⟩, fun z => absurd h16 z⟩, x, rfl, rfl⟩
  | succ d ih =>
    intro i n x hi hn
    obtain ⟨n, rfl⟩ : ∃ m, n = m + 1 := ⟨n - 1, by omega⟩
    have h16 : ¬ (16 : Int32) ≤ nI i := nI_ge (a := i) (b := 16) (by omega) (by omega)
    rw [okL_X1_takenPlaces_4, okL_X2_told_4, pL_X1_takenPlaces_4, pL_X2_told_4, if_neg h16, if_neg h16, cl i (by omega), nI_1, Int32.add_zero]
    rcases hs.2.2.2.2.2.1 i (by omega) with ⟨z1, z2⟩ | ⟨q, hq, z1, z2⟩
    · have z2n : T.2.1 16 i ≤ 0 := by rw [z2]; decide
      obtain ⟨o1, o2, r, p1, p2⟩ := ih (i + 1) n x (by omega) (by omega)
      rw [if_pos z1, if_pos z2n]
      exact ⟨⟨fun z => absurd z h16, fun _ => ⟨vp_in_nI (by omega) (by omega), fun _ => o1, fun z => absurd z1 z⟩⟩, ⟨fun z => absurd z h16, fun _ => ⟨vp_in_nI (by omega) (by omega), fun _ => o2, fun z => absurd z2n z⟩⟩, r, p1, p2⟩
    · have z1n : ¬ qP S i = none := by rw [z1]; simp
      have z2n : ¬ T.2.1 16 i ≤ 0 := by rw [z2]; exact nI_s1 (by omega)
      obtain ⟨o1, o2, r, p1, p2⟩ := ih (i + 1) n (x + 1) (by omega) (by omega)
      rw [if_neg z1n, if_neg z2n]
      exact ⟨⟨fun z => absurd z h16, fun _ => ⟨vp_in_nI (by omega) (by omega), fun z => absurd z z1n, fun _ => o1⟩⟩, ⟨fun z => absurd z h16, fun _ => ⟨vp_in_nI (by omega) (by omega), fun z => absurd z z2n, fun _ => o2⟩⟩, r, p1, p2⟩
theorem M_told {c : Nat} {S : CS} {T : MS} (h : SimN c S T) (hc : c < 512) (a1 : Int32) : ∃ N1 N2, ok_X1_told N1 S a1 ∧ ok_X2_told N2 T a1 ∧ ∀ {r1 r2 : Int32} {u1 : CS} {u2 : MS}, (r1, u1) = p_X1_told N1 S a1 → (r2, u2) = p_X2_told N2 T a1 → r1 = r2 ∧ SimN (c + 1) u1 u2 := by
  have hup := h.up
  obtain ⟨k, w, ra, wa, hk, hw, hs⟩ := h
  obtain ⟨o1, o2, r, p1, p2⟩ := told_cm hs (by omega) 17 a1 16 0 17 0 (by omega) (by omega)
  refine ⟨17, 17, ?_, o2, ?_⟩
  · unfold ok_X1_told
    exact ⟨fun _ => trivial, fun _ => ⟨fun _ => trivial, fun _ => ⟨fun _ => trivial, fun _ => ⟨fun _ => ⟨o1, trivial⟩, fun _ => trivial⟩⟩⟩⟩
  · intro r1 r2 u1 u2 h1 h2
    have h2 : (r2, u2) = pL_X2_told_4 17 17 T a1 0 (nI 0) := h2
    have e1 : p_X1_takenPlaces 17 S = (r, S) := p1
    rw [p2] at h2
    unfold p_X1_told at h1
    rw [e1] at h1
    by_cases b0 : a1 = 0
    · rw [if_pos b0] at h1 h2
      obtain ⟨rfl, rfl⟩ := pair_inj h1
      obtain ⟨rfl, rfl⟩ := pair_inj h2
      exact ⟨hs.1.2.1.trans hs.1.1.symm, hup⟩
    rw [if_neg b0] at h1 h2
    by_cases b1 : a1 = 1
    · rw [if_pos b1] at h1 h2
      obtain ⟨rfl, rfl⟩ := pair_inj h1
      obtain ⟨rfl, rfl⟩ := pair_inj h2
      exact ⟨hs.2.1.1, hup⟩
    rw [if_neg b1] at h1 h2
    by_cases b2 : a1 = 2
    · rw [if_pos b2] at h1 h2
      obtain ⟨rfl, rfl⟩ := pair_inj h1
      obtain ⟨rfl, rfl⟩ := pair_inj h2
      exact ⟨hs.2.1.2.1, hup⟩
    rw [if_neg b2] at h1 h2
    by_cases b3 : a1 = 3
    · rw [if_pos b3] at h1 h2
      obtain ⟨rfl, rfl⟩ := pair_inj h1
      obtain ⟨rfl, rfl⟩ := pair_inj h2
      exact ⟨rfl, hup⟩
    rw [if_neg b3] at h1 h2
    obtain ⟨rfl, rfl⟩ := pair_inj h1
    obtain ⟨rfl, rfl⟩ := pair_inj h2
    exact ⟨rfl, hup⟩
/-! fresh -/
theorem fresh_m (N w : Nat) (hw : w < 4100) (x1 x2 : Int32) : ∀ (d i n : Nat) (S : MS), i + d = 8 → d < n → S.1 4 = nI w → okL_X2_fresh_43 N n S x1 x2 (nI i) ∧ ∃ S' : MS, pL_X2_fresh_43 N n S x1 x2 (nI i) = (1, msI S' 4 (nI (w + 1))) ∧ S'.1 = S.1 ∧ S'.2.2 = S.2.2 ∧ (∀ m, m ≠ 3 → S'.2.1 m = S.2.1 m) ∧ (∀ z, z < 8 * w + i ∨ 8 * w + 8 ≤ z → S'.2.1 3 z = S.2.1 3 z) ∧ ∀ z, 8 * w + i ≤ z → z < 8 * w + 8 → S'.2.1 3 z = 0 := by
  intro d
  induction d with
  | zero =>
    intro i n S hi hn h4
    obtain ⟨n, rfl⟩ : ∃ m, n = m + 1 := ⟨n - 1, by omega⟩
    obtain rfl : i = 8 := by omega
    have h8 : (8 : Int32) ≤ nI 8 := by decide
    rw [okL_X2_fresh_43, pL_X2_fresh_43, if_pos h8, h4]
    exact ⟨⟨fun _ => trivial, fun z => absurd h8 z⟩, S, by rw [nI_1], rfl, rfl, fun _ _ => rfl, fun _ _ => rfl, fun z z1 z2 => by omega⟩
  | succ d ih =>
    intro i n S hi hn h4
    obtain ⟨n, rfl⟩ : ∃ m, n = m + 1 := ⟨n - 1, by omega⟩
    have h8 : ¬ (8 : Int32) ≤ nI i := nI_ge (a := i) (b := 8) (by omega) (by omega)
    obtain ⟨S1, hS1⟩ : ∃ z, z = msA S 3 (8 * w + i) 0 := ⟨_, rfl⟩
    have e3 : S1.2.1 3 = upd (S.2.1 3) (8 * w + i) 0 := by rw [hS1]; exact msA_eq _ _ _ _
    have en : ∀ m, m ≠ 3 → S1.2.1 m = S.2.1 m := fun m hm => by rw [hS1]; exact msA_ne _ _ _ _ _ hm
    have eI : S1.1 = S.1 := by rw [hS1]
    have eJ : S1.2.2 = S.2.2 := by rw [hS1]
    obtain ⟨o1, S', p1, p2, p3, p4, p5, p6⟩ := ih (i + 1) n S1 (by omega) (by omega) (by rw [eI]; exact h4)
    rw [okL_X2_fresh_43, pL_X2_fresh_43, if_neg h8, h4, ix8, cl (8 * w + i) (by omega), nI_1, ← hS1]
    refine ⟨⟨fun z => absurd z h8, fun _ => ⟨vp_in_nI (by omega) (by omega), o1⟩⟩, S', p1, p2.trans eI, p3.trans eJ, fun m hm => (p4 m hm).trans (en m hm), ?_, ?_⟩
    · intro z hz
      rw [p5 z (by omega), e3, upd_ne (by omega)]
    · intro z z1 z2
      by_cases hz : z = 8 * w + i
      · rw [p5 z (by omega), e3, hz, upd_eq]
      · exact p6 z (by omega) z2
theorem sim_fresh_abs {k w : Nat} {ra wa : Nat → Nat} {S S' : CS} {T T' : MS} (h : Sim k w ra wa S T) {q : Nat} (hq : q ∉ qL S) {i n : Nat} (hn : n ≤ 8)
    (E1 : qI S' = qI S) (E2 : qR S' = qR S) (E3 : qW S' = va_up (qW S) i (some q)) (E4 : qP S' = qP S) (E5 : qL S' = qL S ++ [q]) (E6 : qK S' = va_up (qK S) q false) (E7 : qRI S' = qRI S) (E8 : qRO S' = qRO S) (E9 : qRJ S' = qRJ S) (E10 : qWL S' = va_up (qWL S) q n) (E11 : qWA S' = va_up (qWA S) q (fun _ => 0))
    (F1 : T'.1 4 = nI (w + 1) ∧ ∀ m, m ≠ 4 → T'.1 m = T.1 m) (F2 : ∀ m, m ≠ 1 → m ≠ 2 → m ≠ 3 → T'.2.1 m = T.2.1 m) (F3 : T'.2.2 = T.2.2) (G1 : T'.2.1 1 = upd (T.2.1 1) i (nI w)) (G2 : T'.2.1 2 = upd (T.2.1 2) w (nI n)) (G3 : ∀ z, z < 8 * w → T'.2.1 3 z = T.2.1 3 z) (G4 : ∀ z, 8 * w ≤ z → z < 8 * w + 8 → T'.2.1 3 z = 0) : Sim k (w + 1) ra (va_up wa w q) S' T' := by
  obtain ⟨⟨s1, s1', s1''⟩, s2, s3, s4, s5, s6, s7, s8, s9⟩ := h
  have hrq : ∀ j, j < k → ra j ≠ q := fun j hj e => hq (e ▸ (s7 j hj).1)
  have hwq : ∀ j, j < w → wa j ≠ q := fun j hj e => hq (e ▸ (s5 j hj).1)
  have hr : ∀ j, j < w → va_up wa w q j = wa j := fun j hj => up_ne (by omega)
  refine ⟨⟨by rw [F1.2 5 (by decide)]; exact s1, by rw [E1]; exact s1', F1.1⟩, ?_, ?_, ?_, ?_, ?_, ?_, s8, ?_⟩
  · rw [E1, F1.2 18 (by decide), F1.2 19 (by decide), F1.2 17 (by decide)]
    exact s2
  · rw [E2, F2 0 (by decide) (by decide) (by decide)]
    exact s3
  · intro z hz
    rw [E3, G1]
    by_cases hzi : z = i
    · subst hzi
      rw [up_eq, upd_eq]
      exact ⟨w, by omega, rfl, by rw [up_eq]⟩
    · rw [up_ne hzi, upd_ne hzi]
      obtain ⟨j, hj, z1, z2⟩ := s4 z hz
      exact ⟨j, by omega, z1, by rw [hr j hj]; exact z2⟩
  · intro z hz
    unfold RowR
    rw [E5, E6, E10, E11, G2]
    by_cases hzw : z = w
    · subst hzw
      rw [up_eq, up_eq, up_eq, up_eq, upd_eq]
      exact ⟨List.mem_append_right _ (List.mem_singleton.mpr rfl), rfl, rfl, hn, fun x hx => (G4 _ (by omega) (by omega)).symm⟩
    · have hz' : z < w := by omega
      obtain ⟨g1, g2, g3, g4, g5⟩ := s5 z hz'
      rw [hr z hz', up_ne (hwq z hz'), up_ne (hwq z hz'), up_ne (hwq z hz'), upd_ne hzw]
      exact ⟨List.mem_append_left _ g1, g2, g3, g4, fun x hx => (g5 x hx).trans (G3 _ (by omega)).symm⟩
  · intro z hz
    unfold PlaceR
    rw [E4, F2 16 (by decide) (by decide) (by decide)]
    exact s6 z hz
  · intro j hj
    obtain ⟨g1, g2, n', hn', e6, e0, d1, d2, d3, d4, d5⟩ := s7 j hj
    unfold RuleR
    rw [E5, E6, E7, E8, E9, up_ne (hrq j hj), F3, F2 6 (by decide) (by decide) (by decide), F2 7 (by decide) (by decide) (by decide), F2 8 (by decide) (by decide) (by decide), F2 9 (by decide) (by decide) (by decide), F2 11 (by decide) (by decide) (by decide), F2 12 (by decide) (by decide) (by decide), F2 13 (by decide) (by decide) (by decide), F2 14 (by decide) (by decide) (by decide)]
    refine ⟨List.mem_append_left _ g1, g2, n', hn', e6, e0, d1, d2, d3, ?_, d5⟩
    intro x
    obtain ⟨z, z1, z2, z3⟩ := d4 x
    exact ⟨z, by omega, z2, by rw [hr z z1]; exact z3⟩
  · intro z y hz hy hzy
    by_cases h1 : z = w <;> by_cases h2 : y = w
    · omega
    · rw [h1, up_eq, hr y (by omega)] at hzy
      exact absurd hzy.symm (hwq y (by omega))
    · rw [h2, up_eq, hr z (by omega)] at hzy
      exact absurd hzy (hwq z (by omega))
    · rw [hr z (by omega), hr y (by omega)] at hzy
      exact s9 z y (by omega) (by omega) hzy
theorem okc_fresh {c : Nat} {S : CS} {T : MS} (h : SimN c S T) (hc : c < 512) (a1 a2 : Int32) : ok_X1_fresh S a1 a2 := by
  unfold ok_X1_fresh
  rcases rng4 a1 with ⟨h1, h2⟩ | ⟨i, hi, rfl, h1, h2⟩
  · exact ⟨fun _ => trivial, fun z => absurd h1 z⟩
  refine ⟨fun _ => trivial, fun _ => ⟨fun _ => trivial, fun hn => ⟨fun h8 => ⟨hn, ?_, fun q hq => ⟨vp_in_nI hi (by omega), ⟨List.mem_append_right _ (List.mem_singleton.mpr rfl), up_eq⟩, trivial⟩⟩, fun _ => trivial⟩⟩⟩
  obtain ⟨m, hm, rfl⟩ := nI_of2 (n := 8) (M := 8) rfl hn h8
  rw [cl m (by omega)]
  exact hm
theorem M_fresh {c : Nat} {S : CS} {T : MS} (h : SimN c S T) (hc : c < 512) (a1 a2 : Int32) : ∃ N2, ok_X2_fresh N2 T a1 a2 ∧ ∀ {r1 r2 : Int32} {u1 : CS} {u2 : MS}, s_X1_fresh S a1 a2 r1 u1 → (r2, u2) = p_X2_fresh N2 T a1 a2 → r1 = r2 ∧ SimN (c + 1) u1 u2 := by
  have hup := h.up
  obtain ⟨k, w, ra, wa, hk, hw, hs⟩ := h
  refine ⟨9, ?_⟩
  unfold ok_X2_fresh p_X2_fresh s_X1_fresh
  rcases rng4 a1 with ⟨e1, e2⟩ | ⟨i, hi, rfl, e1, e2⟩
  · refine ⟨⟨fun _ => trivial, fun z => absurd e2 z⟩, ?_⟩
    intro r1 r2 u1 u2 h1 h2
    rw [if_pos e1] at h1
    rw [if_pos e2] at h2
    obtain ⟨rfl, rfl⟩ := h1
    obtain ⟨rfl, rfl⟩ := pair_inj h2
    exact ⟨rfl, hup⟩
  have q1 : p_X2_in a2 0 8 = if a2 < 0 then 0 else (if 8 < a2 then 0 else 1) := rfl
  by_cases b1 : a2 < 0
  · rw [if_pos b1] at q1
    refine ⟨⟨fun _ => trivial, fun _ => ⟨fun _ => trivial, fun z => absurd q1 z⟩⟩, ?_⟩
    intro r1 r2 u1 u2 h1 h2
    rw [if_neg e1, if_pos b1] at h1
    rw [if_neg e2, if_pos q1] at h2
    obtain ⟨rfl, rfl⟩ := h1
    obtain ⟨rfl, rfl⟩ := pair_inj h2
    exact ⟨rfl, hup⟩
  rw [if_neg b1] at q1
  by_cases b2 : 8 < a2
  · rw [if_pos b2] at q1
    have b3 : ¬ a2 ≤ 8 := Int32.not_le.mpr b2
    refine ⟨⟨fun _ => trivial, fun _ => ⟨fun _ => trivial, fun z => absurd q1 z⟩⟩, ?_⟩
    intro r1 r2 u1 u2 h1 h2
    rw [if_neg e1, if_neg b1, if_neg b3] at h1
    rw [if_neg e2, if_pos q1] at h2
    obtain ⟨rfl, rfl⟩ := h1
    obtain ⟨rfl, rfl⟩ := pair_inj h2
    exact ⟨rfl, hup⟩
  rw [if_neg b2] at q1
  have b3 : a2 ≤ 8 := Int32.not_lt.mp b2
  have q2 : ¬ p_X2_in a2 0 8 = 0 := by rw [q1]; decide
  obtain ⟨m, hm, rfl⟩ := nI_of2 (n := 8) (M := 8) rfl b1 b3
  have h4 := hs.1.2.2
  rw [h4, cl i (by omega), cl w (by omega), cl m (by omega)]
  obtain ⟨T1, hT1⟩ : ∃ z, z = msA T 1 i (nI w) := ⟨_, rfl⟩
  obtain ⟨T2, hT2⟩ : ∃ z, z = msA T1 2 w (nI m) := ⟨_, rfl⟩
  have a11 : T1.2.1 1 = upd (T.2.1 1) i (nI w) := by rw [hT1]; exact msA_eq _ _ _ _
  have a1n : ∀ j, j ≠ 1 → T1.2.1 j = T.2.1 j := fun j hj => by rw [hT1]; exact msA_ne _ _ _ _ _ hj
  have a22 : T2.2.1 2 = upd (T1.2.1 2) w (nI m) := by rw [hT2]; exact msA_eq _ _ _ _
  have a2n : ∀ j, j ≠ 2 → T2.2.1 j = T1.2.1 j := fun j hj => by rw [hT2]; exact msA_ne _ _ _ _ _ hj
  have eI : T2.1 = T.1 := by rw [hT2, hT1]
  have eJ : T2.2.2 = T.2.2 := by rw [hT2, hT1]
  rw [← hT1, ← hT2]
  obtain ⟨o1, T3, p1, p2, p3, p4, p5, p6⟩ := fresh_m 9 w (by omega) (nI i) (nI m) 8 0 9 T2 (by omega) (by omega) (by rw [eI]; exact h4)
  refine ⟨⟨fun _ => trivial, fun _ => ⟨fun _ => trivial, fun _ => ⟨vp_in_nI hi (by omega), vp_in_nI (by omega) (by omega), o1⟩⟩⟩, ?_⟩
  intro r1 r2 u1 u2 h1 h2
  rw [if_neg e1, if_neg b1, if_pos b3] at h1
  rw [if_neg e2, if_neg q2] at h2
  have h2 : (r2, u2) = pL_X2_fresh_43 9 9 T2 (nI i) (nI m) (nI 0) := h2
  rw [p1] at h2
  obtain ⟨q, hq, rfl, rfl⟩ := h1
  obtain ⟨rfl, rfl⟩ := pair_inj h2
  refine ⟨rfl, k, w + 1, ra, va_up wa w q, by omega, by omega, ?_⟩
  obtain ⟨T4, hT4⟩ : ∃ z, z = msI T3 4 (nI (w + 1)) := ⟨_, rfl⟩
  rw [← hT4]
  have b4 : T4.1 4 = nI (w + 1) := by rw [hT4]; exact msI_eq _ _ _
  have bn : ∀ j, j ≠ 4 → T4.1 j = T3.1 j := fun j hj => by rw [hT4]; exact msI_ne _ _ _ _ hj
  have b2' : T4.2 = T3.2 := by rw [hT4]
  refine sim_fresh_abs hs hq hm (i := i) rfl rfl rfl rfl rfl rfl rfl rfl rfl rfl rfl ⟨b4, fun j hj => by rw [bn j hj, p2, eI]⟩ (fun j j1 j2 j3 => by rw [b2', p4 j j3, a2n j j2, a1n j j1]) (by rw [b2', p3, eJ]) (by rw [b2', p4 1 (by decide), a2n 1 (by decide), a11]) (by rw [b2', p4 2 (by decide), a22, a1n 2 (by decide)]) (fun z hz => by rw [b2', p5 z (by omega), a2n 3 (by decide), a1n 3 (by decide)]) (fun z z1 z2 => by rw [b2']; exact p6 z (by omega) z2)
