/-! clear, and a new object -/
theorem clear_70 (N : Nat) (x1 : Int32) : ∀ (d i n : Nat) (S : MS), i + d = 16 → d < n → okL_X2_clear_70 N n S x1 (nI i) ∧ ∃ S' : MS, pL_X2_clear_70 N n S x1 (nI i) = (x1, msI (msI (msI (msI S' 5 0) 17 0) 18 0) 19 0) ∧ S'.1 = S.1 ∧ S'.2.2 = S.2.2 ∧ (∀ m, m ≠ 16 → S'.2.1 m = S.2.1 m) ∧ (∀ z, z < i → S'.2.1 16 z = S.2.1 16 z) ∧ ∀ z, i ≤ z → z < 16 → S'.2.1 16 z = 0 := by
  intro d
  induction d with
  | zero =>
    intro i n S hi hn
    obtain ⟨n, rfl⟩ : ∃ m, n = m + 1 := ⟨n - 1, by omega⟩
    obtain rfl : i = 16 := by omega
    have h8 : (16 : Int32) ≤ nI 16 := by decide
    rw [okL_X2_clear_70, pL_X2_clear_70, if_pos h8]
    exact ⟨⟨fun _ => trivial, fun z => absurd h8 z⟩, S, rfl, rfl, rfl, fun _ _ => rfl, fun _ _ => rfl, fun z z1 z2 => by omega⟩
  | succ d ih =>
    intro i n S hi hn
    obtain ⟨n, rfl⟩ : ∃ m, n = m + 1 := ⟨n - 1, by omega⟩
    have h8 : ¬ (16 : Int32) ≤ nI i := nI_ge (a := i) (b := 16) (by omega) (by omega)
    obtain ⟨S1, hS1⟩ : ∃ z, z = msA S 16 i 0 := ⟨_, rfl⟩
    have e3 : S1.2.1 16 = upd (S.2.1 16) i 0 := by rw [hS1]; exact msA_eq _ _ _ _
    have en : ∀ m, m ≠ 16 → S1.2.1 m = S.2.1 m := fun m hm => by rw [hS1]; exact msA_ne _ _ _ _ _ hm
    have eI : S1.1 = S.1 := by rw [hS1]
    have eJ : S1.2.2 = S.2.2 := by rw [hS1]
    obtain ⟨o1, S', p1, p2, p3, p4, p5, p6⟩ := ih (i + 1) n S1 (by omega) (by omega)
    rw [okL_X2_clear_70, pL_X2_clear_70, if_neg h8, cl i (by omega), nI_1, ← hS1]
    refine ⟨⟨fun z => absurd z h8, fun _ => ⟨vp_in_nI (by omega) (by omega), o1⟩⟩, S', p1, p2.trans eI, p3.trans eJ, fun m hm => (p4 m hm).trans (en m hm), ?_, ?_⟩
    · intro z hz
      rw [p5 z (by omega), e3, upd_ne (by omega)]
    · intro z z1 z2
      by_cases hz : z = i
      · rw [p5 z (by omega), e3, hz, upd_eq]
      · exact p6 z (by omega) z2
theorem clear_33 (N : Nat) (hN : 16 < N) (x1 : Int32) : ∀ (d i n : Nat) (S : MS), i + d = 4 → d < n → S.1 4 = nI i → okL_X2_clear_33 N n S x1 (nI i) ∧ ∃ S' : MS, pL_X2_clear_33 N n S x1 (nI i) = pL_X2_clear_70 N N S' x1 (nI 0) ∧ S'.1 4 = nI 4 ∧ S'.2.2 = S.2.2 ∧ (∀ m, m ≠ 1 → m ≠ 2 → S'.2.1 m = S.2.1 m) ∧ (∀ z, z < i → S'.2.1 1 z = S.2.1 1 z ∧ S'.2.1 2 z = S.2.1 2 z) ∧ ∀ z, i ≤ z → z < 4 → S'.2.1 1 z = nI z ∧ S'.2.1 2 z = 0 := by
  intro d
  induction d with
  | zero =>
    intro i n S hi hn h4
    obtain ⟨n, rfl⟩ : ∃ m, n = m + 1 := ⟨n - 1, by omega⟩
    obtain rfl : i = 4 := by omega
    have h8 : (4 : Int32) ≤ nI 4 := by decide
    rw [okL_X2_clear_33, pL_X2_clear_33, if_pos h8]
    exact ⟨⟨fun _ => (clear_70 N x1 16 0 N S (by omega) (by omega)).1, fun z => absurd h8 z⟩, S, rfl, h4, rfl, fun _ _ _ => rfl, fun _ _ => ⟨rfl, rfl⟩, fun z z1 z2 => by omega⟩
  | succ d ih =>
    intro i n S hi hn h4
    obtain ⟨n, rfl⟩ : ∃ m, n = m + 1 := ⟨n - 1, by omega⟩
    have h8 : ¬ (4 : Int32) ≤ nI i := nI_ge (a := i) (b := 4) (by omega) (by omega)
    obtain ⟨S1, hS1⟩ : ∃ z, z = msA S 1 i (nI i) := ⟨_, rfl⟩
    obtain ⟨S2, hS2⟩ : ∃ z, z = msA S1 2 i 0 := ⟨_, rfl⟩
    obtain ⟨S3, hS3⟩ : ∃ z, z = msI S2 4 (nI (i + 1)) := ⟨_, rfl⟩
    have e1 : S1.2.1 1 = upd (S.2.1 1) i (nI i) := by rw [hS1]; exact msA_eq _ _ _ _
    have e1n : ∀ m, m ≠ 1 → S1.2.1 m = S.2.1 m := fun m hm => by rw [hS1]; exact msA_ne _ _ _ _ _ hm
    have e2 : S2.2.1 2 = upd (S1.2.1 2) i 0 := by rw [hS2]; exact msA_eq _ _ _ _
    have e2n : ∀ m, m ≠ 2 → S2.2.1 m = S1.2.1 m := fun m hm => by rw [hS2]; exact msA_ne _ _ _ _ _ hm
    have e3 : S3.2 = S2.2 := by rw [hS3]
    have e4 : S3.1 4 = nI (i + 1) := by rw [hS3]; exact msI_eq _ _ _
    have eJ : S2.2.2 = S.2.2 := by rw [hS2, hS1]
    obtain ⟨o1, S', p1, p2, p3, p4, p5, p6⟩ := ih (i + 1) n S3 (by omega) (by omega) e4
    rw [okL_X2_clear_33, pL_X2_clear_33, if_neg h8, cl i (by omega), h4, nI_1, ← hS1, ← hS2, ← hS3]
    refine ⟨⟨fun z => absurd z h8, fun _ => ⟨vp_in_nI (by omega) (by omega), vp_in_nI (by omega) (by omega), o1⟩⟩, S', p1, p2, by rw [p3, e3, eJ], fun m h1 h2 => by rw [p4 m h1 h2, e3, e2n m h2, e1n m h1], ?_, ?_⟩
    · intro z hz
      have q := p5 z (by omega)
      rw [q.1, q.2, e3, e2n 1 (by decide), e1, e2, e1n 2 (by decide), upd_ne (by omega), upd_ne (by omega)]
      exact ⟨rfl, rfl⟩
    · intro z z1 z2
      by_cases hz : z = i
      · have q := p5 z (by omega)
        rw [q.1, q.2, e3, e2n 1 (by decide), e1, e2, hz, upd_eq, upd_eq]
        exact ⟨rfl, rfl⟩
      · exact p6 z (by omega) z2
theorem clear_7 (N : Nat) (hN : 16 < N) (x1 : Int32) : ∀ (d i n : Nat) (S : MS), i + d = 8 → d < n → okL_X2_clear_7 N n S x1 (nI i) ∧ ∃ S' : MS, pL_X2_clear_7 N n S x1 (nI i) = pL_X2_clear_33 N N (msI S' 4 0) x1 (nI 0) ∧ (∀ z, z < i → S'.2.1 0 z = S.2.1 0 z) ∧ ∀ z, i ≤ z → z < 8 → S'.2.1 0 z = 0 := by
  intro d
  induction d with
  | zero =>
    intro i n S hi hn
    obtain ⟨n, rfl⟩ : ∃ m, n = m + 1 := ⟨n - 1, by omega⟩
    obtain rfl : i = 8 := by omega
    have h8 : (8 : Int32) ≤ nI 8 := by decide
    rw [okL_X2_clear_7, pL_X2_clear_7, if_pos h8]
    exact ⟨⟨fun _ => (clear_33 N hN x1 4 0 N (msI S 4 0) (by omega) (by omega) (msI_eq _ _ _)).1, fun z => absurd h8 z⟩, S, rfl, fun _ _ => rfl, fun z z1 z2 => by omega⟩
  | succ d ih =>
    intro i n S hi hn
    obtain ⟨n, rfl⟩ : ∃ m, n = m + 1 := ⟨n - 1, by omega⟩
    have h8 : ¬ (8 : Int32) ≤ nI i := nI_ge (a := i) (b := 8) (by omega) (by omega)
    obtain ⟨S1, hS1⟩ : ∃ z, z = msA S 0 i 0 := ⟨_, rfl⟩
    have e3 : S1.2.1 0 = upd (S.2.1 0) i 0 := by rw [hS1]; exact msA_eq _ _ _ _
    obtain ⟨o1, S', p1, p5, p6⟩ := ih (i + 1) n S1 (by omega) (by omega)
    rw [okL_X2_clear_7, pL_X2_clear_7, if_neg h8, cl i (by omega), nI_1, ← hS1]
    refine ⟨⟨fun z => absurd z h8, fun _ => ⟨vp_in_nI (by omega) (by omega), o1⟩⟩, S', p1, ?_, ?_⟩
    · intro z hz
      rw [p5 z (by omega), e3, upd_ne (by omega)]
    · intro z z1 z2
      by_cases hz : z = i
      · rw [p5 z (by omega), e3, hz, upd_eq]
      · exact p6 z (by omega) z2
theorem clear_m (T : MS) : ok_X2_clear 17 T ∧ ∃ T' : MS, p_X2_clear 17 T = (T.1 5, T') ∧ (T'.1 5 = 0 ∧ T'.1 17 = 0 ∧ T'.1 18 = 0 ∧ T'.1 19 = 0 ∧ T'.1 4 = nI 4) ∧ (∀ z, z < 8 → T'.2.1 0 z = 0) ∧ (∀ z, z < 4 → T'.2.1 1 z = nI z ∧ T'.2.1 2 z = 0) ∧ ∀ z, z < 16 → T'.2.1 16 z = 0 := by
  obtain ⟨o1, S1, p1, -, p2⟩ := clear_7 17 (by omega) (T.1 5) 8 0 17 T (by omega) (by omega)
  obtain ⟨-, S2, q1, q2, -, q3, -, q4⟩ := clear_33 17 (by omega) (T.1 5) 4 0 17 (msI S1 4 0) (by omega) (by omega) (msI_eq _ _ _)
  obtain ⟨-, S3, r1, r2, -, r3, -, r4⟩ := clear_70 17 (T.1 5) 16 0 17 S2 (by omega) (by omega)
  refine ⟨o1, _, (show p_X2_clear 17 T = _ from p1.trans (q1.trans r1)), ?_, ?_, ?_, ?_⟩
  · obtain ⟨A1, hA1⟩ : ∃ z, z = msI S3 5 0 := ⟨_, rfl⟩
    obtain ⟨A2, hA2⟩ : ∃ z, z = msI A1 17 0 := ⟨_, rfl⟩
    obtain ⟨A3, hA3⟩ : ∃ z, z = msI A2 18 0 := ⟨_, rfl⟩
    rw [← hA1, ← hA2, ← hA3]
    have a1 : A1.1 5 = 0 := by rw [hA1]; exact msI_eq _ _ _
    have a1n : ∀ m, m ≠ 5 → A1.1 m = S3.1 m := fun m hm => by rw [hA1]; exact msI_ne _ _ _ _ hm
    have a2 : A2.1 17 = 0 := by rw [hA2]; exact msI_eq _ _ _
    have a2n : ∀ m, m ≠ 17 → A2.1 m = A1.1 m := fun m hm => by rw [hA2]; exact msI_ne _ _ _ _ hm
    have a3 : A3.1 18 = 0 := by rw [hA3]; exact msI_eq _ _ _
    have a3n : ∀ m, m ≠ 18 → A3.1 m = A2.1 m := fun m hm => by rw [hA3]; exact msI_ne _ _ _ _ hm
    rw [msI_ne _ _ 5 _ (by decide), msI_ne _ _ 17 _ (by decide), msI_ne _ _ 18 _ (by decide), msI_eq, msI_ne _ _ 4 _ (by decide), a3n 5 (by decide), a2n 5 (by decide), a1, a3n 17 (by decide), a2, a3, a3n 4 (by decide), a2n 4 (by decide), a1n 4 (by decide), r2, q2]
    exact ⟨rfl, rfl, rfl, rfl, rfl⟩
  · intro z hz
    show S3.2.1 0 z = 0
    rw [r3 0 (by decide), q3 0 (by decide) (by decide)]
    exact p2 z (by omega) hz
  · intro z hz
    show S3.2.1 1 z = nI z ∧ S3.2.1 2 z = 0
    rw [r3 1 (by decide), r3 2 (by decide)]
    exact q4 z (by omega) hz
  · intro z hz
    show S3.2.1 16 z = 0
    exact r4 z (by omega) hz
theorem sim_clear_abs {S' : CS} {T' : MS} {wa : Nat → Nat} (hI : qI S' 3 = 0 ∧ qI S' 4 = 0 ∧ qI S' 5 = 0 ∧ qI S' 6 = 0) (hR : ∀ z, z < 8 → qR S' z = 0) (hW : ∀ z, z < 4 → qW S' z = some (wa z) ∧ wa z ∈ qL S' ∧ qK S' (wa z) = false ∧ qWL S' (wa z) = 0) (hP : ∀ z, z < 16 → qP S' z = none) (hwa : ∀ i j, i < 4 → j < 4 → wa i = wa j → i = j)
    (t1 : T'.1 5 = 0 ∧ T'.1 17 = 0 ∧ T'.1 18 = 0 ∧ T'.1 19 = 0 ∧ T'.1 4 = nI 4) (t2 : ∀ z, z < 8 → T'.2.1 0 z = 0) (t3 : ∀ z, z < 4 → T'.2.1 1 z = nI z ∧ T'.2.1 2 z = 0) (t4 : ∀ z, z < 16 → T'.2.1 16 z = 0) (c : Nat) : SimN c S' T' := by
  refine ⟨0, 4, fun _ => 0, wa, by omega, by omega, ⟨t1.1, hI.1, t1.2.2.2.2⟩, ⟨hI.2.1.trans t1.2.2.1.symm, hI.2.2.1.trans t1.2.2.2.1.symm, hI.2.2.2.trans t1.2.1.symm⟩, fun z hz => (hR z hz).trans (t2 z hz).symm, fun z hz => ⟨z, hz, (t3 z hz).1, (hW z hz).1⟩, ?_, fun z hz => Or.inl ⟨hP z hz, t4 z hz⟩, fun j hj => by omega, fun i j hi => by omega, hwa⟩
  intro z hz
  obtain ⟨-, h2, h3, h4⟩ := hW z hz
  refine ⟨h2, h3, ?_, by omega, fun x hx => by omega⟩
  rw [(t3 z hz).2, h4]
  rfl
theorem M_init : ∃ N, ok_X2_clear N MS0 ∧ ∀ (r : Nat → Nat), (∀ i j : Nat, i < 4 → j < 4 → r i = r j → i = j) → SimN 0 (CS0 r) (p_X2_clear N MS0).2 := by
  obtain ⟨o1, T', p1, t1, t2, t3, t4⟩ := clear_m MS0
  refine ⟨17, o1, ?_⟩
  intro r hr
  rw [p1]
  refine sim_clear_abs (wa := r) ⟨rfl, rfl, rfl, rfl⟩ (fun _ _ => rfl) (fun z hz => ⟨if_pos hz, List.mem_map.mpr ⟨z, List.mem_range.mpr hz, rfl⟩, rfl, rfl⟩) (fun _ _ => rfl) hr t1 t2 t3 t4 0
theorem tc0 : (0 : Int32).toNatClampNeg = 0 := by decide
theorem tc1 : (1 : Int32).toNatClampNeg = 1 := by decide
theorem tc2 : (2 : Int32).toNatClampNeg = 2 := by decide
theorem tc3 : (3 : Int32).toNatClampNeg = 3 := by decide
theorem tc4 : (4 : Int32).toNatClampNeg = 4 := by decide
theorem tc5 : (5 : Int32).toNatClampNeg = 5 := by decide
theorem tc6 : (6 : Int32).toNatClampNeg = 6 := by decide
theorem tc7 : (7 : Int32).toNatClampNeg = 7 := by decide
theorem tc8 : (8 : Int32).toNatClampNeg = 8 := by decide
theorem tc9 : (9 : Int32).toNatClampNeg = 9 := by decide
theorem tc10 : (10 : Int32).toNatClampNeg = 10 := by decide
theorem tc11 : (11 : Int32).toNatClampNeg = 11 := by decide
theorem tc12 : (12 : Int32).toNatClampNeg = 12 := by decide
theorem tc13 : (13 : Int32).toNatClampNeg = 13 := by decide
theorem tc14 : (14 : Int32).toNatClampNeg = 14 := by decide
theorem tc15 : (15 : Int32).toNatClampNeg = 15 := by decide
theorem qR_csR_eq (S : CS) (i : Nat) (v : Int32) : qR (csR S i v) = upd (qR S) i v := rfl
theorem qW_csW_eq (S : CS) (i : Nat) (v : Option Nat) : qW (csW S i v) = va_up (qW S) i v := rfl
theorem qP_csP_eq (S : CS) (i : Nat) (v : Option Nat) : qP (csP S i v) = va_up (qP S) i v := rfl
theorem qL_csNW_eq (S : CS) (q n : Nat) : qL (csNW S q n) = qL S ++ [q] := rfl
theorem qK_csNW_eq (S : CS) (q n : Nat) : qK (csNW S q n) = va_up (qK S) q false := rfl
theorem qWL_csNW_eq (S : CS) (q n : Nat) : qWL (csNW S q n) = va_up (qWL S) q n := rfl
set_option maxHeartbeats 4000000 in
set_option maxRecDepth 100000 in
theorem clear_c {S : CS} {r : Int32} {u : CS} (h : s_X1_clear S r u) : r = qI S 3 ∧ (qI u 3 = 0 ∧ qI u 4 = 0 ∧ qI u 5 = 0 ∧ qI u 6 = 0) ∧ (∀ z, z < 8 → qR u z = 0) ∧ (∀ z, z < 16 → qP u z = none) ∧ ∃ wa : Nat → Nat, (∀ z, z < 4 → qW u z = some (wa z) ∧ wa z ∈ qL u ∧ qK u (wa z) = false ∧ qWL u (wa z) = 0) ∧ ∀ i j, i < 4 → j < 4 → wa i = wa j → i = j := by
  unfold s_X1_clear at h
  obtain ⟨q0, h0, q1, h1, q2, h2, q3, h3, hr, hu⟩ := h
  refine ⟨hr, ?_⟩
  generalize eR0 : csR S ((0 : Int32).toNatClampNeg) 0 = R0 at h0 h1 h2 h3 hu
  generalize eR1 : csR R0 ((1 : Int32).toNatClampNeg) 0 = R1 at h0 h1 h2 h3 hu
  generalize eR2 : csR R1 ((2 : Int32).toNatClampNeg) 0 = R2 at h0 h1 h2 h3 hu
  generalize eR3 : csR R2 ((3 : Int32).toNatClampNeg) 0 = R3 at h0 h1 h2 h3 hu
  generalize eR4 : csR R3 ((4 : Int32).toNatClampNeg) 0 = R4 at h0 h1 h2 h3 hu
  generalize eR5 : csR R4 ((5 : Int32).toNatClampNeg) 0 = R5 at h0 h1 h2 h3 hu
  generalize eR6 : csR R5 ((6 : Int32).toNatClampNeg) 0 = R6 at h0 h1 h2 h3 hu
  generalize eR7 : csR R6 ((7 : Int32).toNatClampNeg) 0 = R7 at h0 h1 h2 h3 hu
  generalize eB0 : csNW R7 (q0) ((0 : Int32).toNatClampNeg) = B0 at h0 h1 h2 h3 hu
  generalize eV0 : csW B0 ((0 : Int32).toNatClampNeg) (some q0) = V0 at h0 h1 h2 h3 hu
  generalize eB1 : csNW V0 (q1) ((0 : Int32).toNatClampNeg) = B1 at h0 h1 h2 h3 hu
  generalize eV1 : csW B1 ((1 : Int32).toNatClampNeg) (some q1) = V1 at h0 h1 h2 h3 hu
  generalize eB2 : csNW V1 (q2) ((0 : Int32).toNatClampNeg) = B2 at h0 h1 h2 h3 hu
  generalize eV2 : csW B2 ((2 : Int32).toNatClampNeg) (some q2) = V2 at h0 h1 h2 h3 hu
  generalize eB3 : csNW V2 (q3) ((0 : Int32).toNatClampNeg) = B3 at h0 h1 h2 h3 hu
  generalize eV3 : csW B3 ((3 : Int32).toNatClampNeg) (some q3) = V3 at h0 h1 h2 h3 hu
  generalize eP0 : csP V3 ((0 : Int32).toNatClampNeg) none = P0 at h0 h1 h2 h3 hu
  generalize eP1 : csP P0 ((1 : Int32).toNatClampNeg) none = P1 at h0 h1 h2 h3 hu
  generalize eP2 : csP P1 ((2 : Int32).toNatClampNeg) none = P2 at h0 h1 h2 h3 hu
  generalize eP3 : csP P2 ((3 : Int32).toNatClampNeg) none = P3 at h0 h1 h2 h3 hu
  generalize eP4 : csP P3 ((4 : Int32).toNatClampNeg) none = P4 at h0 h1 h2 h3 hu
  generalize eP5 : csP P4 ((5 : Int32).toNatClampNeg) none = P5 at h0 h1 h2 h3 hu
  generalize eP6 : csP P5 ((6 : Int32).toNatClampNeg) none = P6 at h0 h1 h2 h3 hu
  generalize eP7 : csP P6 ((7 : Int32).toNatClampNeg) none = P7 at h0 h1 h2 h3 hu
  generalize eP8 : csP P7 ((8 : Int32).toNatClampNeg) none = P8 at h0 h1 h2 h3 hu
  generalize eP9 : csP P8 ((9 : Int32).toNatClampNeg) none = P9 at h0 h1 h2 h3 hu
  generalize eP10 : csP P9 ((10 : Int32).toNatClampNeg) none = P10 at h0 h1 h2 h3 hu
  generalize eP11 : csP P10 ((11 : Int32).toNatClampNeg) none = P11 at h0 h1 h2 h3 hu
  generalize eP12 : csP P11 ((12 : Int32).toNatClampNeg) none = P12 at h0 h1 h2 h3 hu
  generalize eP13 : csP P12 ((13 : Int32).toNatClampNeg) none = P13 at h0 h1 h2 h3 hu
  generalize eP14 : csP P13 ((14 : Int32).toNatClampNeg) none = P14 at h0 h1 h2 h3 hu
  generalize eP15 : csP P14 ((15 : Int32).toNatClampNeg) none = P15 at h0 h1 h2 h3 hu
  generalize eI3 : csI P15 3 0 = I3 at h0 h1 h2 h3 hu
  generalize eI4 : csI I3 4 0 = I4 at h0 h1 h2 h3 hu
  generalize eI5 : csI I4 5 0 = I5 at h0 h1 h2 h3 hu
  generalize eI6 : csI I5 6 0 = I6 at h0 h1 h2 h3 hu
  rw [hu]
  have i3 : qI I3 3 = 0 := by rw [← eI3]; exact qI_csI_eq _ _ _
  have i4 : qI I4 4 = 0 := by rw [← eI4]; exact qI_csI_eq _ _ _
  have i5 : qI I5 5 = 0 := by rw [← eI5]; exact qI_csI_eq _ _ _
  have i6 : qI I6 6 = 0 := by rw [← eI6]; exact qI_csI_eq _ _ _
  have nI4 : ∀ m, m ≠ 4 → qI I4 m = qI I3 m := fun m hm => by rw [← eI4]; exact qI_csI_ne _ _ _ _ hm
  have nI5 : ∀ m, m ≠ 5 → qI I5 m = qI I4 m := fun m hm => by rw [← eI5]; exact qI_csI_ne _ _ _ _ hm
  have nI6 : ∀ m, m ≠ 6 → qI I6 m = qI I5 m := fun m hm => by rw [← eI6]; exact qI_csI_ne _ _ _ _ hm
  have fqR : qR I6 = qR R7 := by rw [← eI6, qR_csI, ← eI5, qR_csI, ← eI4, qR_csI, ← eI3, qR_csI, ← eP15, qR_csP, ← eP14, qR_csP, ← eP13, qR_csP, ← eP12, qR_csP, ← eP11, qR_csP, ← eP10, qR_csP, ← eP9, qR_csP, ← eP8, qR_csP, ← eP7, qR_csP, ← eP6, qR_csP, ← eP5, qR_csP, ← eP4, qR_csP, ← eP3, qR_csP, ← eP2, qR_csP, ← eP1, qR_csP, ← eP0, qR_csP, ← eV3, qR_csW, ← eB3, qR_csNW, ← eV2, qR_csW, ← eB2, qR_csNW, ← eV1, qR_csW, ← eB1, qR_csNW, ← eV0, qR_csW, ← eB0, qR_csNW]
  have fqW : qW I6 = qW V3 := by rw [← eI6, qW_csI, ← eI5, qW_csI, ← eI4, qW_csI, ← eI3, qW_csI, ← eP15, qW_csP, ← eP14, qW_csP, ← eP13, qW_csP, ← eP12, qW_csP, ← eP11, qW_csP, ← eP10, qW_csP, ← eP9, qW_csP, ← eP8, qW_csP, ← eP7, qW_csP, ← eP6, qW_csP, ← eP5, qW_csP, ← eP4, qW_csP, ← eP3, qW_csP, ← eP2, qW_csP, ← eP1, qW_csP, ← eP0, qW_csP]
  have fqP : qP I6 = qP P15 := by rw [← eI6, qP_csI, ← eI5, qP_csI, ← eI4, qP_csI, ← eI3, qP_csI]
  have fqL : qL I6 = qL B3 := by rw [← eI6, qL_csI, ← eI5, qL_csI, ← eI4, qL_csI, ← eI3, qL_csI, ← eP15, qL_csP, ← eP14, qL_csP, ← eP13, qL_csP, ← eP12, qL_csP, ← eP11, qL_csP, ← eP10, qL_csP, ← eP9, qL_csP, ← eP8, qL_csP, ← eP7, qL_csP, ← eP6, qL_csP, ← eP5, qL_csP, ← eP4, qL_csP, ← eP3, qL_csP, ← eP2, qL_csP, ← eP1, qL_csP, ← eP0, qL_csP, ← eV3, qL_csW]
  have fqK : qK I6 = qK B3 := by rw [← eI6, qK_csI, ← eI5, qK_csI, ← eI4, qK_csI, ← eI3, qK_csI, ← eP15, qK_csP, ← eP14, qK_csP, ← eP13, qK_csP, ← eP12, qK_csP, ← eP11, qK_csP, ← eP10, qK_csP, ← eP9, qK_csP, ← eP8, qK_csP, ← eP7, qK_csP, ← eP6, qK_csP, ← eP5, qK_csP, ← eP4, qK_csP, ← eP3, qK_csP, ← eP2, qK_csP, ← eP1, qK_csP, ← eP0, qK_csP, ← eV3, qK_csW]
  have fqWL : qWL I6 = qWL B3 := by rw [← eI6, qWL_csI, ← eI5, qWL_csI, ← eI4, qWL_csI, ← eI3, qWL_csI, ← eP15, qWL_csP, ← eP14, qWL_csP, ← eP13, qWL_csP, ← eP12, qWL_csP, ← eP11, qWL_csP, ← eP10, qWL_csP, ← eP9, qWL_csP, ← eP8, qWL_csP, ← eP7, qWL_csP, ← eP6, qWL_csP, ← eP5, qWL_csP, ← eP4, qWL_csP, ← eP3, qWL_csP, ← eP2, qWL_csP, ← eP1, qWL_csP, ← eP0, qWL_csP, ← eV3, qWL_csW]
  have r0 : qR R0 = upd (qR S) 0 0 := by rw [← eR0, tc0, qR_csR_eq]
  have r1 : qR R1 = upd (qR R0) 1 0 := by rw [← eR1, tc1, qR_csR_eq]
  have r2 : qR R2 = upd (qR R1) 2 0 := by rw [← eR2, tc2, qR_csR_eq]
  have r3 : qR R3 = upd (qR R2) 3 0 := by rw [← eR3, tc3, qR_csR_eq]
  have r4 : qR R4 = upd (qR R3) 4 0 := by rw [← eR4, tc4, qR_csR_eq]
  have r5 : qR R5 = upd (qR R4) 5 0 := by rw [← eR5, tc5, qR_csR_eq]
  have r6 : qR R6 = upd (qR R5) 6 0 := by rw [← eR6, tc6, qR_csR_eq]
  have r7 : qR R7 = upd (qR R6) 7 0 := by rw [← eR7, tc7, qR_csR_eq]
  have p0 : qP P0 = va_up (qP V3) 0 none := by rw [← eP0, tc0, qP_csP_eq]
  have p1 : qP P1 = va_up (qP P0) 1 none := by rw [← eP1, tc1, qP_csP_eq]
  have p2 : qP P2 = va_up (qP P1) 2 none := by rw [← eP2, tc2, qP_csP_eq]
  have p3 : qP P3 = va_up (qP P2) 3 none := by rw [← eP3, tc3, qP_csP_eq]
  have p4 : qP P4 = va_up (qP P3) 4 none := by rw [← eP4, tc4, qP_csP_eq]
  have p5 : qP P5 = va_up (qP P4) 5 none := by rw [← eP5, tc5, qP_csP_eq]
  have p6 : qP P6 = va_up (qP P5) 6 none := by rw [← eP6, tc6, qP_csP_eq]
  have p7 : qP P7 = va_up (qP P6) 7 none := by rw [← eP7, tc7, qP_csP_eq]
  have p8 : qP P8 = va_up (qP P7) 8 none := by rw [← eP8, tc8, qP_csP_eq]
  have p9 : qP P9 = va_up (qP P8) 9 none := by rw [← eP9, tc9, qP_csP_eq]
  have p10 : qP P10 = va_up (qP P9) 10 none := by rw [← eP10, tc10, qP_csP_eq]
  have p11 : qP P11 = va_up (qP P10) 11 none := by rw [← eP11, tc11, qP_csP_eq]
  have p12 : qP P12 = va_up (qP P11) 12 none := by rw [← eP12, tc12, qP_csP_eq]
  have p13 : qP P13 = va_up (qP P12) 13 none := by rw [← eP13, tc13, qP_csP_eq]
  have p14 : qP P14 = va_up (qP P13) 14 none := by rw [← eP14, tc14, qP_csP_eq]
  have p15 : qP P15 = va_up (qP P14) 15 none := by rw [← eP15, tc15, qP_csP_eq]
  have w0 : qW V0 = va_up (qW R7) 0 (some q0) := by rw [← eV0, tc0, qW_csW_eq, ← eB0, qW_csNW]
  have l0 : qL V0 = qL R7 ++ [q0] := by rw [← eV0, qL_csW, ← eB0, qL_csNW_eq]
  have k0 : qK V0 = va_up (qK R7) q0 false := by rw [← eV0, qK_csW, ← eB0, qK_csNW_eq]
  have y0 : qWL V0 = va_up (qWL R7) q0 0 := by rw [← eV0, qWL_csW, ← eB0, tc0, qWL_csNW_eq]
  have w1 : qW V1 = va_up (qW V0) 1 (some q1) := by rw [← eV1, tc1, qW_csW_eq, ← eB1, qW_csNW]
  have l1 : qL V1 = qL V0 ++ [q1] := by rw [← eV1, qL_csW, ← eB1, qL_csNW_eq]
  have k1 : qK V1 = va_up (qK V0) q1 false := by rw [← eV1, qK_csW, ← eB1, qK_csNW_eq]
  have y1 : qWL V1 = va_up (qWL V0) q1 0 := by rw [← eV1, qWL_csW, ← eB1, tc0, qWL_csNW_eq]
  have w2 : qW V2 = va_up (qW V1) 2 (some q2) := by rw [← eV2, tc2, qW_csW_eq, ← eB2, qW_csNW]
  have l2 : qL V2 = qL V1 ++ [q2] := by rw [← eV2, qL_csW, ← eB2, qL_csNW_eq]
  have k2 : qK V2 = va_up (qK V1) q2 false := by rw [← eV2, qK_csW, ← eB2, qK_csNW_eq]
  have y2 : qWL V2 = va_up (qWL V1) q2 0 := by rw [← eV2, qWL_csW, ← eB2, tc0, qWL_csNW_eq]
  have w3 : qW V3 = va_up (qW V2) 3 (some q3) := by rw [← eV3, tc3, qW_csW_eq, ← eB3, qW_csNW]
  have l3 : qL V3 = qL V2 ++ [q3] := by rw [← eV3, qL_csW, ← eB3, qL_csNW_eq]
  have k3 : qK V3 = va_up (qK V2) q3 false := by rw [← eV3, qK_csW, ← eB3, qK_csNW_eq]
  have y3 : qWL V3 = va_up (qWL V2) q3 0 := by rw [← eV3, qWL_csW, ← eB3, tc0, qWL_csNW_eq]
  have gqL : qL B3 = qL V3 := by rw [← eV3, qL_csW]
  have gqK : qK B3 = qK V3 := by rw [← eV3, qK_csW]
  have gqWL : qWL B3 = qWL V3 := by rw [← eV3, qWL_csW]
  have m1 : q1 ∉ qL V0 := by
    rw [← eV0, qL_csW]
    exact h1
  have m2 : q2 ∉ qL V1 := by
    rw [← eV1, qL_csW]
    exact h2
  have m3 : q3 ∉ qL V2 := by
    rw [← eV2, qL_csW]
    exact h3
  have lS : qL R7 = qL S := by rw [← eR7, qL_csR, ← eR6, qL_csR, ← eR5, qL_csR, ← eR4, qL_csR, ← eR3, qL_csR, ← eR2, qL_csR, ← eR1, qL_csR, ← eR0, qL_csR]
  rw [l0] at m1
  rw [l1, l0] at m2
  rw [l2, l1, l0] at m3
  simp only [List.mem_append, List.mem_singleton, not_or] at m1 m2 m3
  refine ⟨⟨by rw [nI6 3 (by decide), nI5 3 (by decide), nI4 3 (by decide)]; exact i3, by rw [nI6 4 (by decide), nI5 4 (by decide)]; exact i4, by rw [nI6 5 (by decide)]; exact i5, i6⟩, ?_, ?_, fun z => if z = 0 then q0 else if z = 1 then q1 else if z = 2 then q2 else q3, ?_, ?_⟩
  · intro z hz
    rw [fqR, r7, r6, r5, r4, r3, r2, r1, r0]
    rcases (show z = 0 ∨ z = 1 ∨ z = 2 ∨ z = 3 ∨ z = 4 ∨ z = 5 ∨ z = 6 ∨ z = 7 by omega) with rfl | rfl | rfl | rfl | rfl | rfl | rfl | rfl <;> simp [upd]
  · intro z hz
    rw [fqP, p15, p14, p13, p12, p11, p10, p9, p8, p7, p6, p5, p4, p3, p2, p1, p0]
    rcases (show z = 0 ∨ z = 1 ∨ z = 2 ∨ z = 3 ∨ z = 4 ∨ z = 5 ∨ z = 6 ∨ z = 7 ∨ z = 8 ∨ z = 9 ∨ z = 10 ∨ z = 11 ∨ z = 12 ∨ z = 13 ∨ z = 14 ∨ z = 15 by omega) with rfl | rfl | rfl | rfl | rfl | rfl | rfl | rfl | rfl | rfl | rfl | rfl | rfl | rfl | rfl | rfl <;> simp [va_up]
  · intro z hz
    rw [fqW, fqL, fqK, fqWL, gqL, gqK, gqWL, w3, w2, w1, w0, l3, l2, l1, l0, k3, k2, k1, k0, y3, y2, y1, y0]
    obtain ⟨d10, d11⟩ := m1
    obtain ⟨⟨d20, d21⟩, d22⟩ := m2
    obtain ⟨⟨⟨d30, d31⟩, d32⟩, d33⟩ := m3
    rcases (show z = 0 ∨ z = 1 ∨ z = 2 ∨ z = 3 by omega) with rfl | rfl | rfl | rfl
    · simp [va_up]
    · simp [va_up]
    · simp [va_up]
    · simp [va_up]
  · obtain ⟨d10, d11⟩ := m1
    obtain ⟨⟨d20, d21⟩, d22⟩ := m2
    obtain ⟨⟨⟨d30, d31⟩, d32⟩, d33⟩ := m3
    intro i j hi hj hij
    rcases (show i = 0 ∨ i = 1 ∨ i = 2 ∨ i = 3 by omega) with rfl | rfl | rfl | rfl <;> rcases (show j = 0 ∨ j = 1 ∨ j = 2 ∨ j = 3 by omega) with rfl | rfl | rfl | rfl <;> first | rfl | (simp at hij; omega)
theorem nw_ok (X : CS) (q n : Nat) : q ∈ qL (csNW X q n) ∧ qK (csNW X q n) q = false := ⟨List.mem_append_right _ (List.mem_singleton.mpr rfl), up_eq⟩
theorem okc_clear {c : Nat} {S : CS} {T : MS} (h : SimN c S T) (hc : c < 512) : ok_X1_clear S := by
  unfold ok_X1_clear
  exact fun q0 h0 => ⟨nw_ok _ _ _, fun q1 h1 => ⟨nw_ok _ _ _, fun q2 h2 => ⟨nw_ok _ _ _, fun q3 h3 => ⟨nw_ok _ _ _, trivial⟩⟩⟩⟩
theorem M_clear {c : Nat} {S : CS} {T : MS} (h : SimN c S T) (hc : c < 512) : ∃ N2, ok_X2_clear N2 T ∧ ∀ {r1 r2 : Int32} {u1 : CS} {u2 : MS}, s_X1_clear S r1 u1 → (r2, u2) = p_X2_clear N2 T → r1 = r2 ∧ SimN (c + 1) u1 u2 := by
  obtain ⟨o1, T', p1, t1, t2, t3, t4⟩ := clear_m T
  refine ⟨17, o1, ?_⟩
  intro r1 r2 u1 u2 h1 h2
  rw [p1] at h2
  obtain ⟨rfl, rfl⟩ := pair_inj h2
  obtain ⟨e1, e2, e3, e4, wa, e5, e6⟩ := clear_c h1
  obtain ⟨k, w, ra, wa', hk, hw, hs⟩ := h
  exact ⟨by rw [e1, hs.1.1, hs.1.2.1], sim_clear_abs e2 e3 e5 e4 e6 t1 t2 t3 t4 _⟩
