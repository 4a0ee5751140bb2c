/-! numbers in range, alike on both sides -/
theorem rng (a : Int32) (n : Nat) (hn : n < 1000) : (p_X1_isBelow a (nI n) = 0 ∧ p_X2_in a 0 (nI n - 1) = 0) ∨ ∃ j, j < n ∧ a = nI j ∧ ¬ p_X1_isBelow a (nI n) = 0 ∧ ¬ p_X2_in a 0 (nI n - 1) = 0 := by
  have hm : (nI n - 1).toInt = (n : Int) - 1 := by
    rw [show (1 : Int32) = nI 1 from rfl]
    exact pk_sub_toInt (by omega) (by omega)
  rcases pk_ix a (n := n) (by omega) with h | h | ⟨j, hj, rfl⟩
  · refine Or.inl ⟨?_, ?_⟩
    · unfold p_X1_isBelow
      rw [if_pos h]
    · unfold p_X2_in
      rw [if_pos h]
  · refine Or.inl ⟨?_, ?_⟩
    · unfold p_X1_isBelow
      by_cases h0 : a < 0
      · rw [if_pos h0]
      · rw [if_neg h0, if_pos h]
    · unfold p_X2_in
      by_cases h0 : a < 0
      · rw [if_pos h0]
      · rw [if_neg h0, if_pos]
        rw [Int32.lt_iff_toInt_lt, hm]
        rw [Int32.le_iff_toInt_le, nI_toInt (by omega)] at h
        omega
  · refine Or.inr ⟨j, hj, rfl, ?_, ?_⟩
    · unfold p_X1_isBelow
      rw [if_neg (nI_pos (by omega)), if_neg (nI_ge hj (by omega))]
      decide
    · unfold p_X2_in
      rw [if_neg (nI_pos (by omega)), if_neg]
      · decide
      · rw [Int32.lt_iff_toInt_lt, hm, nI_toInt (by omega)]
        omega
theorem rng8 (a : Int32) : (p_X1_isBelow a 8 = 0 ∧ p_X2_in a 0 7 = 0) ∨ ∃ j, j < 8 ∧ a = nI j ∧ ¬ p_X1_isBelow a 8 = 0 ∧ ¬ p_X2_in a 0 7 = 0 := rng a 8 (by omega)
theorem rng4 (a : Int32) : (p_X1_isBelow a 4 = 0 ∧ p_X2_in a 0 3 = 0) ∨ ∃ j, j < 4 ∧ a = nI j ∧ ¬ p_X1_isBelow a 4 = 0 ∧ ¬ p_X2_in a 0 3 = 0 := rng a 4 (by omega)
theorem rng6 (a : Int32) : (p_X1_isBelow a 6 = 0 ∧ p_X2_in a 0 5 = 0) ∨ ∃ j, j < 6 ∧ a = nI j ∧ ¬ p_X1_isBelow a 6 = 0 ∧ ¬ p_X2_in a 0 5 = 0 := rng a 6 (by omega)
theorem rngP (a : Int32) : (p_X1_isPlace a = 0 ∧ p_X2_isPlace a = 0) ∨ ∃ j, j < 16 ∧ a = nI j ∧ ¬ p_X1_isPlace a = 0 ∧ ¬ p_X2_isPlace a = 0 := rng a 16 (by omega)
theorem cl (j : Nat) (h : j < 1000000) : (nI j).toNatClampNeg = j := nI_clamp (by omega)
theorem pair_inj {α β : Type} {a c : α} {b d : β} (h : (a, b) = (c, d)) : a = c ∧ b = d := ⟨congrArg Prod.fst h, congrArg Prod.snd h⟩
theorem SimN.up {c : Nat} {S : CS} {T : MS} (h : SimN c S T) : SimN (c + 1) S T := by
  obtain ⟨k, w, ra, wa, h1, h2, h3⟩ := h
  exact ⟨k, w, ra, wa, by omega, by omega, h3⟩
/-! rate -/
theorem okc_rate {c : Nat} {S : CS} {T : MS} (h : SimN c S T) (hc : c < 512) (a1 a2 : Int32) : ok_X1_rate S a1 a2 := by
  unfold ok_X1_rate
  rcases rng8 a1 with ⟨h1, h2⟩ | ⟨j, hj, rfl, h1, h2⟩
  · exact ⟨fun _ => trivial, fun z => absurd h1 z⟩
  · exact ⟨fun _ => trivial, fun _ => ⟨vp_in_nI hj (by omega), trivial⟩⟩
theorem okm_rate {c : Nat} {S : CS} {T : MS} (h : SimN c S T) (hc : c < 512) (a1 a2 : Int32) : ok_X2_rate T a1 a2 := by
  unfold ok_X2_rate
  rcases rng8 a1 with ⟨h1, h2⟩ | ⟨j, hj, rfl, h1, h2⟩
  · exact ⟨fun _ => trivial, fun z => absurd h2 z⟩
  · exact ⟨fun _ => trivial, fun _ => ⟨vp_in_nI hj (by omega), trivial⟩⟩
theorem L_rate {c : Nat} {S : CS} {T : MS} (h : SimN c S T) (hc : c < 512) (a1 a2 : Int32) {r1 r2 : Int32} {u1 : CS} {u2 : MS} (h1 : (r1, u1) = p_X1_rate S a1 a2) (h2 : (r2, u2) = p_X2_rate T a1 a2) : r1 = r2 ∧ SimN (c + 1) u1 u2 := by
  unfold p_X1_rate at h1
  unfold p_X2_rate at h2
  rcases rng8 a1 with ⟨e1, e2⟩ | ⟨j, hj, rfl, e1, e2⟩
  · rw [if_pos e1] at h1
    rw [if_pos e2] at h2
    obtain ⟨rfl, rfl⟩ := pair_inj h1
    obtain ⟨rfl, rfl⟩ := pair_inj h2
    exact ⟨rfl, h.up⟩
  · rw [if_neg e1, cl j (by omega)] at h1
    rw [if_neg e2, cl j (by omega)] at h2
    obtain ⟨rfl, rfl⟩ := pair_inj h1
    obtain ⟨rfl, rfl⟩ := pair_inj h2
    obtain ⟨k, w, ra, wa, hk, hw, s1, s2, s3, s4, s5, s6, s7, s8, s9⟩ := h
    refine ⟨rfl, k, w, ra, wa, by omega, by omega, s1, s2, ?_, s4, s5, s6, s7, s8, s9⟩
    intro i hi
    show upd (qR S) j a2 i = upd (T.2.1 0) j a2 i
    unfold upd
    by_cases hij : i = j
    · rw [if_pos hij, if_pos hij]
    · rw [if_neg hij, if_neg hij, s3 i hi]
/-! put, take, failed, same, count -/
theorem okc_put {c : Nat} {S : CS} {T : MS} (h : SimN c S T) (hc : c < 512) (a1 a2 : Int32) : ok_X1_put S a1 a2 := by
  unfold ok_X1_put
  rcases rngP a1 with ⟨h1, h2⟩ | ⟨i, hi, rfl, h1, h2⟩
  · exact ⟨fun _ => trivial, fun z => absurd h1 z⟩
  rcases rngP a2 with ⟨g1, g2⟩ | ⟨j, hj, rfl, g1, g2⟩
  · exact ⟨fun _ => trivial, fun _ => ⟨fun _ => trivial, fun z => absurd g1 z⟩⟩
  refine ⟨fun _ => trivial, fun _ => ⟨fun _ => trivial, fun _ => ⟨vp_in_nI hi (by omega), fun _ => trivial, fun hn => ⟨vp_in_nI hi (by omega), vp_in_nI hj (by omega), ?_, trivial⟩⟩⟩⟩
  obtain ⟨k, w, ra, wa, hk, hw, s1, s2, s3, s4, s5, s6, s7, s8, s9⟩ := h
  rw [cl i (by omega)] at hn ⊢
  rcases s6 i hi with ⟨z1, z2⟩ | ⟨q, hq, z1, z2⟩
  · exact absurd z1 hn
  · rw [z1]
    exact ⟨(s7 q hq).1, (s7 q hq).2.1⟩
theorem okm_put {c : Nat} {S : CS} {T : MS} (h : SimN c S T) (hc : c < 512) (a1 a2 : Int32) : ok_X2_put T a1 a2 := by
  unfold ok_X2_put
  rcases rngP a1 with ⟨h1, h2⟩ | ⟨i, hi, rfl, h1, h2⟩
  · exact ⟨fun _ => trivial, fun z => absurd h2 z⟩
  rcases rngP a2 with ⟨g1, g2⟩ | ⟨j, hj, rfl, g1, g2⟩
  · exact ⟨fun _ => trivial, fun _ => ⟨fun _ => trivial, fun z => absurd g2 z⟩⟩
  exact ⟨fun _ => trivial, fun _ => ⟨fun _ => trivial, fun _ => ⟨vp_in_nI hi (by omega), fun _ => trivial, fun hn => ⟨vp_in_nI hi (by omega), vp_in_nI hj (by omega), trivial⟩⟩⟩⟩
theorem nI_s0 {j : Nat} (h : j < 100000) : ¬ nI (j + 1) = 0 := nI_ne0 (by omega) (by omega)
theorem Sim.place {k w : Nat} {ra wa : Nat → Nat} {S : CS} {T : MS} (h : Sim k w ra wa S T) {j : Nat} {o : Option Nat} {v : Int32} (ho : (o = none ∧ v = 0) ∨ ∃ q, q < k ∧ o = some (ra q) ∧ v = nI (q + 1)) : Sim k w ra wa (csP S j o) (msA T 16 j v) := by
  obtain ⟨s1, s2, s3, s4, s5, s6, s7, s8, s9⟩ := h
  refine ⟨s1, s2, s3, s4, s5, ?_, s7, s8, s9⟩
  intro i hi
  show (va_up (qP S) j o i = none ∧ upd (T.2.1 16) j v i = 0) ∨ ∃ q, q < k ∧ va_up (qP S) j o i = some (ra q) ∧ upd (T.2.1 16) j v i = nI (q + 1)
  unfold va_up upd
  by_cases hij : i = j
  · rw [if_pos hij, if_pos hij]
    exact ho
  · rw [if_neg hij, if_neg hij]
    exact s6 i hi
theorem L_put {c : Nat} {S : CS} {T : MS} (h : SimN c S T) (hc : c < 512) (a1 a2 : Int32) {r1 r2 : Int32} {u1 : CS} {u2 : MS} (h1 : (r1, u1) = p_X1_put S a1 a2) (h2 : (r2, u2) = p_X2_put T a1 a2) : r1 = r2 ∧ SimN (c + 1) u1 u2 := by
  unfold p_X1_put at h1
  unfold p_X2_put at h2
  rcases rngP a1 with ⟨e1, e2⟩ | ⟨i, hi, rfl, e1, e2⟩
  · rw [if_pos e1] at h1
    rw [if_pos e2] at h2
    obtain ⟨rfl, rfl⟩ := pair_inj h1
    obtain ⟨rfl, rfl⟩ := pair_inj h2
    exact ⟨rfl, h.up⟩
  rw [if_neg e1] at h1
  rw [if_neg e2] at h2
  rcases rngP a2 with ⟨g1, g2⟩ | ⟨j, hj, rfl, g1, g2⟩
  · rw [if_pos g1] at h1
    rw [if_pos g2] at h2
    obtain ⟨rfl, rfl⟩ := pair_inj h1
    obtain ⟨rfl, rfl⟩ := pair_inj h2
    exact ⟨rfl, h.up⟩
  rw [if_neg g1, cl i (by omega), cl j (by omega)] at h1
  rw [if_neg g2, cl i (by omega), cl j (by omega)] at h2
  obtain ⟨k, w, ra, wa, hk, hw, hs⟩ := h
  rcases hs.2.2.2.2.2.1 i hi with ⟨z1, z2⟩ | ⟨q, hq, z1, z2⟩
  · rw [if_pos z1] at h1
    rw [if_pos z2] at h2
    obtain ⟨rfl, rfl⟩ := pair_inj h1
    obtain ⟨rfl, rfl⟩ := pair_inj h2
    exact ⟨rfl, k, w, ra, wa, by omega, by omega, hs⟩
  · have z1n : ¬ qP S i = none := by rw [z1]; simp
    have z2n : ¬ T.2.1 16 i = 0 := by rw [z2]; exact nI_s0 (by omega)
    rw [if_neg z1n, z1] at h1
    rw [if_neg z2n, z2] at h2
    obtain ⟨rfl, rfl⟩ := pair_inj h1
    obtain ⟨rfl, rfl⟩ := pair_inj h2
    exact ⟨rfl, k, w, ra, wa, by omega, by omega, hs.place (Or.inr ⟨q, hq, rfl, rfl⟩)⟩
theorem okc_take {c : Nat} {S : CS} {T : MS} (h : SimN c S T) (hc : c < 512) (a1 : Int32) : ok_X1_take S a1 := by
  unfold ok_X1_take
  rcases rngP a1 with ⟨h1, h2⟩ | ⟨i, hi, rfl, h1, h2⟩
  · exact ⟨fun _ => trivial, fun z => absurd h1 z⟩
  exact ⟨fun _ => trivial, fun _ => ⟨vp_in_nI hi (by omega), fun _ => trivial, fun hn => ⟨vp_in_nI hi (by omega), trivial⟩⟩⟩
theorem okm_take {c : Nat} {S : CS} {T : MS} (h : SimN c S T) (hc : c < 512) (a1 : Int32) : ok_X2_take T a1 := by
  unfold ok_X2_take
  rcases rngP a1 with ⟨h1, h2⟩ | ⟨i, hi, rfl, h1, h2⟩
  · exact ⟨fun _ => trivial, fun z => absurd h2 z⟩
  exact ⟨fun _ => trivial, fun _ => ⟨vp_in_nI hi (by omega), fun _ => trivial, fun hn => ⟨vp_in_nI hi (by omega), trivial⟩⟩⟩
theorem L_take {c : Nat} {S : CS} {T : MS} (h : SimN c S T) (hc : c < 512) (a1 : Int32) {r1 r2 : Int32} {u1 : CS} {u2 : MS} (h1 : (r1, u1) = p_X1_take S a1) (h2 : (r2, u2) = p_X2_take T a1) : r1 = r2 ∧ SimN (c + 1) u1 u2 := by
  unfold p_X1_take at h1
  unfold p_X2_take at h2
  rcases rngP a1 with ⟨e1, e2⟩ | ⟨i, hi, rfl, e1, e2⟩
  · rw [if_pos e1] at h1
    rw [if_pos e2] at h2
    obtain ⟨rfl, rfl⟩ := pair_inj h1
    obtain ⟨rfl, rfl⟩ := pair_inj h2
    exact ⟨rfl, h.up⟩
  rw [if_neg e1, cl i (by omega)] at h1
  rw [if_neg e2, cl i (by omega)] at h2
  obtain ⟨k, w, ra, wa, hk, hw, hs⟩ := h
  rcases hs.2.2.2.2.2.1 i hi with ⟨z1, z2⟩ | ⟨q, hq, z1, z2⟩
  · rw [if_pos z1] at h1
    rw [if_pos z2] at h2
    obtain ⟨rfl, rfl⟩ := pair_inj h1
    obtain ⟨rfl, rfl⟩ := pair_inj h2
    exact ⟨rfl, k, w, ra, wa, by omega, by omega, hs⟩
  · have z1n : ¬ qP S i = none := by rw [z1]; simp
    have z2n : ¬ T.2.1 16 i = 0 := by rw [z2]; exact nI_s0 (by omega)
    rw [if_neg z1n] at h1
    rw [if_neg z2n] at h2
    obtain ⟨rfl, rfl⟩ := pair_inj h1
    obtain ⟨rfl, rfl⟩ := pair_inj h2
    exact ⟨rfl, k, w, ra, wa, by omega, by omega, hs.place (Or.inl ⟨rfl, rfl⟩)⟩
theorem okc_failed {c : Nat} {S : CS} {T : MS} (h : SimN c S T) (hc : c < 512) : ok_X1_failed S := trivial
theorem okm_failed {c : Nat} {S : CS} {T : MS} (h : SimN c S T) (hc : c < 512) : ok_X2_failed T := trivial
theorem L_failed {c : Nat} {S : CS} {T : MS} (h : SimN c S T) (hc : c < 512) {r1 r2 : Int32} {u1 : CS} {u2 : MS} (h1 : r1 = p_X1_failed S ∧ u1 = S) (h2 : r2 = p_X2_failed T ∧ u2 = T) : r1 = r2 ∧ SimN (c + 1) u1 u2 := by
  obtain ⟨rfl, rfl⟩ := h1
  obtain ⟨rfl, rfl⟩ := h2
  refine ⟨?_, h.up⟩
  obtain ⟨k, w, ra, wa, hk, hw, hs⟩ := h
  exact hs.2.1.2.2
theorem okc_same {c : Nat} {S : CS} {T : MS} (h : SimN c S T) (hc : c < 512) (a1 a2 : Int32) : ok_X1_same S a1 a2 := by
  unfold ok_X1_same
  rcases rngP a1 with ⟨h1, h2⟩ | ⟨i, hi, rfl, h1, h2⟩
  · exact ⟨fun _ => trivial, fun z => absurd h1 z⟩
  rcases rngP a2 with ⟨g1, g2⟩ | ⟨j, hj, rfl, g1, g2⟩
  · exact ⟨fun _ => trivial, fun _ => ⟨fun _ => trivial, fun z => absurd g1 z⟩⟩
  exact ⟨fun _ => trivial, fun _ => ⟨fun _ => trivial, fun _ => ⟨vp_in_nI hi (by omega), fun _ => trivial, fun hn => ⟨vp_in_nI hi (by omega), vp_in_nI hj (by omega), fun _ => trivial, fun _ => trivial⟩⟩⟩⟩
theorem okm_same {c : Nat} {S : CS} {T : MS} (h : SimN c S T) (hc : c < 512) (a1 a2 : Int32) : ok_X2_same T a1 a2 := by
  unfold ok_X2_same
  rcases rngP a1 with ⟨h1, h2⟩ | ⟨i, hi, rfl, h1, h2⟩
  · exact ⟨fun _ => trivial, fun z => absurd h2 z⟩
  rcases rngP a2 with ⟨g1, g2⟩ | ⟨j, hj, rfl, g1, g2⟩
  · exact ⟨fun _ => trivial, fun _ => ⟨fun _ => trivial, fun z => absurd g2 z⟩⟩
  exact ⟨fun _ => trivial, fun _ => ⟨fun _ => trivial, fun _ => ⟨vp_in_nI hi (by omega), fun _ => trivial, fun hn => ⟨vp_in_nI hi (by omega), vp_in_nI hj (by omega), fun _ => trivial, fun _ => trivial⟩⟩⟩⟩
theorem nI_s1 {j : Nat} (h : j < 100000) : ¬ nI (j + 1) ≤ 0 := nI_nle (by omega) (by omega)
theorem L_same {c : Nat} {S : CS} {T : MS} (h : SimN c S T) (hc : c < 512) (a1 a2 : Int32) {r1 r2 : Int32} {u1 : CS} {u2 : MS} (h1 : r1 = p_X1_same S a1 a2 ∧ u1 = S) (h2 : r2 = p_X2_same T a1 a2 ∧ u2 = T) : r1 = r2 ∧ SimN (c + 1) u1 u2 := by
  have hup := h.up
  rw [h1.1, h2.1, h1.2, h2.2]
  refine ⟨?_, hup⟩
  obtain ⟨k, w, ra, wa, hk, hw, hs⟩ := h
  unfold p_X1_same p_X2_same
  rcases rngP a1 with ⟨e1, e2⟩ | ⟨i, hi, rfl, e1, e2⟩
  · rw [if_pos e1, if_pos e2]
  rw [if_neg e1, if_neg e2]
  rcases rngP a2 with ⟨g1, g2⟩ | ⟨j, hj, rfl, g1, g2⟩
  · rw [if_pos g1, if_pos g2]
  rw [if_neg g1, if_neg g2, cl i (by omega), cl j (by omega)]
  rcases hs.2.2.2.2.2.1 i hi with ⟨z1, z2⟩ | ⟨q, hq, z1, z2⟩
  · have z2n : T.2.1 16 i ≤ 0 := by rw [z2]; decide
    rw [if_pos z1, if_pos z2n]
  have z1n : ¬ qP S i = none := by rw [z1]; simp
  have z2n : ¬ T.2.1 16 i ≤ 0 := by rw [z2]; exact nI_s1 (by omega)
  rw [if_neg z1n, if_neg z2n]
  rcases hs.2.2.2.2.2.1 j hj with ⟨y1, y2⟩ | ⟨q2, hq2, y1, y2⟩
  · have x1 : ¬ qP S i = qP S j := by rw [z1, y1]; simp
    have x2 : ¬ T.2.1 16 i = T.2.1 16 j := by rw [z2, y2]; exact nI_s0 (by omega)
    rw [if_neg x1, if_neg x2]
  by_cases hqq : q = q2
  · have x1 : qP S i = qP S j := by rw [z1, y1, hqq]
    have x2 : T.2.1 16 i = T.2.1 16 j := by rw [z2, y2, hqq]
    rw [if_pos x1, if_pos x2]
  · have x1 : ¬ qP S i = qP S j := by
      rw [z1, y1]
      exact fun e => hqq (hs.2.2.2.2.2.2.2.1 q q2 hq hq2 (Option.some.inj e))
    have x2 : ¬ T.2.1 16 i = T.2.1 16 j := by
      rw [z2, y2, nI_eq (by omega) (by omega)]
      omega
    rw [if_neg x1, if_neg x2]
theorem pk_at {k j : Nat} (h : j < 100000) : nI (j + 1) - 1 = nI j := nI_pred j
theorem okc_count {c : Nat} {S : CS} {T : MS} (h : SimN c S T) (hc : c < 512) (a1 : Int32) : ok_X1_count S a1 := by
  obtain ⟨k, w, ra, wa, hk, hw, hs⟩ := h
  unfold ok_X1_count
  rcases rngP a1 with ⟨h1, h2⟩ | ⟨i, hi, rfl, h1, h2⟩
  · exact ⟨fun _ => trivial, fun z => absurd h1 z⟩
  refine ⟨fun _ => trivial, fun _ => ⟨vp_in_nI hi (by omega), fun _ => trivial, fun hn => ?_⟩⟩
  rw [cl i (by omega)] at hn ⊢
  rcases hs.2.2.2.2.2.1 i hi with ⟨z1, z2⟩ | ⟨q, hq, z1, z2⟩
  · exact absurd z1 hn
  rw [z1]
  have hq2 := hs.2.2.2.2.2.2.1 q hq
  exact ⟨⟨hq2.1, hq2.2.1⟩, fun _ => ⟨⟨hq2.1, hq2.2.1⟩, trivial⟩, fun _ => trivial⟩
theorem okm_count {c : Nat} {S : CS} {T : MS} (h : SimN c S T) (hc : c < 512) (a1 : Int32) : ok_X2_count T a1 := by
  obtain ⟨k, w, ra, wa, hk, hw, hs⟩ := h
  unfold ok_X2_count
  rcases rngP a1 with ⟨h1, h2⟩ | ⟨i, hi, rfl, h1, h2⟩
  · exact ⟨fun _ => trivial, fun z => absurd h2 z⟩
  refine ⟨fun _ => trivial, fun _ => ⟨vp_in_nI hi (by omega), fun _ => trivial, fun hn => ?_⟩⟩
  unfold ok_X2_at p_X2_at
  rw [cl i (by omega)] at hn ⊢
  rcases hs.2.2.2.2.2.1 i hi with ⟨z1, z2⟩ | ⟨q, hq, z1, z2⟩
  · exact absurd z2 hn
  rw [z2, nI_pred]
  exact ⟨⟨vp_in_nI hi (by omega), trivial⟩, vp_in_nI (by omega) (by omega), fun _ => ⟨⟨vp_in_nI hi (by omega), trivial⟩, vp_in_nI (by omega) (by omega), trivial⟩, fun _ => trivial⟩
theorem L_count {c : Nat} {S : CS} {T : MS} (h : SimN c S T) (hc : c < 512) (a1 : Int32) {r1 r2 : Int32} {u1 : CS} {u2 : MS} (h1 : r1 = p_X1_count S a1 ∧ u1 = S) (h2 : r2 = p_X2_count T a1 ∧ u2 = T) : r1 = r2 ∧ SimN (c + 1) u1 u2 := by
  have hup := h.up
  rw [h1.1, h2.1, h1.2, h2.2]
  refine ⟨?_, hup⟩
  obtain ⟨k, w, ra, wa, hk, hw, hs⟩ := h
  unfold p_X1_count p_X2_count p_X2_at
  rcases rngP a1 with ⟨e1, e2⟩ | ⟨i, hi, rfl, e1, e2⟩
  · rw [if_pos e1, if_pos e2]
  rw [if_neg e1, if_neg e2, cl i (by omega)]
  rcases hs.2.2.2.2.2.1 i hi with ⟨z1, z2⟩ | ⟨q, hq, z1, z2⟩
  · rw [if_pos z1, if_pos z2]
  have z1n : ¬ qP S i = none := by rw [z1]; simp
  have z2n : ¬ T.2.1 16 i = 0 := by rw [z2]; exact nI_s0 (by omega)
  rw [if_neg z1n, if_neg z2n, z1, z2, nI_pred, cl q (by omega)]
  obtain ⟨g1, g2, n, hn, g3, g4, -, -, -, -, -, -, -, g5, -⟩ := hs.2.2.2.2.2.2.1 q hq
  show (if qRI S 0 (ra q) = 11 then qRI S 6 (ra q) else -2) = _
  rw [g4, g3, g5]
