def p_X1_fail (S : CS) (a1 : Int32) : Int64 × CS := (0, csI S 6 a1)
def ok_X1_fail (S : CS) (a1 : Int32) : Prop := True
set_option maxHeartbeats 4000000 in
set_option maxRecDepth 100000 in
theorem c_X1_fail (l : Launch) (D : va_G) (x A0 A1 A2 : Nat) (cI cR cII : ClassId) (S : CS) (a1 : Int32) (hok : ok_X1_fail S a1) : MetJ l yX1_fail wsX1_fail ({ frames := 0, cells := 0, slots := 0, locals := 0 } : Room) D (cKK D cI cR cII) (cW x A0 A1 A2 cI cR cII) S [.ref x, .int a1] (fun r u => (r, u) = p_X1_fail S a1) 0 0 := by
  unfold ok_X1_fail at hok
  refine MetJ.of (cc := cX1_fail) (maxL := 2) (by decide) rfl (Nat.le_of_ble_eq_true rfl) ?_
  intro p e s m below meth c A ls hC hr hlk hnm hK hP hD hA hl
  obtain ⟨hx, hb, hml, hown, hts⟩ := id hC
  have hS : va_S A s.heap s.heap [] := va_S.rf
  have hin1 : ∀ w ∈ wsX10, w ∈ wsX1_fail := fun _ h => List.mem_cons_of_mem _ (List.mem_append_right _ h)
  have hl : lv_has ls 2 [(0, .ref x), (1, .int a1)] := hl
  refine lv_aload_n hx hb dX1_fail_0 rfl (lv_at hl 0 rfl) ?_
  refine lv_iload_n hx hb dX1_fail_1 rfl (lv_at hl 1 rfl) ?_
  refine wc_putI hC hin1 hK hP hD hS 6 (by decide) rfl (by decide +kernel) rfl (by decide +kernel) (dset_6 _ _ _ _ _) dX1_fail_2 (fun H locs hP hD hS => ?_)
  refine lv_lconst (v := 0) hx hb dX1_fail_5 (by decide) ?_
  exact wx_retj kst_C (csI S 6 a1) hx hb hr hlk hK hP hD hS dX1_fail_6 (by unfold p_X1_fail; rfl)
def p_X1_rateNow (S : CS) (a1 : Int32) : Int32 := if (p_X1_isBelow a1 8) = 0 then 0 else (qR S a1.toNatClampNeg)
def ok_X1_rateNow (S : CS) (a1 : Int32) : Prop := ((p_X1_isBelow a1 8) = 0 → True) ∧ (¬ (p_X1_isBelow a1 8) = 0 → ((vp_in a1 8) ∧ (True)))
set_option maxHeartbeats 4000000 in
set_option maxRecDepth 100000 in
theorem c_X1_rateNow (l : Launch) (D : va_G) (x A0 A1 A2 : Nat) (cI cR cII : ClassId) (S : CS) (a1 : Int32) (hok : ok_X1_rateNow S a1) : MetI l yX1_rateNow wsX1_rateNow ({ frames := 1, cells := 0, slots := 0, locals := 21 } : Room) D (cKK D cI cR cII) (cW x A0 A1 A2 cI cR cII) S [.ref x, .int a1] (fun r u => r = p_X1_rateNow S a1 ∧ u = S) 0 0 := by
  unfold ok_X1_rateNow at hok
  refine MetI.of (cc := cX1_rateNow) (maxL := 2) (by decide) rfl (Nat.le_of_ble_eq_true rfl) ?_
  intro p e s m below meth c A ls hC hr hlk hnm hK hP hD hA hl
  obtain ⟨hx, hb, hml, hown, hts⟩ := id hC
  have hS : va_S A s.heap s.heap [] := va_S.rf
  have hin1 : ∀ w ∈ wsX10, w ∈ wsX1_rateNow := fun _ h => List.mem_cons_of_mem _ (List.mem_append_right _ h)
  have hl : lv_has ls 2 [(0, .ref x), (1, .int a1)] := hl
  refine lv_iload_n hx hb dX1_rateNow_0 rfl (lv_at hl 1 rfl) ?_
  refine lv_bipush (v := 8) hx hb dX1_rateNow_1 (by decide) ?_
  refine wx_callS (As := [.int a1, .int 8]) (rest := []) hC (c_X1_isBelow l a1 8) (va_cwS 2 hts gX1_rateNow_X1_isBelow rfl rfl rfl (by decide +kernel) ⟨Nat.le_of_ble_eq_true rfl, Nat.le_of_ble_eq_true rfl⟩) rfl hl.1 rfl (Nat.le_of_ble_eq_true rfl) dX1_rateNow_3 ⟨Nat.le_of_ble_eq_true rfl, Nat.le_of_ble_eq_true rfl⟩ (fun r1 hw => ?_)
  obtain rfl : r1 = p_X1_isBelow a1 8 := hw
  refine lv_if_eq (tgt := 18) hx hb dX1_rateNow_6 (by decide) (fun c2 => ?_) (fun c2 => ?_)
  · have hok := hok.1 c2
    refine lv_iconst (v := 0) hx hb dX1_rateNow_18 (by decide) ?_
    exact wx_reti kst_C S hx hb hr hlk hK hP hD hS dX1_rateNow_19 ⟨(by unfold p_X1_rateNow; rw [if_pos c2]), rfl⟩
  · have hok := hok.2 c2
    refine lv_aload_n hx hb dX1_rateNow_9 rfl (lv_at hl 0 rfl) ?_
    refine wc_get hC hin1 hK hP 0 (by decide) rfl (by decide +kernel) (dget_0 _ _ _ _) dX1_rateNow_10 ?_
    refine lv_iload_n hx hb dX1_rateNow_13 rfl (lv_at hl 1 rfl) ?_
    obtain ⟨b3, hok⟩ := hok
    refine wc_ald0 hC hK hP b3 dX1_rateNow_14 ?_
    refine lv_goto (tgt := 19) hx hb dX1_rateNow_15 (by decide) ?_
    exact wx_reti kst_C S hx hb hr hlk hK hP hD hS dX1_rateNow_19 ⟨(by unfold p_X1_rateNow; rw [if_neg c2]), rfl⟩
def p_X1_ruleNow (S : CS) (a1 : Int32) : Option Nat := if (p_X1_isPlace a1) = 0 then none else (qP S a1.toNatClampNeg)
def ok_X1_ruleNow (S : CS) (a1 : Int32) : Prop := ((p_X1_isPlace a1) = 0 → True) ∧ (¬ (p_X1_isPlace a1) = 0 → ((vp_in a1 16) ∧ (True)))
set_option maxHeartbeats 4000000 in
set_option maxRecDepth 100000 in
theorem c_X1_ruleNow (l : Launch) (D : va_G) (x A0 A1 A2 : Nat) (cI cR cII : ClassId) (S : CS) (a1 : Int32) (hok : ok_X1_ruleNow S a1) : MetQ l yX1_ruleNow wsX1_ruleNow ({ frames := 2, cells := 0, slots := 0, locals := 41 } : Room) D (cKK D cI cR cII) (cW x A0 A1 A2 cI cR cII) S [.ref x, .int a1] (fun r u => r = p_X1_ruleNow S a1 ∧ u = S) 0 0 := by
  unfold ok_X1_ruleNow at hok
  refine MetQ.of (cc := cX1_ruleNow) (maxL := 2) (by decide) rfl (Nat.le_of_ble_eq_true rfl) ?_
  intro p e s m below meth c A ls hC hr hlk hnm hK hP hD hA hl
  obtain ⟨hx, hb, hml, hown, hts⟩ := id hC
  have hS : va_S A s.heap s.heap [] := va_S.rf
  have hin1 : ∀ w ∈ wsX10, w ∈ wsX1_ruleNow := fun _ h => List.mem_cons_of_mem _ (List.mem_append_right _ h)
  have hl : lv_has ls 2 [(0, .ref x), (1, .int a1)] := hl
  refine lv_iload_n hx hb dX1_ruleNow_0 rfl (lv_at hl 1 rfl) ?_
  refine wx_callS (As := [.int a1]) (rest := []) hC (c_X1_isPlace l a1) (va_cwS 1 hts gX1_ruleNow_X1_isPlace rfl rfl rfl (by decide +kernel) ⟨Nat.le_of_ble_eq_true rfl, Nat.le_of_ble_eq_true rfl⟩) rfl hl.1 rfl (Nat.le_of_ble_eq_true rfl) dX1_ruleNow_1 ⟨Nat.le_of_ble_eq_true rfl, Nat.le_of_ble_eq_true rfl⟩ (fun r1 hw => ?_)
  obtain rfl : r1 = p_X1_isPlace a1 := hw
  refine lv_if_eq (tgt := 16) hx hb dX1_ruleNow_4 (by decide) (fun c2 => ?_) (fun c2 => ?_)
  · have hok := hok.1 c2
    refine lv_null hx hb dX1_ruleNow_16 ?_
    exact wx_retq (v := none) kst_C S hx hb hr hlk hK hP hD hS dX1_ruleNow_17 ⟨(by unfold p_X1_ruleNow; rw [if_pos c2]), rfl⟩
  · have hok := hok.2 c2
    refine lv_aload_n hx hb dX1_ruleNow_7 rfl (lv_at hl 0 rfl) ?_
    refine wc_get hC hin1 hK hP 2 (by decide) rfl (by decide +kernel) (dget_2 _ _ _ _) dX1_ruleNow_8 ?_
    refine lv_iload_n hx hb dX1_ruleNow_11 rfl (lv_at hl 1 rfl) ?_
    obtain ⟨b3, hok⟩ := hok
    refine wc_aldP hC hK hP b3 dX1_ruleNow_12 ?_
    refine lv_goto (tgt := 17) hx hb dX1_ruleNow_13 (by decide) ?_
    exact wx_retq (v := qP S a1.toNatClampNeg) kst_C S hx hb hr hlk hK hP hD hS dX1_ruleNow_17 ⟨(by unfold p_X1_ruleNow; rw [if_neg c2]), rfl⟩
def p_X1_answerBooked (S : CS) (a1 : Nat) (a2 : Int32) : Int64 × CS := if (qRO S 2 a1) = none then ((p_X1_fail S (-4)).1, (p_X1_fail S (-4)).2) else (if (p_X1_isBelow a2 (nI (qWL S ((qRO S 2 a1).getD 0)))) = 0 then ((p_X1_fail S (-4)).1, (p_X1_fail S (-4)).2) else ((qWA S ((qRO S 2 a1).getD 0) a2.toNatClampNeg).toInt64, S))
def ok_X1_answerBooked (S : CS) (a1 : Nat) (a2 : Int32) : Prop := (a1 ∈ qL S ∧ qK S a1 = true) ∧ (((qRO S 2 a1) = none → ((ok_X1_fail S (-4)) ∧ (True))) ∧ (¬ (qRO S 2 a1) = none → ((a1 ∈ qL S ∧ qK S a1 = true) ∧ (((qRO S 2 a1).getD 0 ∈ qL S ∧ qK S ((qRO S 2 a1).getD 0) = false) ∧ (((p_X1_isBelow a2 (nI (qWL S ((qRO S 2 a1).getD 0)))) = 0 → ((ok_X1_fail S (-4)) ∧ (True))) ∧ (¬ (p_X1_isBelow a2 (nI (qWL S ((qRO S 2 a1).getD 0)))) = 0 → ((a1 ∈ qL S ∧ qK S a1 = true) ∧ (((qRO S 2 a1).getD 0 ∈ qL S ∧ qK S ((qRO S 2 a1).getD 0) = false) ∧ ((vp_in a2 (qWL S ((qRO S 2 a1).getD 0))) ∧ (True))))))))))
set_option maxHeartbeats 4000000 in
set_option maxRecDepth 100000 in
theorem c_X1_answerBooked (l : Launch) (D : va_G) (x A0 A1 A2 : Nat) (cI cR cII : ClassId) (S : CS) (a1 : Nat) (a2 : Int32) (hok : ok_X1_answerBooked S a1 a2) : MetJ l yX1_answerBooked wsX1_answerBooked ({ frames := 1, cells := 0, slots := 0, locals := 21 } : Room) D (cKK D cI cR cII) (cW x A0 A1 A2 cI cR cII) S [.ref x, .ref a1, .int a2] (fun r u => (r, u) = p_X1_answerBooked S a1 a2) 0 0 := by
  unfold ok_X1_answerBooked at hok
  refine MetJ.of (cc := cX1_answerBooked) (maxL := 3) (by decide) rfl (Nat.le_of_ble_eq_true rfl) ?_
  intro p e s m below meth c A ls hC hr hlk hnm hK hP hD hA hl
  obtain ⟨hx, hb, hml, hown, hts⟩ := id hC
  have hS : va_S A s.heap s.heap [] := va_S.rf
  have hin0 : ∀ w ∈ wsX00, w ∈ wsX1_answerBooked := fun _ h => List.mem_cons_of_mem _ (List.mem_append_left _ (List.mem_append_right _ h))
  have hin1 : ∀ w ∈ wsX10, w ∈ wsX1_answerBooked := fun _ h => List.mem_cons_of_mem _ (List.mem_append_right _ h)
  have hl : lv_has ls 3 [(0, .ref x), (1, .ref a1), (2, .int a2)] := hl
  refine lv_aload_n hx hb dX1_answerBooked_0 rfl (lv_at hl 1 rfl) ?_
  obtain ⟨b1, hok⟩ := hok
  refine wc_getR hC hin0 hK hP b1.1 b1.2 2 (by decide) rfl (by decide +kernel) (rget_2 _ _) dX1_answerBooked_1 ?_
  refine lv_qifnull (tgt := 19) hx hb dX1_answerBooked_4 (by decide) (fun c2 => ?_) (fun c2 => ?_)
  · have hok := hok.1 c2
    refine lv_aload_n hx hb dX1_answerBooked_19 rfl (lv_at hl 0 rfl) ?_
    refine lv_bipush (v := (-4)) hx hb dX1_answerBooked_20 (by decide) ?_
    obtain ⟨o3, hok⟩ := hok
    refine wx_callVj (As := [.int (-4)]) (rest := []) kst_C hC (c_X1_fail l D x A0 A1 A2 cI cR cII S (-4) o3) (cwV 1 hts gX1_answerBooked_X1_fail rfl rfl rfl (by decide +kernel) ⟨Nat.le_of_ble_eq_true rfl, Nat.le_of_ble_eq_true rfl⟩) hK hP hD hS hA (wc_cell hK hP) rfl hl.1 rfl (Nat.le_of_ble_eq_true rfl) dX1_answerBooked_22 ⟨Nat.le_of_ble_eq_true rfl, Nat.le_of_ble_eq_true rfl⟩ (fun r3 u3 H locs hw hP hD hS => ?_)
    obtain rfl : r3 = (p_X1_fail S (-4)).1 := congrArg Prod.fst hw
    obtain rfl : u3 = (p_X1_fail S (-4)).2 := congrArg Prod.snd hw
    exact wx_retj kst_C ((p_X1_fail S (-4)).2) hx hb hr hlk hK hP hD hS dX1_answerBooked_25 (by unfold p_X1_answerBooked; rw [if_pos c2])
  · have hok := hok.2 c2
    refine lv_iload_n hx hb dX1_answerBooked_7 rfl (lv_at hl 2 rfl) ?_
    refine lv_aload_n hx hb dX1_answerBooked_8 rfl (lv_at hl 1 rfl) ?_
    obtain ⟨b4, hok⟩ := hok
    refine wc_getR hC hin0 hK hP b4.1 b4.2 2 (by decide) rfl (by decide +kernel) (rget_2 _ _) dX1_answerBooked_9 ?_
    refine lv_qsome c2 ?_
    obtain ⟨b5, hok⟩ := hok
    refine wc_rlen hC hK hP b5.1 b5.2 dX1_answerBooked_12 ?_
    refine wx_callS (As := [.int a2, .int (nI (qWL S ((qRO S 2 a1).getD 0)))]) (rest := []) hC (c_X1_isBelow l a2 (nI (qWL S ((qRO S 2 a1).getD 0)))) (va_cwS 2 hts gX1_answerBooked_X1_isBelow rfl rfl rfl (by decide +kernel) ⟨Nat.le_of_ble_eq_true rfl, Nat.le_of_ble_eq_true rfl⟩) rfl hl.1 rfl (Nat.le_of_ble_eq_true rfl) dX1_answerBooked_13 ⟨Nat.le_of_ble_eq_true rfl, Nat.le_of_ble_eq_true rfl⟩ (fun r6 hw => ?_)
    obtain rfl : r6 = p_X1_isBelow a2 (nI (qWL S ((qRO S 2 a1).getD 0))) := hw
    refine lv_if_ne (tgt := 26) hx hb dX1_answerBooked_16 (by decide) (fun c7 => ?_) (fun c7 => ?_)
    · have hok := hok.2 c7
      refine lv_aload_n hx hb dX1_answerBooked_26 rfl (lv_at hl 1 rfl) ?_
      obtain ⟨b8, hok⟩ := hok
      refine wc_getR hC hin0 hK hP b8.1 b8.2 2 (by decide) rfl (by decide +kernel) (rget_2 _ _) dX1_answerBooked_27 ?_
      refine lv_qsome c2 ?_
      refine lv_iload_n hx hb dX1_answerBooked_30 rfl (lv_at hl 2 rfl) ?_
      obtain ⟨b9, hok⟩ := hok
      obtain ⟨b10, hok⟩ := hok
      refine wc_rald hC hK hP b9.1 b9.2 b10 dX1_answerBooked_31 ?_
      refine lv_i2l (v := (qWA S ((qRO S 2 a1).getD 0) a2.toNatClampNeg).toInt64) hx hb dX1_answerBooked_32 rfl ?_
      exact wx_retj kst_C S hx hb hr hlk hK hP hD hS dX1_answerBooked_33 (by unfold p_X1_answerBooked; rw [if_neg c2, if_neg c7])
    · have hok := hok.1 c7
      refine lv_aload_n hx hb dX1_answerBooked_19 rfl (lv_at hl 0 rfl) ?_
      refine lv_bipush (v := (-4)) hx hb dX1_answerBooked_20 (by decide) ?_
      obtain ⟨o11, hok⟩ := hok
      refine wx_callVj (As := [.int (-4)]) (rest := []) kst_C hC (c_X1_fail l D x A0 A1 A2 cI cR cII S (-4) o11) (cwV 1 hts gX1_answerBooked_X1_fail rfl rfl rfl (by decide +kernel) ⟨Nat.le_of_ble_eq_true rfl, Nat.le_of_ble_eq_true rfl⟩) hK hP hD hS hA (wc_cell hK hP) rfl hl.1 rfl (Nat.le_of_ble_eq_true rfl) dX1_answerBooked_22 ⟨Nat.le_of_ble_eq_true rfl, Nat.le_of_ble_eq_true rfl⟩ (fun r11 u11 H locs hw hP hD hS => ?_)
      obtain rfl : r11 = (p_X1_fail S (-4)).1 := congrArg Prod.fst hw
      obtain rfl : u11 = (p_X1_fail S (-4)).2 := congrArg Prod.snd hw
      exact wx_retj kst_C ((p_X1_fail S (-4)).2) hx hb hr hlk hK hP hD hS dX1_answerBooked_25 (by unfold p_X1_answerBooked; rw [if_neg c2, if_pos c7])
def p_X1_combine (S : CS) (a1 : Int32) (a2 : Int64) (a3 : Int64) : Int64 × CS := if a1 = 0 then (a2 + a3, S) else (if a1 = 1 then (a2 - a3, S) else (if a1 = 2 then (a2 * a3, S) else (if a1 = 3 then (if (lg_cmp a3 0) = 0 then ((p_X1_fail S (-3)).1, (p_X1_fail S (-3)).2) else (a2 / a3, S)) else (if a1 = 4 then (if (lg_cmp a3 0) = 0 then ((p_X1_fail S (-3)).1, (p_X1_fail S (-3)).2) else (a2 - a2 / a3 * a3, S)) else (if a1 = 5 then (if a3 < a2 then a3 else a2, S) else (if a3 < a2 then a3 else a2, S))))))
def ok_X1_combine (S : CS) (a1 : Int32) (a2 : Int64) (a3 : Int64) : Prop := (a1 = 0 → True) ∧ (¬ a1 = 0 → ((a1 = 1 → True) ∧ (¬ a1 = 1 → ((a1 = 2 → True) ∧ (¬ a1 = 2 → ((a1 = 3 → (((lg_cmp a3 0) = 0 → ((ok_X1_fail S (-3)) ∧ (True))) ∧ (¬ (lg_cmp a3 0) = 0 → ((¬ a3 = 0) ∧ (True))))) ∧ (¬ a1 = 3 → ((a1 = 4 → (((lg_cmp a3 0) = 0 → ((ok_X1_fail S (-3)) ∧ (True))) ∧ (¬ (lg_cmp a3 0) = 0 → ((¬ a3 = 0) ∧ (True))))) ∧ (¬ a1 = 4 → ((a1 = 5 → True) ∧ (¬ a1 = 5 → True)))))))))))
set_option maxHeartbeats 4000000 in
set_option maxRecDepth 100000 in
theorem c_X1_combine (l : Launch) (D : va_G) (x A0 A1 A2 : Nat) (cI cR cII : ClassId) (S : CS) (a1 : Int32) (a2 : Int64) (a3 : Int64) (hok : ok_X1_combine S a1 a2 a3) : MetJ l yX1_combine wsX1_combine ({ frames := 1, cells := 0, slots := 0, locals := 40 } : Room) D (cKK D cI cR cII) (cW x A0 A1 A2 cI cR cII) S [.ref x, .int a1, .long a2, .long a3] (fun r u => (r, u) = p_X1_combine S a1 a2 a3) 0 0 := by
  unfold ok_X1_combine at hok
  refine MetJ.of (cc := cX1_combine) (maxL := 6) (by decide) rfl (Nat.le_of_ble_eq_true rfl) ?_
  intro p e s m below meth c A ls hC hr hlk hnm hK hP hD hA hl
  obtain ⟨hx, hb, hml, hown, hts⟩ := id hC
  have hS : va_S A s.heap s.heap [] := va_S.rf
  have hin1 : ∀ w ∈ wsX10, w ∈ wsX1_combine := fun _ h => List.mem_cons_of_mem _ (List.mem_append_right _ h)
  have hl : lv_has ls 6 [(0, .ref x), (1, .int a1), (2, .long a2), (4, .long a3)] := hl
  refine lv_iload_n hx hb dX1_combine_0 rfl (lv_at hl 1 rfl) ?_
  by_cases c1 : a1 = 0
  · have hok := hok.1 c1
    refine lv_tableIn (tgt := 40) hx hb dX1_combine_1 (by rw [c1]; decide) (by rw [c1]; decide) (by rw [c1]; rfl) (by decide) ?_
    refine lv_lload_n hx hb dX1_combine_40 rfl (lv_at hl 2 rfl) ?_
    refine lv_lload hx hb dX1_combine_41 (lv_at hl 3 rfl) ?_
    refine lv_ladd hx hb dX1_combine_43 ?_
    exact wx_retj kst_C S hx hb hr hlk hK hP hD hS dX1_combine_44 (by unfold p_X1_combine; rw [if_pos c1])
  have hok := hok.2 c1
  by_cases c2 : a1 = 1
  · have hok := hok.1 c2
    refine lv_tableIn (tgt := 45) hx hb dX1_combine_1 (by rw [c2]; decide) (by rw [c2]; decide) (by rw [c2]; rfl) (by decide) ?_
    refine lv_lload_n hx hb dX1_combine_45 rfl (lv_at hl 2 rfl) ?_
    refine lv_lload hx hb dX1_combine_46 (lv_at hl 3 rfl) ?_
    refine lv_lsub hx hb dX1_combine_48 ?_
    exact wx_retj kst_C S hx hb hr hlk hK hP hD hS dX1_combine_49 (by unfold p_X1_combine; rw [if_neg c1, if_pos c2])
  have hok := hok.2 c2
  by_cases c3 : a1 = 2
  · have hok := hok.1 c3
    refine lv_tableIn (tgt := 50) hx hb dX1_combine_1 (by rw [c3]; decide) (by rw [c3]; decide) (by rw [c3]; rfl) (by decide) ?_
    refine lv_lload_n hx hb dX1_combine_50 rfl (lv_at hl 2 rfl) ?_
    refine lv_lload hx hb dX1_combine_51 (lv_at hl 3 rfl) ?_
    refine lv_lmul hx hb dX1_combine_53 ?_
    exact wx_retj kst_C S hx hb hr hlk hK hP hD hS dX1_combine_54 (by unfold p_X1_combine; rw [if_neg c1, if_neg c2, if_pos c3])
  have hok := hok.2 c3
  by_cases c4 : a1 = 3
  · have hok := hok.1 c4
    refine lv_tableIn (tgt := 55) hx hb dX1_combine_1 (by rw [c4]; decide) (by rw [c4]; decide) (by rw [c4]; rfl) (by decide) ?_
    refine lv_lload hx hb dX1_combine_55 (lv_at hl 3 rfl) ?_
    refine lv_lconst (v := 0) hx hb dX1_combine_57 (by decide) ?_
    refine W.lcmp hx hb dX1_combine_58 ?_
    refine lv_if_ne (tgt := 71) hx hb dX1_combine_59 (by decide) (fun c5 => ?_) (fun c5 => ?_)
    · have hok := hok.2 c5
      refine lv_lload_n hx hb dX1_combine_71 rfl (lv_at hl 2 rfl) ?_
      refine lv_lload hx hb dX1_combine_72 (lv_at hl 3 rfl) ?_
      obtain ⟨b6, hok⟩ := hok
      refine lv_ldiv hx hb dX1_combine_74 b6 ?_
      exact wx_retj kst_C S hx hb hr hlk hK hP hD hS dX1_combine_75 (by unfold p_X1_combine; rw [if_neg c1, if_neg c2, if_neg c3, if_pos c4, if_neg c5])
    · have hok := hok.1 c5
      refine lv_aload_n hx hb dX1_combine_62 rfl (lv_at hl 0 rfl) ?_
      refine lv_bipush (v := (-3)) hx hb dX1_combine_63 (by decide) ?_
      obtain ⟨o7, hok⟩ := hok
      refine wx_callVj (As := [.int (-3)]) (rest := []) kst_C hC (c_X1_fail l D x A0 A1 A2 cI cR cII S (-3) o7) (cwV 1 hts gX1_combine_X1_fail rfl rfl rfl (by decide +kernel) ⟨Nat.le_of_ble_eq_true rfl, Nat.le_of_ble_eq_true rfl⟩) hK hP hD hS hA (wc_cell hK hP) rfl hl.1 rfl (Nat.le_of_ble_eq_true rfl) dX1_combine_65 ⟨Nat.le_of_ble_eq_true rfl, Nat.le_of_ble_eq_true rfl⟩ (fun r7 u7 H locs hw hP hD hS => ?_)
      obtain rfl : r7 = (p_X1_fail S (-3)).1 := congrArg Prod.fst hw
      obtain rfl : u7 = (p_X1_fail S (-3)).2 := congrArg Prod.snd hw
      refine lv_goto (tgt := 75) hx hb dX1_combine_68 (by decide) ?_
      exact wx_retj kst_C ((p_X1_fail S (-3)).2) hx hb hr hlk hK hP hD hS dX1_combine_75 (by unfold p_X1_combine; rw [if_neg c1, if_neg c2, if_neg c3, if_pos c4, if_pos c5])
  have hok := hok.2 c4
  by_cases c8 : a1 = 4
  · have hok := hok.1 c8
    refine lv_tableIn (tgt := 76) hx hb dX1_combine_1 (by rw [c8]; decide) (by rw [c8]; decide) (by rw [c8]; rfl) (by decide) ?_
    refine lv_lload hx hb dX1_combine_76 (lv_at hl 3 rfl) ?_
    refine lv_lconst (v := 0) hx hb dX1_combine_78 (by decide) ?_
    refine W.lcmp hx hb dX1_combine_79 ?_
    refine lv_if_ne (tgt := 92) hx hb dX1_combine_80 (by decide) (fun c9 => ?_) (fun c9 => ?_)
    · have hok := hok.2 c9
      refine lv_lload_n hx hb dX1_combine_92 rfl (lv_at hl 2 rfl) ?_
      refine lv_lload hx hb dX1_combine_93 (lv_at hl 3 rfl) ?_
      obtain ⟨b10, hok⟩ := hok
      refine lv_lrem hx hb dX1_combine_95 b10 ?_
      exact wx_retj kst_C S hx hb hr hlk hK hP hD hS dX1_combine_96 (by unfold p_X1_combine; rw [if_neg c1, if_neg c2, if_neg c3, if_neg c4, if_pos c8, if_neg c9])
    · have hok := hok.1 c9
      refine lv_aload_n hx hb dX1_combine_83 rfl (lv_at hl 0 rfl) ?_
      refine lv_bipush (v := (-3)) hx hb dX1_combine_84 (by decide) ?_
      obtain ⟨o11, hok⟩ := hok
      refine wx_callVj (As := [.int (-3)]) (rest := []) kst_C hC (c_X1_fail l D x A0 A1 A2 cI cR cII S (-3) o11) (cwV 1 hts gX1_combine_X1_fail rfl rfl rfl (by decide +kernel) ⟨Nat.le_of_ble_eq_true rfl, Nat.le_of_ble_eq_true rfl⟩) hK hP hD hS hA (wc_cell hK hP) rfl hl.1 rfl (Nat.le_of_ble_eq_true rfl) dX1_combine_86 ⟨Nat.le_of_ble_eq_true rfl, Nat.le_of_ble_eq_true rfl⟩ (fun r11 u11 H locs hw hP hD hS => ?_)
      obtain rfl : r11 = (p_X1_fail S (-3)).1 := congrArg Prod.fst hw
      obtain rfl : u11 = (p_X1_fail S (-3)).2 := congrArg Prod.snd hw
      refine lv_goto (tgt := 96) hx hb dX1_combine_89 (by decide) ?_
      exact wx_retj kst_C ((p_X1_fail S (-3)).2) hx hb hr hlk hK hP hD hS dX1_combine_96 (by unfold p_X1_combine; rw [if_neg c1, if_neg c2, if_neg c3, if_neg c4, if_pos c8, if_pos c9])
  have hok := hok.2 c8
  by_cases c12 : a1 = 5
  · have hok := hok.1 c12
    refine lv_tableIn (tgt := 97) hx hb dX1_combine_1 (by rw [c12]; decide) (by rw [c12]; decide) (by rw [c12]; rfl) (by decide) ?_
    refine lv_lload_n hx hb dX1_combine_97 rfl (lv_at hl 2 rfl) ?_
    refine lv_lload hx hb dX1_combine_98 (lv_at hl 3 rfl) ?_
    refine va_mmin_long hx hb (hml.trans hl.1.symm) hown (hts (.methodLink RX1 127 Lib.MathLoose.min_long.x) (by decide +kernel)) (hts (.static Lib.MathLoose.min_long.x) (by decide +kernel)) (hts (.initialized "java/lang/Math") (by decide +kernel)) (hts (.code Lib.MathLoose.min_long.x Lib.MathLoose.min_long.code 4 (some .long)) (by decide +kernel)) (Nat.le_of_ble_eq_true rfl) (Nat.le_of_ble_eq_true rfl) (Nat.le_of_ble_eq_true rfl) (Nat.le_of_ble_eq_true rfl) dX1_combine_100 ?_
    exact wx_retj kst_C S hx hb hr hlk hK hP hD hS dX1_combine_103 (by unfold p_X1_combine; rw [if_neg c1, if_neg c2, if_neg c3, if_neg c4, if_neg c8, if_pos c12])
  have hok := hok.2 c12
  refine lv_tableOut (tgt := 97) hx hb dX1_combine_1 (sw_out (fun k h1 h2 => ?_)) (by decide) ?_
  · rcases (show k = 0 ∨ k = 1 ∨ k = 2 ∨ k = 3 ∨ k = 4 ∨ k = 5 by omega) with rfl | rfl | rfl | rfl | rfl | rfl
    · exact c1
    · exact c2
    · exact c3
    · exact c4
    · exact c8
    · exact c12
  refine lv_lload_n hx hb dX1_combine_97 rfl (lv_at hl 2 rfl) ?_
  refine lv_lload hx hb dX1_combine_98 (lv_at hl 3 rfl) ?_
  refine va_mmin_long hx hb (hml.trans hl.1.symm) hown (hts (.methodLink RX1 127 Lib.MathLoose.min_long.x) (by decide +kernel)) (hts (.static Lib.MathLoose.min_long.x) (by decide +kernel)) (hts (.initialized "java/lang/Math") (by decide +kernel)) (hts (.code Lib.MathLoose.min_long.x Lib.MathLoose.min_long.code 4 (some .long)) (by decide +kernel)) (Nat.le_of_ble_eq_true rfl) (Nat.le_of_ble_eq_true rfl) (Nat.le_of_ble_eq_true rfl) (Nat.le_of_ble_eq_true rfl) dX1_combine_100 ?_
  exact wx_retj kst_C S hx hb hr hlk hK hP hD hS dX1_combine_103 (by unfold p_X1_combine; rw [if_neg c1, if_neg c2, if_neg c3, if_neg c4, if_neg c8, if_neg c12])
def p_X1_answerJoined (fa : CS → Option Nat → Int32 → Int32 → Int32 → Int64 × CS) (S : CS) (a1 : Nat) (a2 : Int32) (a3 : Int32) (a4 : Int32) : Int64 × CS := if (qI ((fa S (qRO S 3 a1) a2 a3 a4).2) 6) = 0 then (if (qI ((fa ((fa S (qRO S 3 a1) a2 a3 a4).2) (qRO ((fa S (qRO S 3 a1) a2 a3 a4).2) 4 a1) a2 a3 a4).2) 6) = 0 then ((p_X1_combine ((fa ((fa S (qRO S 3 a1) a2 a3 a4).2) (qRO ((fa S (qRO S 3 a1) a2 a3 a4).2) 4 a1) a2 a3 a4).2) (qRI ((fa ((fa S (qRO S 3 a1) a2 a3 a4).2) (qRO ((fa S (qRO S 3 a1) a2 a3 a4).2) 4 a1) a2 a3 a4).2) 1 a1) ((fa S (qRO S 3 a1) a2 a3 a4).1) ((fa ((fa S (qRO S 3 a1) a2 a3 a4).2) (qRO ((fa S (qRO S 3 a1) a2 a3 a4).2) 4 a1) a2 a3 a4).1)).1, (p_X1_combine ((fa ((fa S (qRO S 3 a1) a2 a3 a4).2) (qRO ((fa S (qRO S 3 a1) a2 a3 a4).2) 4 a1) a2 a3 a4).2) (qRI ((fa ((fa S (qRO S 3 a1) a2 a3 a4).2) (qRO ((fa S (qRO S 3 a1) a2 a3 a4).2) 4 a1) a2 a3 a4).2) 1 a1) ((fa S (qRO S 3 a1) a2 a3 a4).1) ((fa ((fa S (qRO S 3 a1) a2 a3 a4).2) (qRO ((fa S (qRO S 3 a1) a2 a3 a4).2) 4 a1) a2 a3 a4).1)).2) else (0, (fa ((fa S (qRO S 3 a1) a2 a3 a4).2) (qRO ((fa S (qRO S 3 a1) a2 a3 a4).2) 4 a1) a2 a3 a4).2)) else (0, (fa S (qRO S 3 a1) a2 a3 a4).2)
def ok_X1_answerJoined (fa : CS → Option Nat → Int32 → Int32 → Int32 → Int64 × CS) (fo : CS → Option Nat → Int32 → Int32 → Int32 → Prop) (S : CS) (a1 : Nat) (a2 : Int32) (a3 : Int32) (a4 : Int32) : Prop := (a1 ∈ qL S ∧ qK S a1 = true) ∧ ((fo S (qRO S 3 a1) a2 a3 a4) ∧ (((qI ((fa S (qRO S 3 a1) a2 a3 a4).2) 6) = 0 → ((a1 ∈ qL ((fa S (qRO S 3 a1) a2 a3 a4).2) ∧ qK ((fa S (qRO S 3 a1) a2 a3 a4).2) a1 = true) ∧ ((fo ((fa S (qRO S 3 a1) a2 a3 a4).2) (qRO ((fa S (qRO S 3 a1) a2 a3 a4).2) 4 a1) a2 a3 a4) ∧ (((qI ((fa ((fa S (qRO S 3 a1) a2 a3 a4).2) (qRO ((fa S (qRO S 3 a1) a2 a3 a4).2) 4 a1) a2 a3 a4).2) 6) = 0 → ((a1 ∈ qL ((fa ((fa S (qRO S 3 a1) a2 a3 a4).2) (qRO ((fa S (qRO S 3 a1) a2 a3 a4).2) 4 a1) a2 a3 a4).2) ∧ qK ((fa ((fa S (qRO S 3 a1) a2 a3 a4).2) (qRO ((fa S (qRO S 3 a1) a2 a3 a4).2) 4 a1) a2 a3 a4).2) a1 = true) ∧ ((ok_X1_combine ((fa ((fa S (qRO S 3 a1) a2 a3 a4).2) (qRO ((fa S (qRO S 3 a1) a2 a3 a4).2) 4 a1) a2 a3 a4).2) (qRI ((fa ((fa S (qRO S 3 a1) a2 a3 a4).2) (qRO ((fa S (qRO S 3 a1) a2 a3 a4).2) 4 a1) a2 a3 a4).2) 1 a1) ((fa S (qRO S 3 a1) a2 a3 a4).1) ((fa ((fa S (qRO S 3 a1) a2 a3 a4).2) (qRO ((fa S (qRO S 3 a1) a2 a3 a4).2) 4 a1) a2 a3 a4).1)) ∧ (True)))) ∧ (¬ (qI ((fa ((fa S (qRO S 3 a1) a2 a3 a4).2) (qRO ((fa S (qRO S 3 a1) a2 a3 a4).2) 4 a1) a2 a3 a4).2) 6) = 0 → True))))) ∧ (¬ (qI ((fa S (qRO S 3 a1) a2 a3 a4).2) 6) = 0 → True)))
set_option maxHeartbeats 4000000 in
set_option maxRecDepth 100000 in
theorem c_X1_answerJoined (l : Launch) (D : va_G) (x A0 A1 A2 : Nat) (cI cR cII : ClassId) (fa : CS → Option Nat → Int32 → Int32 → Int32 → Int64 × CS) (fo : CS → Option Nat → Int32 → Int32 → Int32 → Prop) (fr lc : Nat) (hM : ∀ (S : CS) (a1 : Option Nat) (a2 a3 a4 : Int32), fo S a1 a2 a3 a4 → MetJ l yX1_answer wsX1_answer ({ frames := fr, cells := 0, slots := 0, locals := lc } : Room) D (cKK D cI cR cII) (cW x A0 A1 A2 cI cR cII) S [.ref x, va_rf a1, .int a2, .int a3, .int a4] (fun r u => (r, u) = fa S a1 a2 a3 a4) 0 0) (S : CS) (a1 : Nat) (a2 : Int32) (a3 : Int32) (a4 : Int32) (hok : ok_X1_answerJoined fa fo S a1 a2 a3 a4) : MetJ l yX1_answerJoined wsX1_answerJoined ({ frames := fr + 20, cells := 0, slots := 0, locals := lc + 400 } : Room) D (cKK D cI cR cII) (cW x A0 A1 A2 cI cR cII) S [.ref x, .ref a1, .int a2, .int a3, .int a4] (fun r u => (r, u) = p_X1_answerJoined fa S a1 a2 a3 a4) 0 0 := by
  unfold ok_X1_answerJoined at hok
  refine MetJ.of (cc := cX1_answerJoined) (maxL := 9) (by decide) rfl (Nat.le_of_ble_eq_true rfl) ?_
  intro p e s m below meth c A ls hC hr hlk hnm hK hP hD hA hl
  obtain ⟨hx, hb, hml, hown, hts⟩ := id hC
  have hS : va_S A s.heap s.heap [] := va_S.rf
  have hin0 : ∀ w ∈ wsX00, w ∈ wsX1_answerJoined := fun _ h => List.mem_cons_of_mem _ (List.mem_append_right _ h)
  have hin1 : ∀ w ∈ wsX10, w ∈ wsX1_answerJoined := fun _ h => List.mem_cons_of_mem _ (List.mem_append_left _ (List.mem_append_right _ h))
  have hl : lv_has ls 9 [(0, .ref x), (1, .ref a1), (2, .int a2), (3, .int a3), (4, .int a4)] := hl
  refine lv_aload_n hx hb dX1_answerJoined_0 rfl (lv_at hl 0 rfl) ?_
  refine lv_aload_n hx hb dX1_answerJoined_1 rfl (lv_at hl 1 rfl) ?_
  obtain ⟨b1, hok⟩ := hok
  refine wc_getR hC hin0 hK hP b1.1 b1.2 3 (by decide) rfl (by decide +kernel) (rget_3 _ _) dX1_answerJoined_2 ?_
  refine lv_iload_n hx hb dX1_answerJoined_5 rfl (lv_at hl 2 rfl) ?_
  refine lv_iload_n hx hb dX1_answerJoined_6 rfl (lv_at hl 3 rfl) ?_
  refine lv_iload hx hb dX1_answerJoined_7 (lv_at hl 4 rfl) ?_
  obtain ⟨o2, hok⟩ := hok
  refine wx_callVj (As := [va_rf (qRO S 3 a1), .int a2, .int a3, .int a4]) (rest := []) kst_C hC (hM S (qRO S 3 a1) a2 a3 a4 o2) (cwV 4 hts gX1_answerJoined_X1_answer rfl rfl rfl (by decide +kernel) ⟨by show fr + 1 ≤ fr + 20; omega, by show 8 + (5 + 11) + (lc) ≤ lc + 400; omega⟩) hK hP hD hS hA (wc_cell hK hP) rfl hl.1 rfl (Nat.le_of_ble_eq_true rfl) dX1_answerJoined_9 ⟨Nat.le_of_ble_eq_true rfl, Nat.le_of_ble_eq_true rfl⟩ (fun r2 u2 H locs hw hP hD hS => ?_)
  obtain rfl : r2 = (fa S (qRO S 3 a1) a2 a3 a4).1 := congrArg Prod.fst hw
  obtain rfl : u2 = (fa S (qRO S 3 a1) a2 a3 a4).2 := congrArg Prod.snd hw
  refine lv_lstore (lv' := [(5, .long ((fa S (qRO S 3 a1) a2 a3 a4).1)), (0, .ref x), (1, .ref a1), (2, .int a2), (3, .int a3), (4, .int a4)]) hx hb dX1_answerJoined_12 hl (by decide) rfl (fun ls hl => ?_)
  refine lv_aload_n hx hb dX1_answerJoined_14 rfl (lv_at hl 1 rfl) ?_
  refine wc_get hC hin1 hK hP 6 (by decide) rfl (by decide +kernel) (dget_6 _ _ _ _) dX1_answerJoined_15 ?_
  refine lv_if_eq (tgt := 23) hx hb dX1_answerJoined_18 (by decide) (fun c3 => ?_) (fun c3 => ?_)
  · have hok := hok.1 c3
    refine lv_aload_n hx hb dX1_answerJoined_23 rfl (lv_at hl 1 rfl) ?_
    refine lv_aload_n hx hb dX1_answerJoined_24 rfl (lv_at hl 2 rfl) ?_
    obtain ⟨b4, hok⟩ := hok
    refine wc_getR hC hin0 hK hP b4.1 b4.2 4 (by decide) rfl (by decide +kernel) (rget_4 _ _) dX1_answerJoined_25 ?_
    refine lv_iload_n hx hb dX1_answerJoined_28 rfl (lv_at hl 3 rfl) ?_
    refine lv_iload_n hx hb dX1_answerJoined_29 rfl (lv_at hl 4 rfl) ?_
    refine lv_iload hx hb dX1_answerJoined_30 (lv_at hl 5 rfl) ?_
    obtain ⟨o5, hok⟩ := hok
    refine wx_callVj (As := [va_rf (qRO ((fa S (qRO S 3 a1) a2 a3 a4).2) 4 a1), .int a2, .int a3, .int a4]) (rest := []) kst_C hC (hM ((fa S (qRO S 3 a1) a2 a3 a4).2) (qRO ((fa S (qRO S 3 a1) a2 a3 a4).2) 4 a1) a2 a3 a4 o5) (cwV 4 hts gX1_answerJoined_X1_answer rfl rfl rfl (by decide +kernel) ⟨by show fr + 1 ≤ fr + 20; omega, by show 8 + (5 + 11) + (lc) ≤ lc + 400; omega⟩) hK hP hD hS hA (wc_cell hK hP) rfl hl.1 rfl (Nat.le_of_ble_eq_true rfl) dX1_answerJoined_32 ⟨Nat.le_of_ble_eq_true rfl, Nat.le_of_ble_eq_true rfl⟩ (fun r5 u5 H locs hw hP hD hS => ?_)
    obtain rfl : r5 = (fa ((fa S (qRO S 3 a1) a2 a3 a4).2) (qRO ((fa S (qRO S 3 a1) a2 a3 a4).2) 4 a1) a2 a3 a4).1 := congrArg Prod.fst hw
    obtain rfl : u5 = (fa ((fa S (qRO S 3 a1) a2 a3 a4).2) (qRO ((fa S (qRO S 3 a1) a2 a3 a4).2) 4 a1) a2 a3 a4).2 := congrArg Prod.snd hw
    refine lv_lstore (lv' := [(7, .long ((fa ((fa S (qRO S 3 a1) a2 a3 a4).2) (qRO ((fa S (qRO S 3 a1) a2 a3 a4).2) 4 a1) a2 a3 a4).1)), (5, .long ((fa S (qRO S 3 a1) a2 a3 a4).1)), (0, .ref x), (1, .ref a1), (2, .int a2), (3, .int a3), (4, .int a4)]) hx hb dX1_answerJoined_35 hl (by decide) rfl (fun ls hl => ?_)
    refine lv_aload_n hx hb dX1_answerJoined_37 rfl (lv_at hl 2 rfl) ?_
    refine wc_get hC hin1 hK hP 6 (by decide) rfl (by decide +kernel) (dget_6 _ _ _ _) dX1_answerJoined_38 ?_
    refine lv_if_eq (tgt := 46) hx hb dX1_answerJoined_41 (by decide) (fun c6 => ?_) (fun c6 => ?_)
    · have hok := hok.1 c6
      refine lv_aload_n hx hb dX1_answerJoined_46 rfl (lv_at hl 2 rfl) ?_
      refine lv_aload_n hx hb dX1_answerJoined_47 rfl (lv_at hl 3 rfl) ?_
      obtain ⟨b7, hok⟩ := hok
      refine wc_getR hC hin0 hK hP b7.1 b7.2 1 (by decide) rfl (by decide +kernel) (rget_1 _ _) dX1_answerJoined_48 ?_
      refine lv_lload hx hb dX1_answerJoined_51 (lv_at hl 1 rfl) ?_
      refine lv_lload hx hb dX1_answerJoined_53 (lv_at hl 0 rfl) ?_
      obtain ⟨o8, hok⟩ := hok
      refine wx_callVj (As := [.int (qRI ((fa ((fa S (qRO S 3 a1) a2 a3 a4).2) (qRO ((fa S (qRO S 3 a1) a2 a3 a4).2) 4 a1) a2 a3 a4).2) 1 a1), .long ((fa S (qRO S 3 a1) a2 a3 a4).1), .long ((fa ((fa S (qRO S 3 a1) a2 a3 a4).2) (qRO ((fa S (qRO S 3 a1) a2 a3 a4).2) 4 a1) a2 a3 a4).1)]) (rest := []) kst_C hC (c_X1_combine l D x A0 A1 A2 cI cR cII ((fa ((fa S (qRO S 3 a1) a2 a3 a4).2) (qRO ((fa S (qRO S 3 a1) a2 a3 a4).2) 4 a1) a2 a3 a4).2) (qRI ((fa ((fa S (qRO S 3 a1) a2 a3 a4).2) (qRO ((fa S (qRO S 3 a1) a2 a3 a4).2) 4 a1) a2 a3 a4).2) 1 a1) ((fa S (qRO S 3 a1) a2 a3 a4).1) ((fa ((fa S (qRO S 3 a1) a2 a3 a4).2) (qRO ((fa S (qRO S 3 a1) a2 a3 a4).2) 4 a1) a2 a3 a4).1) o8) (cwV 3 hts gX1_answerJoined_X1_combine rfl rfl rfl (by decide +kernel) ⟨by show 1 + 1 ≤ fr + 20; omega, by show 8 + (6 + 11) + (40) ≤ lc + 400; omega⟩) hK hP hD hS hA (wc_cell hK hP) rfl hl.1 rfl (Nat.le_of_ble_eq_true rfl) dX1_answerJoined_55 ⟨Nat.le_of_ble_eq_true rfl, Nat.le_of_ble_eq_true rfl⟩ (fun r8 u8 H locs hw hP hD hS => ?_)
      obtain rfl : r8 = (p_X1_combine ((fa ((fa S (qRO S 3 a1) a2 a3 a4).2) (qRO ((fa S (qRO S 3 a1) a2 a3 a4).2) 4 a1) a2 a3 a4).2) (qRI ((fa ((fa S (qRO S 3 a1) a2 a3 a4).2) (qRO ((fa S (qRO S 3 a1) a2 a3 a4).2) 4 a1) a2 a3 a4).2) 1 a1) ((fa S (qRO S 3 a1) a2 a3 a4).1) ((fa ((fa S (qRO S 3 a1) a2 a3 a4).2) (qRO ((fa S (qRO S 3 a1) a2 a3 a4).2) 4 a1) a2 a3 a4).1)).1 := congrArg Prod.fst hw
      obtain rfl : u8 = (p_X1_combine ((fa ((fa S (qRO S 3 a1) a2 a3 a4).2) (qRO ((fa S (qRO S 3 a1) a2 a3 a4).2) 4 a1) a2 a3 a4).2) (qRI ((fa ((fa S (qRO S 3 a1) a2 a3 a4).2) (qRO ((fa S (qRO S 3 a1) a2 a3 a4).2) 4 a1) a2 a3 a4).2) 1 a1) ((fa S (qRO S 3 a1) a2 a3 a4).1) ((fa ((fa S (qRO S 3 a1) a2 a3 a4).2) (qRO ((fa S (qRO S 3 a1) a2 a3 a4).2) 4 a1) a2 a3 a4).1)).2 := congrArg Prod.snd hw
      exact wx_retj kst_C ((p_X1_combine ((fa ((fa S (qRO S 3 a1) a2 a3 a4).2) (qRO ((fa S (qRO S 3 a1) a2 a3 a4).2) 4 a1) a2 a3 a4).2) (qRI ((fa ((fa S (qRO S 3 a1) a2 a3 a4).2) (qRO ((fa S (qRO S 3 a1) a2 a3 a4).2) 4 a1) a2 a3 a4).2) 1 a1) ((fa S (qRO S 3 a1) a2 a3 a4).1) ((fa ((fa S (qRO S 3 a1) a2 a3 a4).2) (qRO ((fa S (qRO S 3 a1) a2 a3 a4).2) 4 a1) a2 a3 a4).1)).2) hx hb hr hlk hK hP hD hS dX1_answerJoined_58 (by unfold p_X1_answerJoined; rw [if_pos c3, if_pos c6])
    · have hok := hok.2 c6
      refine lv_lconst (v := 0) hx hb dX1_answerJoined_44 (by decide) ?_
      exact wx_retj kst_C ((fa ((fa S (qRO S 3 a1) a2 a3 a4).2) (qRO ((fa S (qRO S 3 a1) a2 a3 a4).2) 4 a1) a2 a3 a4).2) hx hb hr hlk hK hP hD hS dX1_answerJoined_45 (by unfold p_X1_answerJoined; rw [if_pos c3, if_neg c6])
  · have hok := hok.2 c3
    refine lv_lconst (v := 0) hx hb dX1_answerJoined_21 (by decide) ?_
    exact wx_retj kst_C ((fa S (qRO S 3 a1) a2 a3 a4).2) hx hb hr hlk hK hP hD hS dX1_answerJoined_22 (by unfold p_X1_answerJoined; rw [if_neg c3])
def p_X1_answerWhen (fa : CS → Option Nat → Int32 → Int32 → Int32 → Int64 × CS) (S : CS) (a1 : Nat) (a2 : Int32) (a3 : Int32) (a4 : Int32) : Int64 × CS := if (qI ((fa S (qRO S 3 a1) a2 a3 a4).2) 6) = 0 then (if (lg_cmp ((fa S (qRO S 3 a1) a2 a3 a4).1) 0) ≤ 0 then ((fa ((fa S (qRO S 3 a1) a2 a3 a4).2) (qRO ((fa S (qRO S 3 a1) a2 a3 a4).2) 5 a1) a2 a3 a4).1, (fa ((fa S (qRO S 3 a1) a2 a3 a4).2) (qRO ((fa S (qRO S 3 a1) a2 a3 a4).2) 5 a1) a2 a3 a4).2) else ((fa ((fa S (qRO S 3 a1) a2 a3 a4).2) (qRO ((fa S (qRO S 3 a1) a2 a3 a4).2) 4 a1) a2 a3 a4).1, (fa ((fa S (qRO S 3 a1) a2 a3 a4).2) (qRO ((fa S (qRO S 3 a1) a2 a3 a4).2) 4 a1) a2 a3 a4).2)) else (0, (fa S (qRO S 3 a1) a2 a3 a4).2)
def ok_X1_answerWhen (fa : CS → Option Nat → Int32 → Int32 → Int32 → Int64 × CS) (fo : CS → Option Nat → Int32 → Int32 → Int32 → Prop) (S : CS) (a1 : Nat) (a2 : Int32) (a3 : Int32) (a4 : Int32) : Prop := (a1 ∈ qL S ∧ qK S a1 = true) ∧ ((fo S (qRO S 3 a1) a2 a3 a4) ∧ (((qI ((fa S (qRO S 3 a1) a2 a3 a4).2) 6) = 0 → (((lg_cmp ((fa S (qRO S 3 a1) a2 a3 a4).1) 0) ≤ 0 → ((a1 ∈ qL ((fa S (qRO S 3 a1) a2 a3 a4).2) ∧ qK ((fa S (qRO S 3 a1) a2 a3 a4).2) a1 = true) ∧ ((fo ((fa S (qRO S 3 a1) a2 a3 a4).2) (qRO ((fa S (qRO S 3 a1) a2 a3 a4).2) 5 a1) a2 a3 a4) ∧ (True)))) ∧ (¬ (lg_cmp ((fa S (qRO S 3 a1) a2 a3 a4).1) 0) ≤ 0 → ((a1 ∈ qL ((fa S (qRO S 3 a1) a2 a3 a4).2) ∧ qK ((fa S (qRO S 3 a1) a2 a3 a4).2) a1 = true) ∧ ((fo ((fa S (qRO S 3 a1) a2 a3 a4).2) (qRO ((fa S (qRO S 3 a1) a2 a3 a4).2) 4 a1) a2 a3 a4) ∧ (True)))))) ∧ (¬ (qI ((fa S (qRO S 3 a1) a2 a3 a4).2) 6) = 0 → True)))
set_option maxHeartbeats 4000000 in
set_option maxRecDepth 100000 in
theorem c_X1_answerWhen (l : Launch) (D : va_G) (x A0 A1 A2 : Nat) (cI cR cII : ClassId) (fa : CS → Option Nat → Int32 → Int32 → Int32 → Int64 × CS) (fo : CS → Option Nat → Int32 → Int32 → Int32 → Prop) (fr lc : Nat) (hM : ∀ (S : CS) (a1 : Option Nat) (a2 a3 a4 : Int32), fo S a1 a2 a3 a4 → MetJ l yX1_answer wsX1_answer ({ frames := fr, cells := 0, slots := 0, locals := lc } : Room) D (cKK D cI cR cII) (cW x A0 A1 A2 cI cR cII) S [.ref x, va_rf a1, .int a2, .int a3, .int a4] (fun r u => (r, u) = fa S a1 a2 a3 a4) 0 0) (S : CS) (a1 : Nat) (a2 : Int32) (a3 : Int32) (a4 : Int32) (hok : ok_X1_answerWhen fa fo S a1 a2 a3 a4) : MetJ l yX1_answerWhen wsX1_answerWhen ({ frames := fr + 20, cells := 0, slots := 0, locals := lc + 400 } : Room) D (cKK D cI cR cII) (cW x A0 A1 A2 cI cR cII) S [.ref x, .ref a1, .int a2, .int a3, .int a4] (fun r u => (r, u) = p_X1_answerWhen fa S a1 a2 a3 a4) 0 0 := by
  unfold ok_X1_answerWhen at hok
  refine MetJ.of (cc := cX1_answerWhen) (maxL := 7) (by decide) rfl (Nat.le_of_ble_eq_true rfl) ?_
  intro p e s m below meth c A ls hC hr hlk hnm hK hP hD hA hl
  obtain ⟨hx, hb, hml, hown, hts⟩ := id hC
  have hS : va_S A s.heap s.heap [] := va_S.rf
  have hin0 : ∀ w ∈ wsX00, w ∈ wsX1_answerWhen := fun _ h => List.mem_cons_of_mem _ (List.mem_append_right _ h)
  have hin1 : ∀ w ∈ wsX10, w ∈ wsX1_answerWhen := fun _ h => List.mem_cons_of_mem _ (List.mem_append_left _ (List.mem_append_right _ h))
  have hl : lv_has ls 7 [(0, .ref x), (1, .ref a1), (2, .int a2), (3, .int a3), (4, .int a4)] := hl
  refine lv_aload_n hx hb dX1_answerWhen_0 rfl (lv_at hl 0 rfl) ?_
  refine lv_aload_n hx hb dX1_answerWhen_1 rfl (lv_at hl 1 rfl) ?_
  obtain ⟨b1, hok⟩ := hok
  refine wc_getR hC hin0 hK hP b1.1 b1.2 3 (by decide) rfl (by decide +kernel) (rget_3 _ _) dX1_answerWhen_2 ?_
  refine lv_iload_n hx hb dX1_answerWhen_5 rfl (lv_at hl 2 rfl) ?_
  refine lv_iload_n hx hb dX1_answerWhen_6 rfl (lv_at hl 3 rfl) ?_
  refine lv_iload hx hb dX1_answerWhen_7 (lv_at hl 4 rfl) ?_
  obtain ⟨o2, hok⟩ := hok
  refine wx_callVj (As := [va_rf (qRO S 3 a1), .int a2, .int a3, .int a4]) (rest := []) kst_C hC (hM S (qRO S 3 a1) a2 a3 a4 o2) (cwV 4 hts gX1_answerWhen_X1_answer rfl rfl rfl (by decide +kernel) ⟨by show fr + 1 ≤ fr + 20; omega, by show 8 + (5 + 11) + (lc) ≤ lc + 400; omega⟩) hK hP hD hS hA (wc_cell hK hP) rfl hl.1 rfl (Nat.le_of_ble_eq_true rfl) dX1_answerWhen_9 ⟨Nat.le_of_ble_eq_true rfl, Nat.le_of_ble_eq_true rfl⟩ (fun r2 u2 H locs hw hP hD hS => ?_)
  obtain rfl : r2 = (fa S (qRO S 3 a1) a2 a3 a4).1 := congrArg Prod.fst hw
  obtain rfl : u2 = (fa S (qRO S 3 a1) a2 a3 a4).2 := congrArg Prod.snd hw
  refine lv_lstore (lv' := [(5, .long ((fa S (qRO S 3 a1) a2 a3 a4).1)), (0, .ref x), (1, .ref a1), (2, .int a2), (3, .int a3), (4, .int a4)]) hx hb dX1_answerWhen_12 hl (by decide) rfl (fun ls hl => ?_)
  refine lv_aload_n hx hb dX1_answerWhen_14 rfl (lv_at hl 1 rfl) ?_
  refine wc_get hC hin1 hK hP 6 (by decide) rfl (by decide +kernel) (dget_6 _ _ _ _) dX1_answerWhen_15 ?_
  refine lv_if_eq (tgt := 23) hx hb dX1_answerWhen_18 (by decide) (fun c3 => ?_) (fun c3 => ?_)
  · have hok := hok.1 c3
    refine lv_aload_n hx hb dX1_answerWhen_23 rfl (lv_at hl 1 rfl) ?_
    refine lv_lload hx hb dX1_answerWhen_24 (lv_at hl 0 rfl) ?_
    refine lv_lconst (v := 0) hx hb dX1_answerWhen_26 (by decide) ?_
    refine W.lcmp hx hb dX1_answerWhen_27 ?_
    refine lv_if_le (tgt := 38) hx hb dX1_answerWhen_28 (by decide) (fun c4 => ?_) (fun c4 => ?_)
    · have hok := hok.1 c4
      refine lv_aload_n hx hb dX1_answerWhen_38 rfl (lv_at hl 2 rfl) ?_
      obtain ⟨b5, hok⟩ := hok
      refine wc_getR hC hin0 hK hP b5.1 b5.2 5 (by decide) rfl (by decide +kernel) (rget_5 _ _) dX1_answerWhen_39 ?_
      refine lv_iload_n hx hb dX1_answerWhen_42 rfl (lv_at hl 3 rfl) ?_
      refine lv_iload_n hx hb dX1_answerWhen_43 rfl (lv_at hl 4 rfl) ?_
      refine lv_iload hx hb dX1_answerWhen_44 (lv_at hl 5 rfl) ?_
      obtain ⟨o6, hok⟩ := hok
      refine wx_callVj (As := [va_rf (qRO ((fa S (qRO S 3 a1) a2 a3 a4).2) 5 a1), .int a2, .int a3, .int a4]) (rest := []) kst_C hC (hM ((fa S (qRO S 3 a1) a2 a3 a4).2) (qRO ((fa S (qRO S 3 a1) a2 a3 a4).2) 5 a1) a2 a3 a4 o6) (cwV 4 hts gX1_answerWhen_X1_answer rfl rfl rfl (by decide +kernel) ⟨by show fr + 1 ≤ fr + 20; omega, by show 8 + (5 + 11) + (lc) ≤ lc + 400; omega⟩) hK hP hD hS hA (wc_cell hK hP) rfl hl.1 rfl (Nat.le_of_ble_eq_true rfl) dX1_answerWhen_46 ⟨Nat.le_of_ble_eq_true rfl, Nat.le_of_ble_eq_true rfl⟩ (fun r6 u6 H locs hw hP hD hS => ?_)
      obtain rfl : r6 = (fa ((fa S (qRO S 3 a1) a2 a3 a4).2) (qRO ((fa S (qRO S 3 a1) a2 a3 a4).2) 5 a1) a2 a3 a4).1 := congrArg Prod.fst hw
      obtain rfl : u6 = (fa ((fa S (qRO S 3 a1) a2 a3 a4).2) (qRO ((fa S (qRO S 3 a1) a2 a3 a4).2) 5 a1) a2 a3 a4).2 := congrArg Prod.snd hw
      exact wx_retj kst_C ((fa ((fa S (qRO S 3 a1) a2 a3 a4).2) (qRO ((fa S (qRO S 3 a1) a2 a3 a4).2) 5 a1) a2 a3 a4).2) hx hb hr hlk hK hP hD hS dX1_answerWhen_49 (by unfold p_X1_answerWhen; rw [if_pos c3, if_pos c4])
    · have hok := hok.2 c4
      refine lv_aload_n hx hb dX1_answerWhen_31 rfl (lv_at hl 2 rfl) ?_
      obtain ⟨b7, hok⟩ := hok
      refine wc_getR hC hin0 hK hP b7.1 b7.2 4 (by decide) rfl (by decide +kernel) (rget_4 _ _) dX1_answerWhen_32 ?_
      refine lv_goto (tgt := 42) hx hb dX1_answerWhen_35 (by decide) ?_
      refine lv_iload_n hx hb dX1_answerWhen_42 rfl (lv_at hl 3 rfl) ?_
      refine lv_iload_n hx hb dX1_answerWhen_43 rfl (lv_at hl 4 rfl) ?_
      refine lv_iload hx hb dX1_answerWhen_44 (lv_at hl 5 rfl) ?_
      obtain ⟨o8, hok⟩ := hok
      refine wx_callVj (As := [va_rf (qRO ((fa S (qRO S 3 a1) a2 a3 a4).2) 4 a1), .int a2, .int a3, .int a4]) (rest := []) kst_C hC (hM ((fa S (qRO S 3 a1) a2 a3 a4).2) (qRO ((fa S (qRO S 3 a1) a2 a3 a4).2) 4 a1) a2 a3 a4 o8) (cwV 4 hts gX1_answerWhen_X1_answer rfl rfl rfl (by decide +kernel) ⟨by show fr + 1 ≤ fr + 20; omega, by show 8 + (5 + 11) + (lc) ≤ lc + 400; omega⟩) hK hP hD hS hA (wc_cell hK hP) rfl hl.1 rfl (Nat.le_of_ble_eq_true rfl) dX1_answerWhen_46 ⟨Nat.le_of_ble_eq_true rfl, Nat.le_of_ble_eq_true rfl⟩ (fun r8 u8 H locs hw hP hD hS => ?_)
      obtain rfl : r8 = (fa ((fa S (qRO S 3 a1) a2 a3 a4).2) (qRO ((fa S (qRO S 3 a1) a2 a3 a4).2) 4 a1) a2 a3 a4).1 := congrArg Prod.fst hw
      obtain rfl : u8 = (fa ((fa S (qRO S 3 a1) a2 a3 a4).2) (qRO ((fa S (qRO S 3 a1) a2 a3 a4).2) 4 a1) a2 a3 a4).2 := congrArg Prod.snd hw
      exact wx_retj kst_C ((fa ((fa S (qRO S 3 a1) a2 a3 a4).2) (qRO ((fa S (qRO S 3 a1) a2 a3 a4).2) 4 a1) a2 a3 a4).2) hx hb hr hlk hK hP hD hS dX1_answerWhen_49 (by unfold p_X1_answerWhen; rw [if_pos c3, if_neg c4])
  · have hok := hok.2 c3
    refine lv_lconst (v := 0) hx hb dX1_answerWhen_21 (by decide) ?_
    exact wx_retj kst_C ((fa S (qRO S 3 a1) a2 a3 a4).2) hx hb hr hlk hK hP hD hS dX1_answerWhen_22 (by unfold p_X1_answerWhen; rw [if_neg c3])
def p_X1_answerFed (fa : CS → Option Nat → Int32 → Int32 → Int32 → Int64 × CS) (S : CS) (a1 : Nat) (a2 : Int32) (a3 : Int32) (a4 : Int32) : Int64 × CS := if (qI ((fa S (qRO S 4 a1) a2 a3 a4).2) 6) = 0 then ((fa ((fa S (qRO S 4 a1) a2 a3 a4).2) (qRO ((fa S (qRO S 4 a1) a2 a3 a4).2) 3 a1) (((fa S (qRO S 4 a1) a2 a3 a4).1).toInt32) a3 a4).1, (fa ((fa S (qRO S 4 a1) a2 a3 a4).2) (qRO ((fa S (qRO S 4 a1) a2 a3 a4).2) 3 a1) (((fa S (qRO S 4 a1) a2 a3 a4).1).toInt32) a3 a4).2) else (0, (fa S (qRO S 4 a1) a2 a3 a4).2)
def ok_X1_answerFed (fa : CS → Option Nat → Int32 → Int32 → Int32 → Int64 × CS) (fo : CS → Option Nat → Int32 → Int32 → Int32 → Prop) (S : CS) (a1 : Nat) (a2 : Int32) (a3 : Int32) (a4 : Int32) : Prop := (a1 ∈ qL S ∧ qK S a1 = true) ∧ ((fo S (qRO S 4 a1) a2 a3 a4) ∧ (((qI ((fa S (qRO S 4 a1) a2 a3 a4).2) 6) = 0 → ((a1 ∈ qL ((fa S (qRO S 4 a1) a2 a3 a4).2) ∧ qK ((fa S (qRO S 4 a1) a2 a3 a4).2) a1 = true) ∧ ((fo ((fa S (qRO S 4 a1) a2 a3 a4).2) (qRO ((fa S (qRO S 4 a1) a2 a3 a4).2) 3 a1) (((fa S (qRO S 4 a1) a2 a3 a4).1).toInt32) a3 a4) ∧ (True)))) ∧ (¬ (qI ((fa S (qRO S 4 a1) a2 a3 a4).2) 6) = 0 → True)))
set_option maxHeartbeats 4000000 in
set_option maxRecDepth 100000 in
theorem c_X1_answerFed (l : Launch) (D : va_G) (x A0 A1 A2 : Nat) (cI cR cII : ClassId) (fa : CS → Option Nat → Int32 → Int32 → Int32 → Int64 × CS) (fo : CS → Option Nat → Int32 → Int32 → Int32 → Prop) (fr lc : Nat) (hM : ∀ (S : CS) (a1 : Option Nat) (a2 a3 a4 : Int32), fo S a1 a2 a3 a4 → MetJ l yX1_answer wsX1_answer ({ frames := fr, cells := 0, slots := 0, locals := lc } : Room) D (cKK D cI cR cII) (cW x A0 A1 A2 cI cR cII) S [.ref x, va_rf a1, .int a2, .int a3, .int a4] (fun r u => (r, u) = fa S a1 a2 a3 a4) 0 0) (S : CS) (a1 : Nat) (a2 : Int32) (a3 : Int32) (a4 : Int32) (hok : ok_X1_answerFed fa fo S a1 a2 a3 a4) : MetJ l yX1_answerFed wsX1_answerFed ({ frames := fr + 20, cells := 0, slots := 0, locals := lc + 400 } : Room) D (cKK D cI cR cII) (cW x A0 A1 A2 cI cR cII) S [.ref x, .ref a1, .int a2, .int a3, .int a4] (fun r u => (r, u) = p_X1_answerFed fa S a1 a2 a3 a4) 0 0 := by
  unfold ok_X1_answerFed at hok
  refine MetJ.of (cc := cX1_answerFed) (maxL := 7) (by decide) rfl (Nat.le_of_ble_eq_true rfl) ?_
  intro p e s m below meth c A ls hC hr hlk hnm hK hP hD hA hl
  obtain ⟨hx, hb, hml, hown, hts⟩ := id hC
  have hS : va_S A s.heap s.heap [] := va_S.rf
  have hin0 : ∀ w ∈ wsX00, w ∈ wsX1_answerFed := fun _ h => List.mem_cons_of_mem _ (List.mem_append_right _ h)
  have hin1 : ∀ w ∈ wsX10, w ∈ wsX1_answerFed := fun _ h => List.mem_cons_of_mem _ (List.mem_append_left _ (List.mem_append_right _ h))
  have hl : lv_has ls 7 [(0, .ref x), (1, .ref a1), (2, .int a2), (3, .int a3), (4, .int a4)] := hl
  refine lv_aload_n hx hb dX1_answerFed_0 rfl (lv_at hl 0 rfl) ?_
  refine lv_aload_n hx hb dX1_answerFed_1 rfl (lv_at hl 1 rfl) ?_
  obtain ⟨b1, hok⟩ := hok
  refine wc_getR hC hin0 hK hP b1.1 b1.2 4 (by decide) rfl (by decide +kernel) (rget_4 _ _) dX1_answerFed_2 ?_
  refine lv_iload_n hx hb dX1_answerFed_5 rfl (lv_at hl 2 rfl) ?_
  refine lv_iload_n hx hb dX1_answerFed_6 rfl (lv_at hl 3 rfl) ?_
  refine lv_iload hx hb dX1_answerFed_7 (lv_at hl 4 rfl) ?_
  obtain ⟨o2, hok⟩ := hok
  refine wx_callVj (As := [va_rf (qRO S 4 a1), .int a2, .int a3, .int a4]) (rest := []) kst_C hC (hM S (qRO S 4 a1) a2 a3 a4 o2) (cwV 4 hts gX1_answerFed_X1_answer rfl rfl rfl (by decide +kernel) ⟨by show fr + 1 ≤ fr + 20; omega, by show 8 + (5 + 11) + (lc) ≤ lc + 400; omega⟩) hK hP hD hS hA (wc_cell hK hP) rfl hl.1 rfl (Nat.le_of_ble_eq_true rfl) dX1_answerFed_9 ⟨Nat.le_of_ble_eq_true rfl, Nat.le_of_ble_eq_true rfl⟩ (fun r2 u2 H locs hw hP hD hS => ?_)
  obtain rfl : r2 = (fa S (qRO S 4 a1) a2 a3 a4).1 := congrArg Prod.fst hw
  obtain rfl : u2 = (fa S (qRO S 4 a1) a2 a3 a4).2 := congrArg Prod.snd hw
  refine lv_lstore (lv' := [(5, .long ((fa S (qRO S 4 a1) a2 a3 a4).1)), (0, .ref x), (1, .ref a1), (2, .int a2), (3, .int a3), (4, .int a4)]) hx hb dX1_answerFed_12 hl (by decide) rfl (fun ls hl => ?_)
  refine lv_aload_n hx hb dX1_answerFed_14 rfl (lv_at hl 1 rfl) ?_
  refine wc_get hC hin1 hK hP 6 (by decide) rfl (by decide +kernel) (dget_6 _ _ _ _) dX1_answerFed_15 ?_
  refine lv_if_eq (tgt := 23) hx hb dX1_answerFed_18 (by decide) (fun c3 => ?_) (fun c3 => ?_)
  · have hok := hok.1 c3
    refine lv_aload_n hx hb dX1_answerFed_23 rfl (lv_at hl 1 rfl) ?_
    refine lv_aload_n hx hb dX1_answerFed_24 rfl (lv_at hl 2 rfl) ?_
    obtain ⟨b4, hok⟩ := hok
    refine wc_getR hC hin0 hK hP b4.1 b4.2 3 (by decide) rfl (by decide +kernel) (rget_3 _ _) dX1_answerFed_25 ?_
    refine lv_lload hx hb dX1_answerFed_28 (lv_at hl 0 rfl) ?_
    refine lv_l2i (v := ((fa S (qRO S 4 a1) a2 a3 a4).1).toInt32) hx hb dX1_answerFed_30 rfl ?_
    refine lv_iload_n hx hb dX1_answerFed_31 rfl (lv_at hl 4 rfl) ?_
    refine lv_iload hx hb dX1_answerFed_32 (lv_at hl 5 rfl) ?_
    obtain ⟨o5, hok⟩ := hok
    refine wx_callVj (As := [va_rf (qRO ((fa S (qRO S 4 a1) a2 a3 a4).2) 3 a1), .int (((fa S (qRO S 4 a1) a2 a3 a4).1).toInt32), .int a3, .int a4]) (rest := []) kst_C hC (hM ((fa S (qRO S 4 a1) a2 a3 a4).2) (qRO ((fa S (qRO S 4 a1) a2 a3 a4).2) 3 a1) (((fa S (qRO S 4 a1) a2 a3 a4).1).toInt32) a3 a4 o5) (cwV 4 hts gX1_answerFed_X1_answer rfl rfl rfl (by decide +kernel) ⟨by show fr + 1 ≤ fr + 20; omega, by show 8 + (5 + 11) + (lc) ≤ lc + 400; omega⟩) hK hP hD hS hA (wc_cell hK hP) rfl hl.1 rfl (Nat.le_of_ble_eq_true rfl) dX1_answerFed_34 ⟨Nat.le_of_ble_eq_true rfl, Nat.le_of_ble_eq_true rfl⟩ (fun r5 u5 H locs hw hP hD hS => ?_)
    obtain rfl : r5 = (fa ((fa S (qRO S 4 a1) a2 a3 a4).2) (qRO ((fa S (qRO S 4 a1) a2 a3 a4).2) 3 a1) (((fa S (qRO S 4 a1) a2 a3 a4).1).toInt32) a3 a4).1 := congrArg Prod.fst hw
    obtain rfl : u5 = (fa ((fa S (qRO S 4 a1) a2 a3 a4).2) (qRO ((fa S (qRO S 4 a1) a2 a3 a4).2) 3 a1) (((fa S (qRO S 4 a1) a2 a3 a4).1).toInt32) a3 a4).2 := congrArg Prod.snd hw
    exact wx_retj kst_C ((fa ((fa S (qRO S 4 a1) a2 a3 a4).2) (qRO ((fa S (qRO S 4 a1) a2 a3 a4).2) 3 a1) (((fa S (qRO S 4 a1) a2 a3 a4).1).toInt32) a3 a4).2) hx hb hr hlk hK hP hD hS dX1_answerFed_37 (by unfold p_X1_answerFed; rw [if_pos c3])
  · have hok := hok.2 c3
    refine lv_lconst (v := 0) hx hb dX1_answerFed_21 (by decide) ?_
    exact wx_retj kst_C ((fa S (qRO S 4 a1) a2 a3 a4).2) hx hb hr hlk hK hP hD hS dX1_answerFed_22 (by unfold p_X1_answerFed; rw [if_neg c3])
def p_X1_answerGuarded (fa : CS → Option Nat → Int32 → Int32 → Int32 → Int64 × CS) (S : CS) (a1 : Nat) (a2 : Int32) (a3 : Int32) (a4 : Int32) : Int64 × CS := if (qI ((fa S (qRO S 3 a1) a2 a3 a4).2) 6) = 0 then ((fa S (qRO S 3 a1) a2 a3 a4).1, (fa S (qRO S 3 a1) a2 a3 a4).2) else (if (qI ((fa S (qRO S 3 a1) a2 a3 a4).2) 6) = (-6) then ((fa S (qRO S 3 a1) a2 a3 a4).1, (fa S (qRO S 3 a1) a2 a3 a4).2) else (if (qI ((fa S (qRO S 3 a1) a2 a3 a4).2) 6) = (-7) then ((fa S (qRO S 3 a1) a2 a3 a4).1, (fa S (qRO S 3 a1) a2 a3 a4).2) else ((fa (csI ((fa S (qRO S 3 a1) a2 a3 a4).2) 6 0) (qRO ((fa S (qRO S 3 a1) a2 a3 a4).2) 4 a1) a2 a3 a4).1, (fa (csI ((fa S (qRO S 3 a1) a2 a3 a4).2) 6 0) (qRO ((fa S (qRO S 3 a1) a2 a3 a4).2) 4 a1) a2 a3 a4).2)))
def ok_X1_answerGuarded (fa : CS → Option Nat → Int32 → Int32 → Int32 → Int64 × CS) (fo : CS → Option Nat → Int32 → Int32 → Int32 → Prop) (S : CS) (a1 : Nat) (a2 : Int32) (a3 : Int32) (a4 : Int32) : Prop := (a1 ∈ qL S ∧ qK S a1 = true) ∧ ((fo S (qRO S 3 a1) a2 a3 a4) ∧ (((qI ((fa S (qRO S 3 a1) a2 a3 a4).2) 6) = 0 → True) ∧ (¬ (qI ((fa S (qRO S 3 a1) a2 a3 a4).2) 6) = 0 → (((qI ((fa S (qRO S 3 a1) a2 a3 a4).2) 6) = (-6) → True) ∧ (¬ (qI ((fa S (qRO S 3 a1) a2 a3 a4).2) 6) = (-6) → (((qI ((fa S (qRO S 3 a1) a2 a3 a4).2) 6) = (-7) → True) ∧ (¬ (qI ((fa S (qRO S 3 a1) a2 a3 a4).2) 6) = (-7) → ((a1 ∈ qL ((fa S (qRO S 3 a1) a2 a3 a4).2) ∧ qK ((fa S (qRO S 3 a1) a2 a3 a4).2) a1 = true) ∧ ((fo (csI ((fa S (qRO S 3 a1) a2 a3 a4).2) 6 0) (qRO ((fa S (qRO S 3 a1) a2 a3 a4).2) 4 a1) a2 a3 a4) ∧ (True))))))))))
set_option maxHeartbeats 4000000 in
set_option maxRecDepth 100000 in
theorem c_X1_answerGuarded (l : Launch) (D : va_G) (x A0 A1 A2 : Nat) (cI cR cII : ClassId) (fa : CS → Option Nat → Int32 → Int32 → Int32 → Int64 × CS) (fo : CS → Option Nat → Int32 → Int32 → Int32 → Prop) (fr lc : Nat) (hM : ∀ (S : CS) (a1 : Option Nat) (a2 a3 a4 : Int32), fo S a1 a2 a3 a4 → MetJ l yX1_answer wsX1_answer ({ frames := fr, cells := 0, slots := 0, locals := lc } : Room) D (cKK D cI cR cII) (cW x A0 A1 A2 cI cR cII) S [.ref x, va_rf a1, .int a2, .int a3, .int a4] (fun r u => (r, u) = fa S a1 a2 a3 a4) 0 0) (S : CS) (a1 : Nat) (a2 : Int32) (a3 : Int32) (a4 : Int32) (hok : ok_X1_answerGuarded fa fo S a1 a2 a3 a4) : MetJ l yX1_answerGuarded wsX1_answerGuarded ({ frames := fr + 20, cells := 0, slots := 0, locals := lc + 400 } : Room) D (cKK D cI cR cII) (cW x A0 A1 A2 cI cR cII) S [.ref x, .ref a1, .int a2, .int a3, .int a4] (fun r u => (r, u) = p_X1_answerGuarded fa S a1 a2 a3 a4) 0 0 := by
  unfold ok_X1_answerGuarded at hok
  refine MetJ.of (cc := cX1_answerGuarded) (maxL := 7) (by decide) rfl (Nat.le_of_ble_eq_true rfl) ?_
  intro p e s m below meth c A ls hC hr hlk hnm hK hP hD hA hl
  obtain ⟨hx, hb, hml, hown, hts⟩ := id hC
  have hS : va_S A s.heap s.heap [] := va_S.rf
  have hin0 : ∀ w ∈ wsX00, w ∈ wsX1_answerGuarded := fun _ h => List.mem_cons_of_mem _ (List.mem_append_right _ h)
  have hin1 : ∀ w ∈ wsX10, w ∈ wsX1_answerGuarded := fun _ h => List.mem_cons_of_mem _ (List.mem_append_left _ (List.mem_append_right _ h))
  have hl : lv_has ls 7 [(0, .ref x), (1, .ref a1), (2, .int a2), (3, .int a3), (4, .int a4)] := hl
  refine lv_aload_n hx hb dX1_answerGuarded_0 rfl (lv_at hl 0 rfl) ?_
  refine lv_aload_n hx hb dX1_answerGuarded_1 rfl (lv_at hl 1 rfl) ?_
  obtain ⟨b1, hok⟩ := hok
  refine wc_getR hC hin0 hK hP b1.1 b1.2 3 (by decide) rfl (by decide +kernel) (rget_3 _ _) dX1_answerGuarded_2 ?_
  refine lv_iload_n hx hb dX1_answerGuarded_5 rfl (lv_at hl 2 rfl) ?_
  refine lv_iload_n hx hb dX1_answerGuarded_6 rfl (lv_at hl 3 rfl) ?_
  refine lv_iload hx hb dX1_answerGuarded_7 (lv_at hl 4 rfl) ?_
  obtain ⟨o2, hok⟩ := hok
  refine wx_callVj (As := [va_rf (qRO S 3 a1), .int a2, .int a3, .int a4]) (rest := []) kst_C hC (hM S (qRO S 3 a1) a2 a3 a4 o2) (cwV 4 hts gX1_answerGuarded_X1_answer rfl rfl rfl (by decide +kernel) ⟨by show fr + 1 ≤ fr + 20; omega, by show 8 + (5 + 11) + (lc) ≤ lc + 400; omega⟩) hK hP hD hS hA (wc_cell hK hP) rfl hl.1 rfl (Nat.le_of_ble_eq_true rfl) dX1_answerGuarded_9 ⟨Nat.le_of_ble_eq_true rfl, Nat.le_of_ble_eq_true rfl⟩ (fun r2 u2 H locs hw hP hD hS => ?_)
  obtain rfl : r2 = (fa S (qRO S 3 a1) a2 a3 a4).1 := congrArg Prod.fst hw
  obtain rfl : u2 = (fa S (qRO S 3 a1) a2 a3 a4).2 := congrArg Prod.snd hw
  refine lv_lstore (lv' := [(5, .long ((fa S (qRO S 3 a1) a2 a3 a4).1)), (0, .ref x), (1, .ref a1), (2, .int a2), (3, .int a3), (4, .int a4)]) hx hb dX1_answerGuarded_12 hl (by decide) rfl (fun ls hl => ?_)
  refine lv_aload_n hx hb dX1_answerGuarded_14 rfl (lv_at hl 1 rfl) ?_
  refine wc_get hC hin1 hK hP 6 (by decide) rfl (by decide +kernel) (dget_6 _ _ _ _) dX1_answerGuarded_15 ?_
  refine lv_if_eq (tgt := 39) hx hb dX1_answerGuarded_18 (by decide) (fun c3 => ?_) (fun c3 => ?_)
  · have hok := hok.1 c3
    refine lv_lload hx hb dX1_answerGuarded_39 (lv_at hl 0 rfl) ?_
    exact wx_retj kst_C ((fa S (qRO S 3 a1) a2 a3 a4).2) hx hb hr hlk hK hP hD hS dX1_answerGuarded_41 (by unfold p_X1_answerGuarded; rw [if_pos c3])
  · have hok := hok.2 c3
    refine lv_aload_n hx hb dX1_answerGuarded_21 rfl (lv_at hl 1 rfl) ?_
    refine wc_get hC hin1 hK hP 6 (by decide) rfl (by decide +kernel) (dget_6 _ _ _ _) dX1_answerGuarded_22 ?_
    refine lv_bipush (v := (-6)) hx hb dX1_answerGuarded_25 (by decide) ?_
    refine lv_icmp_eq (tgt := 39) hx hb dX1_answerGuarded_27 (by decide) (fun c4 => ?_) (fun c4 => ?_)
    · have hok := hok.1 c4
      refine lv_lload hx hb dX1_answerGuarded_39 (lv_at hl 0 rfl) ?_
      exact wx_retj kst_C ((fa S (qRO S 3 a1) a2 a3 a4).2) hx hb hr hlk hK hP hD hS dX1_answerGuarded_41 (by unfold p_X1_answerGuarded; rw [if_neg c3, if_pos c4])
    · have hok := hok.2 c4
      refine lv_aload_n hx hb dX1_answerGuarded_30 rfl (lv_at hl 1 rfl) ?_
      refine wc_get hC hin1 hK hP 6 (by decide) rfl (by decide +kernel) (dget_6 _ _ _ _) dX1_answerGuarded_31 ?_
      refine lv_bipush (v := (-7)) hx hb dX1_answerGuarded_34 (by decide) ?_
      refine lv_icmp_ne (tgt := 42) hx hb dX1_answerGuarded_36 (by decide) (fun c5 => ?_) (fun c5 => ?_)
      · have hok := hok.2 c5
        refine lv_aload_n hx hb dX1_answerGuarded_42 rfl (lv_at hl 1 rfl) ?_
        refine lv_iconst (v := 0) hx hb dX1_answerGuarded_43 (by decide) ?_
        refine wc_putI hC hin1 hK hP hD hS 6 (by decide) rfl (by decide +kernel) rfl (by decide +kernel) (dset_6 _ _ _ _ _) dX1_answerGuarded_44 (fun H locs hP hD hS => ?_)
        refine lv_aload_n hx hb dX1_answerGuarded_47 rfl (lv_at hl 1 rfl) ?_
        refine lv_aload_n hx hb dX1_answerGuarded_48 rfl (lv_at hl 2 rfl) ?_
        obtain ⟨b6, hok⟩ := hok
        refine wc_getR hC hin0 hK hP b6.1 b6.2 4 (by decide) rfl (by decide +kernel) (rget_4 _ _) dX1_answerGuarded_49 ?_
        refine lv_see (v2 := va_rf (qRO ((fa S (qRO S 3 a1) a2 a3 a4).2) 4 a1)) (by simp [va_up, qI, qR, qW, qP, qL, qK, qRI, qRO, qRJ, qWL, qWA]) ?_
        refine lv_iload_n hx hb dX1_answerGuarded_52 rfl (lv_at hl 3 rfl) ?_
        refine lv_iload_n hx hb dX1_answerGuarded_53 rfl (lv_at hl 4 rfl) ?_
        refine lv_iload hx hb dX1_answerGuarded_54 (lv_at hl 5 rfl) ?_
        obtain ⟨o7, hok⟩ := hok
        refine wx_callVj (As := [va_rf (qRO ((fa S (qRO S 3 a1) a2 a3 a4).2) 4 a1), .int a2, .int a3, .int a4]) (rest := []) kst_C hC (hM (csI ((fa S (qRO S 3 a1) a2 a3 a4).2) 6 0) (qRO ((fa S (qRO S 3 a1) a2 a3 a4).2) 4 a1) a2 a3 a4 o7) (cwV 4 hts gX1_answerGuarded_X1_answer rfl rfl rfl (by decide +kernel) ⟨by show fr + 1 ≤ fr + 20; omega, by show 8 + (5 + 11) + (lc) ≤ lc + 400; omega⟩) hK hP hD hS hA (wc_cell hK hP) rfl hl.1 rfl (Nat.le_of_ble_eq_true rfl) dX1_answerGuarded_56 ⟨Nat.le_of_ble_eq_true rfl, Nat.le_of_ble_eq_true rfl⟩ (fun r7 u7 H locs hw hP hD hS => ?_)
        obtain rfl : r7 = (fa (csI ((fa S (qRO S 3 a1) a2 a3 a4).2) 6 0) (qRO ((fa S (qRO S 3 a1) a2 a3 a4).2) 4 a1) a2 a3 a4).1 := congrArg Prod.fst hw
        obtain rfl : u7 = (fa (csI ((fa S (qRO S 3 a1) a2 a3 a4).2) 6 0) (qRO ((fa S (qRO S 3 a1) a2 a3 a4).2) 4 a1) a2 a3 a4).2 := congrArg Prod.snd hw
        exact wx_retj kst_C ((fa (csI ((fa S (qRO S 3 a1) a2 a3 a4).2) 6 0) (qRO ((fa S (qRO S 3 a1) a2 a3 a4).2) 4 a1) a2 a3 a4).2) hx hb hr hlk hK hP hD hS dX1_answerGuarded_59 (by unfold p_X1_answerGuarded; rw [if_neg c3, if_neg c4, if_neg c5])
      · have hok := hok.1 c5
        refine lv_lload hx hb dX1_answerGuarded_39 (lv_at hl 0 rfl) ?_
        exact wx_retj kst_C ((fa S (qRO S 3 a1) a2 a3 a4).2) hx hb hr hlk hK hP hD hS dX1_answerGuarded_41 (by unfold p_X1_answerGuarded; rw [if_neg c3, if_neg c4, if_pos c5])
def p_X1_answerCounted (fa : CS → Option Nat → Int32 → Int32 → Int32 → Int64 × CS) (S : CS) (a1 : Nat) (a2 : Int32) (a3 : Int32) (a4 : Int32) : Int64 × CS := if (qI ((fa (csRI S 6 a1 ((qRI S 6 a1) + 1)) (qRO S 3 a1) a2 a3 a4).2) 6) = 0 then (((fa (csRI S 6 a1 ((qRI S 6 a1) + 1)) (qRO S 3 a1) a2 a3 a4).1) + ((qRI ((fa (csRI S 6 a1 ((qRI S 6 a1) + 1)) (qRO S 3 a1) a2 a3 a4).2) 6 a1).toInt64), (fa (csRI S 6 a1 ((qRI S 6 a1) + 1)) (qRO S 3 a1) a2 a3 a4).2) else (0, (fa (csRI S 6 a1 ((qRI S 6 a1) + 1)) (qRO S 3 a1) a2 a3 a4).2)
def ok_X1_answerCounted (fa : CS → Option Nat → Int32 → Int32 → Int32 → Int64 × CS) (fo : CS → Option Nat → Int32 → Int32 → Int32 → Prop) (S : CS) (a1 : Nat) (a2 : Int32) (a3 : Int32) (a4 : Int32) : Prop := (a1 ∈ qL S ∧ qK S a1 = true) ∧ ((a1 ∈ qL S ∧ qK S a1 = true) ∧ ((a1 ∈ qL S ∧ qK S a1 = true) ∧ ((fo (csRI S 6 a1 ((qRI S 6 a1) + 1)) (qRO S 3 a1) a2 a3 a4) ∧ (((qI ((fa (csRI S 6 a1 ((qRI S 6 a1) + 1)) (qRO S 3 a1) a2 a3 a4).2) 6) = 0 → ((a1 ∈ qL ((fa (csRI S 6 a1 ((qRI S 6 a1) + 1)) (qRO S 3 a1) a2 a3 a4).2) ∧ qK ((fa (csRI S 6 a1 ((qRI S 6 a1) + 1)) (qRO S 3 a1) a2 a3 a4).2) a1 = true) ∧ (True))) ∧ (¬ (qI ((fa (csRI S 6 a1 ((qRI S 6 a1) + 1)) (qRO S 3 a1) a2 a3 a4).2) 6) = 0 → True)))))
set_option maxHeartbeats 4000000 in
set_option maxRecDepth 100000 in
theorem c_X1_answerCounted (l : Launch) (D : va_G) (x A0 A1 A2 : Nat) (cI cR cII : ClassId) (fa : CS → Option Nat → Int32 → Int32 → Int32 → Int64 × CS) (fo : CS → Option Nat → Int32 → Int32 → Int32 → Prop) (fr lc : Nat) (hM : ∀ (S : CS) (a1 : Option Nat) (a2 a3 a4 : Int32), fo S a1 a2 a3 a4 → MetJ l yX1_answer wsX1_answer ({ frames := fr, cells := 0, slots := 0, locals := lc } : Room) D (cKK D cI cR cII) (cW x A0 A1 A2 cI cR cII) S [.ref x, va_rf a1, .int a2, .int a3, .int a4] (fun r u => (r, u) = fa S a1 a2 a3 a4) 0 0) (S : CS) (a1 : Nat) (a2 : Int32) (a3 : Int32) (a4 : Int32) (hok : ok_X1_answerCounted fa fo S a1 a2 a3 a4) : MetJ l yX1_answerCounted wsX1_answerCounted ({ frames := fr + 20, cells := 0, slots := 0, locals := lc + 400 } : Room) D (cKK D cI cR cII) (cW x A0 A1 A2 cI cR cII) S [.ref x, .ref a1, .int a2, .int a3, .int a4] (fun r u => (r, u) = p_X1_answerCounted fa S a1 a2 a3 a4) 0 0 := by
  unfold ok_X1_answerCounted at hok
  refine MetJ.of (cc := cX1_answerCounted) (maxL := 7) (by decide) rfl (Nat.le_of_ble_eq_true rfl) ?_
  intro p e s m below meth c A ls hC hr hlk hnm hK hP hD hA hl
  obtain ⟨hx, hb, hml, hown, hts⟩ := id hC
  have hS : va_S A s.heap s.heap [] := va_S.rf
  have hin0 : ∀ w ∈ wsX00, w ∈ wsX1_answerCounted := fun _ h => List.mem_cons_of_mem _ (List.mem_append_right _ h)
  have hin1 : ∀ w ∈ wsX10, w ∈ wsX1_answerCounted := fun _ h => List.mem_cons_of_mem _ (List.mem_append_left _ (List.mem_append_right _ h))
  have hl : lv_has ls 7 [(0, .ref x), (1, .ref a1), (2, .int a2), (3, .int a3), (4, .int a4)] := hl
  refine lv_aload_n hx hb dX1_answerCounted_0 rfl (lv_at hl 1 rfl) ?_
  refine lv_dup hx hb dX1_answerCounted_1 rfl ?_
  obtain ⟨b1, hok⟩ := hok
  refine wc_getR hC hin0 hK hP b1.1 b1.2 6 (by decide) rfl (by decide +kernel) (rget_6 _ _) dX1_answerCounted_2 ?_
  refine lv_iconst (v := 1) hx hb dX1_answerCounted_5 (by decide) ?_
  refine lv_iadd hx hb dX1_answerCounted_6 ?_
  obtain ⟨b2, hok⟩ := hok
  refine wc_putR (v := .int ((qRI S 6 a1) + 1)) (ty := .int) hC hin0 hK hP hD hS b2.1 b2.2 6 (by decide) rfl (by decide +kernel) rfl (by decide +kernel) rfl rfl (csRI S 6 a1 ((qRI S 6 a1) + 1)) rfl rfl rfl ⟨rfl, rfl⟩ ruL_RI_6 (fun b hb => ruL_RI_ne hb) dX1_answerCounted_7 (fun H locs hP hD hS => ?_)
  refine lv_aload_n hx hb dX1_answerCounted_10 rfl (lv_at hl 0 rfl) ?_
  refine lv_aload_n hx hb dX1_answerCounted_11 rfl (lv_at hl 1 rfl) ?_
  obtain ⟨b3, hok⟩ := hok
  refine wc_getR hC hin0 hK hP b3.1 b3.2 3 (by decide) rfl (by decide +kernel) (rget_3 _ _) dX1_answerCounted_12 ?_
  refine lv_see (v2 := va_rf (qRO S 3 a1)) (by simp [va_up, qI, qR, qW, qP, qL, qK, qRI, qRO, qRJ, qWL, qWA]) ?_
  refine lv_iload_n hx hb dX1_answerCounted_15 rfl (lv_at hl 2 rfl) ?_
  refine lv_iload_n hx hb dX1_answerCounted_16 rfl (lv_at hl 3 rfl) ?_
  refine lv_iload hx hb dX1_answerCounted_17 (lv_at hl 4 rfl) ?_
  obtain ⟨o4, hok⟩ := hok
  refine wx_callVj (As := [va_rf (qRO S 3 a1), .int a2, .int a3, .int a4]) (rest := []) kst_C hC (hM (csRI S 6 a1 ((qRI S 6 a1) + 1)) (qRO S 3 a1) a2 a3 a4 o4) (cwV 4 hts gX1_answerCounted_X1_answer rfl rfl rfl (by decide +kernel) ⟨by show fr + 1 ≤ fr + 20; omega, by show 8 + (5 + 11) + (lc) ≤ lc + 400; omega⟩) hK hP hD hS hA (wc_cell hK hP) rfl hl.1 rfl (Nat.le_of_ble_eq_true rfl) dX1_answerCounted_19 ⟨Nat.le_of_ble_eq_true rfl, Nat.le_of_ble_eq_true rfl⟩ (fun r4 u4 H locs hw hP hD hS => ?_)
  obtain rfl : r4 = (fa (csRI S 6 a1 ((qRI S 6 a1) + 1)) (qRO S 3 a1) a2 a3 a4).1 := congrArg Prod.fst hw
  obtain rfl : u4 = (fa (csRI S 6 a1 ((qRI S 6 a1) + 1)) (qRO S 3 a1) a2 a3 a4).2 := congrArg Prod.snd hw
  refine lv_lstore (lv' := [(5, .long ((fa (csRI S 6 a1 ((qRI S 6 a1) + 1)) (qRO S 3 a1) a2 a3 a4).1)), (0, .ref x), (1, .ref a1), (2, .int a2), (3, .int a3), (4, .int a4)]) hx hb dX1_answerCounted_22 hl (by decide) rfl (fun ls hl => ?_)
  refine lv_aload_n hx hb dX1_answerCounted_24 rfl (lv_at hl 1 rfl) ?_
  refine wc_get hC hin1 hK hP 6 (by decide) rfl (by decide +kernel) (dget_6 _ _ _ _) dX1_answerCounted_25 ?_
  refine lv_if_eq (tgt := 33) hx hb dX1_answerCounted_28 (by decide) (fun c5 => ?_) (fun c5 => ?_)
  · have hok := hok.1 c5
    refine lv_lload hx hb dX1_answerCounted_33 (lv_at hl 0 rfl) ?_
    refine lv_aload_n hx hb dX1_answerCounted_35 rfl (lv_at hl 2 rfl) ?_
    obtain ⟨b6, hok⟩ := hok
    refine wc_getR hC hin0 hK hP b6.1 b6.2 6 (by decide) rfl (by decide +kernel) (rget_6 _ _) dX1_answerCounted_36 ?_
    refine lv_i2l (v := (qRI ((fa (csRI S 6 a1 ((qRI S 6 a1) + 1)) (qRO S 3 a1) a2 a3 a4).2) 6 a1).toInt64) hx hb dX1_answerCounted_39 rfl ?_
    refine lv_ladd hx hb dX1_answerCounted_40 ?_
    exact wx_retj kst_C ((fa (csRI S 6 a1 ((qRI S 6 a1) + 1)) (qRO S 3 a1) a2 a3 a4).2) hx hb hr hlk hK hP hD hS dX1_answerCounted_41 (by unfold p_X1_answerCounted; rw [if_pos c5])
  · have hok := hok.2 c5
    refine lv_lconst (v := 0) hx hb dX1_answerCounted_31 (by decide) ?_
    exact wx_retj kst_C ((fa (csRI S 6 a1 ((qRI S 6 a1) + 1)) (qRO S 3 a1) a2 a3 a4).2) hx hb hr hlk hK hP hD hS dX1_answerCounted_32 (by unfold p_X1_answerCounted; rw [if_neg c5])
def p_X1_answerKept (fa : CS → Option Nat → Int32 → Int32 → Int32 → Int64 × CS) (S : CS) (a1 : Nat) (a2 : Int32) (a3 : Int32) (a4 : Int32) : Int64 × CS := if (qRI S 7 a1) = 0 then (if (qI ((fa S (qRO S 3 a1) a2 a3 a4).2) 6) = 0 then ((fa S (qRO S 3 a1) a2 a3 a4).1, csRJ (csRI (csRI (csRI ((fa S (qRO S 3 a1) a2 a3 a4).2) 7 a1 1) 8 a1 a2) 9 a1 a3) a1 ((fa S (qRO S 3 a1) a2 a3 a4).1)) else (0, (fa S (qRO S 3 a1) a2 a3 a4).2)) else (if (qRI S 8 a1) = a2 then (if (qRI S 9 a1) = a3 then (qRJ S a1, S) else (if (qI ((fa S (qRO S 3 a1) a2 a3 a4).2) 6) = 0 then ((fa S (qRO S 3 a1) a2 a3 a4).1, csRJ (csRI (csRI (csRI ((fa S (qRO S 3 a1) a2 a3 a4).2) 7 a1 1) 8 a1 a2) 9 a1 a3) a1 ((fa S (qRO S 3 a1) a2 a3 a4).1)) else (0, (fa S (qRO S 3 a1) a2 a3 a4).2))) else (if (qI ((fa S (qRO S 3 a1) a2 a3 a4).2) 6) = 0 then ((fa S (qRO S 3 a1) a2 a3 a4).1, csRJ (csRI (csRI (csRI ((fa S (qRO S 3 a1) a2 a3 a4).2) 7 a1 1) 8 a1 a2) 9 a1 a3) a1 ((fa S (qRO S 3 a1) a2 a3 a4).1)) else (0, (fa S (qRO S 3 a1) a2 a3 a4).2)))
def ok_X1_answerKept (fa : CS → Option Nat → Int32 → Int32 → Int32 → Int64 × CS) (fo : CS → Option Nat → Int32 → Int32 → Int32 → Prop) (S : CS) (a1 : Nat) (a2 : Int32) (a3 : Int32) (a4 : Int32) : Prop := (a1 ∈ qL S ∧ qK S a1 = true) ∧ (((qRI S 7 a1) = 0 → ((a1 ∈ qL S ∧ qK S a1 = true) ∧ ((fo S (qRO S 3 a1) a2 a3 a4) ∧ (((qI ((fa S (qRO S 3 a1) a2 a3 a4).2) 6) = 0 → ((a1 ∈ qL ((fa S (qRO S 3 a1) a2 a3 a4).2) ∧ qK ((fa S (qRO S 3 a1) a2 a3 a4).2) a1 = true) ∧ ((a1 ∈ qL ((fa S (qRO S 3 a1) a2 a3 a4).2) ∧ qK ((fa S (qRO S 3 a1) a2 a3 a4).2) a1 = true) ∧ ((a1 ∈ qL ((fa S (qRO S 3 a1) a2 a3 a4).2) ∧ qK ((fa S (qRO S 3 a1) a2 a3 a4).2) a1 = true) ∧ ((a1 ∈ qL ((fa S (qRO S 3 a1) a2 a3 a4).2) ∧ qK ((fa S (qRO S 3 a1) a2 a3 a4).2) a1 = true) ∧ (True)))))) ∧ (¬ (qI ((fa S (qRO S 3 a1) a2 a3 a4).2) 6) = 0 → True))))) ∧ (¬ (qRI S 7 a1) = 0 → ((a1 ∈ qL S ∧ qK S a1 = true) ∧ (((qRI S 8 a1) = a2 → ((a1 ∈ qL S ∧ qK S a1 = true) ∧ (((qRI S 9 a1) = a3 → ((a1 ∈ qL S ∧ qK S a1 = true) ∧ (True))) ∧ (¬ (qRI S 9 a1) = a3 → ((a1 ∈ qL S ∧ qK S a1 = true) ∧ ((fo S (qRO S 3 a1) a2 a3 a4) ∧ (((qI ((fa S (qRO S 3 a1) a2 a3 a4).2) 6) = 0 → ((a1 ∈ qL ((fa S (qRO S 3 a1) a2 a3 a4).2) ∧ qK ((fa S (qRO S 3 a1) a2 a3 a4).2) a1 = true) ∧ ((a1 ∈ qL ((fa S (qRO S 3 a1) a2 a3 a4).2) ∧ qK ((fa S (qRO S 3 a1) a2 a3 a4).2) a1 = true) ∧ ((a1 ∈ qL ((fa S (qRO S 3 a1) a2 a3 a4).2) ∧ qK ((fa S (qRO S 3 a1) a2 a3 a4).2) a1 = true) ∧ ((a1 ∈ qL ((fa S (qRO S 3 a1) a2 a3 a4).2) ∧ qK ((fa S (qRO S 3 a1) a2 a3 a4).2) a1 = true) ∧ (True)))))) ∧ (¬ (qI ((fa S (qRO S 3 a1) a2 a3 a4).2) 6) = 0 → True)))))))) ∧ (¬ (qRI S 8 a1) = a2 → ((a1 ∈ qL S ∧ qK S a1 = true) ∧ ((fo S (qRO S 3 a1) a2 a3 a4) ∧ (((qI ((fa S (qRO S 3 a1) a2 a3 a4).2) 6) = 0 → ((a1 ∈ qL ((fa S (qRO S 3 a1) a2 a3 a4).2) ∧ qK ((fa S (qRO S 3 a1) a2 a3 a4).2) a1 = true) ∧ ((a1 ∈ qL ((fa S (qRO S 3 a1) a2 a3 a4).2) ∧ qK ((fa S (qRO S 3 a1) a2 a3 a4).2) a1 = true) ∧ ((a1 ∈ qL ((fa S (qRO S 3 a1) a2 a3 a4).2) ∧ qK ((fa S (qRO S 3 a1) a2 a3 a4).2) a1 = true) ∧ ((a1 ∈ qL ((fa S (qRO S 3 a1) a2 a3 a4).2) ∧ qK ((fa S (qRO S 3 a1) a2 a3 a4).2) a1 = true) ∧ (True)))))) ∧ (¬ (qI ((fa S (qRO S 3 a1) a2 a3 a4).2) 6) = 0 → True)))))))))
set_option maxHeartbeats 4000000 in
set_option maxRecDepth 100000 in
theorem c_X1_answerKept (l : Launch) (D : va_G) (x A0 A1 A2 : Nat) (cI cR cII : ClassId) (fa : CS → Option Nat → Int32 → Int32 → Int32 → Int64 × CS) (fo : CS → Option Nat → Int32 → Int32 → Int32 → Prop) (fr lc : Nat) (hM : ∀ (S : CS) (a1 : Option Nat) (a2 a3 a4 : Int32), fo S a1 a2 a3 a4 → MetJ l yX1_answer wsX1_answer ({ frames := fr, cells := 0, slots := 0, locals := lc } : Room) D (cKK D cI cR cII) (cW x A0 A1 A2 cI cR cII) S [.ref x, va_rf a1, .int a2, .int a3, .int a4] (fun r u => (r, u) = fa S a1 a2 a3 a4) 0 0) (S : CS) (a1 : Nat) (a2 : Int32) (a3 : Int32) (a4 : Int32) (hok : ok_X1_answerKept fa fo S a1 a2 a3 a4) : MetJ l yX1_answerKept wsX1_answerKept ({ frames := fr + 20, cells := 0, slots := 0, locals := lc + 400 } : Room) D (cKK D cI cR cII) (cW x A0 A1 A2 cI cR cII) S [.ref x, .ref a1, .int a2, .int a3, .int a4] (fun r u => (r, u) = p_X1_answerKept fa S a1 a2 a3 a4) 0 0 := by
  unfold ok_X1_answerKept at hok
  refine MetJ.of (cc := cX1_answerKept) (maxL := 7) (by decide) rfl (Nat.le_of_ble_eq_true rfl) ?_
  intro p e s m below meth c A ls hC hr hlk hnm hK hP hD hA hl
  obtain ⟨hx, hb, hml, hown, hts⟩ := id hC
  have hS : va_S A s.heap s.heap [] := va_S.rf
  have hin0 : ∀ w ∈ wsX00, w ∈ wsX1_answerKept := fun _ h => List.mem_cons_of_mem _ (List.mem_append_right _ h)
  have hin1 : ∀ w ∈ wsX10, w ∈ wsX1_answerKept := fun _ h => List.mem_cons_of_mem _ (List.mem_append_left _ (List.mem_append_right _ h))
  have hl : lv_has ls 7 [(0, .ref x), (1, .ref a1), (2, .int a2), (3, .int a3), (4, .int a4)] := hl
  refine lv_aload_n hx hb dX1_answerKept_0 rfl (lv_at hl 1 rfl) ?_
  obtain ⟨b1, hok⟩ := hok
  refine wc_getR hC hin0 hK hP b1.1 b1.2 7 (by decide) rfl (by decide +kernel) (rget_7 _ _) dX1_answerKept_1 ?_
  refine lv_if_eq (tgt := 28) hx hb dX1_answerKept_4 (by decide) (fun c2 => ?_) (fun c2 => ?_)
  · have hok := hok.1 c2
    refine lv_aload_n hx hb dX1_answerKept_28 rfl (lv_at hl 0 rfl) ?_
    refine lv_aload_n hx hb dX1_answerKept_29 rfl (lv_at hl 1 rfl) ?_
    obtain ⟨b3, hok⟩ := hok
    refine wc_getR hC hin0 hK hP b3.1 b3.2 3 (by decide) rfl (by decide +kernel) (rget_3 _ _) dX1_answerKept_30 ?_
    refine lv_iload_n hx hb dX1_answerKept_33 rfl (lv_at hl 2 rfl) ?_
    refine lv_iload_n hx hb dX1_answerKept_34 rfl (lv_at hl 3 rfl) ?_
    refine lv_iload hx hb dX1_answerKept_35 (lv_at hl 4 rfl) ?_
    obtain ⟨o4, hok⟩ := hok
    refine wx_callVj (As := [va_rf (qRO S 3 a1), .int a2, .int a3, .int a4]) (rest := []) kst_C hC (hM S (qRO S 3 a1) a2 a3 a4 o4) (cwV 4 hts gX1_answerKept_X1_answer rfl rfl rfl (by decide +kernel) ⟨by show fr + 1 ≤ fr + 20; omega, by show 8 + (5 + 11) + (lc) ≤ lc + 400; omega⟩) hK hP hD hS hA (wc_cell hK hP) rfl hl.1 rfl (Nat.le_of_ble_eq_true rfl) dX1_answerKept_37 ⟨Nat.le_of_ble_eq_true rfl, Nat.le_of_ble_eq_true rfl⟩ (fun r4 u4 H locs hw hP hD hS => ?_)
    obtain rfl : r4 = (fa S (qRO S 3 a1) a2 a3 a4).1 := congrArg Prod.fst hw
    obtain rfl : u4 = (fa S (qRO S 3 a1) a2 a3 a4).2 := congrArg Prod.snd hw
    refine lv_lstore (lv' := [(5, .long ((fa S (qRO S 3 a1) a2 a3 a4).1)), (0, .ref x), (1, .ref a1), (2, .int a2), (3, .int a3), (4, .int a4)]) hx hb dX1_answerKept_40 hl (by decide) rfl (fun ls hl => ?_)
    refine lv_aload_n hx hb dX1_answerKept_42 rfl (lv_at hl 1 rfl) ?_
    refine wc_get hC hin1 hK hP 6 (by decide) rfl (by decide +kernel) (dget_6 _ _ _ _) dX1_answerKept_43 ?_
    refine lv_if_eq (tgt := 51) hx hb dX1_answerKept_46 (by decide) (fun c5 => ?_) (fun c5 => ?_)
    · have hok := hok.1 c5
      refine lv_aload_n hx hb dX1_answerKept_51 rfl (lv_at hl 2 rfl) ?_
      refine lv_iconst (v := 1) hx hb dX1_answerKept_52 (by decide) ?_
      obtain ⟨b6, hok⟩ := hok
      refine wc_putR (v := .int 1) (ty := .boolean) hC hin0 hK hP hD hS b6.1 b6.2 7 (by decide) rfl (by decide +kernel) rfl (by decide +kernel) rfl rfl (csRI ((fa S (qRO S 3 a1) a2 a3 a4).2) 7 a1 1) rfl rfl rfl ⟨rfl, rfl⟩ ruL_RI_7 (fun b hb => ruL_RI_ne hb) dX1_answerKept_53 (fun H locs hP hD hS => ?_)
      refine lv_aload_n hx hb dX1_answerKept_56 rfl (lv_at hl 2 rfl) ?_
      refine lv_iload_n hx hb dX1_answerKept_57 rfl (lv_at hl 3 rfl) ?_
      obtain ⟨b7, hok⟩ := hok
      refine wc_putR (v := .int a2) (ty := .int) hC hin0 hK hP hD hS b7.1 b7.2 8 (by decide) rfl (by decide +kernel) rfl (by decide +kernel) rfl rfl (csRI (csRI ((fa S (qRO S 3 a1) a2 a3 a4).2) 7 a1 1) 8 a1 a2) rfl rfl rfl ⟨rfl, rfl⟩ ruL_RI_8 (fun b hb => ruL_RI_ne hb) dX1_answerKept_58 (fun H locs hP hD hS => ?_)
      refine lv_aload_n hx hb dX1_answerKept_61 rfl (lv_at hl 2 rfl) ?_
      refine lv_iload_n hx hb dX1_answerKept_62 rfl (lv_at hl 4 rfl) ?_
      obtain ⟨b8, hok⟩ := hok
      refine wc_putR (v := .int a3) (ty := .int) hC hin0 hK hP hD hS b8.1 b8.2 9 (by decide) rfl (by decide +kernel) rfl (by decide +kernel) rfl rfl (csRI (csRI (csRI ((fa S (qRO S 3 a1) a2 a3 a4).2) 7 a1 1) 8 a1 a2) 9 a1 a3) rfl rfl rfl ⟨rfl, rfl⟩ ruL_RI_9 (fun b hb => ruL_RI_ne hb) dX1_answerKept_63 (fun H locs hP hD hS => ?_)
      refine lv_aload_n hx hb dX1_answerKept_66 rfl (lv_at hl 2 rfl) ?_
      refine lv_lload hx hb dX1_answerKept_67 (lv_at hl 0 rfl) ?_
      obtain ⟨b9, hok⟩ := hok
      refine wc_putR (v := .long ((fa S (qRO S 3 a1) a2 a3 a4).1)) (ty := .long) hC hin0 hK hP hD hS b9.1 b9.2 10 (by decide) rfl (by decide +kernel) rfl (by decide +kernel) rfl rfl (csRJ (csRI (csRI (csRI ((fa S (qRO S 3 a1) a2 a3 a4).2) 7 a1 1) 8 a1 a2) 9 a1 a3) a1 ((fa S (qRO S 3 a1) a2 a3 a4).1)) rfl rfl rfl ⟨rfl, rfl⟩ ruL_RJ_10 (fun b hb => ruL_RJ_ne hb) dX1_answerKept_69 (fun H locs hP hD hS => ?_)
      refine lv_lload hx hb dX1_answerKept_72 (lv_at hl 0 rfl) ?_
      exact wx_retj kst_C (csRJ (csRI (csRI (csRI ((fa S (qRO S 3 a1) a2 a3 a4).2) 7 a1 1) 8 a1 a2) 9 a1 a3) a1 ((fa S (qRO S 3 a1) a2 a3 a4).1)) hx hb hr hlk hK hP hD hS dX1_answerKept_74 (by unfold p_X1_answerKept; rw [if_pos c2, if_pos c5])
    · have hok := hok.2 c5
      refine lv_lconst (v := 0) hx hb dX1_answerKept_49 (by decide) ?_
      exact wx_retj kst_C ((fa S (qRO S 3 a1) a2 a3 a4).2) hx hb hr hlk hK hP hD hS dX1_answerKept_50 (by unfold p_X1_answerKept; rw [if_pos c2, if_neg c5])
  · have hok := hok.2 c2
    refine lv_aload_n hx hb dX1_answerKept_7 rfl (lv_at hl 1 rfl) ?_
    obtain ⟨b10, hok⟩ := hok
    refine wc_getR hC hin0 hK hP b10.1 b10.2 8 (by decide) rfl (by decide +kernel) (rget_8 _ _) dX1_answerKept_8 ?_
    refine lv_iload_n hx hb dX1_answerKept_11 rfl (lv_at hl 2 rfl) ?_
    refine lv_icmp_ne (tgt := 28) hx hb dX1_answerKept_12 (by decide) (fun c11 => ?_) (fun c11 => ?_)
    · have hok := hok.2 c11
      refine lv_aload_n hx hb dX1_answerKept_28 rfl (lv_at hl 0 rfl) ?_
      refine lv_aload_n hx hb dX1_answerKept_29 rfl (lv_at hl 1 rfl) ?_
      obtain ⟨b12, hok⟩ := hok
      refine wc_getR hC hin0 hK hP b12.1 b12.2 3 (by decide) rfl (by decide +kernel) (rget_3 _ _) dX1_answerKept_30 ?_
      refine lv_iload_n hx hb dX1_answerKept_33 rfl (lv_at hl 2 rfl) ?_
      refine lv_iload_n hx hb dX1_answerKept_34 rfl (lv_at hl 3 rfl) ?_
      refine lv_iload hx hb dX1_answerKept_35 (lv_at hl 4 rfl) ?_
      obtain ⟨o13, hok⟩ := hok
      refine wx_callVj (As := [va_rf (qRO S 3 a1), .int a2, .int a3, .int a4]) (rest := []) kst_C hC (hM S (qRO S 3 a1) a2 a3 a4 o13) (cwV 4 hts gX1_answerKept_X1_answer rfl rfl rfl (by decide +kernel) ⟨by show fr + 1 ≤ fr + 20; omega, by show 8 + (5 + 11) + (lc) ≤ lc + 400; omega⟩) hK hP hD hS hA (wc_cell hK hP) rfl hl.1 rfl (Nat.le_of_ble_eq_true rfl) dX1_answerKept_37 ⟨Nat.le_of_ble_eq_true rfl, Nat.le_of_ble_eq_true rfl⟩ (fun r13 u13 H locs hw hP hD hS => ?_)
      obtain rfl : r13 = (fa S (qRO S 3 a1) a2 a3 a4).1 := congrArg Prod.fst hw
      obtain rfl : u13 = (fa S (qRO S 3 a1) a2 a3 a4).2 := congrArg Prod.snd hw
      refine lv_lstore (lv' := [(5, .long ((fa S (qRO S 3 a1) a2 a3 a4).1)), (0, .ref x), (1, .ref a1), (2, .int a2), (3, .int a3), (4, .int a4)]) hx hb dX1_answerKept_40 hl (by decide) rfl (fun ls hl => ?_)
      refine lv_aload_n hx hb dX1_answerKept_42 rfl (lv_at hl 1 rfl) ?_
      refine wc_get hC hin1 hK hP 6 (by decide) rfl (by decide +kernel) (dget_6 _ _ _ _) dX1_answerKept_43 ?_
      refine lv_if_eq (tgt := 51) hx hb dX1_answerKept_46 (by decide) (fun c14 => ?_) (fun c14 => ?_)
      · have hok := hok.1 c14
        refine lv_aload_n hx hb dX1_answerKept_51 rfl (lv_at hl 2 rfl) ?_
        refine lv_iconst (v := 1) hx hb dX1_answerKept_52 (by decide) ?_
        obtain ⟨b15, hok⟩ := hok
        refine wc_putR (v := .int 1) (ty := .boolean) hC hin0 hK hP hD hS b15.1 b15.2 7 (by decide) rfl (by decide +kernel) rfl (by decide +kernel) rfl rfl (csRI ((fa S (qRO S 3 a1) a2 a3 a4).2) 7 a1 1) rfl rfl rfl ⟨rfl, rfl⟩ ruL_RI_7 (fun b hb => ruL_RI_ne hb) dX1_answerKept_53 (fun H locs hP hD hS => ?_)
        refine lv_aload_n hx hb dX1_answerKept_56 rfl (lv_at hl 2 rfl) ?_
        refine lv_iload_n hx hb dX1_answerKept_57 rfl (lv_at hl 3 rfl) ?_
        obtain ⟨b16, hok⟩ := hok
        refine wc_putR (v := .int a2) (ty := .int) hC hin0 hK hP hD hS b16.1 b16.2 8 (by decide) rfl (by decide +kernel) rfl (by decide +kernel) rfl rfl (csRI (csRI ((fa S (qRO S 3 a1) a2 a3 a4).2) 7 a1 1) 8 a1 a2) rfl rfl rfl ⟨rfl, rfl⟩ ruL_RI_8 (fun b hb => ruL_RI_ne hb) dX1_answerKept_58 (fun H locs hP hD hS => ?_)
        refine lv_aload_n hx hb dX1_answerKept_61 rfl (lv_at hl 2 rfl) ?_
        refine lv_iload_n hx hb dX1_answerKept_62 rfl (lv_at hl 4 rfl) ?_
        obtain ⟨b17, hok⟩ := hok
        refine wc_putR (v := .int a3) (ty := .int) hC hin0 hK hP hD hS b17.1 b17.2 9 (by decide) rfl (by decide +kernel) rfl (by decide +kernel) rfl rfl (csRI (csRI (csRI ((fa S (qRO S 3 a1) a2 a3 a4).2) 7 a1 1) 8 a1 a2) 9 a1 a3) rfl rfl rfl ⟨rfl, rfl⟩ ruL_RI_9 (fun b hb => ruL_RI_ne hb) dX1_answerKept_63 (fun H locs hP hD hS => ?_)
        refine lv_aload_n hx hb dX1_answerKept_66 rfl (lv_at hl 2 rfl) ?_
        refine lv_lload hx hb dX1_answerKept_67 (lv_at hl 0 rfl) ?_
        obtain ⟨b18, hok⟩ := hok
        refine wc_putR (v := .long ((fa S (qRO S 3 a1) a2 a3 a4).1)) (ty := .long) hC hin0 hK hP hD hS b18.1 b18.2 10 (by decide) rfl (by decide +kernel) rfl (by decide +kernel) rfl rfl (csRJ (csRI (csRI (csRI ((fa S (qRO S 3 a1) a2 a3 a4).2) 7 a1 1) 8 a1 a2) 9 a1 a3) a1 ((fa S (qRO S 3 a1) a2 a3 a4).1)) rfl rfl rfl ⟨rfl, rfl⟩ ruL_RJ_10 (fun b hb => ruL_RJ_ne hb) dX1_answerKept_69 (fun H locs hP hD hS => ?_)
        refine lv_lload hx hb dX1_answerKept_72 (lv_at hl 0 rfl) ?_
        exact wx_retj kst_C (csRJ (csRI (csRI (csRI ((fa S (qRO S 3 a1) a2 a3 a4).2) 7 a1 1) 8 a1 a2) 9 a1 a3) a1 ((fa S (qRO S 3 a1) a2 a3 a4).1)) hx hb hr hlk hK hP hD hS dX1_answerKept_74 (by unfold p_X1_answerKept; rw [if_neg c2, if_neg c11, if_pos c14])
      · have hok := hok.2 c14
        refine lv_lconst (v := 0) hx hb dX1_answerKept_49 (by decide) ?_
        exact wx_retj kst_C ((fa S (qRO S 3 a1) a2 a3 a4).2) hx hb hr hlk hK hP hD hS dX1_answerKept_50 (by unfold p_X1_answerKept; rw [if_neg c2, if_neg c11, if_neg c14])
    · have hok := hok.1 c11
      refine lv_aload_n hx hb dX1_answerKept_15 rfl (lv_at hl 1 rfl) ?_
      obtain ⟨b19, hok⟩ := hok
      refine wc_getR hC hin0 hK hP b19.1 b19.2 9 (by decide) rfl (by decide +kernel) (rget_9 _ _) dX1_answerKept_16 ?_
      refine lv_iload_n hx hb dX1_answerKept_19 rfl (lv_at hl 3 rfl) ?_
      refine lv_icmp_ne (tgt := 28) hx hb dX1_answerKept_20 (by decide) (fun c20 => ?_) (fun c20 => ?_)
      · have hok := hok.2 c20
        refine lv_aload_n hx hb dX1_answerKept_28 rfl (lv_at hl 0 rfl) ?_
        refine lv_aload_n hx hb dX1_answerKept_29 rfl (lv_at hl 1 rfl) ?_
        obtain ⟨b21, hok⟩ := hok
        refine wc_getR hC hin0 hK hP b21.1 b21.2 3 (by decide) rfl (by decide +kernel) (rget_3 _ _) dX1_answerKept_30 ?_
        refine lv_iload_n hx hb dX1_answerKept_33 rfl (lv_at hl 2 rfl) ?_
        refine lv_iload_n hx hb dX1_answerKept_34 rfl (lv_at hl 3 rfl) ?_
        refine lv_iload hx hb dX1_answerKept_35 (lv_at hl 4 rfl) ?_
        obtain ⟨o22, hok⟩ := hok
        refine wx_callVj (As := [va_rf (qRO S 3 a1), .int a2, .int a3, .int a4]) (rest := []) kst_C hC (hM S (qRO S 3 a1) a2 a3 a4 o22) (cwV 4 hts gX1_answerKept_X1_answer rfl rfl rfl (by decide +kernel) ⟨by show fr + 1 ≤ fr + 20; omega, by show 8 + (5 + 11) + (lc) ≤ lc + 400; omega⟩) hK hP hD hS hA (wc_cell hK hP) rfl hl.1 rfl (Nat.le_of_ble_eq_true rfl) dX1_answerKept_37 ⟨Nat.le_of_ble_eq_true rfl, Nat.le_of_ble_eq_true rfl⟩ (fun r22 u22 H locs hw hP hD hS => ?_)
        obtain rfl : r22 = (fa S (qRO S 3 a1) a2 a3 a4).1 := congrArg Prod.fst hw
        obtain rfl : u22 = (fa S (qRO S 3 a1) a2 a3 a4).2 := congrArg Prod.snd hw
        refine lv_lstore (lv' := [(5, .long ((fa S (qRO S 3 a1) a2 a3 a4).1)), (0, .ref x), (1, .ref a1), (2, .int a2), (3, .int a3), (4, .int a4)]) hx hb dX1_answerKept_40 hl (by decide) rfl (fun ls hl => ?_)
        refine lv_aload_n hx hb dX1_answerKept_42 rfl (lv_at hl 1 rfl) ?_
        refine wc_get hC hin1 hK hP 6 (by decide) rfl (by decide +kernel) (dget_6 _ _ _ _) dX1_answerKept_43 ?_
        refine lv_if_eq (tgt := 51) hx hb dX1_answerKept_46 (by decide) (fun c23 => ?_) (fun c23 => ?_)
        · have hok := hok.1 c23
          refine lv_aload_n hx hb dX1_answerKept_51 rfl (lv_at hl 2 rfl) ?_
          refine lv_iconst (v := 1) hx hb dX1_answerKept_52 (by decide) ?_
          obtain ⟨b24, hok⟩ := hok
          refine wc_putR (v := .int 1) (ty := .boolean) hC hin0 hK hP hD hS b24.1 b24.2 7 (by decide) rfl (by decide +kernel) rfl (by decide +kernel) rfl rfl (csRI ((fa S (qRO S 3 a1) a2 a3 a4).2) 7 a1 1) rfl rfl rfl ⟨rfl, rfl⟩ ruL_RI_7 (fun b hb => ruL_RI_ne hb) dX1_answerKept_53 (fun H locs hP hD hS => ?_)
          refine lv_aload_n hx hb dX1_answerKept_56 rfl (lv_at hl 2 rfl) ?_
          refine lv_iload_n hx hb dX1_answerKept_57 rfl (lv_at hl 3 rfl) ?_
          obtain ⟨b25, hok⟩ := hok
          refine wc_putR (v := .int a2) (ty := .int) hC hin0 hK hP hD hS b25.1 b25.2 8 (by decide) rfl (by decide +kernel) rfl (by decide +kernel) rfl rfl (csRI (csRI ((fa S (qRO S 3 a1) a2 a3 a4).2) 7 a1 1) 8 a1 a2) rfl rfl rfl ⟨rfl, rfl⟩ ruL_RI_8 (fun b hb => ruL_RI_ne hb) dX1_answerKept_58 (fun H locs hP hD hS => ?_)
          refine lv_aload_n hx hb dX1_answerKept_61 rfl (lv_at hl 2 rfl) ?_
          refine lv_iload_n hx hb dX1_answerKept_62 rfl (lv_at hl 4 rfl) ?_
          obtain ⟨b26, hok⟩ := hok
          refine wc_putR (v := .int a3) (ty := .int) hC hin0 hK hP hD hS b26.1 b26.2 9 (by decide) rfl (by decide +kernel) rfl (by decide +kernel) rfl rfl (csRI (csRI (csRI ((fa S (qRO S 3 a1) a2 a3 a4).2) 7 a1 1) 8 a1 a2) 9 a1 a3) rfl rfl rfl ⟨rfl, rfl⟩ ruL_RI_9 (fun b hb => ruL_RI_ne hb) dX1_answerKept_63 (fun H locs hP hD hS => ?_)
          refine lv_aload_n hx hb dX1_answerKept_66 rfl (lv_at hl 2 rfl) ?_
          refine lv_lload hx hb dX1_answerKept_67 (lv_at hl 0 rfl) ?_
          obtain ⟨b27, hok⟩ := hok
          refine wc_putR (v := .long ((fa S (qRO S 3 a1) a2 a3 a4).1)) (ty := .long) hC hin0 hK hP hD hS b27.1 b27.2 10 (by decide) rfl (by decide +kernel) rfl (by decide +kernel) rfl rfl (csRJ (csRI (csRI (csRI ((fa S (qRO S 3 a1) a2 a3 a4).2) 7 a1 1) 8 a1 a2) 9 a1 a3) a1 ((fa S (qRO S 3 a1) a2 a3 a4).1)) rfl rfl rfl ⟨rfl, rfl⟩ ruL_RJ_10 (fun b hb => ruL_RJ_ne hb) dX1_answerKept_69 (fun H locs hP hD hS => ?_)
          refine lv_lload hx hb dX1_answerKept_72 (lv_at hl 0 rfl) ?_
          exact wx_retj kst_C (csRJ (csRI (csRI (csRI ((fa S (qRO S 3 a1) a2 a3 a4).2) 7 a1 1) 8 a1 a2) 9 a1 a3) a1 ((fa S (qRO S 3 a1) a2 a3 a4).1)) hx hb hr hlk hK hP hD hS dX1_answerKept_74 (by unfold p_X1_answerKept; rw [if_neg c2, if_pos c11, if_neg c20, if_pos c23])
        · have hok := hok.2 c23
          refine lv_lconst (v := 0) hx hb dX1_answerKept_49 (by decide) ?_
          exact wx_retj kst_C ((fa S (qRO S 3 a1) a2 a3 a4).2) hx hb hr hlk hK hP hD hS dX1_answerKept_50 (by unfold p_X1_answerKept; rw [if_neg c2, if_pos c11, if_neg c20, if_neg c23])
      · have hok := hok.1 c20
        refine lv_aload_n hx hb dX1_answerKept_23 rfl (lv_at hl 1 rfl) ?_
        obtain ⟨b28, hok⟩ := hok
        refine wc_getR hC hin0 hK hP b28.1 b28.2 10 (by decide) rfl (by decide +kernel) (rget_10 _ _) dX1_answerKept_24 ?_
        exact wx_retj kst_C S hx hb hr hlk hK hP hD hS dX1_answerKept_27 (by unfold p_X1_answerKept; rw [if_neg c2, if_pos c11, if_pos c20])
def p_X1_answerByKind (fa : CS → Option Nat → Int32 → Int32 → Int32 → Int64 × CS) (S : CS) (a1 : Nat) (a2 : Int32) (a3 : Int32) (a4 : Int32) : Int64 × CS := if (qRI S 0 a1) = 0 then ((qRI S 1 a1).toInt64, S) else (if (qRI S 0 a1) = 1 then (a2.toInt64 * ((qRI S 1 a1).toInt64), S) else (if (qRI S 0 a1) = 2 then (a2.toInt64 * ((p_X1_rateNow S (qRI S 1 a1)).toInt64), S) else (if (qRI S 0 a1) = 3 then ((p_X1_answerBooked S a1 a3).1, (p_X1_answerBooked S a1 a3).2) else (if (qRI S 0 a1) = 4 then ((p_X1_answerJoined fa S a1 a2 a3 a4).1, (p_X1_answerJoined fa S a1 a2 a3 a4).2) else (if (qRI S 0 a1) = 5 then ((p_X1_answerWhen fa S a1 a2 a3 a4).1, (p_X1_answerWhen fa S a1 a2 a3 a4).2) else (if (qRI S 0 a1) = 6 then ((fa S (qRO S 3 a1) a2 (qRI S 1 a1) a4).1, (fa S (qRO S 3 a1) a2 (qRI S 1 a1) a4).2) else (if (qRI S 0 a1) = 7 then ((p_X1_answerFed fa S a1 a2 a3 a4).1, (p_X1_answerFed fa S a1 a2 a3 a4).2) else (if (qRI S 0 a1) = 8 then ((p_X1_answerGuarded fa S a1 a2 a3 a4).1, (p_X1_answerGuarded fa S a1 a2 a3 a4).2) else (if (qRI S 0 a1) = 9 then ((fa S (p_X1_ruleNow S (qRI S 1 a1)) a2 a3 a4).1, (fa S (p_X1_ruleNow S (qRI S 1 a1)) a2 a3 a4).2) else (if (qRI S 0 a1) = 10 then (if a2 ≤ (qRI S 1 a1) then ((fa S (qRO S 3 a1) a2 a3 a4).1, (fa S (qRO S 3 a1) a2 a3 a4).2) else ((p_X1_fail S (-5)).1, (p_X1_fail S (-5)).2)) else (if (qRI S 0 a1) = 11 then ((p_X1_answerCounted fa S a1 a2 a3 a4).1, (p_X1_answerCounted fa S a1 a2 a3 a4).2) else (if (qRI S 0 a1) = 12 then ((p_X1_answerKept fa S a1 a2 a3 a4).1, (p_X1_answerKept fa S a1 a2 a3 a4).2) else ((p_X1_answerKept fa S a1 a2 a3 a4).1, (p_X1_answerKept fa S a1 a2 a3 a4).2)))))))))))))
def ok_X1_answerByKind (fa : CS → Option Nat → Int32 → Int32 → Int32 → Int64 × CS) (fo : CS → Option Nat → Int32 → Int32 → Int32 → Prop) (S : CS) (a1 : Nat) (a2 : Int32) (a3 : Int32) (a4 : Int32) : Prop := (a1 ∈ qL S ∧ qK S a1 = true) ∧ (((qRI S 0 a1) = 0 → ((a1 ∈ qL S ∧ qK S a1 = true) ∧ (True))) ∧ (¬ (qRI S 0 a1) = 0 → (((qRI S 0 a1) = 1 → ((a1 ∈ qL S ∧ qK S a1 = true) ∧ (True))) ∧ (¬ (qRI S 0 a1) = 1 → (((qRI S 0 a1) = 2 → ((a1 ∈ qL S ∧ qK S a1 = true) ∧ ((ok_X1_rateNow S (qRI S 1 a1)) ∧ (True)))) ∧ (¬ (qRI S 0 a1) = 2 → (((qRI S 0 a1) = 3 → ((ok_X1_answerBooked S a1 a3) ∧ (True))) ∧ (¬ (qRI S 0 a1) = 3 → (((qRI S 0 a1) = 4 → ((ok_X1_answerJoined fa fo S a1 a2 a3 a4) ∧ (True))) ∧ (¬ (qRI S 0 a1) = 4 → (((qRI S 0 a1) = 5 → ((ok_X1_answerWhen fa fo S a1 a2 a3 a4) ∧ (True))) ∧ (¬ (qRI S 0 a1) = 5 → (((qRI S 0 a1) = 6 → ((a1 ∈ qL S ∧ qK S a1 = true) ∧ ((a1 ∈ qL S ∧ qK S a1 = true) ∧ ((fo S (qRO S 3 a1) a2 (qRI S 1 a1) a4) ∧ (True))))) ∧ (¬ (qRI S 0 a1) = 6 → (((qRI S 0 a1) = 7 → ((ok_X1_answerFed fa fo S a1 a2 a3 a4) ∧ (True))) ∧ (¬ (qRI S 0 a1) = 7 → (((qRI S 0 a1) = 8 → ((ok_X1_answerGuarded fa fo S a1 a2 a3 a4) ∧ (True))) ∧ (¬ (qRI S 0 a1) = 8 → (((qRI S 0 a1) = 9 → ((a1 ∈ qL S ∧ qK S a1 = true) ∧ ((ok_X1_ruleNow S (qRI S 1 a1)) ∧ ((fo S (p_X1_ruleNow S (qRI S 1 a1)) a2 a3 a4) ∧ (True))))) ∧ (¬ (qRI S 0 a1) = 9 → (((qRI S 0 a1) = 10 → ((a1 ∈ qL S ∧ qK S a1 = true) ∧ ((a2 ≤ (qRI S 1 a1) → ((a1 ∈ qL S ∧ qK S a1 = true) ∧ ((fo S (qRO S 3 a1) a2 a3 a4) ∧ (True)))) ∧ (¬ a2 ≤ (qRI S 1 a1) → ((ok_X1_fail S (-5)) ∧ (True)))))) ∧ (¬ (qRI S 0 a1) = 10 → (((qRI S 0 a1) = 11 → ((ok_X1_answerCounted fa fo S a1 a2 a3 a4) ∧ (True))) ∧ (¬ (qRI S 0 a1) = 11 → (((qRI S 0 a1) = 12 → ((ok_X1_answerKept fa fo S a1 a2 a3 a4) ∧ (True))) ∧ (¬ (qRI S 0 a1) = 12 → ((ok_X1_answerKept fa fo S a1 a2 a3 a4) ∧ (True))))))))))))))))))))))))))))
set_option maxHeartbeats 4000000 in
set_option maxRecDepth 100000 in
theorem c_X1_answerByKind (l : Launch) (D : va_G) (x A0 A1 A2 : Nat) (cI cR cII : ClassId) (fa : CS → Option Nat → Int32 → Int32 → Int32 → Int64 × CS) (fo : CS → Option Nat → Int32 → Int32 → Int32 → Prop) (fr lc : Nat) (hM : ∀ (S : CS) (a1 : Option Nat) (a2 a3 a4 : Int32), fo S a1 a2 a3 a4 → MetJ l yX1_answer wsX1_answer ({ frames := fr, cells := 0, slots := 0, locals := lc } : Room) D (cKK D cI cR cII) (cW x A0 A1 A2 cI cR cII) S [.ref x, va_rf a1, .int a2, .int a3, .int a4] (fun r u => (r, u) = fa S a1 a2 a3 a4) 0 0) (S : CS) (a1 : Nat) (a2 : Int32) (a3 : Int32) (a4 : Int32) (hok : ok_X1_answerByKind fa fo S a1 a2 a3 a4) : MetJ l yX1_answerByKind wsX1_answerByKind ({ frames := fr + 40, cells := 0, slots := 0, locals := lc + 800 } : Room) D (cKK D cI cR cII) (cW x A0 A1 A2 cI cR cII) S [.ref x, .ref a1, .int a2, .int a3, .int a4] (fun r u => (r, u) = p_X1_answerByKind fa S a1 a2 a3 a4) 0 0 := by
  unfold ok_X1_answerByKind at hok
  refine MetJ.of (cc := cX1_answerByKind) (maxL := 5) (by decide) rfl (Nat.le_of_ble_eq_true rfl) ?_
  intro p e s m below meth c A ls hC hr hlk hnm hK hP hD hA hl
  obtain ⟨hx, hb, hml, hown, hts⟩ := id hC
  have hS : va_S A s.heap s.heap [] := va_S.rf
  have hin0 : ∀ w ∈ wsX00, w ∈ wsX1_answerByKind := fun _ h => List.mem_cons_of_mem _ (List.mem_append_right _ h)
  have hin1 : ∀ w ∈ wsX10, w ∈ wsX1_answerByKind := fun _ h => List.mem_cons_of_mem _ (List.mem_append_left _ (List.mem_append_right _ h))
  have hl : lv_has ls 5 [(0, .ref x), (1, .ref a1), (2, .int a2), (3, .int a3), (4, .int a4)] := hl
  refine lv_aload_n hx hb dX1_answerByKind_0 rfl (lv_at hl 1 rfl) ?_
  obtain ⟨b1, hok⟩ := hok
  refine wc_getR hC hin0 hK hP b1.1 b1.2 0 (by decide) rfl (by decide +kernel) (rget_0 _ _) dX1_answerByKind_1 ?_
  by_cases c2 : qRI S 0 a1 = 0
  · have hok := hok.1 c2
    refine lv_tableIn (tgt := 72) hx hb dX1_answerByKind_4 (by rw [c2]; decide) (by rw [c2]; decide) (by rw [c2]; rfl) (by decide) ?_
    refine lv_aload_n hx hb dX1_answerByKind_72 rfl (lv_at hl 1 rfl) ?_
    obtain ⟨b3, hok⟩ := hok
    refine wc_getR hC hin0 hK hP b3.1 b3.2 1 (by decide) rfl (by decide +kernel) (rget_1 _ _) dX1_answerByKind_73 ?_
    refine lv_i2l (v := (qRI S 1 a1).toInt64) hx hb dX1_answerByKind_76 rfl ?_
    exact wx_retj kst_C S hx hb hr hlk hK hP hD hS dX1_answerByKind_77 (by unfold p_X1_answerByKind; rw [if_pos c2])
  have hok := hok.2 c2
  by_cases c4 : qRI S 0 a1 = 1
  · have hok := hok.1 c4
    refine lv_tableIn (tgt := 78) hx hb dX1_answerByKind_4 (by rw [c4]; decide) (by rw [c4]; decide) (by rw [c4]; rfl) (by decide) ?_
    refine lv_iload_n hx hb dX1_answerByKind_78 rfl (lv_at hl 2 rfl) ?_
    refine lv_i2l (v := a2.toInt64) hx hb dX1_answerByKind_79 rfl ?_
    refine lv_aload_n hx hb dX1_answerByKind_80 rfl (lv_at hl 1 rfl) ?_
    obtain ⟨b5, hok⟩ := hok
    refine wc_getR hC hin0 hK hP b5.1 b5.2 1 (by decide) rfl (by decide +kernel) (rget_1 _ _) dX1_answerByKind_81 ?_
    refine lv_i2l (v := (qRI S 1 a1).toInt64) hx hb dX1_answerByKind_84 rfl ?_
    refine lv_lmul hx hb dX1_answerByKind_85 ?_
    exact wx_retj kst_C S hx hb hr hlk hK hP hD hS dX1_answerByKind_86 (by unfold p_X1_answerByKind; rw [if_neg c2, if_pos c4])
  have hok := hok.2 c4
  by_cases c6 : qRI S 0 a1 = 2
  · have hok := hok.1 c6
    refine lv_tableIn (tgt := 87) hx hb dX1_answerByKind_4 (by rw [c6]; decide) (by rw [c6]; decide) (by rw [c6]; rfl) (by decide) ?_
    refine lv_iload_n hx hb dX1_answerByKind_87 rfl (lv_at hl 2 rfl) ?_
    refine lv_i2l (v := a2.toInt64) hx hb dX1_answerByKind_88 rfl ?_
    refine lv_aload_n hx hb dX1_answerByKind_89 rfl (lv_at hl 0 rfl) ?_
    refine lv_aload_n hx hb dX1_answerByKind_90 rfl (lv_at hl 1 rfl) ?_
    obtain ⟨b7, hok⟩ := hok
    refine wc_getR hC hin0 hK hP b7.1 b7.2 1 (by decide) rfl (by decide +kernel) (rget_1 _ _) dX1_answerByKind_91 ?_
    obtain ⟨o8, hok⟩ := hok
    refine wx_callVi (As := [.int (qRI S 1 a1)]) (rest := [.long a2.toInt64]) kst_C hC (c_X1_rateNow l D x A0 A1 A2 cI cR cII S (qRI S 1 a1) o8) (cwV 1 hts gX1_answerByKind_X1_rateNow rfl rfl rfl (by decide +kernel) ⟨by show 1 + 1 ≤ fr + 40; omega, by show 8 + (2 + 11) + (21) ≤ lc + 800; omega⟩) hK hP hD hS hA (wc_cell hK hP) rfl hl.1 rfl (Nat.le_of_ble_eq_true rfl) dX1_answerByKind_94 ⟨Nat.le_of_ble_eq_true rfl, Nat.le_of_ble_eq_true rfl⟩ (fun r8 u8 H locs hw hP hD hS => ?_)
    obtain rfl : p_X1_rateNow S (qRI S 1 a1) = r8 := hw.1.symm
    obtain rfl : S = u8 := hw.2.symm
    refine lv_i2l (v := (p_X1_rateNow S (qRI S 1 a1)).toInt64) hx hb dX1_answerByKind_97 rfl ?_
    refine lv_lmul hx hb dX1_answerByKind_98 ?_
    exact wx_retj kst_C S hx hb hr hlk hK hP hD hS dX1_answerByKind_99 (by unfold p_X1_answerByKind; rw [if_neg c2, if_neg c4, if_pos c6])
  have hok := hok.2 c6
  by_cases c9 : qRI S 0 a1 = 3
  · have hok := hok.1 c9
    refine lv_tableIn (tgt := 100) hx hb dX1_answerByKind_4 (by rw [c9]; decide) (by rw [c9]; decide) (by rw [c9]; rfl) (by decide) ?_
    refine lv_aload_n hx hb dX1_answerByKind_100 rfl (lv_at hl 0 rfl) ?_
    refine lv_aload_n hx hb dX1_answerByKind_101 rfl (lv_at hl 1 rfl) ?_
    refine lv_iload_n hx hb dX1_answerByKind_102 rfl (lv_at hl 3 rfl) ?_
    obtain ⟨o10, hok⟩ := hok
    refine wx_callVj (As := [.ref a1, .int a3]) (rest := []) kst_C hC (c_X1_answerBooked l D x A0 A1 A2 cI cR cII S a1 a3 o10) (cwV 2 hts gX1_answerByKind_X1_answerBooked rfl rfl rfl (by decide +kernel) ⟨by show 1 + 1 ≤ fr + 40; omega, by show 8 + (3 + 11) + (21) ≤ lc + 800; omega⟩) hK hP hD hS hA (wc_cell hK hP) rfl hl.1 rfl (Nat.le_of_ble_eq_true rfl) dX1_answerByKind_103 ⟨Nat.le_of_ble_eq_true rfl, Nat.le_of_ble_eq_true rfl⟩ (fun r10 u10 H locs hw hP hD hS => ?_)
    obtain rfl : r10 = (p_X1_answerBooked S a1 a3).1 := congrArg Prod.fst hw
    obtain rfl : u10 = (p_X1_answerBooked S a1 a3).2 := congrArg Prod.snd hw
    exact wx_retj kst_C ((p_X1_answerBooked S a1 a3).2) hx hb hr hlk hK hP hD hS dX1_answerByKind_106 (by unfold p_X1_answerByKind; rw [if_neg c2, if_neg c4, if_neg c6, if_pos c9])
  have hok := hok.2 c9
  by_cases c11 : qRI S 0 a1 = 4
  · have hok := hok.1 c11
    refine lv_tableIn (tgt := 107) hx hb dX1_answerByKind_4 (by rw [c11]; decide) (by rw [c11]; decide) (by rw [c11]; rfl) (by decide) ?_
    refine lv_aload_n hx hb dX1_answerByKind_107 rfl (lv_at hl 0 rfl) ?_
    refine lv_aload_n hx hb dX1_answerByKind_108 rfl (lv_at hl 1 rfl) ?_
    refine lv_iload_n hx hb dX1_answerByKind_109 rfl (lv_at hl 2 rfl) ?_
    refine lv_iload_n hx hb dX1_answerByKind_110 rfl (lv_at hl 3 rfl) ?_
    refine lv_iload hx hb dX1_answerByKind_111 (lv_at hl 4 rfl) ?_
    obtain ⟨o12, hok⟩ := hok
    refine wx_callVj (As := [.ref a1, .int a2, .int a3, .int a4]) (rest := []) kst_C hC (c_X1_answerJoined l D x A0 A1 A2 cI cR cII fa fo fr lc hM S a1 a2 a3 a4 o12) (cwV 4 hts gX1_answerByKind_X1_answerJoined rfl rfl rfl (by decide +kernel) ⟨by show fr + 20 + 1 ≤ fr + 40; omega, by show 8 + (9 + 11) + (lc + 400) ≤ lc + 800; omega⟩) hK hP hD hS hA (wc_cell hK hP) rfl hl.1 rfl (Nat.le_of_ble_eq_true rfl) dX1_answerByKind_113 ⟨Nat.le_of_ble_eq_true rfl, Nat.le_of_ble_eq_true rfl⟩ (fun r12 u12 H locs hw hP hD hS => ?_)
    obtain rfl : r12 = (p_X1_answerJoined fa S a1 a2 a3 a4).1 := congrArg Prod.fst hw
    obtain rfl : u12 = (p_X1_answerJoined fa S a1 a2 a3 a4).2 := congrArg Prod.snd hw
    exact wx_retj kst_C ((p_X1_answerJoined fa S a1 a2 a3 a4).2) hx hb hr hlk hK hP hD hS dX1_answerByKind_116 (by unfold p_X1_answerByKind; rw [if_neg c2, if_neg c4, if_neg c6, if_neg c9, if_pos c11])
  have hok := hok.2 c11
  by_cases c13 : qRI S 0 a1 = 5
  · have hok := hok.1 c13
    refine lv_tableIn (tgt := 117) hx hb dX1_answerByKind_4 (by rw [c13]; decide) (by rw [c13]; decide) (by rw [c13]; rfl) (by decide) ?_
    refine lv_aload_n hx hb dX1_answerByKind_117 rfl (lv_at hl 0 rfl) ?_
    refine lv_aload_n hx hb dX1_answerByKind_118 rfl (lv_at hl 1 rfl) ?_
    refine lv_iload_n hx hb dX1_answerByKind_119 rfl (lv_at hl 2 rfl) ?_
    refine lv_iload_n hx hb dX1_answerByKind_120 rfl (lv_at hl 3 rfl) ?_
    refine lv_iload hx hb dX1_answerByKind_121 (lv_at hl 4 rfl) ?_
    obtain ⟨o14, hok⟩ := hok
    refine wx_callVj (As := [.ref a1, .int a2, .int a3, .int a4]) (rest := []) kst_C hC (c_X1_answerWhen l D x A0 A1 A2 cI cR cII fa fo fr lc hM S a1 a2 a3 a4 o14) (cwV 4 hts gX1_answerByKind_X1_answerWhen rfl rfl rfl (by decide +kernel) ⟨by show fr + 20 + 1 ≤ fr + 40; omega, by show 8 + (7 + 11) + (lc + 400) ≤ lc + 800; omega⟩) hK hP hD hS hA (wc_cell hK hP) rfl hl.1 rfl (Nat.le_of_ble_eq_true rfl) dX1_answerByKind_123 ⟨Nat.le_of_ble_eq_true rfl, Nat.le_of_ble_eq_true rfl⟩ (fun r14 u14 H locs hw hP hD hS => ?_)
    obtain rfl : r14 = (p_X1_answerWhen fa S a1 a2 a3 a4).1 := congrArg Prod.fst hw
    obtain rfl : u14 = (p_X1_answerWhen fa S a1 a2 a3 a4).2 := congrArg Prod.snd hw
    exact wx_retj kst_C ((p_X1_answerWhen fa S a1 a2 a3 a4).2) hx hb hr hlk hK hP hD hS dX1_answerByKind_126 (by unfold p_X1_answerByKind; rw [if_neg c2, if_neg c4, if_neg c6, if_neg c9, if_neg c11, if_pos c13])
  have hok := hok.2 c13
  by_cases c15 : qRI S 0 a1 = 6
  · have hok := hok.1 c15
    refine lv_tableIn (tgt := 127) hx hb dX1_answerByKind_4 (by rw [c15]; decide) (by rw [c15]; decide) (by rw [c15]; rfl) (by decide) ?_
    refine lv_aload_n hx hb dX1_answerByKind_127 rfl (lv_at hl 0 rfl) ?_
    refine lv_aload_n hx hb dX1_answerByKind_128 rfl (lv_at hl 1 rfl) ?_
    obtain ⟨b16, hok⟩ := hok
    refine wc_getR hC hin0 hK hP b16.1 b16.2 3 (by decide) rfl (by decide +kernel) (rget_3 _ _) dX1_answerByKind_129 ?_
    refine lv_iload_n hx hb dX1_answerByKind_132 rfl (lv_at hl 2 rfl) ?_
    refine lv_aload_n hx hb dX1_answerByKind_133 rfl (lv_at hl 1 rfl) ?_
    obtain ⟨b17, hok⟩ := hok
    refine wc_getR hC hin0 hK hP b17.1 b17.2 1 (by decide) rfl (by decide +kernel) (rget_1 _ _) dX1_answerByKind_134 ?_
    refine lv_iload hx hb dX1_answerByKind_137 (lv_at hl 4 rfl) ?_
    obtain ⟨o18, hok⟩ := hok
    refine wx_callVj (As := [va_rf (qRO S 3 a1), .int a2, .int (qRI S 1 a1), .int a4]) (rest := []) kst_C hC (hM S (qRO S 3 a1) a2 (qRI S 1 a1) a4 o18) (cwV 4 hts gX1_answerByKind_X1_answer rfl rfl rfl (by decide +kernel) ⟨by show fr + 1 ≤ fr + 40; omega, by show 8 + (5 + 11) + (lc) ≤ lc + 800; omega⟩) hK hP hD hS hA (wc_cell hK hP) rfl hl.1 rfl (Nat.le_of_ble_eq_true rfl) dX1_answerByKind_139 ⟨Nat.le_of_ble_eq_true rfl, Nat.le_of_ble_eq_true rfl⟩ (fun r18 u18 H locs hw hP hD hS => ?_)
    obtain rfl : r18 = (fa S (qRO S 3 a1) a2 (qRI S 1 a1) a4).1 := congrArg Prod.fst hw
    obtain rfl : u18 = (fa S (qRO S 3 a1) a2 (qRI S 1 a1) a4).2 := congrArg Prod.snd hw
    exact wx_retj kst_C ((fa S (qRO S 3 a1) a2 (qRI S 1 a1) a4).2) hx hb hr hlk hK hP hD hS dX1_answerByKind_142 (by unfold p_X1_answerByKind; rw [if_neg c2, if_neg c4, if_neg c6, if_neg c9, if_neg c11, if_neg c13, if_pos c15])
  have hok := hok.2 c15
  by_cases c19 : qRI S 0 a1 = 7
  · have hok := hok.1 c19
    refine lv_tableIn (tgt := 143) hx hb dX1_answerByKind_4 (by rw [c19]; decide) (by rw [c19]; decide) (by rw [c19]; rfl) (by decide) ?_
    refine lv_aload_n hx hb dX1_answerByKind_143 rfl (lv_at hl 0 rfl) ?_
    refine lv_aload_n hx hb dX1_answerByKind_144 rfl (lv_at hl 1 rfl) ?_
    refine lv_iload_n hx hb dX1_answerByKind_145 rfl (lv_at hl 2 rfl) ?_
    refine lv_iload_n hx hb dX1_answerByKind_146 rfl (lv_at hl 3 rfl) ?_
    refine lv_iload hx hb dX1_answerByKind_147 (lv_at hl 4 rfl) ?_
    obtain ⟨o20, hok⟩ := hok
    refine wx_callVj (As := [.ref a1, .int a2, .int a3, .int a4]) (rest := []) kst_C hC (c_X1_answerFed l D x A0 A1 A2 cI cR cII fa fo fr lc hM S a1 a2 a3 a4 o20) (cwV 4 hts gX1_answerByKind_X1_answerFed rfl rfl rfl (by decide +kernel) ⟨by show fr + 20 + 1 ≤ fr + 40; omega, by show 8 + (7 + 11) + (lc + 400) ≤ lc + 800; omega⟩) hK hP hD hS hA (wc_cell hK hP) rfl hl.1 rfl (Nat.le_of_ble_eq_true rfl) dX1_answerByKind_149 ⟨Nat.le_of_ble_eq_true rfl, Nat.le_of_ble_eq_true rfl⟩ (fun r20 u20 H locs hw hP hD hS => ?_)
    obtain rfl : r20 = (p_X1_answerFed fa S a1 a2 a3 a4).1 := congrArg Prod.fst hw
    obtain rfl : u20 = (p_X1_answerFed fa S a1 a2 a3 a4).2 := congrArg Prod.snd hw
    exact wx_retj kst_C ((p_X1_answerFed fa S a1 a2 a3 a4).2) hx hb hr hlk hK hP hD hS dX1_answerByKind_152 (by unfold p_X1_answerByKind; rw [if_neg c2, if_neg c4, if_neg c6, if_neg c9, if_neg c11, if_neg c13, if_neg c15, if_pos c19])
  have hok := hok.2 c19
  by_cases c21 : qRI S 0 a1 = 8
  · have hok := hok.1 c21
    refine lv_tableIn (tgt := 153) hx hb dX1_answerByKind_4 (by rw [c21]; decide) (by rw [c21]; decide) (by rw [c21]; rfl) (by decide) ?_
    refine lv_aload_n hx hb dX1_answerByKind_153 rfl (lv_at hl 0 rfl) ?_
    refine lv_aload_n hx hb dX1_answerByKind_154 rfl (lv_at hl 1 rfl) ?_
    refine lv_iload_n hx hb dX1_answerByKind_155 rfl (lv_at hl 2 rfl) ?_
    refine lv_iload_n hx hb dX1_answerByKind_156 rfl (lv_at hl 3 rfl) ?_
    refine lv_iload hx hb dX1_answerByKind_157 (lv_at hl 4 rfl) ?_
    obtain ⟨o22, hok⟩ := hok
    refine wx_callVj (As := [.ref a1, .int a2, .int a3, .int a4]) (rest := []) kst_C hC (c_X1_answerGuarded l D x A0 A1 A2 cI cR cII fa fo fr lc hM S a1 a2 a3 a4 o22) (cwV 4 hts gX1_answerByKind_X1_answerGuarded rfl rfl rfl (by decide +kernel) ⟨by show fr + 20 + 1 ≤ fr + 40; omega, by show 8 + (7 + 11) + (lc + 400) ≤ lc + 800; omega⟩) hK hP hD hS hA (wc_cell hK hP) rfl hl.1 rfl (Nat.le_of_ble_eq_true rfl) dX1_answerByKind_159 ⟨Nat.le_of_ble_eq_true rfl, Nat.le_of_ble_eq_true rfl⟩ (fun r22 u22 H locs hw hP hD hS => ?_)
    obtain rfl : r22 = (p_X1_answerGuarded fa S a1 a2 a3 a4).1 := congrArg Prod.fst hw
    obtain rfl : u22 = (p_X1_answerGuarded fa S a1 a2 a3 a4).2 := congrArg Prod.snd hw
    exact wx_retj kst_C ((p_X1_answerGuarded fa S a1 a2 a3 a4).2) hx hb hr hlk hK hP hD hS dX1_answerByKind_162 (by unfold p_X1_answerByKind; rw [if_neg c2, if_neg c4, if_neg c6, if_neg c9, if_neg c11, if_neg c13, if_neg c15, if_neg c19, if_pos c21])
  have hok := hok.2 c21
  by_cases c23 : qRI S 0 a1 = 9
  · have hok := hok.1 c23
    refine lv_tableIn (tgt := 163) hx hb dX1_answerByKind_4 (by rw [c23]; decide) (by rw [c23]; decide) (by rw [c23]; rfl) (by decide) ?_
    refine lv_aload_n hx hb dX1_answerByKind_163 rfl (lv_at hl 0 rfl) ?_
    refine lv_aload_n hx hb dX1_answerByKind_164 rfl (lv_at hl 0 rfl) ?_
    refine lv_aload_n hx hb dX1_answerByKind_165 rfl (lv_at hl 1 rfl) ?_
    obtain ⟨b24, hok⟩ := hok
    refine wc_getR hC hin0 hK hP b24.1 b24.2 1 (by decide) rfl (by decide +kernel) (rget_1 _ _) dX1_answerByKind_166 ?_
    obtain ⟨o25, hok⟩ := hok
    refine wx_callVq (As := [.int (qRI S 1 a1)]) (rest := [.ref x]) kst_C hC (c_X1_ruleNow l D x A0 A1 A2 cI cR cII S (qRI S 1 a1) o25) (cwV 1 hts gX1_answerByKind_X1_ruleNow rfl rfl rfl (by decide +kernel) ⟨by show 2 + 1 ≤ fr + 40; omega, by show 8 + (2 + 11) + (41) ≤ lc + 800; omega⟩) hK hP hD hS hA (wc_cell hK hP) rfl hl.1 rfl (Nat.le_of_ble_eq_true rfl) dX1_answerByKind_169 ⟨Nat.le_of_ble_eq_true rfl, Nat.le_of_ble_eq_true rfl⟩ (fun r25 u25 H locs hw hP hD hS => ?_)
    obtain rfl : p_X1_ruleNow S (qRI S 1 a1) = r25 := hw.1.symm
    obtain rfl : S = u25 := hw.2.symm
    refine lv_iload_n hx hb dX1_answerByKind_172 rfl (lv_at hl 2 rfl) ?_
    refine lv_iload_n hx hb dX1_answerByKind_173 rfl (lv_at hl 3 rfl) ?_
    refine lv_iload hx hb dX1_answerByKind_174 (lv_at hl 4 rfl) ?_
    obtain ⟨o26, hok⟩ := hok
    refine wx_callVj (As := [va_rf (p_X1_ruleNow S (qRI S 1 a1)), .int a2, .int a3, .int a4]) (rest := []) kst_C hC (hM S (p_X1_ruleNow S (qRI S 1 a1)) a2 a3 a4 o26) (cwV 4 hts gX1_answerByKind_X1_answer rfl rfl rfl (by decide +kernel) ⟨by show fr + 1 ≤ fr + 40; omega, by show 8 + (5 + 11) + (lc) ≤ lc + 800; omega⟩) hK hP hD hS hA (wc_cell hK hP) rfl hl.1 rfl (Nat.le_of_ble_eq_true rfl) dX1_answerByKind_176 ⟨Nat.le_of_ble_eq_true rfl, Nat.le_of_ble_eq_true rfl⟩ (fun r26 u26 H locs hw hP hD hS => ?_)
    obtain rfl : r26 = (fa S (p_X1_ruleNow S (qRI S 1 a1)) a2 a3 a4).1 := congrArg Prod.fst hw
    obtain rfl : u26 = (fa S (p_X1_ruleNow S (qRI S 1 a1)) a2 a3 a4).2 := congrArg Prod.snd hw
    exact wx_retj kst_C ((fa S (p_X1_ruleNow S (qRI S 1 a1)) a2 a3 a4).2) hx hb hr hlk hK hP hD hS dX1_answerByKind_179 (by unfold p_X1_answerByKind; rw [if_neg c2, if_neg c4, if_neg c6, if_neg c9, if_neg c11, if_neg c13, if_neg c15, if_neg c19, if_neg c21, if_pos c23])
  have hok := hok.2 c23
  by_cases c27 : qRI S 0 a1 = 10
  · have hok := hok.1 c27
    refine lv_tableIn (tgt := 180) hx hb dX1_answerByKind_4 (by rw [c27]; decide) (by rw [c27]; decide) (by rw [c27]; rfl) (by decide) ?_
    refine lv_iload_n hx hb dX1_answerByKind_180 rfl (lv_at hl 2 rfl) ?_
    refine lv_aload_n hx hb dX1_answerByKind_181 rfl (lv_at hl 1 rfl) ?_
    obtain ⟨b28, hok⟩ := hok
    refine wc_getR hC hin0 hK hP b28.1 b28.2 1 (by decide) rfl (by decide +kernel) (rget_1 _ _) dX1_answerByKind_182 ?_
    refine lv_icmp_le (tgt := 197) hx hb dX1_answerByKind_185 (by decide) (fun c29 => ?_) (fun c29 => ?_)
    · have hok := hok.1 c29
      refine lv_aload_n hx hb dX1_answerByKind_197 rfl (lv_at hl 0 rfl) ?_
      refine lv_aload_n hx hb dX1_answerByKind_198 rfl (lv_at hl 1 rfl) ?_
      obtain ⟨b30, hok⟩ := hok
      refine wc_getR hC hin0 hK hP b30.1 b30.2 3 (by decide) rfl (by decide +kernel) (rget_3 _ _) dX1_answerByKind_199 ?_
      refine lv_iload_n hx hb dX1_answerByKind_202 rfl (lv_at hl 2 rfl) ?_
      refine lv_iload_n hx hb dX1_answerByKind_203 rfl (lv_at hl 3 rfl) ?_
      refine lv_iload hx hb dX1_answerByKind_204 (lv_at hl 4 rfl) ?_
      obtain ⟨o31, hok⟩ := hok
      refine wx_callVj (As := [va_rf (qRO S 3 a1), .int a2, .int a3, .int a4]) (rest := []) kst_C hC (hM S (qRO S 3 a1) a2 a3 a4 o31) (cwV 4 hts gX1_answerByKind_X1_answer rfl rfl rfl (by decide +kernel) ⟨by show fr + 1 ≤ fr + 40; omega, by show 8 + (5 + 11) + (lc) ≤ lc + 800; omega⟩) hK hP hD hS hA (wc_cell hK hP) rfl hl.1 rfl (Nat.le_of_ble_eq_true rfl) dX1_answerByKind_206 ⟨Nat.le_of_ble_eq_true rfl, Nat.le_of_ble_eq_true rfl⟩ (fun r31 u31 H locs hw hP hD hS => ?_)
      obtain rfl : r31 = (fa S (qRO S 3 a1) a2 a3 a4).1 := congrArg Prod.fst hw
      obtain rfl : u31 = (fa S (qRO S 3 a1) a2 a3 a4).2 := congrArg Prod.snd hw
      exact wx_retj kst_C ((fa S (qRO S 3 a1) a2 a3 a4).2) hx hb hr hlk hK hP hD hS dX1_answerByKind_209 (by unfold p_X1_answerByKind; rw [if_neg c2, if_neg c4, if_neg c6, if_neg c9, if_neg c11, if_neg c13, if_neg c15, if_neg c19, if_neg c21, if_neg c23, if_pos c27, if_pos c29])
    · have hok := hok.2 c29
      refine lv_aload_n hx hb dX1_answerByKind_188 rfl (lv_at hl 0 rfl) ?_
      refine lv_bipush (v := (-5)) hx hb dX1_answerByKind_189 (by decide) ?_
      obtain ⟨o32, hok⟩ := hok
      refine wx_callVj (As := [.int (-5)]) (rest := []) kst_C hC (c_X1_fail l D x A0 A1 A2 cI cR cII S (-5) o32) (cwV 1 hts gX1_answerByKind_X1_fail rfl rfl rfl (by decide +kernel) ⟨by show 0 + 1 ≤ fr + 40; omega, by show 8 + (2 + 11) + (0) ≤ lc + 800; omega⟩) hK hP hD hS hA (wc_cell hK hP) rfl hl.1 rfl (Nat.le_of_ble_eq_true rfl) dX1_answerByKind_191 ⟨Nat.le_of_ble_eq_true rfl, Nat.le_of_ble_eq_true rfl⟩ (fun r32 u32 H locs hw hP hD hS => ?_)
      obtain rfl : r32 = (p_X1_fail S (-5)).1 := congrArg Prod.fst hw
      obtain rfl : u32 = (p_X1_fail S (-5)).2 := congrArg Prod.snd hw
      refine lv_goto (tgt := 209) hx hb dX1_answerByKind_194 (by decide) ?_
      exact wx_retj kst_C ((p_X1_fail S (-5)).2) hx hb hr hlk hK hP hD hS dX1_answerByKind_209 (by unfold p_X1_answerByKind; rw [if_neg c2, if_neg c4, if_neg c6, if_neg c9, if_neg c11, if_neg c13, if_neg c15, if_neg c19, if_neg c21, if_neg c23, if_pos c27, if_neg c29])
  have hok := hok.2 c27
  by_cases c33 : qRI S 0 a1 = 11
  · have hok := hok.1 c33
    refine lv_tableIn (tgt := 210) hx hb dX1_answerByKind_4 (by rw [c33]; decide) (by rw [c33]; decide) (by rw [c33]; rfl) (by decide) ?_
    refine lv_aload_n hx hb dX1_answerByKind_210 rfl (lv_at hl 0 rfl) ?_
    refine lv_aload_n hx hb dX1_answerByKind_211 rfl (lv_at hl 1 rfl) ?_
    refine lv_iload_n hx hb dX1_answerByKind_212 rfl (lv_at hl 2 rfl) ?_
    refine lv_iload_n hx hb dX1_answerByKind_213 rfl (lv_at hl 3 rfl) ?_
    refine lv_iload hx hb dX1_answerByKind_214 (lv_at hl 4 rfl) ?_
    obtain ⟨o34, hok⟩ := hok
    refine wx_callVj (As := [.ref a1, .int a2, .int a3, .int a4]) (rest := []) kst_C hC (c_X1_answerCounted l D x A0 A1 A2 cI cR cII fa fo fr lc hM S a1 a2 a3 a4 o34) (cwV 4 hts gX1_answerByKind_X1_answerCounted rfl rfl rfl (by decide +kernel) ⟨by show fr + 20 + 1 ≤ fr + 40; omega, by show 8 + (7 + 11) + (lc + 400) ≤ lc + 800; omega⟩) hK hP hD hS hA (wc_cell hK hP) rfl hl.1 rfl (Nat.le_of_ble_eq_true rfl) dX1_answerByKind_216 ⟨Nat.le_of_ble_eq_true rfl, Nat.le_of_ble_eq_true rfl⟩ (fun r34 u34 H locs hw hP hD hS => ?_)
    obtain rfl : r34 = (p_X1_answerCounted fa S a1 a2 a3 a4).1 := congrArg Prod.fst hw
    obtain rfl : u34 = (p_X1_answerCounted fa S a1 a2 a3 a4).2 := congrArg Prod.snd hw
    exact wx_retj kst_C ((p_X1_answerCounted fa S a1 a2 a3 a4).2) hx hb hr hlk hK hP hD hS dX1_answerByKind_219 (by unfold p_X1_answerByKind; rw [if_neg c2, if_neg c4, if_neg c6, if_neg c9, if_neg c11, if_neg c13, if_neg c15, if_neg c19, if_neg c21, if_neg c23, if_neg c27, if_pos c33])
  have hok := hok.2 c33
  by_cases c35 : qRI S 0 a1 = 12
  · have hok := hok.1 c35
    refine lv_tableIn (tgt := 220) hx hb dX1_answerByKind_4 (by rw [c35]; decide) (by rw [c35]; decide) (by rw [c35]; rfl) (by decide) ?_
    refine lv_aload_n hx hb dX1_answerByKind_220 rfl (lv_at hl 0 rfl) ?_
    refine lv_aload_n hx hb dX1_answerByKind_221 rfl (lv_at hl 1 rfl) ?_
    refine lv_iload_n hx hb dX1_answerByKind_222 rfl (lv_at hl 2 rfl) ?_
    refine lv_iload_n hx hb dX1_answerByKind_223 rfl (lv_at hl 3 rfl) ?_
    refine lv_iload hx hb dX1_answerByKind_224 (lv_at hl 4 rfl) ?_
    obtain ⟨o36, hok⟩ := hok
    refine wx_callVj (As := [.ref a1, .int a2, .int a3, .int a4]) (rest := []) kst_C hC (c_X1_answerKept l D x A0 A1 A2 cI cR cII fa fo fr lc hM S a1 a2 a3 a4 o36) (cwV 4 hts gX1_answerByKind_X1_answerKept rfl rfl rfl (by decide +kernel) ⟨by show fr + 20 + 1 ≤ fr + 40; omega, by show 8 + (7 + 11) + (lc + 400) ≤ lc + 800; omega⟩) hK hP hD hS hA (wc_cell hK hP) rfl hl.1 rfl (Nat.le_of_ble_eq_true rfl) dX1_answerByKind_226 ⟨Nat.le_of_ble_eq_true rfl, Nat.le_of_ble_eq_true rfl⟩ (fun r36 u36 H locs hw hP hD hS => ?_)
    obtain rfl : r36 = (p_X1_answerKept fa S a1 a2 a3 a4).1 := congrArg Prod.fst hw
    obtain rfl : u36 = (p_X1_answerKept fa S a1 a2 a3 a4).2 := congrArg Prod.snd hw
    exact wx_retj kst_C ((p_X1_answerKept fa S a1 a2 a3 a4).2) hx hb hr hlk hK hP hD hS dX1_answerByKind_229 (by unfold p_X1_answerByKind; rw [if_neg c2, if_neg c4, if_neg c6, if_neg c9, if_neg c11, if_neg c13, if_neg c15, if_neg c19, if_neg c21, if_neg c23, if_neg c27, if_neg c33, if_pos c35])
  have hok := hok.2 c35
  refine lv_tableOut (tgt := 220) hx hb dX1_answerByKind_4 (sw_out (fun k h1 h2 => ?_)) (by decide) ?_
  · rcases (show k = 0 ∨ k = 1 ∨ k = 2 ∨ k = 3 ∨ k = 4 ∨ k = 5 ∨ k = 6 ∨ k = 7 ∨ k = 8 ∨ k = 9 ∨ k = 10 ∨ k = 11 ∨ k = 12 by omega) with rfl | rfl | rfl | rfl | rfl | rfl | rfl | rfl | rfl | rfl | rfl | rfl | rfl
    · exact c2
    · exact c4
    · exact c6
    · exact c9
    · exact c11
    · exact c13
    · exact c15
    · exact c19
    · exact c21
    · exact c23
    · exact c27
    · exact c33
    · exact c35
  refine lv_aload_n hx hb dX1_answerByKind_220 rfl (lv_at hl 0 rfl) ?_
  refine lv_aload_n hx hb dX1_answerByKind_221 rfl (lv_at hl 1 rfl) ?_
  refine lv_iload_n hx hb dX1_answerByKind_222 rfl (lv_at hl 2 rfl) ?_
  refine lv_iload_n hx hb dX1_answerByKind_223 rfl (lv_at hl 3 rfl) ?_
  refine lv_iload hx hb dX1_answerByKind_224 (lv_at hl 4 rfl) ?_
  obtain ⟨o37, hok⟩ := hok
  refine wx_callVj (As := [.ref a1, .int a2, .int a3, .int a4]) (rest := []) kst_C hC (c_X1_answerKept l D x A0 A1 A2 cI cR cII fa fo fr lc hM S a1 a2 a3 a4 o37) (cwV 4 hts gX1_answerByKind_X1_answerKept rfl rfl rfl (by decide +kernel) ⟨by show fr + 20 + 1 ≤ fr + 40; omega, by show 8 + (7 + 11) + (lc + 400) ≤ lc + 800; omega⟩) hK hP hD hS hA (wc_cell hK hP) rfl hl.1 rfl (Nat.le_of_ble_eq_true rfl) dX1_answerByKind_226 ⟨Nat.le_of_ble_eq_true rfl, Nat.le_of_ble_eq_true rfl⟩ (fun r37 u37 H locs hw hP hD hS => ?_)
  obtain rfl : r37 = (p_X1_answerKept fa S a1 a2 a3 a4).1 := congrArg Prod.fst hw
  obtain rfl : u37 = (p_X1_answerKept fa S a1 a2 a3 a4).2 := congrArg Prod.snd hw
  exact wx_retj kst_C ((p_X1_answerKept fa S a1 a2 a3 a4).2) hx hb hr hlk hK hP hD hS dX1_answerByKind_229 (by unfold p_X1_answerByKind; rw [if_neg c2, if_neg c4, if_neg c6, if_neg c9, if_neg c11, if_neg c13, if_neg c15, if_neg c19, if_neg c21, if_neg c23, if_neg c27, if_neg c33, if_neg c35])
def p_X1_answer : Nat → CS → Option Nat → Int32 → Int32 → Int32 → Int64 × CS
  | 0, S, _, _, _, _ => (0, S)
  | n + 1, S, a1, a2, a3, a4 => if (qI S 4) < 80 then (if a4 < 24 then (if a1 = none then ((p_X1_fail (csI S 4 ((qI S 4) + 1)) (-2)).1, (p_X1_fail (csI S 4 ((qI S 4) + 1)) (-2)).2) else ((p_X1_answerByKind (p_X1_answer n) (csI S 4 ((qI S 4) + 1)) (a1.getD 0) a2 a3 (a4 + 1)).1, (p_X1_answerByKind (p_X1_answer n) (csI S 4 ((qI S 4) + 1)) (a1.getD 0) a2 a3 (a4 + 1)).2)) else ((p_X1_fail (csI S 4 ((qI S 4) + 1)) (-7)).1, (p_X1_fail (csI S 4 ((qI S 4) + 1)) (-7)).2)) else ((p_X1_fail S (-6)).1, (p_X1_fail S (-6)).2)
def ok_X1_answer : Nat → CS → Option Nat → Int32 → Int32 → Int32 → Prop
  | 0, _, _, _, _, _ => False
  | n + 1, S, a1, a2, a3, a4 => ((qI S 4) < 80 → ((a4 < 24 → ((a1 = none → ((ok_X1_fail (csI S 4 ((qI S 4) + 1)) (-2)) ∧ (True))) ∧ (¬ a1 = none → ((ok_X1_answerByKind (p_X1_answer n) (ok_X1_answer n) (csI S 4 ((qI S 4) + 1)) (a1.getD 0) a2 a3 (a4 + 1)) ∧ (True))))) ∧ (¬ a4 < 24 → ((ok_X1_fail (csI S 4 ((qI S 4) + 1)) (-7)) ∧ (True))))) ∧ (¬ (qI S 4) < 80 → ((ok_X1_fail S (-6)) ∧ (True)))
set_option maxHeartbeats 4000000 in
set_option maxRecDepth 100000 in
theorem c_X1_answer (l : Launch) (D : va_G) (x A0 A1 A2 : Nat) (cI cR cII : ClassId) : ∀ (n : Nat) (S : CS) (a1 : Option Nat) (a2 : Int32) (a3 : Int32) (a4 : Int32), ok_X1_answer n S a1 a2 a3 a4 → MetJ l yX1_answer wsX1_answer ({ frames := 60 * n, cells := 0, slots := 0, locals := 1200 * n } : Room) D (cKK D cI cR cII) (cW x A0 A1 A2 cI cR cII) S [.ref x, va_rf a1, .int a2, .int a3, .int a4] (fun r u => (r, u) = p_X1_answer n S a1 a2 a3 a4) 0 0 := by
  intro n
  induction n with
  | zero => intro S a1 a2 a3 a4 hok; exact False.elim hok
  | succ n ih =>
    intro S a1 a2 a3 a4 hok
    rw [ok_X1_answer] at hok
    refine MetJ.of (cc := cX1_answer) (maxL := 5) (by decide) rfl (by cases a1 <;> exact Nat.le_of_ble_eq_true rfl) ?_
    intro p e s m below meth c A ls hC hr hlk hnm hK hP hD hA hl
    obtain ⟨hx, hb, hml, hown, hts⟩ := id hC
    have hS : va_S A s.heap s.heap [] := va_S.rf
    have hin0 : ∀ w ∈ wsX00, w ∈ wsX1_answer := fun _ h => List.mem_cons_of_mem _ (List.mem_append_right _ h)
    have hin1 : ∀ w ∈ wsX10, w ∈ wsX1_answer := fun _ h => List.mem_cons_of_mem _ (List.mem_append_left _ (List.mem_append_right _ h))
    have hl : lv_has ls 5 [(0, .ref x), (1, va_rf a1), (2, .int a2), (3, .int a3), (4, .int a4)] := by cases a1 <;> exact hl
    refine lv_aload_n hx hb dX1_answer_0 rfl (lv_at hl 0 rfl) ?_
    refine wc_get hC hin1 hK hP 4 (by decide) rfl (by decide +kernel) (dget_4 _ _ _ _) dX1_answer_1 ?_
    refine lv_bipush (v := 80) hx hb dX1_answer_4 (by decide) ?_
    refine lv_icmp_lt (tgt := 16) hx hb dX1_answer_6 (by decide) (fun c1 => ?_) (fun c1 => ?_)
    · have hok := hok.1 c1
      refine lv_aload_n hx hb dX1_answer_16 rfl (lv_at hl 0 rfl) ?_
      refine lv_dup hx hb dX1_answer_17 rfl ?_
      refine wc_get hC hin1 hK hP 4 (by decide) rfl (by decide +kernel) (dget_4 _ _ _ _) dX1_answer_18 ?_
      refine lv_iconst (v := 1) hx hb dX1_answer_21 (by decide) ?_
      refine lv_iadd hx hb dX1_answer_22 ?_
      refine wc_putI hC hin1 hK hP hD hS 4 (by decide) rfl (by decide +kernel) rfl (by decide +kernel) (dset_4 _ _ _ _ _) dX1_answer_23 (fun H locs hP hD hS => ?_)
      refine lv_iload hx hb dX1_answer_26 (lv_at hl 4 rfl) ?_
      refine lv_bipush (v := 24) hx hb dX1_answer_28 (by decide) ?_
      refine lv_icmp_lt (tgt := 40) hx hb dX1_answer_30 (by decide) (fun c2 => ?_) (fun c2 => ?_)
      · have hok := hok.1 c2
        refine lv_qaload_n hx hb dX1_answer_40 rfl (lv_at hl 1 rfl) ?_
        refine lv_qifnonnull (tgt := 51) hx hb dX1_answer_41 (by decide) (fun c3 => ?_) (fun c3 => ?_)
        · have hok := hok.2 c3
          refine lv_aload_n hx hb dX1_answer_51 rfl (lv_at hl 0 rfl) ?_
          refine lv_qaload_n hx hb dX1_answer_52 rfl (lv_at hl 1 rfl) ?_
          refine lv_qsome c3 ?_
          refine lv_iload_n hx hb dX1_answer_53 rfl (lv_at hl 2 rfl) ?_
          refine lv_iload_n hx hb dX1_answer_54 rfl (lv_at hl 3 rfl) ?_
          refine lv_iload hx hb dX1_answer_55 (lv_at hl 4 rfl) ?_
          refine lv_iconst (v := 1) hx hb dX1_answer_57 (by decide) ?_
          refine lv_iadd hx hb dX1_answer_58 ?_
          obtain ⟨o4, hok⟩ := hok
          refine wx_callVj (As := [.ref (a1.getD 0), .int a2, .int a3, .int (a4 + 1)]) (rest := []) kst_C hC (c_X1_answerByKind l D x A0 A1 A2 cI cR cII (p_X1_answer n) (ok_X1_answer n) (60 * n) (1200 * n) ih (csI S 4 ((qI S 4) + 1)) (a1.getD 0) a2 a3 (a4 + 1) o4) (cwV 4 hts gX1_answer_X1_answerByKind rfl rfl rfl (by decide +kernel) ⟨by show 60 * n + 40 + 1 ≤ 60 * (n + 1); omega, by show 8 + (5 + 11) + (1200 * n + 800) ≤ 1200 * (n + 1); omega⟩) hK hP hD hS hA (wc_cell hK hP) rfl hl.1 rfl (Nat.le_of_ble_eq_true rfl) dX1_answer_59 ⟨Nat.le_of_ble_eq_true rfl, Nat.le_of_ble_eq_true rfl⟩ (fun r4 u4 H locs hw hP hD hS => ?_)
          obtain rfl : r4 = (p_X1_answerByKind (p_X1_answer n) (csI S 4 ((qI S 4) + 1)) (a1.getD 0) a2 a3 (a4 + 1)).1 := congrArg Prod.fst hw
          obtain rfl : u4 = (p_X1_answerByKind (p_X1_answer n) (csI S 4 ((qI S 4) + 1)) (a1.getD 0) a2 a3 (a4 + 1)).2 := congrArg Prod.snd hw
          exact wx_retj kst_C ((p_X1_answerByKind (p_X1_answer n) (csI S 4 ((qI S 4) + 1)) (a1.getD 0) a2 a3 (a4 + 1)).2) hx hb hr hlk hK hP hD hS dX1_answer_62 (by rw [p_X1_answer, if_pos c1, if_pos c2, if_neg c3])
        · have hok := hok.1 c3
          refine lv_aload_n hx hb dX1_answer_44 rfl (lv_at hl 0 rfl) ?_
          refine lv_bipush (v := (-2)) hx hb dX1_answer_45 (by decide) ?_
          obtain ⟨o5, hok⟩ := hok
          refine wx_callVj (As := [.int (-2)]) (rest := []) kst_C hC (c_X1_fail l D x A0 A1 A2 cI cR cII (csI S 4 ((qI S 4) + 1)) (-2) o5) (cwV 1 hts gX1_answer_X1_fail rfl rfl rfl (by decide +kernel) ⟨by show 0 + 1 ≤ 60 * (n + 1); omega, by show 8 + (2 + 11) + (0) ≤ 1200 * (n + 1); omega⟩) hK hP hD hS hA (wc_cell hK hP) rfl hl.1 rfl (Nat.le_of_ble_eq_true rfl) dX1_answer_47 ⟨Nat.le_of_ble_eq_true rfl, Nat.le_of_ble_eq_true rfl⟩ (fun r5 u5 H locs hw hP hD hS => ?_)
          obtain rfl : r5 = (p_X1_fail (csI S 4 ((qI S 4) + 1)) (-2)).1 := congrArg Prod.fst hw
          obtain rfl : u5 = (p_X1_fail (csI S 4 ((qI S 4) + 1)) (-2)).2 := congrArg Prod.snd hw
          exact wx_retj kst_C ((p_X1_fail (csI S 4 ((qI S 4) + 1)) (-2)).2) hx hb hr hlk hK hP hD hS dX1_answer_50 (by rw [p_X1_answer, if_pos c1, if_pos c2, if_pos c3])
      · have hok := hok.2 c2
        refine lv_aload_n hx hb dX1_answer_33 rfl (lv_at hl 0 rfl) ?_
        refine lv_bipush (v := (-7)) hx hb dX1_answer_34 (by decide) ?_
        obtain ⟨o6, hok⟩ := hok
        refine wx_callVj (As := [.int (-7)]) (rest := []) kst_C hC (c_X1_fail l D x A0 A1 A2 cI cR cII (csI S 4 ((qI S 4) + 1)) (-7) o6) (cwV 1 hts gX1_answer_X1_fail rfl rfl rfl (by decide +kernel) ⟨by show 0 + 1 ≤ 60 * (n + 1); omega, by show 8 + (2 + 11) + (0) ≤ 1200 * (n + 1); omega⟩) hK hP hD hS hA (wc_cell hK hP) rfl hl.1 rfl (Nat.le_of_ble_eq_true rfl) dX1_answer_36 ⟨Nat.le_of_ble_eq_true rfl, Nat.le_of_ble_eq_true rfl⟩ (fun r6 u6 H locs hw hP hD hS => ?_)
        obtain rfl : r6 = (p_X1_fail (csI S 4 ((qI S 4) + 1)) (-7)).1 := congrArg Prod.fst hw
        obtain rfl : u6 = (p_X1_fail (csI S 4 ((qI S 4) + 1)) (-7)).2 := congrArg Prod.snd hw
        exact wx_retj kst_C ((p_X1_fail (csI S 4 ((qI S 4) + 1)) (-7)).2) hx hb hr hlk hK hP hD hS dX1_answer_39 (by rw [p_X1_answer, if_pos c1, if_neg c2])
    · have hok := hok.2 c1
      refine lv_aload_n hx hb dX1_answer_9 rfl (lv_at hl 0 rfl) ?_
      refine lv_bipush (v := (-6)) hx hb dX1_answer_10 (by decide) ?_
      obtain ⟨o7, hok⟩ := hok
      refine wx_callVj (As := [.int (-6)]) (rest := []) kst_C hC (c_X1_fail l D x A0 A1 A2 cI cR cII S (-6) o7) (cwV 1 hts gX1_answer_X1_fail rfl rfl rfl (by decide +kernel) ⟨by show 0 + 1 ≤ 60 * (n + 1); omega, by show 8 + (2 + 11) + (0) ≤ 1200 * (n + 1); omega⟩) hK hP hD hS hA (wc_cell hK hP) rfl hl.1 rfl (Nat.le_of_ble_eq_true rfl) dX1_answer_12 ⟨Nat.le_of_ble_eq_true rfl, Nat.le_of_ble_eq_true rfl⟩ (fun r7 u7 H locs hw hP hD hS => ?_)
      obtain rfl : r7 = (p_X1_fail S (-6)).1 := congrArg Prod.fst hw
      obtain rfl : u7 = (p_X1_fail S (-6)).2 := congrArg Prod.snd hw
      exact wx_retj kst_C ((p_X1_fail S (-6)).2) hx hb hr hlk hK hP hD hS dX1_answer_15 (by rw [p_X1_answer, if_neg c1])
def p_X1_ask (n : Nat) (S : CS) (a1 : Int32) (a2 : Int32) (a3 : Int32) : Int64 × CS := if (p_X1_isPlace a1) = 0 then ((p_X1_fail (csI (csI S 4 0) 6 0) (-1)).1, (p_X1_fail (csI (csI S 4 0) 6 0) (-1)).2) else (if (qP S a1.toNatClampNeg) = none then ((p_X1_fail (csI (csI S 4 0) 6 0) (-2)).1, (p_X1_fail (csI (csI S 4 0) 6 0) (-2)).2) else (if (qI ((p_X1_answer n (csI (csI S 4 0) 6 0) (some ((qP S a1.toNatClampNeg).getD 0)) a2 a3 0).2) 6) = 0 then ((p_X1_answer n (csI (csI S 4 0) 6 0) (some ((qP S a1.toNatClampNeg).getD 0)) a2 a3 0).1, (p_X1_answer n (csI (csI S 4 0) 6 0) (some ((qP S a1.toNatClampNeg).getD 0)) a2 a3 0).2) else (0, csI ((p_X1_answer n (csI (csI S 4 0) 6 0) (some ((qP S a1.toNatClampNeg).getD 0)) a2 a3 0).2) 5 ((qI ((p_X1_answer n (csI (csI S 4 0) 6 0) (some ((qP S a1.toNatClampNeg).getD 0)) a2 a3 0).2) 5) + 1))))
def ok_X1_ask (n : Nat) (S : CS) (a1 : Int32) (a2 : Int32) (a3 : Int32) : Prop := ((p_X1_isPlace a1) = 0 → ((ok_X1_fail (csI (csI S 4 0) 6 0) (-1)) ∧ (True))) ∧ (¬ (p_X1_isPlace a1) = 0 → ((vp_in a1 16) ∧ (((qP S a1.toNatClampNeg) = none → ((ok_X1_fail (csI (csI S 4 0) 6 0) (-2)) ∧ (True))) ∧ (¬ (qP S a1.toNatClampNeg) = none → ((vp_in a1 16) ∧ ((ok_X1_answer n (csI (csI S 4 0) 6 0) (some ((qP S a1.toNatClampNeg).getD 0)) a2 a3 0) ∧ (((qI ((p_X1_answer n (csI (csI S 4 0) 6 0) (some ((qP S a1.toNatClampNeg).getD 0)) a2 a3 0).2) 6) = 0 → True) ∧ (¬ (qI ((p_X1_answer n (csI (csI S 4 0) 6 0) (some ((qP S a1.toNatClampNeg).getD 0)) a2 a3 0).2) 6) = 0 → True))))))))
set_option maxHeartbeats 4000000 in
set_option maxRecDepth 100000 in
theorem c_X1_ask (l : Launch) (D : va_G) (x A0 A1 A2 : Nat) (cI cR cII : ClassId) (n : Nat) (S : CS) (a1 : Int32) (a2 : Int32) (a3 : Int32) (hok : ok_X1_ask n S a1 a2 a3) : MetJ l yX1_ask wsX1_ask ({ frames := 60 * n + 10, cells := 0, slots := 0, locals := 1200 * n + 400 } : Room) D (cKK D cI cR cII) (cW x A0 A1 A2 cI cR cII) S [.ref x, .int a1, .int a2, .int a3] (fun r u => (r, u) = p_X1_ask n S a1 a2 a3) 0 0 := by
  unfold ok_X1_ask at hok
  refine MetJ.of (cc := cX1_ask) (maxL := 6) (by decide) rfl (Nat.le_of_ble_eq_true rfl) ?_
  intro p e s m below meth c A ls hC hr hlk hnm hK hP hD hA hl
  obtain ⟨hx, hb, hml, hown, hts⟩ := id hC
  have hS : va_S A s.heap s.heap [] := va_S.rf
  have hin0 : ∀ w ∈ wsX00, w ∈ wsX1_ask := fun _ h => List.mem_cons_of_mem _ (List.mem_append_right _ h)
  have hin1 : ∀ w ∈ wsX10, w ∈ wsX1_ask := fun _ h => List.mem_cons_of_mem _ (List.mem_append_left _ (List.mem_append_right _ h))
  have hl : lv_has ls 6 [(0, .ref x), (1, .int a1), (2, .int a2), (3, .int a3)] := hl
  refine lv_aload_n hx hb dX1_ask_0 rfl (lv_at hl 0 rfl) ?_
  refine lv_iconst (v := 0) hx hb dX1_ask_1 (by decide) ?_
  refine wc_putI hC hin1 hK hP hD hS 4 (by decide) rfl (by decide +kernel) rfl (by decide +kernel) (dset_4 _ _ _ _ _) dX1_ask_2 (fun H locs hP hD hS => ?_)
  refine lv_aload_n hx hb dX1_ask_5 rfl (lv_at hl 0 rfl) ?_
  refine lv_iconst (v := 0) hx hb dX1_ask_6 (by decide) ?_
  refine wc_putI hC hin1 hK hP hD hS 6 (by decide) rfl (by decide +kernel) rfl (by decide +kernel) (dset_6 _ _ _ _ _) dX1_ask_7 (fun H locs hP hD hS => ?_)
  refine lv_iload_n hx hb dX1_ask_10 rfl (lv_at hl 1 rfl) ?_
  refine wx_callS (As := [.int a1]) (rest := []) hC (c_X1_isPlace l a1) (va_cwS 1 hts gX1_ask_X1_isPlace rfl rfl rfl (by decide +kernel) ⟨by show 1 + 1 ≤ 60 * n + 10; omega, by show 8 + (1 + 11) + 21 ≤ 1200 * n + 400; omega⟩) rfl hl.1 rfl (Nat.le_of_ble_eq_true rfl) dX1_ask_11 ⟨Nat.le_of_ble_eq_true rfl, Nat.le_of_ble_eq_true rfl⟩ (fun r1 hw => ?_)
  obtain rfl : r1 = p_X1_isPlace a1 := hw
  refine lv_if_ne (tgt := 23) hx hb dX1_ask_14 (by decide) (fun c2 => ?_) (fun c2 => ?_)
  · have hok := hok.2 c2
    refine lv_aload_n hx hb dX1_ask_23 rfl (lv_at hl 0 rfl) ?_
    refine wc_get hC hin1 hK hP 2 (by decide) rfl (by decide +kernel) (dget_2 _ _ _ _) dX1_ask_24 ?_
    refine lv_iload_n hx hb dX1_ask_27 rfl (lv_at hl 1 rfl) ?_
    obtain ⟨b3, hok⟩ := hok
    refine wc_aldP hC hK hP b3 dX1_ask_28 ?_
    refine lv_see (v2 := va_rf (qP S a1.toNatClampNeg)) rfl ?_
    refine lv_qifnonnull (tgt := 39) hx hb dX1_ask_29 (by decide) (fun c4 => ?_) (fun c4 => ?_)
    · have hok := hok.2 c4
      refine lv_aload_n hx hb dX1_ask_39 rfl (lv_at hl 0 rfl) ?_
      refine lv_aload_n hx hb dX1_ask_40 rfl (lv_at hl 0 rfl) ?_
      refine wc_get hC hin1 hK hP 2 (by decide) rfl (by decide +kernel) (dget_2 _ _ _ _) dX1_ask_41 ?_
      refine lv_iload_n hx hb dX1_ask_44 rfl (lv_at hl 1 rfl) ?_
      obtain ⟨b5, hok⟩ := hok
      refine wc_aldP hC hK hP b5 dX1_ask_45 ?_
      refine lv_see (v2 := va_rf (qP S a1.toNatClampNeg)) rfl ?_
      refine lv_qsome c4 ?_
      refine lv_iload_n hx hb dX1_ask_46 rfl (lv_at hl 2 rfl) ?_
      refine lv_iload_n hx hb dX1_ask_47 rfl (lv_at hl 3 rfl) ?_
      refine lv_iconst (v := 0) hx hb dX1_ask_48 (by decide) ?_
      obtain ⟨o6, hok⟩ := hok
      refine wx_callVj (As := [.ref ((qP S a1.toNatClampNeg).getD 0), .int a2, .int a3, .int 0]) (rest := []) kst_C hC (c_X1_answer l D x A0 A1 A2 cI cR cII n (csI (csI S 4 0) 6 0) (some ((qP S a1.toNatClampNeg).getD 0)) a2 a3 0 o6) (cwV 4 hts gX1_ask_X1_answer rfl rfl rfl (by decide +kernel) ⟨by show 60 * n + 1 ≤ 60 * n + 10; omega, by show 8 + (5 + 11) + (1200 * n) ≤ 1200 * n + 400; omega⟩) hK hP hD hS hA (wc_cell hK hP) rfl hl.1 rfl (Nat.le_of_ble_eq_true rfl) dX1_ask_49 ⟨Nat.le_of_ble_eq_true rfl, Nat.le_of_ble_eq_true rfl⟩ (fun r6 u6 H locs hw hP hD hS => ?_)
      obtain rfl : r6 = (p_X1_answer n (csI (csI S 4 0) 6 0) (some ((qP S a1.toNatClampNeg).getD 0)) a2 a3 0).1 := congrArg Prod.fst hw
      obtain rfl : u6 = (p_X1_answer n (csI (csI S 4 0) 6 0) (some ((qP S a1.toNatClampNeg).getD 0)) a2 a3 0).2 := congrArg Prod.snd hw
      refine lv_lstore (lv' := [(4, .long ((p_X1_answer n (csI (csI S 4 0) 6 0) (some ((qP S a1.toNatClampNeg).getD 0)) a2 a3 0).1)), (0, .ref x), (1, .int a1), (2, .int a2), (3, .int a3)]) hx hb dX1_ask_52 hl (by decide) rfl (fun ls hl => ?_)
      refine lv_aload_n hx hb dX1_ask_54 rfl (lv_at hl 1 rfl) ?_
      refine wc_get hC hin1 hK hP 6 (by decide) rfl (by decide +kernel) (dget_6 _ _ _ _) dX1_ask_55 ?_
      refine lv_if_eq (tgt := 73) hx hb dX1_ask_58 (by decide) (fun c7 => ?_) (fun c7 => ?_)
      · have hok := hok.1 c7
        refine lv_lload hx hb dX1_ask_73 (lv_at hl 0 rfl) ?_
        exact wx_retj kst_C ((p_X1_answer n (csI (csI S 4 0) 6 0) (some ((qP S a1.toNatClampNeg).getD 0)) a2 a3 0).2) hx hb hr hlk hK hP hD hS dX1_ask_75 (by unfold p_X1_ask; rw [if_neg c2, if_neg c4, if_pos c7])
      · have hok := hok.2 c7
        refine lv_aload_n hx hb dX1_ask_61 rfl (lv_at hl 1 rfl) ?_
        refine lv_dup hx hb dX1_ask_62 rfl ?_
        refine wc_get hC hin1 hK hP 5 (by decide) rfl (by decide +kernel) (dget_5 _ _ _ _) dX1_ask_63 ?_
        refine lv_iconst (v := 1) hx hb dX1_ask_66 (by decide) ?_
        refine lv_iadd hx hb dX1_ask_67 ?_
        refine wc_putI hC hin1 hK hP hD hS 5 (by decide) rfl (by decide +kernel) rfl (by decide +kernel) (dset_5 _ _ _ _ _) dX1_ask_68 (fun H locs hP hD hS => ?_)
        refine lv_lconst (v := 0) hx hb dX1_ask_71 (by decide) ?_
        exact wx_retj kst_C (csI ((p_X1_answer n (csI (csI S 4 0) 6 0) (some ((qP S a1.toNatClampNeg).getD 0)) a2 a3 0).2) 5 ((qI ((p_X1_answer n (csI (csI S 4 0) 6 0) (some ((qP S a1.toNatClampNeg).getD 0)) a2 a3 0).2) 5) + 1)) hx hb hr hlk hK hP hD hS dX1_ask_72 (by unfold p_X1_ask; rw [if_neg c2, if_neg c4, if_neg c7])
    · have hok := hok.1 c4
      refine lv_aload_n hx hb dX1_ask_32 rfl (lv_at hl 0 rfl) ?_
      refine lv_bipush (v := (-2)) hx hb dX1_ask_33 (by decide) ?_
      obtain ⟨o8, hok⟩ := hok
      refine wx_callVj (As := [.int (-2)]) (rest := []) kst_C hC (c_X1_fail l D x A0 A1 A2 cI cR cII (csI (csI S 4 0) 6 0) (-2) o8) (cwV 1 hts gX1_ask_X1_fail rfl rfl rfl (by decide +kernel) ⟨by show 0 + 1 ≤ 60 * n + 10; omega, by show 8 + (2 + 11) + (0) ≤ 1200 * n + 400; omega⟩) hK hP hD hS hA (wc_cell hK hP) rfl hl.1 rfl (Nat.le_of_ble_eq_true rfl) dX1_ask_35 ⟨Nat.le_of_ble_eq_true rfl, Nat.le_of_ble_eq_true rfl⟩ (fun r8 u8 H locs hw hP hD hS => ?_)
      obtain rfl : r8 = (p_X1_fail (csI (csI S 4 0) 6 0) (-2)).1 := congrArg Prod.fst hw
      obtain rfl : u8 = (p_X1_fail (csI (csI S 4 0) 6 0) (-2)).2 := congrArg Prod.snd hw
      exact wx_retj kst_C ((p_X1_fail (csI (csI S 4 0) 6 0) (-2)).2) hx hb hr hlk hK hP hD hS dX1_ask_38 (by unfold p_X1_ask; rw [if_neg c2, if_pos c4])
  · have hok := hok.1 c2
    refine lv_aload_n hx hb dX1_ask_17 rfl (lv_at hl 0 rfl) ?_
    refine lv_iconst (v := (-1)) hx hb dX1_ask_18 (by decide) ?_
    obtain ⟨o9, hok⟩ := hok
    refine wx_callVj (As := [.int (-1)]) (rest := []) kst_C hC (c_X1_fail l D x A0 A1 A2 cI cR cII (csI (csI S 4 0) 6 0) (-1) o9) (cwV 1 hts gX1_ask_X1_fail rfl rfl rfl (by decide +kernel) ⟨by show 0 + 1 ≤ 60 * n + 10; omega, by show 8 + (2 + 11) + (0) ≤ 1200 * n + 400; omega⟩) hK hP hD hS hA (wc_cell hK hP) rfl hl.1 rfl (Nat.le_of_ble_eq_true rfl) dX1_ask_19 ⟨Nat.le_of_ble_eq_true rfl, Nat.le_of_ble_eq_true rfl⟩ (fun r9 u9 H locs hw hP hD hS => ?_)
    obtain rfl : r9 = (p_X1_fail (csI (csI S 4 0) 6 0) (-1)).1 := congrArg Prod.fst hw
    obtain rfl : u9 = (p_X1_fail (csI (csI S 4 0) 6 0) (-1)).2 := congrArg Prod.snd hw
    exact wx_retj kst_C ((p_X1_fail (csI (csI S 4 0) 6 0) (-1)).2) hx hb hr hlk hK hP hD hS dX1_ask_22 (by unfold p_X1_ask; rw [if_pos c2])
