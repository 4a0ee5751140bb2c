def p_X0_init (S : CS) (a : Nat) (a1 : Int32) (a2 : Int32) (a3 : Option Nat) : CS := csRO (csRO (csRO (csRO (csRI (csRI S 0 a a1) 1 a a2) 2 a a3) 3 a none) 4 a none) 5 a none
def ok_X0_init (S : CS) (a : Nat) (a1 : Int32) (a2 : Int32) (a3 : Option Nat) : Prop := (a ∈ qL S ∧ qK S a = true) ∧ ((a ∈ qL S ∧ qK S a = true) ∧ ((a ∈ qL S ∧ qK S a = true) ∧ ((a ∈ qL S ∧ qK S a = true) ∧ ((a ∈ qL S ∧ qK S a = true) ∧ ((a ∈ qL S ∧ qK S a = true) ∧ (True))))))
set_option maxHeartbeats 4000000 in
set_option maxRecDepth 100000 in
theorem c_X0_init (l : Launch) (D : va_G) (x A0 A1 A2 : Nat) (cI cR cII : ClassId) (S : CS) (a : Nat) (a1 : Int32) (a2 : Int32) (a3 : Option Nat) (hok : ok_X0_init S a a1 a2 a3) : MetV l yX0_init wsX0_init ({ frames := 1, cells := 0, slots := 0, locals := 12 } : Room) D (cKK D cI cR cII) (cW x A0 A1 A2 cI cR cII) S [.ref a, .int a1, .int a2, va_rf a3] (fun u => u = p_X0_init S a a1 a2 a3) 0 0 := by
  unfold ok_X0_init at hok
  refine MetV.of (cc := cX0_init) (maxL := 4) (by decide) rfl (by cases a3 <;> exact Nat.le_of_ble_eq_true rfl) ?_
  intro p e s m below meth c A ls hC hr hlk hnm hK hP hD hA hl
  obtain ⟨hx, hb, hml, hown, hts⟩ := id hC
  have hS : va_S A s.heap s.heap [] := va_S.rf
  have hin0 : ∀ w ∈ wsX00, w ∈ wsX0_init := fun _ h => List.mem_cons_of_mem _ (List.mem_append_right _ h)
  have hl : lv_has ls 4 [(0, .ref a), (1, .int a1), (2, .int a2), (3, va_rf a3)] := by cases a3 <;> exact hl
  refine lv_aload_n hx hb dX0_init_0 rfl (lv_at hl 0 rfl) ?_
  refine W.objInit hx hb hown (hts (.methodLink RX0 1 objectInit) (by decide +kernel)) (hts (.instanceMethod objectInit) (by decide +kernel)) (hts (.code objectInit ⟨#[0xb1]⟩ 1 none) (by decide +kernel)) rfl (by rw [hml]; exact hl.1) rfl dX0_init_1 (Nat.le_of_ble_eq_true rfl) (Nat.le_of_ble_eq_true rfl) ?_
  refine W.eq (g2 := F0 m 4 ls []) rfl ?_
  refine lv_aload_n hx hb dX0_init_4 rfl (lv_at hl 0 rfl) ?_
  refine lv_iload_n hx hb dX0_init_5 rfl (lv_at hl 1 rfl) ?_
  obtain ⟨b1, hok⟩ := hok
  refine wc_putF (v := .int a1) (ty := .int) hC hnm hin0 hK hP hD hS b1.1 b1.2 0 (by decide) rfl (by decide +kernel) rfl (by decide +kernel) rfl rfl (csRI S 0 a a1) rfl rfl rfl ⟨rfl, rfl⟩ ruL_RI_0 (fun b hb => ruL_RI_ne hb) dX0_init_6 (fun H locs hP hD hS => ?_)
  refine lv_aload_n hx hb dX0_init_9 rfl (lv_at hl 0 rfl) ?_
  refine lv_iload_n hx hb dX0_init_10 rfl (lv_at hl 2 rfl) ?_
  obtain ⟨b2, hok⟩ := hok
  refine wc_putF (v := .int a2) (ty := .int) hC hnm hin0 hK hP hD hS b2.1 b2.2 1 (by decide) rfl (by decide +kernel) rfl (by decide +kernel) rfl rfl (csRI (csRI S 0 a a1) 1 a a2) rfl rfl rfl ⟨rfl, rfl⟩ ruL_RI_1 (fun b hb => ruL_RI_ne hb) dX0_init_11 (fun H locs hP hD hS => ?_)
  refine lv_aload_n hx hb dX0_init_14 rfl (lv_at hl 0 rfl) ?_
  refine lv_qaload_n hx hb dX0_init_15 rfl (lv_at hl 3 rfl) ?_
  obtain ⟨b3, hok⟩ := hok
  refine wc_putF (v := va_rf a3) (ty := (.array .int)) hC hnm hin0 hK hP hD hS b3.1 b3.2 2 (by decide) rfl (by decide +kernel) rfl (by decide +kernel) (by cases a3 <;> rfl) (by cases a3 <;> rfl) (csRO (csRI (csRI S 0 a a1) 1 a a2) 2 a a3) rfl rfl rfl ⟨rfl, rfl⟩ ruL_RO_2 (fun b hb => ruL_RO_ne hb) dX0_init_16 (fun H locs hP hD hS => ?_)
  refine lv_aload_n hx hb dX0_init_19 rfl (lv_at hl 0 rfl) ?_
  refine lv_null hx hb dX0_init_20 ?_
  obtain ⟨b4, hok⟩ := hok
  refine wc_putF (v := .null) (ty := (.object "ChargeDesk$Rule")) hC hnm hin0 hK hP hD hS b4.1 b4.2 3 (by decide) rfl (by decide +kernel) rfl (by decide +kernel) rfl rfl (csRO (csRO (csRI (csRI S 0 a a1) 1 a a2) 2 a a3) 3 a none) rfl rfl rfl ⟨rfl, rfl⟩ ruL_RO_3 (fun b hb => ruL_RO_ne hb) dX0_init_21 (fun H locs hP hD hS => ?_)
  refine lv_aload_n hx hb dX0_init_24 rfl (lv_at hl 0 rfl) ?_
  refine lv_null hx hb dX0_init_25 ?_
  obtain ⟨b5, hok⟩ := hok
  refine wc_putF (v := .null) (ty := (.object "ChargeDesk$Rule")) hC hnm hin0 hK hP hD hS b5.1 b5.2 4 (by decide) rfl (by decide +kernel) rfl (by decide +kernel) rfl rfl (csRO (csRO (csRO (csRI (csRI S 0 a a1) 1 a a2) 2 a a3) 3 a none) 4 a none) rfl rfl rfl ⟨rfl, rfl⟩ ruL_RO_4 (fun b hb => ruL_RO_ne hb) dX0_init_26 (fun H locs hP hD hS => ?_)
  refine lv_aload_n hx hb dX0_init_29 rfl (lv_at hl 0 rfl) ?_
  refine lv_null hx hb dX0_init_30 ?_
  obtain ⟨b6, hok⟩ := hok
  refine wc_putF (v := .null) (ty := (.object "ChargeDesk$Rule")) hC hnm hin0 hK hP hD hS b6.1 b6.2 5 (by decide) rfl (by decide +kernel) rfl (by decide +kernel) rfl rfl (csRO (csRO (csRO (csRO (csRI (csRI S 0 a a1) 1 a a2) 2 a a3) 3 a none) 4 a none) 5 a none) rfl rfl rfl ⟨rfl, rfl⟩ ruL_RO_5 (fun b hb => ruL_RO_ne hb) dX0_init_31 (fun H locs hP hD hS => ?_)
  exact wx_retv kst_C (csRO (csRO (csRO (csRO (csRI (csRI S 0 a a1) 1 a a2) 2 a a3) 3 a none) 4 a none) 5 a none) hx hb hr hlk hK hP hD hS dX0_init_34 (by unfold p_X0_init; rfl)
def p_X0_init_ (S : CS) (a : Nat) (a1 : Int32) (a2 : Int32) (a3 : Nat) (a4 : Nat) (a5 : Nat) : CS := csRO (csRO (csRO (csRO (csRI (csRI S 0 a a1) 1 a a2) 2 a none) 3 a (some a3)) 4 a (some a4)) 5 a (some a5)
def ok_X0_init_ (S : CS) (a : Nat) (a1 : Int32) (a2 : Int32) (a3 : Nat) (a4 : Nat) (a5 : Nat) : Prop := (a ∈ qL S ∧ qK S a = true) ∧ ((a ∈ qL S ∧ qK S a = true) ∧ ((a ∈ qL S ∧ qK S a = true) ∧ ((a ∈ qL S ∧ qK S a = true) ∧ ((a ∈ qL S ∧ qK S a = true) ∧ ((a ∈ qL S ∧ qK S a = true) ∧ (True))))))
set_option maxHeartbeats 4000000 in
set_option maxRecDepth 100000 in
theorem c_X0_init_ (l : Launch) (D : va_G) (x A0 A1 A2 : Nat) (cI cR cII : ClassId) (S : CS) (a : Nat) (a1 : Int32) (a2 : Int32) (a3 : Nat) (a4 : Nat) (a5 : Nat) (hok : ok_X0_init_ S a a1 a2 a3 a4 a5) : MetV l yX0_init_ wsX0_init_ ({ frames := 1, cells := 0, slots := 0, locals := 12 } : Room) D (cKK D cI cR cII) (cW x A0 A1 A2 cI cR cII) S [.ref a, .int a1, .int a2, .ref a3, .ref a4, .ref a5] (fun u => u = p_X0_init_ S a a1 a2 a3 a4 a5) 0 0 := by
  unfold ok_X0_init_ at hok
  refine MetV.of (cc := cX0_init_) (maxL := 6) (by decide) rfl (Nat.le_of_ble_eq_true rfl) ?_
  intro p e s m below meth c A ls hC hr hlk hnm hK hP hD hA hl
  obtain ⟨hx, hb, hml, hown, hts⟩ := id hC
  have hS : va_S A s.heap s.heap [] := va_S.rf
  have hin0 : ∀ w ∈ wsX00, w ∈ wsX0_init_ := fun _ h => List.mem_cons_of_mem _ (List.mem_append_right _ h)
  have hl : lv_has ls 6 [(0, .ref a), (1, .int a1), (2, .int a2), (3, .ref a3), (4, .ref a4), (5, .ref a5)] := hl
  refine lv_aload_n hx hb dX0_init__0 rfl (lv_at hl 0 rfl) ?_
  refine W.objInit hx hb hown (hts (.methodLink RX0 1 objectInit) (by decide +kernel)) (hts (.instanceMethod objectInit) (by decide +kernel)) (hts (.code objectInit ⟨#[0xb1]⟩ 1 none) (by decide +kernel)) rfl (by rw [hml]; exact hl.1) rfl dX0_init__1 (Nat.le_of_ble_eq_true rfl) (Nat.le_of_ble_eq_true rfl) ?_
  refine W.eq (g2 := F0 m 4 ls []) rfl ?_
  refine lv_aload_n hx hb dX0_init__4 rfl (lv_at hl 0 rfl) ?_
  refine lv_iload_n hx hb dX0_init__5 rfl (lv_at hl 1 rfl) ?_
  obtain ⟨b1, hok⟩ := hok
  refine wc_putF (v := .int a1) (ty := .int) hC hnm hin0 hK hP hD hS b1.1 b1.2 0 (by decide) rfl (by decide +kernel) rfl (by decide +kernel) rfl rfl (csRI S 0 a a1) rfl rfl rfl ⟨rfl, rfl⟩ ruL_RI_0 (fun b hb => ruL_RI_ne hb) dX0_init__6 (fun H locs hP hD hS => ?_)
  refine lv_aload_n hx hb dX0_init__9 rfl (lv_at hl 0 rfl) ?_
  refine lv_iload_n hx hb dX0_init__10 rfl (lv_at hl 2 rfl) ?_
  obtain ⟨b2, hok⟩ := hok
  refine wc_putF (v := .int a2) (ty := .int) hC hnm hin0 hK hP hD hS b2.1 b2.2 1 (by decide) rfl (by decide +kernel) rfl (by decide +kernel) rfl rfl (csRI (csRI S 0 a a1) 1 a a2) rfl rfl rfl ⟨rfl, rfl⟩ ruL_RI_1 (fun b hb => ruL_RI_ne hb) dX0_init__11 (fun H locs hP hD hS => ?_)
  refine lv_aload_n hx hb dX0_init__14 rfl (lv_at hl 0 rfl) ?_
  refine lv_null hx hb dX0_init__15 ?_
  obtain ⟨b3, hok⟩ := hok
  refine wc_putF (v := .null) (ty := (.array .int)) hC hnm hin0 hK hP hD hS b3.1 b3.2 2 (by decide) rfl (by decide +kernel) rfl (by decide +kernel) rfl rfl (csRO (csRI (csRI S 0 a a1) 1 a a2) 2 a none) rfl rfl rfl ⟨rfl, rfl⟩ ruL_RO_2 (fun b hb => ruL_RO_ne hb) dX0_init__16 (fun H locs hP hD hS => ?_)
  refine lv_aload_n hx hb dX0_init__19 rfl (lv_at hl 0 rfl) ?_
  refine lv_aload_n hx hb dX0_init__20 rfl (lv_at hl 3 rfl) ?_
  obtain ⟨b4, hok⟩ := hok
  refine wc_putF (v := .ref a3) (ty := (.object "ChargeDesk$Rule")) hC hnm hin0 hK hP hD hS b4.1 b4.2 3 (by decide) rfl (by decide +kernel) rfl (by decide +kernel) rfl rfl (csRO (csRO (csRI (csRI S 0 a a1) 1 a a2) 2 a none) 3 a (some a3)) rfl rfl rfl ⟨rfl, rfl⟩ ruL_RO_3 (fun b hb => ruL_RO_ne hb) dX0_init__21 (fun H locs hP hD hS => ?_)
  refine lv_aload_n hx hb dX0_init__24 rfl (lv_at hl 0 rfl) ?_
  refine lv_aload hx hb dX0_init__25 (lv_at hl 4 rfl) ?_
  obtain ⟨b5, hok⟩ := hok
  refine wc_putF (v := .ref a4) (ty := (.object "ChargeDesk$Rule")) hC hnm hin0 hK hP hD hS b5.1 b5.2 4 (by decide) rfl (by decide +kernel) rfl (by decide +kernel) rfl rfl (csRO (csRO (csRO (csRI (csRI S 0 a a1) 1 a a2) 2 a none) 3 a (some a3)) 4 a (some a4)) rfl rfl rfl ⟨rfl, rfl⟩ ruL_RO_4 (fun b hb => ruL_RO_ne hb) dX0_init__27 (fun H locs hP hD hS => ?_)
  refine lv_aload_n hx hb dX0_init__30 rfl (lv_at hl 0 rfl) ?_
  refine lv_aload hx hb dX0_init__31 (lv_at hl 5 rfl) ?_
  obtain ⟨b6, hok⟩ := hok
  refine wc_putF (v := .ref a5) (ty := (.object "ChargeDesk$Rule")) hC hnm hin0 hK hP hD hS b6.1 b6.2 5 (by decide) rfl (by decide +kernel) rfl (by decide +kernel) rfl rfl (csRO (csRO (csRO (csRO (csRI (csRI S 0 a a1) 1 a a2) 2 a none) 3 a (some a3)) 4 a (some a4)) 5 a (some a5)) rfl rfl rfl ⟨rfl, rfl⟩ ruL_RO_5 (fun b hb => ruL_RO_ne hb) dX0_init__33 (fun H locs hP hD hS => ?_)
  exact wx_retv kst_C (csRO (csRO (csRO (csRO (csRI (csRI S 0 a a1) 1 a a2) 2 a none) 3 a (some a3)) 4 a (some a4)) 5 a (some a5)) hx hb hr hlk hK hP hD hS dX0_init__36 (by unfold p_X0_init_; rfl)
def p_X1_isBelow (a1 : Int32) (a2 : Int32) : Int32 := if a1 < 0 then 0 else (if a2 ≤ a1 then 0 else 1)
set_option maxHeartbeats 4000000 in
set_option maxRecDepth 100000 in
theorem c_X1_isBelow (l : Launch) (a1 : Int32) (a2 : Int32) : MetS l yX1_isBelow wsX1_isBelow ({ frames := 0, cells := 0, slots := 0, locals := 0 } : Room) [.int a1, .int a2] (fun r => r = p_X1_isBelow a1 a2) := by
  refine MetS.of (cc := cX1_isBelow) (maxL := 2) (ret := .boolean) (by decide) rfl (Nat.le_of_ble_eq_true rfl) ?_
  intro p e s m below meth c ls hC hr hlk hl
  obtain ⟨hx, hb, hml, hown, hts⟩ := id hC
  have hl : lv_has ls 2 [(0, .int a1), (1, .int a2)] := hl
  refine lv_iload_n hx hb dX1_isBelow_0 rfl (lv_at hl 0 rfl) ?_
  refine lv_if_lt (tgt := 13) hx hb dX1_isBelow_1 (by decide) (fun c1 => ?_) (fun c1 => ?_)
  · skip
    refine lv_iconst (v := 0) hx hb dX1_isBelow_13 (by decide) ?_
    exact wx_rets hx hb hr rfl hlk rfl dX1_isBelow_14 (by unfold p_X1_isBelow; rw [if_pos c1])
  · skip
    refine lv_iload_n hx hb dX1_isBelow_4 rfl (lv_at hl 0 rfl) ?_
    refine lv_iload_n hx hb dX1_isBelow_5 rfl (lv_at hl 1 rfl) ?_
    refine lv_icmp_ge (tgt := 13) hx hb dX1_isBelow_6 (by decide) (fun c2 => ?_) (fun c2 => ?_)
    · skip
      refine lv_iconst (v := 0) hx hb dX1_isBelow_13 (by decide) ?_
      exact wx_rets hx hb hr rfl hlk rfl dX1_isBelow_14 (by unfold p_X1_isBelow; rw [if_neg c1, if_pos c2])
    · skip
      refine lv_iconst (v := 1) hx hb dX1_isBelow_9 (by decide) ?_
      refine lv_goto (tgt := 14) hx hb dX1_isBelow_10 (by decide) ?_
      exact wx_rets hx hb hr rfl hlk rfl dX1_isBelow_14 (by unfold p_X1_isBelow; rw [if_neg c1, if_neg c2])
theorem b_X1_isBelow (a1 : Int32) (a2 : Int32) : p_X1_isBelow a1 a2 = 0 ∨ p_X1_isBelow a1 a2 = 1 := by unfold p_X1_isBelow; (repeat' split) <;> simp
def p_X1_isPlace (a1 : Int32) : Int32 := p_X1_isBelow a1 16
set_option maxHeartbeats 4000000 in
set_option maxRecDepth 100000 in
theorem c_X1_isPlace (l : Launch) (a1 : Int32) : MetS l yX1_isPlace wsX1_isPlace ({ frames := 1, cells := 0, slots := 0, locals := 21 } : Room) [.int a1] (fun r => r = p_X1_isPlace a1) := by
  refine MetS.of (cc := cX1_isPlace) (maxL := 1) (ret := .boolean) (by decide) rfl (Nat.le_of_ble_eq_true rfl) ?_
  intro p e s m below meth c ls hC hr hlk hl
  obtain ⟨hx, hb, hml, hown, hts⟩ := id hC
  have hl : lv_has ls 1 [(0, .int a1)] := hl
  refine lv_iload_n hx hb dX1_isPlace_0 rfl (lv_at hl 0 rfl) ?_
  refine lv_bipush (v := 16) hx hb dX1_isPlace_1 (by decide) ?_
  refine wx_callS (As := [.int a1, .int 16]) (rest := []) hC (c_X1_isBelow l a1 16) (va_cwS 2 hts gX1_isPlace_X1_isBelow rfl rfl rfl (by decide +kernel) ⟨Nat.le_of_ble_eq_true rfl, Nat.le_of_ble_eq_true rfl⟩) rfl hl.1 rfl (Nat.le_of_ble_eq_true rfl) dX1_isPlace_3 ⟨Nat.le_of_ble_eq_true rfl, Nat.le_of_ble_eq_true rfl⟩ (fun r1 hw => ?_)
  obtain rfl : r1 = p_X1_isBelow a1 16 := hw
  exact wx_rets hx hb hr (nb_of (b_X1_isBelow _ _)) hlk rfl dX1_isPlace_6 (by unfold p_X1_isPlace; rfl)
theorem b_X1_isPlace (a1 : Int32) : p_X1_isPlace a1 = 0 ∨ p_X1_isPlace a1 = 1 := b_X1_isBelow _ _
def p_X1_rate (S : CS) (a1 : Int32) (a2 : Int32) : Int32 × CS := if (p_X1_isBelow a1 8) = 0 then ((-1), S) else (1, csR S a1.toNatClampNeg a2)
def ok_X1_rate (S : CS) (a1 : Int32) (a2 : Int32) : Prop := ((p_X1_isBelow a1 8) = 0 → True) ∧ (¬ (p_X1_isBelow a1 8) = 0 → ((vp_in a1 8) ∧ (True)))
set_option maxHeartbeats 4000000 in
set_option maxRecDepth 100000 in
theorem c_X1_rate (l : Launch) (D : va_G) (x A0 A1 A2 : Nat) (cI cR cII : ClassId) (S : CS) (a1 : Int32) (a2 : Int32) (hok : ok_X1_rate S a1 a2) : MetI l yX1_rate wsX1_rate ({ frames := 1, cells := 0, slots := 0, locals := 21 } : Room) D (cKK D cI cR cII) (cW x A0 A1 A2 cI cR cII) S [.ref x, .int a1, .int a2] (fun r u => (r, u) = p_X1_rate S a1 a2) 0 0 := by
  unfold ok_X1_rate at hok
  refine MetI.of (cc := cX1_rate) (maxL := 3) (by decide) rfl (Nat.le_of_ble_eq_true rfl) ?_
  intro p e s m below meth c A ls hC hr hlk hnm hK hP hD hA hl
  obtain ⟨hx, hb, hml, hown, hts⟩ := id hC
  have hS : va_S A s.heap s.heap [] := va_S.rf
  have hin1 : ∀ w ∈ wsX10, w ∈ wsX1_rate := fun _ h => List.mem_cons_of_mem _ (List.mem_append_right _ h)
  have hl : lv_has ls 3 [(0, .ref x), (1, .int a1), (2, .int a2)] := hl
  refine lv_iload_n hx hb dX1_rate_0 rfl (lv_at hl 1 rfl) ?_
  refine lv_bipush (v := 8) hx hb dX1_rate_1 (by decide) ?_
  refine wx_callS (As := [.int a1, .int 8]) (rest := []) hC (c_X1_isBelow l a1 8) (va_cwS 2 hts gX1_rate_X1_isBelow rfl rfl rfl (by decide +kernel) ⟨Nat.le_of_ble_eq_true rfl, Nat.le_of_ble_eq_true rfl⟩) rfl hl.1 rfl (Nat.le_of_ble_eq_true rfl) dX1_rate_3 ⟨Nat.le_of_ble_eq_true rfl, Nat.le_of_ble_eq_true rfl⟩ (fun r1 hw => ?_)
  obtain rfl : r1 = p_X1_isBelow a1 8 := hw
  refine lv_if_ne (tgt := 11) hx hb dX1_rate_6 (by decide) (fun c2 => ?_) (fun c2 => ?_)
  · have hok := hok.2 c2
    refine lv_aload_n hx hb dX1_rate_11 rfl (lv_at hl 0 rfl) ?_
    refine wc_get hC hin1 hK hP 0 (by decide) rfl (by decide +kernel) (dget_0 _ _ _ _) dX1_rate_12 ?_
    refine lv_iload_n hx hb dX1_rate_15 rfl (lv_at hl 1 rfl) ?_
    refine lv_iload_n hx hb dX1_rate_16 rfl (lv_at hl 2 rfl) ?_
    obtain ⟨b3, hok⟩ := hok
    refine wc_ast0 hC hK hP hD hS b3 dX1_rate_17 (fun H locs hP hD hS => ?_)
    refine lv_iconst (v := 1) hx hb dX1_rate_18 (by decide) ?_
    exact wx_reti kst_C (csR S a1.toNatClampNeg a2) hx hb hr hlk hK hP hD hS dX1_rate_19 (by unfold p_X1_rate; rw [if_neg c2])
  · have hok := hok.1 c2
    refine lv_iconst (v := (-1)) hx hb dX1_rate_9 (by decide) ?_
    exact wx_reti kst_C S hx hb hr hlk hK hP hD hS dX1_rate_10 (by unfold p_X1_rate; rw [if_pos c2])
def s_X1_fresh (S : CS) (a1 : Int32) (a2 : Int32) (r : Int32) (u : CS) : Prop := if (p_X1_isBelow a1 4) = 0 then (r = (-1) ∧ u = S) else (if a2 < 0 then (r = (-1) ∧ u = S) else (if a2 ≤ 8 then (∃ q5, q5 ∉ qL S ∧ (r = 1 ∧ u = csW (csNW S q5 a2.toNatClampNeg) a1.toNatClampNeg (some q5))) else (r = (-1) ∧ u = S)))
def ok_X1_fresh (S : CS) (a1 : Int32) (a2 : Int32) : Prop := ((p_X1_isBelow a1 4) = 0 → True) ∧ (¬ (p_X1_isBelow a1 4) = 0 → ((a2 < 0 → True) ∧ (¬ a2 < 0 → ((a2 ≤ 8 → ((¬ a2 < 0) ∧ ((a2.toNatClampNeg ≤ 8) ∧ (∀ q5, q5 ∉ qL S → ((vp_in a1 4) ∧ ((q5 ∈ qL (csNW S q5 a2.toNatClampNeg) ∧ qK (csNW S q5 a2.toNatClampNeg) q5 = false) ∧ (True))))))) ∧ (¬ a2 ≤ 8 → True)))))
set_option maxHeartbeats 4000000 in
set_option maxRecDepth 100000 in
theorem c_X1_fresh (l : Launch) (D : va_G) (x A0 A1 A2 : Nat) (cI cR cII : ClassId) (S : CS) (a1 : Int32) (a2 : Int32) (hok : ok_X1_fresh S a1 a2) : MetI l yX1_fresh wsX1_fresh ({ frames := 1, cells := 1, slots := 8, locals := 21 } : Room) D (cKK D cI cR cII) (cW x A0 A1 A2 cI cR cII) S [.ref x, .int a1, .int a2] (fun r u => s_X1_fresh S a1 a2 r u) 1 8 := by
  unfold ok_X1_fresh at hok
  refine MetI.of (cc := cX1_fresh) (maxL := 3) (by decide) rfl (Nat.le_of_ble_eq_true rfl) ?_
  intro p e s m below meth c A ls hC hr hlk hnm hK hP hD hA hl
  obtain ⟨hx, hb, hml, hown, hts⟩ := id hC
  have hS : va_S A s.heap s.heap [] := va_S.rf
  have hin1 : ∀ w ∈ wsX10, w ∈ wsX1_fresh := fun _ h => List.mem_cons_of_mem _ (List.mem_append_right _ h)
  have hl : lv_has ls 3 [(0, .ref x), (1, .int a1), (2, .int a2)] := hl
  refine lv_iload_n hx hb dX1_fresh_0 rfl (lv_at hl 1 rfl) ?_
  refine lv_iconst (v := 4) hx hb dX1_fresh_1 (by decide) ?_
  refine wx_callS (As := [.int a1, .int 4]) (rest := []) hC (c_X1_isBelow l a1 4) (va_cwS 2 hts gX1_fresh_X1_isBelow rfl rfl rfl (by decide +kernel) ⟨Nat.le_of_ble_eq_true rfl, Nat.le_of_ble_eq_true rfl⟩) rfl hl.1 rfl (Nat.le_of_ble_eq_true rfl) dX1_fresh_2 ⟨Nat.le_of_ble_eq_true rfl, Nat.le_of_ble_eq_true rfl⟩ (fun r1 hw => ?_)
  obtain rfl : r1 = p_X1_isBelow a1 4 := hw
  refine lv_if_eq (tgt := 18) hx hb dX1_fresh_5 (by decide) (fun c2 => ?_) (fun c2 => ?_)
  · have hok := hok.1 c2
    refine lv_iconst (v := (-1)) hx hb dX1_fresh_18 (by decide) ?_
    refine W.widen (k := 1) (n := 8) (by decide) (by decide) ?_
    exact wx_reti kst_C S hx hb hr hlk hK hP hD hS dX1_fresh_19 (by unfold s_X1_fresh; rw [if_pos c2]; exact ⟨rfl, rfl⟩)
  · have hok := hok.2 c2
    refine lv_iload_n hx hb dX1_fresh_8 rfl (lv_at hl 2 rfl) ?_
    refine lv_if_lt (tgt := 18) hx hb dX1_fresh_9 (by decide) (fun c3 => ?_) (fun c3 => ?_)
    · have hok := hok.1 c3
      refine lv_iconst (v := (-1)) hx hb dX1_fresh_18 (by decide) ?_
      refine W.widen (k := 1) (n := 8) (by decide) (by decide) ?_
      exact wx_reti kst_C S hx hb hr hlk hK hP hD hS dX1_fresh_19 (by unfold s_X1_fresh; rw [if_neg c2, if_pos c3]; exact ⟨rfl, rfl⟩)
    · have hok := hok.2 c3
      refine lv_iload_n hx hb dX1_fresh_12 rfl (lv_at hl 2 rfl) ?_
      refine lv_bipush (v := 8) hx hb dX1_fresh_13 (by decide) ?_
      refine lv_icmp_le (tgt := 20) hx hb dX1_fresh_15 (by decide) (fun c4 => ?_) (fun c4 => ?_)
      · have hok := hok.1 c4
        refine lv_aload_n hx hb dX1_fresh_20 rfl (lv_at hl 0 rfl) ?_
        refine wc_get hC hin1 hK hP 1 (by decide) rfl (by decide +kernel) (dget_1 _ _ _ _) dX1_fresh_21 ?_
        refine lv_iload_n hx hb dX1_fresh_24 rfl (lv_at hl 1 rfl) ?_
        refine lv_iload_n hx hb dX1_fresh_25 rfl (lv_at hl 2 rfl) ?_
        obtain ⟨b5a, hok⟩ := hok
        obtain ⟨b5b, hok⟩ := hok
        refine wc_newa hC (by decide +kernel) hK hP hD hS hA (n := a2) b5a b5b (Nat.le_of_ble_eq_true rfl) (Nat.le_of_ble_eq_true rfl) dX1_fresh_26 (fun q5 H hq5 hP hD hS => ?_)
        have hok := hok q5 hq5
        obtain ⟨b6, hok⟩ := hok
        obtain ⟨b7, hok⟩ := hok
        refine wc_astW hC hK hP hD hS b7.1 b7.2 b6 dX1_fresh_28 (fun H locs hP hD hS => ?_)
        refine lv_iconst (v := 1) hx hb dX1_fresh_29 (by decide) ?_
        exact wx_reti kst_C (csW (csNW S q5 a2.toNatClampNeg) a1.toNatClampNeg (some q5)) hx hb hr hlk hK hP hD hS dX1_fresh_30 (by unfold s_X1_fresh; rw [if_neg c2, if_neg c3, if_pos c4]; refine ⟨q5, hq5, ?_⟩; exact ⟨rfl, rfl⟩)
      · have hok := hok.2 c4
        refine lv_iconst (v := (-1)) hx hb dX1_fresh_18 (by decide) ?_
        refine W.widen (k := 1) (n := 8) (by decide) (by decide) ?_
        exact wx_reti kst_C S hx hb hr hlk hK hP hD hS dX1_fresh_19 (by unfold s_X1_fresh; rw [if_neg c2, if_neg c3, if_neg c4]; exact ⟨rfl, rfl⟩)
def p_X1_book (S : CS) (a1 : Int32) (a2 : Int32) (a3 : Int32) : Int32 × CS := if (p_X1_isBelow a1 4) = 0 then ((-1), S) else (if (p_X1_isBelow a2 (nI (qWL S ((qW S a1.toNatClampNeg).getD 0)))) = 0 then ((-1), S) else (1, csWA S ((qW S a1.toNatClampNeg).getD 0) a2.toNatClampNeg a3))
def ok_X1_book (S : CS) (a1 : Int32) (a2 : Int32) (a3 : Int32) : Prop := ((p_X1_isBelow a1 4) = 0 → True) ∧ (¬ (p_X1_isBelow a1 4) = 0 → ((vp_in a1 4) ∧ ((¬ (qW S a1.toNatClampNeg) = none) ∧ (((qW S a1.toNatClampNeg).getD 0 ∈ qL S ∧ qK S ((qW S a1.toNatClampNeg).getD 0) = false) ∧ (((p_X1_isBelow a2 (nI (qWL S ((qW S a1.toNatClampNeg).getD 0)))) = 0 → True) ∧ (¬ (p_X1_isBelow a2 (nI (qWL S ((qW S a1.toNatClampNeg).getD 0)))) = 0 → ((vp_in a1 4) ∧ ((¬ (qW S a1.toNatClampNeg) = none) ∧ (((qW S a1.toNatClampNeg).getD 0 ∈ qL S ∧ qK S ((qW S a1.toNatClampNeg).getD 0) = false) ∧ ((vp_in a2 (qWL S ((qW S a1.toNatClampNeg).getD 0))) ∧ (True)))))))))))
set_option maxHeartbeats 4000000 in
set_option maxRecDepth 100000 in
theorem c_X1_book (l : Launch) (D : va_G) (x A0 A1 A2 : Nat) (cI cR cII : ClassId) (S : CS) (a1 : Int32) (a2 : Int32) (a3 : Int32) (hok : ok_X1_book S a1 a2 a3) : MetI l yX1_book wsX1_book ({ frames := 1, cells := 0, slots := 0, locals := 21 } : Room) D (cKK D cI cR cII) (cW x A0 A1 A2 cI cR cII) S [.ref x, .int a1, .int a2, .int a3] (fun r u => (r, u) = p_X1_book S a1 a2 a3) 0 0 := by
  unfold ok_X1_book at hok
  refine MetI.of (cc := cX1_book) (maxL := 4) (by decide) rfl (Nat.le_of_ble_eq_true rfl) ?_
  intro p e s m below meth c A ls hC hr hlk hnm hK hP hD hA hl
  obtain ⟨hx, hb, hml, hown, hts⟩ := id hC
  have hS : va_S A s.heap s.heap [] := va_S.rf
  have hin1 : ∀ w ∈ wsX10, w ∈ wsX1_book := fun _ h => List.mem_cons_of_mem _ (List.mem_append_right _ h)
  have hl : lv_has ls 4 [(0, .ref x), (1, .int a1), (2, .int a2), (3, .int a3)] := hl
  refine lv_iload_n hx hb dX1_book_0 rfl (lv_at hl 1 rfl) ?_
  refine lv_iconst (v := 4) hx hb dX1_book_1 (by decide) ?_
  refine wx_callS (As := [.int a1, .int 4]) (rest := []) hC (c_X1_isBelow l a1 4) (va_cwS 2 hts gX1_book_X1_isBelow rfl rfl rfl (by decide +kernel) ⟨Nat.le_of_ble_eq_true rfl, Nat.le_of_ble_eq_true rfl⟩) rfl hl.1 rfl (Nat.le_of_ble_eq_true rfl) dX1_book_2 ⟨Nat.le_of_ble_eq_true rfl, Nat.le_of_ble_eq_true rfl⟩ (fun r1 hw => ?_)
  obtain rfl : r1 = p_X1_isBelow a1 4 := hw
  refine lv_if_eq (tgt := 22) hx hb dX1_book_5 (by decide) (fun c2 => ?_) (fun c2 => ?_)
  · have hok := hok.1 c2
    refine lv_iconst (v := (-1)) hx hb dX1_book_22 (by decide) ?_
    exact wx_reti kst_C S hx hb hr hlk hK hP hD hS dX1_book_23 (by unfold p_X1_book; rw [if_pos c2])
  · have hok := hok.2 c2
    refine lv_iload_n hx hb dX1_book_8 rfl (lv_at hl 2 rfl) ?_
    refine lv_aload_n hx hb dX1_book_9 rfl (lv_at hl 0 rfl) ?_
    refine wc_get hC hin1 hK hP 1 (by decide) rfl (by decide +kernel) (dget_1 _ _ _ _) dX1_book_10 ?_
    refine lv_iload_n hx hb dX1_book_13 rfl (lv_at hl 1 rfl) ?_
    obtain ⟨b3, hok⟩ := hok
    refine wc_aldW hC hK hP b3 dX1_book_14 ?_
    obtain ⟨b4, hok⟩ := hok
    refine lv_qsome b4 ?_
    obtain ⟨b5, hok⟩ := hok
    refine wc_rlen hC hK hP b5.1 b5.2 dX1_book_15 ?_
    refine wx_callS (As := [.int a2, .int (nI (qWL S ((qW S a1.toNatClampNeg).getD 0)))]) (rest := []) hC (c_X1_isBelow l a2 (nI (qWL S ((qW S a1.toNatClampNeg).getD 0)))) (va_cwS 2 hts gX1_book_X1_isBelow rfl rfl rfl (by decide +kernel) ⟨Nat.le_of_ble_eq_true rfl, Nat.le_of_ble_eq_true rfl⟩) rfl hl.1 rfl (Nat.le_of_ble_eq_true rfl) dX1_book_16 ⟨Nat.le_of_ble_eq_true rfl, Nat.le_of_ble_eq_true rfl⟩ (fun r6 hw => ?_)
    obtain rfl : r6 = p_X1_isBelow a2 (nI (qWL S ((qW S a1.toNatClampNeg).getD 0))) := hw
    refine lv_if_ne (tgt := 24) hx hb dX1_book_19 (by decide) (fun c7 => ?_) (fun c7 => ?_)
    · have hok := hok.2 c7
      refine lv_aload_n hx hb dX1_book_24 rfl (lv_at hl 0 rfl) ?_
      refine wc_get hC hin1 hK hP 1 (by decide) rfl (by decide +kernel) (dget_1 _ _ _ _) dX1_book_25 ?_
      refine lv_iload_n hx hb dX1_book_28 rfl (lv_at hl 1 rfl) ?_
      obtain ⟨b8, hok⟩ := hok
      refine wc_aldW hC hK hP b8 dX1_book_29 ?_
      obtain ⟨b9, hok⟩ := hok
      refine lv_qsome b9 ?_
      refine lv_iload_n hx hb dX1_book_30 rfl (lv_at hl 2 rfl) ?_
      refine lv_iload_n hx hb dX1_book_31 rfl (lv_at hl 3 rfl) ?_
      obtain ⟨b10, hok⟩ := hok
      obtain ⟨b11, hok⟩ := hok
      refine wc_rast hC hK hP hD hS b10.1 b10.2 b11 dX1_book_32 (fun H locs hP hD hS => ?_)
      refine lv_iconst (v := 1) hx hb dX1_book_33 (by decide) ?_
      exact wx_reti kst_C (csWA S ((qW S a1.toNatClampNeg).getD 0) a2.toNatClampNeg a3) hx hb hr hlk hK hP hD hS dX1_book_34 (by unfold p_X1_book; rw [if_neg c2, if_neg c7])
    · have hok := hok.1 c7
      refine lv_iconst (v := (-1)) hx hb dX1_book_22 (by decide) ?_
      exact wx_reti kst_C S hx hb hr hlk hK hP hD hS dX1_book_23 (by unfold p_X1_book; rw [if_neg c2, if_pos c7])
def p_X1_stand (S : CS) (a1 : Int32) (a2 : Nat) : Int32 × CS := ((qI S 3) + 1, csI (csP S a1.toNatClampNeg (some a2)) 3 ((qI S 3) + 1))
def ok_X1_stand (S : CS) (a1 : Int32) (a2 : Nat) : Prop := (vp_in a1 16) ∧ ((a2 ∈ qL S ∧ qK S a2 = true) ∧ (True))
set_option maxHeartbeats 4000000 in
set_option maxRecDepth 100000 in
theorem c_X1_stand (l : Launch) (D : va_G) (x A0 A1 A2 : Nat) (cI cR cII : ClassId) (S : CS) (a1 : Int32) (a2 : Nat) (hok : ok_X1_stand S a1 a2) : MetI l yX1_stand wsX1_stand ({ frames := 0, cells := 0, slots := 0, locals := 0 } : Room) D (cKK D cI cR cII) (cW x A0 A1 A2 cI cR cII) S [.ref x, .int a1, .ref a2] (fun r u => (r, u) = p_X1_stand S a1 a2) 0 0 := by
  unfold ok_X1_stand at hok
  refine MetI.of (cc := cX1_stand) (maxL := 3) (by decide) rfl (Nat.le_of_ble_eq_true rfl) ?_
  intro p e s m below meth c A ls hC hr hlk hnm hK hP hD hA hl
  obtain ⟨hx, hb, hml, hown, hts⟩ := id hC
  have hS : va_S A s.heap s.heap [] := va_S.rf
  have hin1 : ∀ w ∈ wsX10, w ∈ wsX1_stand := fun _ h => List.mem_cons_of_mem _ (List.mem_append_right _ h)
  have hl : lv_has ls 3 [(0, .ref x), (1, .int a1), (2, .ref a2)] := hl
  refine lv_aload_n hx hb dX1_stand_0 rfl (lv_at hl 0 rfl) ?_
  refine wc_get hC hin1 hK hP 2 (by decide) rfl (by decide +kernel) (dget_2 _ _ _ _) dX1_stand_1 ?_
  refine lv_iload_n hx hb dX1_stand_4 rfl (lv_at hl 1 rfl) ?_
  refine lv_aload_n hx hb dX1_stand_5 rfl (lv_at hl 2 rfl) ?_
  obtain ⟨b1, hok⟩ := hok
  obtain ⟨b2, hok⟩ := hok
  refine wc_astP hC hK hP hD hS b2.1 b2.2 b1 dX1_stand_6 (fun H locs hP hD hS => ?_)
  refine lv_aload_n hx hb dX1_stand_7 rfl (lv_at hl 0 rfl) ?_
  refine lv_dup hx hb dX1_stand_8 rfl ?_
  refine wc_get hC hin1 hK hP 3 (by decide) rfl (by decide +kernel) (dget_3 _ _ _ _) dX1_stand_9 ?_
  refine lv_see (v2 := .int (qI S 3)) rfl ?_
  refine lv_iconst (v := 1) hx hb dX1_stand_12 (by decide) ?_
  refine lv_iadd hx hb dX1_stand_13 ?_
  refine wc_putI hC hin1 hK hP hD hS 3 (by decide) rfl (by decide +kernel) rfl (by decide +kernel) (dset_3 _ _ _ _ _) dX1_stand_14 (fun H locs hP hD hS => ?_)
  refine lv_aload_n hx hb dX1_stand_17 rfl (lv_at hl 0 rfl) ?_
  refine wc_get hC hin1 hK hP 3 (by decide) rfl (by decide +kernel) (dget_3 _ _ _ _) dX1_stand_18 ?_
  refine lv_see (v2 := .int ((qI S 3) + 1)) rfl ?_
  exact wx_reti kst_C (csI (csP S a1.toNatClampNeg (some a2)) 3 ((qI S 3) + 1)) hx hb hr hlk hK hP hD hS dX1_stand_21 (by unfold p_X1_stand; rfl)
def s_X1_flat (S : CS) (a1 : Int32) (a2 : Int32) (r : Int32) (u : CS) : Prop := if (p_X1_isPlace a1) = 0 then (r = (-1) ∧ u = S) else (∃ q3, q3 ∉ qL S ∧ (r = (p_X1_stand (p_X0_init (csNR S q3) q3 0 a2 none) a1 q3).1 ∧ u = (p_X1_stand (p_X0_init (csNR S q3) q3 0 a2 none) a1 q3).2))
def ok_X1_flat (S : CS) (a1 : Int32) (a2 : Int32) : Prop := ((p_X1_isPlace a1) = 0 → True) ∧ (¬ (p_X1_isPlace a1) = 0 → (∀ q3, q3 ∉ qL S → ((ok_X0_init (csNR S q3) q3 0 a2 none) ∧ ((ok_X1_stand (p_X0_init (csNR S q3) q3 0 a2 none) a1 q3) ∧ (True)))))
set_option maxHeartbeats 4000000 in
set_option maxRecDepth 100000 in
theorem c_X1_flat (l : Launch) (D : va_G) (x A0 A1 A2 : Nat) (cI cR cII : ClassId) (S : CS) (a1 : Int32) (a2 : Int32) (hok : ok_X1_flat S a1 a2) : MetI l yX1_flat wsX1_flat ({ frames := 2, cells := 1, slots := 11, locals := 41 } : Room) D (cKK D cI cR cII) (cW x A0 A1 A2 cI cR cII) S [.ref x, .int a1, .int a2] (fun r u => s_X1_flat S a1 a2 r u) 1 11 := by
  unfold ok_X1_flat at hok
  refine MetI.of (cc := cX1_flat) (maxL := 3) (by decide) rfl (Nat.le_of_ble_eq_true rfl) ?_
  intro p e s m below meth c A ls hC hr hlk hnm hK hP hD hA hl
  obtain ⟨hx, hb, hml, hown, hts⟩ := id hC
  have hS : va_S A s.heap s.heap [] := va_S.rf
  have hin0 : ∀ w ∈ wsX00, w ∈ wsX1_flat := fun _ h => List.mem_cons_of_mem _ (List.mem_append_left _ (List.mem_append_right _ h))
  have hin1 : ∀ w ∈ wsX10, w ∈ wsX1_flat := fun _ h => List.mem_cons_of_mem _ (List.mem_append_right _ h)
  have hl : lv_has ls 3 [(0, .ref x), (1, .int a1), (2, .int a2)] := hl
  refine lv_iload_n hx hb dX1_flat_0 rfl (lv_at hl 1 rfl) ?_
  refine wx_callS (As := [.int a1]) (rest := []) hC (c_X1_isPlace l a1) (va_cwS 1 hts gX1_flat_X1_isPlace rfl rfl rfl (by decide +kernel) ⟨Nat.le_of_ble_eq_true rfl, Nat.le_of_ble_eq_true rfl⟩) rfl hl.1 rfl (Nat.le_of_ble_eq_true rfl) dX1_flat_1 ⟨Nat.le_of_ble_eq_true rfl, Nat.le_of_ble_eq_true rfl⟩ (fun r1 hw => ?_)
  obtain rfl : r1 = p_X1_isPlace a1 := hw
  refine lv_if_ne (tgt := 9) hx hb dX1_flat_4 (by decide) (fun c2 => ?_) (fun c2 => ?_)
  · have hok := hok.2 c2
    refine lv_aload_n hx hb dX1_flat_9 rfl (lv_at hl 0 rfl) ?_
    refine lv_iload_n hx hb dX1_flat_10 rfl (lv_at hl 1 rfl) ?_
    refine wc_new hC hin0 (by decide +kernel) (by decide +kernel) (by decide +kernel) hK hP hD hS hA (Nat.le_of_ble_eq_true rfl) (Nat.le_of_ble_eq_true rfl) dX1_flat_11 (fun q3 H hq3 hP hD hS => ?_)
    have hok := hok q3 hq3
    refine lv_dup hx hb dX1_flat_14 rfl ?_
    refine lv_iconst (v := 0) hx hb dX1_flat_15 (by decide) ?_
    refine lv_iload_n hx hb dX1_flat_16 rfl (lv_at hl 2 rfl) ?_
    refine lv_null hx hb dX1_flat_17 ?_
    obtain ⟨o4, hok⟩ := hok
    refine wx_callIv (As := [.int 0, .int a2, .null]) (rest := [.ref q3, .int a1, .ref x]) kst_C hC (c_X0_init l D x A0 A1 A2 cI cR cII (csNR S q3) q3 0 a2 none o4) (cwI 3 hts gX1_flat_X0_init rfl rfl rfl (hts (.initialized RX0) (by decide +kernel)) (hts (.methodLink RX1 32 yX0_init) (by decide +kernel)) (hts (.instanceMethod yX0_init) (by decide +kernel)) rfl (by decide +kernel) ⟨Nat.le_of_ble_eq_true rfl, Nat.le_of_ble_eq_true rfl⟩) hK hP hD hS hA rfl hl.1 rfl (Nat.le_of_ble_eq_true rfl) dX1_flat_18 ⟨Nat.le_of_ble_eq_true rfl, Nat.le_of_ble_eq_true rfl⟩ (fun u4 H locs hw hP hD hS => ?_)
    obtain rfl : p_X0_init (csNR S q3) q3 0 a2 none = u4 := hw.symm
    obtain ⟨o5, hok⟩ := hok
    refine wx_callVi (As := [.int a1, .ref q3]) (rest := []) kst_C hC (c_X1_stand l D x A0 A1 A2 cI cR cII (p_X0_init (csNR S q3) q3 0 a2 none) a1 q3 o5) (cwV 2 hts gX1_flat_X1_stand rfl rfl rfl (by decide +kernel) ⟨Nat.le_of_ble_eq_true rfl, Nat.le_of_ble_eq_true rfl⟩) hK hP hD hS hA (wc_cell hK hP) rfl hl.1 rfl (Nat.le_of_ble_eq_true rfl) dX1_flat_21 ⟨Nat.le_of_ble_eq_true rfl, Nat.le_of_ble_eq_true rfl⟩ (fun r5 u5 H locs hw hP hD hS => ?_)
    obtain rfl : r5 = (p_X1_stand (p_X0_init (csNR S q3) q3 0 a2 none) a1 q3).1 := congrArg Prod.fst hw
    obtain rfl : u5 = (p_X1_stand (p_X0_init (csNR S q3) q3 0 a2 none) a1 q3).2 := congrArg Prod.snd hw
    exact wx_reti kst_C ((p_X1_stand (p_X0_init (csNR S q3) q3 0 a2 none) a1 q3).2) hx hb hr hlk hK hP hD hS dX1_flat_24 (by unfold s_X1_flat; rw [if_neg c2]; refine ⟨q3, hq3, ?_⟩; exact ⟨rfl, rfl⟩)
  · have hok := hok.1 c2
    refine lv_iconst (v := (-1)) hx hb dX1_flat_7 (by decide) ?_
    refine W.widen (k := 1) (n := 11) (by decide) (by decide) ?_
    exact wx_reti kst_C S hx hb hr hlk hK hP hD hS dX1_flat_8 (by unfold s_X1_flat; rw [if_pos c2]; exact ⟨rfl, rfl⟩)
def s_X1_rated (S : CS) (a1 : Int32) (a2 : Int32) (r : Int32) (u : CS) : Prop := if (p_X1_isPlace a1) = 0 then (r = (-1) ∧ u = S) else (if (p_X1_isBelow a2 8) = 0 then (r = (-1) ∧ u = S) else (∃ q5, q5 ∉ qL S ∧ (r = (p_X1_stand (p_X0_init (csNR S q5) q5 1 (qR S a2.toNatClampNeg) none) a1 q5).1 ∧ u = (p_X1_stand (p_X0_init (csNR S q5) q5 1 (qR S a2.toNatClampNeg) none) a1 q5).2)))
def ok_X1_rated (S : CS) (a1 : Int32) (a2 : Int32) : Prop := ((p_X1_isPlace a1) = 0 → True) ∧ (¬ (p_X1_isPlace a1) = 0 → (((p_X1_isBelow a2 8) = 0 → True) ∧ (¬ (p_X1_isBelow a2 8) = 0 → (∀ q5, q5 ∉ qL S → ((vp_in a2 8) ∧ ((ok_X0_init (csNR S q5) q5 1 (qR S a2.toNatClampNeg) none) ∧ ((ok_X1_stand (p_X0_init (csNR S q5) q5 1 (qR S a2.toNatClampNeg) none) a1 q5) ∧ (True))))))))
set_option maxHeartbeats 4000000 in
set_option maxRecDepth 100000 in
theorem c_X1_rated (l : Launch) (D : va_G) (x A0 A1 A2 : Nat) (cI cR cII : ClassId) (S : CS) (a1 : Int32) (a2 : Int32) (hok : ok_X1_rated S a1 a2) : MetI l yX1_rated wsX1_rated ({ frames := 2, cells := 1, slots := 11, locals := 41 } : Room) D (cKK D cI cR cII) (cW x A0 A1 A2 cI cR cII) S [.ref x, .int a1, .int a2] (fun r u => s_X1_rated S a1 a2 r u) 1 11 := by
  unfold ok_X1_rated at hok
  refine MetI.of (cc := cX1_rated) (maxL := 3) (by decide) rfl (Nat.le_of_ble_eq_true rfl) ?_
  intro p e s m below meth c A ls hC hr hlk hnm hK hP hD hA hl
  obtain ⟨hx, hb, hml, hown, hts⟩ := id hC
  have hS : va_S A s.heap s.heap [] := va_S.rf
  have hin0 : ∀ w ∈ wsX00, w ∈ wsX1_rated := fun _ h => List.mem_cons_of_mem _ (List.mem_append_left _ (List.mem_append_right _ h))
  have hin1 : ∀ w ∈ wsX10, w ∈ wsX1_rated := fun _ h => List.mem_cons_of_mem _ (List.mem_append_right _ h)
  have hl : lv_has ls 3 [(0, .ref x), (1, .int a1), (2, .int a2)] := hl
  refine lv_iload_n hx hb dX1_rated_0 rfl (lv_at hl 1 rfl) ?_
  refine wx_callS (As := [.int a1]) (rest := []) hC (c_X1_isPlace l a1) (va_cwS 1 hts gX1_rated_X1_isPlace rfl rfl rfl (by decide +kernel) ⟨Nat.le_of_ble_eq_true rfl, Nat.le_of_ble_eq_true rfl⟩) rfl hl.1 rfl (Nat.le_of_ble_eq_true rfl) dX1_rated_1 ⟨Nat.le_of_ble_eq_true rfl, Nat.le_of_ble_eq_true rfl⟩ (fun r1 hw => ?_)
  obtain rfl : r1 = p_X1_isPlace a1 := hw
  refine lv_if_eq (tgt := 16) hx hb dX1_rated_4 (by decide) (fun c2 => ?_) (fun c2 => ?_)
  · have hok := hok.1 c2
    refine lv_iconst (v := (-1)) hx hb dX1_rated_16 (by decide) ?_
    refine W.widen (k := 1) (n := 11) (by decide) (by decide) ?_
    exact wx_reti kst_C S hx hb hr hlk hK hP hD hS dX1_rated_17 (by unfold s_X1_rated; rw [if_pos c2]; exact ⟨rfl, rfl⟩)
  · have hok := hok.2 c2
    refine lv_iload_n hx hb dX1_rated_7 rfl (lv_at hl 2 rfl) ?_
    refine lv_bipush (v := 8) hx hb dX1_rated_8 (by decide) ?_
    refine wx_callS (As := [.int a2, .int 8]) (rest := []) hC (c_X1_isBelow l a2 8) (va_cwS 2 hts gX1_rated_X1_isBelow rfl rfl rfl (by decide +kernel) ⟨Nat.le_of_ble_eq_true rfl, Nat.le_of_ble_eq_true rfl⟩) rfl hl.1 rfl (Nat.le_of_ble_eq_true rfl) dX1_rated_10 ⟨Nat.le_of_ble_eq_true rfl, Nat.le_of_ble_eq_true rfl⟩ (fun r3 hw => ?_)
    obtain rfl : r3 = p_X1_isBelow a2 8 := hw
    refine lv_if_ne (tgt := 18) hx hb dX1_rated_13 (by decide) (fun c4 => ?_) (fun c4 => ?_)
    · have hok := hok.2 c4
      refine lv_aload_n hx hb dX1_rated_18 rfl (lv_at hl 0 rfl) ?_
      refine lv_iload_n hx hb dX1_rated_19 rfl (lv_at hl 1 rfl) ?_
      refine wc_new hC hin0 (by decide +kernel) (by decide +kernel) (by decide +kernel) hK hP hD hS hA (Nat.le_of_ble_eq_true rfl) (Nat.le_of_ble_eq_true rfl) dX1_rated_20 (fun q5 H hq5 hP hD hS => ?_)
      have hok := hok q5 hq5
      refine lv_dup hx hb dX1_rated_23 rfl ?_
      refine lv_iconst (v := 1) hx hb dX1_rated_24 (by decide) ?_
      refine lv_aload_n hx hb dX1_rated_25 rfl (lv_at hl 0 rfl) ?_
      refine wc_get hC hin1 hK hP 0 (by decide) rfl (by decide +kernel) (dget_0 _ _ _ _) dX1_rated_26 ?_
      refine lv_iload_n hx hb dX1_rated_29 rfl (lv_at hl 2 rfl) ?_
      obtain ⟨b6, hok⟩ := hok
      refine wc_ald0 hC hK hP b6 dX1_rated_30 ?_
      refine lv_see (v2 := .int (qR S a2.toNatClampNeg)) rfl ?_
      refine lv_null hx hb dX1_rated_31 ?_
      obtain ⟨o7, hok⟩ := hok
      refine wx_callIv (As := [.int 1, .int (qR S a2.toNatClampNeg), .null]) (rest := [.ref q5, .int a1, .ref x]) kst_C hC (c_X0_init l D x A0 A1 A2 cI cR cII (csNR S q5) q5 1 (qR S a2.toNatClampNeg) none o7) (cwI 3 hts gX1_rated_X0_init rfl rfl rfl (hts (.initialized RX0) (by decide +kernel)) (hts (.methodLink RX1 32 yX0_init) (by decide +kernel)) (hts (.instanceMethod yX0_init) (by decide +kernel)) rfl (by decide +kernel) ⟨Nat.le_of_ble_eq_true rfl, Nat.le_of_ble_eq_true rfl⟩) hK hP hD hS hA rfl hl.1 rfl (Nat.le_of_ble_eq_true rfl) dX1_rated_32 ⟨Nat.le_of_ble_eq_true rfl, Nat.le_of_ble_eq_true rfl⟩ (fun u7 H locs hw hP hD hS => ?_)
      obtain rfl : p_X0_init (csNR S q5) q5 1 (qR S a2.toNatClampNeg) none = u7 := hw.symm
      obtain ⟨o8, hok⟩ := hok
      refine wx_callVi (As := [.int a1, .ref q5]) (rest := []) kst_C hC (c_X1_stand l D x A0 A1 A2 cI cR cII (p_X0_init (csNR S q5) q5 1 (qR S a2.toNatClampNeg) none) a1 q5 o8) (cwV 2 hts gX1_rated_X1_stand rfl rfl rfl (by decide +kernel) ⟨Nat.le_of_ble_eq_true rfl, Nat.le_of_ble_eq_true rfl⟩) hK hP hD hS hA (wc_cell hK hP) rfl hl.1 rfl (Nat.le_of_ble_eq_true rfl) dX1_rated_35 ⟨Nat.le_of_ble_eq_true rfl, Nat.le_of_ble_eq_true rfl⟩ (fun r8 u8 H locs hw hP hD hS => ?_)
      obtain rfl : r8 = (p_X1_stand (p_X0_init (csNR S q5) q5 1 (qR S a2.toNatClampNeg) none) a1 q5).1 := congrArg Prod.fst hw
      obtain rfl : u8 = (p_X1_stand (p_X0_init (csNR S q5) q5 1 (qR S a2.toNatClampNeg) none) a1 q5).2 := congrArg Prod.snd hw
      exact wx_reti kst_C ((p_X1_stand (p_X0_init (csNR S q5) q5 1 (qR S a2.toNatClampNeg) none) a1 q5).2) hx hb hr hlk hK hP hD hS dX1_rated_38 (by unfold s_X1_rated; rw [if_neg c2, if_neg c4]; refine ⟨q5, hq5, ?_⟩; exact ⟨rfl, rfl⟩)
    · have hok := hok.1 c4
      refine lv_iconst (v := (-1)) hx hb dX1_rated_16 (by decide) ?_
      refine W.widen (k := 1) (n := 11) (by decide) (by decide) ?_
      exact wx_reti kst_C S hx hb hr hlk hK hP hD hS dX1_rated_17 (by unfold s_X1_rated; rw [if_neg c2, if_pos c4]; exact ⟨rfl, rfl⟩)
def s_X1_live (S : CS) (a1 : Int32) (a2 : Int32) (r : Int32) (u : CS) : Prop := if (p_X1_isPlace a1) = 0 then (r = (-1) ∧ u = S) else (if (p_X1_isBelow a2 8) = 0 then (r = (-1) ∧ u = S) else (∃ q5, q5 ∉ qL S ∧ (r = (p_X1_stand (p_X0_init (csNR S q5) q5 2 a2 none) a1 q5).1 ∧ u = (p_X1_stand (p_X0_init (csNR S q5) q5 2 a2 none) a1 q5).2)))
def ok_X1_live (S : CS) (a1 : Int32) (a2 : Int32) : Prop := ((p_X1_isPlace a1) = 0 → True) ∧ (¬ (p_X1_isPlace a1) = 0 → (((p_X1_isBelow a2 8) = 0 → True) ∧ (¬ (p_X1_isBelow a2 8) = 0 → (∀ q5, q5 ∉ qL S → ((ok_X0_init (csNR S q5) q5 2 a2 none) ∧ ((ok_X1_stand (p_X0_init (csNR S q5) q5 2 a2 none) a1 q5) ∧ (True)))))))
set_option maxHeartbeats 4000000 in
set_option maxRecDepth 100000 in
theorem c_X1_live (l : Launch) (D : va_G) (x A0 A1 A2 : Nat) (cI cR cII : ClassId) (S : CS) (a1 : Int32) (a2 : Int32) (hok : ok_X1_live S a1 a2) : MetI l yX1_live wsX1_live ({ frames := 2, cells := 1, slots := 11, locals := 41 } : Room) D (cKK D cI cR cII) (cW x A0 A1 A2 cI cR cII) S [.ref x, .int a1, .int a2] (fun r u => s_X1_live S a1 a2 r u) 1 11 := by
  unfold ok_X1_live at hok
  refine MetI.of (cc := cX1_live) (maxL := 3) (by decide) rfl (Nat.le_of_ble_eq_true rfl) ?_
  intro p e s m below meth c A ls hC hr hlk hnm hK hP hD hA hl
  obtain ⟨hx, hb, hml, hown, hts⟩ := id hC
  have hS : va_S A s.heap s.heap [] := va_S.rf
  have hin0 : ∀ w ∈ wsX00, w ∈ wsX1_live := fun _ h => List.mem_cons_of_mem _ (List.mem_append_left _ (List.mem_append_right _ h))
  have hin1 : ∀ w ∈ wsX10, w ∈ wsX1_live := fun _ h => List.mem_cons_of_mem _ (List.mem_append_right _ h)
  have hl : lv_has ls 3 [(0, .ref x), (1, .int a1), (2, .int a2)] := hl
  refine lv_iload_n hx hb dX1_live_0 rfl (lv_at hl 1 rfl) ?_
  refine wx_callS (As := [.int a1]) (rest := []) hC (c_X1_isPlace l a1) (va_cwS 1 hts gX1_live_X1_isPlace rfl rfl rfl (by decide +kernel) ⟨Nat.le_of_ble_eq_true rfl, Nat.le_of_ble_eq_true rfl⟩) rfl hl.1 rfl (Nat.le_of_ble_eq_true rfl) dX1_live_1 ⟨Nat.le_of_ble_eq_true rfl, Nat.le_of_ble_eq_true rfl⟩ (fun r1 hw => ?_)
  obtain rfl : r1 = p_X1_isPlace a1 := hw
  refine lv_if_eq (tgt := 16) hx hb dX1_live_4 (by decide) (fun c2 => ?_) (fun c2 => ?_)
  · have hok := hok.1 c2
    refine lv_iconst (v := (-1)) hx hb dX1_live_16 (by decide) ?_
    refine W.widen (k := 1) (n := 11) (by decide) (by decide) ?_
    exact wx_reti kst_C S hx hb hr hlk hK hP hD hS dX1_live_17 (by unfold s_X1_live; rw [if_pos c2]; exact ⟨rfl, rfl⟩)
  · have hok := hok.2 c2
    refine lv_iload_n hx hb dX1_live_7 rfl (lv_at hl 2 rfl) ?_
    refine lv_bipush (v := 8) hx hb dX1_live_8 (by decide) ?_
    refine wx_callS (As := [.int a2, .int 8]) (rest := []) hC (c_X1_isBelow l a2 8) (va_cwS 2 hts gX1_live_X1_isBelow rfl rfl rfl (by decide +kernel) ⟨Nat.le_of_ble_eq_true rfl, Nat.le_of_ble_eq_true rfl⟩) rfl hl.1 rfl (Nat.le_of_ble_eq_true rfl) dX1_live_10 ⟨Nat.le_of_ble_eq_true rfl, Nat.le_of_ble_eq_true rfl⟩ (fun r3 hw => ?_)
    obtain rfl : r3 = p_X1_isBelow a2 8 := hw
    refine lv_if_ne (tgt := 18) hx hb dX1_live_13 (by decide) (fun c4 => ?_) (fun c4 => ?_)
    · have hok := hok.2 c4
      refine lv_aload_n hx hb dX1_live_18 rfl (lv_at hl 0 rfl) ?_
      refine lv_iload_n hx hb dX1_live_19 rfl (lv_at hl 1 rfl) ?_
      refine wc_new hC hin0 (by decide +kernel) (by decide +kernel) (by decide +kernel) hK hP hD hS hA (Nat.le_of_ble_eq_true rfl) (Nat.le_of_ble_eq_true rfl) dX1_live_20 (fun q5 H hq5 hP hD hS => ?_)
      have hok := hok q5 hq5
      refine lv_dup hx hb dX1_live_23 rfl ?_
      refine lv_iconst (v := 2) hx hb dX1_live_24 (by decide) ?_
      refine lv_iload_n hx hb dX1_live_25 rfl (lv_at hl 2 rfl) ?_
      refine lv_null hx hb dX1_live_26 ?_
      obtain ⟨o6, hok⟩ := hok
      refine wx_callIv (As := [.int 2, .int a2, .null]) (rest := [.ref q5, .int a1, .ref x]) kst_C hC (c_X0_init l D x A0 A1 A2 cI cR cII (csNR S q5) q5 2 a2 none o6) (cwI 3 hts gX1_live_X0_init rfl rfl rfl (hts (.initialized RX0) (by decide +kernel)) (hts (.methodLink RX1 32 yX0_init) (by decide +kernel)) (hts (.instanceMethod yX0_init) (by decide +kernel)) rfl (by decide +kernel) ⟨Nat.le_of_ble_eq_true rfl, Nat.le_of_ble_eq_true rfl⟩) hK hP hD hS hA rfl hl.1 rfl (Nat.le_of_ble_eq_true rfl) dX1_live_27 ⟨Nat.le_of_ble_eq_true rfl, Nat.le_of_ble_eq_true rfl⟩ (fun u6 H locs hw hP hD hS => ?_)
      obtain rfl : p_X0_init (csNR S q5) q5 2 a2 none = u6 := hw.symm
      obtain ⟨o7, hok⟩ := hok
      refine wx_callVi (As := [.int a1, .ref q5]) (rest := []) kst_C hC (c_X1_stand l D x A0 A1 A2 cI cR cII (p_X0_init (csNR S q5) q5 2 a2 none) a1 q5 o7) (cwV 2 hts gX1_live_X1_stand rfl rfl rfl (by decide +kernel) ⟨Nat.le_of_ble_eq_true rfl, Nat.le_of_ble_eq_true rfl⟩) hK hP hD hS hA (wc_cell hK hP) rfl hl.1 rfl (Nat.le_of_ble_eq_true rfl) dX1_live_30 ⟨Nat.le_of_ble_eq_true rfl, Nat.le_of_ble_eq_true rfl⟩ (fun r7 u7 H locs hw hP hD hS => ?_)
      obtain rfl : r7 = (p_X1_stand (p_X0_init (csNR S q5) q5 2 a2 none) a1 q5).1 := congrArg Prod.fst hw
      obtain rfl : u7 = (p_X1_stand (p_X0_init (csNR S q5) q5 2 a2 none) a1 q5).2 := congrArg Prod.snd hw
      exact wx_reti kst_C ((p_X1_stand (p_X0_init (csNR S q5) q5 2 a2 none) a1 q5).2) hx hb hr hlk hK hP hD hS dX1_live_33 (by unfold s_X1_live; rw [if_neg c2, if_neg c4]; refine ⟨q5, hq5, ?_⟩; exact ⟨rfl, rfl⟩)
    · have hok := hok.1 c4
      refine lv_iconst (v := (-1)) hx hb dX1_live_16 (by decide) ?_
      refine W.widen (k := 1) (n := 11) (by decide) (by decide) ?_
      exact wx_reti kst_C S hx hb hr hlk hK hP hD hS dX1_live_17 (by unfold s_X1_live; rw [if_neg c2, if_pos c4]; exact ⟨rfl, rfl⟩)
def s_X1_booked (S : CS) (a1 : Int32) (a2 : Int32) (r : Int32) (u : CS) : Prop := if (p_X1_isPlace a1) = 0 then (r = (-1) ∧ u = S) else (if (p_X1_isBelow a2 4) = 0 then (r = (-1) ∧ u = S) else (∃ q5, q5 ∉ qL S ∧ (r = (p_X1_stand (p_X0_init (csNR S q5) q5 3 0 (qW S a2.toNatClampNeg)) a1 q5).1 ∧ u = (p_X1_stand (p_X0_init (csNR S q5) q5 3 0 (qW S a2.toNatClampNeg)) a1 q5).2)))
def ok_X1_booked (S : CS) (a1 : Int32) (a2 : Int32) : Prop := ((p_X1_isPlace a1) = 0 → True) ∧ (¬ (p_X1_isPlace a1) = 0 → (((p_X1_isBelow a2 4) = 0 → True) ∧ (¬ (p_X1_isBelow a2 4) = 0 → (∀ q5, q5 ∉ qL S → ((vp_in a2 4) ∧ ((ok_X0_init (csNR S q5) q5 3 0 (qW S a2.toNatClampNeg)) ∧ ((ok_X1_stand (p_X0_init (csNR S q5) q5 3 0 (qW S a2.toNatClampNeg)) a1 q5) ∧ (True))))))))
set_option maxHeartbeats 4000000 in
set_option maxRecDepth 100000 in
theorem c_X1_booked (l : Launch) (D : va_G) (x A0 A1 A2 : Nat) (cI cR cII : ClassId) (S : CS) (a1 : Int32) (a2 : Int32) (hok : ok_X1_booked S a1 a2) : MetI l yX1_booked wsX1_booked ({ frames := 2, cells := 1, slots := 11, locals := 41 } : Room) D (cKK D cI cR cII) (cW x A0 A1 A2 cI cR cII) S [.ref x, .int a1, .int a2] (fun r u => s_X1_booked S a1 a2 r u) 1 11 := by
  unfold ok_X1_booked at hok
  refine MetI.of (cc := cX1_booked) (maxL := 3) (by decide) rfl (Nat.le_of_ble_eq_true rfl) ?_
  intro p e s m below meth c A ls hC hr hlk hnm hK hP hD hA hl
  obtain ⟨hx, hb, hml, hown, hts⟩ := id hC
  have hS : va_S A s.heap s.heap [] := va_S.rf
  have hin0 : ∀ w ∈ wsX00, w ∈ wsX1_booked := fun _ h => List.mem_cons_of_mem _ (List.mem_append_left _ (List.mem_append_right _ h))
  have hin1 : ∀ w ∈ wsX10, w ∈ wsX1_booked := fun _ h => List.mem_cons_of_mem _ (List.mem_append_right _ h)
  have hl : lv_has ls 3 [(0, .ref x), (1, .int a1), (2, .int a2)] := hl
  refine lv_iload_n hx hb dX1_booked_0 rfl (lv_at hl 1 rfl) ?_
  refine wx_callS (As := [.int a1]) (rest := []) hC (c_X1_isPlace l a1) (va_cwS 1 hts gX1_booked_X1_isPlace rfl rfl rfl (by decide +kernel) ⟨Nat.le_of_ble_eq_true rfl, Nat.le_of_ble_eq_true rfl⟩) rfl hl.1 rfl (Nat.le_of_ble_eq_true rfl) dX1_booked_1 ⟨Nat.le_of_ble_eq_true rfl, Nat.le_of_ble_eq_true rfl⟩ (fun r1 hw => ?_)
  obtain rfl : r1 = p_X1_isPlace a1 := hw
  refine lv_if_eq (tgt := 15) hx hb dX1_booked_4 (by decide) (fun c2 => ?_) (fun c2 => ?_)
  · have hok := hok.1 c2
    refine lv_iconst (v := (-1)) hx hb dX1_booked_15 (by decide) ?_
    refine W.widen (k := 1) (n := 11) (by decide) (by decide) ?_
    exact wx_reti kst_C S hx hb hr hlk hK hP hD hS dX1_booked_16 (by unfold s_X1_booked; rw [if_pos c2]; exact ⟨rfl, rfl⟩)
  · have hok := hok.2 c2
    refine lv_iload_n hx hb dX1_booked_7 rfl (lv_at hl 2 rfl) ?_
    refine lv_iconst (v := 4) hx hb dX1_booked_8 (by decide) ?_
    refine wx_callS (As := [.int a2, .int 4]) (rest := []) hC (c_X1_isBelow l a2 4) (va_cwS 2 hts gX1_booked_X1_isBelow rfl rfl rfl (by decide +kernel) ⟨Nat.le_of_ble_eq_true rfl, Nat.le_of_ble_eq_true rfl⟩) rfl hl.1 rfl (Nat.le_of_ble_eq_true rfl) dX1_booked_9 ⟨Nat.le_of_ble_eq_true rfl, Nat.le_of_ble_eq_true rfl⟩ (fun r3 hw => ?_)
    obtain rfl : r3 = p_X1_isBelow a2 4 := hw
    refine lv_if_ne (tgt := 17) hx hb dX1_booked_12 (by decide) (fun c4 => ?_) (fun c4 => ?_)
    · have hok := hok.2 c4
      refine lv_aload_n hx hb dX1_booked_17 rfl (lv_at hl 0 rfl) ?_
      refine lv_iload_n hx hb dX1_booked_18 rfl (lv_at hl 1 rfl) ?_
      refine wc_new hC hin0 (by decide +kernel) (by decide +kernel) (by decide +kernel) hK hP hD hS hA (Nat.le_of_ble_eq_true rfl) (Nat.le_of_ble_eq_true rfl) dX1_booked_19 (fun q5 H hq5 hP hD hS => ?_)
      have hok := hok q5 hq5
      refine lv_dup hx hb dX1_booked_22 rfl ?_
      refine lv_iconst (v := 3) hx hb dX1_booked_23 (by decide) ?_
      refine lv_iconst (v := 0) hx hb dX1_booked_24 (by decide) ?_
      refine lv_aload_n hx hb dX1_booked_25 rfl (lv_at hl 0 rfl) ?_
      refine wc_get hC hin1 hK hP 1 (by decide) rfl (by decide +kernel) (dget_1 _ _ _ _) dX1_booked_26 ?_
      refine lv_iload_n hx hb dX1_booked_29 rfl (lv_at hl 2 rfl) ?_
      obtain ⟨b6, hok⟩ := hok
      refine wc_aldW hC hK hP b6 dX1_booked_30 ?_
      refine lv_see (v2 := va_rf (qW S a2.toNatClampNeg)) rfl ?_
      obtain ⟨o7, hok⟩ := hok
      refine wx_callIv (As := [.int 3, .int 0, va_rf (qW S a2.toNatClampNeg)]) (rest := [.ref q5, .int a1, .ref x]) kst_C hC (c_X0_init l D x A0 A1 A2 cI cR cII (csNR S q5) q5 3 0 (qW S a2.toNatClampNeg) o7) (cwI 3 hts gX1_booked_X0_init rfl rfl rfl (hts (.initialized RX0) (by decide +kernel)) (hts (.methodLink RX1 32 yX0_init) (by decide +kernel)) (hts (.instanceMethod yX0_init) (by decide +kernel)) rfl (by decide +kernel) ⟨Nat.le_of_ble_eq_true rfl, Nat.le_of_ble_eq_true rfl⟩) hK hP hD hS hA rfl hl.1 rfl (Nat.le_of_ble_eq_true rfl) dX1_booked_31 ⟨Nat.le_of_ble_eq_true rfl, Nat.le_of_ble_eq_true rfl⟩ (fun u7 H locs hw hP hD hS => ?_)
      obtain rfl : p_X0_init (csNR S q5) q5 3 0 (qW S a2.toNatClampNeg) = u7 := hw.symm
      obtain ⟨o8, hok⟩ := hok
      refine wx_callVi (As := [.int a1, .ref q5]) (rest := []) kst_C hC (c_X1_stand l D x A0 A1 A2 cI cR cII (p_X0_init (csNR S q5) q5 3 0 (qW S a2.toNatClampNeg)) a1 q5 o8) (cwV 2 hts gX1_booked_X1_stand rfl rfl rfl (by decide +kernel) ⟨Nat.le_of_ble_eq_true rfl, Nat.le_of_ble_eq_true rfl⟩) hK hP hD hS hA (wc_cell hK hP) rfl hl.1 rfl (Nat.le_of_ble_eq_true rfl) dX1_booked_34 ⟨Nat.le_of_ble_eq_true rfl, Nat.le_of_ble_eq_true rfl⟩ (fun r8 u8 H locs hw hP hD hS => ?_)
      obtain rfl : r8 = (p_X1_stand (p_X0_init (csNR S q5) q5 3 0 (qW S a2.toNatClampNeg)) a1 q5).1 := congrArg Prod.fst hw
      obtain rfl : u8 = (p_X1_stand (p_X0_init (csNR S q5) q5 3 0 (qW S a2.toNatClampNeg)) a1 q5).2 := congrArg Prod.snd hw
      exact wx_reti kst_C ((p_X1_stand (p_X0_init (csNR S q5) q5 3 0 (qW S a2.toNatClampNeg)) a1 q5).2) hx hb hr hlk hK hP hD hS dX1_booked_37 (by unfold s_X1_booked; rw [if_neg c2, if_neg c4]; refine ⟨q5, hq5, ?_⟩; exact ⟨rfl, rfl⟩)
    · have hok := hok.1 c4
      refine lv_iconst (v := (-1)) hx hb dX1_booked_15 (by decide) ?_
      refine W.widen (k := 1) (n := 11) (by decide) (by decide) ?_
      exact wx_reti kst_C S hx hb hr hlk hK hP hD hS dX1_booked_16 (by unfold s_X1_booked; rw [if_neg c2, if_pos c4]; exact ⟨rfl, rfl⟩)
def s_X1_called (S : CS) (a1 : Int32) (a2 : Int32) (r : Int32) (u : CS) : Prop := if (p_X1_isPlace a1) = 0 then (r = (-1) ∧ u = S) else (if (p_X1_isPlace a2) = 0 then (r = (-1) ∧ u = S) else (∃ q5, q5 ∉ qL S ∧ (r = (p_X1_stand (p_X0_init (csNR S q5) q5 9 a2 none) a1 q5).1 ∧ u = (p_X1_stand (p_X0_init (csNR S q5) q5 9 a2 none) a1 q5).2)))
def ok_X1_called (S : CS) (a1 : Int32) (a2 : Int32) : Prop := ((p_X1_isPlace a1) = 0 → True) ∧ (¬ (p_X1_isPlace a1) = 0 → (((p_X1_isPlace a2) = 0 → True) ∧ (¬ (p_X1_isPlace a2) = 0 → (∀ q5, q5 ∉ qL S → ((ok_X0_init (csNR S q5) q5 9 a2 none) ∧ ((ok_X1_stand (p_X0_init (csNR S q5) q5 9 a2 none) a1 q5) ∧ (True)))))))
set_option maxHeartbeats 4000000 in
set_option maxRecDepth 100000 in
theorem c_X1_called (l : Launch) (D : va_G) (x A0 A1 A2 : Nat) (cI cR cII : ClassId) (S : CS) (a1 : Int32) (a2 : Int32) (hok : ok_X1_called S a1 a2) : MetI l yX1_called wsX1_called ({ frames := 2, cells := 1, slots := 11, locals := 41 } : Room) D (cKK D cI cR cII) (cW x A0 A1 A2 cI cR cII) S [.ref x, .int a1, .int a2] (fun r u => s_X1_called S a1 a2 r u) 1 11 := by
  unfold ok_X1_called at hok
  refine MetI.of (cc := cX1_called) (maxL := 3) (by decide) rfl (Nat.le_of_ble_eq_true rfl) ?_
  intro p e s m below meth c A ls hC hr hlk hnm hK hP hD hA hl
  obtain ⟨hx, hb, hml, hown, hts⟩ := id hC
  have hS : va_S A s.heap s.heap [] := va_S.rf
  have hin0 : ∀ w ∈ wsX00, w ∈ wsX1_called := fun _ h => List.mem_cons_of_mem _ (List.mem_append_left _ (List.mem_append_right _ h))
  have hin1 : ∀ w ∈ wsX10, w ∈ wsX1_called := fun _ h => List.mem_cons_of_mem _ (List.mem_append_right _ h)
  have hl : lv_has ls 3 [(0, .ref x), (1, .int a1), (2, .int a2)] := hl
  refine lv_iload_n hx hb dX1_called_0 rfl (lv_at hl 1 rfl) ?_
  refine wx_callS (As := [.int a1]) (rest := []) hC (c_X1_isPlace l a1) (va_cwS 1 hts gX1_called_X1_isPlace rfl rfl rfl (by decide +kernel) ⟨Nat.le_of_ble_eq_true rfl, Nat.le_of_ble_eq_true rfl⟩) rfl hl.1 rfl (Nat.le_of_ble_eq_true rfl) dX1_called_1 ⟨Nat.le_of_ble_eq_true rfl, Nat.le_of_ble_eq_true rfl⟩ (fun r1 hw => ?_)
  obtain rfl : r1 = p_X1_isPlace a1 := hw
  refine lv_if_eq (tgt := 14) hx hb dX1_called_4 (by decide) (fun c2 => ?_) (fun c2 => ?_)
  · have hok := hok.1 c2
    refine lv_iconst (v := (-1)) hx hb dX1_called_14 (by decide) ?_
    refine W.widen (k := 1) (n := 11) (by decide) (by decide) ?_
    exact wx_reti kst_C S hx hb hr hlk hK hP hD hS dX1_called_15 (by unfold s_X1_called; rw [if_pos c2]; exact ⟨rfl, rfl⟩)
  · have hok := hok.2 c2
    refine lv_iload_n hx hb dX1_called_7 rfl (lv_at hl 2 rfl) ?_
    refine wx_callS (As := [.int a2]) (rest := []) hC (c_X1_isPlace l a2) (va_cwS 1 hts gX1_called_X1_isPlace rfl rfl rfl (by decide +kernel) ⟨Nat.le_of_ble_eq_true rfl, Nat.le_of_ble_eq_true rfl⟩) rfl hl.1 rfl (Nat.le_of_ble_eq_true rfl) dX1_called_8 ⟨Nat.le_of_ble_eq_true rfl, Nat.le_of_ble_eq_true rfl⟩ (fun r3 hw => ?_)
    obtain rfl : r3 = p_X1_isPlace a2 := hw
    refine lv_if_ne (tgt := 16) hx hb dX1_called_11 (by decide) (fun c4 => ?_) (fun c4 => ?_)
    · have hok := hok.2 c4
      refine lv_aload_n hx hb dX1_called_16 rfl (lv_at hl 0 rfl) ?_
      refine lv_iload_n hx hb dX1_called_17 rfl (lv_at hl 1 rfl) ?_
      refine wc_new hC hin0 (by decide +kernel) (by decide +kernel) (by decide +kernel) hK hP hD hS hA (Nat.le_of_ble_eq_true rfl) (Nat.le_of_ble_eq_true rfl) dX1_called_18 (fun q5 H hq5 hP hD hS => ?_)
      have hok := hok q5 hq5
      refine lv_dup hx hb dX1_called_21 rfl ?_
      refine lv_bipush (v := 9) hx hb dX1_called_22 (by decide) ?_
      refine lv_iload_n hx hb dX1_called_24 rfl (lv_at hl 2 rfl) ?_
      refine lv_null hx hb dX1_called_25 ?_
      obtain ⟨o6, hok⟩ := hok
      refine wx_callIv (As := [.int 9, .int a2, .null]) (rest := [.ref q5, .int a1, .ref x]) kst_C hC (c_X0_init l D x A0 A1 A2 cI cR cII (csNR S q5) q5 9 a2 none o6) (cwI 3 hts gX1_called_X0_init rfl rfl rfl (hts (.initialized RX0) (by decide +kernel)) (hts (.methodLink RX1 32 yX0_init) (by decide +kernel)) (hts (.instanceMethod yX0_init) (by decide +kernel)) rfl (by decide +kernel) ⟨Nat.le_of_ble_eq_true rfl, Nat.le_of_ble_eq_true rfl⟩) hK hP hD hS hA rfl hl.1 rfl (Nat.le_of_ble_eq_true rfl) dX1_called_26 ⟨Nat.le_of_ble_eq_true rfl, Nat.le_of_ble_eq_true rfl⟩ (fun u6 H locs hw hP hD hS => ?_)
      obtain rfl : p_X0_init (csNR S q5) q5 9 a2 none = u6 := hw.symm
      obtain ⟨o7, hok⟩ := hok
      refine wx_callVi (As := [.int a1, .ref q5]) (rest := []) kst_C hC (c_X1_stand l D x A0 A1 A2 cI cR cII (p_X0_init (csNR S q5) q5 9 a2 none) a1 q5 o7) (cwV 2 hts gX1_called_X1_stand rfl rfl rfl (by decide +kernel) ⟨Nat.le_of_ble_eq_true rfl, Nat.le_of_ble_eq_true rfl⟩) hK hP hD hS hA (wc_cell hK hP) rfl hl.1 rfl (Nat.le_of_ble_eq_true rfl) dX1_called_29 ⟨Nat.le_of_ble_eq_true rfl, Nat.le_of_ble_eq_true rfl⟩ (fun r7 u7 H locs hw hP hD hS => ?_)
      obtain rfl : r7 = (p_X1_stand (p_X0_init (csNR S q5) q5 9 a2 none) a1 q5).1 := congrArg Prod.fst hw
      obtain rfl : u7 = (p_X1_stand (p_X0_init (csNR S q5) q5 9 a2 none) a1 q5).2 := congrArg Prod.snd hw
      exact wx_reti kst_C ((p_X1_stand (p_X0_init (csNR S q5) q5 9 a2 none) a1 q5).2) hx hb hr hlk hK hP hD hS dX1_called_32 (by unfold s_X1_called; rw [if_neg c2, if_neg c4]; refine ⟨q5, hq5, ?_⟩; exact ⟨rfl, rfl⟩)
    · have hok := hok.1 c4
      refine lv_iconst (v := (-1)) hx hb dX1_called_14 (by decide) ?_
      refine W.widen (k := 1) (n := 11) (by decide) (by decide) ?_
      exact wx_reti kst_C S hx hb hr hlk hK hP hD hS dX1_called_15 (by unfold s_X1_called; rw [if_neg c2, if_pos c4]; exact ⟨rfl, rfl⟩)
def s_X1_standOver (S : CS) (a1 : Int32) (a2 : Int32) (a3 : Int32) (a4 : Int32) (a5 : Int32) (a6 : Int32) (r : Int32) (u : CS) : Prop := if (p_X1_isPlace a1) = 0 then (r = (-1) ∧ u = S) else (if (p_X1_isPlace a4) = 0 then (r = (-1) ∧ u = S) else (if (p_X1_isPlace a5) = 0 then (r = (-1) ∧ u = S) else (if (p_X1_isPlace a6) = 0 then (r = (-1) ∧ u = S) else (if (qP S a4.toNatClampNeg) = none then (r = (-2) ∧ u = S) else (if (qP S a5.toNatClampNeg) = none then (r = (-2) ∧ u = S) else (if (qP S a6.toNatClampNeg) = none then (r = (-2) ∧ u = S) else (∃ q15, q15 ∉ qL S ∧ (r = (p_X1_stand (p_X0_init_ (csNR S q15) q15 a2 a3 ((qP S a4.toNatClampNeg).getD 0) ((qP S a5.toNatClampNeg).getD 0) ((qP S a6.toNatClampNeg).getD 0)) a1 q15).1 ∧ u = (p_X1_stand (p_X0_init_ (csNR S q15) q15 a2 a3 ((qP S a4.toNatClampNeg).getD 0) ((qP S a5.toNatClampNeg).getD 0) ((qP S a6.toNatClampNeg).getD 0)) a1 q15).2))))))))
def ok_X1_standOver (S : CS) (a1 : Int32) (a2 : Int32) (a3 : Int32) (a4 : Int32) (a5 : Int32) (a6 : Int32) : Prop := ((p_X1_isPlace a1) = 0 → True) ∧ (¬ (p_X1_isPlace a1) = 0 → (((p_X1_isPlace a4) = 0 → True) ∧ (¬ (p_X1_isPlace a4) = 0 → (((p_X1_isPlace a5) = 0 → True) ∧ (¬ (p_X1_isPlace a5) = 0 → (((p_X1_isPlace a6) = 0 → True) ∧ (¬ (p_X1_isPlace a6) = 0 → ((vp_in a4 16) ∧ (((qP S a4.toNatClampNeg) = none → True) ∧ (¬ (qP S a4.toNatClampNeg) = none → ((vp_in a5 16) ∧ (((qP S a5.toNatClampNeg) = none → True) ∧ (¬ (qP S a5.toNatClampNeg) = none → ((vp_in a6 16) ∧ (((qP S a6.toNatClampNeg) = none → True) ∧ (¬ (qP S a6.toNatClampNeg) = none → (∀ q15, q15 ∉ qL S → ((vp_in a4 16) ∧ ((vp_in a5 16) ∧ ((vp_in a6 16) ∧ ((ok_X0_init_ (csNR S q15) q15 a2 a3 ((qP S a4.toNatClampNeg).getD 0) ((qP S a5.toNatClampNeg).getD 0) ((qP S a6.toNatClampNeg).getD 0)) ∧ ((ok_X1_stand (p_X0_init_ (csNR S q15) q15 a2 a3 ((qP S a4.toNatClampNeg).getD 0) ((qP S a5.toNatClampNeg).getD 0) ((qP S a6.toNatClampNeg).getD 0)) a1 q15) ∧ (True)))))))))))))))))))))))
set_option maxHeartbeats 4000000 in
set_option maxRecDepth 100000 in
theorem c_X1_standOver (l : Launch) (D : va_G) (x A0 A1 A2 : Nat) (cI cR cII : ClassId) (S : CS) (a1 : Int32) (a2 : Int32) (a3 : Int32) (a4 : Int32) (a5 : Int32) (a6 : Int32) (hok : ok_X1_standOver S a1 a2 a3 a4 a5 a6) : MetI l yX1_standOver wsX1_standOver ({ frames := 2, cells := 1, slots := 11, locals := 41 } : Room) D (cKK D cI cR cII) (cW x A0 A1 A2 cI cR cII) S [.ref x, .int a1, .int a2, .int a3, .int a4, .int a5, .int a6] (fun r u => s_X1_standOver S a1 a2 a3 a4 a5 a6 r u) 1 11 := by
  unfold ok_X1_standOver at hok
  refine MetI.of (cc := cX1_standOver) (maxL := 7) (by decide) rfl (Nat.le_of_ble_eq_true rfl) ?_
  intro p e s m below meth c A ls hC hr hlk hnm hK hP hD hA hl
  obtain ⟨hx, hb, hml, hown, hts⟩ := id hC
  have hS : va_S A s.heap s.heap [] := va_S.rf
  have hin0 : ∀ w ∈ wsX00, w ∈ wsX1_standOver := fun _ h => List.mem_cons_of_mem _ (List.mem_append_right _ h)
  have hin1 : ∀ w ∈ wsX10, w ∈ wsX1_standOver := fun _ h => List.mem_cons_of_mem _ (List.mem_append_left _ (List.mem_append_right _ h))
  have hl : lv_has ls 7 [(0, .ref x), (1, .int a1), (2, .int a2), (3, .int a3), (4, .int a4), (5, .int a5), (6, .int a6)] := hl
  refine lv_iload_n hx hb dX1_standOver_0 rfl (lv_at hl 1 rfl) ?_
  refine wx_callS (As := [.int a1]) (rest := []) hC (c_X1_isPlace l a1) (va_cwS 1 hts gX1_standOver_X1_isPlace rfl rfl rfl (by decide +kernel) ⟨Nat.le_of_ble_eq_true rfl, Nat.le_of_ble_eq_true rfl⟩) rfl hl.1 rfl (Nat.le_of_ble_eq_true rfl) dX1_standOver_1 ⟨Nat.le_of_ble_eq_true rfl, Nat.le_of_ble_eq_true rfl⟩ (fun r1 hw => ?_)
  obtain rfl : r1 = p_X1_isPlace a1 := hw
  refine lv_if_eq (tgt := 31) hx hb dX1_standOver_4 (by decide) (fun c2 => ?_) (fun c2 => ?_)
  · have hok := hok.1 c2
    refine lv_iconst (v := (-1)) hx hb dX1_standOver_31 (by decide) ?_
    refine W.widen (k := 1) (n := 11) (by decide) (by decide) ?_
    exact wx_reti kst_C S hx hb hr hlk hK hP hD hS dX1_standOver_32 (by unfold s_X1_standOver; rw [if_pos c2]; exact ⟨rfl, rfl⟩)
  · have hok := hok.2 c2
    refine lv_iload hx hb dX1_standOver_7 (lv_at hl 4 rfl) ?_
    refine wx_callS (As := [.int a4]) (rest := []) hC (c_X1_isPlace l a4) (va_cwS 1 hts gX1_standOver_X1_isPlace rfl rfl rfl (by decide +kernel) ⟨Nat.le_of_ble_eq_true rfl, Nat.le_of_ble_eq_true rfl⟩) rfl hl.1 rfl (Nat.le_of_ble_eq_true rfl) dX1_standOver_9 ⟨Nat.le_of_ble_eq_true rfl, Nat.le_of_ble_eq_true rfl⟩ (fun r3 hw => ?_)
    obtain rfl : r3 = p_X1_isPlace a4 := hw
    refine lv_if_eq (tgt := 31) hx hb dX1_standOver_12 (by decide) (fun c4 => ?_) (fun c4 => ?_)
    · have hok := hok.1 c4
      refine lv_iconst (v := (-1)) hx hb dX1_standOver_31 (by decide) ?_
      refine W.widen (k := 1) (n := 11) (by decide) (by decide) ?_
      exact wx_reti kst_C S hx hb hr hlk hK hP hD hS dX1_standOver_32 (by unfold s_X1_standOver; rw [if_neg c2, if_pos c4]; exact ⟨rfl, rfl⟩)
    · have hok := hok.2 c4
      refine lv_iload hx hb dX1_standOver_15 (lv_at hl 5 rfl) ?_
      refine wx_callS (As := [.int a5]) (rest := []) hC (c_X1_isPlace l a5) (va_cwS 1 hts gX1_standOver_X1_isPlace rfl rfl rfl (by decide +kernel) ⟨Nat.le_of_ble_eq_true rfl, Nat.le_of_ble_eq_true rfl⟩) rfl hl.1 rfl (Nat.le_of_ble_eq_true rfl) dX1_standOver_17 ⟨Nat.le_of_ble_eq_true rfl, Nat.le_of_ble_eq_true rfl⟩ (fun r5 hw => ?_)
      obtain rfl : r5 = p_X1_isPlace a5 := hw
      refine lv_if_eq (tgt := 31) hx hb dX1_standOver_20 (by decide) (fun c6 => ?_) (fun c6 => ?_)
      · have hok := hok.1 c6
        refine lv_iconst (v := (-1)) hx hb dX1_standOver_31 (by decide) ?_
        refine W.widen (k := 1) (n := 11) (by decide) (by decide) ?_
        exact wx_reti kst_C S hx hb hr hlk hK hP hD hS dX1_standOver_32 (by unfold s_X1_standOver; rw [if_neg c2, if_neg c4, if_pos c6]; exact ⟨rfl, rfl⟩)
      · have hok := hok.2 c6
        refine lv_iload hx hb dX1_standOver_23 (lv_at hl 6 rfl) ?_
        refine wx_callS (As := [.int a6]) (rest := []) hC (c_X1_isPlace l a6) (va_cwS 1 hts gX1_standOver_X1_isPlace rfl rfl rfl (by decide +kernel) ⟨Nat.le_of_ble_eq_true rfl, Nat.le_of_ble_eq_true rfl⟩) rfl hl.1 rfl (Nat.le_of_ble_eq_true rfl) dX1_standOver_25 ⟨Nat.le_of_ble_eq_true rfl, Nat.le_of_ble_eq_true rfl⟩ (fun r7 hw => ?_)
        obtain rfl : r7 = p_X1_isPlace a6 := hw
        refine lv_if_ne (tgt := 33) hx hb dX1_standOver_28 (by decide) (fun c8 => ?_) (fun c8 => ?_)
        · have hok := hok.2 c8
          refine lv_aload_n hx hb dX1_standOver_33 rfl (lv_at hl 0 rfl) ?_
          refine wc_get hC hin1 hK hP 2 (by decide) rfl (by decide +kernel) (dget_2 _ _ _ _) dX1_standOver_34 ?_
          refine lv_iload hx hb dX1_standOver_37 (lv_at hl 4 rfl) ?_
          obtain ⟨b9, hok⟩ := hok
          refine wc_aldP hC hK hP b9 dX1_standOver_39 ?_
          refine lv_qifnull (tgt := 63) hx hb dX1_standOver_40 (by decide) (fun c10 => ?_) (fun c10 => ?_)
          · have hok := hok.1 c10
            refine lv_bipush (v := (-2)) hx hb dX1_standOver_63 (by decide) ?_
            refine W.widen (k := 1) (n := 11) (by decide) (by decide) ?_
            exact wx_reti kst_C S hx hb hr hlk hK hP hD hS dX1_standOver_65 (by unfold s_X1_standOver; rw [if_neg c2, if_neg c4, if_neg c6, if_neg c8, if_pos c10]; exact ⟨rfl, rfl⟩)
          · have hok := hok.2 c10
            refine lv_aload_n hx hb dX1_standOver_43 rfl (lv_at hl 0 rfl) ?_
            refine wc_get hC hin1 hK hP 2 (by decide) rfl (by decide +kernel) (dget_2 _ _ _ _) dX1_standOver_44 ?_
            refine lv_iload hx hb dX1_standOver_47 (lv_at hl 5 rfl) ?_
            obtain ⟨b11, hok⟩ := hok
            refine wc_aldP hC hK hP b11 dX1_standOver_49 ?_
            refine lv_qifnull (tgt := 63) hx hb dX1_standOver_50 (by decide) (fun c12 => ?_) (fun c12 => ?_)
            · have hok := hok.1 c12
              refine lv_bipush (v := (-2)) hx hb dX1_standOver_63 (by decide) ?_
              refine W.widen (k := 1) (n := 11) (by decide) (by decide) ?_
              exact wx_reti kst_C S hx hb hr hlk hK hP hD hS dX1_standOver_65 (by unfold s_X1_standOver; rw [if_neg c2, if_neg c4, if_neg c6, if_neg c8, if_neg c10, if_pos c12]; exact ⟨rfl, rfl⟩)
            · have hok := hok.2 c12
              refine lv_aload_n hx hb dX1_standOver_53 rfl (lv_at hl 0 rfl) ?_
              refine wc_get hC hin1 hK hP 2 (by decide) rfl (by decide +kernel) (dget_2 _ _ _ _) dX1_standOver_54 ?_
              refine lv_iload hx hb dX1_standOver_57 (lv_at hl 6 rfl) ?_
              obtain ⟨b13, hok⟩ := hok
              refine wc_aldP hC hK hP b13 dX1_standOver_59 ?_
              refine lv_qifnonnull (tgt := 66) hx hb dX1_standOver_60 (by decide) (fun c14 => ?_) (fun c14 => ?_)
              · have hok := hok.2 c14
                refine lv_aload_n hx hb dX1_standOver_66 rfl (lv_at hl 0 rfl) ?_
                refine lv_iload_n hx hb dX1_standOver_67 rfl (lv_at hl 1 rfl) ?_
                refine wc_new hC hin0 (by decide +kernel) (by decide +kernel) (by decide +kernel) hK hP hD hS hA (Nat.le_of_ble_eq_true rfl) (Nat.le_of_ble_eq_true rfl) dX1_standOver_68 (fun q15 H hq15 hP hD hS => ?_)
                have hok := hok q15 hq15
                refine lv_dup hx hb dX1_standOver_71 rfl ?_
                refine lv_iload_n hx hb dX1_standOver_72 rfl (lv_at hl 2 rfl) ?_
                refine lv_iload_n hx hb dX1_standOver_73 rfl (lv_at hl 3 rfl) ?_
                refine lv_aload_n hx hb dX1_standOver_74 rfl (lv_at hl 0 rfl) ?_
                refine wc_get hC hin1 hK hP 2 (by decide) rfl (by decide +kernel) (dget_2 _ _ _ _) dX1_standOver_75 ?_
                refine lv_iload hx hb dX1_standOver_78 (lv_at hl 4 rfl) ?_
                obtain ⟨b16, hok⟩ := hok
                refine wc_aldP hC hK hP b16 dX1_standOver_80 ?_
                refine lv_see (v2 := va_rf (qP S a4.toNatClampNeg)) rfl ?_
                refine lv_qsome c10 ?_
                refine lv_aload_n hx hb dX1_standOver_81 rfl (lv_at hl 0 rfl) ?_
                refine wc_get hC hin1 hK hP 2 (by decide) rfl (by decide +kernel) (dget_2 _ _ _ _) dX1_standOver_82 ?_
                refine lv_iload hx hb dX1_standOver_85 (lv_at hl 5 rfl) ?_
                obtain ⟨b17, hok⟩ := hok
                refine wc_aldP hC hK hP b17 dX1_standOver_87 ?_
                refine lv_see (v2 := va_rf (qP S a5.toNatClampNeg)) rfl ?_
                refine lv_qsome c12 ?_
                refine lv_aload_n hx hb dX1_standOver_88 rfl (lv_at hl 0 rfl) ?_
                refine wc_get hC hin1 hK hP 2 (by decide) rfl (by decide +kernel) (dget_2 _ _ _ _) dX1_standOver_89 ?_
                refine lv_iload hx hb dX1_standOver_92 (lv_at hl 6 rfl) ?_
                obtain ⟨b18, hok⟩ := hok
                refine wc_aldP hC hK hP b18 dX1_standOver_94 ?_
                refine lv_see (v2 := va_rf (qP S a6.toNatClampNeg)) rfl ?_
                refine lv_qsome c14 ?_
                obtain ⟨o19, hok⟩ := hok
                refine wx_callIv (As := [.int a2, .int a3, .ref ((qP S a4.toNatClampNeg).getD 0), .ref ((qP S a5.toNatClampNeg).getD 0), .ref ((qP S a6.toNatClampNeg).getD 0)]) (rest := [.ref q15, .int a1, .ref x]) kst_C hC (c_X0_init_ l D x A0 A1 A2 cI cR cII (csNR S q15) q15 a2 a3 ((qP S a4.toNatClampNeg).getD 0) ((qP S a5.toNatClampNeg).getD 0) ((qP S a6.toNatClampNeg).getD 0) o19) (cwI 5 hts gX1_standOver_X0_init_ rfl rfl rfl (hts (.initialized RX0) (by decide +kernel)) (hts (.methodLink RX1 74 yX0_init_) (by decide +kernel)) (hts (.instanceMethod yX0_init_) (by decide +kernel)) rfl (by decide +kernel) ⟨Nat.le_of_ble_eq_true rfl, Nat.le_of_ble_eq_true rfl⟩) hK hP hD hS hA rfl hl.1 rfl (Nat.le_of_ble_eq_true rfl) dX1_standOver_95 ⟨Nat.le_of_ble_eq_true rfl, Nat.le_of_ble_eq_true rfl⟩ (fun u19 H locs hw hP hD hS => ?_)
                obtain rfl : p_X0_init_ (csNR S q15) q15 a2 a3 ((qP S a4.toNatClampNeg).getD 0) ((qP S a5.toNatClampNeg).getD 0) ((qP S a6.toNatClampNeg).getD 0) = u19 := hw.symm
                obtain ⟨o20, hok⟩ := hok
                refine wx_callVi (As := [.int a1, .ref q15]) (rest := []) kst_C hC (c_X1_stand l D x A0 A1 A2 cI cR cII (p_X0_init_ (csNR S q15) q15 a2 a3 ((qP S a4.toNatClampNeg).getD 0) ((qP S a5.toNatClampNeg).getD 0) ((qP S a6.toNatClampNeg).getD 0)) a1 q15 o20) (cwV 2 hts gX1_standOver_X1_stand rfl rfl rfl (by decide +kernel) ⟨Nat.le_of_ble_eq_true rfl, Nat.le_of_ble_eq_true rfl⟩) hK hP hD hS hA (wc_cell hK hP) rfl hl.1 rfl (Nat.le_of_ble_eq_true rfl) dX1_standOver_98 ⟨Nat.le_of_ble_eq_true rfl, Nat.le_of_ble_eq_true rfl⟩ (fun r20 u20 H locs hw hP hD hS => ?_)
                obtain rfl : r20 = (p_X1_stand (p_X0_init_ (csNR S q15) q15 a2 a3 ((qP S a4.toNatClampNeg).getD 0) ((qP S a5.toNatClampNeg).getD 0) ((qP S a6.toNatClampNeg).getD 0)) a1 q15).1 := congrArg Prod.fst hw
                obtain rfl : u20 = (p_X1_stand (p_X0_init_ (csNR S q15) q15 a2 a3 ((qP S a4.toNatClampNeg).getD 0) ((qP S a5.toNatClampNeg).getD 0) ((qP S a6.toNatClampNeg).getD 0)) a1 q15).2 := congrArg Prod.snd hw
                exact wx_reti kst_C ((p_X1_stand (p_X0_init_ (csNR S q15) q15 a2 a3 ((qP S a4.toNatClampNeg).getD 0) ((qP S a5.toNatClampNeg).getD 0) ((qP S a6.toNatClampNeg).getD 0)) a1 q15).2) hx hb hr hlk hK hP hD hS dX1_standOver_101 (by unfold s_X1_standOver; rw [if_neg c2, if_neg c4, if_neg c6, if_neg c8, if_neg c10, if_neg c12, if_neg c14]; refine ⟨q15, hq15, ?_⟩; exact ⟨rfl, rfl⟩)
              · have hok := hok.1 c14
                refine lv_bipush (v := (-2)) hx hb dX1_standOver_63 (by decide) ?_
                refine W.widen (k := 1) (n := 11) (by decide) (by decide) ?_
                exact wx_reti kst_C S hx hb hr hlk hK hP hD hS dX1_standOver_65 (by unfold s_X1_standOver; rw [if_neg c2, if_neg c4, if_neg c6, if_neg c8, if_neg c10, if_neg c12, if_pos c14]; exact ⟨rfl, rfl⟩)
        · have hok := hok.1 c8
          refine lv_iconst (v := (-1)) hx hb dX1_standOver_31 (by decide) ?_
          refine W.widen (k := 1) (n := 11) (by decide) (by decide) ?_
          exact wx_reti kst_C S hx hb hr hlk hK hP hD hS dX1_standOver_32 (by unfold s_X1_standOver; rw [if_neg c2, if_neg c4, if_neg c6, if_pos c8]; exact ⟨rfl, rfl⟩)
def s_X1_joined (S : CS) (a1 : Int32) (a2 : Int32) (a3 : Int32) (a4 : Int32) (r : Int32) (u : CS) : Prop := if (p_X1_isBelow a2 6) = 0 then (r = (-1) ∧ u = S) else (∃ r3 u3, s_X1_standOver S a1 4 a2 a3 a4 a4 r3 u3 ∧ (r = r3 ∧ u = u3))
def ok_X1_joined (S : CS) (a1 : Int32) (a2 : Int32) (a3 : Int32) (a4 : Int32) : Prop := ((p_X1_isBelow a2 6) = 0 → True) ∧ (¬ (p_X1_isBelow a2 6) = 0 → ((ok_X1_standOver S a1 4 a2 a3 a4 a4) ∧ (∀ r3 u3, s_X1_standOver S a1 4 a2 a3 a4 a4 r3 u3 → (True))))
set_option maxHeartbeats 4000000 in
set_option maxRecDepth 100000 in
theorem c_X1_joined (l : Launch) (D : va_G) (x A0 A1 A2 : Nat) (cI cR cII : ClassId) (S : CS) (a1 : Int32) (a2 : Int32) (a3 : Int32) (a4 : Int32) (hok : ok_X1_joined S a1 a2 a3 a4) : MetI l yX1_joined wsX1_joined ({ frames := 3, cells := 1, slots := 11, locals := 67 } : Room) D (cKK D cI cR cII) (cW x A0 A1 A2 cI cR cII) S [.ref x, .int a1, .int a2, .int a3, .int a4] (fun r u => s_X1_joined S a1 a2 a3 a4 r u) 1 11 := by
  unfold ok_X1_joined at hok
  refine MetI.of (cc := cX1_joined) (maxL := 5) (by decide) rfl (Nat.le_of_ble_eq_true rfl) ?_
  intro p e s m below meth c A ls hC hr hlk hnm hK hP hD hA hl
  obtain ⟨hx, hb, hml, hown, hts⟩ := id hC
  have hS : va_S A s.heap s.heap [] := va_S.rf
  have hin0 : ∀ w ∈ wsX00, w ∈ wsX1_joined := fun _ h => List.mem_cons_of_mem _ (List.mem_append_right _ h)
  have hin1 : ∀ w ∈ wsX10, w ∈ wsX1_joined := fun _ h => List.mem_cons_of_mem _ (List.mem_append_left _ (List.mem_append_right _ h))
  have hl : lv_has ls 5 [(0, .ref x), (1, .int a1), (2, .int a2), (3, .int a3), (4, .int a4)] := hl
  refine lv_iload_n hx hb dX1_joined_0 rfl (lv_at hl 2 rfl) ?_
  refine lv_bipush (v := 6) hx hb dX1_joined_1 (by decide) ?_
  refine wx_callS (As := [.int a2, .int 6]) (rest := []) hC (c_X1_isBelow l a2 6) (va_cwS 2 hts gX1_joined_X1_isBelow rfl rfl rfl (by decide +kernel) ⟨Nat.le_of_ble_eq_true rfl, Nat.le_of_ble_eq_true rfl⟩) rfl hl.1 rfl (Nat.le_of_ble_eq_true rfl) dX1_joined_3 ⟨Nat.le_of_ble_eq_true rfl, Nat.le_of_ble_eq_true rfl⟩ (fun r1 hw => ?_)
  obtain rfl : r1 = p_X1_isBelow a2 6 := hw
  refine lv_if_ne (tgt := 11) hx hb dX1_joined_6 (by decide) (fun c2 => ?_) (fun c2 => ?_)
  · have hok := hok.2 c2
    refine lv_aload_n hx hb dX1_joined_11 rfl (lv_at hl 0 rfl) ?_
    refine lv_iload_n hx hb dX1_joined_12 rfl (lv_at hl 1 rfl) ?_
    refine lv_iconst (v := 4) hx hb dX1_joined_13 (by decide) ?_
    refine lv_iload_n hx hb dX1_joined_14 rfl (lv_at hl 2 rfl) ?_
    refine lv_iload_n hx hb dX1_joined_15 rfl (lv_at hl 3 rfl) ?_
    refine lv_iload hx hb dX1_joined_16 (lv_at hl 4 rfl) ?_
    refine lv_iload hx hb dX1_joined_18 (lv_at hl 4 rfl) ?_
    obtain ⟨o3, hok⟩ := hok
    refine wx_callVi (As := [.int a1, .int 4, .int a2, .int a3, .int a4, .int a4]) (rest := []) kst_C hC (c_X1_standOver l D x A0 A1 A2 cI cR cII S a1 4 a2 a3 a4 a4 o3) (cwV 6 hts gX1_joined_X1_standOver rfl rfl rfl (by decide +kernel) ⟨Nat.le_of_ble_eq_true rfl, Nat.le_of_ble_eq_true rfl⟩) hK hP hD hS hA (wc_cell hK hP) rfl hl.1 rfl (Nat.le_of_ble_eq_true rfl) dX1_joined_20 ⟨Nat.le_of_ble_eq_true rfl, Nat.le_of_ble_eq_true rfl⟩ (fun r3 u3 H locs hw hP hD hS => ?_)
    have hw3 := hw
    have hok := hok r3 u3 hw3
    exact wx_reti kst_C u3 hx hb hr hlk hK hP hD hS dX1_joined_23 (by unfold s_X1_joined; rw [if_neg c2]; refine ⟨r3, u3, hw3, ?_⟩; exact ⟨rfl, rfl⟩)
  · have hok := hok.1 c2
    refine lv_iconst (v := (-1)) hx hb dX1_joined_9 (by decide) ?_
    refine W.widen (k := 1) (n := 11) (by decide) (by decide) ?_
    exact wx_reti kst_C S hx hb hr hlk hK hP hD hS dX1_joined_10 (by unfold s_X1_joined; rw [if_pos c2]; exact ⟨rfl, rfl⟩)
def s_X1_when (S : CS) (a1 : Int32) (a2 : Int32) (a3 : Int32) (a4 : Int32) (r : Int32) (u : CS) : Prop := ∃ r1 u1, s_X1_standOver S a1 5 0 a2 a3 a4 r1 u1 ∧ (r = r1 ∧ u = u1)
def ok_X1_when (S : CS) (a1 : Int32) (a2 : Int32) (a3 : Int32) (a4 : Int32) : Prop := (ok_X1_standOver S a1 5 0 a2 a3 a4) ∧ (∀ r1 u1, s_X1_standOver S a1 5 0 a2 a3 a4 r1 u1 → (True))
set_option maxHeartbeats 4000000 in
set_option maxRecDepth 100000 in
theorem c_X1_when (l : Launch) (D : va_G) (x A0 A1 A2 : Nat) (cI cR cII : ClassId) (S : CS) (a1 : Int32) (a2 : Int32) (a3 : Int32) (a4 : Int32) (hok : ok_X1_when S a1 a2 a3 a4) : MetI l yX1_when wsX1_when ({ frames := 3, cells := 1, slots := 11, locals := 67 } : Room) D (cKK D cI cR cII) (cW x A0 A1 A2 cI cR cII) S [.ref x, .int a1, .int a2, .int a3, .int a4] (fun r u => s_X1_when S a1 a2 a3 a4 r u) 1 11 := by
  unfold ok_X1_when at hok
  refine MetI.of (cc := cX1_when) (maxL := 5) (by decide) rfl (Nat.le_of_ble_eq_true rfl) ?_
  intro p e s m below meth c A ls hC hr hlk hnm hK hP hD hA hl
  obtain ⟨hx, hb, hml, hown, hts⟩ := id hC
  have hS : va_S A s.heap s.heap [] := va_S.rf
  have hin0 : ∀ w ∈ wsX00, w ∈ wsX1_when := fun _ h => List.mem_cons_of_mem _ (List.mem_append_right _ h)
  have hin1 : ∀ w ∈ wsX10, w ∈ wsX1_when := fun _ h => List.mem_cons_of_mem _ (List.mem_append_left _ (List.mem_append_right _ h))
  have hl : lv_has ls 5 [(0, .ref x), (1, .int a1), (2, .int a2), (3, .int a3), (4, .int a4)] := hl
  refine lv_aload_n hx hb dX1_when_0 rfl (lv_at hl 0 rfl) ?_
  refine lv_iload_n hx hb dX1_when_1 rfl (lv_at hl 1 rfl) ?_
  refine lv_iconst (v := 5) hx hb dX1_when_2 (by decide) ?_
  refine lv_iconst (v := 0) hx hb dX1_when_3 (by decide) ?_
  refine lv_iload_n hx hb dX1_when_4 rfl (lv_at hl 2 rfl) ?_
  refine lv_iload_n hx hb dX1_when_5 rfl (lv_at hl 3 rfl) ?_
  refine lv_iload hx hb dX1_when_6 (lv_at hl 4 rfl) ?_
  obtain ⟨o1, hok⟩ := hok
  refine wx_callVi (As := [.int a1, .int 5, .int 0, .int a2, .int a3, .int a4]) (rest := []) kst_C hC (c_X1_standOver l D x A0 A1 A2 cI cR cII S a1 5 0 a2 a3 a4 o1) (cwV 6 hts gX1_when_X1_standOver rfl rfl rfl (by decide +kernel) ⟨Nat.le_of_ble_eq_true rfl, Nat.le_of_ble_eq_true rfl⟩) hK hP hD hS hA (wc_cell hK hP) rfl hl.1 rfl (Nat.le_of_ble_eq_true rfl) dX1_when_8 ⟨Nat.le_of_ble_eq_true rfl, Nat.le_of_ble_eq_true rfl⟩ (fun r1 u1 H locs hw hP hD hS => ?_)
  have hw1 := hw
  have hok := hok r1 u1 hw1
  exact wx_reti kst_C u1 hx hb hr hlk hK hP hD hS dX1_when_11 (by unfold s_X1_when; refine ⟨r1, u1, hw1, ?_⟩; exact ⟨rfl, rfl⟩)
def s_X1_fixed (S : CS) (a1 : Int32) (a2 : Int32) (a3 : Int32) (r : Int32) (u : CS) : Prop := ∃ r1 u1, s_X1_standOver S a1 6 a3 a2 a2 a2 r1 u1 ∧ (r = r1 ∧ u = u1)
def ok_X1_fixed (S : CS) (a1 : Int32) (a2 : Int32) (a3 : Int32) : Prop := (ok_X1_standOver S a1 6 a3 a2 a2 a2) ∧ (∀ r1 u1, s_X1_standOver S a1 6 a3 a2 a2 a2 r1 u1 → (True))
set_option maxHeartbeats 4000000 in
set_option maxRecDepth 100000 in
theorem c_X1_fixed (l : Launch) (D : va_G) (x A0 A1 A2 : Nat) (cI cR cII : ClassId) (S : CS) (a1 : Int32) (a2 : Int32) (a3 : Int32) (hok : ok_X1_fixed S a1 a2 a3) : MetI l yX1_fixed wsX1_fixed ({ frames := 3, cells := 1, slots := 11, locals := 67 } : Room) D (cKK D cI cR cII) (cW x A0 A1 A2 cI cR cII) S [.ref x, .int a1, .int a2, .int a3] (fun r u => s_X1_fixed S a1 a2 a3 r u) 1 11 := by
  unfold ok_X1_fixed at hok
  refine MetI.of (cc := cX1_fixed) (maxL := 4) (by decide) rfl (Nat.le_of_ble_eq_true rfl) ?_
  intro p e s m below meth c A ls hC hr hlk hnm hK hP hD hA hl
  obtain ⟨hx, hb, hml, hown, hts⟩ := id hC
  have hS : va_S A s.heap s.heap [] := va_S.rf
  have hin0 : ∀ w ∈ wsX00, w ∈ wsX1_fixed := fun _ h => List.mem_cons_of_mem _ (List.mem_append_right _ h)
  have hin1 : ∀ w ∈ wsX10, w ∈ wsX1_fixed := fun _ h => List.mem_cons_of_mem _ (List.mem_append_left _ (List.mem_append_right _ h))
  have hl : lv_has ls 4 [(0, .ref x), (1, .int a1), (2, .int a2), (3, .int a3)] := hl
  refine lv_aload_n hx hb dX1_fixed_0 rfl (lv_at hl 0 rfl) ?_
  refine lv_iload_n hx hb dX1_fixed_1 rfl (lv_at hl 1 rfl) ?_
  refine lv_bipush (v := 6) hx hb dX1_fixed_2 (by decide) ?_
  refine lv_iload_n hx hb dX1_fixed_4 rfl (lv_at hl 3 rfl) ?_
  refine lv_iload_n hx hb dX1_fixed_5 rfl (lv_at hl 2 rfl) ?_
  refine lv_iload_n hx hb dX1_fixed_6 rfl (lv_at hl 2 rfl) ?_
  refine lv_iload_n hx hb dX1_fixed_7 rfl (lv_at hl 2 rfl) ?_
  obtain ⟨o1, hok⟩ := hok
  refine wx_callVi (As := [.int a1, .int 6, .int a3, .int a2, .int a2, .int a2]) (rest := []) kst_C hC (c_X1_standOver l D x A0 A1 A2 cI cR cII S a1 6 a3 a2 a2 a2 o1) (cwV 6 hts gX1_fixed_X1_standOver rfl rfl rfl (by decide +kernel) ⟨Nat.le_of_ble_eq_true rfl, Nat.le_of_ble_eq_true rfl⟩) hK hP hD hS hA (wc_cell hK hP) rfl hl.1 rfl (Nat.le_of_ble_eq_true rfl) dX1_fixed_8 ⟨Nat.le_of_ble_eq_true rfl, Nat.le_of_ble_eq_true rfl⟩ (fun r1 u1 H locs hw hP hD hS => ?_)
  have hw1 := hw
  have hok := hok r1 u1 hw1
  exact wx_reti kst_C u1 hx hb hr hlk hK hP hD hS dX1_fixed_11 (by unfold s_X1_fixed; refine ⟨r1, u1, hw1, ?_⟩; exact ⟨rfl, rfl⟩)
def s_X1_fed (S : CS) (a1 : Int32) (a2 : Int32) (a3 : Int32) (r : Int32) (u : CS) : Prop := ∃ r1 u1, s_X1_standOver S a1 7 0 a2 a3 a3 r1 u1 ∧ (r = r1 ∧ u = u1)
def ok_X1_fed (S : CS) (a1 : Int32) (a2 : Int32) (a3 : Int32) : Prop := (ok_X1_standOver S a1 7 0 a2 a3 a3) ∧ (∀ r1 u1, s_X1_standOver S a1 7 0 a2 a3 a3 r1 u1 → (True))
set_option maxHeartbeats 4000000 in
set_option maxRecDepth 100000 in
theorem c_X1_fed (l : Launch) (D : va_G) (x A0 A1 A2 : Nat) (cI cR cII : ClassId) (S : CS) (a1 : Int32) (a2 : Int32) (a3 : Int32) (hok : ok_X1_fed S a1 a2 a3) : MetI l yX1_fed wsX1_fed ({ frames := 3, cells := 1, slots := 11, locals := 67 } : Room) D (cKK D cI cR cII) (cW x A0 A1 A2 cI cR cII) S [.ref x, .int a1, .int a2, .int a3] (fun r u => s_X1_fed S a1 a2 a3 r u) 1 11 := by
  unfold ok_X1_fed at hok
  refine MetI.of (cc := cX1_fed) (maxL := 4) (by decide) rfl (Nat.le_of_ble_eq_true rfl) ?_
  intro p e s m below meth c A ls hC hr hlk hnm hK hP hD hA hl
  obtain ⟨hx, hb, hml, hown, hts⟩ := id hC
  have hS : va_S A s.heap s.heap [] := va_S.rf
  have hin0 : ∀ w ∈ wsX00, w ∈ wsX1_fed := fun _ h => List.mem_cons_of_mem _ (List.mem_append_right _ h)
  have hin1 : ∀ w ∈ wsX10, w ∈ wsX1_fed := fun _ h => List.mem_cons_of_mem _ (List.mem_append_left _ (List.mem_append_right _ h))
  have hl : lv_has ls 4 [(0, .ref x), (1, .int a1), (2, .int a2), (3, .int a3)] := hl
  refine lv_aload_n hx hb dX1_fed_0 rfl (lv_at hl 0 rfl) ?_
  refine lv_iload_n hx hb dX1_fed_1 rfl (lv_at hl 1 rfl) ?_
  refine lv_bipush (v := 7) hx hb dX1_fed_2 (by decide) ?_
  refine lv_iconst (v := 0) hx hb dX1_fed_4 (by decide) ?_
  refine lv_iload_n hx hb dX1_fed_5 rfl (lv_at hl 2 rfl) ?_
  refine lv_iload_n hx hb dX1_fed_6 rfl (lv_at hl 3 rfl) ?_
  refine lv_iload_n hx hb dX1_fed_7 rfl (lv_at hl 3 rfl) ?_
  obtain ⟨o1, hok⟩ := hok
  refine wx_callVi (As := [.int a1, .int 7, .int 0, .int a2, .int a3, .int a3]) (rest := []) kst_C hC (c_X1_standOver l D x A0 A1 A2 cI cR cII S a1 7 0 a2 a3 a3 o1) (cwV 6 hts gX1_fed_X1_standOver rfl rfl rfl (by decide +kernel) ⟨Nat.le_of_ble_eq_true rfl, Nat.le_of_ble_eq_true rfl⟩) hK hP hD hS hA (wc_cell hK hP) rfl hl.1 rfl (Nat.le_of_ble_eq_true rfl) dX1_fed_8 ⟨Nat.le_of_ble_eq_true rfl, Nat.le_of_ble_eq_true rfl⟩ (fun r1 u1 H locs hw hP hD hS => ?_)
  have hw1 := hw
  have hok := hok r1 u1 hw1
  exact wx_reti kst_C u1 hx hb hr hlk hK hP hD hS dX1_fed_11 (by unfold s_X1_fed; refine ⟨r1, u1, hw1, ?_⟩; exact ⟨rfl, rfl⟩)
def s_X1_guarded (S : CS) (a1 : Int32) (a2 : Int32) (a3 : Int32) (r : Int32) (u : CS) : Prop := ∃ r1 u1, s_X1_standOver S a1 8 0 a2 a3 a3 r1 u1 ∧ (r = r1 ∧ u = u1)
def ok_X1_guarded (S : CS) (a1 : Int32) (a2 : Int32) (a3 : Int32) : Prop := (ok_X1_standOver S a1 8 0 a2 a3 a3) ∧ (∀ r1 u1, s_X1_standOver S a1 8 0 a2 a3 a3 r1 u1 → (True))
set_option maxHeartbeats 4000000 in
set_option maxRecDepth 100000 in
theorem c_X1_guarded (l : Launch) (D : va_G) (x A0 A1 A2 : Nat) (cI cR cII : ClassId) (S : CS) (a1 : Int32) (a2 : Int32) (a3 : Int32) (hok : ok_X1_guarded S a1 a2 a3) : MetI l yX1_guarded wsX1_guarded ({ frames := 3, cells := 1, slots := 11, locals := 67 } : Room) D (cKK D cI cR cII) (cW x A0 A1 A2 cI cR cII) S [.ref x, .int a1, .int a2, .int a3] (fun r u => s_X1_guarded S a1 a2 a3 r u) 1 11 := by
  unfold ok_X1_guarded at hok
  refine MetI.of (cc := cX1_guarded) (maxL := 4) (by decide) rfl (Nat.le_of_ble_eq_true rfl) ?_
  intro p e s m below meth c A ls hC hr hlk hnm hK hP hD hA hl
  obtain ⟨hx, hb, hml, hown, hts⟩ := id hC
  have hS : va_S A s.heap s.heap [] := va_S.rf
  have hin0 : ∀ w ∈ wsX00, w ∈ wsX1_guarded := fun _ h => List.mem_cons_of_mem _ (List.mem_append_right _ h)
  have hin1 : ∀ w ∈ wsX10, w ∈ wsX1_guarded := fun _ h => List.mem_cons_of_mem _ (List.mem_append_left _ (List.mem_append_right _ h))
  have hl : lv_has ls 4 [(0, .ref x), (1, .int a1), (2, .int a2), (3, .int a3)] := hl
  refine lv_aload_n hx hb dX1_guarded_0 rfl (lv_at hl 0 rfl) ?_
  refine lv_iload_n hx hb dX1_guarded_1 rfl (lv_at hl 1 rfl) ?_
  refine lv_bipush (v := 8) hx hb dX1_guarded_2 (by decide) ?_
  refine lv_iconst (v := 0) hx hb dX1_guarded_4 (by decide) ?_
  refine lv_iload_n hx hb dX1_guarded_5 rfl (lv_at hl 2 rfl) ?_
  refine lv_iload_n hx hb dX1_guarded_6 rfl (lv_at hl 3 rfl) ?_
  refine lv_iload_n hx hb dX1_guarded_7 rfl (lv_at hl 3 rfl) ?_
  obtain ⟨o1, hok⟩ := hok
  refine wx_callVi (As := [.int a1, .int 8, .int 0, .int a2, .int a3, .int a3]) (rest := []) kst_C hC (c_X1_standOver l D x A0 A1 A2 cI cR cII S a1 8 0 a2 a3 a3 o1) (cwV 6 hts gX1_guarded_X1_standOver rfl rfl rfl (by decide +kernel) ⟨Nat.le_of_ble_eq_true rfl, Nat.le_of_ble_eq_true rfl⟩) hK hP hD hS hA (wc_cell hK hP) rfl hl.1 rfl (Nat.le_of_ble_eq_true rfl) dX1_guarded_8 ⟨Nat.le_of_ble_eq_true rfl, Nat.le_of_ble_eq_true rfl⟩ (fun r1 u1 H locs hw hP hD hS => ?_)
  have hw1 := hw
  have hok := hok r1 u1 hw1
  exact wx_reti kst_C u1 hx hb hr hlk hK hP hD hS dX1_guarded_11 (by unfold s_X1_guarded; refine ⟨r1, u1, hw1, ?_⟩; exact ⟨rfl, rfl⟩)
def s_X1_barred (S : CS) (a1 : Int32) (a2 : Int32) (a3 : Int32) (r : Int32) (u : CS) : Prop := ∃ r1 u1, s_X1_standOver S a1 10 a3 a2 a2 a2 r1 u1 ∧ (r = r1 ∧ u = u1)
def ok_X1_barred (S : CS) (a1 : Int32) (a2 : Int32) (a3 : Int32) : Prop := (ok_X1_standOver S a1 10 a3 a2 a2 a2) ∧ (∀ r1 u1, s_X1_standOver S a1 10 a3 a2 a2 a2 r1 u1 → (True))
set_option maxHeartbeats 4000000 in
set_option maxRecDepth 100000 in
theorem c_X1_barred (l : Launch) (D : va_G) (x A0 A1 A2 : Nat) (cI cR cII : ClassId) (S : CS) (a1 : Int32) (a2 : Int32) (a3 : Int32) (hok : ok_X1_barred S a1 a2 a3) : MetI l yX1_barred wsX1_barred ({ frames := 3, cells := 1, slots := 11, locals := 67 } : Room) D (cKK D cI cR cII) (cW x A0 A1 A2 cI cR cII) S [.ref x, .int a1, .int a2, .int a3] (fun r u => s_X1_barred S a1 a2 a3 r u) 1 11 := by
  unfold ok_X1_barred at hok
  refine MetI.of (cc := cX1_barred) (maxL := 4) (by decide) rfl (Nat.le_of_ble_eq_true rfl) ?_
  intro p e s m below meth c A ls hC hr hlk hnm hK hP hD hA hl
  obtain ⟨hx, hb, hml, hown, hts⟩ := id hC
  have hS : va_S A s.heap s.heap [] := va_S.rf
  have hin0 : ∀ w ∈ wsX00, w ∈ wsX1_barred := fun _ h => List.mem_cons_of_mem _ (List.mem_append_right _ h)
  have hin1 : ∀ w ∈ wsX10, w ∈ wsX1_barred := fun _ h => List.mem_cons_of_mem _ (List.mem_append_left _ (List.mem_append_right _ h))
  have hl : lv_has ls 4 [(0, .ref x), (1, .int a1), (2, .int a2), (3, .int a3)] := hl
  refine lv_aload_n hx hb dX1_barred_0 rfl (lv_at hl 0 rfl) ?_
  refine lv_iload_n hx hb dX1_barred_1 rfl (lv_at hl 1 rfl) ?_
  refine lv_bipush (v := 10) hx hb dX1_barred_2 (by decide) ?_
  refine lv_iload_n hx hb dX1_barred_4 rfl (lv_at hl 3 rfl) ?_
  refine lv_iload_n hx hb dX1_barred_5 rfl (lv_at hl 2 rfl) ?_
  refine lv_iload_n hx hb dX1_barred_6 rfl (lv_at hl 2 rfl) ?_
  refine lv_iload_n hx hb dX1_barred_7 rfl (lv_at hl 2 rfl) ?_
  obtain ⟨o1, hok⟩ := hok
  refine wx_callVi (As := [.int a1, .int 10, .int a3, .int a2, .int a2, .int a2]) (rest := []) kst_C hC (c_X1_standOver l D x A0 A1 A2 cI cR cII S a1 10 a3 a2 a2 a2 o1) (cwV 6 hts gX1_barred_X1_standOver rfl rfl rfl (by decide +kernel) ⟨Nat.le_of_ble_eq_true rfl, Nat.le_of_ble_eq_true rfl⟩) hK hP hD hS hA (wc_cell hK hP) rfl hl.1 rfl (Nat.le_of_ble_eq_true rfl) dX1_barred_8 ⟨Nat.le_of_ble_eq_true rfl, Nat.le_of_ble_eq_true rfl⟩ (fun r1 u1 H locs hw hP hD hS => ?_)
  have hw1 := hw
  have hok := hok r1 u1 hw1
  exact wx_reti kst_C u1 hx hb hr hlk hK hP hD hS dX1_barred_11 (by unfold s_X1_barred; refine ⟨r1, u1, hw1, ?_⟩; exact ⟨rfl, rfl⟩)
def s_X1_counted (S : CS) (a1 : Int32) (a2 : Int32) (r : Int32) (u : CS) : Prop := ∃ r1 u1, s_X1_standOver S a1 11 0 a2 a2 a2 r1 u1 ∧ (r = r1 ∧ u = u1)
def ok_X1_counted (S : CS) (a1 : Int32) (a2 : Int32) : Prop := (ok_X1_standOver S a1 11 0 a2 a2 a2) ∧ (∀ r1 u1, s_X1_standOver S a1 11 0 a2 a2 a2 r1 u1 → (True))
set_option maxHeartbeats 4000000 in
set_option maxRecDepth 100000 in
theorem c_X1_counted (l : Launch) (D : va_G) (x A0 A1 A2 : Nat) (cI cR cII : ClassId) (S : CS) (a1 : Int32) (a2 : Int32) (hok : ok_X1_counted S a1 a2) : MetI l yX1_counted wsX1_counted ({ frames := 3, cells := 1, slots := 11, locals := 67 } : Room) D (cKK D cI cR cII) (cW x A0 A1 A2 cI cR cII) S [.ref x, .int a1, .int a2] (fun r u => s_X1_counted S a1 a2 r u) 1 11 := by
  unfold ok_X1_counted at hok
  refine MetI.of (cc := cX1_counted) (maxL := 3) (by decide) rfl (Nat.le_of_ble_eq_true rfl) ?_
  intro p e s m below meth c A ls hC hr hlk hnm hK hP hD hA hl
  obtain ⟨hx, hb, hml, hown, hts⟩ := id hC
  have hS : va_S A s.heap s.heap [] := va_S.rf
  have hin0 : ∀ w ∈ wsX00, w ∈ wsX1_counted := fun _ h => List.mem_cons_of_mem _ (List.mem_append_right _ h)
  have hin1 : ∀ w ∈ wsX10, w ∈ wsX1_counted := fun _ h => List.mem_cons_of_mem _ (List.mem_append_left _ (List.mem_append_right _ h))
  have hl : lv_has ls 3 [(0, .ref x), (1, .int a1), (2, .int a2)] := hl
  refine lv_aload_n hx hb dX1_counted_0 rfl (lv_at hl 0 rfl) ?_
  refine lv_iload_n hx hb dX1_counted_1 rfl (lv_at hl 1 rfl) ?_
  refine lv_bipush (v := 11) hx hb dX1_counted_2 (by decide) ?_
  refine lv_iconst (v := 0) hx hb dX1_counted_4 (by decide) ?_
  refine lv_iload_n hx hb dX1_counted_5 rfl (lv_at hl 2 rfl) ?_
  refine lv_iload_n hx hb dX1_counted_6 rfl (lv_at hl 2 rfl) ?_
  refine lv_iload_n hx hb dX1_counted_7 rfl (lv_at hl 2 rfl) ?_
  obtain ⟨o1, hok⟩ := hok
  refine wx_callVi (As := [.int a1, .int 11, .int 0, .int a2, .int a2, .int a2]) (rest := []) kst_C hC (c_X1_standOver l D x A0 A1 A2 cI cR cII S a1 11 0 a2 a2 a2 o1) (cwV 6 hts gX1_counted_X1_standOver rfl rfl rfl (by decide +kernel) ⟨Nat.le_of_ble_eq_true rfl, Nat.le_of_ble_eq_true rfl⟩) hK hP hD hS hA (wc_cell hK hP) rfl hl.1 rfl (Nat.le_of_ble_eq_true rfl) dX1_counted_8 ⟨Nat.le_of_ble_eq_true rfl, Nat.le_of_ble_eq_true rfl⟩ (fun r1 u1 H locs hw hP hD hS => ?_)
  have hw1 := hw
  have hok := hok r1 u1 hw1
  exact wx_reti kst_C u1 hx hb hr hlk hK hP hD hS dX1_counted_11 (by unfold s_X1_counted; refine ⟨r1, u1, hw1, ?_⟩; exact ⟨rfl, rfl⟩)
def s_X1_kept (S : CS) (a1 : Int32) (a2 : Int32) (r : Int32) (u : CS) : Prop := ∃ r1 u1, s_X1_standOver S a1 12 0 a2 a2 a2 r1 u1 ∧ (r = r1 ∧ u = u1)
def ok_X1_kept (S : CS) (a1 : Int32) (a2 : Int32) : Prop := (ok_X1_standOver S a1 12 0 a2 a2 a2) ∧ (∀ r1 u1, s_X1_standOver S a1 12 0 a2 a2 a2 r1 u1 → (True))
set_option maxHeartbeats 4000000 in
set_option maxRecDepth 100000 in
theorem c_X1_kept (l : Launch) (D : va_G) (x A0 A1 A2 : Nat) (cI cR cII : ClassId) (S : CS) (a1 : Int32) (a2 : Int32) (hok : ok_X1_kept S a1 a2) : MetI l yX1_kept wsX1_kept ({ frames := 3, cells := 1, slots := 11, locals := 67 } : Room) D (cKK D cI cR cII) (cW x A0 A1 A2 cI cR cII) S [.ref x, .int a1, .int a2] (fun r u => s_X1_kept S a1 a2 r u) 1 11 := by
  unfold ok_X1_kept at hok
  refine MetI.of (cc := cX1_kept) (maxL := 3) (by decide) rfl (Nat.le_of_ble_eq_true rfl) ?_
  intro p e s m below meth c A ls hC hr hlk hnm hK hP hD hA hl
  obtain ⟨hx, hb, hml, hown, hts⟩ := id hC
  have hS : va_S A s.heap s.heap [] := va_S.rf
  have hin0 : ∀ w ∈ wsX00, w ∈ wsX1_kept := fun _ h => List.mem_cons_of_mem _ (List.mem_append_right _ h)
  have hin1 : ∀ w ∈ wsX10, w ∈ wsX1_kept := fun _ h => List.mem_cons_of_mem _ (List.mem_append_left _ (List.mem_append_right _ h))
  have hl : lv_has ls 3 [(0, .ref x), (1, .int a1), (2, .int a2)] := hl
  refine lv_aload_n hx hb dX1_kept_0 rfl (lv_at hl 0 rfl) ?_
  refine lv_iload_n hx hb dX1_kept_1 rfl (lv_at hl 1 rfl) ?_
  refine lv_bipush (v := 12) hx hb dX1_kept_2 (by decide) ?_
  refine lv_iconst (v := 0) hx hb dX1_kept_4 (by decide) ?_
  refine lv_iload_n hx hb dX1_kept_5 rfl (lv_at hl 2 rfl) ?_
  refine lv_iload_n hx hb dX1_kept_6 rfl (lv_at hl 2 rfl) ?_
  refine lv_iload_n hx hb dX1_kept_7 rfl (lv_at hl 2 rfl) ?_
  obtain ⟨o1, hok⟩ := hok
  refine wx_callVi (As := [.int a1, .int 12, .int 0, .int a2, .int a2, .int a2]) (rest := []) kst_C hC (c_X1_standOver l D x A0 A1 A2 cI cR cII S a1 12 0 a2 a2 a2 o1) (cwV 6 hts gX1_kept_X1_standOver rfl rfl rfl (by decide +kernel) ⟨Nat.le_of_ble_eq_true rfl, Nat.le_of_ble_eq_true rfl⟩) hK hP hD hS hA (wc_cell hK hP) rfl hl.1 rfl (Nat.le_of_ble_eq_true rfl) dX1_kept_8 ⟨Nat.le_of_ble_eq_true rfl, Nat.le_of_ble_eq_true rfl⟩ (fun r1 u1 H locs hw hP hD hS => ?_)
  have hw1 := hw
  have hok := hok r1 u1 hw1
  exact wx_reti kst_C u1 hx hb hr hlk hK hP hD hS dX1_kept_11 (by unfold s_X1_kept; refine ⟨r1, u1, hw1, ?_⟩; exact ⟨rfl, rfl⟩)
def p_X1_put (S : CS) (a1 : Int32) (a2 : Int32) : Int32 × CS := if (p_X1_isPlace a1) = 0 then ((-1), S) else (if (p_X1_isPlace a2) = 0 then ((-1), S) else (if (qP S a1.toNatClampNeg) = none then ((-2), S) else (1, csP S a2.toNatClampNeg (some ((qP S a1.toNatClampNeg).getD 0)))))
def ok_X1_put (S : CS) (a1 : Int32) (a2 : Int32) : Prop := ((p_X1_isPlace a1) = 0 → True) ∧ (¬ (p_X1_isPlace a1) = 0 → (((p_X1_isPlace a2) = 0 → True) ∧ (¬ (p_X1_isPlace a2) = 0 → ((vp_in a1 16) ∧ (((qP S a1.toNatClampNeg) = none → True) ∧ (¬ (qP S a1.toNatClampNeg) = none → ((vp_in a1 16) ∧ ((vp_in a2 16) ∧ (((qP S a1.toNatClampNeg).getD 0 ∈ qL S ∧ qK S ((qP S a1.toNatClampNeg).getD 0) = true) ∧ (True))))))))))
set_option maxHeartbeats 4000000 in
set_option maxRecDepth 100000 in
theorem c_X1_put (l : Launch) (D : va_G) (x A0 A1 A2 : Nat) (cI cR cII : ClassId) (S : CS) (a1 : Int32) (a2 : Int32) (hok : ok_X1_put S a1 a2) : MetI l yX1_put wsX1_put ({ frames := 2, cells := 0, slots := 0, locals := 41 } : Room) D (cKK D cI cR cII) (cW x A0 A1 A2 cI cR cII) S [.ref x, .int a1, .int a2] (fun r u => (r, u) = p_X1_put S a1 a2) 0 0 := by
  unfold ok_X1_put at hok
  refine MetI.of (cc := cX1_put) (maxL := 3) (by decide) rfl (Nat.le_of_ble_eq_true rfl) ?_
  intro p e s m below meth c A ls hC hr hlk hnm hK hP hD hA hl
  obtain ⟨hx, hb, hml, hown, hts⟩ := id hC
  have hS : va_S A s.heap s.heap [] := va_S.rf
  have hin1 : ∀ w ∈ wsX10, w ∈ wsX1_put := fun _ h => List.mem_cons_of_mem _ (List.mem_append_right _ h)
  have hl : lv_has ls 3 [(0, .ref x), (1, .int a1), (2, .int a2)] := hl
  refine lv_iload_n hx hb dX1_put_0 rfl (lv_at hl 1 rfl) ?_
  refine wx_callS (As := [.int a1]) (rest := []) hC (c_X1_isPlace l a1) (va_cwS 1 hts gX1_put_X1_isPlace rfl rfl rfl (by decide +kernel) ⟨Nat.le_of_ble_eq_true rfl, Nat.le_of_ble_eq_true rfl⟩) rfl hl.1 rfl (Nat.le_of_ble_eq_true rfl) dX1_put_1 ⟨Nat.le_of_ble_eq_true rfl, Nat.le_of_ble_eq_true rfl⟩ (fun r1 hw => ?_)
  obtain rfl : r1 = p_X1_isPlace a1 := hw
  refine lv_if_eq (tgt := 14) hx hb dX1_put_4 (by decide) (fun c2 => ?_) (fun c2 => ?_)
  · have hok := hok.1 c2
    refine lv_iconst (v := (-1)) hx hb dX1_put_14 (by decide) ?_
    exact wx_reti kst_C S hx hb hr hlk hK hP hD hS dX1_put_15 (by unfold p_X1_put; rw [if_pos c2])
  · have hok := hok.2 c2
    refine lv_iload_n hx hb dX1_put_7 rfl (lv_at hl 2 rfl) ?_
    refine wx_callS (As := [.int a2]) (rest := []) hC (c_X1_isPlace l a2) (va_cwS 1 hts gX1_put_X1_isPlace rfl rfl rfl (by decide +kernel) ⟨Nat.le_of_ble_eq_true rfl, Nat.le_of_ble_eq_true rfl⟩) rfl hl.1 rfl (Nat.le_of_ble_eq_true rfl) dX1_put_8 ⟨Nat.le_of_ble_eq_true rfl, Nat.le_of_ble_eq_true rfl⟩ (fun r3 hw => ?_)
    obtain rfl : r3 = p_X1_isPlace a2 := hw
    refine lv_if_ne (tgt := 16) hx hb dX1_put_11 (by decide) (fun c4 => ?_) (fun c4 => ?_)
    · have hok := hok.2 c4
      refine lv_aload_n hx hb dX1_put_16 rfl (lv_at hl 0 rfl) ?_
      refine wc_get hC hin1 hK hP 2 (by decide) rfl (by decide +kernel) (dget_2 _ _ _ _) dX1_put_17 ?_
      refine lv_iload_n hx hb dX1_put_20 rfl (lv_at hl 1 rfl) ?_
      obtain ⟨b5, hok⟩ := hok
      refine wc_aldP hC hK hP b5 dX1_put_21 ?_
      refine lv_qifnonnull (tgt := 28) hx hb dX1_put_22 (by decide) (fun c6 => ?_) (fun c6 => ?_)
      · have hok := hok.2 c6
        refine lv_aload_n hx hb dX1_put_28 rfl (lv_at hl 0 rfl) ?_
        refine wc_get hC hin1 hK hP 2 (by decide) rfl (by decide +kernel) (dget_2 _ _ _ _) dX1_put_29 ?_
        refine lv_iload_n hx hb dX1_put_32 rfl (lv_at hl 2 rfl) ?_
        refine lv_aload_n hx hb dX1_put_33 rfl (lv_at hl 0 rfl) ?_
        refine wc_get hC hin1 hK hP 2 (by decide) rfl (by decide +kernel) (dget_2 _ _ _ _) dX1_put_34 ?_
        refine lv_iload_n hx hb dX1_put_37 rfl (lv_at hl 1 rfl) ?_
        obtain ⟨b7, hok⟩ := hok
        refine wc_aldP hC hK hP b7 dX1_put_38 ?_
        refine lv_qsome c6 ?_
        obtain ⟨b8, hok⟩ := hok
        obtain ⟨b9, hok⟩ := hok
        refine wc_astP hC hK hP hD hS b9.1 b9.2 b8 dX1_put_39 (fun H locs hP hD hS => ?_)
        refine lv_iconst (v := 1) hx hb dX1_put_40 (by decide) ?_
        exact wx_reti kst_C (csP S a2.toNatClampNeg (some ((qP S a1.toNatClampNeg).getD 0))) hx hb hr hlk hK hP hD hS dX1_put_41 (by unfold p_X1_put; rw [if_neg c2, if_neg c4, if_neg c6])
      · have hok := hok.1 c6
        refine lv_bipush (v := (-2)) hx hb dX1_put_25 (by decide) ?_
        exact wx_reti kst_C S hx hb hr hlk hK hP hD hS dX1_put_27 (by unfold p_X1_put; rw [if_neg c2, if_neg c4, if_pos c6])
    · have hok := hok.1 c4
      refine lv_iconst (v := (-1)) hx hb dX1_put_14 (by decide) ?_
      exact wx_reti kst_C S hx hb hr hlk hK hP hD hS dX1_put_15 (by unfold p_X1_put; rw [if_neg c2, if_pos c4])
def p_X1_take (S : CS) (a1 : Int32) : Int32 × CS := if (p_X1_isPlace a1) = 0 then ((-1), S) else (if (qP S a1.toNatClampNeg) = none then ((-2), S) else (1, csP S a1.toNatClampNeg none))
def ok_X1_take (S : CS) (a1 : Int32) : Prop := ((p_X1_isPlace a1) = 0 → True) ∧ (¬ (p_X1_isPlace a1) = 0 → ((vp_in a1 16) ∧ (((qP S a1.toNatClampNeg) = none → True) ∧ (¬ (qP S a1.toNatClampNeg) = none → ((vp_in a1 16) ∧ (True))))))
set_option maxHeartbeats 4000000 in
set_option maxRecDepth 100000 in
theorem c_X1_take (l : Launch) (D : va_G) (x A0 A1 A2 : Nat) (cI cR cII : ClassId) (S : CS) (a1 : Int32) (hok : ok_X1_take S a1) : MetI l yX1_take wsX1_take ({ frames := 2, cells := 0, slots := 0, locals := 41 } : Room) D (cKK D cI cR cII) (cW x A0 A1 A2 cI cR cII) S [.ref x, .int a1] (fun r u => (r, u) = p_X1_take S a1) 0 0 := by
  unfold ok_X1_take at hok
  refine MetI.of (cc := cX1_take) (maxL := 2) (by decide) rfl (Nat.le_of_ble_eq_true rfl) ?_
  intro p e s m below meth c A ls hC hr hlk hnm hK hP hD hA hl
  obtain ⟨hx, hb, hml, hown, hts⟩ := id hC
  have hS : va_S A s.heap s.heap [] := va_S.rf
  have hin1 : ∀ w ∈ wsX10, w ∈ wsX1_take := fun _ h => List.mem_cons_of_mem _ (List.mem_append_right _ h)
  have hl : lv_has ls 2 [(0, .ref x), (1, .int a1)] := hl
  refine lv_iload_n hx hb dX1_take_0 rfl (lv_at hl 1 rfl) ?_
  refine wx_callS (As := [.int a1]) (rest := []) hC (c_X1_isPlace l a1) (va_cwS 1 hts gX1_take_X1_isPlace rfl rfl rfl (by decide +kernel) ⟨Nat.le_of_ble_eq_true rfl, Nat.le_of_ble_eq_true rfl⟩) rfl hl.1 rfl (Nat.le_of_ble_eq_true rfl) dX1_take_1 ⟨Nat.le_of_ble_eq_true rfl, Nat.le_of_ble_eq_true rfl⟩ (fun r1 hw => ?_)
  obtain rfl : r1 = p_X1_isPlace a1 := hw
  refine lv_if_ne (tgt := 9) hx hb dX1_take_4 (by decide) (fun c2 => ?_) (fun c2 => ?_)
  · have hok := hok.2 c2
    refine lv_aload_n hx hb dX1_take_9 rfl (lv_at hl 0 rfl) ?_
    refine wc_get hC hin1 hK hP 2 (by decide) rfl (by decide +kernel) (dget_2 _ _ _ _) dX1_take_10 ?_
    refine lv_iload_n hx hb dX1_take_13 rfl (lv_at hl 1 rfl) ?_
    obtain ⟨b3, hok⟩ := hok
    refine wc_aldP hC hK hP b3 dX1_take_14 ?_
    refine lv_qifnonnull (tgt := 21) hx hb dX1_take_15 (by decide) (fun c4 => ?_) (fun c4 => ?_)
    · have hok := hok.2 c4
      refine lv_aload_n hx hb dX1_take_21 rfl (lv_at hl 0 rfl) ?_
      refine wc_get hC hin1 hK hP 2 (by decide) rfl (by decide +kernel) (dget_2 _ _ _ _) dX1_take_22 ?_
      refine lv_iload_n hx hb dX1_take_25 rfl (lv_at hl 1 rfl) ?_
      refine lv_null hx hb dX1_take_26 ?_
      obtain ⟨b5, hok⟩ := hok
      refine wc_astPN hC hK hP hD hS b5 dX1_take_27 (fun H locs hP hD hS => ?_)
      refine lv_iconst (v := 1) hx hb dX1_take_28 (by decide) ?_
      exact wx_reti kst_C (csP S a1.toNatClampNeg none) hx hb hr hlk hK hP hD hS dX1_take_29 (by unfold p_X1_take; rw [if_neg c2, if_neg c4])
    · have hok := hok.1 c4
      refine lv_bipush (v := (-2)) hx hb dX1_take_18 (by decide) ?_
      exact wx_reti kst_C S hx hb hr hlk hK hP hD hS dX1_take_20 (by unfold p_X1_take; rw [if_neg c2, if_pos c4])
  · have hok := hok.1 c2
    refine lv_iconst (v := (-1)) hx hb dX1_take_7 (by decide) ?_
    exact wx_reti kst_C S hx hb hr hlk hK hP hD hS dX1_take_8 (by unfold p_X1_take; rw [if_pos c2])
def p_X1_failed (S : CS)  : Int32 := qI S 6
def ok_X1_failed (S : CS)  : Prop := True
set_option maxHeartbeats 4000000 in
set_option maxRecDepth 100000 in
theorem c_X1_failed (l : Launch) (D : va_G) (x A0 A1 A2 : Nat) (cI cR cII : ClassId) (S : CS)  (hok : ok_X1_failed S ) : MetI l yX1_failed wsX1_failed ({ frames := 0, cells := 0, slots := 0, locals := 0 } : Room) D (cKK D cI cR cII) (cW x A0 A1 A2 cI cR cII) S [.ref x] (fun r u => r = p_X1_failed S  ∧ u = S) 0 0 := by
  unfold ok_X1_failed at hok
  refine MetI.of (cc := cX1_failed) (maxL := 1) (by decide) rfl (Nat.le_of_ble_eq_true rfl) ?_
  intro p e s m below meth c A ls hC hr hlk hnm hK hP hD hA hl
  obtain ⟨hx, hb, hml, hown, hts⟩ := id hC
  have hS : va_S A s.heap s.heap [] := va_S.rf
  have hin1 : ∀ w ∈ wsX10, w ∈ wsX1_failed := fun _ h => List.mem_cons_of_mem _ (List.mem_append_right _ h)
  have hl : lv_has ls 1 [(0, .ref x)] := hl
  refine lv_aload_n hx hb dX1_failed_0 rfl (lv_at hl 0 rfl) ?_
  refine wc_get hC hin1 hK hP 6 (by decide) rfl (by decide +kernel) (dget_6 _ _ _ _) dX1_failed_1 ?_
  exact wx_reti kst_C S hx hb hr hlk hK hP hD hS dX1_failed_4 ⟨(by unfold p_X1_failed; rfl), rfl⟩
def p_X1_same (S : CS) (a1 : Int32) (a2 : Int32) : Int32 := if (p_X1_isPlace a1) = 0 then (-1) else (if (p_X1_isPlace a2) = 0 then (-1) else (if (qP S a1.toNatClampNeg) = none then 0 else (if (qP S a1.toNatClampNeg) = (qP S a2.toNatClampNeg) then 1 else 0)))
def ok_X1_same (S : CS) (a1 : Int32) (a2 : Int32) : Prop := ((p_X1_isPlace a1) = 0 → True) ∧ (¬ (p_X1_isPlace a1) = 0 → (((p_X1_isPlace a2) = 0 → True) ∧ (¬ (p_X1_isPlace a2) = 0 → ((vp_in a1 16) ∧ (((qP S a1.toNatClampNeg) = none → True) ∧ (¬ (qP S a1.toNatClampNeg) = none → ((vp_in a1 16) ∧ ((vp_in a2 16) ∧ (((qP S a1.toNatClampNeg) = (qP S a2.toNatClampNeg) → True) ∧ (¬ (qP S a1.toNatClampNeg) = (qP S a2.toNatClampNeg) → True))))))))))
set_option maxHeartbeats 4000000 in
set_option maxRecDepth 100000 in
theorem c_X1_same (l : Launch) (D : va_G) (x A0 A1 A2 : Nat) (cI cR cII : ClassId) (S : CS) (a1 : Int32) (a2 : Int32) (hok : ok_X1_same S a1 a2) : MetI l yX1_same wsX1_same ({ frames := 2, cells := 0, slots := 0, locals := 41 } : Room) D (cKK D cI cR cII) (cW x A0 A1 A2 cI cR cII) S [.ref x, .int a1, .int a2] (fun r u => r = p_X1_same S a1 a2 ∧ u = S) 0 0 := by
  unfold ok_X1_same at hok
  refine MetI.of (cc := cX1_same) (maxL := 3) (by decide) rfl (Nat.le_of_ble_eq_true rfl) ?_
  intro p e s m below meth c A ls hC hr hlk hnm hK hP hD hA hl
  obtain ⟨hx, hb, hml, hown, hts⟩ := id hC
  have hS : va_S A s.heap s.heap [] := va_S.rf
  have hin1 : ∀ w ∈ wsX10, w ∈ wsX1_same := fun _ h => List.mem_cons_of_mem _ (List.mem_append_right _ h)
  have hl : lv_has ls 3 [(0, .ref x), (1, .int a1), (2, .int a2)] := hl
  refine lv_iload_n hx hb dX1_same_0 rfl (lv_at hl 1 rfl) ?_
  refine wx_callS (As := [.int a1]) (rest := []) hC (c_X1_isPlace l a1) (va_cwS 1 hts gX1_same_X1_isPlace rfl rfl rfl (by decide +kernel) ⟨Nat.le_of_ble_eq_true rfl, Nat.le_of_ble_eq_true rfl⟩) rfl hl.1 rfl (Nat.le_of_ble_eq_true rfl) dX1_same_1 ⟨Nat.le_of_ble_eq_true rfl, Nat.le_of_ble_eq_true rfl⟩ (fun r1 hw => ?_)
  obtain rfl : r1 = p_X1_isPlace a1 := hw
  refine lv_if_eq (tgt := 14) hx hb dX1_same_4 (by decide) (fun c2 => ?_) (fun c2 => ?_)
  · have hok := hok.1 c2
    refine lv_iconst (v := (-1)) hx hb dX1_same_14 (by decide) ?_
    exact wx_reti kst_C S hx hb hr hlk hK hP hD hS dX1_same_15 ⟨(by unfold p_X1_same; rw [if_pos c2]), rfl⟩
  · have hok := hok.2 c2
    refine lv_iload_n hx hb dX1_same_7 rfl (lv_at hl 2 rfl) ?_
    refine wx_callS (As := [.int a2]) (rest := []) hC (c_X1_isPlace l a2) (va_cwS 1 hts gX1_same_X1_isPlace rfl rfl rfl (by decide +kernel) ⟨Nat.le_of_ble_eq_true rfl, Nat.le_of_ble_eq_true rfl⟩) rfl hl.1 rfl (Nat.le_of_ble_eq_true rfl) dX1_same_8 ⟨Nat.le_of_ble_eq_true rfl, Nat.le_of_ble_eq_true rfl⟩ (fun r3 hw => ?_)
    obtain rfl : r3 = p_X1_isPlace a2 := hw
    refine lv_if_ne (tgt := 16) hx hb dX1_same_11 (by decide) (fun c4 => ?_) (fun c4 => ?_)
    · have hok := hok.2 c4
      refine lv_aload_n hx hb dX1_same_16 rfl (lv_at hl 0 rfl) ?_
      refine wc_get hC hin1 hK hP 2 (by decide) rfl (by decide +kernel) (dget_2 _ _ _ _) dX1_same_17 ?_
      refine lv_iload_n hx hb dX1_same_20 rfl (lv_at hl 1 rfl) ?_
      obtain ⟨b5, hok⟩ := hok
      refine wc_aldP hC hK hP b5 dX1_same_21 ?_
      refine lv_qifnull (tgt := 44) hx hb dX1_same_22 (by decide) (fun c6 => ?_) (fun c6 => ?_)
      · have hok := hok.1 c6
        refine lv_iconst (v := 0) hx hb dX1_same_44 (by decide) ?_
        exact wx_reti kst_C S hx hb hr hlk hK hP hD hS dX1_same_45 ⟨(by unfold p_X1_same; rw [if_neg c2, if_neg c4, if_pos c6]), rfl⟩
      · have hok := hok.2 c6
        refine lv_aload_n hx hb dX1_same_25 rfl (lv_at hl 0 rfl) ?_
        refine wc_get hC hin1 hK hP 2 (by decide) rfl (by decide +kernel) (dget_2 _ _ _ _) dX1_same_26 ?_
        refine lv_iload_n hx hb dX1_same_29 rfl (lv_at hl 1 rfl) ?_
        obtain ⟨b7, hok⟩ := hok
        refine wc_aldP hC hK hP b7 dX1_same_30 ?_
        refine lv_aload_n hx hb dX1_same_31 rfl (lv_at hl 0 rfl) ?_
        refine wc_get hC hin1 hK hP 2 (by decide) rfl (by decide +kernel) (dget_2 _ _ _ _) dX1_same_32 ?_
        refine lv_iload_n hx hb dX1_same_35 rfl (lv_at hl 2 rfl) ?_
        obtain ⟨b8, hok⟩ := hok
        refine wc_aldP hC hK hP b8 dX1_same_36 ?_
        refine lv_acmp_ne (tgt := 44) hx hb dX1_same_37 (by decide) (fun c9 => ?_) (fun c9 => ?_)
        · have hok := hok.2 c9
          refine lv_iconst (v := 0) hx hb dX1_same_44 (by decide) ?_
          exact wx_reti kst_C S hx hb hr hlk hK hP hD hS dX1_same_45 ⟨(by unfold p_X1_same; rw [if_neg c2, if_neg c4, if_neg c6, if_neg c9]), rfl⟩
        · have hok := hok.1 c9
          refine lv_iconst (v := 1) hx hb dX1_same_40 (by decide) ?_
          refine lv_goto (tgt := 45) hx hb dX1_same_41 (by decide) ?_
          exact wx_reti kst_C S hx hb hr hlk hK hP hD hS dX1_same_45 ⟨(by unfold p_X1_same; rw [if_neg c2, if_neg c4, if_neg c6, if_pos c9]), rfl⟩
    · have hok := hok.1 c4
      refine lv_iconst (v := (-1)) hx hb dX1_same_14 (by decide) ?_
      exact wx_reti kst_C S hx hb hr hlk hK hP hD hS dX1_same_15 ⟨(by unfold p_X1_same; rw [if_neg c2, if_pos c4]), rfl⟩
def p_X1_count (S : CS) (a1 : Int32) : Int32 := if (p_X1_isPlace a1) = 0 then (-1) else (if (qP S a1.toNatClampNeg) = none then (-2) else (if (qRI S 0 ((qP S a1.toNatClampNeg).getD 0)) = 11 then (qRI S 6 ((qP S a1.toNatClampNeg).getD 0)) else (-2)))
def ok_X1_count (S : CS) (a1 : Int32) : Prop := ((p_X1_isPlace a1) = 0 → True) ∧ (¬ (p_X1_isPlace a1) = 0 → ((vp_in a1 16) ∧ (((qP S a1.toNatClampNeg) = none → True) ∧ (¬ (qP S a1.toNatClampNeg) = none → (((qP S a1.toNatClampNeg).getD 0 ∈ qL S ∧ qK S ((qP S a1.toNatClampNeg).getD 0) = true) ∧ (((qRI S 0 ((qP S a1.toNatClampNeg).getD 0)) = 11 → (((qP S a1.toNatClampNeg).getD 0 ∈ qL S ∧ qK S ((qP S a1.toNatClampNeg).getD 0) = true) ∧ (True))) ∧ (¬ (qRI S 0 ((qP S a1.toNatClampNeg).getD 0)) = 11 → True)))))))
set_option maxHeartbeats 4000000 in
set_option maxRecDepth 100000 in
theorem c_X1_count (l : Launch) (D : va_G) (x A0 A1 A2 : Nat) (cI cR cII : ClassId) (S : CS) (a1 : Int32) (hok : ok_X1_count S a1) : MetI l yX1_count wsX1_count ({ frames := 2, cells := 0, slots := 0, locals := 41 } : Room) D (cKK D cI cR cII) (cW x A0 A1 A2 cI cR cII) S [.ref x, .int a1] (fun r u => r = p_X1_count S a1 ∧ u = S) 0 0 := by
  unfold ok_X1_count at hok
  refine MetI.of (cc := cX1_count) (maxL := 3) (by decide) rfl (Nat.le_of_ble_eq_true rfl) ?_
  intro p e s m below meth c A ls hC hr hlk hnm hK hP hD hA hl
  obtain ⟨hx, hb, hml, hown, hts⟩ := id hC
  have hS : va_S A s.heap s.heap [] := va_S.rf
  have hin0 : ∀ w ∈ wsX00, w ∈ wsX1_count := fun _ h => List.mem_cons_of_mem _ (List.mem_append_right _ h)
  have hin1 : ∀ w ∈ wsX10, w ∈ wsX1_count := fun _ h => List.mem_cons_of_mem _ (List.mem_append_left _ (List.mem_append_right _ h))
  have hl : lv_has ls 3 [(0, .ref x), (1, .int a1)] := hl
  refine lv_iload_n hx hb dX1_count_0 rfl (lv_at hl 1 rfl) ?_
  refine wx_callS (As := [.int a1]) (rest := []) hC (c_X1_isPlace l a1) (va_cwS 1 hts gX1_count_X1_isPlace rfl rfl rfl (by decide +kernel) ⟨Nat.le_of_ble_eq_true rfl, Nat.le_of_ble_eq_true rfl⟩) rfl hl.1 rfl (Nat.le_of_ble_eq_true rfl) dX1_count_1 ⟨Nat.le_of_ble_eq_true rfl, Nat.le_of_ble_eq_true rfl⟩ (fun r1 hw => ?_)
  obtain rfl : r1 = p_X1_isPlace a1 := hw
  refine lv_if_ne (tgt := 9) hx hb dX1_count_4 (by decide) (fun c2 => ?_) (fun c2 => ?_)
  · have hok := hok.2 c2
    refine lv_aload_n hx hb dX1_count_9 rfl (lv_at hl 0 rfl) ?_
    refine wc_get hC hin1 hK hP 2 (by decide) rfl (by decide +kernel) (dget_2 _ _ _ _) dX1_count_10 ?_
    refine lv_iload_n hx hb dX1_count_13 rfl (lv_at hl 1 rfl) ?_
    obtain ⟨b3, hok⟩ := hok
    refine wc_aldP hC hK hP b3 dX1_count_14 ?_
    refine lv_qastore_n (lv' := [(2, va_rf (qP S a1.toNatClampNeg)), (0, .ref x), (1, .int a1)]) hx hb dX1_count_15 rfl hl (by decide) rfl (fun ls hl => ?_)
    refine lv_qaload_n hx hb dX1_count_16 rfl (lv_at hl 0 rfl) ?_
    refine lv_qifnull (tgt := 29) hx hb dX1_count_17 (by decide) (fun c4 => ?_) (fun c4 => ?_)
    · have hok := hok.1 c4
      refine lv_bipush (v := (-2)) hx hb dX1_count_29 (by decide) ?_
      exact wx_reti kst_C S hx hb hr hlk hK hP hD hS dX1_count_31 ⟨(by unfold p_X1_count; rw [if_neg c2, if_pos c4]), rfl⟩
    · have hok := hok.2 c4
      refine lv_qaload_n hx hb dX1_count_20 rfl (lv_at hl 0 rfl) ?_
      refine lv_qsome c4 ?_
      obtain ⟨b5, hok⟩ := hok
      refine wc_getR hC hin0 hK hP b5.1 b5.2 0 (by decide) rfl (by decide +kernel) (rget_0 _ _) dX1_count_21 ?_
      refine lv_bipush (v := 11) hx hb dX1_count_24 (by decide) ?_
      refine lv_icmp_eq (tgt := 32) hx hb dX1_count_26 (by decide) (fun c6 => ?_) (fun c6 => ?_)
      · have hok := hok.1 c6
        refine lv_qaload_n hx hb dX1_count_32 rfl (lv_at hl 0 rfl) ?_
        refine lv_qsome c4 ?_
        obtain ⟨b7, hok⟩ := hok
        refine wc_getR hC hin0 hK hP b7.1 b7.2 6 (by decide) rfl (by decide +kernel) (rget_6 _ _) dX1_count_33 ?_
        exact wx_reti kst_C S hx hb hr hlk hK hP hD hS dX1_count_36 ⟨(by unfold p_X1_count; rw [if_neg c2, if_neg c4, if_pos c6]), rfl⟩
      · have hok := hok.2 c6
        refine lv_bipush (v := (-2)) hx hb dX1_count_29 (by decide) ?_
        exact wx_reti kst_C S hx hb hr hlk hK hP hD hS dX1_count_31 ⟨(by unfold p_X1_count; rw [if_neg c2, if_neg c4, if_neg c6]), rfl⟩
  · have hok := hok.1 c2
    refine lv_iconst (v := (-1)) hx hb dX1_count_7 (by decide) ?_
    exact wx_reti kst_C S hx hb hr hlk hK hP hD hS dX1_count_8 ⟨(by unfold p_X1_count; rw [if_pos c2]), rfl⟩
def pL_X1_takenPlaces_4 (N : Nat) : Nat → CS → Int32 → Int32 → Int32 × CS
  | 0, S, _, _ => (0, S)
  | n + 1, S, x1, x2 => if 16 ≤ x2 then (x1, S) else (if (qP S x2.toNatClampNeg) = none then (pL_X1_takenPlaces_4 N n S x1 (x2 + 1)) else (pL_X1_takenPlaces_4 N n S (x1 + 1) (x2 + 1)))
def okL_X1_takenPlaces_4 (N : Nat) : Nat → CS → Int32 → Int32 → Prop
  | 0, _, _, _ => False
  | n + 1, S, x1, x2 => (16 ≤ x2 → True) ∧ (¬ 16 ≤ x2 → ((vp_in x2 16) ∧ (((qP S x2.toNatClampNeg) = none → (okL_X1_takenPlaces_4 N n S x1 (x2 + 1))) ∧ (¬ (qP S x2.toNatClampNeg) = none → (okL_X1_takenPlaces_4 N n S (x1 + 1) (x2 + 1))))))
set_option maxHeartbeats 4000000 in
set_option maxRecDepth 100000 in
theorem cL_X1_takenPlaces_4 {l : Launch} {D : va_G} {x A0 A1 A2 : Nat} {cI cR cII : ClassId} {p : Program} {e : Env} {s : State} {m : MethodId} {args : Array Value} {below : List Frame} {meth : Method} {c : Code} {A : Nat → Prop} {post : Int32 → CS → Prop} (hC : CallFix p m c cX1_takenPlaces 3 s args wsX1_takenPlaces RX1) (hr : meth.sig.returnType = some .int) (hlk : meth.locks = false) (hK : cKK D cI cR cII s) (hA : ∀ q, s.heap.size ≤ q → A q) (N : Nat) :
    ∀ (n : Nat) (S : CS) (x1 : Int32) (x2 : Int32), okL_X1_takenPlaces_4 N n S x1 x2 → (∀ r u, (r, u) = pL_X1_takenPlaces_4 N n S x1 x2 → post r u) → ∀ (H : Heap) (locs : List Loc), va_P D vwCl (cW x A0 A1 A2 cI cR cII S) H → va_D A (cW x A0 A1 A2 cI cR cII S) → va_S A s.heap H locs → ∀ ls : Array Slot, lv_has ls 3 [(0, .ref x), (1, .int x1), (2, .int x2)] → W p l e ({ frames := 0, cells := 0, slots := 0, locals := 0 } : Room) s m args below meth c H locs 0 0 (MQ below (va_Qi post (fun u t => wAt D (cKK D cI cR cII) A (cW x A0 A1 A2 cI cR cII u) t) A) args s 0 0 A) (F0 m 4 ls []) := by
  obtain ⟨hx, hb, hml, hown, hts⟩ := id hC
  have hin1 : ∀ w ∈ wsX10, w ∈ wsX1_takenPlaces := fun _ h => List.mem_cons_of_mem _ (List.mem_append_right _ h)
  intro n
  induction n with
  | zero => intro S x1 x2 hok; exact False.elim hok
  | succ n ih =>
    intro S x1 x2 hok hq H locs hP hD hS ls hl
    rw [okL_X1_takenPlaces_4] at hok
    refine lv_iload_n hx hb dX1_takenPlaces_4 rfl (lv_at hl 2 rfl) ?_
    refine lv_bipush (v := 16) hx hb dX1_takenPlaces_5 (by decide) ?_
    refine lv_icmp_ge (tgt := 28) hx hb dX1_takenPlaces_7 (by decide) (fun c1 => ?_) (fun c1 => ?_)
    · have hok := hok.1 c1
      refine lv_iload_n hx hb dX1_takenPlaces_28 rfl (lv_at hl 1 rfl) ?_
      exact wx_reti kst_C S hx hb hr hlk hK hP hD hS dX1_takenPlaces_29 (hq _ _ (by rw [pL_X1_takenPlaces_4, if_pos c1]))
    · have hok := hok.2 c1
      refine lv_aload_n hx hb dX1_takenPlaces_10 rfl (lv_at hl 0 rfl) ?_
      refine wc_get hC hin1 hK hP 2 (by decide) rfl (by decide +kernel) (dget_2 _ _ _ _) dX1_takenPlaces_11 ?_
      refine lv_iload_n hx hb dX1_takenPlaces_14 rfl (lv_at hl 2 rfl) ?_
      obtain ⟨b2, hok⟩ := hok
      refine wc_aldP hC hK hP b2 dX1_takenPlaces_15 ?_
      refine lv_qifnull (tgt := 22) hx hb dX1_takenPlaces_16 (by decide) (fun c3 => ?_) (fun c3 => ?_)
      · have hok := hok.1 c3
        refine lv_iinc (v := x2 + 1) (lv' := [(2, .int (x2 + 1)), (0, .ref x), (1, .int x1)]) hx hb dX1_takenPlaces_22 hl (k := 2) rfl rfl (by decide) rfl (fun ls hl => ?_)
        refine lv_goto (tgt := 4) hx hb dX1_takenPlaces_25 (by decide) ?_
        exact ih S x1 (x2 + 1) hok (fun r u hru => hq r u (hru.trans (by rw [pL_X1_takenPlaces_4, if_neg c1, if_pos c3]))) _ _ hP hD hS ls (lv_sub hl [1, 2, 0] rfl)
      · have hok := hok.2 c3
        refine lv_iinc (v := x1 + 1) (lv' := [(1, .int (x1 + 1)), (0, .ref x), (2, .int x2)]) hx hb dX1_takenPlaces_19 hl (k := 1) rfl rfl (by decide) rfl (fun ls hl => ?_)
        refine lv_iinc (v := x2 + 1) (lv' := [(2, .int (x2 + 1)), (1, .int (x1 + 1)), (0, .ref x)]) hx hb dX1_takenPlaces_22 hl (k := 2) rfl rfl (by decide) rfl (fun ls hl => ?_)
        refine lv_goto (tgt := 4) hx hb dX1_takenPlaces_25 (by decide) ?_
        exact ih S (x1 + 1) (x2 + 1) hok (fun r u hru => hq r u (hru.trans (by rw [pL_X1_takenPlaces_4, if_neg c1, if_neg c3]))) _ _ hP hD hS ls (lv_sub hl [2, 1, 0] rfl)
def p_X1_takenPlaces (N : Nat) (S : CS)  : Int32 × CS := pL_X1_takenPlaces_4 N N S 0 0
def ok_X1_takenPlaces (N : Nat) (S : CS)  : Prop := okL_X1_takenPlaces_4 N N S 0 0
set_option maxHeartbeats 4000000 in
set_option maxRecDepth 100000 in
theorem c_X1_takenPlaces (l : Launch) (D : va_G) (x A0 A1 A2 : Nat) (cI cR cII : ClassId) (N : Nat) (S : CS)  (hok : ok_X1_takenPlaces N S ) : MetI l yX1_takenPlaces wsX1_takenPlaces ({ frames := 0, cells := 0, slots := 0, locals := 0 } : Room) D (cKK D cI cR cII) (cW x A0 A1 A2 cI cR cII) S [.ref x] (fun r u => (r, u) = p_X1_takenPlaces N S ) 0 0 := by
  unfold ok_X1_takenPlaces at hok
  refine MetI.of (cc := cX1_takenPlaces) (maxL := 3) (by decide) rfl (Nat.le_of_ble_eq_true rfl) ?_
  intro p e s m below meth c A ls hC hr hlk hnm hK hP hD hA hl
  obtain ⟨hx, hb, hml, hown, hts⟩ := id hC
  have hS : va_S A s.heap s.heap [] := va_S.rf
  have hin1 : ∀ w ∈ wsX10, w ∈ wsX1_takenPlaces := fun _ h => List.mem_cons_of_mem _ (List.mem_append_right _ h)
  have hl : lv_has ls 3 [(0, .ref x)] := hl
  refine lv_iconst (v := 0) hx hb dX1_takenPlaces_0 (by decide) ?_
  refine lv_istore_n (lv' := [(1, .int 0), (0, .ref x)]) hx hb dX1_takenPlaces_1 rfl hl (by decide) rfl (fun ls hl => ?_)
  refine lv_iconst (v := 0) hx hb dX1_takenPlaces_2 (by decide) ?_
  refine lv_istore_n (lv' := [(2, .int 0), (1, .int 0), (0, .ref x)]) hx hb dX1_takenPlaces_3 rfl hl (by decide) rfl (fun ls hl => ?_)
  exact cL_X1_takenPlaces_4 hC hr hlk hK hA N N S 0 0 hok (fun r u hru => hru.trans (by unfold p_X1_takenPlaces; rfl)) _ _ hP hD hS ls (lv_sub hl [2, 1, 0] rfl)
def p_X1_told (N : Nat) (S : CS) (a1 : Int32) : Int32 × CS := if a1 = 0 then (qI S 3, S) else (if a1 = 1 then (qI S 4, S) else (if a1 = 2 then (qI S 5, S) else (if a1 = 3 then ((p_X1_takenPlaces N S).1, (p_X1_takenPlaces N S).2) else ((-1), S))))
def ok_X1_told (N : Nat) (S : CS) (a1 : Int32) : Prop := (a1 = 0 → True) ∧ (¬ a1 = 0 → ((a1 = 1 → True) ∧ (¬ a1 = 1 → ((a1 = 2 → True) ∧ (¬ a1 = 2 → ((a1 = 3 → ((ok_X1_takenPlaces N S) ∧ (True))) ∧ (¬ a1 = 3 → True)))))))
set_option maxHeartbeats 4000000 in
set_option maxRecDepth 100000 in
theorem c_X1_told (l : Launch) (D : va_G) (x A0 A1 A2 : Nat) (cI cR cII : ClassId) (N : Nat) (S : CS) (a1 : Int32) (hok : ok_X1_told N S a1) : MetI l yX1_told wsX1_told ({ frames := 1, cells := 0, slots := 0, locals := 22 } : Room) D (cKK D cI cR cII) (cW x A0 A1 A2 cI cR cII) S [.ref x, .int a1] (fun r u => (r, u) = p_X1_told N S a1) 0 0 := by
  unfold ok_X1_told at hok
  refine MetI.of (cc := cX1_told) (maxL := 2) (by decide) rfl (Nat.le_of_ble_eq_true rfl) ?_
  intro p e s m below meth c A ls hC hr hlk hnm hK hP hD hA hl
  obtain ⟨hx, hb, hml, hown, hts⟩ := id hC
  have hS : va_S A s.heap s.heap [] := va_S.rf
  have hin1 : ∀ w ∈ wsX10, w ∈ wsX1_told := fun _ h => List.mem_cons_of_mem _ (List.mem_append_right _ h)
  have hl : lv_has ls 2 [(0, .ref x), (1, .int a1)] := hl
  refine lv_iload_n hx hb dX1_told_0 rfl (lv_at hl 1 rfl) ?_
  by_cases c1 : a1 = 0
  · have hok := hok.1 c1
    refine lv_tableIn (tgt := 32) hx hb dX1_told_1 (by rw [c1]; decide) (by rw [c1]; decide) (by rw [c1]; rfl) (by decide) ?_
    refine lv_aload_n hx hb dX1_told_32 rfl (lv_at hl 0 rfl) ?_
    refine wc_get hC hin1 hK hP 3 (by decide) rfl (by decide +kernel) (dget_3 _ _ _ _) dX1_told_33 ?_
    exact wx_reti kst_C S hx hb hr hlk hK hP hD hS dX1_told_36 (by unfold p_X1_told; rw [if_pos c1])
  have hok := hok.2 c1
  by_cases c2 : a1 = 1
  · have hok := hok.1 c2
    refine lv_tableIn (tgt := 37) hx hb dX1_told_1 (by rw [c2]; decide) (by rw [c2]; decide) (by rw [c2]; rfl) (by decide) ?_
    refine lv_aload_n hx hb dX1_told_37 rfl (lv_at hl 0 rfl) ?_
    refine wc_get hC hin1 hK hP 4 (by decide) rfl (by decide +kernel) (dget_4 _ _ _ _) dX1_told_38 ?_
    exact wx_reti kst_C S hx hb hr hlk hK hP hD hS dX1_told_41 (by unfold p_X1_told; rw [if_neg c1, if_pos c2])
  have hok := hok.2 c2
  by_cases c3 : a1 = 2
  · have hok := hok.1 c3
    refine lv_tableIn (tgt := 42) hx hb dX1_told_1 (by rw [c3]; decide) (by rw [c3]; decide) (by rw [c3]; rfl) (by decide) ?_
    refine lv_aload_n hx hb dX1_told_42 rfl (lv_at hl 0 rfl) ?_
    refine wc_get hC hin1 hK hP 5 (by decide) rfl (by decide +kernel) (dget_5 _ _ _ _) dX1_told_43 ?_
    exact wx_reti kst_C S hx hb hr hlk hK hP hD hS dX1_told_46 (by unfold p_X1_told; rw [if_neg c1, if_neg c2, if_pos c3])
  have hok := hok.2 c3
  by_cases c4 : a1 = 3
  · have hok := hok.1 c4
    refine lv_tableIn (tgt := 47) hx hb dX1_told_1 (by rw [c4]; decide) (by rw [c4]; decide) (by rw [c4]; rfl) (by decide) ?_
    refine lv_aload_n hx hb dX1_told_47 rfl (lv_at hl 0 rfl) ?_
    obtain ⟨o5, hok⟩ := hok
    refine wx_callVi (As := []) (rest := []) kst_C hC (c_X1_takenPlaces l D x A0 A1 A2 cI cR cII N S o5) (cwV 0 hts gX1_told_X1_takenPlaces rfl rfl rfl (by decide +kernel) ⟨Nat.le_of_ble_eq_true rfl, Nat.le_of_ble_eq_true rfl⟩) hK hP hD hS hA (wc_cell hK hP) rfl hl.1 rfl (Nat.le_of_ble_eq_true rfl) dX1_told_48 ⟨Nat.le_of_ble_eq_true rfl, Nat.le_of_ble_eq_true rfl⟩ (fun r5 u5 H locs hw hP hD hS => ?_)
    obtain rfl : r5 = (p_X1_takenPlaces N S).1 := congrArg Prod.fst hw
    obtain rfl : u5 = (p_X1_takenPlaces N S).2 := congrArg Prod.snd hw
    exact wx_reti kst_C ((p_X1_takenPlaces N S).2) hx hb hr hlk hK hP hD hS dX1_told_51 (by unfold p_X1_told; rw [if_neg c1, if_neg c2, if_neg c3, if_pos c4])
  have hok := hok.2 c4
  refine lv_tableOut (tgt := 52) hx hb dX1_told_1 (sw_out (fun k h1 h2 => ?_)) (by decide) ?_
  · rcases (show k = 0 ∨ k = 1 ∨ k = 2 ∨ k = 3 by omega) with rfl | rfl | rfl | rfl
    · exact c1
    · exact c2
    · exact c3
    · exact c4
  refine lv_iconst (v := (-1)) hx hb dX1_told_52 (by decide) ?_
  exact wx_reti kst_C S hx hb hr hlk hK hP hD hS dX1_told_53 (by unfold p_X1_told; rw [if_neg c1, if_neg c2, if_neg c3, if_neg c4])
def s_X1_clear (S : CS)  (r : Int32) (u : CS) : Prop := ∃ q11, q11 ∉ qL S ∧ (∃ q14, q14 ∉ qL (csNW (csR (csR (csR (csR (csR (csR (csR (csR S ((0 : Int32).toNatClampNeg) 0) ((1 : Int32).toNatClampNeg) 0) ((2 : Int32).toNatClampNeg) 0) ((3 : Int32).toNatClampNeg) 0) ((4 : Int32).toNatClampNeg) 0) ((5 : Int32).toNatClampNeg) 0) ((6 : Int32).toNatClampNeg) 0) ((7 : Int32).toNatClampNeg) 0) q11 ((0 : Int32).toNatClampNeg)) ∧ (∃ q17, q17 ∉ qL (csNW (csW (csNW (csR (csR (csR (csR (csR (csR (csR (csR S ((0 : Int32).toNatClampNeg) 0) ((1 : Int32).toNatClampNeg) 0) ((2 : Int32).toNatClampNeg) 0) ((3 : Int32).toNatClampNeg) 0) ((4 : Int32).toNatClampNeg) 0) ((5 : Int32).toNatClampNeg) 0) ((6 : Int32).toNatClampNeg) 0) ((7 : Int32).toNatClampNeg) 0) q11 ((0 : Int32).toNatClampNeg)) ((0 : Int32).toNatClampNeg) (some q11)) q14 ((0 : Int32).toNatClampNeg)) ∧ (∃ q20, q20 ∉ qL (csNW (csW (csNW (csW (csNW (csR (csR (csR (csR (csR (csR (csR (csR S ((0 : Int32).toNatClampNeg) 0) ((1 : Int32).toNatClampNeg) 0) ((2 : Int32).toNatClampNeg) 0) ((3 : Int32).toNatClampNeg) 0) ((4 : Int32).toNatClampNeg) 0) ((5 : Int32).toNatClampNeg) 0) ((6 : Int32).toNatClampNeg) 0) ((7 : Int32).toNatClampNeg) 0) q11 ((0 : Int32).toNatClampNeg)) ((0 : Int32).toNatClampNeg) (some q11)) q14 ((0 : Int32).toNatClampNeg)) ((1 : Int32).toNatClampNeg) (some q14)) q17 ((0 : Int32).toNatClampNeg)) ∧ (r = qI S 3 ∧ u = csI (csI (csI (csI (csP (csP (csP (csP (csP (csP (csP (csP (csP (csP (csP (csP (csP (csP (csP (csP (csW (csNW (csW (csNW (csW (csNW (csW (csNW (csR (csR (csR (csR (csR (csR (csR (csR S ((0 : Int32).toNatClampNeg) 0) ((1 : Int32).toNatClampNeg) 0) ((2 : Int32).toNatClampNeg) 0) ((3 : Int32).toNatClampNeg) 0) ((4 : Int32).toNatClampNeg) 0) ((5 : Int32).toNatClampNeg) 0) ((6 : Int32).toNatClampNeg) 0) ((7 : Int32).toNatClampNeg) 0) q11 ((0 : Int32).toNatClampNeg)) ((0 : Int32).toNatClampNeg) (some q11)) q14 ((0 : Int32).toNatClampNeg)) ((1 : Int32).toNatClampNeg) (some q14)) q17 ((0 : Int32).toNatClampNeg)) ((2 : Int32).toNatClampNeg) (some q17)) q20 ((0 : Int32).toNatClampNeg)) ((3 : Int32).toNatClampNeg) (some q20)) ((0 : Int32).toNatClampNeg) none) ((1 : Int32).toNatClampNeg) none) ((2 : Int32).toNatClampNeg) none) ((3 : Int32).toNatClampNeg) none) ((4 : Int32).toNatClampNeg) none) ((5 : Int32).toNatClampNeg) none) ((6 : Int32).toNatClampNeg) none) ((7 : Int32).toNatClampNeg) none) ((8 : Int32).toNatClampNeg) none) ((9 : Int32).toNatClampNeg) none) ((10 : Int32).toNatClampNeg) none) ((11 : Int32).toNatClampNeg) none) ((12 : Int32).toNatClampNeg) none) ((13 : Int32).toNatClampNeg) none) ((14 : Int32).toNatClampNeg) none) ((15 : Int32).toNatClampNeg) none) 3 0) 4 0) 5 0) 6 0))))
def ok_X1_clear (S : CS)  : Prop := ∀ q11, q11 ∉ qL S → ((q11 ∈ qL (csNW (csR (csR (csR (csR (csR (csR (csR (csR S ((0 : Int32).toNatClampNeg) 0) ((1 : Int32).toNatClampNeg) 0) ((2 : Int32).toNatClampNeg) 0) ((3 : Int32).toNatClampNeg) 0) ((4 : Int32).toNatClampNeg) 0) ((5 : Int32).toNatClampNeg) 0) ((6 : Int32).toNatClampNeg) 0) ((7 : Int32).toNatClampNeg) 0) q11 ((0 : Int32).toNatClampNeg)) ∧ qK (csNW (csR (csR (csR (csR (csR (csR (csR (csR S ((0 : Int32).toNatClampNeg) 0) ((1 : Int32).toNatClampNeg) 0) ((2 : Int32).toNatClampNeg) 0) ((3 : Int32).toNatClampNeg) 0) ((4 : Int32).toNatClampNeg) 0) ((5 : Int32).toNatClampNeg) 0) ((6 : Int32).toNatClampNeg) 0) ((7 : Int32).toNatClampNeg) 0) q11 ((0 : Int32).toNatClampNeg)) q11 = false) ∧ (∀ q14, q14 ∉ qL (csNW (csR (csR (csR (csR (csR (csR (csR (csR S ((0 : Int32).toNatClampNeg) 0) ((1 : Int32).toNatClampNeg) 0) ((2 : Int32).toNatClampNeg) 0) ((3 : Int32).toNatClampNeg) 0) ((4 : Int32).toNatClampNeg) 0) ((5 : Int32).toNatClampNeg) 0) ((6 : Int32).toNatClampNeg) 0) ((7 : Int32).toNatClampNeg) 0) q11 ((0 : Int32).toNatClampNeg)) → ((q14 ∈ qL (csNW (csW (csNW (csR (csR (csR (csR (csR (csR (csR (csR S ((0 : Int32).toNatClampNeg) 0) ((1 : Int32).toNatClampNeg) 0) ((2 : Int32).toNatClampNeg) 0) ((3 : Int32).toNatClampNeg) 0) ((4 : Int32).toNatClampNeg) 0) ((5 : Int32).toNatClampNeg) 0) ((6 : Int32).toNatClampNeg) 0) ((7 : Int32).toNatClampNeg) 0) q11 ((0 : Int32).toNatClampNeg)) ((0 : Int32).toNatClampNeg) (some q11)) q14 ((0 : Int32).toNatClampNeg)) ∧ qK (csNW (csW (csNW (csR (csR (csR (csR (csR (csR (csR (csR S ((0 : Int32).toNatClampNeg) 0) ((1 : Int32).toNatClampNeg) 0) ((2 : Int32).toNatClampNeg) 0) ((3 : Int32).toNatClampNeg) 0) ((4 : Int32).toNatClampNeg) 0) ((5 : Int32).toNatClampNeg) 0) ((6 : Int32).toNatClampNeg) 0) ((7 : Int32).toNatClampNeg) 0) q11 ((0 : Int32).toNatClampNeg)) ((0 : Int32).toNatClampNeg) (some q11)) q14 ((0 : Int32).toNatClampNeg)) q14 = false) ∧ (∀ q17, q17 ∉ qL (csNW (csW (csNW (csR (csR (csR (csR (csR (csR (csR (csR S ((0 : Int32).toNatClampNeg) 0) ((1 : Int32).toNatClampNeg) 0) ((2 : Int32).toNatClampNeg) 0) ((3 : Int32).toNatClampNeg) 0) ((4 : Int32).toNatClampNeg) 0) ((5 : Int32).toNatClampNeg) 0) ((6 : Int32).toNatClampNeg) 0) ((7 : Int32).toNatClampNeg) 0) q11 ((0 : Int32).toNatClampNeg)) ((0 : Int32).toNatClampNeg) (some q11)) q14 ((0 : Int32).toNatClampNeg)) → ((q17 ∈ qL (csNW (csW (csNW (csW (csNW (csR (csR (csR (csR (csR (csR (csR (csR S ((0 : Int32).toNatClampNeg) 0) ((1 : Int32).toNatClampNeg) 0) ((2 : Int32).toNatClampNeg) 0) ((3 : Int32).toNatClampNeg) 0) ((4 : Int32).toNatClampNeg) 0) ((5 : Int32).toNatClampNeg) 0) ((6 : Int32).toNatClampNeg) 0) ((7 : Int32).toNatClampNeg) 0) q11 ((0 : Int32).toNatClampNeg)) ((0 : Int32).toNatClampNeg) (some q11)) q14 ((0 : Int32).toNatClampNeg)) ((1 : Int32).toNatClampNeg) (some q14)) q17 ((0 : Int32).toNatClampNeg)) ∧ qK (csNW (csW (csNW (csW (csNW (csR (csR (csR (csR (csR (csR (csR (csR S ((0 : Int32).toNatClampNeg) 0) ((1 : Int32).toNatClampNeg) 0) ((2 : Int32).toNatClampNeg) 0) ((3 : Int32).toNatClampNeg) 0) ((4 : Int32).toNatClampNeg) 0) ((5 : Int32).toNatClampNeg) 0) ((6 : Int32).toNatClampNeg) 0) ((7 : Int32).toNatClampNeg) 0) q11 ((0 : Int32).toNatClampNeg)) ((0 : Int32).toNatClampNeg) (some q11)) q14 ((0 : Int32).toNatClampNeg)) ((1 : Int32).toNatClampNeg) (some q14)) q17 ((0 : Int32).toNatClampNeg)) q17 = false) ∧ (∀ q20, q20 ∉ qL (csNW (csW (csNW (csW (csNW (csR (csR (csR (csR (csR (csR (csR (csR S ((0 : Int32).toNatClampNeg) 0) ((1 : Int32).toNatClampNeg) 0) ((2 : Int32).toNatClampNeg) 0) ((3 : Int32).toNatClampNeg) 0) ((4 : Int32).toNatClampNeg) 0) ((5 : Int32).toNatClampNeg) 0) ((6 : Int32).toNatClampNeg) 0) ((7 : Int32).toNatClampNeg) 0) q11 ((0 : Int32).toNatClampNeg)) ((0 : Int32).toNatClampNeg) (some q11)) q14 ((0 : Int32).toNatClampNeg)) ((1 : Int32).toNatClampNeg) (some q14)) q17 ((0 : Int32).toNatClampNeg)) → ((q20 ∈ qL (csNW (csW (csNW (csW (csNW (csW (csNW (csR (csR (csR (csR (csR (csR (csR (csR S ((0 : Int32).toNatClampNeg) 0) ((1 : Int32).toNatClampNeg) 0) ((2 : Int32).toNatClampNeg) 0) ((3 : Int32).toNatClampNeg) 0) ((4 : Int32).toNatClampNeg) 0) ((5 : Int32).toNatClampNeg) 0) ((6 : Int32).toNatClampNeg) 0) ((7 : Int32).toNatClampNeg) 0) q11 ((0 : Int32).toNatClampNeg)) ((0 : Int32).toNatClampNeg) (some q11)) q14 ((0 : Int32).toNatClampNeg)) ((1 : Int32).toNatClampNeg) (some q14)) q17 ((0 : Int32).toNatClampNeg)) ((2 : Int32).toNatClampNeg) (some q17)) q20 ((0 : Int32).toNatClampNeg)) ∧ qK (csNW (csW (csNW (csW (csNW (csW (csNW (csR (csR (csR (csR (csR (csR (csR (csR S ((0 : Int32).toNatClampNeg) 0) ((1 : Int32).toNatClampNeg) 0) ((2 : Int32).toNatClampNeg) 0) ((3 : Int32).toNatClampNeg) 0) ((4 : Int32).toNatClampNeg) 0) ((5 : Int32).toNatClampNeg) 0) ((6 : Int32).toNatClampNeg) 0) ((7 : Int32).toNatClampNeg) 0) q11 ((0 : Int32).toNatClampNeg)) ((0 : Int32).toNatClampNeg) (some q11)) q14 ((0 : Int32).toNatClampNeg)) ((1 : Int32).toNatClampNeg) (some q14)) q17 ((0 : Int32).toNatClampNeg)) ((2 : Int32).toNatClampNeg) (some q17)) q20 ((0 : Int32).toNatClampNeg)) q20 = false) ∧ (True))))))))
set_option maxHeartbeats 4000000 in
set_option maxRecDepth 100000 in
theorem c_X1_clear (l : Launch) (D : va_G) (x A0 A1 A2 : Nat) (cI cR cII : ClassId) (S : CS)  (hok : ok_X1_clear S ) : MetI l yX1_clear wsX1_clear ({ frames := 0, cells := 4, slots := 32, locals := 0 } : Room) D (cKK D cI cR cII) (cW x A0 A1 A2 cI cR cII) S [.ref x] (fun r u => s_X1_clear S  r u) 4 32 := by
  unfold ok_X1_clear at hok
  refine MetI.of (cc := cX1_clear) (maxL := 3) (by decide) rfl (Nat.le_of_ble_eq_true rfl) ?_
  intro p e s m below meth c A ls hC hr hlk hnm hK hP hD hA hl
  obtain ⟨hx, hb, hml, hown, hts⟩ := id hC
  have hS : va_S A s.heap s.heap [] := va_S.rf
  have hin1 : ∀ w ∈ wsX10, w ∈ wsX1_clear := fun _ h => List.mem_cons_of_mem _ (List.mem_append_right _ h)
  have hl : lv_has ls 3 [(0, .ref x)] := hl
  refine lv_aload_n hx hb dX1_clear_0 rfl (lv_at hl 0 rfl) ?_
  refine wc_get hC hin1 hK hP 3 (by decide) rfl (by decide +kernel) (dget_3 _ _ _ _) dX1_clear_1 ?_
  refine lv_istore_n (lv' := [(1, .int (qI S 3)), (0, .ref x)]) hx hb dX1_clear_4 rfl hl (by decide) rfl (fun ls hl => ?_)
  refine lv_iconst (v := 0) hx hb dX1_clear_5 (by decide) ?_
  refine lv_istore_n (lv' := [(2, .int 0), (1, .int (qI S 3)), (0, .ref x)]) hx hb dX1_clear_6 rfl hl (by decide) rfl (fun ls hl => ?_)
  refine lv_iload_n hx hb dX1_clear_7 rfl (lv_at hl 0 rfl) ?_
  refine lv_bipush (v := 8) hx hb dX1_clear_8 (by decide) ?_
  refine lv_icmp_ge (tgt := 26) hx hb dX1_clear_10 (by decide) (fun c => absurd c (by decide)) (fun _ => ?_)
  refine lv_aload_n hx hb dX1_clear_13 rfl (lv_at hl 2 rfl) ?_
  refine wc_get hC hin1 hK hP 0 (by decide) rfl (by decide +kernel) (dget_0 _ _ _ _) dX1_clear_14 ?_
  refine lv_iload_n hx hb dX1_clear_17 rfl (lv_at hl 0 rfl) ?_
  refine lv_iconst (v := 0) hx hb dX1_clear_18 (by decide) ?_
  refine wc_ast0 hC hK hP hD hS (show vp_in 0 8 by unfold vp_in; decide) dX1_clear_19 (fun H locs hP hD hS => ?_)
  refine lv_iinc (v := 1) (lv' := [(2, .int 1), (1, .int (qI S 3)), (0, .ref x)]) hx hb dX1_clear_20 hl (k := 0) rfl (by decide) (by decide) rfl (fun ls hl => ?_)
  refine lv_goto (tgt := 7) hx hb dX1_clear_23 (by decide) ?_
  refine lv_iload_n hx hb dX1_clear_7 rfl (lv_at hl 0 rfl) ?_
  refine lv_bipush (v := 8) hx hb dX1_clear_8 (by decide) ?_
  refine lv_icmp_ge (tgt := 26) hx hb dX1_clear_10 (by decide) (fun c => absurd c (by decide)) (fun _ => ?_)
  refine lv_aload_n hx hb dX1_clear_13 rfl (lv_at hl 2 rfl) ?_
  refine wc_get hC hin1 hK hP 0 (by decide) rfl (by decide +kernel) (dget_0 _ _ _ _) dX1_clear_14 ?_
  refine lv_iload_n hx hb dX1_clear_17 rfl (lv_at hl 0 rfl) ?_
  refine lv_iconst (v := 0) hx hb dX1_clear_18 (by decide) ?_
  refine wc_ast0 hC hK hP hD hS (show vp_in 1 8 by unfold vp_in; decide) dX1_clear_19 (fun H locs hP hD hS => ?_)
  refine lv_iinc (v := 2) (lv' := [(2, .int 2), (1, .int (qI S 3)), (0, .ref x)]) hx hb dX1_clear_20 hl (k := 0) rfl (by decide) (by decide) rfl (fun ls hl => ?_)
  refine lv_goto (tgt := 7) hx hb dX1_clear_23 (by decide) ?_
  refine lv_iload_n hx hb dX1_clear_7 rfl (lv_at hl 0 rfl) ?_
  refine lv_bipush (v := 8) hx hb dX1_clear_8 (by decide) ?_
  refine lv_icmp_ge (tgt := 26) hx hb dX1_clear_10 (by decide) (fun c => absurd c (by decide)) (fun _ => ?_)
  refine lv_aload_n hx hb dX1_clear_13 rfl (lv_at hl 2 rfl) ?_
  refine wc_get hC hin1 hK hP 0 (by decide) rfl (by decide +kernel) (dget_0 _ _ _ _) dX1_clear_14 ?_
  refine lv_iload_n hx hb dX1_clear_17 rfl (lv_at hl 0 rfl) ?_
  refine lv_iconst (v := 0) hx hb dX1_clear_18 (by decide) ?_
  refine wc_ast0 hC hK hP hD hS (show vp_in 2 8 by unfold vp_in; decide) dX1_clear_19 (fun H locs hP hD hS => ?_)
  refine lv_iinc (v := 3) (lv' := [(2, .int 3), (1, .int (qI S 3)), (0, .ref x)]) hx hb dX1_clear_20 hl (k := 0) rfl (by decide) (by decide) rfl (fun ls hl => ?_)
  refine lv_goto (tgt := 7) hx hb dX1_clear_23 (by decide) ?_
  refine lv_iload_n hx hb dX1_clear_7 rfl (lv_at hl 0 rfl) ?_
  refine lv_bipush (v := 8) hx hb dX1_clear_8 (by decide) ?_
  refine lv_icmp_ge (tgt := 26) hx hb dX1_clear_10 (by decide) (fun c => absurd c (by decide)) (fun _ => ?_)
  refine lv_aload_n hx hb dX1_clear_13 rfl (lv_at hl 2 rfl) ?_
  refine wc_get hC hin1 hK hP 0 (by decide) rfl (by decide +kernel) (dget_0 _ _ _ _) dX1_clear_14 ?_
  refine lv_iload_n hx hb dX1_clear_17 rfl (lv_at hl 0 rfl) ?_
  refine lv_iconst (v := 0) hx hb dX1_clear_18 (by decide) ?_
  refine wc_ast0 hC hK hP hD hS (show vp_in 3 8 by unfold vp_in; decide) dX1_clear_19 (fun H locs hP hD hS => ?_)
  refine lv_iinc (v := 4) (lv' := [(2, .int 4), (1, .int (qI S 3)), (0, .ref x)]) hx hb dX1_clear_20 hl (k := 0) rfl (by decide) (by decide) rfl (fun ls hl => ?_)
  refine lv_goto (tgt := 7) hx hb dX1_clear_23 (by decide) ?_
  refine lv_iload_n hx hb dX1_clear_7 rfl (lv_at hl 0 rfl) ?_
  refine lv_bipush (v := 8) hx hb dX1_clear_8 (by decide) ?_
  refine lv_icmp_ge (tgt := 26) hx hb dX1_clear_10 (by decide) (fun c => absurd c (by decide)) (fun _ => ?_)
  refine lv_aload_n hx hb dX1_clear_13 rfl (lv_at hl 2 rfl) ?_
  refine wc_get hC hin1 hK hP 0 (by decide) rfl (by decide +kernel) (dget_0 _ _ _ _) dX1_clear_14 ?_
  refine lv_iload_n hx hb dX1_clear_17 rfl (lv_at hl 0 rfl) ?_
  refine lv_iconst (v := 0) hx hb dX1_clear_18 (by decide) ?_
  refine wc_ast0 hC hK hP hD hS (show vp_in 4 8 by unfold vp_in; decide) dX1_clear_19 (fun H locs hP hD hS => ?_)
  refine lv_iinc (v := 5) (lv' := [(2, .int 5), (1, .int (qI S 3)), (0, .ref x)]) hx hb dX1_clear_20 hl (k := 0) rfl (by decide) (by decide) rfl (fun ls hl => ?_)
  refine lv_goto (tgt := 7) hx hb dX1_clear_23 (by decide) ?_
  refine lv_iload_n hx hb dX1_clear_7 rfl (lv_at hl 0 rfl) ?_
  refine lv_bipush (v := 8) hx hb dX1_clear_8 (by decide) ?_
  refine lv_icmp_ge (tgt := 26) hx hb dX1_clear_10 (by decide) (fun c => absurd c (by decide)) (fun _ => ?_)
  refine lv_aload_n hx hb dX1_clear_13 rfl (lv_at hl 2 rfl) ?_
  refine wc_get hC hin1 hK hP 0 (by decide) rfl (by decide +kernel) (dget_0 _ _ _ _) dX1_clear_14 ?_
  refine lv_iload_n hx hb dX1_clear_17 rfl (lv_at hl 0 rfl) ?_
  refine lv_iconst (v := 0) hx hb dX1_clear_18 (by decide) ?_
  refine wc_ast0 hC hK hP hD hS (show vp_in 5 8 by unfold vp_in; decide) dX1_clear_19 (fun H locs hP hD hS => ?_)
  refine lv_iinc (v := 6) (lv' := [(2, .int 6), (1, .int (qI S 3)), (0, .ref x)]) hx hb dX1_clear_20 hl (k := 0) rfl (by decide) (by decide) rfl (fun ls hl => ?_)
  refine lv_goto (tgt := 7) hx hb dX1_clear_23 (by decide) ?_
  refine lv_iload_n hx hb dX1_clear_7 rfl (lv_at hl 0 rfl) ?_
  refine lv_bipush (v := 8) hx hb dX1_clear_8 (by decide) ?_
  refine lv_icmp_ge (tgt := 26) hx hb dX1_clear_10 (by decide) (fun c => absurd c (by decide)) (fun _ => ?_)
  refine lv_aload_n hx hb dX1_clear_13 rfl (lv_at hl 2 rfl) ?_
  refine wc_get hC hin1 hK hP 0 (by decide) rfl (by decide +kernel) (dget_0 _ _ _ _) dX1_clear_14 ?_
  refine lv_iload_n hx hb dX1_clear_17 rfl (lv_at hl 0 rfl) ?_
  refine lv_iconst (v := 0) hx hb dX1_clear_18 (by decide) ?_
  refine wc_ast0 hC hK hP hD hS (show vp_in 6 8 by unfold vp_in; decide) dX1_clear_19 (fun H locs hP hD hS => ?_)
  refine lv_iinc (v := 7) (lv' := [(2, .int 7), (1, .int (qI S 3)), (0, .ref x)]) hx hb dX1_clear_20 hl (k := 0) rfl (by decide) (by decide) rfl (fun ls hl => ?_)
  refine lv_goto (tgt := 7) hx hb dX1_clear_23 (by decide) ?_
  refine lv_iload_n hx hb dX1_clear_7 rfl (lv_at hl 0 rfl) ?_
  refine lv_bipush (v := 8) hx hb dX1_clear_8 (by decide) ?_
  refine lv_icmp_ge (tgt := 26) hx hb dX1_clear_10 (by decide) (fun c => absurd c (by decide)) (fun _ => ?_)
  refine lv_aload_n hx hb dX1_clear_13 rfl (lv_at hl 2 rfl) ?_
  refine wc_get hC hin1 hK hP 0 (by decide) rfl (by decide +kernel) (dget_0 _ _ _ _) dX1_clear_14 ?_
  refine lv_iload_n hx hb dX1_clear_17 rfl (lv_at hl 0 rfl) ?_
  refine lv_iconst (v := 0) hx hb dX1_clear_18 (by decide) ?_
  refine wc_ast0 hC hK hP hD hS (show vp_in 7 8 by unfold vp_in; decide) dX1_clear_19 (fun H locs hP hD hS => ?_)
  refine lv_iinc (v := 8) (lv' := [(2, .int 8), (1, .int (qI S 3)), (0, .ref x)]) hx hb dX1_clear_20 hl (k := 0) rfl (by decide) (by decide) rfl (fun ls hl => ?_)
  refine lv_goto (tgt := 7) hx hb dX1_clear_23 (by decide) ?_
  refine lv_iload_n hx hb dX1_clear_7 rfl (lv_at hl 0 rfl) ?_
  refine lv_bipush (v := 8) hx hb dX1_clear_8 (by decide) ?_
  refine lv_icmp_ge (tgt := 26) hx hb dX1_clear_10 (by decide) (fun _ => ?_) (fun c => absurd (by decide) c)
  refine lv_iconst (v := 0) hx hb dX1_clear_26 (by decide) ?_
  refine lv_istore_n (lv' := [(2, .int 0), (1, .int (qI S 3)), (0, .ref x)]) hx hb dX1_clear_27 rfl hl (by decide) rfl (fun ls hl => ?_)
  refine lv_iload_n hx hb dX1_clear_28 rfl (lv_at hl 0 rfl) ?_
  refine lv_iconst (v := 4) hx hb dX1_clear_29 (by decide) ?_
  refine lv_icmp_ge (tgt := 48) hx hb dX1_clear_30 (by decide) (fun c => absurd c (by decide)) (fun _ => ?_)
  refine lv_aload_n hx hb dX1_clear_33 rfl (lv_at hl 2 rfl) ?_
  refine wc_get hC hin1 hK hP 1 (by decide) rfl (by decide +kernel) (dget_1 _ _ _ _) dX1_clear_34 ?_
  refine lv_iload_n hx hb dX1_clear_37 rfl (lv_at hl 0 rfl) ?_
  refine lv_iconst (v := 0) hx hb dX1_clear_38 (by decide) ?_
  refine wc_newa hC (by decide +kernel) hK hP hD hS hA (n := 0) (by decide) (by decide) (Nat.le_of_ble_eq_true rfl) (Nat.le_of_ble_eq_true rfl) dX1_clear_39 (fun q11 H hq11 hP hD hS => ?_)
  have hok := hok q11 hq11
  obtain ⟨b12, hok⟩ := hok
  refine wc_astW hC hK hP hD hS b12.1 b12.2 (show vp_in 0 4 by unfold vp_in; decide) dX1_clear_41 (fun H locs hP hD hS => ?_)
  refine lv_iinc (v := 1) (lv' := [(2, .int 1), (1, .int (qI S 3)), (0, .ref x)]) hx hb dX1_clear_42 hl (k := 0) rfl (by decide) (by decide) rfl (fun ls hl => ?_)
  refine lv_goto (tgt := 28) hx hb dX1_clear_45 (by decide) ?_
  refine lv_iload_n hx hb dX1_clear_28 rfl (lv_at hl 0 rfl) ?_
  refine lv_iconst (v := 4) hx hb dX1_clear_29 (by decide) ?_
  refine lv_icmp_ge (tgt := 48) hx hb dX1_clear_30 (by decide) (fun c => absurd c (by decide)) (fun _ => ?_)
  refine lv_aload_n hx hb dX1_clear_33 rfl (lv_at hl 2 rfl) ?_
  refine wc_get hC hin1 hK hP 1 (by decide) rfl (by decide +kernel) (dget_1 _ _ _ _) dX1_clear_34 ?_
  refine lv_iload_n hx hb dX1_clear_37 rfl (lv_at hl 0 rfl) ?_
  refine lv_iconst (v := 0) hx hb dX1_clear_38 (by decide) ?_
  refine wc_newa hC (by decide +kernel) hK hP hD hS hA (n := 0) (by decide) (by decide) (Nat.le_of_ble_eq_true rfl) (Nat.le_of_ble_eq_true rfl) dX1_clear_39 (fun q14 H hq14 hP hD hS => ?_)
  have hok := hok q14 hq14
  obtain ⟨b15, hok⟩ := hok
  refine wc_astW hC hK hP hD hS b15.1 b15.2 (show vp_in 1 4 by unfold vp_in; decide) dX1_clear_41 (fun H locs hP hD hS => ?_)
  refine lv_iinc (v := 2) (lv' := [(2, .int 2), (1, .int (qI S 3)), (0, .ref x)]) hx hb dX1_clear_42 hl (k := 0) rfl (by decide) (by decide) rfl (fun ls hl => ?_)
  refine lv_goto (tgt := 28) hx hb dX1_clear_45 (by decide) ?_
  refine lv_iload_n hx hb dX1_clear_28 rfl (lv_at hl 0 rfl) ?_
  refine lv_iconst (v := 4) hx hb dX1_clear_29 (by decide) ?_
  refine lv_icmp_ge (tgt := 48) hx hb dX1_clear_30 (by decide) (fun c => absurd c (by decide)) (fun _ => ?_)
  refine lv_aload_n hx hb dX1_clear_33 rfl (lv_at hl 2 rfl) ?_
  refine wc_get hC hin1 hK hP 1 (by decide) rfl (by decide +kernel) (dget_1 _ _ _ _) dX1_clear_34 ?_
  refine lv_iload_n hx hb dX1_clear_37 rfl (lv_at hl 0 rfl) ?_
  refine lv_iconst (v := 0) hx hb dX1_clear_38 (by decide) ?_
  refine wc_newa hC (by decide +kernel) hK hP hD hS hA (n := 0) (by decide) (by decide) (Nat.le_of_ble_eq_true rfl) (Nat.le_of_ble_eq_true rfl) dX1_clear_39 (fun q17 H hq17 hP hD hS => ?_)
  have hok := hok q17 hq17
  obtain ⟨b18, hok⟩ := hok
  refine wc_astW hC hK hP hD hS b18.1 b18.2 (show vp_in 2 4 by unfold vp_in; decide) dX1_clear_41 (fun H locs hP hD hS => ?_)
  refine lv_iinc (v := 3) (lv' := [(2, .int 3), (1, .int (qI S 3)), (0, .ref x)]) hx hb dX1_clear_42 hl (k := 0) rfl (by decide) (by decide) rfl (fun ls hl => ?_)
  refine lv_goto (tgt := 28) hx hb dX1_clear_45 (by decide) ?_
  refine lv_iload_n hx hb dX1_clear_28 rfl (lv_at hl 0 rfl) ?_
  refine lv_iconst (v := 4) hx hb dX1_clear_29 (by decide) ?_
  refine lv_icmp_ge (tgt := 48) hx hb dX1_clear_30 (by decide) (fun c => absurd c (by decide)) (fun _ => ?_)
  refine lv_aload_n hx hb dX1_clear_33 rfl (lv_at hl 2 rfl) ?_
  refine wc_get hC hin1 hK hP 1 (by decide) rfl (by decide +kernel) (dget_1 _ _ _ _) dX1_clear_34 ?_
  refine lv_iload_n hx hb dX1_clear_37 rfl (lv_at hl 0 rfl) ?_
  refine lv_iconst (v := 0) hx hb dX1_clear_38 (by decide) ?_
  refine wc_newa hC (by decide +kernel) hK hP hD hS hA (n := 0) (by decide) (by decide) (Nat.le_of_ble_eq_true rfl) (Nat.le_of_ble_eq_true rfl) dX1_clear_39 (fun q20 H hq20 hP hD hS => ?_)
  have hok := hok q20 hq20
  obtain ⟨b21, hok⟩ := hok
  refine wc_astW hC hK hP hD hS b21.1 b21.2 (show vp_in 3 4 by unfold vp_in; decide) dX1_clear_41 (fun H locs hP hD hS => ?_)
  refine lv_iinc (v := 4) (lv' := [(2, .int 4), (1, .int (qI S 3)), (0, .ref x)]) hx hb dX1_clear_42 hl (k := 0) rfl (by decide) (by decide) rfl (fun ls hl => ?_)
  refine lv_goto (tgt := 28) hx hb dX1_clear_45 (by decide) ?_
  refine lv_iload_n hx hb dX1_clear_28 rfl (lv_at hl 0 rfl) ?_
  refine lv_iconst (v := 4) hx hb dX1_clear_29 (by decide) ?_
  refine lv_icmp_ge (tgt := 48) hx hb dX1_clear_30 (by decide) (fun _ => ?_) (fun c => absurd (by decide) c)
  refine lv_iconst (v := 0) hx hb dX1_clear_48 (by decide) ?_
  refine lv_istore_n (lv' := [(2, .int 0), (1, .int (qI S 3)), (0, .ref x)]) hx hb dX1_clear_49 rfl hl (by decide) rfl (fun ls hl => ?_)
  refine lv_iload_n hx hb dX1_clear_50 rfl (lv_at hl 0 rfl) ?_
  refine lv_bipush (v := 16) hx hb dX1_clear_51 (by decide) ?_
  refine lv_icmp_ge (tgt := 69) hx hb dX1_clear_53 (by decide) (fun c => absurd c (by decide)) (fun _ => ?_)
  refine lv_aload_n hx hb dX1_clear_56 rfl (lv_at hl 2 rfl) ?_
  refine wc_get hC hin1 hK hP 2 (by decide) rfl (by decide +kernel) (dget_2 _ _ _ _) dX1_clear_57 ?_
  refine lv_iload_n hx hb dX1_clear_60 rfl (lv_at hl 0 rfl) ?_
  refine lv_null hx hb dX1_clear_61 ?_
  refine wc_astPN hC hK hP hD hS (show vp_in 0 16 by unfold vp_in; decide) dX1_clear_62 (fun H locs hP hD hS => ?_)
  refine lv_iinc (v := 1) (lv' := [(2, .int 1), (1, .int (qI S 3)), (0, .ref x)]) hx hb dX1_clear_63 hl (k := 0) rfl (by decide) (by decide) rfl (fun ls hl => ?_)
  refine lv_goto (tgt := 50) hx hb dX1_clear_66 (by decide) ?_
  refine lv_iload_n hx hb dX1_clear_50 rfl (lv_at hl 0 rfl) ?_
  refine lv_bipush (v := 16) hx hb dX1_clear_51 (by decide) ?_
  refine lv_icmp_ge (tgt := 69) hx hb dX1_clear_53 (by decide) (fun c => absurd c (by decide)) (fun _ => ?_)
  refine lv_aload_n hx hb dX1_clear_56 rfl (lv_at hl 2 rfl) ?_
  refine wc_get hC hin1 hK hP 2 (by decide) rfl (by decide +kernel) (dget_2 _ _ _ _) dX1_clear_57 ?_
  refine lv_iload_n hx hb dX1_clear_60 rfl (lv_at hl 0 rfl) ?_
  refine lv_null hx hb dX1_clear_61 ?_
  refine wc_astPN hC hK hP hD hS (show vp_in 1 16 by unfold vp_in; decide) dX1_clear_62 (fun H locs hP hD hS => ?_)
  refine lv_iinc (v := 2) (lv' := [(2, .int 2), (1, .int (qI S 3)), (0, .ref x)]) hx hb dX1_clear_63 hl (k := 0) rfl (by decide) (by decide) rfl (fun ls hl => ?_)
  refine lv_goto (tgt := 50) hx hb dX1_clear_66 (by decide) ?_
  refine lv_iload_n hx hb dX1_clear_50 rfl (lv_at hl 0 rfl) ?_
  refine lv_bipush (v := 16) hx hb dX1_clear_51 (by decide) ?_
  refine lv_icmp_ge (tgt := 69) hx hb dX1_clear_53 (by decide) (fun c => absurd c (by decide)) (fun _ => ?_)
  refine lv_aload_n hx hb dX1_clear_56 rfl (lv_at hl 2 rfl) ?_
  refine wc_get hC hin1 hK hP 2 (by decide) rfl (by decide +kernel) (dget_2 _ _ _ _) dX1_clear_57 ?_
  refine lv_iload_n hx hb dX1_clear_60 rfl (lv_at hl 0 rfl) ?_
  refine lv_null hx hb dX1_clear_61 ?_
  refine wc_astPN hC hK hP hD hS (show vp_in 2 16 by unfold vp_in; decide) dX1_clear_62 (fun H locs hP hD hS => ?_)
  refine lv_iinc (v := 3) (lv' := [(2, .int 3), (1, .int (qI S 3)), (0, .ref x)]) hx hb dX1_clear_63 hl (k := 0) rfl (by decide) (by decide) rfl (fun ls hl => ?_)
  refine lv_goto (tgt := 50) hx hb dX1_clear_66 (by decide) ?_
  refine lv_iload_n hx hb dX1_clear_50 rfl (lv_at hl 0 rfl) ?_
  refine lv_bipush (v := 16) hx hb dX1_clear_51 (by decide) ?_
  refine lv_icmp_ge (tgt := 69) hx hb dX1_clear_53 (by decide) (fun c => absurd c (by decide)) (fun _ => ?_)
  refine lv_aload_n hx hb dX1_clear_56 rfl (lv_at hl 2 rfl) ?_
  refine wc_get hC hin1 hK hP 2 (by decide) rfl (by decide +kernel) (dget_2 _ _ _ _) dX1_clear_57 ?_
  refine lv_iload_n hx hb dX1_clear_60 rfl (lv_at hl 0 rfl) ?_
  refine lv_null hx hb dX1_clear_61 ?_
  refine wc_astPN hC hK hP hD hS (show vp_in 3 16 by unfold vp_in; decide) dX1_clear_62 (fun H locs hP hD hS => ?_)
  refine lv_iinc (v := 4) (lv' := [(2, .int 4), (1, .int (qI S 3)), (0, .ref x)]) hx hb dX1_clear_63 hl (k := 0) rfl (by decide) (by decide) rfl (fun ls hl => ?_)
  refine lv_goto (tgt := 50) hx hb dX1_clear_66 (by decide) ?_
  refine lv_iload_n hx hb dX1_clear_50 rfl (lv_at hl 0 rfl) ?_
  refine lv_bipush (v := 16) hx hb dX1_clear_51 (by decide) ?_
  refine lv_icmp_ge (tgt := 69) hx hb dX1_clear_53 (by decide) (fun c => absurd c (by decide)) (fun _ => ?_)
  refine lv_aload_n hx hb dX1_clear_56 rfl (lv_at hl 2 rfl) ?_
  refine wc_get hC hin1 hK hP 2 (by decide) rfl (by decide +kernel) (dget_2 _ _ _ _) dX1_clear_57 ?_
  refine lv_iload_n hx hb dX1_clear_60 rfl (lv_at hl 0 rfl) ?_
  refine lv_null hx hb dX1_clear_61 ?_
  refine wc_astPN hC hK hP hD hS (show vp_in 4 16 by unfold vp_in; decide) dX1_clear_62 (fun H locs hP hD hS => ?_)
  refine lv_iinc (v := 5) (lv' := [(2, .int 5), (1, .int (qI S 3)), (0, .ref x)]) hx hb dX1_clear_63 hl (k := 0) rfl (by decide) (by decide) rfl (fun ls hl => ?_)
  refine lv_goto (tgt := 50) hx hb dX1_clear_66 (by decide) ?_
  refine lv_iload_n hx hb dX1_clear_50 rfl (lv_at hl 0 rfl) ?_
  refine lv_bipush (v := 16) hx hb dX1_clear_51 (by decide) ?_
  refine lv_icmp_ge (tgt := 69) hx hb dX1_clear_53 (by decide) (fun c => absurd c (by decide)) (fun _ => ?_)
  refine lv_aload_n hx hb dX1_clear_56 rfl (lv_at hl 2 rfl) ?_
  refine wc_get hC hin1 hK hP 2 (by decide) rfl (by decide +kernel) (dget_2 _ _ _ _) dX1_clear_57 ?_
  refine lv_iload_n hx hb dX1_clear_60 rfl (lv_at hl 0 rfl) ?_
  refine lv_null hx hb dX1_clear_61 ?_
  refine wc_astPN hC hK hP hD hS (show vp_in 5 16 by unfold vp_in; decide) dX1_clear_62 (fun H locs hP hD hS => ?_)
  refine lv_iinc (v := 6) (lv' := [(2, .int 6), (1, .int (qI S 3)), (0, .ref x)]) hx hb dX1_clear_63 hl (k := 0) rfl (by decide) (by decide) rfl (fun ls hl => ?_)
  refine lv_goto (tgt := 50) hx hb dX1_clear_66 (by decide) ?_
  refine lv_iload_n hx hb dX1_clear_50 rfl (lv_at hl 0 rfl) ?_
  refine lv_bipush (v := 16) hx hb dX1_clear_51 (by decide) ?_
  refine lv_icmp_ge (tgt := 69) hx hb dX1_clear_53 (by decide) (fun c => absurd c (by decide)) (fun _ => ?_)
  refine lv_aload_n hx hb dX1_clear_56 rfl (lv_at hl 2 rfl) ?_
  refine wc_get hC hin1 hK hP 2 (by decide) rfl (by decide +kernel) (dget_2 _ _ _ _) dX1_clear_57 ?_
  refine lv_iload_n hx hb dX1_clear_60 rfl (lv_at hl 0 rfl) ?_
  refine lv_null hx hb dX1_clear_61 ?_
  refine wc_astPN hC hK hP hD hS (show vp_in 6 16 by unfold vp_in; decide) dX1_clear_62 (fun H locs hP hD hS => ?_)
  refine lv_iinc (v := 7) (lv' := [(2, .int 7), (1, .int (qI S 3)), (0, .ref x)]) hx hb dX1_clear_63 hl (k := 0) rfl (by decide) (by decide) rfl (fun ls hl => ?_)
  refine lv_goto (tgt := 50) hx hb dX1_clear_66 (by decide) ?_
  refine lv_iload_n hx hb dX1_clear_50 rfl (lv_at hl 0 rfl) ?_
  refine lv_bipush (v := 16) hx hb dX1_clear_51 (by decide) ?_
  refine lv_icmp_ge (tgt := 69) hx hb dX1_clear_53 (by decide) (fun c => absurd c (by decide)) (fun _ => ?_)
  refine lv_aload_n hx hb dX1_clear_56 rfl (lv_at hl 2 rfl) ?_
  refine wc_get hC hin1 hK hP 2 (by decide) rfl (by decide +kernel) (dget_2 _ _ _ _) dX1_clear_57 ?_
  refine lv_iload_n hx hb dX1_clear_60 rfl (lv_at hl 0 rfl) ?_
  refine lv_null hx hb dX1_clear_61 ?_
  refine wc_astPN hC hK hP hD hS (show vp_in 7 16 by unfold vp_in; decide) dX1_clear_62 (fun H locs hP hD hS => ?_)
  refine lv_iinc (v := 8) (lv' := [(2, .int 8), (1, .int (qI S 3)), (0, .ref x)]) hx hb dX1_clear_63 hl (k := 0) rfl (by decide) (by decide) rfl (fun ls hl => ?_)
  refine lv_goto (tgt := 50) hx hb dX1_clear_66 (by decide) ?_
  refine lv_iload_n hx hb dX1_clear_50 rfl (lv_at hl 0 rfl) ?_
  refine lv_bipush (v := 16) hx hb dX1_clear_51 (by decide) ?_
  refine lv_icmp_ge (tgt := 69) hx hb dX1_clear_53 (by decide) (fun c => absurd c (by decide)) (fun _ => ?_)
  refine lv_aload_n hx hb dX1_clear_56 rfl (lv_at hl 2 rfl) ?_
  refine wc_get hC hin1 hK hP 2 (by decide) rfl (by decide +kernel) (dget_2 _ _ _ _) dX1_clear_57 ?_
  refine lv_iload_n hx hb dX1_clear_60 rfl (lv_at hl 0 rfl) ?_
  refine lv_null hx hb dX1_clear_61 ?_
  refine wc_astPN hC hK hP hD hS (show vp_in 8 16 by unfold vp_in; decide) dX1_clear_62 (fun H locs hP hD hS => ?_)
  refine lv_iinc (v := 9) (lv' := [(2, .int 9), (1, .int (qI S 3)), (0, .ref x)]) hx hb dX1_clear_63 hl (k := 0) rfl (by decide) (by decide) rfl (fun ls hl => ?_)
  refine lv_goto (tgt := 50) hx hb dX1_clear_66 (by decide) ?_
  refine lv_iload_n hx hb dX1_clear_50 rfl (lv_at hl 0 rfl) ?_
  refine lv_bipush (v := 16) hx hb dX1_clear_51 (by decide) ?_
  refine lv_icmp_ge (tgt := 69) hx hb dX1_clear_53 (by decide) (fun c => absurd c (by decide)) (fun _ => ?_)
  refine lv_aload_n hx hb dX1_clear_56 rfl (lv_at hl 2 rfl) ?_
  refine wc_get hC hin1 hK hP 2 (by decide) rfl (by decide +kernel) (dget_2 _ _ _ _) dX1_clear_57 ?_
  refine lv_iload_n hx hb dX1_clear_60 rfl (lv_at hl 0 rfl) ?_
  refine lv_null hx hb dX1_clear_61 ?_
  refine wc_astPN hC hK hP hD hS (show vp_in 9 16 by unfold vp_in; decide) dX1_clear_62 (fun H locs hP hD hS => ?_)
  refine lv_iinc (v := 10) (lv' := [(2, .int 10), (1, .int (qI S 3)), (0, .ref x)]) hx hb dX1_clear_63 hl (k := 0) rfl (by decide) (by decide) rfl (fun ls hl => ?_)
  refine lv_goto (tgt := 50) hx hb dX1_clear_66 (by decide) ?_
  refine lv_iload_n hx hb dX1_clear_50 rfl (lv_at hl 0 rfl) ?_
  refine lv_bipush (v := 16) hx hb dX1_clear_51 (by decide) ?_
  refine lv_icmp_ge (tgt := 69) hx hb dX1_clear_53 (by decide) (fun c => absurd c (by decide)) (fun _ => ?_)
  refine lv_aload_n hx hb dX1_clear_56 rfl (lv_at hl 2 rfl) ?_
  refine wc_get hC hin1 hK hP 2 (by decide) rfl (by decide +kernel) (dget_2 _ _ _ _) dX1_clear_57 ?_
  refine lv_iload_n hx hb dX1_clear_60 rfl (lv_at hl 0 rfl) ?_
  refine lv_null hx hb dX1_clear_61 ?_
  refine wc_astPN hC hK hP hD hS (show vp_in 10 16 by unfold vp_in; decide) dX1_clear_62 (fun H locs hP hD hS => ?_)
  refine lv_iinc (v := 11) (lv' := [(2, .int 11), (1, .int (qI S 3)), (0, .ref x)]) hx hb dX1_clear_63 hl (k := 0) rfl (by decide) (by decide) rfl (fun ls hl => ?_)
  refine lv_goto (tgt := 50) hx hb dX1_clear_66 (by decide) ?_
  refine lv_iload_n hx hb dX1_clear_50 rfl (lv_at hl 0 rfl) ?_
  refine lv_bipush (v := 16) hx hb dX1_clear_51 (by decide) ?_
  refine lv_icmp_ge (tgt := 69) hx hb dX1_clear_53 (by decide) (fun c => absurd c (by decide)) (fun _ => ?_)
  refine lv_aload_n hx hb dX1_clear_56 rfl (lv_at hl 2 rfl) ?_
  refine wc_get hC hin1 hK hP 2 (by decide) rfl (by decide +kernel) (dget_2 _ _ _ _) dX1_clear_57 ?_
  refine lv_iload_n hx hb dX1_clear_60 rfl (lv_at hl 0 rfl) ?_
  refine lv_null hx hb dX1_clear_61 ?_
  refine wc_astPN hC hK hP hD hS (show vp_in 11 16 by unfold vp_in; decide) dX1_clear_62 (fun H locs hP hD hS => ?_)
  refine lv_iinc (v := 12) (lv' := [(2, .int 12), (1, .int (qI S 3)), (0, .ref x)]) hx hb dX1_clear_63 hl (k := 0) rfl (by decide) (by decide) rfl (fun ls hl => ?_)
  refine lv_goto (tgt := 50) hx hb dX1_clear_66 (by decide) ?_
  refine lv_iload_n hx hb dX1_clear_50 rfl (lv_at hl 0 rfl) ?_
  refine lv_bipush (v := 16) hx hb dX1_clear_51 (by decide) ?_
  refine lv_icmp_ge (tgt := 69) hx hb dX1_clear_53 (by decide) (fun c => absurd c (by decide)) (fun _ => ?_)
  refine lv_aload_n hx hb dX1_clear_56 rfl (lv_at hl 2 rfl) ?_
  refine wc_get hC hin1 hK hP 2 (by decide) rfl (by decide +kernel) (dget_2 _ _ _ _) dX1_clear_57 ?_
  refine lv_iload_n hx hb dX1_clear_60 rfl (lv_at hl 0 rfl) ?_
  refine lv_null hx hb dX1_clear_61 ?_
  refine wc_astPN hC hK hP hD hS (show vp_in 12 16 by unfold vp_in; decide) dX1_clear_62 (fun H locs hP hD hS => ?_)
  refine lv_iinc (v := 13) (lv' := [(2, .int 13), (1, .int (qI S 3)), (0, .ref x)]) hx hb dX1_clear_63 hl (k := 0) rfl (by decide) (by decide) rfl (fun ls hl => ?_)
  refine lv_goto (tgt := 50) hx hb dX1_clear_66 (by decide) ?_
  refine lv_iload_n hx hb dX1_clear_50 rfl (lv_at hl 0 rfl) ?_
  refine lv_bipush (v := 16) hx hb dX1_clear_51 (by decide) ?_
  refine lv_icmp_ge (tgt := 69) hx hb dX1_clear_53 (by decide) (fun c => absurd c (by decide)) (fun _ => ?_)
  refine lv_aload_n hx hb dX1_clear_56 rfl (lv_at hl 2 rfl) ?_
  refine wc_get hC hin1 hK hP 2 (by decide) rfl (by decide +kernel) (dget_2 _ _ _ _) dX1_clear_57 ?_
  refine lv_iload_n hx hb dX1_clear_60 rfl (lv_at hl 0 rfl) ?_
  refine lv_null hx hb dX1_clear_61 ?_
  refine wc_astPN hC hK hP hD hS (show vp_in 13 16 by unfold vp_in; decide) dX1_clear_62 (fun H locs hP hD hS => ?_)
  refine lv_iinc (v := 14) (lv' := [(2, .int 14), (1, .int (qI S 3)), (0, .ref x)]) hx hb dX1_clear_63 hl (k := 0) rfl (by decide) (by decide) rfl (fun ls hl => ?_)
  refine lv_goto (tgt := 50) hx hb dX1_clear_66 (by decide) ?_
  refine lv_iload_n hx hb dX1_clear_50 rfl (lv_at hl 0 rfl) ?_
  refine lv_bipush (v := 16) hx hb dX1_clear_51 (by decide) ?_
  refine lv_icmp_ge (tgt := 69) hx hb dX1_clear_53 (by decide) (fun c => absurd c (by decide)) (fun _ => ?_)
  refine lv_aload_n hx hb dX1_clear_56 rfl (lv_at hl 2 rfl) ?_
  refine wc_get hC hin1 hK hP 2 (by decide) rfl (by decide +kernel) (dget_2 _ _ _ _) dX1_clear_57 ?_
  refine lv_iload_n hx hb dX1_clear_60 rfl (lv_at hl 0 rfl) ?_
  refine lv_null hx hb dX1_clear_61 ?_
  refine wc_astPN hC hK hP hD hS (show vp_in 14 16 by unfold vp_in; decide) dX1_clear_62 (fun H locs hP hD hS => ?_)
  refine lv_iinc (v := 15) (lv' := [(2, .int 15), (1, .int (qI S 3)), (0, .ref x)]) hx hb dX1_clear_63 hl (k := 0) rfl (by decide) (by decide) rfl (fun ls hl => ?_)
  refine lv_goto (tgt := 50) hx hb dX1_clear_66 (by decide) ?_
  refine lv_iload_n hx hb dX1_clear_50 rfl (lv_at hl 0 rfl) ?_
  refine lv_bipush (v := 16) hx hb dX1_clear_51 (by decide) ?_
  refine lv_icmp_ge (tgt := 69) hx hb dX1_clear_53 (by decide) (fun c => absurd c (by decide)) (fun _ => ?_)
  refine lv_aload_n hx hb dX1_clear_56 rfl (lv_at hl 2 rfl) ?_
  refine wc_get hC hin1 hK hP 2 (by decide) rfl (by decide +kernel) (dget_2 _ _ _ _) dX1_clear_57 ?_
  refine lv_iload_n hx hb dX1_clear_60 rfl (lv_at hl 0 rfl) ?_
  refine lv_null hx hb dX1_clear_61 ?_
  refine wc_astPN hC hK hP hD hS (show vp_in 15 16 by unfold vp_in; decide) dX1_clear_62 (fun H locs hP hD hS => ?_)
  refine lv_iinc (v := 16) (lv' := [(2, .int 16), (1, .int (qI S 3)), (0, .ref x)]) hx hb dX1_clear_63 hl (k := 0) rfl (by decide) (by decide) rfl (fun ls hl => ?_)
  refine lv_goto (tgt := 50) hx hb dX1_clear_66 (by decide) ?_
  refine lv_iload_n hx hb dX1_clear_50 rfl (lv_at hl 0 rfl) ?_
  refine lv_bipush (v := 16) hx hb dX1_clear_51 (by decide) ?_
  refine lv_icmp_ge (tgt := 69) hx hb dX1_clear_53 (by decide) (fun _ => ?_) (fun c => absurd (by decide) c)
  refine lv_aload_n hx hb dX1_clear_69 rfl (lv_at hl 2 rfl) ?_
  refine lv_iconst (v := 0) hx hb dX1_clear_70 (by decide) ?_
  refine wc_putI hC hin1 hK hP hD hS 3 (by decide) rfl (by decide +kernel) rfl (by decide +kernel) (dset_3 _ _ _ _ _) dX1_clear_71 (fun H locs hP hD hS => ?_)
  refine lv_aload_n hx hb dX1_clear_74 rfl (lv_at hl 2 rfl) ?_
  refine lv_iconst (v := 0) hx hb dX1_clear_75 (by decide) ?_
  refine wc_putI hC hin1 hK hP hD hS 4 (by decide) rfl (by decide +kernel) rfl (by decide +kernel) (dset_4 _ _ _ _ _) dX1_clear_76 (fun H locs hP hD hS => ?_)
  refine lv_aload_n hx hb dX1_clear_79 rfl (lv_at hl 2 rfl) ?_
  refine lv_iconst (v := 0) hx hb dX1_clear_80 (by decide) ?_
  refine wc_putI hC hin1 hK hP hD hS 5 (by decide) rfl (by decide +kernel) rfl (by decide +kernel) (dset_5 _ _ _ _ _) dX1_clear_81 (fun H locs hP hD hS => ?_)
  refine lv_aload_n hx hb dX1_clear_84 rfl (lv_at hl 2 rfl) ?_
  refine lv_iconst (v := 0) hx hb dX1_clear_85 (by decide) ?_
  refine wc_putI hC hin1 hK hP hD hS 6 (by decide) rfl (by decide +kernel) rfl (by decide +kernel) (dset_6 _ _ _ _ _) dX1_clear_86 (fun H locs hP hD hS => ?_)
  refine lv_iload_n hx hb dX1_clear_89 rfl (lv_at hl 1 rfl) ?_
  exact wx_reti kst_C (csI (csI (csI (csI (csP (csP (csP (csP (csP (csP (csP (csP (csP (csP (csP (csP (csP (csP (csP (csP (csW (csNW (csW (csNW (csW (csNW (csW (csNW (csR (csR (csR (csR (csR (csR (csR (csR S ((0 : Int32).toNatClampNeg) 0) ((1 : Int32).toNatClampNeg) 0) ((2 : Int32).toNatClampNeg) 0) ((3 : Int32).toNatClampNeg) 0) ((4 : Int32).toNatClampNeg) 0) ((5 : Int32).toNatClampNeg) 0) ((6 : Int32).toNatClampNeg) 0) ((7 : Int32).toNatClampNeg) 0) q11 ((0 : Int32).toNatClampNeg)) ((0 : Int32).toNatClampNeg) (some q11)) q14 ((0 : Int32).toNatClampNeg)) ((1 : Int32).toNatClampNeg) (some q14)) q17 ((0 : Int32).toNatClampNeg)) ((2 : Int32).toNatClampNeg) (some q17)) q20 ((0 : Int32).toNatClampNeg)) ((3 : Int32).toNatClampNeg) (some q20)) ((0 : Int32).toNatClampNeg) none) ((1 : Int32).toNatClampNeg) none) ((2 : Int32).toNatClampNeg) none) ((3 : Int32).toNatClampNeg) none) ((4 : Int32).toNatClampNeg) none) ((5 : Int32).toNatClampNeg) none) ((6 : Int32).toNatClampNeg) none) ((7 : Int32).toNatClampNeg) none) ((8 : Int32).toNatClampNeg) none) ((9 : Int32).toNatClampNeg) none) ((10 : Int32).toNatClampNeg) none) ((11 : Int32).toNatClampNeg) none) ((12 : Int32).toNatClampNeg) none) ((13 : Int32).toNatClampNeg) none) ((14 : Int32).toNatClampNeg) none) ((15 : Int32).toNatClampNeg) none) 3 0) 4 0) 5 0) 6 0) hx hb hr hlk hK hP hD hS dX1_clear_90 (by unfold s_X1_clear; refine ⟨q11, hq11, ?_⟩; refine ⟨q14, hq14, ?_⟩; refine ⟨q17, hq17, ?_⟩; refine ⟨q20, hq20, ?_⟩; exact ⟨rfl, rfl⟩)
