def p_X2_in (a1 : Int32) (a2 : Int32) (a3 : Int32) : Int32 := if a1 < a2 then 0 else (if a3 < a1 then 0 else 1)
set_option maxHeartbeats 4000000 in
set_option maxRecDepth 100000 in
theorem c_X2_in (l : Launch) (a1 : Int32) (a2 : Int32) (a3 : Int32) : MetS l yX2_in wsX2_in ({ frames := 0, cells := 0, slots := 0, locals := 0 } : Room) [.int a1, .int a2, .int a3] (fun r => r = p_X2_in a1 a2 a3) := by
  refine MetS.of (cc := cX2_in) (maxL := 3) (ret := .boolean) (by decide) rfl (Nat.le_of_ble_eq_true rfl) ?_
  intro p e s m below meth c ls hC hr hlk hl
  obtain ⟨hx, hb, hml, hown, hts⟩ := id hC
  have hl : lv_has ls 3 [(0, .int a1), (1, .int a2), (2, .int a3)] := hl
  refine lv_iload_n hx hb dX2_in_0 rfl (lv_at hl 0 rfl) ?_
  refine lv_iload_n hx hb dX2_in_1 rfl (lv_at hl 1 rfl) ?_
  refine lv_icmp_lt (tgt := 14) hx hb dX2_in_2 (by decide) (fun c1 => ?_) (fun c1 => ?_)
  · skip
    refine lv_iconst (v := 0) hx hb dX2_in_14 (by decide) ?_
    exact wx_rets hx hb hr rfl hlk rfl dX2_in_15 (by unfold p_X2_in; rw [if_pos c1])
  · skip
    refine lv_iload_n hx hb dX2_in_5 rfl (lv_at hl 0 rfl) ?_
    refine lv_iload_n hx hb dX2_in_6 rfl (lv_at hl 2 rfl) ?_
    refine lv_icmp_gt (tgt := 14) hx hb dX2_in_7 (by decide) (fun c2 => ?_) (fun c2 => ?_)
    · skip
      refine lv_iconst (v := 0) hx hb dX2_in_14 (by decide) ?_
      exact wx_rets hx hb hr rfl hlk rfl dX2_in_15 (by unfold p_X2_in; rw [if_neg c1, if_pos c2])
    · skip
      refine lv_iconst (v := 1) hx hb dX2_in_10 (by decide) ?_
      refine lv_goto (tgt := 15) hx hb dX2_in_11 (by decide) ?_
      exact wx_rets hx hb hr rfl hlk rfl dX2_in_15 (by unfold p_X2_in; rw [if_neg c1, if_neg c2])
theorem b_X2_in (a1 : Int32) (a2 : Int32) (a3 : Int32) : p_X2_in a1 a2 a3 = 0 ∨ p_X2_in a1 a2 a3 = 1 := by unfold p_X2_in; (repeat' split) <;> simp
def p_X2_isPlace (a1 : Int32) : Int32 := p_X2_in a1 0 15
set_option maxHeartbeats 4000000 in
set_option maxRecDepth 100000 in
theorem c_X2_isPlace (l : Launch) (a1 : Int32) : MetS l yX2_isPlace wsX2_isPlace ({ frames := 1, cells := 0, slots := 0, locals := 22 } : Room) [.int a1] (fun r => r = p_X2_isPlace a1) := by
  refine MetS.of (cc := cX2_isPlace) (maxL := 1) (ret := .boolean) (by decide) rfl (Nat.le_of_ble_eq_true rfl) ?_
  intro p e s m below meth c ls hC hr hlk hl
  obtain ⟨hx, hb, hml, hown, hts⟩ := id hC
  have hl : lv_has ls 1 [(0, .int a1)] := hl
  refine lv_iload_n hx hb dX2_isPlace_0 rfl (lv_at hl 0 rfl) ?_
  refine lv_iconst (v := 0) hx hb dX2_isPlace_1 (by decide) ?_
  refine lv_bipush (v := 15) hx hb dX2_isPlace_2 (by decide) ?_
  refine wx_callS (As := [.int a1, .int 0, .int 15]) (rest := []) hC (c_X2_in l a1 0 15) (va_cwS 3 hts gX2_isPlace_X2_in rfl rfl rfl (by decide +kernel) ⟨Nat.le_of_ble_eq_true rfl, Nat.le_of_ble_eq_true rfl⟩) rfl hl.1 rfl (Nat.le_of_ble_eq_true rfl) dX2_isPlace_4 ⟨Nat.le_of_ble_eq_true rfl, Nat.le_of_ble_eq_true rfl⟩ (fun r1 hw => ?_)
  obtain rfl : r1 = p_X2_in a1 0 15 := hw
  exact wx_rets hx hb hr (nb_of (b_X2_in _ _ _)) hlk rfl dX2_isPlace_7 (by unfold p_X2_isPlace; rfl)
theorem b_X2_isPlace (a1 : Int32) : p_X2_isPlace a1 = 0 ∨ p_X2_isPlace a1 = 1 := b_X2_in _ _ _
def p_X2_asWanted (a1 : Int32) : Int32 := if (p_X2_isPlace a1) = 0 then (-1) else a1
set_option maxHeartbeats 4000000 in
set_option maxRecDepth 100000 in
theorem c_X2_asWanted (l : Launch) (a1 : Int32) : MetS l yX2_asWanted wsX2_asWanted ({ frames := 2, cells := 0, slots := 0, locals := 42 } : Room) [.int a1] (fun r => r = p_X2_asWanted a1) := by
  refine MetS.of (cc := cX2_asWanted) (maxL := 1) (ret := .int) (by decide) rfl (Nat.le_of_ble_eq_true rfl) ?_
  intro p e s m below meth c ls hC hr hlk hl
  obtain ⟨hx, hb, hml, hown, hts⟩ := id hC
  have hl : lv_has ls 1 [(0, .int a1)] := hl
  refine lv_iload_n hx hb dX2_asWanted_0 rfl (lv_at hl 0 rfl) ?_
  refine wx_callS (As := [.int a1]) (rest := []) hC (c_X2_isPlace l a1) (va_cwS 1 hts gX2_asWanted_X2_isPlace rfl rfl rfl (by decide +kernel) ⟨Nat.le_of_ble_eq_true rfl, Nat.le_of_ble_eq_true rfl⟩) rfl hl.1 rfl (Nat.le_of_ble_eq_true rfl) dX2_asWanted_1 ⟨Nat.le_of_ble_eq_true rfl, Nat.le_of_ble_eq_true rfl⟩ (fun r1 hw => ?_)
  obtain rfl : r1 = p_X2_isPlace a1 := hw
  refine lv_if_eq (tgt := 11) hx hb dX2_asWanted_4 (by decide) (fun c2 => ?_) (fun c2 => ?_)
  · skip
    refine lv_iconst (v := (-1)) hx hb dX2_asWanted_11 (by decide) ?_
    exact wx_rets hx hb hr rfl hlk rfl dX2_asWanted_12 (by unfold p_X2_asWanted; rw [if_pos c2])
  · skip
    refine lv_iload_n hx hb dX2_asWanted_7 rfl (lv_at hl 0 rfl) ?_
    refine lv_goto (tgt := 12) hx hb dX2_asWanted_8 (by decide) ?_
    exact wx_rets hx hb hr rfl hlk rfl dX2_asWanted_12 (by unfold p_X2_asWanted; rw [if_neg c2])
def p_X2_rate (S : MS) (a1 : Int32) (a2 : Int32) : Int32 × MS := if (p_X2_in a1 0 7) = 0 then ((-1), S) else (1, msA S 0 a1.toNatClampNeg a2)
def ok_X2_rate (S : MS) (a1 : Int32) (a2 : Int32) : Prop := ((p_X2_in a1 0 7) = 0 → True) ∧ (¬ (p_X2_in a1 0 7) = 0 → ((vp_in a1 8) ∧ (True)))
set_option maxHeartbeats 4000000 in
set_option maxRecDepth 100000 in
theorem c_X2_rate (l : Launch) (D : va_G) (h : Nat) (ad : Nat → Nat) (cI cJ cZ : ClassId) (S : MS) (a1 : Int32) (a2 : Int32) (hok : ok_X2_rate S a1 a2) : MetI l yX2_rate wsX2_rate ({ frames := 1, cells := 0, slots := 0, locals := 22 } : Room) D (va_K D vwCl (mTy cI cJ cZ)) (mW h ad cI cJ cZ) S [.ref h, .int a1, .int a2] (fun r u => (r, u) = p_X2_rate S a1 a2) 0 0 := by
  unfold ok_X2_rate at hok
  refine MetI.of (cc := cX2_rate) (maxL := 3) (by decide) rfl (Nat.le_of_ble_eq_true rfl) ?_
  intro p e s m below meth c A ls hC hr hlk hnm hK hP hD hA hl
  obtain ⟨hx, hb, hml, hown, hts⟩ := id hC
  have hS : va_S A s.heap s.heap [] := va_S.rf
  have hin : ∀ w ∈ wsX20, w ∈ wsX2_rate := fun _ h => List.mem_cons_of_mem _ (List.mem_append_right _ h)
  have hl : lv_has ls 3 [(0, .ref h), (1, .int a1), (2, .int a2)] := hl
  refine lv_iload_n hx hb dX2_rate_0 rfl (lv_at hl 1 rfl) ?_
  refine lv_iconst (v := 0) hx hb dX2_rate_1 (by decide) ?_
  refine lv_bipush (v := 7) hx hb dX2_rate_2 (by decide) ?_
  refine wx_callS (As := [.int a1, .int 0, .int 7]) (rest := []) hC (c_X2_in l a1 0 7) (va_cwS 3 hts gX2_rate_X2_in rfl rfl rfl (by decide +kernel) ⟨Nat.le_of_ble_eq_true rfl, Nat.le_of_ble_eq_true rfl⟩) rfl hl.1 rfl (Nat.le_of_ble_eq_true rfl) dX2_rate_4 ⟨Nat.le_of_ble_eq_true rfl, Nat.le_of_ble_eq_true rfl⟩ (fun r1 hw => ?_)
  obtain rfl : r1 = p_X2_in a1 0 7 := hw
  refine lv_if_ne (tgt := 12) hx hb dX2_rate_7 (by decide) (fun c2 => ?_) (fun c2 => ?_)
  · have hok := hok.2 c2
    refine lv_aload_n hx hb dX2_rate_12 rfl (lv_at hl 0 rfl) ?_
    refine wm_get hC hin hK hP 0 (by decide) rfl (by decide +kernel) (mget_0 _ _) dX2_rate_13 ?_
    refine lv_iload_n hx hb dX2_rate_16 rfl (lv_at hl 1 rfl) ?_
    refine lv_iload_n hx hb dX2_rate_17 rfl (lv_at hl 2 rfl) ?_
    obtain ⟨b3, hok⟩ := hok
    refine wm_iast hC hK hP hD hS 0 1 (marr_0 _ _ _ _ _ _) (mast_0 _ _ _ _ _ _ _ _) b3 dX2_rate_18 (fun H locs hP hD hS => ?_)
    refine lv_iconst (v := 1) hx hb dX2_rate_19 (by decide) ?_
    exact wx_reti kst_K (msA S 0 a1.toNatClampNeg a2) hx hb hr hlk hK hP hD hS dX2_rate_20 (by unfold p_X2_rate; rw [if_neg c2])
  · have hok := hok.1 c2
    refine lv_iconst (v := (-1)) hx hb dX2_rate_10 (by decide) ?_
    exact wx_reti kst_K S hx hb hr hlk hK hP hD hS dX2_rate_11 (by unfold p_X2_rate; rw [if_pos c2])
def p_X2_make (S : MS) (a1 : Int32) (a2 : Int32) (a3 : Int32) (a4 : Int32) (a5 : Int32) (a6 : Int64) : Int32 × MS := ((S.1 5) + 1, msI (msA (msA (msA (msJ (msA (msA (msA (msA S 6 ((S.1 5).toNatClampNeg) a2) 7 ((S.1 5).toNatClampNeg) a3) 8 ((S.1 5).toNatClampNeg) a4) 9 ((S.1 5).toNatClampNeg) a5) 10 ((S.1 5).toNatClampNeg) a6) 11 ((S.1 5).toNatClampNeg) 0) 12 ((S.1 5).toNatClampNeg) 0) 16 a1.toNatClampNeg ((S.1 5) + 1)) 5 ((S.1 5) + 1))
def ok_X2_make (S : MS) (a1 : Int32) (a2 : Int32) (a3 : Int32) (a4 : Int32) (a5 : Int32) (a6 : Int64) : Prop := (vp_in (S.1 5) 4200) ∧ ((vp_in (S.1 5) 4200) ∧ ((vp_in (S.1 5) 4200) ∧ ((vp_in (S.1 5) 4200) ∧ ((vp_in (S.1 5) 4200) ∧ ((vp_in (S.1 5) 4200) ∧ ((vp_in (S.1 5) 4200) ∧ ((vp_in a1 16) ∧ (True))))))))
set_option maxHeartbeats 4000000 in
set_option maxRecDepth 100000 in
theorem c_X2_make (l : Launch) (D : va_G) (h : Nat) (ad : Nat → Nat) (cI cJ cZ : ClassId) (S : MS) (a1 : Int32) (a2 : Int32) (a3 : Int32) (a4 : Int32) (a5 : Int32) (a6 : Int64) (hok : ok_X2_make S a1 a2 a3 a4 a5 a6) : MetI l yX2_make wsX2_make ({ frames := 0, cells := 0, slots := 0, locals := 0 } : Room) D (va_K D vwCl (mTy cI cJ cZ)) (mW h ad cI cJ cZ) S [.ref h, .int a1, .int a2, .int a3, .int a4, .int a5, .long a6] (fun r u => (r, u) = p_X2_make S a1 a2 a3 a4 a5 a6) 0 0 := by
  unfold ok_X2_make at hok
  refine MetI.of (cc := cX2_make) (maxL := 8) (by decide) rfl (Nat.le_of_ble_eq_true rfl) ?_
  intro p e s m below meth c A ls hC hr hlk hnm hK hP hD hA hl
  obtain ⟨hx, hb, hml, hown, hts⟩ := id hC
  have hS : va_S A s.heap s.heap [] := va_S.rf
  have hin : ∀ w ∈ wsX20, w ∈ wsX2_make := fun _ h => List.mem_cons_of_mem _ (List.mem_append_right _ h)
  have hl : lv_has ls 8 [(0, .ref h), (1, .int a1), (2, .int a2), (3, .int a3), (4, .int a4), (5, .int a5), (6, .long a6)] := hl
  refine lv_aload_n hx hb dX2_make_0 rfl (lv_at hl 0 rfl) ?_
  refine wm_get hC hin hK hP 6 (by decide) rfl (by decide +kernel) (mget_6 _ _) dX2_make_1 ?_
  refine lv_aload_n hx hb dX2_make_4 rfl (lv_at hl 0 rfl) ?_
  refine wm_get hC hin hK hP 5 (by decide) rfl (by decide +kernel) (mget_5 _ _) dX2_make_5 ?_
  refine lv_iload_n hx hb dX2_make_8 rfl (lv_at hl 2 rfl) ?_
  obtain ⟨b1, hok⟩ := hok
  refine wm_iast hC hK hP hD hS 6 5 (marr_6 _ _ _ _ _ _) (mast_6 _ _ _ _ _ _ _ _) b1 dX2_make_9 (fun H locs hP hD hS => ?_)
  refine lv_aload_n hx hb dX2_make_10 rfl (lv_at hl 0 rfl) ?_
  refine wm_get hC hin hK hP 7 (by decide) rfl (by decide +kernel) (mget_7 _ _) dX2_make_11 ?_
  refine lv_aload_n hx hb dX2_make_14 rfl (lv_at hl 0 rfl) ?_
  refine wm_get hC hin hK hP 5 (by decide) rfl (by decide +kernel) (mget_5 _ _) dX2_make_15 ?_
  refine lv_see (v2 := .int (S.1 5)) rfl ?_
  refine lv_iload_n hx hb dX2_make_18 rfl (lv_at hl 3 rfl) ?_
  obtain ⟨b2, hok⟩ := hok
  refine wm_iast hC hK hP hD hS 7 6 (marr_7 _ _ _ _ _ _) (mast_7 _ _ _ _ _ _ _ _) b2 dX2_make_19 (fun H locs hP hD hS => ?_)
  refine lv_aload_n hx hb dX2_make_20 rfl (lv_at hl 0 rfl) ?_
  refine wm_get hC hin hK hP 8 (by decide) rfl (by decide +kernel) (mget_8 _ _) dX2_make_21 ?_
  refine lv_aload_n hx hb dX2_make_24 rfl (lv_at hl 0 rfl) ?_
  refine wm_get hC hin hK hP 5 (by decide) rfl (by decide +kernel) (mget_5 _ _) dX2_make_25 ?_
  refine lv_see (v2 := .int (S.1 5)) rfl ?_
  refine lv_iload hx hb dX2_make_28 (lv_at hl 4 rfl) ?_
  obtain ⟨b3, hok⟩ := hok
  refine wm_iast hC hK hP hD hS 8 7 (marr_8 _ _ _ _ _ _) (mast_8 _ _ _ _ _ _ _ _) b3 dX2_make_30 (fun H locs hP hD hS => ?_)
  refine lv_aload_n hx hb dX2_make_31 rfl (lv_at hl 0 rfl) ?_
  refine wm_get hC hin hK hP 9 (by decide) rfl (by decide +kernel) (mget_9 _ _) dX2_make_32 ?_
  refine lv_aload_n hx hb dX2_make_35 rfl (lv_at hl 0 rfl) ?_
  refine wm_get hC hin hK hP 5 (by decide) rfl (by decide +kernel) (mget_5 _ _) dX2_make_36 ?_
  refine lv_see (v2 := .int (S.1 5)) rfl ?_
  refine lv_iload hx hb dX2_make_39 (lv_at hl 5 rfl) ?_
  obtain ⟨b4, hok⟩ := hok
  refine wm_iast hC hK hP hD hS 9 8 (marr_9 _ _ _ _ _ _) (mast_9 _ _ _ _ _ _ _ _) b4 dX2_make_41 (fun H locs hP hD hS => ?_)
  refine lv_aload_n hx hb dX2_make_42 rfl (lv_at hl 0 rfl) ?_
  refine wm_get hC hin hK hP 10 (by decide) rfl (by decide +kernel) (mget_10 _ _) dX2_make_43 ?_
  refine lv_aload_n hx hb dX2_make_46 rfl (lv_at hl 0 rfl) ?_
  refine wm_get hC hin hK hP 5 (by decide) rfl (by decide +kernel) (mget_5 _ _) dX2_make_47 ?_
  refine lv_see (v2 := .int (S.1 5)) rfl ?_
  refine lv_lload hx hb dX2_make_50 (lv_at hl 6 rfl) ?_
  obtain ⟨b5, hok⟩ := hok
  refine wm_last hC hK hP hD hS 10 9 (marr_10 _ _ _ _ _ _) (mast_10 _ _ _ _ _ _ _ _) b5 dX2_make_52 (fun H locs hP hD hS => ?_)
  refine lv_aload_n hx hb dX2_make_53 rfl (lv_at hl 0 rfl) ?_
  refine wm_get hC hin hK hP 11 (by decide) rfl (by decide +kernel) (mget_11 _ _) dX2_make_54 ?_
  refine lv_aload_n hx hb dX2_make_57 rfl (lv_at hl 0 rfl) ?_
  refine wm_get hC hin hK hP 5 (by decide) rfl (by decide +kernel) (mget_5 _ _) dX2_make_58 ?_
  refine lv_see (v2 := .int (S.1 5)) rfl ?_
  refine lv_iconst (v := 0) hx hb dX2_make_61 (by decide) ?_
  obtain ⟨b6, hok⟩ := hok
  refine wm_iast hC hK hP hD hS 11 10 (marr_11 _ _ _ _ _ _) (mast_11 _ _ _ _ _ _ _ _) b6 dX2_make_62 (fun H locs hP hD hS => ?_)
  refine lv_aload_n hx hb dX2_make_63 rfl (lv_at hl 0 rfl) ?_
  refine wm_get hC hin hK hP 12 (by decide) rfl (by decide +kernel) (mget_12 _ _) dX2_make_64 ?_
  refine lv_aload_n hx hb dX2_make_67 rfl (lv_at hl 0 rfl) ?_
  refine wm_get hC hin hK hP 5 (by decide) rfl (by decide +kernel) (mget_5 _ _) dX2_make_68 ?_
  refine lv_see (v2 := .int (S.1 5)) rfl ?_
  refine lv_iconst (v := 0) hx hb dX2_make_71 (by decide) ?_
  obtain ⟨b7, hok⟩ := hok
  refine wm_zast hC hK hP hD hS 12 11 (marr_12 _ _ _ _ _ _) (mast_12 _ _ _ _ _ _ _ _) rfl b7 dX2_make_72 (fun H locs hP hD hS => ?_)
  refine lv_aload_n hx hb dX2_make_73 rfl (lv_at hl 0 rfl) ?_
  refine wm_get hC hin hK hP 16 (by decide) rfl (by decide +kernel) (mget_16 _ _) dX2_make_74 ?_
  refine lv_iload_n hx hb dX2_make_77 rfl (lv_at hl 1 rfl) ?_
  refine lv_aload_n hx hb dX2_make_78 rfl (lv_at hl 0 rfl) ?_
  refine wm_get hC hin hK hP 5 (by decide) rfl (by decide +kernel) (mget_5 _ _) dX2_make_79 ?_
  refine lv_see (v2 := .int (S.1 5)) rfl ?_
  refine lv_iconst (v := 1) hx hb dX2_make_82 (by decide) ?_
  refine lv_iadd hx hb dX2_make_83 ?_
  obtain ⟨b8, hok⟩ := hok
  refine wm_iast hC hK hP hD hS 16 15 (marr_16 _ _ _ _ _ _) (mast_16 _ _ _ _ _ _ _ _) b8 dX2_make_84 (fun H locs hP hD hS => ?_)
  refine lv_aload_n hx hb dX2_make_85 rfl (lv_at hl 0 rfl) ?_
  refine lv_dup hx hb dX2_make_86 rfl ?_
  refine wm_get hC hin hK hP 5 (by decide) rfl (by decide +kernel) (mget_5 _ _) dX2_make_87 ?_
  refine lv_see (v2 := .int (S.1 5)) rfl ?_
  refine lv_iconst (v := 1) hx hb dX2_make_90 (by decide) ?_
  refine lv_iadd hx hb dX2_make_91 ?_
  refine wm_putI hC hin hK hP hD hS 5 (by decide) rfl (by decide +kernel) rfl (by decide +kernel) (mset_5 _ _ _) dX2_make_92 (fun H locs hP hD hS => ?_)
  refine lv_aload_n hx hb dX2_make_95 rfl (lv_at hl 0 rfl) ?_
  refine wm_get hC hin hK hP 5 (by decide) rfl (by decide +kernel) (mget_5 _ _) dX2_make_96 ?_
  refine lv_see (v2 := .int ((S.1 5) + 1)) rfl ?_
  exact wx_reti kst_K (msI (msA (msA (msA (msJ (msA (msA (msA (msA S 6 ((S.1 5).toNatClampNeg) a2) 7 ((S.1 5).toNatClampNeg) a3) 8 ((S.1 5).toNatClampNeg) a4) 9 ((S.1 5).toNatClampNeg) a5) 10 ((S.1 5).toNatClampNeg) a6) 11 ((S.1 5).toNatClampNeg) 0) 12 ((S.1 5).toNatClampNeg) 0) 16 a1.toNatClampNeg ((S.1 5) + 1)) 5 ((S.1 5) + 1)) hx hb hr hlk hK hP hD hS dX2_make_99 (by unfold p_X2_make; rfl)
def p_X2_at (S : MS) (a1 : Int32) : Int32 := (S.2.1 16 a1.toNatClampNeg) - 1
def ok_X2_at (S : MS) (a1 : Int32) : Prop := (vp_in a1 16) ∧ (True)
set_option maxHeartbeats 4000000 in
set_option maxRecDepth 100000 in
theorem c_X2_at (l : Launch) (D : va_G) (h : Nat) (ad : Nat → Nat) (cI cJ cZ : ClassId) (S : MS) (a1 : Int32) (hok : ok_X2_at S a1) : MetI l yX2_at wsX2_at ({ frames := 0, cells := 0, slots := 0, locals := 0 } : Room) D (va_K D vwCl (mTy cI cJ cZ)) (mW h ad cI cJ cZ) S [.ref h, .int a1] (fun r u => r = p_X2_at S a1 ∧ u = S) 0 0 := by
  unfold ok_X2_at at hok
  refine MetI.of (cc := cX2_at) (maxL := 2) (by decide) rfl (Nat.le_of_ble_eq_true rfl) ?_
  intro p e s m below meth c A ls hC hr hlk hnm hK hP hD hA hl
  obtain ⟨hx, hb, hml, hown, hts⟩ := id hC
  have hS : va_S A s.heap s.heap [] := va_S.rf
  have hin : ∀ w ∈ wsX20, w ∈ wsX2_at := fun _ h => List.mem_cons_of_mem _ (List.mem_append_right _ h)
  have hl : lv_has ls 2 [(0, .ref h), (1, .int a1)] := hl
  refine lv_aload_n hx hb dX2_at_0 rfl (lv_at hl 0 rfl) ?_
  refine wm_get hC hin hK hP 16 (by decide) rfl (by decide +kernel) (mget_16 _ _) dX2_at_1 ?_
  refine lv_iload_n hx hb dX2_at_4 rfl (lv_at hl 1 rfl) ?_
  obtain ⟨b1, hok⟩ := hok
  refine wm_iald hC hK hP 16 15 (marr_16 _ _ _ _ _ _) b1 dX2_at_5 ?_
  refine lv_iconst (v := 1) hx hb dX2_at_6 (by decide) ?_
  refine lv_isub hx hb dX2_at_7 ?_
  exact wx_reti kst_K S hx hb hr hlk hK hP hD hS dX2_at_8 ⟨(by unfold p_X2_at; rfl), rfl⟩
def p_X2_against (S : MS) (a1 : Int32) (a2 : Int32) (a3 : Int32) (a4 : Int32) : Int32 := if (p_X2_isPlace a1) = 0 then (-1) else (if (p_X2_isPlace a2) = 0 then (-1) else (if a3 = (-9) then (if a4 = (-9) then (if (p_X2_at S a2) < 0 then (-2) else 0) else (if (p_X2_isPlace a4) = 0 then (-1) else (if (p_X2_at S a2) < 0 then (-2) else (if 0 ≤ (p_X2_at S a4) then 0 else (-2))))) else (if (p_X2_isPlace a3) = 0 then (-1) else (if a4 = (-9) then (if (p_X2_at S a2) < 0 then (-2) else (if (p_X2_at S a3) < 0 then (-2) else 0)) else (if (p_X2_isPlace a4) = 0 then (-1) else (if (p_X2_at S a2) < 0 then (-2) else (if (p_X2_at S a3) < 0 then (-2) else (if 0 ≤ (p_X2_at S a4) then 0 else (-2)))))))))
def ok_X2_against (S : MS) (a1 : Int32) (a2 : Int32) (a3 : Int32) (a4 : Int32) : Prop := ((p_X2_isPlace a1) = 0 → True) ∧ (¬ (p_X2_isPlace a1) = 0 → (((p_X2_isPlace a2) = 0 → True) ∧ (¬ (p_X2_isPlace a2) = 0 → ((a3 = (-9) → ((a4 = (-9) → ((ok_X2_at S a2) ∧ (((p_X2_at S a2) < 0 → True) ∧ (¬ (p_X2_at S a2) < 0 → True)))) ∧ (¬ a4 = (-9) → (((p_X2_isPlace a4) = 0 → True) ∧ (¬ (p_X2_isPlace a4) = 0 → ((ok_X2_at S a2) ∧ (((p_X2_at S a2) < 0 → True) ∧ (¬ (p_X2_at S a2) < 0 → ((ok_X2_at S a4) ∧ ((0 ≤ (p_X2_at S a4) → True) ∧ (¬ 0 ≤ (p_X2_at S a4) → True))))))))))) ∧ (¬ a3 = (-9) → (((p_X2_isPlace a3) = 0 → True) ∧ (¬ (p_X2_isPlace a3) = 0 → ((a4 = (-9) → ((ok_X2_at S a2) ∧ (((p_X2_at S a2) < 0 → True) ∧ (¬ (p_X2_at S a2) < 0 → ((ok_X2_at S a3) ∧ (((p_X2_at S a3) < 0 → True) ∧ (¬ (p_X2_at S a3) < 0 → True))))))) ∧ (¬ a4 = (-9) → (((p_X2_isPlace a4) = 0 → True) ∧ (¬ (p_X2_isPlace a4) = 0 → ((ok_X2_at S a2) ∧ (((p_X2_at S a2) < 0 → True) ∧ (¬ (p_X2_at S a2) < 0 → ((ok_X2_at S a3) ∧ (((p_X2_at S a3) < 0 → True) ∧ (¬ (p_X2_at S a3) < 0 → ((ok_X2_at S a4) ∧ ((0 ≤ (p_X2_at S a4) → True) ∧ (¬ 0 ≤ (p_X2_at S a4) → True))))))))))))))))))))
set_option maxHeartbeats 4000000 in
set_option maxRecDepth 100000 in
theorem c_X2_against (l : Launch) (D : va_G) (h : Nat) (ad : Nat → Nat) (cI cJ cZ : ClassId) (S : MS) (a1 : Int32) (a2 : Int32) (a3 : Int32) (a4 : Int32) (hok : ok_X2_against S a1 a2 a3 a4) : MetI l yX2_against wsX2_against ({ frames := 2, cells := 0, slots := 0, locals := 42 } : Room) D (va_K D vwCl (mTy cI cJ cZ)) (mW h ad cI cJ cZ) S [.ref h, .int a1, .int a2, .int a3, .int a4] (fun r u => r = p_X2_against S a1 a2 a3 a4 ∧ u = S) 0 0 := by
  unfold ok_X2_against at hok
  refine MetI.of (cc := cX2_against) (maxL := 6) (by decide) rfl (Nat.le_of_ble_eq_true rfl) ?_
  intro p e s m below meth c A ls hC hr hlk hnm hK hP hD hA hl
  obtain ⟨hx, hb, hml, hown, hts⟩ := id hC
  have hS : va_S A s.heap s.heap [] := va_S.rf
  have hin : ∀ w ∈ wsX20, w ∈ wsX2_against := fun _ h => List.mem_cons_of_mem _ (List.mem_append_right _ h)
  have hl : lv_has ls 6 [(0, .ref h), (1, .int a1), (2, .int a2), (3, .int a3), (4, .int a4)] := hl
  refine lv_iload_n hx hb dX2_against_0 rfl (lv_at hl 1 rfl) ?_
  refine wx_callS (As := [.int a1]) (rest := []) hC (c_X2_isPlace l a1) (va_cwS 1 hts gX2_against_X2_isPlace rfl rfl rfl (by decide +kernel) ⟨Nat.le_of_ble_eq_true rfl, Nat.le_of_ble_eq_true rfl⟩) rfl hl.1 rfl (Nat.le_of_ble_eq_true rfl) dX2_against_1 ⟨Nat.le_of_ble_eq_true rfl, Nat.le_of_ble_eq_true rfl⟩ (fun r1 hw => ?_)
  obtain rfl : r1 = p_X2_isPlace a1 := hw
  refine lv_if_eq (tgt := 46) hx hb dX2_against_4 (by decide) (fun c2 => ?_) (fun c2 => ?_)
  · have hok := hok.1 c2
    refine lv_iconst (v := 0) hx hb dX2_against_46 (by decide) ?_
    refine lv_istore (lv' := [(5, .int 0), (0, .ref h), (1, .int a1), (2, .int a2), (3, .int a3), (4, .int a4)]) hx hb dX2_against_47 hl (by decide) rfl (fun ls hl => ?_)
    refine lv_iload hx hb dX2_against_49 (lv_at hl 0 rfl) ?_
    refine lv_if_ne (tgt := 56) hx hb dX2_against_51 (by decide) (fun c => absurd (by decide) c) (fun _ => ?_)
    refine lv_iconst (v := (-1)) hx hb dX2_against_54 (by decide) ?_
    exact wx_reti kst_K S hx hb hr hlk hK hP hD hS dX2_against_55 ⟨(by unfold p_X2_against; rw [if_pos c2]), rfl⟩
  · have hok := hok.2 c2
    refine lv_iload_n hx hb dX2_against_7 rfl (lv_at hl 2 rfl) ?_
    refine wx_callS (As := [.int a2]) (rest := []) hC (c_X2_isPlace l a2) (va_cwS 1 hts gX2_against_X2_isPlace rfl rfl rfl (by decide +kernel) ⟨Nat.le_of_ble_eq_true rfl, Nat.le_of_ble_eq_true rfl⟩) rfl hl.1 rfl (Nat.le_of_ble_eq_true rfl) dX2_against_8 ⟨Nat.le_of_ble_eq_true rfl, Nat.le_of_ble_eq_true rfl⟩ (fun r4 hw => ?_)
    obtain rfl : r4 = p_X2_isPlace a2 := hw
    refine lv_if_eq (tgt := 46) hx hb dX2_against_11 (by decide) (fun c5 => ?_) (fun c5 => ?_)
    · have hok := hok.1 c5
      refine lv_iconst (v := 0) hx hb dX2_against_46 (by decide) ?_
      refine lv_istore (lv' := [(5, .int 0), (0, .ref h), (1, .int a1), (2, .int a2), (3, .int a3), (4, .int a4)]) hx hb dX2_against_47 hl (by decide) rfl (fun ls hl => ?_)
      refine lv_iload hx hb dX2_against_49 (lv_at hl 0 rfl) ?_
      refine lv_if_ne (tgt := 56) hx hb dX2_against_51 (by decide) (fun c => absurd (by decide) c) (fun _ => ?_)
      refine lv_iconst (v := (-1)) hx hb dX2_against_54 (by decide) ?_
      exact wx_reti kst_K S hx hb hr hlk hK hP hD hS dX2_against_55 ⟨(by unfold p_X2_against; rw [if_neg c2, if_pos c5]), rfl⟩
    · have hok := hok.2 c5
      refine lv_iload_n hx hb dX2_against_14 rfl (lv_at hl 3 rfl) ?_
      refine lv_bipush (v := (-9)) hx hb dX2_against_15 (by decide) ?_
      refine lv_icmp_eq (tgt := 27) hx hb dX2_against_17 (by decide) (fun c7 => ?_) (fun c7 => ?_)
      · have hok := hok.1 c7
        refine lv_iload hx hb dX2_against_27 (lv_at hl 4 rfl) ?_
        refine lv_bipush (v := (-9)) hx hb dX2_against_29 (by decide) ?_
        refine lv_icmp_eq (tgt := 42) hx hb dX2_against_31 (by decide) (fun c8 => ?_) (fun c8 => ?_)
        · have hok := hok.1 c8
          refine lv_iconst (v := 1) hx hb dX2_against_42 (by decide) ?_
          refine lv_goto (tgt := 47) hx hb dX2_against_43 (by decide) ?_
          refine lv_istore (lv' := [(5, .int 1), (0, .ref h), (1, .int a1), (2, .int a2), (3, .int a3), (4, .int a4)]) hx hb dX2_against_47 hl (by decide) rfl (fun ls hl => ?_)
          refine lv_iload hx hb dX2_against_49 (lv_at hl 0 rfl) ?_
          refine lv_if_ne (tgt := 56) hx hb dX2_against_51 (by decide) (fun _ => ?_) (fun c => absurd c (by decide))
          refine lv_aload_n hx hb dX2_against_56 rfl (lv_at hl 1 rfl) ?_
          refine lv_iload_n hx hb dX2_against_57 rfl (lv_at hl 3 rfl) ?_
          obtain ⟨o10, hok⟩ := hok
          refine wx_callVi (As := [.int a2]) (rest := []) kst_K hC (c_X2_at l D h ad cI cJ cZ S a2 o10) (cwV 1 hts gX2_against_X2_at rfl rfl rfl (by decide +kernel) ⟨Nat.le_of_ble_eq_true rfl, Nat.le_of_ble_eq_true rfl⟩) hK hP hD hS hA (wm_cell hK hP) rfl hl.1 rfl (Nat.le_of_ble_eq_true rfl) dX2_against_58 ⟨Nat.le_of_ble_eq_true rfl, Nat.le_of_ble_eq_true rfl⟩ (fun r10 u10 H locs hw hP hD hS => ?_)
          obtain rfl : r10 = p_X2_at S a2 := hw.1
          obtain rfl : S = u10 := hw.2.symm
          refine lv_if_lt (tgt := 94) hx hb dX2_against_61 (by decide) (fun c11 => ?_) (fun c11 => ?_)
          · have hok := hok.1 c11
            refine lv_bipush (v := (-2)) hx hb dX2_against_94 (by decide) ?_
            refine lv_goto (tgt := 100) hx hb dX2_against_96 (by decide) ?_
            exact wx_reti kst_K S hx hb hr hlk hK hP hD hS dX2_against_100 ⟨(by unfold p_X2_against; rw [if_neg c2, if_neg c5, if_pos c7, if_pos c8, if_pos c11]), rfl⟩
          · have hok := hok.2 c11
            refine lv_iload_n hx hb dX2_against_64 rfl (lv_at hl 4 rfl) ?_
            refine lv_bipush (v := (-9)) hx hb dX2_against_65 (by decide) ?_
            refine lv_icmp_eq (tgt := 78) hx hb dX2_against_67 (by decide) (fun _ => ?_) (fun c => absurd c7 c)
            refine lv_iload hx hb dX2_against_78 (lv_at hl 5 rfl) ?_
            refine lv_bipush (v := (-9)) hx hb dX2_against_80 (by decide) ?_
            refine lv_icmp_eq (tgt := 99) hx hb dX2_against_82 (by decide) (fun _ => ?_) (fun c => absurd c8 c)
            refine lv_iconst (v := 0) hx hb dX2_against_99 (by decide) ?_
            exact wx_reti kst_K S hx hb hr hlk hK hP hD hS dX2_against_100 ⟨(by unfold p_X2_against; rw [if_neg c2, if_neg c5, if_pos c7, if_pos c8, if_neg c11]), rfl⟩
        · have hok := hok.2 c8
          refine lv_iload hx hb dX2_against_34 (lv_at hl 4 rfl) ?_
          refine wx_callS (As := [.int a4]) (rest := []) hC (c_X2_isPlace l a4) (va_cwS 1 hts gX2_against_X2_isPlace rfl rfl rfl (by decide +kernel) ⟨Nat.le_of_ble_eq_true rfl, Nat.le_of_ble_eq_true rfl⟩) rfl hl.1 rfl (Nat.le_of_ble_eq_true rfl) dX2_against_36 ⟨Nat.le_of_ble_eq_true rfl, Nat.le_of_ble_eq_true rfl⟩ (fun r14 hw => ?_)
          obtain rfl : r14 = p_X2_isPlace a4 := hw
          refine lv_if_eq (tgt := 46) hx hb dX2_against_39 (by decide) (fun c15 => ?_) (fun c15 => ?_)
          · have hok := hok.1 c15
            refine lv_iconst (v := 0) hx hb dX2_against_46 (by decide) ?_
            refine lv_istore (lv' := [(5, .int 0), (0, .ref h), (1, .int a1), (2, .int a2), (3, .int a3), (4, .int a4)]) hx hb dX2_against_47 hl (by decide) rfl (fun ls hl => ?_)
            refine lv_iload hx hb dX2_against_49 (lv_at hl 0 rfl) ?_
            refine lv_if_ne (tgt := 56) hx hb dX2_against_51 (by decide) (fun c => absurd (by decide) c) (fun _ => ?_)
            refine lv_iconst (v := (-1)) hx hb dX2_against_54 (by decide) ?_
            exact wx_reti kst_K S hx hb hr hlk hK hP hD hS dX2_against_55 ⟨(by unfold p_X2_against; rw [if_neg c2, if_neg c5, if_pos c7, if_neg c8, if_pos c15]), rfl⟩
          · have hok := hok.2 c15
            refine lv_iconst (v := 1) hx hb dX2_against_42 (by decide) ?_
            refine lv_goto (tgt := 47) hx hb dX2_against_43 (by decide) ?_
            refine lv_istore (lv' := [(5, .int 1), (0, .ref h), (1, .int a1), (2, .int a2), (3, .int a3), (4, .int a4)]) hx hb dX2_against_47 hl (by decide) rfl (fun ls hl => ?_)
            refine lv_iload hx hb dX2_against_49 (lv_at hl 0 rfl) ?_
            refine lv_if_ne (tgt := 56) hx hb dX2_against_51 (by decide) (fun _ => ?_) (fun c => absurd c (by decide))
            refine lv_aload_n hx hb dX2_against_56 rfl (lv_at hl 1 rfl) ?_
            refine lv_iload_n hx hb dX2_against_57 rfl (lv_at hl 3 rfl) ?_
            obtain ⟨o18, hok⟩ := hok
            refine wx_callVi (As := [.int a2]) (rest := []) kst_K hC (c_X2_at l D h ad cI cJ cZ S a2 o18) (cwV 1 hts gX2_against_X2_at rfl rfl rfl (by decide +kernel) ⟨Nat.le_of_ble_eq_true rfl, Nat.le_of_ble_eq_true rfl⟩) hK hP hD hS hA (wm_cell hK hP) rfl hl.1 rfl (Nat.le_of_ble_eq_true rfl) dX2_against_58 ⟨Nat.le_of_ble_eq_true rfl, Nat.le_of_ble_eq_true rfl⟩ (fun r18 u18 H locs hw hP hD hS => ?_)
            obtain rfl : r18 = p_X2_at S a2 := hw.1
            obtain rfl : S = u18 := hw.2.symm
            refine lv_if_lt (tgt := 94) hx hb dX2_against_61 (by decide) (fun c19 => ?_) (fun c19 => ?_)
            · have hok := hok.1 c19
              refine lv_bipush (v := (-2)) hx hb dX2_against_94 (by decide) ?_
              refine lv_goto (tgt := 100) hx hb dX2_against_96 (by decide) ?_
              exact wx_reti kst_K S hx hb hr hlk hK hP hD hS dX2_against_100 ⟨(by unfold p_X2_against; rw [if_neg c2, if_neg c5, if_pos c7, if_neg c8, if_neg c15, if_pos c19]), rfl⟩
            · have hok := hok.2 c19
              refine lv_iload_n hx hb dX2_against_64 rfl (lv_at hl 4 rfl) ?_
              refine lv_bipush (v := (-9)) hx hb dX2_against_65 (by decide) ?_
              refine lv_icmp_eq (tgt := 78) hx hb dX2_against_67 (by decide) (fun _ => ?_) (fun c => absurd c7 c)
              refine lv_iload hx hb dX2_against_78 (lv_at hl 5 rfl) ?_
              refine lv_bipush (v := (-9)) hx hb dX2_against_80 (by decide) ?_
              refine lv_icmp_eq (tgt := 99) hx hb dX2_against_82 (by decide) (fun c => absurd c c8) (fun _ => ?_)
              refine lv_aload_n hx hb dX2_against_85 rfl (lv_at hl 1 rfl) ?_
              refine lv_iload hx hb dX2_against_86 (lv_at hl 5 rfl) ?_
              obtain ⟨o22, hok⟩ := hok
              refine wx_callVi (As := [.int a4]) (rest := []) kst_K hC (c_X2_at l D h ad cI cJ cZ S a4 o22) (cwV 1 hts gX2_against_X2_at rfl rfl rfl (by decide +kernel) ⟨Nat.le_of_ble_eq_true rfl, Nat.le_of_ble_eq_true rfl⟩) hK hP hD hS hA (wm_cell hK hP) rfl hl.1 rfl (Nat.le_of_ble_eq_true rfl) dX2_against_88 ⟨Nat.le_of_ble_eq_true rfl, Nat.le_of_ble_eq_true rfl⟩ (fun r22 u22 H locs hw hP hD hS => ?_)
              obtain rfl : r22 = p_X2_at S a4 := hw.1
              obtain rfl : S = u22 := hw.2.symm
              refine lv_if_ge (tgt := 99) hx hb dX2_against_91 (by decide) (fun c23 => ?_) (fun c23 => ?_)
              · have hok := hok.1 c23
                refine lv_iconst (v := 0) hx hb dX2_against_99 (by decide) ?_
                exact wx_reti kst_K S hx hb hr hlk hK hP hD hS dX2_against_100 ⟨(by unfold p_X2_against; rw [if_neg c2, if_neg c5, if_pos c7, if_neg c8, if_neg c15, if_neg c19, if_pos c23]), rfl⟩
              · have hok := hok.2 c23
                refine lv_bipush (v := (-2)) hx hb dX2_against_94 (by decide) ?_
                refine lv_goto (tgt := 100) hx hb dX2_against_96 (by decide) ?_
                exact wx_reti kst_K S hx hb hr hlk hK hP hD hS dX2_against_100 ⟨(by unfold p_X2_against; rw [if_neg c2, if_neg c5, if_pos c7, if_neg c8, if_neg c15, if_neg c19, if_neg c23]), rfl⟩
      · have hok := hok.2 c7
        refine lv_iload_n hx hb dX2_against_20 rfl (lv_at hl 3 rfl) ?_
        refine wx_callS (As := [.int a3]) (rest := []) hC (c_X2_isPlace l a3) (va_cwS 1 hts gX2_against_X2_isPlace rfl rfl rfl (by decide +kernel) ⟨Nat.le_of_ble_eq_true rfl, Nat.le_of_ble_eq_true rfl⟩) rfl hl.1 rfl (Nat.le_of_ble_eq_true rfl) dX2_against_21 ⟨Nat.le_of_ble_eq_true rfl, Nat.le_of_ble_eq_true rfl⟩ (fun r24 hw => ?_)
        obtain rfl : r24 = p_X2_isPlace a3 := hw
        refine lv_if_eq (tgt := 46) hx hb dX2_against_24 (by decide) (fun c25 => ?_) (fun c25 => ?_)
        · have hok := hok.1 c25
          refine lv_iconst (v := 0) hx hb dX2_against_46 (by decide) ?_
          refine lv_istore (lv' := [(5, .int 0), (0, .ref h), (1, .int a1), (2, .int a2), (3, .int a3), (4, .int a4)]) hx hb dX2_against_47 hl (by decide) rfl (fun ls hl => ?_)
          refine lv_iload hx hb dX2_against_49 (lv_at hl 0 rfl) ?_
          refine lv_if_ne (tgt := 56) hx hb dX2_against_51 (by decide) (fun c => absurd (by decide) c) (fun _ => ?_)
          refine lv_iconst (v := (-1)) hx hb dX2_against_54 (by decide) ?_
          exact wx_reti kst_K S hx hb hr hlk hK hP hD hS dX2_against_55 ⟨(by unfold p_X2_against; rw [if_neg c2, if_neg c5, if_neg c7, if_pos c25]), rfl⟩
        · have hok := hok.2 c25
          refine lv_iload hx hb dX2_against_27 (lv_at hl 4 rfl) ?_
          refine lv_bipush (v := (-9)) hx hb dX2_against_29 (by decide) ?_
          refine lv_icmp_eq (tgt := 42) hx hb dX2_against_31 (by decide) (fun c27 => ?_) (fun c27 => ?_)
          · have hok := hok.1 c27
            refine lv_iconst (v := 1) hx hb dX2_against_42 (by decide) ?_
            refine lv_goto (tgt := 47) hx hb dX2_against_43 (by decide) ?_
            refine lv_istore (lv' := [(5, .int 1), (0, .ref h), (1, .int a1), (2, .int a2), (3, .int a3), (4, .int a4)]) hx hb dX2_against_47 hl (by decide) rfl (fun ls hl => ?_)
            refine lv_iload hx hb dX2_against_49 (lv_at hl 0 rfl) ?_
            refine lv_if_ne (tgt := 56) hx hb dX2_against_51 (by decide) (fun _ => ?_) (fun c => absurd c (by decide))
            refine lv_aload_n hx hb dX2_against_56 rfl (lv_at hl 1 rfl) ?_
            refine lv_iload_n hx hb dX2_against_57 rfl (lv_at hl 3 rfl) ?_
            obtain ⟨o29, hok⟩ := hok
            refine wx_callVi (As := [.int a2]) (rest := []) kst_K hC (c_X2_at l D h ad cI cJ cZ S a2 o29) (cwV 1 hts gX2_against_X2_at rfl rfl rfl (by decide +kernel) ⟨Nat.le_of_ble_eq_true rfl, Nat.le_of_ble_eq_true rfl⟩) hK hP hD hS hA (wm_cell hK hP) rfl hl.1 rfl (Nat.le_of_ble_eq_true rfl) dX2_against_58 ⟨Nat.le_of_ble_eq_true rfl, Nat.le_of_ble_eq_true rfl⟩ (fun r29 u29 H locs hw hP hD hS => ?_)
            obtain rfl : r29 = p_X2_at S a2 := hw.1
            obtain rfl : S = u29 := hw.2.symm
            refine lv_if_lt (tgt := 94) hx hb dX2_against_61 (by decide) (fun c30 => ?_) (fun c30 => ?_)
            · have hok := hok.1 c30
              refine lv_bipush (v := (-2)) hx hb dX2_against_94 (by decide) ?_
              refine lv_goto (tgt := 100) hx hb dX2_against_96 (by decide) ?_
              exact wx_reti kst_K S hx hb hr hlk hK hP hD hS dX2_against_100 ⟨(by unfold p_X2_against; rw [if_neg c2, if_neg c5, if_neg c7, if_neg c25, if_pos c27, if_pos c30]), rfl⟩
            · have hok := hok.2 c30
              refine lv_iload_n hx hb dX2_against_64 rfl (lv_at hl 4 rfl) ?_
              refine lv_bipush (v := (-9)) hx hb dX2_against_65 (by decide) ?_
              refine lv_icmp_eq (tgt := 78) hx hb dX2_against_67 (by decide) (fun c => absurd c c7) (fun _ => ?_)
              refine lv_aload_n hx hb dX2_against_70 rfl (lv_at hl 1 rfl) ?_
              refine lv_iload_n hx hb dX2_against_71 rfl (lv_at hl 4 rfl) ?_
              obtain ⟨o32, hok⟩ := hok
              refine wx_callVi (As := [.int a3]) (rest := []) kst_K hC (c_X2_at l D h ad cI cJ cZ S a3 o32) (cwV 1 hts gX2_against_X2_at rfl rfl rfl (by decide +kernel) ⟨Nat.le_of_ble_eq_true rfl, Nat.le_of_ble_eq_true rfl⟩) hK hP hD hS hA (wm_cell hK hP) rfl hl.1 rfl (Nat.le_of_ble_eq_true rfl) dX2_against_72 ⟨Nat.le_of_ble_eq_true rfl, Nat.le_of_ble_eq_true rfl⟩ (fun r32 u32 H locs hw hP hD hS => ?_)
              obtain rfl : r32 = p_X2_at S a3 := hw.1
              obtain rfl : S = u32 := hw.2.symm
              refine lv_if_lt (tgt := 94) hx hb dX2_against_75 (by decide) (fun c33 => ?_) (fun c33 => ?_)
              · have hok := hok.1 c33
                refine lv_bipush (v := (-2)) hx hb dX2_against_94 (by decide) ?_
                refine lv_goto (tgt := 100) hx hb dX2_against_96 (by decide) ?_
                exact wx_reti kst_K S hx hb hr hlk hK hP hD hS dX2_against_100 ⟨(by unfold p_X2_against; rw [if_neg c2, if_neg c5, if_neg c7, if_neg c25, if_pos c27, if_neg c30, if_pos c33]), rfl⟩
              · have hok := hok.2 c33
                refine lv_iload hx hb dX2_against_78 (lv_at hl 5 rfl) ?_
                refine lv_bipush (v := (-9)) hx hb dX2_against_80 (by decide) ?_
                refine lv_icmp_eq (tgt := 99) hx hb dX2_against_82 (by decide) (fun _ => ?_) (fun c => absurd c27 c)
                refine lv_iconst (v := 0) hx hb dX2_against_99 (by decide) ?_
                exact wx_reti kst_K S hx hb hr hlk hK hP hD hS dX2_against_100 ⟨(by unfold p_X2_against; rw [if_neg c2, if_neg c5, if_neg c7, if_neg c25, if_pos c27, if_neg c30, if_neg c33]), rfl⟩
          · have hok := hok.2 c27
            refine lv_iload hx hb dX2_against_34 (lv_at hl 4 rfl) ?_
            refine wx_callS (As := [.int a4]) (rest := []) hC (c_X2_isPlace l a4) (va_cwS 1 hts gX2_against_X2_isPlace rfl rfl rfl (by decide +kernel) ⟨Nat.le_of_ble_eq_true rfl, Nat.le_of_ble_eq_true rfl⟩) rfl hl.1 rfl (Nat.le_of_ble_eq_true rfl) dX2_against_36 ⟨Nat.le_of_ble_eq_true rfl, Nat.le_of_ble_eq_true rfl⟩ (fun r35 hw => ?_)
            obtain rfl : r35 = p_X2_isPlace a4 := hw
            refine lv_if_eq (tgt := 46) hx hb dX2_against_39 (by decide) (fun c36 => ?_) (fun c36 => ?_)
            · have hok := hok.1 c36
              refine lv_iconst (v := 0) hx hb dX2_against_46 (by decide) ?_
              refine lv_istore (lv' := [(5, .int 0), (0, .ref h), (1, .int a1), (2, .int a2), (3, .int a3), (4, .int a4)]) hx hb dX2_against_47 hl (by decide) rfl (fun ls hl => ?_)
              refine lv_iload hx hb dX2_against_49 (lv_at hl 0 rfl) ?_
              refine lv_if_ne (tgt := 56) hx hb dX2_against_51 (by decide) (fun c => absurd (by decide) c) (fun _ => ?_)
              refine lv_iconst (v := (-1)) hx hb dX2_against_54 (by decide) ?_
              exact wx_reti kst_K S hx hb hr hlk hK hP hD hS dX2_against_55 ⟨(by unfold p_X2_against; rw [if_neg c2, if_neg c5, if_neg c7, if_neg c25, if_neg c27, if_pos c36]), rfl⟩
            · have hok := hok.2 c36
              refine lv_iconst (v := 1) hx hb dX2_against_42 (by decide) ?_
              refine lv_goto (tgt := 47) hx hb dX2_against_43 (by decide) ?_
              refine lv_istore (lv' := [(5, .int 1), (0, .ref h), (1, .int a1), (2, .int a2), (3, .int a3), (4, .int a4)]) hx hb dX2_against_47 hl (by decide) rfl (fun ls hl => ?_)
              refine lv_iload hx hb dX2_against_49 (lv_at hl 0 rfl) ?_
              refine lv_if_ne (tgt := 56) hx hb dX2_against_51 (by decide) (fun _ => ?_) (fun c => absurd c (by decide))
              refine lv_aload_n hx hb dX2_against_56 rfl (lv_at hl 1 rfl) ?_
              refine lv_iload_n hx hb dX2_against_57 rfl (lv_at hl 3 rfl) ?_
              obtain ⟨o39, hok⟩ := hok
              refine wx_callVi (As := [.int a2]) (rest := []) kst_K hC (c_X2_at l D h ad cI cJ cZ S a2 o39) (cwV 1 hts gX2_against_X2_at rfl rfl rfl (by decide +kernel) ⟨Nat.le_of_ble_eq_true rfl, Nat.le_of_ble_eq_true rfl⟩) hK hP hD hS hA (wm_cell hK hP) rfl hl.1 rfl (Nat.le_of_ble_eq_true rfl) dX2_against_58 ⟨Nat.le_of_ble_eq_true rfl, Nat.le_of_ble_eq_true rfl⟩ (fun r39 u39 H locs hw hP hD hS => ?_)
              obtain rfl : r39 = p_X2_at S a2 := hw.1
              obtain rfl : S = u39 := hw.2.symm
              refine lv_if_lt (tgt := 94) hx hb dX2_against_61 (by decide) (fun c40 => ?_) (fun c40 => ?_)
              · have hok := hok.1 c40
                refine lv_bipush (v := (-2)) hx hb dX2_against_94 (by decide) ?_
                refine lv_goto (tgt := 100) hx hb dX2_against_96 (by decide) ?_
                exact wx_reti kst_K S hx hb hr hlk hK hP hD hS dX2_against_100 ⟨(by unfold p_X2_against; rw [if_neg c2, if_neg c5, if_neg c7, if_neg c25, if_neg c27, if_neg c36, if_pos c40]), rfl⟩
              · have hok := hok.2 c40
                refine lv_iload_n hx hb dX2_against_64 rfl (lv_at hl 4 rfl) ?_
                refine lv_bipush (v := (-9)) hx hb dX2_against_65 (by decide) ?_
                refine lv_icmp_eq (tgt := 78) hx hb dX2_against_67 (by decide) (fun c => absurd c c7) (fun _ => ?_)
                refine lv_aload_n hx hb dX2_against_70 rfl (lv_at hl 1 rfl) ?_
                refine lv_iload_n hx hb dX2_against_71 rfl (lv_at hl 4 rfl) ?_
                obtain ⟨o42, hok⟩ := hok
                refine wx_callVi (As := [.int a3]) (rest := []) kst_K hC (c_X2_at l D h ad cI cJ cZ S a3 o42) (cwV 1 hts gX2_against_X2_at rfl rfl rfl (by decide +kernel) ⟨Nat.le_of_ble_eq_true rfl, Nat.le_of_ble_eq_true rfl⟩) hK hP hD hS hA (wm_cell hK hP) rfl hl.1 rfl (Nat.le_of_ble_eq_true rfl) dX2_against_72 ⟨Nat.le_of_ble_eq_true rfl, Nat.le_of_ble_eq_true rfl⟩ (fun r42 u42 H locs hw hP hD hS => ?_)
                obtain rfl : r42 = p_X2_at S a3 := hw.1
                obtain rfl : S = u42 := hw.2.symm
                refine lv_if_lt (tgt := 94) hx hb dX2_against_75 (by decide) (fun c43 => ?_) (fun c43 => ?_)
                · have hok := hok.1 c43
                  refine lv_bipush (v := (-2)) hx hb dX2_against_94 (by decide) ?_
                  refine lv_goto (tgt := 100) hx hb dX2_against_96 (by decide) ?_
                  exact wx_reti kst_K S hx hb hr hlk hK hP hD hS dX2_against_100 ⟨(by unfold p_X2_against; rw [if_neg c2, if_neg c5, if_neg c7, if_neg c25, if_neg c27, if_neg c36, if_neg c40, if_pos c43]), rfl⟩
                · have hok := hok.2 c43
                  refine lv_iload hx hb dX2_against_78 (lv_at hl 5 rfl) ?_
                  refine lv_bipush (v := (-9)) hx hb dX2_against_80 (by decide) ?_
                  refine lv_icmp_eq (tgt := 99) hx hb dX2_against_82 (by decide) (fun c => absurd c c27) (fun _ => ?_)
                  refine lv_aload_n hx hb dX2_against_85 rfl (lv_at hl 1 rfl) ?_
                  refine lv_iload hx hb dX2_against_86 (lv_at hl 5 rfl) ?_
                  obtain ⟨o45, hok⟩ := hok
                  refine wx_callVi (As := [.int a4]) (rest := []) kst_K hC (c_X2_at l D h ad cI cJ cZ S a4 o45) (cwV 1 hts gX2_against_X2_at rfl rfl rfl (by decide +kernel) ⟨Nat.le_of_ble_eq_true rfl, Nat.le_of_ble_eq_true rfl⟩) hK hP hD hS hA (wm_cell hK hP) rfl hl.1 rfl (Nat.le_of_ble_eq_true rfl) dX2_against_88 ⟨Nat.le_of_ble_eq_true rfl, Nat.le_of_ble_eq_true rfl⟩ (fun r45 u45 H locs hw hP hD hS => ?_)
                  obtain rfl : r45 = p_X2_at S a4 := hw.1
                  obtain rfl : S = u45 := hw.2.symm
                  refine lv_if_ge (tgt := 99) hx hb dX2_against_91 (by decide) (fun c46 => ?_) (fun c46 => ?_)
                  · have hok := hok.1 c46
                    refine lv_iconst (v := 0) hx hb dX2_against_99 (by decide) ?_
                    exact wx_reti kst_K S hx hb hr hlk hK hP hD hS dX2_against_100 ⟨(by unfold p_X2_against; rw [if_neg c2, if_neg c5, if_neg c7, if_neg c25, if_neg c27, if_neg c36, if_neg c40, if_neg c43, if_pos c46]), rfl⟩
                  · have hok := hok.2 c46
                    refine lv_bipush (v := (-2)) hx hb dX2_against_94 (by decide) ?_
                    refine lv_goto (tgt := 100) hx hb dX2_against_96 (by decide) ?_
                    exact wx_reti kst_K S hx hb hr hlk hK hP hD hS dX2_against_100 ⟨(by unfold p_X2_against; rw [if_neg c2, if_neg c5, if_neg c7, if_neg c25, if_neg c27, if_neg c36, if_neg c40, if_neg c43, if_neg c46]), rfl⟩
def p_X2_flat (S : MS) (a1 : Int32) (a2 : Int32) : Int32 × MS := if (p_X2_isPlace a1) = 0 then ((-1), S) else ((p_X2_make S a1 0 0 0 0 a2.toInt64).1, (p_X2_make S a1 0 0 0 0 a2.toInt64).2)
def ok_X2_flat (S : MS) (a1 : Int32) (a2 : Int32) : Prop := ((p_X2_isPlace a1) = 0 → True) ∧ (¬ (p_X2_isPlace a1) = 0 → ((ok_X2_make S a1 0 0 0 0 a2.toInt64) ∧ (True)))
set_option maxHeartbeats 4000000 in
set_option maxRecDepth 100000 in
theorem c_X2_flat (l : Launch) (D : va_G) (h : Nat) (ad : Nat → Nat) (cI cJ cZ : ClassId) (S : MS) (a1 : Int32) (a2 : Int32) (hok : ok_X2_flat S a1 a2) : MetI l yX2_flat wsX2_flat ({ frames := 2, cells := 0, slots := 0, locals := 42 } : Room) D (va_K D vwCl (mTy cI cJ cZ)) (mW h ad cI cJ cZ) S [.ref h, .int a1, .int a2] (fun r u => (r, u) = p_X2_flat S a1 a2) 0 0 := by
  unfold ok_X2_flat at hok
  refine MetI.of (cc := cX2_flat) (maxL := 3) (by decide) rfl (Nat.le_of_ble_eq_true rfl) ?_
  intro p e s m below meth c A ls hC hr hlk hnm hK hP hD hA hl
  obtain ⟨hx, hb, hml, hown, hts⟩ := id hC
  have hS : va_S A s.heap s.heap [] := va_S.rf
  have hin : ∀ w ∈ wsX20, w ∈ wsX2_flat := fun _ h => List.mem_cons_of_mem _ (List.mem_append_right _ h)
  have hl : lv_has ls 3 [(0, .ref h), (1, .int a1), (2, .int a2)] := hl
  refine lv_iload_n hx hb dX2_flat_0 rfl (lv_at hl 1 rfl) ?_
  refine wx_callS (As := [.int a1]) (rest := []) hC (c_X2_isPlace l a1) (va_cwS 1 hts gX2_flat_X2_isPlace rfl rfl rfl (by decide +kernel) ⟨Nat.le_of_ble_eq_true rfl, Nat.le_of_ble_eq_true rfl⟩) rfl hl.1 rfl (Nat.le_of_ble_eq_true rfl) dX2_flat_1 ⟨Nat.le_of_ble_eq_true rfl, Nat.le_of_ble_eq_true rfl⟩ (fun r1 hw => ?_)
  obtain rfl : r1 = p_X2_isPlace a1 := hw
  refine lv_if_eq (tgt := 21) hx hb dX2_flat_4 (by decide) (fun c2 => ?_) (fun c2 => ?_)
  · have hok := hok.1 c2
    refine lv_iconst (v := (-1)) hx hb dX2_flat_21 (by decide) ?_
    exact wx_reti kst_K S hx hb hr hlk hK hP hD hS dX2_flat_22 (by unfold p_X2_flat; rw [if_pos c2])
  · have hok := hok.2 c2
    refine lv_aload_n hx hb dX2_flat_7 rfl (lv_at hl 0 rfl) ?_
    refine lv_iload_n hx hb dX2_flat_8 rfl (lv_at hl 1 rfl) ?_
    refine lv_iconst (v := 0) hx hb dX2_flat_9 (by decide) ?_
    refine lv_iconst (v := 0) hx hb dX2_flat_10 (by decide) ?_
    refine lv_iconst (v := 0) hx hb dX2_flat_11 (by decide) ?_
    refine lv_iconst (v := 0) hx hb dX2_flat_12 (by decide) ?_
    refine lv_iload_n hx hb dX2_flat_13 rfl (lv_at hl 2 rfl) ?_
    refine lv_i2l (v := a2.toInt64) hx hb dX2_flat_14 rfl ?_
    obtain ⟨o3, hok⟩ := hok
    refine wx_callVi (As := [.int a1, .int 0, .int 0, .int 0, .int 0, .long a2.toInt64]) (rest := []) kst_K hC (c_X2_make l D h ad cI cJ cZ S a1 0 0 0 0 a2.toInt64 o3) (cwV 6 hts gX2_flat_X2_make rfl rfl rfl (by decide +kernel) ⟨Nat.le_of_ble_eq_true rfl, Nat.le_of_ble_eq_true rfl⟩) hK hP hD hS hA (wm_cell hK hP) rfl hl.1 rfl (Nat.le_of_ble_eq_true rfl) dX2_flat_15 ⟨Nat.le_of_ble_eq_true rfl, Nat.le_of_ble_eq_true rfl⟩ (fun r3 u3 H locs hw hP hD hS => ?_)
    obtain rfl : r3 = (p_X2_make S a1 0 0 0 0 a2.toInt64).1 := congrArg Prod.fst hw
    obtain rfl : u3 = (p_X2_make S a1 0 0 0 0 a2.toInt64).2 := congrArg Prod.snd hw
    refine lv_goto (tgt := 22) hx hb dX2_flat_18 (by decide) ?_
    exact wx_reti kst_K ((p_X2_make S a1 0 0 0 0 a2.toInt64).2) hx hb hr hlk hK hP hD hS dX2_flat_22 (by unfold p_X2_flat; rw [if_neg c2])
def p_X2_rated (S : MS) (a1 : Int32) (a2 : Int32) : Int32 × MS := if (p_X2_isPlace a1) = 0 then ((-1), S) else (if (p_X2_in a2 0 7) = 0 then ((-1), S) else ((p_X2_make S a1 1 0 0 0 ((S.2.1 0 a2.toNatClampNeg).toInt64)).1, (p_X2_make S a1 1 0 0 0 ((S.2.1 0 a2.toNatClampNeg).toInt64)).2))
def ok_X2_rated (S : MS) (a1 : Int32) (a2 : Int32) : Prop := ((p_X2_isPlace a1) = 0 → True) ∧ (¬ (p_X2_isPlace a1) = 0 → (((p_X2_in a2 0 7) = 0 → True) ∧ (¬ (p_X2_in a2 0 7) = 0 → ((vp_in a2 8) ∧ ((ok_X2_make S a1 1 0 0 0 ((S.2.1 0 a2.toNatClampNeg).toInt64)) ∧ (True))))))
set_option maxHeartbeats 4000000 in
set_option maxRecDepth 100000 in
theorem c_X2_rated (l : Launch) (D : va_G) (h : Nat) (ad : Nat → Nat) (cI cJ cZ : ClassId) (S : MS) (a1 : Int32) (a2 : Int32) (hok : ok_X2_rated S a1 a2) : MetI l yX2_rated wsX2_rated ({ frames := 2, cells := 0, slots := 0, locals := 42 } : Room) D (va_K D vwCl (mTy cI cJ cZ)) (mW h ad cI cJ cZ) S [.ref h, .int a1, .int a2] (fun r u => (r, u) = p_X2_rated S a1 a2) 0 0 := by
  unfold ok_X2_rated at hok
  refine MetI.of (cc := cX2_rated) (maxL := 3) (by decide) rfl (Nat.le_of_ble_eq_true rfl) ?_
  intro p e s m below meth c A ls hC hr hlk hnm hK hP hD hA hl
  obtain ⟨hx, hb, hml, hown, hts⟩ := id hC
  have hS : va_S A s.heap s.heap [] := va_S.rf
  have hin : ∀ w ∈ wsX20, w ∈ wsX2_rated := fun _ h => List.mem_cons_of_mem _ (List.mem_append_right _ h)
  have hl : lv_has ls 3 [(0, .ref h), (1, .int a1), (2, .int a2)] := hl
  refine lv_iload_n hx hb dX2_rated_0 rfl (lv_at hl 1 rfl) ?_
  refine wx_callS (As := [.int a1]) (rest := []) hC (c_X2_isPlace l a1) (va_cwS 1 hts gX2_rated_X2_isPlace rfl rfl rfl (by decide +kernel) ⟨Nat.le_of_ble_eq_true rfl, Nat.le_of_ble_eq_true rfl⟩) rfl hl.1 rfl (Nat.le_of_ble_eq_true rfl) dX2_rated_1 ⟨Nat.le_of_ble_eq_true rfl, Nat.le_of_ble_eq_true rfl⟩ (fun r1 hw => ?_)
  obtain rfl : r1 = p_X2_isPlace a1 := hw
  refine lv_if_eq (tgt := 36) hx hb dX2_rated_4 (by decide) (fun c2 => ?_) (fun c2 => ?_)
  · have hok := hok.1 c2
    refine lv_iconst (v := (-1)) hx hb dX2_rated_36 (by decide) ?_
    exact wx_reti kst_K S hx hb hr hlk hK hP hD hS dX2_rated_37 (by unfold p_X2_rated; rw [if_pos c2])
  · have hok := hok.2 c2
    refine lv_iload_n hx hb dX2_rated_7 rfl (lv_at hl 2 rfl) ?_
    refine lv_iconst (v := 0) hx hb dX2_rated_8 (by decide) ?_
    refine lv_bipush (v := 7) hx hb dX2_rated_9 (by decide) ?_
    refine wx_callS (As := [.int a2, .int 0, .int 7]) (rest := []) hC (c_X2_in l a2 0 7) (va_cwS 3 hts gX2_rated_X2_in rfl rfl rfl (by decide +kernel) ⟨Nat.le_of_ble_eq_true rfl, Nat.le_of_ble_eq_true rfl⟩) rfl hl.1 rfl (Nat.le_of_ble_eq_true rfl) dX2_rated_11 ⟨Nat.le_of_ble_eq_true rfl, Nat.le_of_ble_eq_true rfl⟩ (fun r3 hw => ?_)
    obtain rfl : r3 = p_X2_in a2 0 7 := hw
    refine lv_if_eq (tgt := 36) hx hb dX2_rated_14 (by decide) (fun c4 => ?_) (fun c4 => ?_)
    · have hok := hok.1 c4
      refine lv_iconst (v := (-1)) hx hb dX2_rated_36 (by decide) ?_
      exact wx_reti kst_K S hx hb hr hlk hK hP hD hS dX2_rated_37 (by unfold p_X2_rated; rw [if_neg c2, if_pos c4])
    · have hok := hok.2 c4
      refine lv_aload_n hx hb dX2_rated_17 rfl (lv_at hl 0 rfl) ?_
      refine lv_iload_n hx hb dX2_rated_18 rfl (lv_at hl 1 rfl) ?_
      refine lv_iconst (v := 1) hx hb dX2_rated_19 (by decide) ?_
      refine lv_iconst (v := 0) hx hb dX2_rated_20 (by decide) ?_
      refine lv_iconst (v := 0) hx hb dX2_rated_21 (by decide) ?_
      refine lv_iconst (v := 0) hx hb dX2_rated_22 (by decide) ?_
      refine lv_aload_n hx hb dX2_rated_23 rfl (lv_at hl 0 rfl) ?_
      refine wm_get hC hin hK hP 0 (by decide) rfl (by decide +kernel) (mget_0 _ _) dX2_rated_24 ?_
      refine lv_iload_n hx hb dX2_rated_27 rfl (lv_at hl 2 rfl) ?_
      obtain ⟨b5, hok⟩ := hok
      refine wm_iald hC hK hP 0 1 (marr_0 _ _ _ _ _ _) b5 dX2_rated_28 ?_
      refine lv_i2l (v := (S.2.1 0 a2.toNatClampNeg).toInt64) hx hb dX2_rated_29 rfl ?_
      obtain ⟨o6, hok⟩ := hok
      refine wx_callVi (As := [.int a1, .int 1, .int 0, .int 0, .int 0, .long ((S.2.1 0 a2.toNatClampNeg).toInt64)]) (rest := []) kst_K hC (c_X2_make l D h ad cI cJ cZ S a1 1 0 0 0 ((S.2.1 0 a2.toNatClampNeg).toInt64) o6) (cwV 6 hts gX2_rated_X2_make rfl rfl rfl (by decide +kernel) ⟨Nat.le_of_ble_eq_true rfl, Nat.le_of_ble_eq_true rfl⟩) hK hP hD hS hA (wm_cell hK hP) rfl hl.1 rfl (Nat.le_of_ble_eq_true rfl) dX2_rated_30 ⟨Nat.le_of_ble_eq_true rfl, Nat.le_of_ble_eq_true rfl⟩ (fun r6 u6 H locs hw hP hD hS => ?_)
      obtain rfl : r6 = (p_X2_make S a1 1 0 0 0 ((S.2.1 0 a2.toNatClampNeg).toInt64)).1 := congrArg Prod.fst hw
      obtain rfl : u6 = (p_X2_make S a1 1 0 0 0 ((S.2.1 0 a2.toNatClampNeg).toInt64)).2 := congrArg Prod.snd hw
      refine lv_goto (tgt := 37) hx hb dX2_rated_33 (by decide) ?_
      exact wx_reti kst_K ((p_X2_make S a1 1 0 0 0 ((S.2.1 0 a2.toNatClampNeg).toInt64)).2) hx hb hr hlk hK hP hD hS dX2_rated_37 (by unfold p_X2_rated; rw [if_neg c2, if_neg c4])
def p_X2_live (S : MS) (a1 : Int32) (a2 : Int32) : Int32 × MS := if (p_X2_isPlace a1) = 0 then ((-1), S) else (if (p_X2_in a2 0 7) = 0 then ((-1), S) else ((p_X2_make S a1 2 a2 0 0 0).1, (p_X2_make S a1 2 a2 0 0 0).2))
def ok_X2_live (S : MS) (a1 : Int32) (a2 : Int32) : Prop := ((p_X2_isPlace a1) = 0 → True) ∧ (¬ (p_X2_isPlace a1) = 0 → (((p_X2_in a2 0 7) = 0 → True) ∧ (¬ (p_X2_in a2 0 7) = 0 → ((ok_X2_make S a1 2 a2 0 0 0) ∧ (True)))))
set_option maxHeartbeats 4000000 in
set_option maxRecDepth 100000 in
theorem c_X2_live (l : Launch) (D : va_G) (h : Nat) (ad : Nat → Nat) (cI cJ cZ : ClassId) (S : MS) (a1 : Int32) (a2 : Int32) (hok : ok_X2_live S a1 a2) : MetI l yX2_live wsX2_live ({ frames := 2, cells := 0, slots := 0, locals := 42 } : Room) D (va_K D vwCl (mTy cI cJ cZ)) (mW h ad cI cJ cZ) S [.ref h, .int a1, .int a2] (fun r u => (r, u) = p_X2_live S a1 a2) 0 0 := by
  unfold ok_X2_live at hok
  refine MetI.of (cc := cX2_live) (maxL := 3) (by decide) rfl (Nat.le_of_ble_eq_true rfl) ?_
  intro p e s m below meth c A ls hC hr hlk hnm hK hP hD hA hl
  obtain ⟨hx, hb, hml, hown, hts⟩ := id hC
  have hS : va_S A s.heap s.heap [] := va_S.rf
  have hin : ∀ w ∈ wsX20, w ∈ wsX2_live := fun _ h => List.mem_cons_of_mem _ (List.mem_append_right _ h)
  have hl : lv_has ls 3 [(0, .ref h), (1, .int a1), (2, .int a2)] := hl
  refine lv_iload_n hx hb dX2_live_0 rfl (lv_at hl 1 rfl) ?_
  refine wx_callS (As := [.int a1]) (rest := []) hC (c_X2_isPlace l a1) (va_cwS 1 hts gX2_live_X2_isPlace rfl rfl rfl (by decide +kernel) ⟨Nat.le_of_ble_eq_true rfl, Nat.le_of_ble_eq_true rfl⟩) rfl hl.1 rfl (Nat.le_of_ble_eq_true rfl) dX2_live_1 ⟨Nat.le_of_ble_eq_true rfl, Nat.le_of_ble_eq_true rfl⟩ (fun r1 hw => ?_)
  obtain rfl : r1 = p_X2_isPlace a1 := hw
  refine lv_if_eq (tgt := 30) hx hb dX2_live_4 (by decide) (fun c2 => ?_) (fun c2 => ?_)
  · have hok := hok.1 c2
    refine lv_iconst (v := (-1)) hx hb dX2_live_30 (by decide) ?_
    exact wx_reti kst_K S hx hb hr hlk hK hP hD hS dX2_live_31 (by unfold p_X2_live; rw [if_pos c2])
  · have hok := hok.2 c2
    refine lv_iload_n hx hb dX2_live_7 rfl (lv_at hl 2 rfl) ?_
    refine lv_iconst (v := 0) hx hb dX2_live_8 (by decide) ?_
    refine lv_bipush (v := 7) hx hb dX2_live_9 (by decide) ?_
    refine wx_callS (As := [.int a2, .int 0, .int 7]) (rest := []) hC (c_X2_in l a2 0 7) (va_cwS 3 hts gX2_live_X2_in rfl rfl rfl (by decide +kernel) ⟨Nat.le_of_ble_eq_true rfl, Nat.le_of_ble_eq_true rfl⟩) rfl hl.1 rfl (Nat.le_of_ble_eq_true rfl) dX2_live_11 ⟨Nat.le_of_ble_eq_true rfl, Nat.le_of_ble_eq_true rfl⟩ (fun r3 hw => ?_)
    obtain rfl : r3 = p_X2_in a2 0 7 := hw
    refine lv_if_eq (tgt := 30) hx hb dX2_live_14 (by decide) (fun c4 => ?_) (fun c4 => ?_)
    · have hok := hok.1 c4
      refine lv_iconst (v := (-1)) hx hb dX2_live_30 (by decide) ?_
      exact wx_reti kst_K S hx hb hr hlk hK hP hD hS dX2_live_31 (by unfold p_X2_live; rw [if_neg c2, if_pos c4])
    · have hok := hok.2 c4
      refine lv_aload_n hx hb dX2_live_17 rfl (lv_at hl 0 rfl) ?_
      refine lv_iload_n hx hb dX2_live_18 rfl (lv_at hl 1 rfl) ?_
      refine lv_iconst (v := 2) hx hb dX2_live_19 (by decide) ?_
      refine lv_iload_n hx hb dX2_live_20 rfl (lv_at hl 2 rfl) ?_
      refine lv_iconst (v := 0) hx hb dX2_live_21 (by decide) ?_
      refine lv_iconst (v := 0) hx hb dX2_live_22 (by decide) ?_
      refine lv_lconst (v := 0) hx hb dX2_live_23 (by decide) ?_
      obtain ⟨o5, hok⟩ := hok
      refine wx_callVi (As := [.int a1, .int 2, .int a2, .int 0, .int 0, .long 0]) (rest := []) kst_K hC (c_X2_make l D h ad cI cJ cZ S a1 2 a2 0 0 0 o5) (cwV 6 hts gX2_live_X2_make rfl rfl rfl (by decide +kernel) ⟨Nat.le_of_ble_eq_true rfl, Nat.le_of_ble_eq_true rfl⟩) hK hP hD hS hA (wm_cell hK hP) rfl hl.1 rfl (Nat.le_of_ble_eq_true rfl) dX2_live_24 ⟨Nat.le_of_ble_eq_true rfl, Nat.le_of_ble_eq_true rfl⟩ (fun r5 u5 H locs hw hP hD hS => ?_)
      obtain rfl : r5 = (p_X2_make S a1 2 a2 0 0 0).1 := congrArg Prod.fst hw
      obtain rfl : u5 = (p_X2_make S a1 2 a2 0 0 0).2 := congrArg Prod.snd hw
      refine lv_goto (tgt := 31) hx hb dX2_live_27 (by decide) ?_
      exact wx_reti kst_K ((p_X2_make S a1 2 a2 0 0 0).2) hx hb hr hlk hK hP hD hS dX2_live_31 (by unfold p_X2_live; rw [if_neg c2, if_neg c4])
def p_X2_booked (S : MS) (a1 : Int32) (a2 : Int32) : Int32 × MS := if (p_X2_isPlace a1) = 0 then ((-1), S) else (if (p_X2_in a2 0 3) = 0 then ((-1), S) else ((p_X2_make S a1 3 (S.2.1 1 a2.toNatClampNeg) 0 0 0).1, (p_X2_make S a1 3 (S.2.1 1 a2.toNatClampNeg) 0 0 0).2))
def ok_X2_booked (S : MS) (a1 : Int32) (a2 : Int32) : Prop := ((p_X2_isPlace a1) = 0 → True) ∧ (¬ (p_X2_isPlace a1) = 0 → (((p_X2_in a2 0 3) = 0 → True) ∧ (¬ (p_X2_in a2 0 3) = 0 → ((vp_in a2 4) ∧ ((ok_X2_make S a1 3 (S.2.1 1 a2.toNatClampNeg) 0 0 0) ∧ (True))))))
set_option maxHeartbeats 4000000 in
set_option maxRecDepth 100000 in
theorem c_X2_booked (l : Launch) (D : va_G) (h : Nat) (ad : Nat → Nat) (cI cJ cZ : ClassId) (S : MS) (a1 : Int32) (a2 : Int32) (hok : ok_X2_booked S a1 a2) : MetI l yX2_booked wsX2_booked ({ frames := 2, cells := 0, slots := 0, locals := 42 } : Room) D (va_K D vwCl (mTy cI cJ cZ)) (mW h ad cI cJ cZ) S [.ref h, .int a1, .int a2] (fun r u => (r, u) = p_X2_booked S a1 a2) 0 0 := by
  unfold ok_X2_booked at hok
  refine MetI.of (cc := cX2_booked) (maxL := 3) (by decide) rfl (Nat.le_of_ble_eq_true rfl) ?_
  intro p e s m below meth c A ls hC hr hlk hnm hK hP hD hA hl
  obtain ⟨hx, hb, hml, hown, hts⟩ := id hC
  have hS : va_S A s.heap s.heap [] := va_S.rf
  have hin : ∀ w ∈ wsX20, w ∈ wsX2_booked := fun _ h => List.mem_cons_of_mem _ (List.mem_append_right _ h)
  have hl : lv_has ls 3 [(0, .ref h), (1, .int a1), (2, .int a2)] := hl
  refine lv_iload_n hx hb dX2_booked_0 rfl (lv_at hl 1 rfl) ?_
  refine wx_callS (As := [.int a1]) (rest := []) hC (c_X2_isPlace l a1) (va_cwS 1 hts gX2_booked_X2_isPlace rfl rfl rfl (by decide +kernel) ⟨Nat.le_of_ble_eq_true rfl, Nat.le_of_ble_eq_true rfl⟩) rfl hl.1 rfl (Nat.le_of_ble_eq_true rfl) dX2_booked_1 ⟨Nat.le_of_ble_eq_true rfl, Nat.le_of_ble_eq_true rfl⟩ (fun r1 hw => ?_)
  obtain rfl : r1 = p_X2_isPlace a1 := hw
  refine lv_if_eq (tgt := 34) hx hb dX2_booked_4 (by decide) (fun c2 => ?_) (fun c2 => ?_)
  · have hok := hok.1 c2
    refine lv_iconst (v := (-1)) hx hb dX2_booked_34 (by decide) ?_
    exact wx_reti kst_K S hx hb hr hlk hK hP hD hS dX2_booked_35 (by unfold p_X2_booked; rw [if_pos c2])
  · have hok := hok.2 c2
    refine lv_iload_n hx hb dX2_booked_7 rfl (lv_at hl 2 rfl) ?_
    refine lv_iconst (v := 0) hx hb dX2_booked_8 (by decide) ?_
    refine lv_iconst (v := 3) hx hb dX2_booked_9 (by decide) ?_
    refine wx_callS (As := [.int a2, .int 0, .int 3]) (rest := []) hC (c_X2_in l a2 0 3) (va_cwS 3 hts gX2_booked_X2_in rfl rfl rfl (by decide +kernel) ⟨Nat.le_of_ble_eq_true rfl, Nat.le_of_ble_eq_true rfl⟩) rfl hl.1 rfl (Nat.le_of_ble_eq_true rfl) dX2_booked_10 ⟨Nat.le_of_ble_eq_true rfl, Nat.le_of_ble_eq_true rfl⟩ (fun r3 hw => ?_)
    obtain rfl : r3 = p_X2_in a2 0 3 := hw
    refine lv_if_eq (tgt := 34) hx hb dX2_booked_13 (by decide) (fun c4 => ?_) (fun c4 => ?_)
    · have hok := hok.1 c4
      refine lv_iconst (v := (-1)) hx hb dX2_booked_34 (by decide) ?_
      exact wx_reti kst_K S hx hb hr hlk hK hP hD hS dX2_booked_35 (by unfold p_X2_booked; rw [if_neg c2, if_pos c4])
    · have hok := hok.2 c4
      refine lv_aload_n hx hb dX2_booked_16 rfl (lv_at hl 0 rfl) ?_
      refine lv_iload_n hx hb dX2_booked_17 rfl (lv_at hl 1 rfl) ?_
      refine lv_iconst (v := 3) hx hb dX2_booked_18 (by decide) ?_
      refine lv_aload_n hx hb dX2_booked_19 rfl (lv_at hl 0 rfl) ?_
      refine wm_get hC hin hK hP 1 (by decide) rfl (by decide +kernel) (mget_1 _ _) dX2_booked_20 ?_
      refine lv_iload_n hx hb dX2_booked_23 rfl (lv_at hl 2 rfl) ?_
      obtain ⟨b5, hok⟩ := hok
      refine wm_iald hC hK hP 1 2 (marr_1 _ _ _ _ _ _) b5 dX2_booked_24 ?_
      refine lv_iconst (v := 0) hx hb dX2_booked_25 (by decide) ?_
      refine lv_iconst (v := 0) hx hb dX2_booked_26 (by decide) ?_
      refine lv_lconst (v := 0) hx hb dX2_booked_27 (by decide) ?_
      obtain ⟨o6, hok⟩ := hok
      refine wx_callVi (As := [.int a1, .int 3, .int (S.2.1 1 a2.toNatClampNeg), .int 0, .int 0, .long 0]) (rest := []) kst_K hC (c_X2_make l D h ad cI cJ cZ S a1 3 (S.2.1 1 a2.toNatClampNeg) 0 0 0 o6) (cwV 6 hts gX2_booked_X2_make rfl rfl rfl (by decide +kernel) ⟨Nat.le_of_ble_eq_true rfl, Nat.le_of_ble_eq_true rfl⟩) hK hP hD hS hA (wm_cell hK hP) rfl hl.1 rfl (Nat.le_of_ble_eq_true rfl) dX2_booked_28 ⟨Nat.le_of_ble_eq_true rfl, Nat.le_of_ble_eq_true rfl⟩ (fun r6 u6 H locs hw hP hD hS => ?_)
      obtain rfl : r6 = (p_X2_make S a1 3 (S.2.1 1 a2.toNatClampNeg) 0 0 0).1 := congrArg Prod.fst hw
      obtain rfl : u6 = (p_X2_make S a1 3 (S.2.1 1 a2.toNatClampNeg) 0 0 0).2 := congrArg Prod.snd hw
      refine lv_goto (tgt := 35) hx hb dX2_booked_31 (by decide) ?_
      exact wx_reti kst_K ((p_X2_make S a1 3 (S.2.1 1 a2.toNatClampNeg) 0 0 0).2) hx hb hr hlk hK hP hD hS dX2_booked_35 (by unfold p_X2_booked; rw [if_neg c2, if_neg c4])
def p_X2_joined (S : MS) (a1 : Int32) (a2 : Int32) (a3 : Int32) (a4 : Int32) : Int32 × MS := if (p_X2_in a2 0 5) = 0 then ((-1), S) else (if 0 ≤ (p_X2_against S a1 a3 (p_X2_asWanted a4) (-9)) then ((p_X2_make S a1 4 (p_X2_at S a3) (p_X2_at S a4) 0 a2.toInt64).1, (p_X2_make S a1 4 (p_X2_at S a3) (p_X2_at S a4) 0 a2.toInt64).2) else (p_X2_against S a1 a3 (p_X2_asWanted a4) (-9), S))
def ok_X2_joined (S : MS) (a1 : Int32) (a2 : Int32) (a3 : Int32) (a4 : Int32) : Prop := ((p_X2_in a2 0 5) = 0 → True) ∧ (¬ (p_X2_in a2 0 5) = 0 → ((ok_X2_against S a1 a3 (p_X2_asWanted a4) (-9)) ∧ ((0 ≤ (p_X2_against S a1 a3 (p_X2_asWanted a4) (-9)) → ((ok_X2_at S a3) ∧ ((ok_X2_at S a4) ∧ ((ok_X2_make S a1 4 (p_X2_at S a3) (p_X2_at S a4) 0 a2.toInt64) ∧ (True))))) ∧ (¬ 0 ≤ (p_X2_against S a1 a3 (p_X2_asWanted a4) (-9)) → True))))
set_option maxHeartbeats 4000000 in
set_option maxRecDepth 100000 in
theorem c_X2_joined (l : Launch) (D : va_G) (h : Nat) (ad : Nat → Nat) (cI cJ cZ : ClassId) (S : MS) (a1 : Int32) (a2 : Int32) (a3 : Int32) (a4 : Int32) (hok : ok_X2_joined S a1 a2 a3 a4) : MetI l yX2_joined wsX2_joined ({ frames := 3, cells := 0, slots := 0, locals := 67 } : Room) D (va_K D vwCl (mTy cI cJ cZ)) (mW h ad cI cJ cZ) S [.ref h, .int a1, .int a2, .int a3, .int a4] (fun r u => (r, u) = p_X2_joined S a1 a2 a3 a4) 0 0 := by
  unfold ok_X2_joined at hok
  refine MetI.of (cc := cX2_joined) (maxL := 6) (by decide) rfl (Nat.le_of_ble_eq_true rfl) ?_
  intro p e s m below meth c A ls hC hr hlk hnm hK hP hD hA hl
  obtain ⟨hx, hb, hml, hown, hts⟩ := id hC
  have hS : va_S A s.heap s.heap [] := va_S.rf
  have hin : ∀ w ∈ wsX20, w ∈ wsX2_joined := fun _ h => List.mem_cons_of_mem _ (List.mem_append_right _ h)
  have hl : lv_has ls 6 [(0, .ref h), (1, .int a1), (2, .int a2), (3, .int a3), (4, .int a4)] := hl
  refine lv_iload_n hx hb dX2_joined_0 rfl (lv_at hl 2 rfl) ?_
  refine lv_iconst (v := 0) hx hb dX2_joined_1 (by decide) ?_
  refine lv_iconst (v := 5) hx hb dX2_joined_2 (by decide) ?_
  refine wx_callS (As := [.int a2, .int 0, .int 5]) (rest := []) hC (c_X2_in l a2 0 5) (va_cwS 3 hts gX2_joined_X2_in rfl rfl rfl (by decide +kernel) ⟨Nat.le_of_ble_eq_true rfl, Nat.le_of_ble_eq_true rfl⟩) rfl hl.1 rfl (Nat.le_of_ble_eq_true rfl) dX2_joined_3 ⟨Nat.le_of_ble_eq_true rfl, Nat.le_of_ble_eq_true rfl⟩ (fun r1 hw => ?_)
  obtain rfl : r1 = p_X2_in a2 0 5 := hw
  refine lv_if_eq (tgt := 25) hx hb dX2_joined_6 (by decide) (fun c2 => ?_) (fun c2 => ?_)
  · have hok := hok.1 c2
    refine lv_iconst (v := (-1)) hx hb dX2_joined_25 (by decide) ?_
    refine lv_istore (lv' := [(5, .int (-1)), (0, .ref h), (1, .int a1), (2, .int a2), (3, .int a3), (4, .int a4)]) hx hb dX2_joined_26 hl (by decide) rfl (fun ls hl => ?_)
    refine lv_iload hx hb dX2_joined_28 (lv_at hl 0 rfl) ?_
    refine lv_if_ge (tgt := 38) hx hb dX2_joined_30 (by decide) (fun c => absurd c (by decide)) (fun _ => ?_)
    refine lv_iload hx hb dX2_joined_33 (lv_at hl 0 rfl) ?_
    refine lv_goto (tgt := 58) hx hb dX2_joined_35 (by decide) ?_
    exact wx_reti kst_K S hx hb hr hlk hK hP hD hS dX2_joined_58 (by unfold p_X2_joined; rw [if_pos c2])
  · have hok := hok.2 c2
    refine lv_aload_n hx hb dX2_joined_9 rfl (lv_at hl 0 rfl) ?_
    refine lv_iload_n hx hb dX2_joined_10 rfl (lv_at hl 1 rfl) ?_
    refine lv_iload_n hx hb dX2_joined_11 rfl (lv_at hl 3 rfl) ?_
    refine lv_iload hx hb dX2_joined_12 (lv_at hl 4 rfl) ?_
    refine wx_callS (As := [.int a4]) (rest := [.int a3, .int a1, .ref h]) hC (c_X2_asWanted l a4) (va_cwS 1 hts gX2_joined_X2_asWanted rfl rfl rfl (by decide +kernel) ⟨Nat.le_of_ble_eq_true rfl, Nat.le_of_ble_eq_true rfl⟩) rfl hl.1 rfl (Nat.le_of_ble_eq_true rfl) dX2_joined_14 ⟨Nat.le_of_ble_eq_true rfl, Nat.le_of_ble_eq_true rfl⟩ (fun r4 hw => ?_)
    obtain rfl : r4 = p_X2_asWanted a4 := hw
    refine lv_bipush (v := (-9)) hx hb dX2_joined_17 (by decide) ?_
    obtain ⟨o5, hok⟩ := hok
    refine wx_callVi (As := [.int a1, .int a3, .int (p_X2_asWanted a4), .int (-9)]) (rest := []) kst_K hC (c_X2_against l D h ad cI cJ cZ S a1 a3 (p_X2_asWanted a4) (-9) o5) (cwV 4 hts gX2_joined_X2_against rfl rfl rfl (by decide +kernel) ⟨Nat.le_of_ble_eq_true rfl, Nat.le_of_ble_eq_true rfl⟩) hK hP hD hS hA (wm_cell hK hP) rfl hl.1 rfl (Nat.le_of_ble_eq_true rfl) dX2_joined_19 ⟨Nat.le_of_ble_eq_true rfl, Nat.le_of_ble_eq_true rfl⟩ (fun r5 u5 H locs hw hP hD hS => ?_)
    obtain rfl : r5 = p_X2_against S a1 a3 (p_X2_asWanted a4) (-9) := hw.1
    obtain rfl : S = u5 := hw.2.symm
    refine lv_goto (tgt := 26) hx hb dX2_joined_22 (by decide) ?_
    refine lv_istore (lv' := [(5, .int (p_X2_against S a1 a3 (p_X2_asWanted a4) (-9))), (0, .ref h), (1, .int a1), (2, .int a2), (3, .int a3), (4, .int a4)]) hx hb dX2_joined_26 hl (by decide) rfl (fun ls hl => ?_)
    refine lv_iload hx hb dX2_joined_28 (lv_at hl 0 rfl) ?_
    refine lv_if_ge (tgt := 38) hx hb dX2_joined_30 (by decide) (fun c6 => ?_) (fun c6 => ?_)
    · have hok := hok.1 c6
      refine lv_aload_n hx hb dX2_joined_38 rfl (lv_at hl 1 rfl) ?_
      refine lv_iload_n hx hb dX2_joined_39 rfl (lv_at hl 2 rfl) ?_
      refine lv_iconst (v := 4) hx hb dX2_joined_40 (by decide) ?_
      refine lv_aload_n hx hb dX2_joined_41 rfl (lv_at hl 1 rfl) ?_
      refine lv_iload_n hx hb dX2_joined_42 rfl (lv_at hl 4 rfl) ?_
      obtain ⟨o7, hok⟩ := hok
      refine wx_callVi (As := [.int a3]) (rest := [.int 4, .int a1, .ref h]) kst_K hC (c_X2_at l D h ad cI cJ cZ S a3 o7) (cwV 1 hts gX2_joined_X2_at rfl rfl rfl (by decide +kernel) ⟨Nat.le_of_ble_eq_true rfl, Nat.le_of_ble_eq_true rfl⟩) hK hP hD hS hA (wm_cell hK hP) rfl hl.1 rfl (Nat.le_of_ble_eq_true rfl) dX2_joined_43 ⟨Nat.le_of_ble_eq_true rfl, Nat.le_of_ble_eq_true rfl⟩ (fun r7 u7 H locs hw hP hD hS => ?_)
      obtain rfl : r7 = p_X2_at S a3 := hw.1
      obtain rfl : S = u7 := hw.2.symm
      refine lv_aload_n hx hb dX2_joined_46 rfl (lv_at hl 1 rfl) ?_
      refine lv_iload hx hb dX2_joined_47 (lv_at hl 5 rfl) ?_
      obtain ⟨o8, hok⟩ := hok
      refine wx_callVi (As := [.int a4]) (rest := [.int (p_X2_at S a3), .int 4, .int a1, .ref h]) kst_K hC (c_X2_at l D h ad cI cJ cZ S a4 o8) (cwV 1 hts gX2_joined_X2_at rfl rfl rfl (by decide +kernel) ⟨Nat.le_of_ble_eq_true rfl, Nat.le_of_ble_eq_true rfl⟩) hK hP hD hS hA (wm_cell hK hP) rfl hl.1 rfl (Nat.le_of_ble_eq_true rfl) dX2_joined_49 ⟨Nat.le_of_ble_eq_true rfl, Nat.le_of_ble_eq_true rfl⟩ (fun r8 u8 H locs hw hP hD hS => ?_)
      obtain rfl : r8 = p_X2_at S a4 := hw.1
      obtain rfl : S = u8 := hw.2.symm
      refine lv_iconst (v := 0) hx hb dX2_joined_52 (by decide) ?_
      refine lv_iload_n hx hb dX2_joined_53 rfl (lv_at hl 3 rfl) ?_
      refine lv_i2l (v := a2.toInt64) hx hb dX2_joined_54 rfl ?_
      obtain ⟨o9, hok⟩ := hok
      refine wx_callVi (As := [.int a1, .int 4, .int (p_X2_at S a3), .int (p_X2_at S a4), .int 0, .long a2.toInt64]) (rest := []) kst_K hC (c_X2_make l D h ad cI cJ cZ S a1 4 (p_X2_at S a3) (p_X2_at S a4) 0 a2.toInt64 o9) (cwV 6 hts gX2_joined_X2_make rfl rfl rfl (by decide +kernel) ⟨Nat.le_of_ble_eq_true rfl, Nat.le_of_ble_eq_true rfl⟩) hK hP hD hS hA (wm_cell hK hP) rfl hl.1 rfl (Nat.le_of_ble_eq_true rfl) dX2_joined_55 ⟨Nat.le_of_ble_eq_true rfl, Nat.le_of_ble_eq_true rfl⟩ (fun r9 u9 H locs hw hP hD hS => ?_)
      obtain rfl : r9 = (p_X2_make S a1 4 (p_X2_at S a3) (p_X2_at S a4) 0 a2.toInt64).1 := congrArg Prod.fst hw
      obtain rfl : u9 = (p_X2_make S a1 4 (p_X2_at S a3) (p_X2_at S a4) 0 a2.toInt64).2 := congrArg Prod.snd hw
      exact wx_reti kst_K ((p_X2_make S a1 4 (p_X2_at S a3) (p_X2_at S a4) 0 a2.toInt64).2) hx hb hr hlk hK hP hD hS dX2_joined_58 (by unfold p_X2_joined; rw [if_neg c2, if_pos c6])
    · have hok := hok.2 c6
      refine lv_iload hx hb dX2_joined_33 (lv_at hl 0 rfl) ?_
      refine lv_goto (tgt := 58) hx hb dX2_joined_35 (by decide) ?_
      exact wx_reti kst_K S hx hb hr hlk hK hP hD hS dX2_joined_58 (by unfold p_X2_joined; rw [if_neg c2, if_neg c6])
def p_X2_when (S : MS) (a1 : Int32) (a2 : Int32) (a3 : Int32) (a4 : Int32) : Int32 × MS := if 0 ≤ (p_X2_against S a1 a2 (p_X2_asWanted a3) (p_X2_asWanted a4)) then ((p_X2_make S a1 5 (p_X2_at S a2) (p_X2_at S a3) (p_X2_at S a4) 0).1, (p_X2_make S a1 5 (p_X2_at S a2) (p_X2_at S a3) (p_X2_at S a4) 0).2) else (p_X2_against S a1 a2 (p_X2_asWanted a3) (p_X2_asWanted a4), S)
def ok_X2_when (S : MS) (a1 : Int32) (a2 : Int32) (a3 : Int32) (a4 : Int32) : Prop := (ok_X2_against S a1 a2 (p_X2_asWanted a3) (p_X2_asWanted a4)) ∧ ((0 ≤ (p_X2_against S a1 a2 (p_X2_asWanted a3) (p_X2_asWanted a4)) → ((ok_X2_at S a2) ∧ ((ok_X2_at S a3) ∧ ((ok_X2_at S a4) ∧ ((ok_X2_make S a1 5 (p_X2_at S a2) (p_X2_at S a3) (p_X2_at S a4) 0) ∧ (True)))))) ∧ (¬ 0 ≤ (p_X2_against S a1 a2 (p_X2_asWanted a3) (p_X2_asWanted a4)) → True))
set_option maxHeartbeats 4000000 in
set_option maxRecDepth 100000 in
theorem c_X2_when (l : Launch) (D : va_G) (h : Nat) (ad : Nat → Nat) (cI cJ cZ : ClassId) (S : MS) (a1 : Int32) (a2 : Int32) (a3 : Int32) (a4 : Int32) (hok : ok_X2_when S a1 a2 a3 a4) : MetI l yX2_when wsX2_when ({ frames := 3, cells := 0, slots := 0, locals := 67 } : Room) D (va_K D vwCl (mTy cI cJ cZ)) (mW h ad cI cJ cZ) S [.ref h, .int a1, .int a2, .int a3, .int a4] (fun r u => (r, u) = p_X2_when S a1 a2 a3 a4) 0 0 := by
  unfold ok_X2_when at hok
  refine MetI.of (cc := cX2_when) (maxL := 6) (by decide) rfl (Nat.le_of_ble_eq_true rfl) ?_
  intro p e s m below meth c A ls hC hr hlk hnm hK hP hD hA hl
  obtain ⟨hx, hb, hml, hown, hts⟩ := id hC
  have hS : va_S A s.heap s.heap [] := va_S.rf
  have hin : ∀ w ∈ wsX20, w ∈ wsX2_when := fun _ h => List.mem_cons_of_mem _ (List.mem_append_right _ h)
  have hl : lv_has ls 6 [(0, .ref h), (1, .int a1), (2, .int a2), (3, .int a3), (4, .int a4)] := hl
  refine lv_aload_n hx hb dX2_when_0 rfl (lv_at hl 0 rfl) ?_
  refine lv_iload_n hx hb dX2_when_1 rfl (lv_at hl 1 rfl) ?_
  refine lv_iload_n hx hb dX2_when_2 rfl (lv_at hl 2 rfl) ?_
  refine lv_iload_n hx hb dX2_when_3 rfl (lv_at hl 3 rfl) ?_
  refine wx_callS (As := [.int a3]) (rest := [.int a2, .int a1, .ref h]) hC (c_X2_asWanted l a3) (va_cwS 1 hts gX2_when_X2_asWanted rfl rfl rfl (by decide +kernel) ⟨Nat.le_of_ble_eq_true rfl, Nat.le_of_ble_eq_true rfl⟩) rfl hl.1 rfl (Nat.le_of_ble_eq_true rfl) dX2_when_4 ⟨Nat.le_of_ble_eq_true rfl, Nat.le_of_ble_eq_true rfl⟩ (fun r1 hw => ?_)
  obtain rfl : r1 = p_X2_asWanted a3 := hw
  refine lv_iload hx hb dX2_when_7 (lv_at hl 4 rfl) ?_
  refine wx_callS (As := [.int a4]) (rest := [.int (p_X2_asWanted a3), .int a2, .int a1, .ref h]) hC (c_X2_asWanted l a4) (va_cwS 1 hts gX2_when_X2_asWanted rfl rfl rfl (by decide +kernel) ⟨Nat.le_of_ble_eq_true rfl, Nat.le_of_ble_eq_true rfl⟩) rfl hl.1 rfl (Nat.le_of_ble_eq_true rfl) dX2_when_9 ⟨Nat.le_of_ble_eq_true rfl, Nat.le_of_ble_eq_true rfl⟩ (fun r2 hw => ?_)
  obtain rfl : r2 = p_X2_asWanted a4 := hw
  obtain ⟨o3, hok⟩ := hok
  refine wx_callVi (As := [.int a1, .int a2, .int (p_X2_asWanted a3), .int (p_X2_asWanted a4)]) (rest := []) kst_K hC (c_X2_against l D h ad cI cJ cZ S a1 a2 (p_X2_asWanted a3) (p_X2_asWanted a4) o3) (cwV 4 hts gX2_when_X2_against rfl rfl rfl (by decide +kernel) ⟨Nat.le_of_ble_eq_true rfl, Nat.le_of_ble_eq_true rfl⟩) hK hP hD hS hA (wm_cell hK hP) rfl hl.1 rfl (Nat.le_of_ble_eq_true rfl) dX2_when_12 ⟨Nat.le_of_ble_eq_true rfl, Nat.le_of_ble_eq_true rfl⟩ (fun r3 u3 H locs hw hP hD hS => ?_)
  obtain rfl : r3 = p_X2_against S a1 a2 (p_X2_asWanted a3) (p_X2_asWanted a4) := hw.1
  obtain rfl : S = u3 := hw.2.symm
  refine lv_istore (lv' := [(5, .int (p_X2_against S a1 a2 (p_X2_asWanted a3) (p_X2_asWanted a4))), (0, .ref h), (1, .int a1), (2, .int a2), (3, .int a3), (4, .int a4)]) hx hb dX2_when_15 hl (by decide) rfl (fun ls hl => ?_)
  refine lv_iload hx hb dX2_when_17 (lv_at hl 0 rfl) ?_
  refine lv_if_ge (tgt := 27) hx hb dX2_when_19 (by decide) (fun c4 => ?_) (fun c4 => ?_)
  · have hok := hok.1 c4
    refine lv_aload_n hx hb dX2_when_27 rfl (lv_at hl 1 rfl) ?_
    refine lv_iload_n hx hb dX2_when_28 rfl (lv_at hl 2 rfl) ?_
    refine lv_iconst (v := 5) hx hb dX2_when_29 (by decide) ?_
    refine lv_aload_n hx hb dX2_when_30 rfl (lv_at hl 1 rfl) ?_
    refine lv_iload_n hx hb dX2_when_31 rfl (lv_at hl 3 rfl) ?_
    obtain ⟨o5, hok⟩ := hok
    refine wx_callVi (As := [.int a2]) (rest := [.int 5, .int a1, .ref h]) kst_K hC (c_X2_at l D h ad cI cJ cZ S a2 o5) (cwV 1 hts gX2_when_X2_at rfl rfl rfl (by decide +kernel) ⟨Nat.le_of_ble_eq_true rfl, Nat.le_of_ble_eq_true rfl⟩) hK hP hD hS hA (wm_cell hK hP) rfl hl.1 rfl (Nat.le_of_ble_eq_true rfl) dX2_when_32 ⟨Nat.le_of_ble_eq_true rfl, Nat.le_of_ble_eq_true rfl⟩ (fun r5 u5 H locs hw hP hD hS => ?_)
    obtain rfl : r5 = p_X2_at S a2 := hw.1
    obtain rfl : S = u5 := hw.2.symm
    refine lv_aload_n hx hb dX2_when_35 rfl (lv_at hl 1 rfl) ?_
    refine lv_iload_n hx hb dX2_when_36 rfl (lv_at hl 4 rfl) ?_
    obtain ⟨o6, hok⟩ := hok
    refine wx_callVi (As := [.int a3]) (rest := [.int (p_X2_at S a2), .int 5, .int a1, .ref h]) kst_K hC (c_X2_at l D h ad cI cJ cZ S a3 o6) (cwV 1 hts gX2_when_X2_at rfl rfl rfl (by decide +kernel) ⟨Nat.le_of_ble_eq_true rfl, Nat.le_of_ble_eq_true rfl⟩) hK hP hD hS hA (wm_cell hK hP) rfl hl.1 rfl (Nat.le_of_ble_eq_true rfl) dX2_when_37 ⟨Nat.le_of_ble_eq_true rfl, Nat.le_of_ble_eq_true rfl⟩ (fun r6 u6 H locs hw hP hD hS => ?_)
    obtain rfl : r6 = p_X2_at S a3 := hw.1
    obtain rfl : S = u6 := hw.2.symm
    refine lv_aload_n hx hb dX2_when_40 rfl (lv_at hl 1 rfl) ?_
    refine lv_iload hx hb dX2_when_41 (lv_at hl 5 rfl) ?_
    obtain ⟨o7, hok⟩ := hok
    refine wx_callVi (As := [.int a4]) (rest := [.int (p_X2_at S a3), .int (p_X2_at S a2), .int 5, .int a1, .ref h]) kst_K hC (c_X2_at l D h ad cI cJ cZ S a4 o7) (cwV 1 hts gX2_when_X2_at rfl rfl rfl (by decide +kernel) ⟨Nat.le_of_ble_eq_true rfl, Nat.le_of_ble_eq_true rfl⟩) hK hP hD hS hA (wm_cell hK hP) rfl hl.1 rfl (Nat.le_of_ble_eq_true rfl) dX2_when_43 ⟨Nat.le_of_ble_eq_true rfl, Nat.le_of_ble_eq_true rfl⟩ (fun r7 u7 H locs hw hP hD hS => ?_)
    obtain rfl : r7 = p_X2_at S a4 := hw.1
    obtain rfl : S = u7 := hw.2.symm
    refine lv_lconst (v := 0) hx hb dX2_when_46 (by decide) ?_
    obtain ⟨o8, hok⟩ := hok
    refine wx_callVi (As := [.int a1, .int 5, .int (p_X2_at S a2), .int (p_X2_at S a3), .int (p_X2_at S a4), .long 0]) (rest := []) kst_K hC (c_X2_make l D h ad cI cJ cZ S a1 5 (p_X2_at S a2) (p_X2_at S a3) (p_X2_at S a4) 0 o8) (cwV 6 hts gX2_when_X2_make rfl rfl rfl (by decide +kernel) ⟨Nat.le_of_ble_eq_true rfl, Nat.le_of_ble_eq_true rfl⟩) hK hP hD hS hA (wm_cell hK hP) rfl hl.1 rfl (Nat.le_of_ble_eq_true rfl) dX2_when_47 ⟨Nat.le_of_ble_eq_true rfl, Nat.le_of_ble_eq_true rfl⟩ (fun r8 u8 H locs hw hP hD hS => ?_)
    obtain rfl : r8 = (p_X2_make S a1 5 (p_X2_at S a2) (p_X2_at S a3) (p_X2_at S a4) 0).1 := congrArg Prod.fst hw
    obtain rfl : u8 = (p_X2_make S a1 5 (p_X2_at S a2) (p_X2_at S a3) (p_X2_at S a4) 0).2 := congrArg Prod.snd hw
    exact wx_reti kst_K ((p_X2_make S a1 5 (p_X2_at S a2) (p_X2_at S a3) (p_X2_at S a4) 0).2) hx hb hr hlk hK hP hD hS dX2_when_50 (by unfold p_X2_when; rw [if_pos c4])
  · have hok := hok.2 c4
    refine lv_iload hx hb dX2_when_22 (lv_at hl 0 rfl) ?_
    refine lv_goto (tgt := 50) hx hb dX2_when_24 (by decide) ?_
    exact wx_reti kst_K S hx hb hr hlk hK hP hD hS dX2_when_50 (by unfold p_X2_when; rw [if_neg c4])
def p_X2_fixed (S : MS) (a1 : Int32) (a2 : Int32) (a3 : Int32) : Int32 × MS := if 0 ≤ (p_X2_against S a1 a2 (-9) (-9)) then ((p_X2_make S a1 6 (p_X2_at S a2) 0 0 a3.toInt64).1, (p_X2_make S a1 6 (p_X2_at S a2) 0 0 a3.toInt64).2) else (p_X2_against S a1 a2 (-9) (-9), S)
def ok_X2_fixed (S : MS) (a1 : Int32) (a2 : Int32) (a3 : Int32) : Prop := (ok_X2_against S a1 a2 (-9) (-9)) ∧ ((0 ≤ (p_X2_against S a1 a2 (-9) (-9)) → ((ok_X2_at S a2) ∧ ((ok_X2_make S a1 6 (p_X2_at S a2) 0 0 a3.toInt64) ∧ (True)))) ∧ (¬ 0 ≤ (p_X2_against S a1 a2 (-9) (-9)) → True))
set_option maxHeartbeats 4000000 in
set_option maxRecDepth 100000 in
theorem c_X2_fixed (l : Launch) (D : va_G) (h : Nat) (ad : Nat → Nat) (cI cJ cZ : ClassId) (S : MS) (a1 : Int32) (a2 : Int32) (a3 : Int32) (hok : ok_X2_fixed S a1 a2 a3) : MetI l yX2_fixed wsX2_fixed ({ frames := 3, cells := 0, slots := 0, locals := 67 } : Room) D (va_K D vwCl (mTy cI cJ cZ)) (mW h ad cI cJ cZ) S [.ref h, .int a1, .int a2, .int a3] (fun r u => (r, u) = p_X2_fixed S a1 a2 a3) 0 0 := by
  unfold ok_X2_fixed at hok
  refine MetI.of (cc := cX2_fixed) (maxL := 5) (by decide) rfl (Nat.le_of_ble_eq_true rfl) ?_
  intro p e s m below meth c A ls hC hr hlk hnm hK hP hD hA hl
  obtain ⟨hx, hb, hml, hown, hts⟩ := id hC
  have hS : va_S A s.heap s.heap [] := va_S.rf
  have hin : ∀ w ∈ wsX20, w ∈ wsX2_fixed := fun _ h => List.mem_cons_of_mem _ (List.mem_append_right _ h)
  have hl : lv_has ls 5 [(0, .ref h), (1, .int a1), (2, .int a2), (3, .int a3)] := hl
  refine lv_aload_n hx hb dX2_fixed_0 rfl (lv_at hl 0 rfl) ?_
  refine lv_iload_n hx hb dX2_fixed_1 rfl (lv_at hl 1 rfl) ?_
  refine lv_iload_n hx hb dX2_fixed_2 rfl (lv_at hl 2 rfl) ?_
  refine lv_bipush (v := (-9)) hx hb dX2_fixed_3 (by decide) ?_
  refine lv_bipush (v := (-9)) hx hb dX2_fixed_5 (by decide) ?_
  obtain ⟨o1, hok⟩ := hok
  refine wx_callVi (As := [.int a1, .int a2, .int (-9), .int (-9)]) (rest := []) kst_K hC (c_X2_against l D h ad cI cJ cZ S a1 a2 (-9) (-9) o1) (cwV 4 hts gX2_fixed_X2_against rfl rfl rfl (by decide +kernel) ⟨Nat.le_of_ble_eq_true rfl, Nat.le_of_ble_eq_true rfl⟩) hK hP hD hS hA (wm_cell hK hP) rfl hl.1 rfl (Nat.le_of_ble_eq_true rfl) dX2_fixed_7 ⟨Nat.le_of_ble_eq_true rfl, Nat.le_of_ble_eq_true rfl⟩ (fun r1 u1 H locs hw hP hD hS => ?_)
  obtain rfl : r1 = p_X2_against S a1 a2 (-9) (-9) := hw.1
  obtain rfl : S = u1 := hw.2.symm
  refine lv_istore (lv' := [(4, .int (p_X2_against S a1 a2 (-9) (-9))), (0, .ref h), (1, .int a1), (2, .int a2), (3, .int a3)]) hx hb dX2_fixed_10 hl (by decide) rfl (fun ls hl => ?_)
  refine lv_iload hx hb dX2_fixed_12 (lv_at hl 0 rfl) ?_
  refine lv_if_ge (tgt := 22) hx hb dX2_fixed_14 (by decide) (fun c2 => ?_) (fun c2 => ?_)
  · have hok := hok.1 c2
    refine lv_aload_n hx hb dX2_fixed_22 rfl (lv_at hl 1 rfl) ?_
    refine lv_iload_n hx hb dX2_fixed_23 rfl (lv_at hl 2 rfl) ?_
    refine lv_bipush (v := 6) hx hb dX2_fixed_24 (by decide) ?_
    refine lv_aload_n hx hb dX2_fixed_26 rfl (lv_at hl 1 rfl) ?_
    refine lv_iload_n hx hb dX2_fixed_27 rfl (lv_at hl 3 rfl) ?_
    obtain ⟨o3, hok⟩ := hok
    refine wx_callVi (As := [.int a2]) (rest := [.int 6, .int a1, .ref h]) kst_K hC (c_X2_at l D h ad cI cJ cZ S a2 o3) (cwV 1 hts gX2_fixed_X2_at rfl rfl rfl (by decide +kernel) ⟨Nat.le_of_ble_eq_true rfl, Nat.le_of_ble_eq_true rfl⟩) hK hP hD hS hA (wm_cell hK hP) rfl hl.1 rfl (Nat.le_of_ble_eq_true rfl) dX2_fixed_28 ⟨Nat.le_of_ble_eq_true rfl, Nat.le_of_ble_eq_true rfl⟩ (fun r3 u3 H locs hw hP hD hS => ?_)
    obtain rfl : r3 = p_X2_at S a2 := hw.1
    obtain rfl : S = u3 := hw.2.symm
    refine lv_iconst (v := 0) hx hb dX2_fixed_31 (by decide) ?_
    refine lv_iconst (v := 0) hx hb dX2_fixed_32 (by decide) ?_
    refine lv_iload_n hx hb dX2_fixed_33 rfl (lv_at hl 4 rfl) ?_
    refine lv_i2l (v := a3.toInt64) hx hb dX2_fixed_34 rfl ?_
    obtain ⟨o4, hok⟩ := hok
    refine wx_callVi (As := [.int a1, .int 6, .int (p_X2_at S a2), .int 0, .int 0, .long a3.toInt64]) (rest := []) kst_K hC (c_X2_make l D h ad cI cJ cZ S a1 6 (p_X2_at S a2) 0 0 a3.toInt64 o4) (cwV 6 hts gX2_fixed_X2_make rfl rfl rfl (by decide +kernel) ⟨Nat.le_of_ble_eq_true rfl, Nat.le_of_ble_eq_true rfl⟩) hK hP hD hS hA (wm_cell hK hP) rfl hl.1 rfl (Nat.le_of_ble_eq_true rfl) dX2_fixed_35 ⟨Nat.le_of_ble_eq_true rfl, Nat.le_of_ble_eq_true rfl⟩ (fun r4 u4 H locs hw hP hD hS => ?_)
    obtain rfl : r4 = (p_X2_make S a1 6 (p_X2_at S a2) 0 0 a3.toInt64).1 := congrArg Prod.fst hw
    obtain rfl : u4 = (p_X2_make S a1 6 (p_X2_at S a2) 0 0 a3.toInt64).2 := congrArg Prod.snd hw
    exact wx_reti kst_K ((p_X2_make S a1 6 (p_X2_at S a2) 0 0 a3.toInt64).2) hx hb hr hlk hK hP hD hS dX2_fixed_38 (by unfold p_X2_fixed; rw [if_pos c2])
  · have hok := hok.2 c2
    refine lv_iload hx hb dX2_fixed_17 (lv_at hl 0 rfl) ?_
    refine lv_goto (tgt := 38) hx hb dX2_fixed_19 (by decide) ?_
    exact wx_reti kst_K S hx hb hr hlk hK hP hD hS dX2_fixed_38 (by unfold p_X2_fixed; rw [if_neg c2])
def p_X2_fed (S : MS) (a1 : Int32) (a2 : Int32) (a3 : Int32) : Int32 × MS := if 0 ≤ (p_X2_against S a1 a2 (p_X2_asWanted a3) (-9)) then ((p_X2_make S a1 7 (p_X2_at S a2) (p_X2_at S a3) 0 0).1, (p_X2_make S a1 7 (p_X2_at S a2) (p_X2_at S a3) 0 0).2) else (p_X2_against S a1 a2 (p_X2_asWanted a3) (-9), S)
def ok_X2_fed (S : MS) (a1 : Int32) (a2 : Int32) (a3 : Int32) : Prop := (ok_X2_against S a1 a2 (p_X2_asWanted a3) (-9)) ∧ ((0 ≤ (p_X2_against S a1 a2 (p_X2_asWanted a3) (-9)) → ((ok_X2_at S a2) ∧ ((ok_X2_at S a3) ∧ ((ok_X2_make S a1 7 (p_X2_at S a2) (p_X2_at S a3) 0 0) ∧ (True))))) ∧ (¬ 0 ≤ (p_X2_against S a1 a2 (p_X2_asWanted a3) (-9)) → True))
set_option maxHeartbeats 4000000 in
set_option maxRecDepth 100000 in
theorem c_X2_fed (l : Launch) (D : va_G) (h : Nat) (ad : Nat → Nat) (cI cJ cZ : ClassId) (S : MS) (a1 : Int32) (a2 : Int32) (a3 : Int32) (hok : ok_X2_fed S a1 a2 a3) : MetI l yX2_fed wsX2_fed ({ frames := 3, cells := 0, slots := 0, locals := 67 } : Room) D (va_K D vwCl (mTy cI cJ cZ)) (mW h ad cI cJ cZ) S [.ref h, .int a1, .int a2, .int a3] (fun r u => (r, u) = p_X2_fed S a1 a2 a3) 0 0 := by
  unfold ok_X2_fed at hok
  refine MetI.of (cc := cX2_fed) (maxL := 5) (by decide) rfl (Nat.le_of_ble_eq_true rfl) ?_
  intro p e s m below meth c A ls hC hr hlk hnm hK hP hD hA hl
  obtain ⟨hx, hb, hml, hown, hts⟩ := id hC
  have hS : va_S A s.heap s.heap [] := va_S.rf
  have hin : ∀ w ∈ wsX20, w ∈ wsX2_fed := fun _ h => List.mem_cons_of_mem _ (List.mem_append_right _ h)
  have hl : lv_has ls 5 [(0, .ref h), (1, .int a1), (2, .int a2), (3, .int a3)] := hl
  refine lv_aload_n hx hb dX2_fed_0 rfl (lv_at hl 0 rfl) ?_
  refine lv_iload_n hx hb dX2_fed_1 rfl (lv_at hl 1 rfl) ?_
  refine lv_iload_n hx hb dX2_fed_2 rfl (lv_at hl 2 rfl) ?_
  refine lv_iload_n hx hb dX2_fed_3 rfl (lv_at hl 3 rfl) ?_
  refine wx_callS (As := [.int a3]) (rest := [.int a2, .int a1, .ref h]) hC (c_X2_asWanted l a3) (va_cwS 1 hts gX2_fed_X2_asWanted rfl rfl rfl (by decide +kernel) ⟨Nat.le_of_ble_eq_true rfl, Nat.le_of_ble_eq_true rfl⟩) rfl hl.1 rfl (Nat.le_of_ble_eq_true rfl) dX2_fed_4 ⟨Nat.le_of_ble_eq_true rfl, Nat.le_of_ble_eq_true rfl⟩ (fun r1 hw => ?_)
  obtain rfl : r1 = p_X2_asWanted a3 := hw
  refine lv_bipush (v := (-9)) hx hb dX2_fed_7 (by decide) ?_
  obtain ⟨o2, hok⟩ := hok
  refine wx_callVi (As := [.int a1, .int a2, .int (p_X2_asWanted a3), .int (-9)]) (rest := []) kst_K hC (c_X2_against l D h ad cI cJ cZ S a1 a2 (p_X2_asWanted a3) (-9) o2) (cwV 4 hts gX2_fed_X2_against rfl rfl rfl (by decide +kernel) ⟨Nat.le_of_ble_eq_true rfl, Nat.le_of_ble_eq_true rfl⟩) hK hP hD hS hA (wm_cell hK hP) rfl hl.1 rfl (Nat.le_of_ble_eq_true rfl) dX2_fed_9 ⟨Nat.le_of_ble_eq_true rfl, Nat.le_of_ble_eq_true rfl⟩ (fun r2 u2 H locs hw hP hD hS => ?_)
  obtain rfl : r2 = p_X2_against S a1 a2 (p_X2_asWanted a3) (-9) := hw.1
  obtain rfl : S = u2 := hw.2.symm
  refine lv_istore (lv' := [(4, .int (p_X2_against S a1 a2 (p_X2_asWanted a3) (-9))), (0, .ref h), (1, .int a1), (2, .int a2), (3, .int a3)]) hx hb dX2_fed_12 hl (by decide) rfl (fun ls hl => ?_)
  refine lv_iload hx hb dX2_fed_14 (lv_at hl 0 rfl) ?_
  refine lv_if_ge (tgt := 24) hx hb dX2_fed_16 (by decide) (fun c3 => ?_) (fun c3 => ?_)
  · have hok := hok.1 c3
    refine lv_aload_n hx hb dX2_fed_24 rfl (lv_at hl 1 rfl) ?_
    refine lv_iload_n hx hb dX2_fed_25 rfl (lv_at hl 2 rfl) ?_
    refine lv_bipush (v := 7) hx hb dX2_fed_26 (by decide) ?_
    refine lv_aload_n hx hb dX2_fed_28 rfl (lv_at hl 1 rfl) ?_
    refine lv_iload_n hx hb dX2_fed_29 rfl (lv_at hl 3 rfl) ?_
    obtain ⟨o4, hok⟩ := hok
    refine wx_callVi (As := [.int a2]) (rest := [.int 7, .int a1, .ref h]) kst_K hC (c_X2_at l D h ad cI cJ cZ S a2 o4) (cwV 1 hts gX2_fed_X2_at rfl rfl rfl (by decide +kernel) ⟨Nat.le_of_ble_eq_true rfl, Nat.le_of_ble_eq_true rfl⟩) hK hP hD hS hA (wm_cell hK hP) rfl hl.1 rfl (Nat.le_of_ble_eq_true rfl) dX2_fed_30 ⟨Nat.le_of_ble_eq_true rfl, Nat.le_of_ble_eq_true rfl⟩ (fun r4 u4 H locs hw hP hD hS => ?_)
    obtain rfl : r4 = p_X2_at S a2 := hw.1
    obtain rfl : S = u4 := hw.2.symm
    refine lv_aload_n hx hb dX2_fed_33 rfl (lv_at hl 1 rfl) ?_
    refine lv_iload_n hx hb dX2_fed_34 rfl (lv_at hl 4 rfl) ?_
    obtain ⟨o5, hok⟩ := hok
    refine wx_callVi (As := [.int a3]) (rest := [.int (p_X2_at S a2), .int 7, .int a1, .ref h]) kst_K hC (c_X2_at l D h ad cI cJ cZ S a3 o5) (cwV 1 hts gX2_fed_X2_at rfl rfl rfl (by decide +kernel) ⟨Nat.le_of_ble_eq_true rfl, Nat.le_of_ble_eq_true rfl⟩) hK hP hD hS hA (wm_cell hK hP) rfl hl.1 rfl (Nat.le_of_ble_eq_true rfl) dX2_fed_35 ⟨Nat.le_of_ble_eq_true rfl, Nat.le_of_ble_eq_true rfl⟩ (fun r5 u5 H locs hw hP hD hS => ?_)
    obtain rfl : r5 = p_X2_at S a3 := hw.1
    obtain rfl : S = u5 := hw.2.symm
    refine lv_iconst (v := 0) hx hb dX2_fed_38 (by decide) ?_
    refine lv_lconst (v := 0) hx hb dX2_fed_39 (by decide) ?_
    obtain ⟨o6, hok⟩ := hok
    refine wx_callVi (As := [.int a1, .int 7, .int (p_X2_at S a2), .int (p_X2_at S a3), .int 0, .long 0]) (rest := []) kst_K hC (c_X2_make l D h ad cI cJ cZ S a1 7 (p_X2_at S a2) (p_X2_at S a3) 0 0 o6) (cwV 6 hts gX2_fed_X2_make rfl rfl rfl (by decide +kernel) ⟨Nat.le_of_ble_eq_true rfl, Nat.le_of_ble_eq_true rfl⟩) hK hP hD hS hA (wm_cell hK hP) rfl hl.1 rfl (Nat.le_of_ble_eq_true rfl) dX2_fed_40 ⟨Nat.le_of_ble_eq_true rfl, Nat.le_of_ble_eq_true rfl⟩ (fun r6 u6 H locs hw hP hD hS => ?_)
    obtain rfl : r6 = (p_X2_make S a1 7 (p_X2_at S a2) (p_X2_at S a3) 0 0).1 := congrArg Prod.fst hw
    obtain rfl : u6 = (p_X2_make S a1 7 (p_X2_at S a2) (p_X2_at S a3) 0 0).2 := congrArg Prod.snd hw
    exact wx_reti kst_K ((p_X2_make S a1 7 (p_X2_at S a2) (p_X2_at S a3) 0 0).2) hx hb hr hlk hK hP hD hS dX2_fed_43 (by unfold p_X2_fed; rw [if_pos c3])
  · have hok := hok.2 c3
    refine lv_iload hx hb dX2_fed_19 (lv_at hl 0 rfl) ?_
    refine lv_goto (tgt := 43) hx hb dX2_fed_21 (by decide) ?_
    exact wx_reti kst_K S hx hb hr hlk hK hP hD hS dX2_fed_43 (by unfold p_X2_fed; rw [if_neg c3])
def p_X2_guarded (S : MS) (a1 : Int32) (a2 : Int32) (a3 : Int32) : Int32 × MS := if 0 ≤ (p_X2_against S a1 a2 (p_X2_asWanted a3) (-9)) then ((p_X2_make S a1 8 (p_X2_at S a2) (p_X2_at S a3) 0 0).1, (p_X2_make S a1 8 (p_X2_at S a2) (p_X2_at S a3) 0 0).2) else (p_X2_against S a1 a2 (p_X2_asWanted a3) (-9), S)
def ok_X2_guarded (S : MS) (a1 : Int32) (a2 : Int32) (a3 : Int32) : Prop := (ok_X2_against S a1 a2 (p_X2_asWanted a3) (-9)) ∧ ((0 ≤ (p_X2_against S a1 a2 (p_X2_asWanted a3) (-9)) → ((ok_X2_at S a2) ∧ ((ok_X2_at S a3) ∧ ((ok_X2_make S a1 8 (p_X2_at S a2) (p_X2_at S a3) 0 0) ∧ (True))))) ∧ (¬ 0 ≤ (p_X2_against S a1 a2 (p_X2_asWanted a3) (-9)) → True))
set_option maxHeartbeats 4000000 in
set_option maxRecDepth 100000 in
theorem c_X2_guarded (l : Launch) (D : va_G) (h : Nat) (ad : Nat → Nat) (cI cJ cZ : ClassId) (S : MS) (a1 : Int32) (a2 : Int32) (a3 : Int32) (hok : ok_X2_guarded S a1 a2 a3) : MetI l yX2_guarded wsX2_guarded ({ frames := 3, cells := 0, slots := 0, locals := 67 } : Room) D (va_K D vwCl (mTy cI cJ cZ)) (mW h ad cI cJ cZ) S [.ref h, .int a1, .int a2, .int a3] (fun r u => (r, u) = p_X2_guarded S a1 a2 a3) 0 0 := by
  unfold ok_X2_guarded at hok
  refine MetI.of (cc := cX2_guarded) (maxL := 5) (by decide) rfl (Nat.le_of_ble_eq_true rfl) ?_
  intro p e s m below meth c A ls hC hr hlk hnm hK hP hD hA hl
  obtain ⟨hx, hb, hml, hown, hts⟩ := id hC
  have hS : va_S A s.heap s.heap [] := va_S.rf
  have hin : ∀ w ∈ wsX20, w ∈ wsX2_guarded := fun _ h => List.mem_cons_of_mem _ (List.mem_append_right _ h)
  have hl : lv_has ls 5 [(0, .ref h), (1, .int a1), (2, .int a2), (3, .int a3)] := hl
  refine lv_aload_n hx hb dX2_guarded_0 rfl (lv_at hl 0 rfl) ?_
  refine lv_iload_n hx hb dX2_guarded_1 rfl (lv_at hl 1 rfl) ?_
  refine lv_iload_n hx hb dX2_guarded_2 rfl (lv_at hl 2 rfl) ?_
  refine lv_iload_n hx hb dX2_guarded_3 rfl (lv_at hl 3 rfl) ?_
  refine wx_callS (As := [.int a3]) (rest := [.int a2, .int a1, .ref h]) hC (c_X2_asWanted l a3) (va_cwS 1 hts gX2_guarded_X2_asWanted rfl rfl rfl (by decide +kernel) ⟨Nat.le_of_ble_eq_true rfl, Nat.le_of_ble_eq_true rfl⟩) rfl hl.1 rfl (Nat.le_of_ble_eq_true rfl) dX2_guarded_4 ⟨Nat.le_of_ble_eq_true rfl, Nat.le_of_ble_eq_true rfl⟩ (fun r1 hw => ?_)
  obtain rfl : r1 = p_X2_asWanted a3 := hw
  refine lv_bipush (v := (-9)) hx hb dX2_guarded_7 (by decide) ?_
  obtain ⟨o2, hok⟩ := hok
  refine wx_callVi (As := [.int a1, .int a2, .int (p_X2_asWanted a3), .int (-9)]) (rest := []) kst_K hC (c_X2_against l D h ad cI cJ cZ S a1 a2 (p_X2_asWanted a3) (-9) o2) (cwV 4 hts gX2_guarded_X2_against rfl rfl rfl (by decide +kernel) ⟨Nat.le_of_ble_eq_true rfl, Nat.le_of_ble_eq_true rfl⟩) hK hP hD hS hA (wm_cell hK hP) rfl hl.1 rfl (Nat.le_of_ble_eq_true rfl) dX2_guarded_9 ⟨Nat.le_of_ble_eq_true rfl, Nat.le_of_ble_eq_true rfl⟩ (fun r2 u2 H locs hw hP hD hS => ?_)
  obtain rfl : r2 = p_X2_against S a1 a2 (p_X2_asWanted a3) (-9) := hw.1
  obtain rfl : S = u2 := hw.2.symm
  refine lv_istore (lv' := [(4, .int (p_X2_against S a1 a2 (p_X2_asWanted a3) (-9))), (0, .ref h), (1, .int a1), (2, .int a2), (3, .int a3)]) hx hb dX2_guarded_12 hl (by decide) rfl (fun ls hl => ?_)
  refine lv_iload hx hb dX2_guarded_14 (lv_at hl 0 rfl) ?_
  refine lv_if_ge (tgt := 24) hx hb dX2_guarded_16 (by decide) (fun c3 => ?_) (fun c3 => ?_)
  · have hok := hok.1 c3
    refine lv_aload_n hx hb dX2_guarded_24 rfl (lv_at hl 1 rfl) ?_
    refine lv_iload_n hx hb dX2_guarded_25 rfl (lv_at hl 2 rfl) ?_
    refine lv_bipush (v := 8) hx hb dX2_guarded_26 (by decide) ?_
    refine lv_aload_n hx hb dX2_guarded_28 rfl (lv_at hl 1 rfl) ?_
    refine lv_iload_n hx hb dX2_guarded_29 rfl (lv_at hl 3 rfl) ?_
    obtain ⟨o4, hok⟩ := hok
    refine wx_callVi (As := [.int a2]) (rest := [.int 8, .int a1, .ref h]) kst_K hC (c_X2_at l D h ad cI cJ cZ S a2 o4) (cwV 1 hts gX2_guarded_X2_at rfl rfl rfl (by decide +kernel) ⟨Nat.le_of_ble_eq_true rfl, Nat.le_of_ble_eq_true rfl⟩) hK hP hD hS hA (wm_cell hK hP) rfl hl.1 rfl (Nat.le_of_ble_eq_true rfl) dX2_guarded_30 ⟨Nat.le_of_ble_eq_true rfl, Nat.le_of_ble_eq_true rfl⟩ (fun r4 u4 H locs hw hP hD hS => ?_)
    obtain rfl : r4 = p_X2_at S a2 := hw.1
    obtain rfl : S = u4 := hw.2.symm
    refine lv_aload_n hx hb dX2_guarded_33 rfl (lv_at hl 1 rfl) ?_
    refine lv_iload_n hx hb dX2_guarded_34 rfl (lv_at hl 4 rfl) ?_
    obtain ⟨o5, hok⟩ := hok
    refine wx_callVi (As := [.int a3]) (rest := [.int (p_X2_at S a2), .int 8, .int a1, .ref h]) kst_K hC (c_X2_at l D h ad cI cJ cZ S a3 o5) (cwV 1 hts gX2_guarded_X2_at rfl rfl rfl (by decide +kernel) ⟨Nat.le_of_ble_eq_true rfl, Nat.le_of_ble_eq_true rfl⟩) hK hP hD hS hA (wm_cell hK hP) rfl hl.1 rfl (Nat.le_of_ble_eq_true rfl) dX2_guarded_35 ⟨Nat.le_of_ble_eq_true rfl, Nat.le_of_ble_eq_true rfl⟩ (fun r5 u5 H locs hw hP hD hS => ?_)
    obtain rfl : r5 = p_X2_at S a3 := hw.1
    obtain rfl : S = u5 := hw.2.symm
    refine lv_iconst (v := 0) hx hb dX2_guarded_38 (by decide) ?_
    refine lv_lconst (v := 0) hx hb dX2_guarded_39 (by decide) ?_
    obtain ⟨o6, hok⟩ := hok
    refine wx_callVi (As := [.int a1, .int 8, .int (p_X2_at S a2), .int (p_X2_at S a3), .int 0, .long 0]) (rest := []) kst_K hC (c_X2_make l D h ad cI cJ cZ S a1 8 (p_X2_at S a2) (p_X2_at S a3) 0 0 o6) (cwV 6 hts gX2_guarded_X2_make rfl rfl rfl (by decide +kernel) ⟨Nat.le_of_ble_eq_true rfl, Nat.le_of_ble_eq_true rfl⟩) hK hP hD hS hA (wm_cell hK hP) rfl hl.1 rfl (Nat.le_of_ble_eq_true rfl) dX2_guarded_40 ⟨Nat.le_of_ble_eq_true rfl, Nat.le_of_ble_eq_true rfl⟩ (fun r6 u6 H locs hw hP hD hS => ?_)
    obtain rfl : r6 = (p_X2_make S a1 8 (p_X2_at S a2) (p_X2_at S a3) 0 0).1 := congrArg Prod.fst hw
    obtain rfl : u6 = (p_X2_make S a1 8 (p_X2_at S a2) (p_X2_at S a3) 0 0).2 := congrArg Prod.snd hw
    exact wx_reti kst_K ((p_X2_make S a1 8 (p_X2_at S a2) (p_X2_at S a3) 0 0).2) hx hb hr hlk hK hP hD hS dX2_guarded_43 (by unfold p_X2_guarded; rw [if_pos c3])
  · have hok := hok.2 c3
    refine lv_iload hx hb dX2_guarded_19 (lv_at hl 0 rfl) ?_
    refine lv_goto (tgt := 43) hx hb dX2_guarded_21 (by decide) ?_
    exact wx_reti kst_K S hx hb hr hlk hK hP hD hS dX2_guarded_43 (by unfold p_X2_guarded; rw [if_neg c3])
def p_X2_called (S : MS) (a1 : Int32) (a2 : Int32) : Int32 × MS := if (p_X2_isPlace a1) = 0 then ((-1), S) else (if (p_X2_isPlace a2) = 0 then ((-1), S) else ((p_X2_make S a1 9 a2 0 0 0).1, (p_X2_make S a1 9 a2 0 0 0).2))
def ok_X2_called (S : MS) (a1 : Int32) (a2 : Int32) : Prop := ((p_X2_isPlace a1) = 0 → True) ∧ (¬ (p_X2_isPlace a1) = 0 → (((p_X2_isPlace a2) = 0 → True) ∧ (¬ (p_X2_isPlace a2) = 0 → ((ok_X2_make S a1 9 a2 0 0 0) ∧ (True)))))
set_option maxHeartbeats 4000000 in
set_option maxRecDepth 100000 in
theorem c_X2_called (l : Launch) (D : va_G) (h : Nat) (ad : Nat → Nat) (cI cJ cZ : ClassId) (S : MS) (a1 : Int32) (a2 : Int32) (hok : ok_X2_called S a1 a2) : MetI l yX2_called wsX2_called ({ frames := 2, cells := 0, slots := 0, locals := 42 } : Room) D (va_K D vwCl (mTy cI cJ cZ)) (mW h ad cI cJ cZ) S [.ref h, .int a1, .int a2] (fun r u => (r, u) = p_X2_called S a1 a2) 0 0 := by
  unfold ok_X2_called at hok
  refine MetI.of (cc := cX2_called) (maxL := 3) (by decide) rfl (Nat.le_of_ble_eq_true rfl) ?_
  intro p e s m below meth c A ls hC hr hlk hnm hK hP hD hA hl
  obtain ⟨hx, hb, hml, hown, hts⟩ := id hC
  have hS : va_S A s.heap s.heap [] := va_S.rf
  have hin : ∀ w ∈ wsX20, w ∈ wsX2_called := fun _ h => List.mem_cons_of_mem _ (List.mem_append_right _ h)
  have hl : lv_has ls 3 [(0, .ref h), (1, .int a1), (2, .int a2)] := hl
  refine lv_iload_n hx hb dX2_called_0 rfl (lv_at hl 1 rfl) ?_
  refine wx_callS (As := [.int a1]) (rest := []) hC (c_X2_isPlace l a1) (va_cwS 1 hts gX2_called_X2_isPlace rfl rfl rfl (by decide +kernel) ⟨Nat.le_of_ble_eq_true rfl, Nat.le_of_ble_eq_true rfl⟩) rfl hl.1 rfl (Nat.le_of_ble_eq_true rfl) dX2_called_1 ⟨Nat.le_of_ble_eq_true rfl, Nat.le_of_ble_eq_true rfl⟩ (fun r1 hw => ?_)
  obtain rfl : r1 = p_X2_isPlace a1 := hw
  refine lv_if_eq (tgt := 28) hx hb dX2_called_4 (by decide) (fun c2 => ?_) (fun c2 => ?_)
  · have hok := hok.1 c2
    refine lv_iconst (v := (-1)) hx hb dX2_called_28 (by decide) ?_
    exact wx_reti kst_K S hx hb hr hlk hK hP hD hS dX2_called_29 (by unfold p_X2_called; rw [if_pos c2])
  · have hok := hok.2 c2
    refine lv_iload_n hx hb dX2_called_7 rfl (lv_at hl 2 rfl) ?_
    refine wx_callS (As := [.int a2]) (rest := []) hC (c_X2_isPlace l a2) (va_cwS 1 hts gX2_called_X2_isPlace rfl rfl rfl (by decide +kernel) ⟨Nat.le_of_ble_eq_true rfl, Nat.le_of_ble_eq_true rfl⟩) rfl hl.1 rfl (Nat.le_of_ble_eq_true rfl) dX2_called_8 ⟨Nat.le_of_ble_eq_true rfl, Nat.le_of_ble_eq_true rfl⟩ (fun r3 hw => ?_)
    obtain rfl : r3 = p_X2_isPlace a2 := hw
    refine lv_if_eq (tgt := 28) hx hb dX2_called_11 (by decide) (fun c4 => ?_) (fun c4 => ?_)
    · have hok := hok.1 c4
      refine lv_iconst (v := (-1)) hx hb dX2_called_28 (by decide) ?_
      exact wx_reti kst_K S hx hb hr hlk hK hP hD hS dX2_called_29 (by unfold p_X2_called; rw [if_neg c2, if_pos c4])
    · have hok := hok.2 c4
      refine lv_aload_n hx hb dX2_called_14 rfl (lv_at hl 0 rfl) ?_
      refine lv_iload_n hx hb dX2_called_15 rfl (lv_at hl 1 rfl) ?_
      refine lv_bipush (v := 9) hx hb dX2_called_16 (by decide) ?_
      refine lv_iload_n hx hb dX2_called_18 rfl (lv_at hl 2 rfl) ?_
      refine lv_iconst (v := 0) hx hb dX2_called_19 (by decide) ?_
      refine lv_iconst (v := 0) hx hb dX2_called_20 (by decide) ?_
      refine lv_lconst (v := 0) hx hb dX2_called_21 (by decide) ?_
      obtain ⟨o5, hok⟩ := hok
      refine wx_callVi (As := [.int a1, .int 9, .int a2, .int 0, .int 0, .long 0]) (rest := []) kst_K hC (c_X2_make l D h ad cI cJ cZ S a1 9 a2 0 0 0 o5) (cwV 6 hts gX2_called_X2_make rfl rfl rfl (by decide +kernel) ⟨Nat.le_of_ble_eq_true rfl, Nat.le_of_ble_eq_true rfl⟩) hK hP hD hS hA (wm_cell hK hP) rfl hl.1 rfl (Nat.le_of_ble_eq_true rfl) dX2_called_22 ⟨Nat.le_of_ble_eq_true rfl, Nat.le_of_ble_eq_true rfl⟩ (fun r5 u5 H locs hw hP hD hS => ?_)
      obtain rfl : r5 = (p_X2_make S a1 9 a2 0 0 0).1 := congrArg Prod.fst hw
      obtain rfl : u5 = (p_X2_make S a1 9 a2 0 0 0).2 := congrArg Prod.snd hw
      refine lv_goto (tgt := 29) hx hb dX2_called_25 (by decide) ?_
      exact wx_reti kst_K ((p_X2_make S a1 9 a2 0 0 0).2) hx hb hr hlk hK hP hD hS dX2_called_29 (by unfold p_X2_called; rw [if_neg c2, if_neg c4])
def p_X2_barred (S : MS) (a1 : Int32) (a2 : Int32) (a3 : Int32) : Int32 × MS := if 0 ≤ (p_X2_against S a1 a2 (-9) (-9)) then ((p_X2_make S a1 10 (p_X2_at S a2) 0 0 a3.toInt64).1, (p_X2_make S a1 10 (p_X2_at S a2) 0 0 a3.toInt64).2) else (p_X2_against S a1 a2 (-9) (-9), S)
def ok_X2_barred (S : MS) (a1 : Int32) (a2 : Int32) (a3 : Int32) : Prop := (ok_X2_against S a1 a2 (-9) (-9)) ∧ ((0 ≤ (p_X2_against S a1 a2 (-9) (-9)) → ((ok_X2_at S a2) ∧ ((ok_X2_make S a1 10 (p_X2_at S a2) 0 0 a3.toInt64) ∧ (True)))) ∧ (¬ 0 ≤ (p_X2_against S a1 a2 (-9) (-9)) → True))
set_option maxHeartbeats 4000000 in
set_option maxRecDepth 100000 in
theorem c_X2_barred (l : Launch) (D : va_G) (h : Nat) (ad : Nat → Nat) (cI cJ cZ : ClassId) (S : MS) (a1 : Int32) (a2 : Int32) (a3 : Int32) (hok : ok_X2_barred S a1 a2 a3) : MetI l yX2_barred wsX2_barred ({ frames := 3, cells := 0, slots := 0, locals := 67 } : Room) D (va_K D vwCl (mTy cI cJ cZ)) (mW h ad cI cJ cZ) S [.ref h, .int a1, .int a2, .int a3] (fun r u => (r, u) = p_X2_barred S a1 a2 a3) 0 0 := by
  unfold ok_X2_barred at hok
  refine MetI.of (cc := cX2_barred) (maxL := 5) (by decide) rfl (Nat.le_of_ble_eq_true rfl) ?_
  intro p e s m below meth c A ls hC hr hlk hnm hK hP hD hA hl
  obtain ⟨hx, hb, hml, hown, hts⟩ := id hC
  have hS : va_S A s.heap s.heap [] := va_S.rf
  have hin : ∀ w ∈ wsX20, w ∈ wsX2_barred := fun _ h => List.mem_cons_of_mem _ (List.mem_append_right _ h)
  have hl : lv_has ls 5 [(0, .ref h), (1, .int a1), (2, .int a2), (3, .int a3)] := hl
  refine lv_aload_n hx hb dX2_barred_0 rfl (lv_at hl 0 rfl) ?_
  refine lv_iload_n hx hb dX2_barred_1 rfl (lv_at hl 1 rfl) ?_
  refine lv_iload_n hx hb dX2_barred_2 rfl (lv_at hl 2 rfl) ?_
  refine lv_bipush (v := (-9)) hx hb dX2_barred_3 (by decide) ?_
  refine lv_bipush (v := (-9)) hx hb dX2_barred_5 (by decide) ?_
  obtain ⟨o1, hok⟩ := hok
  refine wx_callVi (As := [.int a1, .int a2, .int (-9), .int (-9)]) (rest := []) kst_K hC (c_X2_against l D h ad cI cJ cZ S a1 a2 (-9) (-9) o1) (cwV 4 hts gX2_barred_X2_against rfl rfl rfl (by decide +kernel) ⟨Nat.le_of_ble_eq_true rfl, Nat.le_of_ble_eq_true rfl⟩) hK hP hD hS hA (wm_cell hK hP) rfl hl.1 rfl (Nat.le_of_ble_eq_true rfl) dX2_barred_7 ⟨Nat.le_of_ble_eq_true rfl, Nat.le_of_ble_eq_true rfl⟩ (fun r1 u1 H locs hw hP hD hS => ?_)
  obtain rfl : r1 = p_X2_against S a1 a2 (-9) (-9) := hw.1
  obtain rfl : S = u1 := hw.2.symm
  refine lv_istore (lv' := [(4, .int (p_X2_against S a1 a2 (-9) (-9))), (0, .ref h), (1, .int a1), (2, .int a2), (3, .int a3)]) hx hb dX2_barred_10 hl (by decide) rfl (fun ls hl => ?_)
  refine lv_iload hx hb dX2_barred_12 (lv_at hl 0 rfl) ?_
  refine lv_if_ge (tgt := 22) hx hb dX2_barred_14 (by decide) (fun c2 => ?_) (fun c2 => ?_)
  · have hok := hok.1 c2
    refine lv_aload_n hx hb dX2_barred_22 rfl (lv_at hl 1 rfl) ?_
    refine lv_iload_n hx hb dX2_barred_23 rfl (lv_at hl 2 rfl) ?_
    refine lv_bipush (v := 10) hx hb dX2_barred_24 (by decide) ?_
    refine lv_aload_n hx hb dX2_barred_26 rfl (lv_at hl 1 rfl) ?_
    refine lv_iload_n hx hb dX2_barred_27 rfl (lv_at hl 3 rfl) ?_
    obtain ⟨o3, hok⟩ := hok
    refine wx_callVi (As := [.int a2]) (rest := [.int 10, .int a1, .ref h]) kst_K hC (c_X2_at l D h ad cI cJ cZ S a2 o3) (cwV 1 hts gX2_barred_X2_at rfl rfl rfl (by decide +kernel) ⟨Nat.le_of_ble_eq_true rfl, Nat.le_of_ble_eq_true rfl⟩) hK hP hD hS hA (wm_cell hK hP) rfl hl.1 rfl (Nat.le_of_ble_eq_true rfl) dX2_barred_28 ⟨Nat.le_of_ble_eq_true rfl, Nat.le_of_ble_eq_true rfl⟩ (fun r3 u3 H locs hw hP hD hS => ?_)
    obtain rfl : r3 = p_X2_at S a2 := hw.1
    obtain rfl : S = u3 := hw.2.symm
    refine lv_iconst (v := 0) hx hb dX2_barred_31 (by decide) ?_
    refine lv_iconst (v := 0) hx hb dX2_barred_32 (by decide) ?_
    refine lv_iload_n hx hb dX2_barred_33 rfl (lv_at hl 4 rfl) ?_
    refine lv_i2l (v := a3.toInt64) hx hb dX2_barred_34 rfl ?_
    obtain ⟨o4, hok⟩ := hok
    refine wx_callVi (As := [.int a1, .int 10, .int (p_X2_at S a2), .int 0, .int 0, .long a3.toInt64]) (rest := []) kst_K hC (c_X2_make l D h ad cI cJ cZ S a1 10 (p_X2_at S a2) 0 0 a3.toInt64 o4) (cwV 6 hts gX2_barred_X2_make rfl rfl rfl (by decide +kernel) ⟨Nat.le_of_ble_eq_true rfl, Nat.le_of_ble_eq_true rfl⟩) hK hP hD hS hA (wm_cell hK hP) rfl hl.1 rfl (Nat.le_of_ble_eq_true rfl) dX2_barred_35 ⟨Nat.le_of_ble_eq_true rfl, Nat.le_of_ble_eq_true rfl⟩ (fun r4 u4 H locs hw hP hD hS => ?_)
    obtain rfl : r4 = (p_X2_make S a1 10 (p_X2_at S a2) 0 0 a3.toInt64).1 := congrArg Prod.fst hw
    obtain rfl : u4 = (p_X2_make S a1 10 (p_X2_at S a2) 0 0 a3.toInt64).2 := congrArg Prod.snd hw
    exact wx_reti kst_K ((p_X2_make S a1 10 (p_X2_at S a2) 0 0 a3.toInt64).2) hx hb hr hlk hK hP hD hS dX2_barred_38 (by unfold p_X2_barred; rw [if_pos c2])
  · have hok := hok.2 c2
    refine lv_iload hx hb dX2_barred_17 (lv_at hl 0 rfl) ?_
    refine lv_goto (tgt := 38) hx hb dX2_barred_19 (by decide) ?_
    exact wx_reti kst_K S hx hb hr hlk hK hP hD hS dX2_barred_38 (by unfold p_X2_barred; rw [if_neg c2])
def p_X2_counted (S : MS) (a1 : Int32) (a2 : Int32) : Int32 × MS := if 0 ≤ (p_X2_against S a1 a2 (-9) (-9)) then ((p_X2_make S a1 11 (p_X2_at S a2) 0 0 0).1, (p_X2_make S a1 11 (p_X2_at S a2) 0 0 0).2) else (p_X2_against S a1 a2 (-9) (-9), S)
def ok_X2_counted (S : MS) (a1 : Int32) (a2 : Int32) : Prop := (ok_X2_against S a1 a2 (-9) (-9)) ∧ ((0 ≤ (p_X2_against S a1 a2 (-9) (-9)) → ((ok_X2_at S a2) ∧ ((ok_X2_make S a1 11 (p_X2_at S a2) 0 0 0) ∧ (True)))) ∧ (¬ 0 ≤ (p_X2_against S a1 a2 (-9) (-9)) → True))
set_option maxHeartbeats 4000000 in
set_option maxRecDepth 100000 in
theorem c_X2_counted (l : Launch) (D : va_G) (h : Nat) (ad : Nat → Nat) (cI cJ cZ : ClassId) (S : MS) (a1 : Int32) (a2 : Int32) (hok : ok_X2_counted S a1 a2) : MetI l yX2_counted wsX2_counted ({ frames := 3, cells := 0, slots := 0, locals := 67 } : Room) D (va_K D vwCl (mTy cI cJ cZ)) (mW h ad cI cJ cZ) S [.ref h, .int a1, .int a2] (fun r u => (r, u) = p_X2_counted S a1 a2) 0 0 := by
  unfold ok_X2_counted at hok
  refine MetI.of (cc := cX2_counted) (maxL := 4) (by decide) rfl (Nat.le_of_ble_eq_true rfl) ?_
  intro p e s m below meth c A ls hC hr hlk hnm hK hP hD hA hl
  obtain ⟨hx, hb, hml, hown, hts⟩ := id hC
  have hS : va_S A s.heap s.heap [] := va_S.rf
  have hin : ∀ w ∈ wsX20, w ∈ wsX2_counted := fun _ h => List.mem_cons_of_mem _ (List.mem_append_right _ h)
  have hl : lv_has ls 4 [(0, .ref h), (1, .int a1), (2, .int a2)] := hl
  refine lv_aload_n hx hb dX2_counted_0 rfl (lv_at hl 0 rfl) ?_
  refine lv_iload_n hx hb dX2_counted_1 rfl (lv_at hl 1 rfl) ?_
  refine lv_iload_n hx hb dX2_counted_2 rfl (lv_at hl 2 rfl) ?_
  refine lv_bipush (v := (-9)) hx hb dX2_counted_3 (by decide) ?_
  refine lv_bipush (v := (-9)) hx hb dX2_counted_5 (by decide) ?_
  obtain ⟨o1, hok⟩ := hok
  refine wx_callVi (As := [.int a1, .int a2, .int (-9), .int (-9)]) (rest := []) kst_K hC (c_X2_against l D h ad cI cJ cZ S a1 a2 (-9) (-9) o1) (cwV 4 hts gX2_counted_X2_against rfl rfl rfl (by decide +kernel) ⟨Nat.le_of_ble_eq_true rfl, Nat.le_of_ble_eq_true rfl⟩) hK hP hD hS hA (wm_cell hK hP) rfl hl.1 rfl (Nat.le_of_ble_eq_true rfl) dX2_counted_7 ⟨Nat.le_of_ble_eq_true rfl, Nat.le_of_ble_eq_true rfl⟩ (fun r1 u1 H locs hw hP hD hS => ?_)
  obtain rfl : r1 = p_X2_against S a1 a2 (-9) (-9) := hw.1
  obtain rfl : S = u1 := hw.2.symm
  refine lv_istore_n (lv' := [(3, .int (p_X2_against S a1 a2 (-9) (-9))), (0, .ref h), (1, .int a1), (2, .int a2)]) hx hb dX2_counted_10 rfl hl (by decide) rfl (fun ls hl => ?_)
  refine lv_iload_n hx hb dX2_counted_11 rfl (lv_at hl 0 rfl) ?_
  refine lv_if_ge (tgt := 19) hx hb dX2_counted_12 (by decide) (fun c2 => ?_) (fun c2 => ?_)
  · have hok := hok.1 c2
    refine lv_aload_n hx hb dX2_counted_19 rfl (lv_at hl 1 rfl) ?_
    refine lv_iload_n hx hb dX2_counted_20 rfl (lv_at hl 2 rfl) ?_
    refine lv_bipush (v := 11) hx hb dX2_counted_21 (by decide) ?_
    refine lv_aload_n hx hb dX2_counted_23 rfl (lv_at hl 1 rfl) ?_
    refine lv_iload_n hx hb dX2_counted_24 rfl (lv_at hl 3 rfl) ?_
    obtain ⟨o3, hok⟩ := hok
    refine wx_callVi (As := [.int a2]) (rest := [.int 11, .int a1, .ref h]) kst_K hC (c_X2_at l D h ad cI cJ cZ S a2 o3) (cwV 1 hts gX2_counted_X2_at rfl rfl rfl (by decide +kernel) ⟨Nat.le_of_ble_eq_true rfl, Nat.le_of_ble_eq_true rfl⟩) hK hP hD hS hA (wm_cell hK hP) rfl hl.1 rfl (Nat.le_of_ble_eq_true rfl) dX2_counted_25 ⟨Nat.le_of_ble_eq_true rfl, Nat.le_of_ble_eq_true rfl⟩ (fun r3 u3 H locs hw hP hD hS => ?_)
    obtain rfl : r3 = p_X2_at S a2 := hw.1
    obtain rfl : S = u3 := hw.2.symm
    refine lv_iconst (v := 0) hx hb dX2_counted_28 (by decide) ?_
    refine lv_iconst (v := 0) hx hb dX2_counted_29 (by decide) ?_
    refine lv_lconst (v := 0) hx hb dX2_counted_30 (by decide) ?_
    obtain ⟨o4, hok⟩ := hok
    refine wx_callVi (As := [.int a1, .int 11, .int (p_X2_at S a2), .int 0, .int 0, .long 0]) (rest := []) kst_K hC (c_X2_make l D h ad cI cJ cZ S a1 11 (p_X2_at S a2) 0 0 0 o4) (cwV 6 hts gX2_counted_X2_make rfl rfl rfl (by decide +kernel) ⟨Nat.le_of_ble_eq_true rfl, Nat.le_of_ble_eq_true rfl⟩) hK hP hD hS hA (wm_cell hK hP) rfl hl.1 rfl (Nat.le_of_ble_eq_true rfl) dX2_counted_31 ⟨Nat.le_of_ble_eq_true rfl, Nat.le_of_ble_eq_true rfl⟩ (fun r4 u4 H locs hw hP hD hS => ?_)
    obtain rfl : r4 = (p_X2_make S a1 11 (p_X2_at S a2) 0 0 0).1 := congrArg Prod.fst hw
    obtain rfl : u4 = (p_X2_make S a1 11 (p_X2_at S a2) 0 0 0).2 := congrArg Prod.snd hw
    exact wx_reti kst_K ((p_X2_make S a1 11 (p_X2_at S a2) 0 0 0).2) hx hb hr hlk hK hP hD hS dX2_counted_34 (by unfold p_X2_counted; rw [if_pos c2])
  · have hok := hok.2 c2
    refine lv_iload_n hx hb dX2_counted_15 rfl (lv_at hl 0 rfl) ?_
    refine lv_goto (tgt := 34) hx hb dX2_counted_16 (by decide) ?_
    exact wx_reti kst_K S hx hb hr hlk hK hP hD hS dX2_counted_34 (by unfold p_X2_counted; rw [if_neg c2])
def p_X2_kept (S : MS) (a1 : Int32) (a2 : Int32) : Int32 × MS := if 0 ≤ (p_X2_against S a1 a2 (-9) (-9)) then ((p_X2_make S a1 12 (p_X2_at S a2) 0 0 0).1, (p_X2_make S a1 12 (p_X2_at S a2) 0 0 0).2) else (p_X2_against S a1 a2 (-9) (-9), S)
def ok_X2_kept (S : MS) (a1 : Int32) (a2 : Int32) : Prop := (ok_X2_against S a1 a2 (-9) (-9)) ∧ ((0 ≤ (p_X2_against S a1 a2 (-9) (-9)) → ((ok_X2_at S a2) ∧ ((ok_X2_make S a1 12 (p_X2_at S a2) 0 0 0) ∧ (True)))) ∧ (¬ 0 ≤ (p_X2_against S a1 a2 (-9) (-9)) → True))
set_option maxHeartbeats 4000000 in
set_option maxRecDepth 100000 in
theorem c_X2_kept (l : Launch) (D : va_G) (h : Nat) (ad : Nat → Nat) (cI cJ cZ : ClassId) (S : MS) (a1 : Int32) (a2 : Int32) (hok : ok_X2_kept S a1 a2) : MetI l yX2_kept wsX2_kept ({ frames := 3, cells := 0, slots := 0, locals := 67 } : Room) D (va_K D vwCl (mTy cI cJ cZ)) (mW h ad cI cJ cZ) S [.ref h, .int a1, .int a2] (fun r u => (r, u) = p_X2_kept S a1 a2) 0 0 := by
  unfold ok_X2_kept at hok
  refine MetI.of (cc := cX2_kept) (maxL := 4) (by decide) rfl (Nat.le_of_ble_eq_true rfl) ?_
  intro p e s m below meth c A ls hC hr hlk hnm hK hP hD hA hl
  obtain ⟨hx, hb, hml, hown, hts⟩ := id hC
  have hS : va_S A s.heap s.heap [] := va_S.rf
  have hin : ∀ w ∈ wsX20, w ∈ wsX2_kept := fun _ h => List.mem_cons_of_mem _ (List.mem_append_right _ h)
  have hl : lv_has ls 4 [(0, .ref h), (1, .int a1), (2, .int a2)] := hl
  refine lv_aload_n hx hb dX2_kept_0 rfl (lv_at hl 0 rfl) ?_
  refine lv_iload_n hx hb dX2_kept_1 rfl (lv_at hl 1 rfl) ?_
  refine lv_iload_n hx hb dX2_kept_2 rfl (lv_at hl 2 rfl) ?_
  refine lv_bipush (v := (-9)) hx hb dX2_kept_3 (by decide) ?_
  refine lv_bipush (v := (-9)) hx hb dX2_kept_5 (by decide) ?_
  obtain ⟨o1, hok⟩ := hok
  refine wx_callVi (As := [.int a1, .int a2, .int (-9), .int (-9)]) (rest := []) kst_K hC (c_X2_against l D h ad cI cJ cZ S a1 a2 (-9) (-9) o1) (cwV 4 hts gX2_kept_X2_against rfl rfl rfl (by decide +kernel) ⟨Nat.le_of_ble_eq_true rfl, Nat.le_of_ble_eq_true rfl⟩) hK hP hD hS hA (wm_cell hK hP) rfl hl.1 rfl (Nat.le_of_ble_eq_true rfl) dX2_kept_7 ⟨Nat.le_of_ble_eq_true rfl, Nat.le_of_ble_eq_true rfl⟩ (fun r1 u1 H locs hw hP hD hS => ?_)
  obtain rfl : r1 = p_X2_against S a1 a2 (-9) (-9) := hw.1
  obtain rfl : S = u1 := hw.2.symm
  refine lv_istore_n (lv' := [(3, .int (p_X2_against S a1 a2 (-9) (-9))), (0, .ref h), (1, .int a1), (2, .int a2)]) hx hb dX2_kept_10 rfl hl (by decide) rfl (fun ls hl => ?_)
  refine lv_iload_n hx hb dX2_kept_11 rfl (lv_at hl 0 rfl) ?_
  refine lv_if_ge (tgt := 19) hx hb dX2_kept_12 (by decide) (fun c2 => ?_) (fun c2 => ?_)
  · have hok := hok.1 c2
    refine lv_aload_n hx hb dX2_kept_19 rfl (lv_at hl 1 rfl) ?_
    refine lv_iload_n hx hb dX2_kept_20 rfl (lv_at hl 2 rfl) ?_
    refine lv_bipush (v := 12) hx hb dX2_kept_21 (by decide) ?_
    refine lv_aload_n hx hb dX2_kept_23 rfl (lv_at hl 1 rfl) ?_
    refine lv_iload_n hx hb dX2_kept_24 rfl (lv_at hl 3 rfl) ?_
    obtain ⟨o3, hok⟩ := hok
    refine wx_callVi (As := [.int a2]) (rest := [.int 12, .int a1, .ref h]) kst_K hC (c_X2_at l D h ad cI cJ cZ S a2 o3) (cwV 1 hts gX2_kept_X2_at rfl rfl rfl (by decide +kernel) ⟨Nat.le_of_ble_eq_true rfl, Nat.le_of_ble_eq_true rfl⟩) hK hP hD hS hA (wm_cell hK hP) rfl hl.1 rfl (Nat.le_of_ble_eq_true rfl) dX2_kept_25 ⟨Nat.le_of_ble_eq_true rfl, Nat.le_of_ble_eq_true rfl⟩ (fun r3 u3 H locs hw hP hD hS => ?_)
    obtain rfl : r3 = p_X2_at S a2 := hw.1
    obtain rfl : S = u3 := hw.2.symm
    refine lv_iconst (v := 0) hx hb dX2_kept_28 (by decide) ?_
    refine lv_iconst (v := 0) hx hb dX2_kept_29 (by decide) ?_
    refine lv_lconst (v := 0) hx hb dX2_kept_30 (by decide) ?_
    obtain ⟨o4, hok⟩ := hok
    refine wx_callVi (As := [.int a1, .int 12, .int (p_X2_at S a2), .int 0, .int 0, .long 0]) (rest := []) kst_K hC (c_X2_make l D h ad cI cJ cZ S a1 12 (p_X2_at S a2) 0 0 0 o4) (cwV 6 hts gX2_kept_X2_make rfl rfl rfl (by decide +kernel) ⟨Nat.le_of_ble_eq_true rfl, Nat.le_of_ble_eq_true rfl⟩) hK hP hD hS hA (wm_cell hK hP) rfl hl.1 rfl (Nat.le_of_ble_eq_true rfl) dX2_kept_31 ⟨Nat.le_of_ble_eq_true rfl, Nat.le_of_ble_eq_true rfl⟩ (fun r4 u4 H locs hw hP hD hS => ?_)
    obtain rfl : r4 = (p_X2_make S a1 12 (p_X2_at S a2) 0 0 0).1 := congrArg Prod.fst hw
    obtain rfl : u4 = (p_X2_make S a1 12 (p_X2_at S a2) 0 0 0).2 := congrArg Prod.snd hw
    exact wx_reti kst_K ((p_X2_make S a1 12 (p_X2_at S a2) 0 0 0).2) hx hb hr hlk hK hP hD hS dX2_kept_34 (by unfold p_X2_kept; rw [if_pos c2])
  · have hok := hok.2 c2
    refine lv_iload_n hx hb dX2_kept_15 rfl (lv_at hl 0 rfl) ?_
    refine lv_goto (tgt := 34) hx hb dX2_kept_16 (by decide) ?_
    exact wx_reti kst_K S hx hb hr hlk hK hP hD hS dX2_kept_34 (by unfold p_X2_kept; rw [if_neg c2])
def p_X2_put (S : MS) (a1 : Int32) (a2 : Int32) : Int32 × MS := if (p_X2_isPlace a1) = 0 then ((-1), S) else (if (p_X2_isPlace a2) = 0 then ((-1), S) else (if (S.2.1 16 a1.toNatClampNeg) = 0 then ((-2), S) else (1, msA S 16 a2.toNatClampNeg (S.2.1 16 a1.toNatClampNeg))))
def ok_X2_put (S : MS) (a1 : Int32) (a2 : Int32) : Prop := ((p_X2_isPlace a1) = 0 → True) ∧ (¬ (p_X2_isPlace a1) = 0 → (((p_X2_isPlace a2) = 0 → True) ∧ (¬ (p_X2_isPlace a2) = 0 → ((vp_in a1 16) ∧ (((S.2.1 16 a1.toNatClampNeg) = 0 → True) ∧ (¬ (S.2.1 16 a1.toNatClampNeg) = 0 → ((vp_in a1 16) ∧ ((vp_in a2 16) ∧ (True)))))))))
set_option maxHeartbeats 4000000 in
set_option maxRecDepth 100000 in
theorem c_X2_put (l : Launch) (D : va_G) (h : Nat) (ad : Nat → Nat) (cI cJ cZ : ClassId) (S : MS) (a1 : Int32) (a2 : Int32) (hok : ok_X2_put S a1 a2) : MetI l yX2_put wsX2_put ({ frames := 2, cells := 0, slots := 0, locals := 42 } : Room) D (va_K D vwCl (mTy cI cJ cZ)) (mW h ad cI cJ cZ) S [.ref h, .int a1, .int a2] (fun r u => (r, u) = p_X2_put S a1 a2) 0 0 := by
  unfold ok_X2_put at hok
  refine MetI.of (cc := cX2_put) (maxL := 3) (by decide) rfl (Nat.le_of_ble_eq_true rfl) ?_
  intro p e s m below meth c A ls hC hr hlk hnm hK hP hD hA hl
  obtain ⟨hx, hb, hml, hown, hts⟩ := id hC
  have hS : va_S A s.heap s.heap [] := va_S.rf
  have hin : ∀ w ∈ wsX20, w ∈ wsX2_put := fun _ h => List.mem_cons_of_mem _ (List.mem_append_right _ h)
  have hl : lv_has ls 3 [(0, .ref h), (1, .int a1), (2, .int a2)] := hl
  refine lv_iload_n hx hb dX2_put_0 rfl (lv_at hl 1 rfl) ?_
  refine wx_callS (As := [.int a1]) (rest := []) hC (c_X2_isPlace l a1) (va_cwS 1 hts gX2_put_X2_isPlace rfl rfl rfl (by decide +kernel) ⟨Nat.le_of_ble_eq_true rfl, Nat.le_of_ble_eq_true rfl⟩) rfl hl.1 rfl (Nat.le_of_ble_eq_true rfl) dX2_put_1 ⟨Nat.le_of_ble_eq_true rfl, Nat.le_of_ble_eq_true rfl⟩ (fun r1 hw => ?_)
  obtain rfl : r1 = p_X2_isPlace a1 := hw
  refine lv_if_eq (tgt := 14) hx hb dX2_put_4 (by decide) (fun c2 => ?_) (fun c2 => ?_)
  · have hok := hok.1 c2
    refine lv_iconst (v := (-1)) hx hb dX2_put_14 (by decide) ?_
    exact wx_reti kst_K S hx hb hr hlk hK hP hD hS dX2_put_15 (by unfold p_X2_put; rw [if_pos c2])
  · have hok := hok.2 c2
    refine lv_iload_n hx hb dX2_put_7 rfl (lv_at hl 2 rfl) ?_
    refine wx_callS (As := [.int a2]) (rest := []) hC (c_X2_isPlace l a2) (va_cwS 1 hts gX2_put_X2_isPlace rfl rfl rfl (by decide +kernel) ⟨Nat.le_of_ble_eq_true rfl, Nat.le_of_ble_eq_true rfl⟩) rfl hl.1 rfl (Nat.le_of_ble_eq_true rfl) dX2_put_8 ⟨Nat.le_of_ble_eq_true rfl, Nat.le_of_ble_eq_true rfl⟩ (fun r3 hw => ?_)
    obtain rfl : r3 = p_X2_isPlace a2 := hw
    refine lv_if_ne (tgt := 16) hx hb dX2_put_11 (by decide) (fun c4 => ?_) (fun c4 => ?_)
    · have hok := hok.2 c4
      refine lv_aload_n hx hb dX2_put_16 rfl (lv_at hl 0 rfl) ?_
      refine wm_get hC hin hK hP 16 (by decide) rfl (by decide +kernel) (mget_16 _ _) dX2_put_17 ?_
      refine lv_iload_n hx hb dX2_put_20 rfl (lv_at hl 1 rfl) ?_
      obtain ⟨b5, hok⟩ := hok
      refine wm_iald hC hK hP 16 15 (marr_16 _ _ _ _ _ _) b5 dX2_put_21 ?_
      refine lv_if_ne (tgt := 28) hx hb dX2_put_22 (by decide) (fun c6 => ?_) (fun c6 => ?_)
      · have hok := hok.2 c6
        refine lv_aload_n hx hb dX2_put_28 rfl (lv_at hl 0 rfl) ?_
        refine wm_get hC hin hK hP 16 (by decide) rfl (by decide +kernel) (mget_16 _ _) dX2_put_29 ?_
        refine lv_iload_n hx hb dX2_put_32 rfl (lv_at hl 2 rfl) ?_
        refine lv_aload_n hx hb dX2_put_33 rfl (lv_at hl 0 rfl) ?_
        refine wm_get hC hin hK hP 16 (by decide) rfl (by decide +kernel) (mget_16 _ _) dX2_put_34 ?_
        refine lv_iload_n hx hb dX2_put_37 rfl (lv_at hl 1 rfl) ?_
        obtain ⟨b7, hok⟩ := hok
        refine wm_iald hC hK hP 16 15 (marr_16 _ _ _ _ _ _) b7 dX2_put_38 ?_
        obtain ⟨b8, hok⟩ := hok
        refine wm_iast hC hK hP hD hS 16 15 (marr_16 _ _ _ _ _ _) (mast_16 _ _ _ _ _ _ _ _) b8 dX2_put_39 (fun H locs hP hD hS => ?_)
        refine lv_iconst (v := 1) hx hb dX2_put_40 (by decide) ?_
        exact wx_reti kst_K (msA S 16 a2.toNatClampNeg (S.2.1 16 a1.toNatClampNeg)) hx hb hr hlk hK hP hD hS dX2_put_41 (by unfold p_X2_put; rw [if_neg c2, if_neg c4, if_neg c6])
      · have hok := hok.1 c6
        refine lv_bipush (v := (-2)) hx hb dX2_put_25 (by decide) ?_
        exact wx_reti kst_K S hx hb hr hlk hK hP hD hS dX2_put_27 (by unfold p_X2_put; rw [if_neg c2, if_neg c4, if_pos c6])
    · have hok := hok.1 c4
      refine lv_iconst (v := (-1)) hx hb dX2_put_14 (by decide) ?_
      exact wx_reti kst_K S hx hb hr hlk hK hP hD hS dX2_put_15 (by unfold p_X2_put; rw [if_neg c2, if_pos c4])
def p_X2_take (S : MS) (a1 : Int32) : Int32 × MS := if (p_X2_isPlace a1) = 0 then ((-1), S) else (if (S.2.1 16 a1.toNatClampNeg) = 0 then ((-2), S) else (1, msA S 16 a1.toNatClampNeg 0))
def ok_X2_take (S : MS) (a1 : Int32) : Prop := ((p_X2_isPlace a1) = 0 → True) ∧ (¬ (p_X2_isPlace a1) = 0 → ((vp_in a1 16) ∧ (((S.2.1 16 a1.toNatClampNeg) = 0 → True) ∧ (¬ (S.2.1 16 a1.toNatClampNeg) = 0 → ((vp_in a1 16) ∧ (True))))))
set_option maxHeartbeats 4000000 in
set_option maxRecDepth 100000 in
theorem c_X2_take (l : Launch) (D : va_G) (h : Nat) (ad : Nat → Nat) (cI cJ cZ : ClassId) (S : MS) (a1 : Int32) (hok : ok_X2_take S a1) : MetI l yX2_take wsX2_take ({ frames := 2, cells := 0, slots := 0, locals := 42 } : Room) D (va_K D vwCl (mTy cI cJ cZ)) (mW h ad cI cJ cZ) S [.ref h, .int a1] (fun r u => (r, u) = p_X2_take S a1) 0 0 := by
  unfold ok_X2_take at hok
  refine MetI.of (cc := cX2_take) (maxL := 2) (by decide) rfl (Nat.le_of_ble_eq_true rfl) ?_
  intro p e s m below meth c A ls hC hr hlk hnm hK hP hD hA hl
  obtain ⟨hx, hb, hml, hown, hts⟩ := id hC
  have hS : va_S A s.heap s.heap [] := va_S.rf
  have hin : ∀ w ∈ wsX20, w ∈ wsX2_take := fun _ h => List.mem_cons_of_mem _ (List.mem_append_right _ h)
  have hl : lv_has ls 2 [(0, .ref h), (1, .int a1)] := hl
  refine lv_iload_n hx hb dX2_take_0 rfl (lv_at hl 1 rfl) ?_
  refine wx_callS (As := [.int a1]) (rest := []) hC (c_X2_isPlace l a1) (va_cwS 1 hts gX2_take_X2_isPlace rfl rfl rfl (by decide +kernel) ⟨Nat.le_of_ble_eq_true rfl, Nat.le_of_ble_eq_true rfl⟩) rfl hl.1 rfl (Nat.le_of_ble_eq_true rfl) dX2_take_1 ⟨Nat.le_of_ble_eq_true rfl, Nat.le_of_ble_eq_true rfl⟩ (fun r1 hw => ?_)
  obtain rfl : r1 = p_X2_isPlace a1 := hw
  refine lv_if_ne (tgt := 9) hx hb dX2_take_4 (by decide) (fun c2 => ?_) (fun c2 => ?_)
  · have hok := hok.2 c2
    refine lv_aload_n hx hb dX2_take_9 rfl (lv_at hl 0 rfl) ?_
    refine wm_get hC hin hK hP 16 (by decide) rfl (by decide +kernel) (mget_16 _ _) dX2_take_10 ?_
    refine lv_iload_n hx hb dX2_take_13 rfl (lv_at hl 1 rfl) ?_
    obtain ⟨b3, hok⟩ := hok
    refine wm_iald hC hK hP 16 15 (marr_16 _ _ _ _ _ _) b3 dX2_take_14 ?_
    refine lv_if_ne (tgt := 21) hx hb dX2_take_15 (by decide) (fun c4 => ?_) (fun c4 => ?_)
    · have hok := hok.2 c4
      refine lv_aload_n hx hb dX2_take_21 rfl (lv_at hl 0 rfl) ?_
      refine wm_get hC hin hK hP 16 (by decide) rfl (by decide +kernel) (mget_16 _ _) dX2_take_22 ?_
      refine lv_iload_n hx hb dX2_take_25 rfl (lv_at hl 1 rfl) ?_
      refine lv_iconst (v := 0) hx hb dX2_take_26 (by decide) ?_
      obtain ⟨b5, hok⟩ := hok
      refine wm_iast hC hK hP hD hS 16 15 (marr_16 _ _ _ _ _ _) (mast_16 _ _ _ _ _ _ _ _) b5 dX2_take_27 (fun H locs hP hD hS => ?_)
      refine lv_iconst (v := 1) hx hb dX2_take_28 (by decide) ?_
      exact wx_reti kst_K (msA S 16 a1.toNatClampNeg 0) hx hb hr hlk hK hP hD hS dX2_take_29 (by unfold p_X2_take; rw [if_neg c2, if_neg c4])
    · have hok := hok.1 c4
      refine lv_bipush (v := (-2)) hx hb dX2_take_18 (by decide) ?_
      exact wx_reti kst_K S hx hb hr hlk hK hP hD hS dX2_take_20 (by unfold p_X2_take; rw [if_neg c2, if_pos c4])
  · have hok := hok.1 c2
    refine lv_iconst (v := (-1)) hx hb dX2_take_7 (by decide) ?_
    exact wx_reti kst_K S hx hb hr hlk hK hP hD hS dX2_take_8 (by unfold p_X2_take; rw [if_pos c2])
def p_X2_book (S : MS) (a1 : Int32) (a2 : Int32) (a3 : Int32) : Int32 × MS := if (p_X2_in a1 0 3) = 0 then ((-1), S) else (if (p_X2_in a2 0 ((S.2.1 2 ((S.2.1 1 a1.toNatClampNeg).toNatClampNeg)) - 1)) = 0 then ((-1), S) else (1, msA S 3 (((8 * (S.2.1 1 a1.toNatClampNeg)) + a2).toNatClampNeg) a3))
def ok_X2_book (S : MS) (a1 : Int32) (a2 : Int32) (a3 : Int32) : Prop := ((p_X2_in a1 0 3) = 0 → True) ∧ (¬ (p_X2_in a1 0 3) = 0 → ((vp_in a1 4) ∧ ((vp_in (S.2.1 1 a1.toNatClampNeg) 4200) ∧ (((p_X2_in a2 0 ((S.2.1 2 ((S.2.1 1 a1.toNatClampNeg).toNatClampNeg)) - 1)) = 0 → True) ∧ (¬ (p_X2_in a2 0 ((S.2.1 2 ((S.2.1 1 a1.toNatClampNeg).toNatClampNeg)) - 1)) = 0 → ((vp_in a1 4) ∧ ((vp_in ((8 * (S.2.1 1 a1.toNatClampNeg)) + a2) 33600) ∧ (True))))))))
set_option maxHeartbeats 4000000 in
set_option maxRecDepth 100000 in
theorem c_X2_book (l : Launch) (D : va_G) (h : Nat) (ad : Nat → Nat) (cI cJ cZ : ClassId) (S : MS) (a1 : Int32) (a2 : Int32) (a3 : Int32) (hok : ok_X2_book S a1 a2 a3) : MetI l yX2_book wsX2_book ({ frames := 1, cells := 0, slots := 0, locals := 22 } : Room) D (va_K D vwCl (mTy cI cJ cZ)) (mW h ad cI cJ cZ) S [.ref h, .int a1, .int a2, .int a3] (fun r u => (r, u) = p_X2_book S a1 a2 a3) 0 0 := by
  unfold ok_X2_book at hok
  refine MetI.of (cc := cX2_book) (maxL := 4) (by decide) rfl (Nat.le_of_ble_eq_true rfl) ?_
  intro p e s m below meth c A ls hC hr hlk hnm hK hP hD hA hl
  obtain ⟨hx, hb, hml, hown, hts⟩ := id hC
  have hS : va_S A s.heap s.heap [] := va_S.rf
  have hin : ∀ w ∈ wsX20, w ∈ wsX2_book := fun _ h => List.mem_cons_of_mem _ (List.mem_append_right _ h)
  have hl : lv_has ls 4 [(0, .ref h), (1, .int a1), (2, .int a2), (3, .int a3)] := hl
  refine lv_iload_n hx hb dX2_book_0 rfl (lv_at hl 1 rfl) ?_
  refine lv_iconst (v := 0) hx hb dX2_book_1 (by decide) ?_
  refine lv_iconst (v := 3) hx hb dX2_book_2 (by decide) ?_
  refine wx_callS (As := [.int a1, .int 0, .int 3]) (rest := []) hC (c_X2_in l a1 0 3) (va_cwS 3 hts gX2_book_X2_in rfl rfl rfl (by decide +kernel) ⟨Nat.le_of_ble_eq_true rfl, Nat.le_of_ble_eq_true rfl⟩) rfl hl.1 rfl (Nat.le_of_ble_eq_true rfl) dX2_book_3 ⟨Nat.le_of_ble_eq_true rfl, Nat.le_of_ble_eq_true rfl⟩ (fun r1 hw => ?_)
  obtain rfl : r1 = p_X2_in a1 0 3 := hw
  refine lv_if_eq (tgt := 30) hx hb dX2_book_6 (by decide) (fun c2 => ?_) (fun c2 => ?_)
  · have hok := hok.1 c2
    refine lv_iconst (v := (-1)) hx hb dX2_book_30 (by decide) ?_
    exact wx_reti kst_K S hx hb hr hlk hK hP hD hS dX2_book_31 (by unfold p_X2_book; rw [if_pos c2])
  · have hok := hok.2 c2
    refine lv_iload_n hx hb dX2_book_9 rfl (lv_at hl 2 rfl) ?_
    refine lv_iconst (v := 0) hx hb dX2_book_10 (by decide) ?_
    refine lv_aload_n hx hb dX2_book_11 rfl (lv_at hl 0 rfl) ?_
    refine wm_get hC hin hK hP 2 (by decide) rfl (by decide +kernel) (mget_2 _ _) dX2_book_12 ?_
    refine lv_aload_n hx hb dX2_book_15 rfl (lv_at hl 0 rfl) ?_
    refine wm_get hC hin hK hP 1 (by decide) rfl (by decide +kernel) (mget_1 _ _) dX2_book_16 ?_
    refine lv_iload_n hx hb dX2_book_19 rfl (lv_at hl 1 rfl) ?_
    obtain ⟨b3, hok⟩ := hok
    refine wm_iald hC hK hP 1 2 (marr_1 _ _ _ _ _ _) b3 dX2_book_20 ?_
    obtain ⟨b4, hok⟩ := hok
    refine wm_iald hC hK hP 2 3 (marr_2 _ _ _ _ _ _) b4 dX2_book_21 ?_
    refine lv_iconst (v := 1) hx hb dX2_book_22 (by decide) ?_
    refine lv_isub hx hb dX2_book_23 ?_
    refine wx_callS (As := [.int a2, .int 0, .int ((S.2.1 2 ((S.2.1 1 a1.toNatClampNeg).toNatClampNeg)) - 1)]) (rest := []) hC (c_X2_in l a2 0 ((S.2.1 2 ((S.2.1 1 a1.toNatClampNeg).toNatClampNeg)) - 1)) (va_cwS 3 hts gX2_book_X2_in rfl rfl rfl (by decide +kernel) ⟨Nat.le_of_ble_eq_true rfl, Nat.le_of_ble_eq_true rfl⟩) rfl hl.1 rfl (Nat.le_of_ble_eq_true rfl) dX2_book_24 ⟨Nat.le_of_ble_eq_true rfl, Nat.le_of_ble_eq_true rfl⟩ (fun r5 hw => ?_)
    obtain rfl : r5 = p_X2_in a2 0 ((S.2.1 2 ((S.2.1 1 a1.toNatClampNeg).toNatClampNeg)) - 1) := hw
    refine lv_if_ne (tgt := 32) hx hb dX2_book_27 (by decide) (fun c6 => ?_) (fun c6 => ?_)
    · have hok := hok.2 c6
      refine lv_aload_n hx hb dX2_book_32 rfl (lv_at hl 0 rfl) ?_
      refine wm_get hC hin hK hP 3 (by decide) rfl (by decide +kernel) (mget_3 _ _) dX2_book_33 ?_
      refine lv_bipush (v := 8) hx hb dX2_book_36 (by decide) ?_
      refine lv_aload_n hx hb dX2_book_38 rfl (lv_at hl 0 rfl) ?_
      refine wm_get hC hin hK hP 1 (by decide) rfl (by decide +kernel) (mget_1 _ _) dX2_book_39 ?_
      refine lv_iload_n hx hb dX2_book_42 rfl (lv_at hl 1 rfl) ?_
      obtain ⟨b7, hok⟩ := hok
      refine wm_iald hC hK hP 1 2 (marr_1 _ _ _ _ _ _) b7 dX2_book_43 ?_
      refine lv_imul hx hb dX2_book_44 ?_
      refine lv_iload_n hx hb dX2_book_45 rfl (lv_at hl 2 rfl) ?_
      refine lv_iadd hx hb dX2_book_46 ?_
      refine lv_iload_n hx hb dX2_book_47 rfl (lv_at hl 3 rfl) ?_
      obtain ⟨b8, hok⟩ := hok
      refine wm_iast hC hK hP hD hS 3 4 (marr_3 _ _ _ _ _ _) (mast_3 _ _ _ _ _ _ _ _) b8 dX2_book_48 (fun H locs hP hD hS => ?_)
      refine lv_iconst (v := 1) hx hb dX2_book_49 (by decide) ?_
      exact wx_reti kst_K (msA S 3 (((8 * (S.2.1 1 a1.toNatClampNeg)) + a2).toNatClampNeg) a3) hx hb hr hlk hK hP hD hS dX2_book_50 (by unfold p_X2_book; rw [if_neg c2, if_neg c6])
    · have hok := hok.1 c6
      refine lv_iconst (v := (-1)) hx hb dX2_book_30 (by decide) ?_
      exact wx_reti kst_K S hx hb hr hlk hK hP hD hS dX2_book_31 (by unfold p_X2_book; rw [if_neg c2, if_pos c6])
def p_X2_failed (S : MS)  : Int32 := S.1 17
def ok_X2_failed (S : MS)  : Prop := True
set_option maxHeartbeats 4000000 in
set_option maxRecDepth 100000 in
theorem c_X2_failed (l : Launch) (D : va_G) (h : Nat) (ad : Nat → Nat) (cI cJ cZ : ClassId) (S : MS)  (hok : ok_X2_failed S ) : MetI l yX2_failed wsX2_failed ({ frames := 0, cells := 0, slots := 0, locals := 0 } : Room) D (va_K D vwCl (mTy cI cJ cZ)) (mW h ad cI cJ cZ) S [.ref h] (fun r u => r = p_X2_failed S  ∧ u = S) 0 0 := by
  unfold ok_X2_failed at hok
  refine MetI.of (cc := cX2_failed) (maxL := 1) (by decide) rfl (Nat.le_of_ble_eq_true rfl) ?_
  intro p e s m below meth c A ls hC hr hlk hnm hK hP hD hA hl
  obtain ⟨hx, hb, hml, hown, hts⟩ := id hC
  have hS : va_S A s.heap s.heap [] := va_S.rf
  have hin : ∀ w ∈ wsX20, w ∈ wsX2_failed := fun _ h => List.mem_cons_of_mem _ (List.mem_append_right _ h)
  have hl : lv_has ls 1 [(0, .ref h)] := hl
  refine lv_aload_n hx hb dX2_failed_0 rfl (lv_at hl 0 rfl) ?_
  refine wm_get hC hin hK hP 17 (by decide) rfl (by decide +kernel) (mget_17 _ _) dX2_failed_1 ?_
  exact wx_reti kst_K S hx hb hr hlk hK hP hD hS dX2_failed_4 ⟨(by unfold p_X2_failed; rfl), rfl⟩
def p_X2_same (S : MS) (a1 : Int32) (a2 : Int32) : Int32 := if (p_X2_isPlace a1) = 0 then (-1) else (if (p_X2_isPlace a2) = 0 then (-1) else (if (S.2.1 16 a1.toNatClampNeg) ≤ 0 then 0 else (if (S.2.1 16 a1.toNatClampNeg) = (S.2.1 16 a2.toNatClampNeg) then 1 else 0)))
def ok_X2_same (S : MS) (a1 : Int32) (a2 : Int32) : Prop := ((p_X2_isPlace a1) = 0 → True) ∧ (¬ (p_X2_isPlace a1) = 0 → (((p_X2_isPlace a2) = 0 → True) ∧ (¬ (p_X2_isPlace a2) = 0 → ((vp_in a1 16) ∧ (((S.2.1 16 a1.toNatClampNeg) ≤ 0 → True) ∧ (¬ (S.2.1 16 a1.toNatClampNeg) ≤ 0 → ((vp_in a1 16) ∧ ((vp_in a2 16) ∧ (((S.2.1 16 a1.toNatClampNeg) = (S.2.1 16 a2.toNatClampNeg) → True) ∧ (¬ (S.2.1 16 a1.toNatClampNeg) = (S.2.1 16 a2.toNatClampNeg) → True))))))))))
set_option maxHeartbeats 4000000 in
set_option maxRecDepth 100000 in
theorem c_X2_same (l : Launch) (D : va_G) (h : Nat) (ad : Nat → Nat) (cI cJ cZ : ClassId) (S : MS) (a1 : Int32) (a2 : Int32) (hok : ok_X2_same S a1 a2) : MetI l yX2_same wsX2_same ({ frames := 2, cells := 0, slots := 0, locals := 42 } : Room) D (va_K D vwCl (mTy cI cJ cZ)) (mW h ad cI cJ cZ) S [.ref h, .int a1, .int a2] (fun r u => r = p_X2_same S a1 a2 ∧ u = S) 0 0 := by
  unfold ok_X2_same at hok
  refine MetI.of (cc := cX2_same) (maxL := 3) (by decide) rfl (Nat.le_of_ble_eq_true rfl) ?_
  intro p e s m below meth c A ls hC hr hlk hnm hK hP hD hA hl
  obtain ⟨hx, hb, hml, hown, hts⟩ := id hC
  have hS : va_S A s.heap s.heap [] := va_S.rf
  have hin : ∀ w ∈ wsX20, w ∈ wsX2_same := fun _ h => List.mem_cons_of_mem _ (List.mem_append_right _ h)
  have hl : lv_has ls 3 [(0, .ref h), (1, .int a1), (2, .int a2)] := hl
  refine lv_iload_n hx hb dX2_same_0 rfl (lv_at hl 1 rfl) ?_
  refine wx_callS (As := [.int a1]) (rest := []) hC (c_X2_isPlace l a1) (va_cwS 1 hts gX2_same_X2_isPlace rfl rfl rfl (by decide +kernel) ⟨Nat.le_of_ble_eq_true rfl, Nat.le_of_ble_eq_true rfl⟩) rfl hl.1 rfl (Nat.le_of_ble_eq_true rfl) dX2_same_1 ⟨Nat.le_of_ble_eq_true rfl, Nat.le_of_ble_eq_true rfl⟩ (fun r1 hw => ?_)
  obtain rfl : r1 = p_X2_isPlace a1 := hw
  refine lv_if_eq (tgt := 14) hx hb dX2_same_4 (by decide) (fun c2 => ?_) (fun c2 => ?_)
  · have hok := hok.1 c2
    refine lv_iconst (v := (-1)) hx hb dX2_same_14 (by decide) ?_
    exact wx_reti kst_K S hx hb hr hlk hK hP hD hS dX2_same_15 ⟨(by unfold p_X2_same; rw [if_pos c2]), rfl⟩
  · have hok := hok.2 c2
    refine lv_iload_n hx hb dX2_same_7 rfl (lv_at hl 2 rfl) ?_
    refine wx_callS (As := [.int a2]) (rest := []) hC (c_X2_isPlace l a2) (va_cwS 1 hts gX2_same_X2_isPlace rfl rfl rfl (by decide +kernel) ⟨Nat.le_of_ble_eq_true rfl, Nat.le_of_ble_eq_true rfl⟩) rfl hl.1 rfl (Nat.le_of_ble_eq_true rfl) dX2_same_8 ⟨Nat.le_of_ble_eq_true rfl, Nat.le_of_ble_eq_true rfl⟩ (fun r3 hw => ?_)
    obtain rfl : r3 = p_X2_isPlace a2 := hw
    refine lv_if_ne (tgt := 16) hx hb dX2_same_11 (by decide) (fun c4 => ?_) (fun c4 => ?_)
    · have hok := hok.2 c4
      refine lv_aload_n hx hb dX2_same_16 rfl (lv_at hl 0 rfl) ?_
      refine wm_get hC hin hK hP 16 (by decide) rfl (by decide +kernel) (mget_16 _ _) dX2_same_17 ?_
      refine lv_iload_n hx hb dX2_same_20 rfl (lv_at hl 1 rfl) ?_
      obtain ⟨b5, hok⟩ := hok
      refine wm_iald hC hK hP 16 15 (marr_16 _ _ _ _ _ _) b5 dX2_same_21 ?_
      refine lv_if_le (tgt := 44) hx hb dX2_same_22 (by decide) (fun c6 => ?_) (fun c6 => ?_)
      · have hok := hok.1 c6
        refine lv_iconst (v := 0) hx hb dX2_same_44 (by decide) ?_
        exact wx_reti kst_K S hx hb hr hlk hK hP hD hS dX2_same_45 ⟨(by unfold p_X2_same; rw [if_neg c2, if_neg c4, if_pos c6]), rfl⟩
      · have hok := hok.2 c6
        refine lv_aload_n hx hb dX2_same_25 rfl (lv_at hl 0 rfl) ?_
        refine wm_get hC hin hK hP 16 (by decide) rfl (by decide +kernel) (mget_16 _ _) dX2_same_26 ?_
        refine lv_iload_n hx hb dX2_same_29 rfl (lv_at hl 1 rfl) ?_
        obtain ⟨b7, hok⟩ := hok
        refine wm_iald hC hK hP 16 15 (marr_16 _ _ _ _ _ _) b7 dX2_same_30 ?_
        refine lv_aload_n hx hb dX2_same_31 rfl (lv_at hl 0 rfl) ?_
        refine wm_get hC hin hK hP 16 (by decide) rfl (by decide +kernel) (mget_16 _ _) dX2_same_32 ?_
        refine lv_iload_n hx hb dX2_same_35 rfl (lv_at hl 2 rfl) ?_
        obtain ⟨b8, hok⟩ := hok
        refine wm_iald hC hK hP 16 15 (marr_16 _ _ _ _ _ _) b8 dX2_same_36 ?_
        refine lv_icmp_ne (tgt := 44) hx hb dX2_same_37 (by decide) (fun c9 => ?_) (fun c9 => ?_)
        · have hok := hok.2 c9
          refine lv_iconst (v := 0) hx hb dX2_same_44 (by decide) ?_
          exact wx_reti kst_K S hx hb hr hlk hK hP hD hS dX2_same_45 ⟨(by unfold p_X2_same; rw [if_neg c2, if_neg c4, if_neg c6, if_neg c9]), rfl⟩
        · have hok := hok.1 c9
          refine lv_iconst (v := 1) hx hb dX2_same_40 (by decide) ?_
          refine lv_goto (tgt := 45) hx hb dX2_same_41 (by decide) ?_
          exact wx_reti kst_K S hx hb hr hlk hK hP hD hS dX2_same_45 ⟨(by unfold p_X2_same; rw [if_neg c2, if_neg c4, if_neg c6, if_pos c9]), rfl⟩
    · have hok := hok.1 c4
      refine lv_iconst (v := (-1)) hx hb dX2_same_14 (by decide) ?_
      exact wx_reti kst_K S hx hb hr hlk hK hP hD hS dX2_same_15 ⟨(by unfold p_X2_same; rw [if_neg c2, if_pos c4]), rfl⟩
def p_X2_count (S : MS) (a1 : Int32) : Int32 := if (p_X2_isPlace a1) = 0 then (-1) else (if (S.2.1 16 a1.toNatClampNeg) = 0 then (-2) else (if (S.2.1 6 ((p_X2_at S a1).toNatClampNeg)) = 11 then (S.2.1 11 ((p_X2_at S a1).toNatClampNeg)) else (-2)))
def ok_X2_count (S : MS) (a1 : Int32) : Prop := ((p_X2_isPlace a1) = 0 → True) ∧ (¬ (p_X2_isPlace a1) = 0 → ((vp_in a1 16) ∧ (((S.2.1 16 a1.toNatClampNeg) = 0 → True) ∧ (¬ (S.2.1 16 a1.toNatClampNeg) = 0 → ((ok_X2_at S a1) ∧ ((vp_in (p_X2_at S a1) 4200) ∧ (((S.2.1 6 ((p_X2_at S a1).toNatClampNeg)) = 11 → ((ok_X2_at S a1) ∧ ((vp_in (p_X2_at S a1) 4200) ∧ (True)))) ∧ (¬ (S.2.1 6 ((p_X2_at S a1).toNatClampNeg)) = 11 → True))))))))
set_option maxHeartbeats 4000000 in
set_option maxRecDepth 100000 in
theorem c_X2_count (l : Launch) (D : va_G) (h : Nat) (ad : Nat → Nat) (cI cJ cZ : ClassId) (S : MS) (a1 : Int32) (hok : ok_X2_count S a1) : MetI l yX2_count wsX2_count ({ frames := 2, cells := 0, slots := 0, locals := 42 } : Room) D (va_K D vwCl (mTy cI cJ cZ)) (mW h ad cI cJ cZ) S [.ref h, .int a1] (fun r u => r = p_X2_count S a1 ∧ u = S) 0 0 := by
  unfold ok_X2_count at hok
  refine MetI.of (cc := cX2_count) (maxL := 2) (by decide) rfl (Nat.le_of_ble_eq_true rfl) ?_
  intro p e s m below meth c A ls hC hr hlk hnm hK hP hD hA hl
  obtain ⟨hx, hb, hml, hown, hts⟩ := id hC
  have hS : va_S A s.heap s.heap [] := va_S.rf
  have hin : ∀ w ∈ wsX20, w ∈ wsX2_count := fun _ h => List.mem_cons_of_mem _ (List.mem_append_right _ h)
  have hl : lv_has ls 2 [(0, .ref h), (1, .int a1)] := hl
  refine lv_iload_n hx hb dX2_count_0 rfl (lv_at hl 1 rfl) ?_
  refine wx_callS (As := [.int a1]) (rest := []) hC (c_X2_isPlace l a1) (va_cwS 1 hts gX2_count_X2_isPlace rfl rfl rfl (by decide +kernel) ⟨Nat.le_of_ble_eq_true rfl, Nat.le_of_ble_eq_true rfl⟩) rfl hl.1 rfl (Nat.le_of_ble_eq_true rfl) dX2_count_1 ⟨Nat.le_of_ble_eq_true rfl, Nat.le_of_ble_eq_true rfl⟩ (fun r1 hw => ?_)
  obtain rfl : r1 = p_X2_isPlace a1 := hw
  refine lv_if_ne (tgt := 9) hx hb dX2_count_4 (by decide) (fun c2 => ?_) (fun c2 => ?_)
  · have hok := hok.2 c2
    refine lv_aload_n hx hb dX2_count_9 rfl (lv_at hl 0 rfl) ?_
    refine wm_get hC hin hK hP 16 (by decide) rfl (by decide +kernel) (mget_16 _ _) dX2_count_10 ?_
    refine lv_iload_n hx hb dX2_count_13 rfl (lv_at hl 1 rfl) ?_
    obtain ⟨b3, hok⟩ := hok
    refine wm_iald hC hK hP 16 15 (marr_16 _ _ _ _ _ _) b3 dX2_count_14 ?_
    refine lv_if_eq (tgt := 33) hx hb dX2_count_15 (by decide) (fun c4 => ?_) (fun c4 => ?_)
    · have hok := hok.1 c4
      refine lv_bipush (v := (-2)) hx hb dX2_count_33 (by decide) ?_
      refine lv_goto (tgt := 48) hx hb dX2_count_35 (by decide) ?_
      exact wx_reti kst_K S hx hb hr hlk hK hP hD hS dX2_count_48 ⟨(by unfold p_X2_count; rw [if_neg c2, if_pos c4]), rfl⟩
    · have hok := hok.2 c4
      refine lv_aload_n hx hb dX2_count_18 rfl (lv_at hl 0 rfl) ?_
      refine wm_get hC hin hK hP 6 (by decide) rfl (by decide +kernel) (mget_6 _ _) dX2_count_19 ?_
      refine lv_aload_n hx hb dX2_count_22 rfl (lv_at hl 0 rfl) ?_
      refine lv_iload_n hx hb dX2_count_23 rfl (lv_at hl 1 rfl) ?_
      obtain ⟨o5, hok⟩ := hok
      refine wx_callVi (As := [.int a1]) (rest := [.ref (ad 6)]) kst_K hC (c_X2_at l D h ad cI cJ cZ S a1 o5) (cwV 1 hts gX2_count_X2_at rfl rfl rfl (by decide +kernel) ⟨Nat.le_of_ble_eq_true rfl, Nat.le_of_ble_eq_true rfl⟩) hK hP hD hS hA (wm_cell hK hP) rfl hl.1 rfl (Nat.le_of_ble_eq_true rfl) dX2_count_24 ⟨Nat.le_of_ble_eq_true rfl, Nat.le_of_ble_eq_true rfl⟩ (fun r5 u5 H locs hw hP hD hS => ?_)
      obtain rfl : r5 = p_X2_at S a1 := hw.1
      obtain rfl : S = u5 := hw.2.symm
      obtain ⟨b6, hok⟩ := hok
      refine wm_iald hC hK hP 6 5 (marr_6 _ _ _ _ _ _) b6 dX2_count_27 ?_
      refine lv_bipush (v := 11) hx hb dX2_count_28 (by decide) ?_
      refine lv_icmp_eq (tgt := 38) hx hb dX2_count_30 (by decide) (fun c7 => ?_) (fun c7 => ?_)
      · have hok := hok.1 c7
        refine lv_aload_n hx hb dX2_count_38 rfl (lv_at hl 0 rfl) ?_
        refine wm_get hC hin hK hP 11 (by decide) rfl (by decide +kernel) (mget_11 _ _) dX2_count_39 ?_
        refine lv_aload_n hx hb dX2_count_42 rfl (lv_at hl 0 rfl) ?_
        refine lv_iload_n hx hb dX2_count_43 rfl (lv_at hl 1 rfl) ?_
        obtain ⟨o8, hok⟩ := hok
        refine wx_callVi (As := [.int a1]) (rest := [.ref (ad 11)]) kst_K hC (c_X2_at l D h ad cI cJ cZ S a1 o8) (cwV 1 hts gX2_count_X2_at rfl rfl rfl (by decide +kernel) ⟨Nat.le_of_ble_eq_true rfl, Nat.le_of_ble_eq_true rfl⟩) hK hP hD hS hA (wm_cell hK hP) rfl hl.1 rfl (Nat.le_of_ble_eq_true rfl) dX2_count_44 ⟨Nat.le_of_ble_eq_true rfl, Nat.le_of_ble_eq_true rfl⟩ (fun r8 u8 H locs hw hP hD hS => ?_)
        obtain rfl : r8 = p_X2_at S a1 := hw.1
        obtain rfl : S = u8 := hw.2.symm
        obtain ⟨b9, hok⟩ := hok
        refine wm_iald hC hK hP 11 10 (marr_11 _ _ _ _ _ _) b9 dX2_count_47 ?_
        exact wx_reti kst_K S hx hb hr hlk hK hP hD hS dX2_count_48 ⟨(by unfold p_X2_count; rw [if_neg c2, if_neg c4, if_pos c7]), rfl⟩
      · have hok := hok.2 c7
        refine lv_bipush (v := (-2)) hx hb dX2_count_33 (by decide) ?_
        refine lv_goto (tgt := 48) hx hb dX2_count_35 (by decide) ?_
        exact wx_reti kst_K S hx hb hr hlk hK hP hD hS dX2_count_48 ⟨(by unfold p_X2_count; rw [if_neg c2, if_neg c4, if_neg c7]), rfl⟩
  · have hok := hok.1 c2
    refine lv_iconst (v := (-1)) hx hb dX2_count_7 (by decide) ?_
    exact wx_reti kst_K S hx hb hr hlk hK hP hD hS dX2_count_8 ⟨(by unfold p_X2_count; rw [if_pos c2]), rfl⟩
def pL_X2_clear_70 (N : Nat) : Nat → MS → Int32 → Int32 → Int32 × MS
  | 0, S, _, _ => (0, S)
  | n + 1, S, x1, x2 => if 16 ≤ x2 then (x1, msI (msI (msI (msI S 5 0) 17 0) 18 0) 19 0) else (pL_X2_clear_70 N n (msA S 16 x2.toNatClampNeg 0) x1 (x2 + 1))
def okL_X2_clear_70 (N : Nat) : Nat → MS → Int32 → Int32 → Prop
  | 0, _, _, _ => False
  | n + 1, S, x1, x2 => (16 ≤ x2 → True) ∧ (¬ 16 ≤ x2 → ((vp_in x2 16) ∧ (okL_X2_clear_70 N n (msA S 16 x2.toNatClampNeg 0) x1 (x2 + 1))))
set_option maxHeartbeats 4000000 in
set_option maxRecDepth 100000 in
theorem cL_X2_clear_70 {l : Launch} {D : va_G} {h : Nat} {ad : Nat → Nat} {cI cJ cZ : ClassId} {p : Program} {e : Env} {s : State} {m : MethodId} {args : Array Value} {below : List Frame} {meth : Method} {c : Code} {A : Nat → Prop} {post : Int32 → MS → Prop} (hC : CallFix p m c cX2_clear 3 s args wsX2_clear RX2) (hr : meth.sig.returnType = some .int) (hlk : meth.locks = false) (hK : va_K D vwCl (mTy cI cJ cZ) s) (hA : ∀ q, s.heap.size ≤ q → A q) (N : Nat) :
    ∀ (n : Nat) (S : MS) (x1 : Int32) (x2 : Int32), okL_X2_clear_70 N n S x1 x2 → (∀ r u, (r, u) = pL_X2_clear_70 N n S x1 x2 → post r u) → ∀ (H : Heap) (locs : List Loc), va_P D vwCl (mW h ad cI cJ cZ S) H → va_D A (mW h ad cI cJ cZ S) → va_S A s.heap H locs → ∀ ls : Array Slot, lv_has ls 3 [(0, .ref h), (1, .int x1), (2, .int x2)] → W p l e ({ frames := 0, cells := 0, slots := 0, locals := 0 } : Room) s m args below meth c H locs 0 0 (MQ below (va_Qi post (fun u t => wAt D (va_K D vwCl (mTy cI cJ cZ)) A (mW h ad cI cJ cZ u) t) A) args s 0 0 A) (F0 m 70 ls []) := by
  obtain ⟨hx, hb, hml, hown, hts⟩ := id hC
  have hin : ∀ w ∈ wsX20, w ∈ wsX2_clear := fun _ h => List.mem_cons_of_mem _ (List.mem_append_right _ h)
  intro n
  induction n with
  | zero => intro S x1 x2 hok; exact False.elim hok
  | succ n ih =>
    intro S x1 x2 hok hq H locs hP hD hS ls hl
    rw [okL_X2_clear_70] at hok
    refine lv_iload_n hx hb dX2_clear_70 rfl (lv_at hl 2 rfl) ?_
    refine lv_bipush (v := 16) hx hb dX2_clear_71 (by decide) ?_
    refine lv_icmp_ge (tgt := 89) hx hb dX2_clear_73 (by decide) (fun c6 => ?_) (fun c6 => ?_)
    · have hok := hok.1 c6
      refine lv_aload_n hx hb dX2_clear_89 rfl (lv_at hl 0 rfl) ?_
      refine lv_iconst (v := 0) hx hb dX2_clear_90 (by decide) ?_
      refine wm_putI hC hin hK hP hD hS 5 (by decide) rfl (by decide +kernel) rfl (by decide +kernel) (mset_5 _ _ _) dX2_clear_91 (fun H locs hP hD hS => ?_)
      refine lv_aload_n hx hb dX2_clear_94 rfl (lv_at hl 0 rfl) ?_
      refine lv_iconst (v := 0) hx hb dX2_clear_95 (by decide) ?_
      refine wm_putI hC hin hK hP hD hS 17 (by decide) rfl (by decide +kernel) rfl (by decide +kernel) (mset_17 _ _ _) dX2_clear_96 (fun H locs hP hD hS => ?_)
      refine lv_aload_n hx hb dX2_clear_99 rfl (lv_at hl 0 rfl) ?_
      refine lv_iconst (v := 0) hx hb dX2_clear_100 (by decide) ?_
      refine wm_putI hC hin hK hP hD hS 18 (by decide) rfl (by decide +kernel) rfl (by decide +kernel) (mset_18 _ _ _) dX2_clear_101 (fun H locs hP hD hS => ?_)
      refine lv_aload_n hx hb dX2_clear_104 rfl (lv_at hl 0 rfl) ?_
      refine lv_iconst (v := 0) hx hb dX2_clear_105 (by decide) ?_
      refine wm_putI hC hin hK hP hD hS 19 (by decide) rfl (by decide +kernel) rfl (by decide +kernel) (mset_19 _ _ _) dX2_clear_106 (fun H locs hP hD hS => ?_)
      refine lv_iload_n hx hb dX2_clear_109 rfl (lv_at hl 1 rfl) ?_
      exact wx_reti kst_K (msI (msI (msI (msI S 5 0) 17 0) 18 0) 19 0) hx hb hr hlk hK hP hD hS dX2_clear_110 (hq _ _ (by rw [pL_X2_clear_70, if_pos c6]))
    · have hok := hok.2 c6
      refine lv_aload_n hx hb dX2_clear_76 rfl (lv_at hl 0 rfl) ?_
      refine wm_get hC hin hK hP 16 (by decide) rfl (by decide +kernel) (mget_16 _ _) dX2_clear_77 ?_
      refine lv_iload_n hx hb dX2_clear_80 rfl (lv_at hl 2 rfl) ?_
      refine lv_iconst (v := 0) hx hb dX2_clear_81 (by decide) ?_
      obtain ⟨b7, hok⟩ := hok
      refine wm_iast hC hK hP hD hS 16 15 (marr_16 _ _ _ _ _ _) (mast_16 _ _ _ _ _ _ _ _) b7 dX2_clear_82 (fun H locs hP hD hS => ?_)
      refine lv_iinc (v := x2 + 1) (lv' := [(2, .int (x2 + 1)), (0, .ref h), (1, .int x1)]) hx hb dX2_clear_83 hl (k := 2) rfl rfl (by decide) rfl (fun ls hl => ?_)
      refine lv_goto (tgt := 70) hx hb dX2_clear_86 (by decide) ?_
      exact ih (msA S 16 x2.toNatClampNeg 0) x1 (x2 + 1) hok (fun r u hru => hq r u (hru.trans (by rw [pL_X2_clear_70, if_neg c6]))) _ _ hP hD hS ls (lv_sub hl [1, 2, 0] rfl)
def pL_X2_clear_33 (N : Nat) : Nat → MS → Int32 → Int32 → Int32 × MS
  | 0, S, _, _ => (0, S)
  | n + 1, S, x1, x2 => if 4 ≤ x2 then (pL_X2_clear_70 N N S x1 0) else (pL_X2_clear_33 N n (msI (msA (msA S 1 x2.toNatClampNeg x2) 2 x2.toNatClampNeg 0) 4 ((S.1 4) + 1)) x1 (x2 + 1))
def okL_X2_clear_33 (N : Nat) : Nat → MS → Int32 → Int32 → Prop
  | 0, _, _, _ => False
  | n + 1, S, x1, x2 => (4 ≤ x2 → (okL_X2_clear_70 N N S x1 0)) ∧ (¬ 4 ≤ x2 → ((vp_in x2 4) ∧ ((vp_in x2 4200) ∧ (okL_X2_clear_33 N n (msI (msA (msA S 1 x2.toNatClampNeg x2) 2 x2.toNatClampNeg 0) 4 ((S.1 4) + 1)) x1 (x2 + 1)))))
set_option maxHeartbeats 4000000 in
set_option maxRecDepth 100000 in
theorem cL_X2_clear_33 {l : Launch} {D : va_G} {h : Nat} {ad : Nat → Nat} {cI cJ cZ : ClassId} {p : Program} {e : Env} {s : State} {m : MethodId} {args : Array Value} {below : List Frame} {meth : Method} {c : Code} {A : Nat → Prop} {post : Int32 → MS → Prop} (hC : CallFix p m c cX2_clear 3 s args wsX2_clear RX2) (hr : meth.sig.returnType = some .int) (hlk : meth.locks = false) (hK : va_K D vwCl (mTy cI cJ cZ) s) (hA : ∀ q, s.heap.size ≤ q → A q) (N : Nat) :
    ∀ (n : Nat) (S : MS) (x1 : Int32) (x2 : Int32), okL_X2_clear_33 N n S x1 x2 → (∀ r u, (r, u) = pL_X2_clear_33 N n S x1 x2 → post r u) → ∀ (H : Heap) (locs : List Loc), va_P D vwCl (mW h ad cI cJ cZ S) H → va_D A (mW h ad cI cJ cZ S) → va_S A s.heap H locs → ∀ ls : Array Slot, lv_has ls 3 [(0, .ref h), (1, .int x1), (2, .int x2)] → W p l e ({ frames := 0, cells := 0, slots := 0, locals := 0 } : Room) s m args below meth c H locs 0 0 (MQ below (va_Qi post (fun u t => wAt D (va_K D vwCl (mTy cI cJ cZ)) A (mW h ad cI cJ cZ u) t) A) args s 0 0 A) (F0 m 33 ls []) := by
  obtain ⟨hx, hb, hml, hown, hts⟩ := id hC
  have hin : ∀ w ∈ wsX20, w ∈ wsX2_clear := fun _ h => List.mem_cons_of_mem _ (List.mem_append_right _ h)
  intro n
  induction n with
  | zero => intro S x1 x2 hok; exact False.elim hok
  | succ n ih =>
    intro S x1 x2 hok hq H locs hP hD hS ls hl
    rw [okL_X2_clear_33] at hok
    refine lv_iload_n hx hb dX2_clear_33 rfl (lv_at hl 2 rfl) ?_
    refine lv_iconst (v := 4) hx hb dX2_clear_34 (by decide) ?_
    refine lv_icmp_ge (tgt := 68) hx hb dX2_clear_35 (by decide) (fun c3 => ?_) (fun c3 => ?_)
    · have hok := hok.1 c3
      refine lv_iconst (v := 0) hx hb dX2_clear_68 (by decide) ?_
      refine lv_istore_n (lv' := [(2, .int 0), (0, .ref h), (1, .int x1)]) hx hb dX2_clear_69 rfl hl (by decide) rfl (fun ls hl => ?_)
      exact cL_X2_clear_70 hC hr hlk hK hA N N S x1 0 hok (fun r u hru => hq r u (hru.trans (by rw [pL_X2_clear_33, if_pos c3]))) _ _ hP hD hS ls (lv_sub hl [1, 2, 0] rfl)
    · have hok := hok.2 c3
      refine lv_aload_n hx hb dX2_clear_38 rfl (lv_at hl 0 rfl) ?_
      refine wm_get hC hin hK hP 1 (by decide) rfl (by decide +kernel) (mget_1 _ _) dX2_clear_39 ?_
      refine lv_iload_n hx hb dX2_clear_42 rfl (lv_at hl 2 rfl) ?_
      refine lv_iload_n hx hb dX2_clear_43 rfl (lv_at hl 2 rfl) ?_
      obtain ⟨b4, hok⟩ := hok
      refine wm_iast hC hK hP hD hS 1 2 (marr_1 _ _ _ _ _ _) (mast_1 _ _ _ _ _ _ _ _) b4 dX2_clear_44 (fun H locs hP hD hS => ?_)
      refine lv_aload_n hx hb dX2_clear_45 rfl (lv_at hl 0 rfl) ?_
      refine wm_get hC hin hK hP 2 (by decide) rfl (by decide +kernel) (mget_2 _ _) dX2_clear_46 ?_
      refine lv_iload_n hx hb dX2_clear_49 rfl (lv_at hl 2 rfl) ?_
      refine lv_iconst (v := 0) hx hb dX2_clear_50 (by decide) ?_
      obtain ⟨b5, hok⟩ := hok
      refine wm_iast hC hK hP hD hS 2 3 (marr_2 _ _ _ _ _ _) (mast_2 _ _ _ _ _ _ _ _) b5 dX2_clear_51 (fun H locs hP hD hS => ?_)
      refine lv_aload_n hx hb dX2_clear_52 rfl (lv_at hl 0 rfl) ?_
      refine lv_dup hx hb dX2_clear_53 rfl ?_
      refine wm_get hC hin hK hP 4 (by decide) rfl (by decide +kernel) (mget_4 _ _) dX2_clear_54 ?_
      refine lv_see (v2 := .int (S.1 4)) rfl ?_
      refine lv_iconst (v := 1) hx hb dX2_clear_57 (by decide) ?_
      refine lv_iadd hx hb dX2_clear_58 ?_
      refine wm_putI hC hin hK hP hD hS 4 (by decide) rfl (by decide +kernel) rfl (by decide +kernel) (mset_4 _ _ _) dX2_clear_59 (fun H locs hP hD hS => ?_)
      refine lv_iinc (v := x2 + 1) (lv' := [(2, .int (x2 + 1)), (0, .ref h), (1, .int x1)]) hx hb dX2_clear_62 hl (k := 2) rfl rfl (by decide) rfl (fun ls hl => ?_)
      refine lv_goto (tgt := 33) hx hb dX2_clear_65 (by decide) ?_
      exact ih (msI (msA (msA S 1 x2.toNatClampNeg x2) 2 x2.toNatClampNeg 0) 4 ((S.1 4) + 1)) x1 (x2 + 1) hok (fun r u hru => hq r u (hru.trans (by rw [pL_X2_clear_33, if_neg c3]))) _ _ hP hD hS ls (lv_sub hl [1, 2, 0] rfl)
def pL_X2_clear_7 (N : Nat) : Nat → MS → Int32 → Int32 → Int32 × MS
  | 0, S, _, _ => (0, S)
  | n + 1, S, x1, x2 => if 8 ≤ x2 then (pL_X2_clear_33 N N (msI S 4 0) x1 0) else (pL_X2_clear_7 N n (msA S 0 x2.toNatClampNeg 0) x1 (x2 + 1))
def okL_X2_clear_7 (N : Nat) : Nat → MS → Int32 → Int32 → Prop
  | 0, _, _, _ => False
  | n + 1, S, x1, x2 => (8 ≤ x2 → (okL_X2_clear_33 N N (msI S 4 0) x1 0)) ∧ (¬ 8 ≤ x2 → ((vp_in x2 8) ∧ (okL_X2_clear_7 N n (msA S 0 x2.toNatClampNeg 0) x1 (x2 + 1))))
set_option maxHeartbeats 4000000 in
set_option maxRecDepth 100000 in
theorem cL_X2_clear_7 {l : Launch} {D : va_G} {h : Nat} {ad : Nat → Nat} {cI cJ cZ : ClassId} {p : Program} {e : Env} {s : State} {m : MethodId} {args : Array Value} {below : List Frame} {meth : Method} {c : Code} {A : Nat → Prop} {post : Int32 → MS → Prop} (hC : CallFix p m c cX2_clear 3 s args wsX2_clear RX2) (hr : meth.sig.returnType = some .int) (hlk : meth.locks = false) (hK : va_K D vwCl (mTy cI cJ cZ) s) (hA : ∀ q, s.heap.size ≤ q → A q) (N : Nat) :
    ∀ (n : Nat) (S : MS) (x1 : Int32) (x2 : Int32), okL_X2_clear_7 N n S x1 x2 → (∀ r u, (r, u) = pL_X2_clear_7 N n S x1 x2 → post r u) → ∀ (H : Heap) (locs : List Loc), va_P D vwCl (mW h ad cI cJ cZ S) H → va_D A (mW h ad cI cJ cZ S) → va_S A s.heap H locs → ∀ ls : Array Slot, lv_has ls 3 [(0, .ref h), (1, .int x1), (2, .int x2)] → W p l e ({ frames := 0, cells := 0, slots := 0, locals := 0 } : Room) s m args below meth c H locs 0 0 (MQ below (va_Qi post (fun u t => wAt D (va_K D vwCl (mTy cI cJ cZ)) A (mW h ad cI cJ cZ u) t) A) args s 0 0 A) (F0 m 7 ls []) := by
  obtain ⟨hx, hb, hml, hown, hts⟩ := id hC
  have hin : ∀ w ∈ wsX20, w ∈ wsX2_clear := fun _ h => List.mem_cons_of_mem _ (List.mem_append_right _ h)
  intro n
  induction n with
  | zero => intro S x1 x2 hok; exact False.elim hok
  | succ n ih =>
    intro S x1 x2 hok hq H locs hP hD hS ls hl
    rw [okL_X2_clear_7] at hok
    refine lv_iload_n hx hb dX2_clear_7 rfl (lv_at hl 2 rfl) ?_
    refine lv_bipush (v := 8) hx hb dX2_clear_8 (by decide) ?_
    refine lv_icmp_ge (tgt := 26) hx hb dX2_clear_10 (by decide) (fun c1 => ?_) (fun c1 => ?_)
    · have hok := hok.1 c1
      refine lv_aload_n hx hb dX2_clear_26 rfl (lv_at hl 0 rfl) ?_
      refine lv_iconst (v := 0) hx hb dX2_clear_27 (by decide) ?_
      refine wm_putI hC hin hK hP hD hS 4 (by decide) rfl (by decide +kernel) rfl (by decide +kernel) (mset_4 _ _ _) dX2_clear_28 (fun H locs hP hD hS => ?_)
      refine lv_iconst (v := 0) hx hb dX2_clear_31 (by decide) ?_
      refine lv_istore_n (lv' := [(2, .int 0), (0, .ref h), (1, .int x1)]) hx hb dX2_clear_32 rfl hl (by decide) rfl (fun ls hl => ?_)
      exact cL_X2_clear_33 hC hr hlk hK hA N N (msI S 4 0) x1 0 hok (fun r u hru => hq r u (hru.trans (by rw [pL_X2_clear_7, if_pos c1]))) _ _ hP hD hS ls (lv_sub hl [1, 2, 0] rfl)
    · have hok := hok.2 c1
      refine lv_aload_n hx hb dX2_clear_13 rfl (lv_at hl 0 rfl) ?_
      refine wm_get hC hin hK hP 0 (by decide) rfl (by decide +kernel) (mget_0 _ _) dX2_clear_14 ?_
      refine lv_iload_n hx hb dX2_clear_17 rfl (lv_at hl 2 rfl) ?_
      refine lv_iconst (v := 0) hx hb dX2_clear_18 (by decide) ?_
      obtain ⟨b2, hok⟩ := hok
      refine wm_iast hC hK hP hD hS 0 1 (marr_0 _ _ _ _ _ _) (mast_0 _ _ _ _ _ _ _ _) b2 dX2_clear_19 (fun H locs hP hD hS => ?_)
      refine lv_iinc (v := x2 + 1) (lv' := [(2, .int (x2 + 1)), (0, .ref h), (1, .int x1)]) hx hb dX2_clear_20 hl (k := 2) rfl rfl (by decide) rfl (fun ls hl => ?_)
      refine lv_goto (tgt := 7) hx hb dX2_clear_23 (by decide) ?_
      exact ih (msA S 0 x2.toNatClampNeg 0) x1 (x2 + 1) hok (fun r u hru => hq r u (hru.trans (by rw [pL_X2_clear_7, if_neg c1]))) _ _ hP hD hS ls (lv_sub hl [1, 2, 0] rfl)
def p_X2_clear (N : Nat) (S : MS)  : Int32 × MS := pL_X2_clear_7 N N S (S.1 5) 0
def ok_X2_clear (N : Nat) (S : MS)  : Prop := okL_X2_clear_7 N N S (S.1 5) 0
set_option maxHeartbeats 4000000 in
set_option maxRecDepth 100000 in
theorem c_X2_clear (l : Launch) (D : va_G) (h : Nat) (ad : Nat → Nat) (cI cJ cZ : ClassId) (N : Nat) (S : MS)  (hok : ok_X2_clear N S ) : MetI l yX2_clear wsX2_clear ({ frames := 0, cells := 0, slots := 0, locals := 0 } : Room) D (va_K D vwCl (mTy cI cJ cZ)) (mW h ad cI cJ cZ) S [.ref h] (fun r u => (r, u) = p_X2_clear N S ) 0 0 := by
  unfold ok_X2_clear at hok
  refine MetI.of (cc := cX2_clear) (maxL := 3) (by decide) rfl (Nat.le_of_ble_eq_true rfl) ?_
  intro p e s m below meth c A ls hC hr hlk hnm hK hP hD hA hl
  obtain ⟨hx, hb, hml, hown, hts⟩ := id hC
  have hS : va_S A s.heap s.heap [] := va_S.rf
  have hin : ∀ w ∈ wsX20, w ∈ wsX2_clear := fun _ h => List.mem_cons_of_mem _ (List.mem_append_right _ h)
  have hl : lv_has ls 3 [(0, .ref h)] := hl
  refine lv_aload_n hx hb dX2_clear_0 rfl (lv_at hl 0 rfl) ?_
  refine wm_get hC hin hK hP 5 (by decide) rfl (by decide +kernel) (mget_5 _ _) dX2_clear_1 ?_
  refine lv_istore_n (lv' := [(1, .int (S.1 5)), (0, .ref h)]) hx hb dX2_clear_4 rfl hl (by decide) rfl (fun ls hl => ?_)
  refine lv_iconst (v := 0) hx hb dX2_clear_5 (by decide) ?_
  refine lv_istore_n (lv' := [(2, .int 0), (1, .int (S.1 5)), (0, .ref h)]) hx hb dX2_clear_6 rfl hl (by decide) rfl (fun ls hl => ?_)
  exact cL_X2_clear_7 hC hr hlk hK hA N N S (S.1 5) 0 hok (fun r u hru => hru.trans (by unfold p_X2_clear; rfl)) _ _ hP hD hS ls (lv_sub hl [2, 1, 0] rfl)
def pL_X2_fresh_43 (N : Nat) : Nat → MS → Int32 → Int32 → Int32 → Int32 × MS
  | 0, S, _, _, _ => (0, S)
  | n + 1, S, x1, x2, x3 => if 8 ≤ x3 then (1, msI S 4 ((S.1 4) + 1)) else (pL_X2_fresh_43 N n (msA S 3 (((8 * (S.1 4)) + x3).toNatClampNeg) 0) x1 x2 (x3 + 1))
def okL_X2_fresh_43 (N : Nat) : Nat → MS → Int32 → Int32 → Int32 → Prop
  | 0, _, _, _, _ => False
  | n + 1, S, x1, x2, x3 => (8 ≤ x3 → True) ∧ (¬ 8 ≤ x3 → ((vp_in ((8 * (S.1 4)) + x3) 33600) ∧ (okL_X2_fresh_43 N n (msA S 3 (((8 * (S.1 4)) + x3).toNatClampNeg) 0) x1 x2 (x3 + 1))))
set_option maxHeartbeats 4000000 in
set_option maxRecDepth 100000 in
theorem cL_X2_fresh_43 {l : Launch} {D : va_G} {h : Nat} {ad : Nat → Nat} {cI cJ cZ : ClassId} {p : Program} {e : Env} {s : State} {m : MethodId} {args : Array Value} {below : List Frame} {meth : Method} {c : Code} {A : Nat → Prop} {post : Int32 → MS → Prop} (hC : CallFix p m c cX2_fresh 4 s args wsX2_fresh RX2) (hr : meth.sig.returnType = some .int) (hlk : meth.locks = false) (hK : va_K D vwCl (mTy cI cJ cZ) s) (hA : ∀ q, s.heap.size ≤ q → A q) (N : Nat) :
    ∀ (n : Nat) (S : MS) (x1 : Int32) (x2 : Int32) (x3 : Int32), okL_X2_fresh_43 N n S x1 x2 x3 → (∀ r u, (r, u) = pL_X2_fresh_43 N n S x1 x2 x3 → post r u) → ∀ (H : Heap) (locs : List Loc), va_P D vwCl (mW h ad cI cJ cZ S) H → va_D A (mW h ad cI cJ cZ S) → va_S A s.heap H locs → ∀ ls : Array Slot, lv_has ls 4 [(0, .ref h), (1, .int x1), (2, .int x2), (3, .int x3)] → W p l e ({ frames := 1, cells := 0, slots := 0, locals := 22 } : Room) s m args below meth c H locs 0 0 (MQ below (va_Qi post (fun u t => wAt D (va_K D vwCl (mTy cI cJ cZ)) A (mW h ad cI cJ cZ u) t) A) args s 0 0 A) (F0 m 43 ls []) := by
  obtain ⟨hx, hb, hml, hown, hts⟩ := id hC
  have hin : ∀ w ∈ wsX20, w ∈ wsX2_fresh := fun _ h => List.mem_cons_of_mem _ (List.mem_append_right _ h)
  intro n
  induction n with
  | zero => intro S x1 x2 x3 hok; exact False.elim hok
  | succ n ih =>
    intro S x1 x2 x3 hok hq H locs hP hD hS ls hl
    rw [okL_X2_fresh_43] at hok
    refine lv_iload_n hx hb dX2_fresh_43 rfl (lv_at hl 3 rfl) ?_
    refine lv_bipush (v := 8) hx hb dX2_fresh_44 (by decide) ?_
    refine lv_icmp_ge (tgt := 70) hx hb dX2_fresh_46 (by decide) (fun c7 => ?_) (fun c7 => ?_)
    · have hok := hok.1 c7
      refine lv_aload_n hx hb dX2_fresh_70 rfl (lv_at hl 0 rfl) ?_
      refine lv_dup hx hb dX2_fresh_71 rfl ?_
      refine wm_get hC hin hK hP 4 (by decide) rfl (by decide +kernel) (mget_4 _ _) dX2_fresh_72 ?_
      refine lv_iconst (v := 1) hx hb dX2_fresh_75 (by decide) ?_
      refine lv_iadd hx hb dX2_fresh_76 ?_
      refine wm_putI hC hin hK hP hD hS 4 (by decide) rfl (by decide +kernel) rfl (by decide +kernel) (mset_4 _ _ _) dX2_fresh_77 (fun H locs hP hD hS => ?_)
      refine lv_iconst (v := 1) hx hb dX2_fresh_80 (by decide) ?_
      exact wx_reti kst_K (msI S 4 ((S.1 4) + 1)) hx hb hr hlk hK hP hD hS dX2_fresh_81 (hq _ _ (by rw [pL_X2_fresh_43, if_pos c7]))
    · have hok := hok.2 c7
      refine lv_aload_n hx hb dX2_fresh_49 rfl (lv_at hl 0 rfl) ?_
      refine wm_get hC hin hK hP 3 (by decide) rfl (by decide +kernel) (mget_3 _ _) dX2_fresh_50 ?_
      refine lv_bipush (v := 8) hx hb dX2_fresh_53 (by decide) ?_
      refine lv_aload_n hx hb dX2_fresh_55 rfl (lv_at hl 0 rfl) ?_
      refine wm_get hC hin hK hP 4 (by decide) rfl (by decide +kernel) (mget_4 _ _) dX2_fresh_56 ?_
      refine lv_imul hx hb dX2_fresh_59 ?_
      refine lv_iload_n hx hb dX2_fresh_60 rfl (lv_at hl 3 rfl) ?_
      refine lv_iadd hx hb dX2_fresh_61 ?_
      refine lv_iconst (v := 0) hx hb dX2_fresh_62 (by decide) ?_
      obtain ⟨b8, hok⟩ := hok
      refine wm_iast hC hK hP hD hS 3 4 (marr_3 _ _ _ _ _ _) (mast_3 _ _ _ _ _ _ _ _) b8 dX2_fresh_63 (fun H locs hP hD hS => ?_)
      refine lv_iinc (v := x3 + 1) (lv' := [(3, .int (x3 + 1)), (0, .ref h), (1, .int x1), (2, .int x2)]) hx hb dX2_fresh_64 hl (k := 3) rfl rfl (by decide) rfl (fun ls hl => ?_)
      refine lv_goto (tgt := 43) hx hb dX2_fresh_67 (by decide) ?_
      exact ih (msA S 3 (((8 * (S.1 4)) + x3).toNatClampNeg) 0) x1 x2 (x3 + 1) hok (fun r u hru => hq r u (hru.trans (by rw [pL_X2_fresh_43, if_neg c7]))) _ _ hP hD hS ls (lv_sub hl [1, 2, 3, 0] rfl)
def p_X2_fresh (N : Nat) (S : MS) (a1 : Int32) (a2 : Int32) : Int32 × MS := if (p_X2_in a1 0 3) = 0 then ((-1), S) else (if (p_X2_in a2 0 8) = 0 then ((-1), S) else (pL_X2_fresh_43 N N (msA (msA S 1 a1.toNatClampNeg (S.1 4)) 2 ((S.1 4).toNatClampNeg) a2) a1 a2 0))
def ok_X2_fresh (N : Nat) (S : MS) (a1 : Int32) (a2 : Int32) : Prop := ((p_X2_in a1 0 3) = 0 → True) ∧ (¬ (p_X2_in a1 0 3) = 0 → (((p_X2_in a2 0 8) = 0 → True) ∧ (¬ (p_X2_in a2 0 8) = 0 → ((vp_in a1 4) ∧ ((vp_in (S.1 4) 4200) ∧ (okL_X2_fresh_43 N N (msA (msA S 1 a1.toNatClampNeg (S.1 4)) 2 ((S.1 4).toNatClampNeg) a2) a1 a2 0))))))
set_option maxHeartbeats 4000000 in
set_option maxRecDepth 100000 in
theorem c_X2_fresh (l : Launch) (D : va_G) (h : Nat) (ad : Nat → Nat) (cI cJ cZ : ClassId) (N : Nat) (S : MS) (a1 : Int32) (a2 : Int32) (hok : ok_X2_fresh N S a1 a2) : MetI l yX2_fresh wsX2_fresh ({ frames := 1, cells := 0, slots := 0, locals := 22 } : Room) D (va_K D vwCl (mTy cI cJ cZ)) (mW h ad cI cJ cZ) S [.ref h, .int a1, .int a2] (fun r u => (r, u) = p_X2_fresh N S a1 a2) 0 0 := by
  unfold ok_X2_fresh at hok
  refine MetI.of (cc := cX2_fresh) (maxL := 4) (by decide) rfl (Nat.le_of_ble_eq_true rfl) ?_
  intro p e s m below meth c A ls hC hr hlk hnm hK hP hD hA hl
  obtain ⟨hx, hb, hml, hown, hts⟩ := id hC
  have hS : va_S A s.heap s.heap [] := va_S.rf
  have hin : ∀ w ∈ wsX20, w ∈ wsX2_fresh := fun _ h => List.mem_cons_of_mem _ (List.mem_append_right _ h)
  have hl : lv_has ls 4 [(0, .ref h), (1, .int a1), (2, .int a2)] := hl
  refine lv_iload_n hx hb dX2_fresh_0 rfl (lv_at hl 1 rfl) ?_
  refine lv_iconst (v := 0) hx hb dX2_fresh_1 (by decide) ?_
  refine lv_iconst (v := 3) hx hb dX2_fresh_2 (by decide) ?_
  refine wx_callS (As := [.int a1, .int 0, .int 3]) (rest := []) hC (c_X2_in l a1 0 3) (va_cwS 3 hts gX2_fresh_X2_in rfl rfl rfl (by decide +kernel) ⟨Nat.le_of_ble_eq_true rfl, Nat.le_of_ble_eq_true rfl⟩) rfl hl.1 rfl (Nat.le_of_ble_eq_true rfl) dX2_fresh_3 ⟨Nat.le_of_ble_eq_true rfl, Nat.le_of_ble_eq_true rfl⟩ (fun r1 hw => ?_)
  obtain rfl : r1 = p_X2_in a1 0 3 := hw
  refine lv_if_eq (tgt := 19) hx hb dX2_fresh_6 (by decide) (fun c2 => ?_) (fun c2 => ?_)
  · have hok := hok.1 c2
    refine lv_iconst (v := (-1)) hx hb dX2_fresh_19 (by decide) ?_
    exact wx_reti kst_K S hx hb hr hlk hK hP hD hS dX2_fresh_20 (by unfold p_X2_fresh; rw [if_pos c2])
  · have hok := hok.2 c2
    refine lv_iload_n hx hb dX2_fresh_9 rfl (lv_at hl 2 rfl) ?_
    refine lv_iconst (v := 0) hx hb dX2_fresh_10 (by decide) ?_
    refine lv_bipush (v := 8) hx hb dX2_fresh_11 (by decide) ?_
    refine wx_callS (As := [.int a2, .int 0, .int 8]) (rest := []) hC (c_X2_in l a2 0 8) (va_cwS 3 hts gX2_fresh_X2_in rfl rfl rfl (by decide +kernel) ⟨Nat.le_of_ble_eq_true rfl, Nat.le_of_ble_eq_true rfl⟩) rfl hl.1 rfl (Nat.le_of_ble_eq_true rfl) dX2_fresh_13 ⟨Nat.le_of_ble_eq_true rfl, Nat.le_of_ble_eq_true rfl⟩ (fun r3 hw => ?_)
    obtain rfl : r3 = p_X2_in a2 0 8 := hw
    refine lv_if_ne (tgt := 21) hx hb dX2_fresh_16 (by decide) (fun c4 => ?_) (fun c4 => ?_)
    · have hok := hok.2 c4
      refine lv_aload_n hx hb dX2_fresh_21 rfl (lv_at hl 0 rfl) ?_
      refine wm_get hC hin hK hP 1 (by decide) rfl (by decide +kernel) (mget_1 _ _) dX2_fresh_22 ?_
      refine lv_iload_n hx hb dX2_fresh_25 rfl (lv_at hl 1 rfl) ?_
      refine lv_aload_n hx hb dX2_fresh_26 rfl (lv_at hl 0 rfl) ?_
      refine wm_get hC hin hK hP 4 (by decide) rfl (by decide +kernel) (mget_4 _ _) dX2_fresh_27 ?_
      obtain ⟨b5, hok⟩ := hok
      refine wm_iast hC hK hP hD hS 1 2 (marr_1 _ _ _ _ _ _) (mast_1 _ _ _ _ _ _ _ _) b5 dX2_fresh_30 (fun H locs hP hD hS => ?_)
      refine lv_aload_n hx hb dX2_fresh_31 rfl (lv_at hl 0 rfl) ?_
      refine wm_get hC hin hK hP 2 (by decide) rfl (by decide +kernel) (mget_2 _ _) dX2_fresh_32 ?_
      refine lv_aload_n hx hb dX2_fresh_35 rfl (lv_at hl 0 rfl) ?_
      refine wm_get hC hin hK hP 4 (by decide) rfl (by decide +kernel) (mget_4 _ _) dX2_fresh_36 ?_
      refine lv_see (v2 := .int (S.1 4)) rfl ?_
      refine lv_iload_n hx hb dX2_fresh_39 rfl (lv_at hl 2 rfl) ?_
      obtain ⟨b6, hok⟩ := hok
      refine wm_iast hC hK hP hD hS 2 3 (marr_2 _ _ _ _ _ _) (mast_2 _ _ _ _ _ _ _ _) b6 dX2_fresh_40 (fun H locs hP hD hS => ?_)
      refine lv_iconst (v := 0) hx hb dX2_fresh_41 (by decide) ?_
      refine lv_istore_n (lv' := [(3, .int 0), (0, .ref h), (1, .int a1), (2, .int a2)]) hx hb dX2_fresh_42 rfl hl (by decide) rfl (fun ls hl => ?_)
      exact cL_X2_fresh_43 hC hr hlk hK hA N N (msA (msA S 1 a1.toNatClampNeg (S.1 4)) 2 ((S.1 4).toNatClampNeg) a2) a1 a2 0 hok (fun r u hru => hru.trans (by unfold p_X2_fresh; rw [if_neg c2, if_neg c4])) _ _ hP hD hS ls (lv_sub hl [1, 2, 3, 0] rfl)
    · have hok := hok.1 c4
      refine lv_iconst (v := (-1)) hx hb dX2_fresh_19 (by decide) ?_
      exact wx_reti kst_K S hx hb hr hlk hK hP hD hS dX2_fresh_20 (by unfold p_X2_fresh; rw [if_neg c2, if_pos c4])
def pL_X2_told_4 (N : Nat) : Nat → MS → Int32 → Int32 → Int32 → Int32 × MS
  | 0, S, _, _, _ => (0, S)
  | n + 1, S, x1, x2, x3 => if 16 ≤ x3 then (if x1 = 0 then (S.1 5, S) else (if x1 = 1 then (S.1 18, S) else (if x1 = 2 then (S.1 19, S) else (if x1 = 3 then (x2, S) else ((-1), S))))) else (if (S.2.1 16 x3.toNatClampNeg) ≤ 0 then (pL_X2_told_4 N n S x1 (x2 + 0) (x3 + 1)) else (pL_X2_told_4 N n S x1 (x2 + 1) (x3 + 1)))
def okL_X2_told_4 (N : Nat) : Nat → MS → Int32 → Int32 → Int32 → Prop
  | 0, _, _, _, _ => False
  | n + 1, S, x1, x2, x3 => (16 ≤ x3 → ((x1 = 0 → True) ∧ (¬ x1 = 0 → ((x1 = 1 → True) ∧ (¬ x1 = 1 → ((x1 = 2 → True) ∧ (¬ x1 = 2 → ((x1 = 3 → True) ∧ (¬ x1 = 3 → True))))))))) ∧ (¬ 16 ≤ x3 → ((vp_in x3 16) ∧ (((S.2.1 16 x3.toNatClampNeg) ≤ 0 → (okL_X2_told_4 N n S x1 (x2 + 0) (x3 + 1))) ∧ (¬ (S.2.1 16 x3.toNatClampNeg) ≤ 0 → (okL_X2_told_4 N n S x1 (x2 + 1) (x3 + 1))))))
set_option maxHeartbeats 4000000 in
set_option maxRecDepth 100000 in
theorem cL_X2_told_4 {l : Launch} {D : va_G} {h : Nat} {ad : Nat → Nat} {cI cJ cZ : ClassId} {p : Program} {e : Env} {s : State} {m : MethodId} {args : Array Value} {below : List Frame} {meth : Method} {c : Code} {A : Nat → Prop} {post : Int32 → MS → Prop} (hC : CallFix p m c cX2_told 4 s args wsX2_told RX2) (hr : meth.sig.returnType = some .int) (hlk : meth.locks = false) (hK : va_K D vwCl (mTy cI cJ cZ) s) (hA : ∀ q, s.heap.size ≤ q → A q) (N : Nat) :
    ∀ (n : Nat) (S : MS) (x1 : Int32) (x2 : Int32) (x3 : Int32), okL_X2_told_4 N n S x1 x2 x3 → (∀ r u, (r, u) = pL_X2_told_4 N n S x1 x2 x3 → post r u) → ∀ (H : Heap) (locs : List Loc), va_P D vwCl (mW h ad cI cJ cZ S) H → va_D A (mW h ad cI cJ cZ S) → va_S A s.heap H locs → ∀ ls : Array Slot, lv_has ls 4 [(0, .ref h), (1, .int x1), (2, .int x2), (3, .int x3)] → W p l e ({ frames := 0, cells := 0, slots := 0, locals := 0 } : Room) s m args below meth c H locs 0 0 (MQ below (va_Qi post (fun u t => wAt D (va_K D vwCl (mTy cI cJ cZ)) A (mW h ad cI cJ cZ u) t) A) args s 0 0 A) (F0 m 4 ls []) := by
  obtain ⟨hx, hb, hml, hown, hts⟩ := id hC
  have hin : ∀ w ∈ wsX20, w ∈ wsX2_told := fun _ h => List.mem_cons_of_mem _ (List.mem_append_right _ h)
  intro n
  induction n with
  | zero => intro S x1 x2 x3 hok; exact False.elim hok
  | succ n ih =>
    intro S x1 x2 x3 hok hq H locs hP hD hS ls hl
    rw [okL_X2_told_4] at hok
    refine lv_iload_n hx hb dX2_told_4 rfl (lv_at hl 3 rfl) ?_
    refine lv_bipush (v := 16) hx hb dX2_told_5 (by decide) ?_
    refine lv_icmp_ge (tgt := 33) hx hb dX2_told_7 (by decide) (fun c1 => ?_) (fun c1 => ?_)
    · have hok := hok.1 c1
      refine lv_iload_n hx hb dX2_told_33 rfl (lv_at hl 1 rfl) ?_
      refine lv_if_ne (tgt := 44) hx hb dX2_told_34 (by decide) (fun c2 => ?_) (fun c2 => ?_)
      · have hok := hok.2 c2
        refine lv_iload_n hx hb dX2_told_44 rfl (lv_at hl 1 rfl) ?_
        refine lv_iconst (v := 1) hx hb dX2_told_45 (by decide) ?_
        refine lv_icmp_ne (tgt := 56) hx hb dX2_told_46 (by decide) (fun c3 => ?_) (fun c3 => ?_)
        · have hok := hok.2 c3
          refine lv_iload_n hx hb dX2_told_56 rfl (lv_at hl 1 rfl) ?_
          refine lv_iconst (v := 2) hx hb dX2_told_57 (by decide) ?_
          refine lv_icmp_ne (tgt := 68) hx hb dX2_told_58 (by decide) (fun c4 => ?_) (fun c4 => ?_)
          · have hok := hok.2 c4
            refine lv_iload_n hx hb dX2_told_68 rfl (lv_at hl 1 rfl) ?_
            refine lv_iconst (v := 3) hx hb dX2_told_69 (by decide) ?_
            refine lv_icmp_ne (tgt := 77) hx hb dX2_told_70 (by decide) (fun c5 => ?_) (fun c5 => ?_)
            · have hok := hok.2 c5
              refine lv_iconst (v := (-1)) hx hb dX2_told_77 (by decide) ?_
              exact wx_reti kst_K S hx hb hr hlk hK hP hD hS dX2_told_78 (hq _ _ (by rw [pL_X2_told_4, if_pos c1, if_neg c2, if_neg c3, if_neg c4, if_neg c5]))
            · have hok := hok.1 c5
              refine lv_iload_n hx hb dX2_told_73 rfl (lv_at hl 2 rfl) ?_
              refine lv_goto (tgt := 78) hx hb dX2_told_74 (by decide) ?_
              exact wx_reti kst_K S hx hb hr hlk hK hP hD hS dX2_told_78 (hq _ _ (by rw [pL_X2_told_4, if_pos c1, if_neg c2, if_neg c3, if_neg c4, if_pos c5]))
          · have hok := hok.1 c4
            refine lv_aload_n hx hb dX2_told_61 rfl (lv_at hl 0 rfl) ?_
            refine wm_get hC hin hK hP 19 (by decide) rfl (by decide +kernel) (mget_19 _ _) dX2_told_62 ?_
            refine lv_goto (tgt := 78) hx hb dX2_told_65 (by decide) ?_
            exact wx_reti kst_K S hx hb hr hlk hK hP hD hS dX2_told_78 (hq _ _ (by rw [pL_X2_told_4, if_pos c1, if_neg c2, if_neg c3, if_pos c4]))
        · have hok := hok.1 c3
          refine lv_aload_n hx hb dX2_told_49 rfl (lv_at hl 0 rfl) ?_
          refine wm_get hC hin hK hP 18 (by decide) rfl (by decide +kernel) (mget_18 _ _) dX2_told_50 ?_
          refine lv_goto (tgt := 78) hx hb dX2_told_53 (by decide) ?_
          exact wx_reti kst_K S hx hb hr hlk hK hP hD hS dX2_told_78 (hq _ _ (by rw [pL_X2_told_4, if_pos c1, if_neg c2, if_pos c3]))
      · have hok := hok.1 c2
        refine lv_aload_n hx hb dX2_told_37 rfl (lv_at hl 0 rfl) ?_
        refine wm_get hC hin hK hP 5 (by decide) rfl (by decide +kernel) (mget_5 _ _) dX2_told_38 ?_
        refine lv_goto (tgt := 78) hx hb dX2_told_41 (by decide) ?_
        exact wx_reti kst_K S hx hb hr hlk hK hP hD hS dX2_told_78 (hq _ _ (by rw [pL_X2_told_4, if_pos c1, if_pos c2]))
    · have hok := hok.2 c1
      refine lv_iload_n hx hb dX2_told_10 rfl (lv_at hl 2 rfl) ?_
      refine lv_aload_n hx hb dX2_told_11 rfl (lv_at hl 0 rfl) ?_
      refine wm_get hC hin hK hP 16 (by decide) rfl (by decide +kernel) (mget_16 _ _) dX2_told_12 ?_
      refine lv_iload_n hx hb dX2_told_15 rfl (lv_at hl 3 rfl) ?_
      obtain ⟨b6, hok⟩ := hok
      refine wm_iald hC hK hP 16 15 (marr_16 _ _ _ _ _ _) b6 dX2_told_16 ?_
      refine lv_if_le (tgt := 24) hx hb dX2_told_17 (by decide) (fun c7 => ?_) (fun c7 => ?_)
      · have hok := hok.1 c7
        refine lv_iconst (v := 0) hx hb dX2_told_24 (by decide) ?_
        refine lv_iadd hx hb dX2_told_25 ?_
        refine lv_istore_n (lv' := [(2, .int (x2 + 0)), (0, .ref h), (1, .int x1), (3, .int x3)]) hx hb dX2_told_26 rfl hl (by decide) rfl (fun ls hl => ?_)
        refine lv_iinc (v := x3 + 1) (lv' := [(3, .int (x3 + 1)), (2, .int (x2 + 0)), (0, .ref h), (1, .int x1)]) hx hb dX2_told_27 hl (k := 3) rfl rfl (by decide) rfl (fun ls hl => ?_)
        refine lv_goto (tgt := 4) hx hb dX2_told_30 (by decide) ?_
        exact ih S x1 (x2 + 0) (x3 + 1) hok (fun r u hru => hq r u (hru.trans (by rw [pL_X2_told_4, if_neg c1, if_pos c7]))) _ _ hP hD hS ls (lv_sub hl [2, 3, 1, 0] rfl)
      · have hok := hok.2 c7
        refine lv_iconst (v := 1) hx hb dX2_told_20 (by decide) ?_
        refine lv_goto (tgt := 25) hx hb dX2_told_21 (by decide) ?_
        refine lv_iadd hx hb dX2_told_25 ?_
        refine lv_istore_n (lv' := [(2, .int (x2 + 1)), (0, .ref h), (1, .int x1), (3, .int x3)]) hx hb dX2_told_26 rfl hl (by decide) rfl (fun ls hl => ?_)
        refine lv_iinc (v := x3 + 1) (lv' := [(3, .int (x3 + 1)), (2, .int (x2 + 1)), (0, .ref h), (1, .int x1)]) hx hb dX2_told_27 hl (k := 3) rfl rfl (by decide) rfl (fun ls hl => ?_)
        refine lv_goto (tgt := 4) hx hb dX2_told_30 (by decide) ?_
        exact ih S x1 (x2 + 1) (x3 + 1) hok (fun r u hru => hq r u (hru.trans (by rw [pL_X2_told_4, if_neg c1, if_neg c7]))) _ _ hP hD hS ls (lv_sub hl [2, 3, 1, 0] rfl)
def p_X2_told (N : Nat) (S : MS) (a1 : Int32) : Int32 × MS := pL_X2_told_4 N N S a1 0 0
def ok_X2_told (N : Nat) (S : MS) (a1 : Int32) : Prop := okL_X2_told_4 N N S a1 0 0
set_option maxHeartbeats 4000000 in
set_option maxRecDepth 100000 in
theorem c_X2_told (l : Launch) (D : va_G) (h : Nat) (ad : Nat → Nat) (cI cJ cZ : ClassId) (N : Nat) (S : MS) (a1 : Int32) (hok : ok_X2_told N S a1) : MetI l yX2_told wsX2_told ({ frames := 0, cells := 0, slots := 0, locals := 0 } : Room) D (va_K D vwCl (mTy cI cJ cZ)) (mW h ad cI cJ cZ) S [.ref h, .int a1] (fun r u => (r, u) = p_X2_told N S a1) 0 0 := by
  unfold ok_X2_told at hok
  refine MetI.of (cc := cX2_told) (maxL := 4) (by decide) rfl (Nat.le_of_ble_eq_true rfl) ?_
  intro p e s m below meth c A ls hC hr hlk hnm hK hP hD hA hl
  obtain ⟨hx, hb, hml, hown, hts⟩ := id hC
  have hS : va_S A s.heap s.heap [] := va_S.rf
  have hin : ∀ w ∈ wsX20, w ∈ wsX2_told := fun _ h => List.mem_cons_of_mem _ (List.mem_append_right _ h)
  have hl : lv_has ls 4 [(0, .ref h), (1, .int a1)] := hl
  refine lv_iconst (v := 0) hx hb dX2_told_0 (by decide) ?_
  refine lv_istore_n (lv' := [(2, .int 0), (0, .ref h), (1, .int a1)]) hx hb dX2_told_1 rfl hl (by decide) rfl (fun ls hl => ?_)
  refine lv_iconst (v := 0) hx hb dX2_told_2 (by decide) ?_
  refine lv_istore_n (lv' := [(3, .int 0), (2, .int 0), (0, .ref h), (1, .int a1)]) hx hb dX2_told_3 rfl hl (by decide) rfl (fun ls hl => ?_)
  exact cL_X2_told_4 hC hr hlk hK hA N N S a1 0 0 hok (fun r u hru => hru.trans (by unfold p_X2_told; rfl)) _ _ hP hD hS ls (lv_sub hl [2, 3, 1, 0] rfl)
def p_X2_begin (S : MS) (a1 : Int32) (a2 : Int32) (a3 : Int32) : MS := if (S.1 18) = 80 then (msI S 27 (-6)) else (if (S.1 20) = 24 then (msI (msI S 18 ((S.1 18) + 1)) 27 (-7)) else (if 0 ≤ a1 then (msI (msJ (msA (msA (msA (msA (msI S 18 ((S.1 18) + 1)) 21 ((S.1 20).toNatClampNeg) a1) 22 ((S.1 20).toNatClampNeg) a2) 23 ((S.1 20).toNatClampNeg) a3) 24 ((S.1 20).toNatClampNeg) 0) 25 ((S.1 20).toNatClampNeg) 0) 20 ((S.1 20) + 1)) else (msI (msI S 18 ((S.1 18) + 1)) 27 (-2))))
def ok_X2_begin (S : MS) (a1 : Int32) (a2 : Int32) (a3 : Int32) : Prop := ((S.1 18) = 80 → True) ∧ (¬ (S.1 18) = 80 → (((S.1 20) = 24 → True) ∧ (¬ (S.1 20) = 24 → ((0 ≤ a1 → ((vp_in (S.1 20) 24) ∧ ((vp_in (S.1 20) 24) ∧ ((vp_in (S.1 20) 24) ∧ ((vp_in (S.1 20) 24) ∧ ((vp_in (S.1 20) 24) ∧ (True))))))) ∧ (¬ 0 ≤ a1 → True)))))
set_option maxHeartbeats 4000000 in
set_option maxRecDepth 100000 in
theorem c_X2_begin (l : Launch) (D : va_G) (h : Nat) (ad : Nat → Nat) (cI cJ cZ : ClassId) (S : MS) (a1 : Int32) (a2 : Int32) (a3 : Int32) (hok : ok_X2_begin S a1 a2 a3) : MetV l yX2_begin wsX2_begin ({ frames := 0, cells := 0, slots := 0, locals := 0 } : Room) D (va_K D vwCl (mTy cI cJ cZ)) (mW h ad cI cJ cZ) S [.ref h, .int a1, .int a2, .int a3] (fun u => u = p_X2_begin S a1 a2 a3) 0 0 := by
  unfold ok_X2_begin at hok
  refine MetV.of (cc := cX2_begin) (maxL := 4) (by decide) rfl (Nat.le_of_ble_eq_true rfl) ?_
  intro p e s m below meth c A ls hC hr hlk hnm hK hP hD hA hl
  obtain ⟨hx, hb, hml, hown, hts⟩ := id hC
  have hS : va_S A s.heap s.heap [] := va_S.rf
  have hin : ∀ w ∈ wsX20, w ∈ wsX2_begin := fun _ h => List.mem_cons_of_mem _ (List.mem_append_right _ h)
  have hl : lv_has ls 4 [(0, .ref h), (1, .int a1), (2, .int a2), (3, .int a3)] := hl
  refine lv_aload_n hx hb dX2_begin_0 rfl (lv_at hl 0 rfl) ?_
  refine wm_get hC hin hK hP 18 (by decide) rfl (by decide +kernel) (mget_18 _ _) dX2_begin_1 ?_
  refine lv_bipush (v := 80) hx hb dX2_begin_4 (by decide) ?_
  refine lv_icmp_ne (tgt := 16) hx hb dX2_begin_6 (by decide) (fun c1 => ?_) (fun c1 => ?_)
  · have hok := hok.2 c1
    refine lv_aload_n hx hb dX2_begin_16 rfl (lv_at hl 0 rfl) ?_
    refine lv_dup hx hb dX2_begin_17 rfl ?_
    refine wm_get hC hin hK hP 18 (by decide) rfl (by decide +kernel) (mget_18 _ _) dX2_begin_18 ?_
    refine lv_iconst (v := 1) hx hb dX2_begin_21 (by decide) ?_
    refine lv_iadd hx hb dX2_begin_22 ?_
    refine wm_putI hC hin hK hP hD hS 18 (by decide) rfl (by decide +kernel) rfl (by decide +kernel) (mset_18 _ _ _) dX2_begin_23 (fun H locs hP hD hS => ?_)
    refine lv_aload_n hx hb dX2_begin_26 rfl (lv_at hl 0 rfl) ?_
    refine wm_get hC hin hK hP 20 (by decide) rfl (by decide +kernel) (mget_20 _ _) dX2_begin_27 ?_
    refine lv_see (v2 := .int (S.1 20)) rfl ?_
    refine lv_bipush (v := 24) hx hb dX2_begin_30 (by decide) ?_
    refine lv_icmp_ne (tgt := 44) hx hb dX2_begin_32 (by decide) (fun c2 => ?_) (fun c2 => ?_)
    · have hok := hok.2 c2
      refine lv_iload_n hx hb dX2_begin_44 rfl (lv_at hl 1 rfl) ?_
      refine lv_if_ge (tgt := 57) hx hb dX2_begin_45 (by decide) (fun c3 => ?_) (fun c3 => ?_)
      · have hok := hok.1 c3
        refine lv_aload_n hx hb dX2_begin_57 rfl (lv_at hl 0 rfl) ?_
        refine wm_get hC hin hK hP 21 (by decide) rfl (by decide +kernel) (mget_21 _ _) dX2_begin_58 ?_
        refine lv_aload_n hx hb dX2_begin_61 rfl (lv_at hl 0 rfl) ?_
        refine wm_get hC hin hK hP 20 (by decide) rfl (by decide +kernel) (mget_20 _ _) dX2_begin_62 ?_
        refine lv_see (v2 := .int (S.1 20)) rfl ?_
        refine lv_iload_n hx hb dX2_begin_65 rfl (lv_at hl 1 rfl) ?_
        obtain ⟨b4, hok⟩ := hok
        refine wm_iast hC hK hP hD hS 21 16 (marr_21 _ _ _ _ _ _) (mast_21 _ _ _ _ _ _ _ _) b4 dX2_begin_66 (fun H locs hP hD hS => ?_)
        refine lv_aload_n hx hb dX2_begin_67 rfl (lv_at hl 0 rfl) ?_
        refine wm_get hC hin hK hP 22 (by decide) rfl (by decide +kernel) (mget_22 _ _) dX2_begin_68 ?_
        refine lv_aload_n hx hb dX2_begin_71 rfl (lv_at hl 0 rfl) ?_
        refine wm_get hC hin hK hP 20 (by decide) rfl (by decide +kernel) (mget_20 _ _) dX2_begin_72 ?_
        refine lv_see (v2 := .int (S.1 20)) rfl ?_
        refine lv_iload_n hx hb dX2_begin_75 rfl (lv_at hl 2 rfl) ?_
        obtain ⟨b5, hok⟩ := hok
        refine wm_iast hC hK hP hD hS 22 17 (marr_22 _ _ _ _ _ _) (mast_22 _ _ _ _ _ _ _ _) b5 dX2_begin_76 (fun H locs hP hD hS => ?_)
        refine lv_aload_n hx hb dX2_begin_77 rfl (lv_at hl 0 rfl) ?_
        refine wm_get hC hin hK hP 23 (by decide) rfl (by decide +kernel) (mget_23 _ _) dX2_begin_78 ?_
        refine lv_aload_n hx hb dX2_begin_81 rfl (lv_at hl 0 rfl) ?_
        refine wm_get hC hin hK hP 20 (by decide) rfl (by decide +kernel) (mget_20 _ _) dX2_begin_82 ?_
        refine lv_see (v2 := .int (S.1 20)) rfl ?_
        refine lv_iload_n hx hb dX2_begin_85 rfl (lv_at hl 3 rfl) ?_
        obtain ⟨b6, hok⟩ := hok
        refine wm_iast hC hK hP hD hS 23 18 (marr_23 _ _ _ _ _ _) (mast_23 _ _ _ _ _ _ _ _) b6 dX2_begin_86 (fun H locs hP hD hS => ?_)
        refine lv_aload_n hx hb dX2_begin_87 rfl (lv_at hl 0 rfl) ?_
        refine wm_get hC hin hK hP 24 (by decide) rfl (by decide +kernel) (mget_24 _ _) dX2_begin_88 ?_
        refine lv_aload_n hx hb dX2_begin_91 rfl (lv_at hl 0 rfl) ?_
        refine wm_get hC hin hK hP 20 (by decide) rfl (by decide +kernel) (mget_20 _ _) dX2_begin_92 ?_
        refine lv_see (v2 := .int (S.1 20)) rfl ?_
        refine lv_iconst (v := 0) hx hb dX2_begin_95 (by decide) ?_
        obtain ⟨b7, hok⟩ := hok
        refine wm_iast hC hK hP hD hS 24 19 (marr_24 _ _ _ _ _ _) (mast_24 _ _ _ _ _ _ _ _) b7 dX2_begin_96 (fun H locs hP hD hS => ?_)
        refine lv_aload_n hx hb dX2_begin_97 rfl (lv_at hl 0 rfl) ?_
        refine wm_get hC hin hK hP 25 (by decide) rfl (by decide +kernel) (mget_25 _ _) dX2_begin_98 ?_
        refine lv_aload_n hx hb dX2_begin_101 rfl (lv_at hl 0 rfl) ?_
        refine wm_get hC hin hK hP 20 (by decide) rfl (by decide +kernel) (mget_20 _ _) dX2_begin_102 ?_
        refine lv_see (v2 := .int (S.1 20)) rfl ?_
        refine lv_lconst (v := 0) hx hb dX2_begin_105 (by decide) ?_
        obtain ⟨b8, hok⟩ := hok
        refine wm_last hC hK hP hD hS 25 20 (marr_25 _ _ _ _ _ _) (mast_25 _ _ _ _ _ _ _ _) b8 dX2_begin_106 (fun H locs hP hD hS => ?_)
        refine lv_aload_n hx hb dX2_begin_107 rfl (lv_at hl 0 rfl) ?_
        refine lv_dup hx hb dX2_begin_108 rfl ?_
        refine wm_get hC hin hK hP 20 (by decide) rfl (by decide +kernel) (mget_20 _ _) dX2_begin_109 ?_
        refine lv_see (v2 := .int (S.1 20)) rfl ?_
        refine lv_iconst (v := 1) hx hb dX2_begin_112 (by decide) ?_
        refine lv_iadd hx hb dX2_begin_113 ?_
        refine wm_putI hC hin hK hP hD hS 20 (by decide) rfl (by decide +kernel) rfl (by decide +kernel) (mset_20 _ _ _) dX2_begin_114 (fun H locs hP hD hS => ?_)
        exact wx_retv kst_K (msI (msJ (msA (msA (msA (msA (msI S 18 ((S.1 18) + 1)) 21 ((S.1 20).toNatClampNeg) a1) 22 ((S.1 20).toNatClampNeg) a2) 23 ((S.1 20).toNatClampNeg) a3) 24 ((S.1 20).toNatClampNeg) 0) 25 ((S.1 20).toNatClampNeg) 0) 20 ((S.1 20) + 1)) hx hb hr hlk hK hP hD hS dX2_begin_117 (by unfold p_X2_begin; rw [if_neg c1, if_neg c2, if_pos c3])
      · have hok := hok.2 c3
        refine lv_aload_n hx hb dX2_begin_48 rfl (lv_at hl 0 rfl) ?_
        refine lv_bipush (v := (-2)) hx hb dX2_begin_49 (by decide) ?_
        refine wm_putI hC hin hK hP hD hS 27 (by decide) rfl (by decide +kernel) rfl (by decide +kernel) (mset_27 _ _ _) dX2_begin_51 (fun H locs hP hD hS => ?_)
        refine lv_goto (tgt := 117) hx hb dX2_begin_54 (by decide) ?_
        exact wx_retv kst_K (msI (msI S 18 ((S.1 18) + 1)) 27 (-2)) hx hb hr hlk hK hP hD hS dX2_begin_117 (by unfold p_X2_begin; rw [if_neg c1, if_neg c2, if_neg c3])
    · have hok := hok.1 c2
      refine lv_aload_n hx hb dX2_begin_35 rfl (lv_at hl 0 rfl) ?_
      refine lv_bipush (v := (-7)) hx hb dX2_begin_36 (by decide) ?_
      refine wm_putI hC hin hK hP hD hS 27 (by decide) rfl (by decide +kernel) rfl (by decide +kernel) (mset_27 _ _ _) dX2_begin_38 (fun H locs hP hD hS => ?_)
      refine lv_goto (tgt := 117) hx hb dX2_begin_41 (by decide) ?_
      exact wx_retv kst_K (msI (msI S 18 ((S.1 18) + 1)) 27 (-7)) hx hb hr hlk hK hP hD hS dX2_begin_117 (by unfold p_X2_begin; rw [if_neg c1, if_pos c2])
  · have hok := hok.1 c1
    refine lv_aload_n hx hb dX2_begin_9 rfl (lv_at hl 0 rfl) ?_
    refine lv_bipush (v := (-6)) hx hb dX2_begin_10 (by decide) ?_
    refine wm_putI hC hin hK hP hD hS 27 (by decide) rfl (by decide +kernel) rfl (by decide +kernel) (mset_27 _ _ _) dX2_begin_12 (fun H locs hP hD hS => ?_)
    exact wx_retv kst_K (msI S 27 (-6)) hx hb hr hlk hK hP hD hS dX2_begin_15 (by unfold p_X2_begin; rw [if_pos c1])
def p_X2_gives (S : MS) (a1 : Int64) : MS := msI (msG S a1) 20 ((S.1 20) - 1)
def ok_X2_gives (S : MS) (a1 : Int64) : Prop := True
set_option maxHeartbeats 4000000 in
set_option maxRecDepth 100000 in
theorem c_X2_gives (l : Launch) (D : va_G) (h : Nat) (ad : Nat → Nat) (cI cJ cZ : ClassId) (S : MS) (a1 : Int64) (hok : ok_X2_gives S a1) : MetV l yX2_gives wsX2_gives ({ frames := 0, cells := 0, slots := 0, locals := 0 } : Room) D (va_K D vwCl (mTy cI cJ cZ)) (mW h ad cI cJ cZ) S [.ref h, .long a1] (fun u => u = p_X2_gives S a1) 0 0 := by
  unfold ok_X2_gives at hok
  refine MetV.of (cc := cX2_gives) (maxL := 3) (by decide) rfl (Nat.le_of_ble_eq_true rfl) ?_
  intro p e s m below meth c A ls hC hr hlk hnm hK hP hD hA hl
  obtain ⟨hx, hb, hml, hown, hts⟩ := id hC
  have hS : va_S A s.heap s.heap [] := va_S.rf
  have hin : ∀ w ∈ wsX20, w ∈ wsX2_gives := fun _ h => List.mem_cons_of_mem _ (List.mem_append_right _ h)
  have hl : lv_has ls 3 [(0, .ref h), (1, .long a1)] := hl
  refine lv_aload_n hx hb dX2_gives_0 rfl (lv_at hl 0 rfl) ?_
  refine lv_lload_n hx hb dX2_gives_1 rfl (lv_at hl 1 rfl) ?_
  refine wm_putJ hC hin hK hP hD hS (by decide +kernel) dX2_gives_2 (fun H locs hP hD hS => ?_)
  refine lv_aload_n hx hb dX2_gives_5 rfl (lv_at hl 0 rfl) ?_
  refine lv_dup hx hb dX2_gives_6 rfl ?_
  refine wm_get hC hin hK hP 20 (by decide) rfl (by decide +kernel) (mget_20 _ _) dX2_gives_7 ?_
  refine lv_see (v2 := .int (S.1 20)) rfl ?_
  refine lv_iconst (v := 1) hx hb dX2_gives_10 (by decide) ?_
  refine lv_isub hx hb dX2_gives_11 ?_
  refine wm_putI hC hin hK hP hD hS 20 (by decide) rfl (by decide +kernel) rfl (by decide +kernel) (mset_20 _ _ _) dX2_gives_12 (fun H locs hP hD hS => ?_)
  exact wx_retv kst_K (msI (msG S a1) 20 ((S.1 20) - 1)) hx hb hr hlk hK hP hD hS dX2_gives_15 (by unfold p_X2_gives; rfl)
def p_X2_fails (S : MS) (a1 : Int32) : MS := msI (msI S 27 a1) 20 ((S.1 20) - 1)
def ok_X2_fails (S : MS) (a1 : Int32) : Prop := True
set_option maxHeartbeats 4000000 in
set_option maxRecDepth 100000 in
theorem c_X2_fails (l : Launch) (D : va_G) (h : Nat) (ad : Nat → Nat) (cI cJ cZ : ClassId) (S : MS) (a1 : Int32) (hok : ok_X2_fails S a1) : MetV l yX2_fails wsX2_fails ({ frames := 0, cells := 0, slots := 0, locals := 0 } : Room) D (va_K D vwCl (mTy cI cJ cZ)) (mW h ad cI cJ cZ) S [.ref h, .int a1] (fun u => u = p_X2_fails S a1) 0 0 := by
  unfold ok_X2_fails at hok
  refine MetV.of (cc := cX2_fails) (maxL := 2) (by decide) rfl (Nat.le_of_ble_eq_true rfl) ?_
  intro p e s m below meth c A ls hC hr hlk hnm hK hP hD hA hl
  obtain ⟨hx, hb, hml, hown, hts⟩ := id hC
  have hS : va_S A s.heap s.heap [] := va_S.rf
  have hin : ∀ w ∈ wsX20, w ∈ wsX2_fails := fun _ h => List.mem_cons_of_mem _ (List.mem_append_right _ h)
  have hl : lv_has ls 2 [(0, .ref h), (1, .int a1)] := hl
  refine lv_aload_n hx hb dX2_fails_0 rfl (lv_at hl 0 rfl) ?_
  refine lv_iload_n hx hb dX2_fails_1 rfl (lv_at hl 1 rfl) ?_
  refine wm_putI hC hin hK hP hD hS 27 (by decide) rfl (by decide +kernel) rfl (by decide +kernel) (mset_27 _ _ _) dX2_fails_2 (fun H locs hP hD hS => ?_)
  refine lv_aload_n hx hb dX2_fails_5 rfl (lv_at hl 0 rfl) ?_
  refine lv_dup hx hb dX2_fails_6 rfl ?_
  refine wm_get hC hin hK hP 20 (by decide) rfl (by decide +kernel) (mget_20 _ _) dX2_fails_7 ?_
  refine lv_see (v2 := .int (S.1 20)) rfl ?_
  refine lv_iconst (v := 1) hx hb dX2_fails_10 (by decide) ?_
  refine lv_isub hx hb dX2_fails_11 ?_
  refine wm_putI hC hin hK hP hD hS 20 (by decide) rfl (by decide +kernel) rfl (by decide +kernel) (mset_20 _ _ _) dX2_fails_12 (fun H locs hP hD hS => ?_)
  exact wx_retv kst_K (msI (msI S 27 a1) 20 ((S.1 20) - 1)) hx hb hr hlk hK hP hD hS dX2_fails_15 (by unfold p_X2_fails; rfl)
def p_X2_asks (S : MS) (a1 : Int32) (a2 : Int32) (a3 : Int32) : MS := p_X2_begin (msA S 24 (((S.1 20) - 1).toNatClampNeg) ((S.2.1 24 (((S.1 20) - 1).toNatClampNeg)) + 1)) a1 a2 a3
def ok_X2_asks (S : MS) (a1 : Int32) (a2 : Int32) (a3 : Int32) : Prop := (vp_in ((S.1 20) - 1) 24) ∧ ((vp_in ((S.1 20) - 1) 24) ∧ ((ok_X2_begin (msA S 24 (((S.1 20) - 1).toNatClampNeg) ((S.2.1 24 (((S.1 20) - 1).toNatClampNeg)) + 1)) a1 a2 a3) ∧ (True)))
set_option maxHeartbeats 4000000 in
set_option maxRecDepth 100000 in
theorem c_X2_asks (l : Launch) (D : va_G) (h : Nat) (ad : Nat → Nat) (cI cJ cZ : ClassId) (S : MS) (a1 : Int32) (a2 : Int32) (a3 : Int32) (hok : ok_X2_asks S a1 a2 a3) : MetV l yX2_asks wsX2_asks ({ frames := 1, cells := 0, slots := 0, locals := 23 } : Room) D (va_K D vwCl (mTy cI cJ cZ)) (mW h ad cI cJ cZ) S [.ref h, .int a1, .int a2, .int a3] (fun u => u = p_X2_asks S a1 a2 a3) 0 0 := by
  unfold ok_X2_asks at hok
  refine MetV.of (cc := cX2_asks) (maxL := 4) (by decide) rfl (Nat.le_of_ble_eq_true rfl) ?_
  intro p e s m below meth c A ls hC hr hlk hnm hK hP hD hA hl
  obtain ⟨hx, hb, hml, hown, hts⟩ := id hC
  have hS : va_S A s.heap s.heap [] := va_S.rf
  have hin : ∀ w ∈ wsX20, w ∈ wsX2_asks := fun _ h => List.mem_cons_of_mem _ (List.mem_append_right _ h)
  have hl : lv_has ls 4 [(0, .ref h), (1, .int a1), (2, .int a2), (3, .int a3)] := hl
  refine lv_aload_n hx hb dX2_asks_0 rfl (lv_at hl 0 rfl) ?_
  refine wm_get hC hin hK hP 24 (by decide) rfl (by decide +kernel) (mget_24 _ _) dX2_asks_1 ?_
  refine lv_aload_n hx hb dX2_asks_4 rfl (lv_at hl 0 rfl) ?_
  refine wm_get hC hin hK hP 20 (by decide) rfl (by decide +kernel) (mget_20 _ _) dX2_asks_5 ?_
  refine lv_iconst (v := 1) hx hb dX2_asks_8 (by decide) ?_
  refine lv_isub hx hb dX2_asks_9 ?_
  refine lv_dup2_11 hx hb dX2_asks_10 rfl rfl ?_
  obtain ⟨b1, hok⟩ := hok
  refine wm_iald hC hK hP 24 19 (marr_24 _ _ _ _ _ _) b1 dX2_asks_11 ?_
  refine lv_iconst (v := 1) hx hb dX2_asks_12 (by decide) ?_
  refine lv_iadd hx hb dX2_asks_13 ?_
  obtain ⟨b2, hok⟩ := hok
  refine wm_iast hC hK hP hD hS 24 19 (marr_24 _ _ _ _ _ _) (mast_24 _ _ _ _ _ _ _ _) b2 dX2_asks_14 (fun H locs hP hD hS => ?_)
  refine lv_aload_n hx hb dX2_asks_15 rfl (lv_at hl 0 rfl) ?_
  refine lv_iload_n hx hb dX2_asks_16 rfl (lv_at hl 1 rfl) ?_
  refine lv_iload_n hx hb dX2_asks_17 rfl (lv_at hl 2 rfl) ?_
  refine lv_iload_n hx hb dX2_asks_18 rfl (lv_at hl 3 rfl) ?_
  obtain ⟨o3, hok⟩ := hok
  refine wx_callVv (As := [.int a1, .int a2, .int a3]) (rest := []) kst_K hC (c_X2_begin l D h ad cI cJ cZ (msA S 24 (((S.1 20) - 1).toNatClampNeg) ((S.2.1 24 (((S.1 20) - 1).toNatClampNeg)) + 1)) a1 a2 a3 o3) (cwV 3 hts gX2_asks_X2_begin rfl rfl rfl (by decide +kernel) ⟨Nat.le_of_ble_eq_true rfl, Nat.le_of_ble_eq_true rfl⟩) hK hP hD hS hA (wm_cell hK hP) rfl hl.1 rfl (Nat.le_of_ble_eq_true rfl) dX2_asks_19 ⟨Nat.le_of_ble_eq_true rfl, Nat.le_of_ble_eq_true rfl⟩ (fun u3 H locs hw hP hD hS => ?_)
  obtain rfl : u3 = p_X2_begin (msA S 24 (((S.1 20) - 1).toNatClampNeg) ((S.2.1 24 (((S.1 20) - 1).toNatClampNeg)) + 1)) a1 a2 a3 := hw
  exact wx_retv kst_K (p_X2_begin (msA S 24 (((S.1 20) - 1).toNatClampNeg) ((S.2.1 24 (((S.1 20) - 1).toNatClampNeg)) + 1)) a1 a2 a3) hx hb hr hlk hK hP hD hS dX2_asks_22 (by unfold p_X2_asks; rfl)
def p_X2_join (S : MS) (a1 : Int32) (a2 : Int64) (a3 : Int64) : MS := if a1 = 3 then (if (lg_cmp a3 0) = 0 then (p_X2_fails S (-3)) else (p_X2_gives S (a2 / a3))) else (if a1 = 4 then (if (lg_cmp a3 0) = 0 then (p_X2_fails S (-3)) else (p_X2_gives S (a2 - a2 / a3 * a3))) else (if a1 = 0 then (p_X2_gives S (a2 + a3)) else (if a1 = 1 then (p_X2_gives S (a2 - a3)) else (if a1 = 2 then (p_X2_gives S (a2 * a3)) else (if 0 ≤ (lg_cmp a2 a3) then (p_X2_gives S a3) else (p_X2_gives S a2))))))
def ok_X2_join (S : MS) (a1 : Int32) (a2 : Int64) (a3 : Int64) : Prop := (a1 = 3 → (((lg_cmp a3 0) = 0 → ((ok_X2_fails S (-3)) ∧ (True))) ∧ (¬ (lg_cmp a3 0) = 0 → ((¬ a3 = 0) ∧ ((ok_X2_gives S (a2 / a3)) ∧ (True)))))) ∧ (¬ a1 = 3 → ((a1 = 4 → (((lg_cmp a3 0) = 0 → ((ok_X2_fails S (-3)) ∧ (True))) ∧ (¬ (lg_cmp a3 0) = 0 → ((¬ a3 = 0) ∧ ((ok_X2_gives S (a2 - a2 / a3 * a3)) ∧ (True)))))) ∧ (¬ a1 = 4 → ((a1 = 0 → ((ok_X2_gives S (a2 + a3)) ∧ (True))) ∧ (¬ a1 = 0 → ((a1 = 1 → ((ok_X2_gives S (a2 - a3)) ∧ (True))) ∧ (¬ a1 = 1 → ((a1 = 2 → ((ok_X2_gives S (a2 * a3)) ∧ (True))) ∧ (¬ a1 = 2 → ((0 ≤ (lg_cmp a2 a3) → ((ok_X2_gives S a3) ∧ (True))) ∧ (¬ 0 ≤ (lg_cmp a2 a3) → ((ok_X2_gives S a2) ∧ (True)))))))))))))
set_option maxHeartbeats 4000000 in
set_option maxRecDepth 100000 in
theorem c_X2_join (l : Launch) (D : va_G) (h : Nat) (ad : Nat → Nat) (cI cJ cZ : ClassId) (S : MS) (a1 : Int32) (a2 : Int64) (a3 : Int64) (hok : ok_X2_join S a1 a2 a3) : MetV l yX2_join wsX2_join ({ frames := 1, cells := 0, slots := 0, locals := 22 } : Room) D (va_K D vwCl (mTy cI cJ cZ)) (mW h ad cI cJ cZ) S [.ref h, .int a1, .long a2, .long a3] (fun u => u = p_X2_join S a1 a2 a3) 0 0 := by
  unfold ok_X2_join at hok
  refine MetV.of (cc := cX2_join) (maxL := 6) (by decide) rfl (Nat.le_of_ble_eq_true rfl) ?_
  intro p e s m below meth c A ls hC hr hlk hnm hK hP hD hA hl
  obtain ⟨hx, hb, hml, hown, hts⟩ := id hC
  have hS : va_S A s.heap s.heap [] := va_S.rf
  have hin : ∀ w ∈ wsX20, w ∈ wsX2_join := fun _ h => List.mem_cons_of_mem _ (List.mem_append_right _ h)
  have hl : lv_has ls 6 [(0, .ref h), (1, .int a1), (2, .long a2), (4, .long a3)] := hl
  refine lv_iload_n hx hb dX2_join_0 rfl (lv_at hl 1 rfl) ?_
  refine lv_iconst (v := 3) hx hb dX2_join_1 (by decide) ?_
  refine lv_icmp_eq (tgt := 10) hx hb dX2_join_2 (by decide) (fun c1 => ?_) (fun c1 => ?_)
  · have hok := hok.1 c1
    refine lv_lload hx hb dX2_join_10 (lv_at hl 3 rfl) ?_
    refine lv_lconst (v := 0) hx hb dX2_join_12 (by decide) ?_
    refine W.lcmp hx hb dX2_join_13 ?_
    refine lv_if_ne (tgt := 24) hx hb dX2_join_14 (by decide) (fun c2 => ?_) (fun c2 => ?_)
    · have hok := hok.2 c2
      refine lv_aload_n hx hb dX2_join_24 rfl (lv_at hl 0 rfl) ?_
      refine lv_iload_n hx hb dX2_join_25 rfl (lv_at hl 1 rfl) ?_
      refine lv_if_ne (tgt := 36) hx hb dX2_join_26 (by decide) (fun _ => ?_) (fun c => absurd c (by rw [c1]; decide))
      refine lv_iload_n hx hb dX2_join_36 rfl (lv_at hl 1 rfl) ?_
      refine lv_iconst (v := 1) hx hb dX2_join_37 (by decide) ?_
      refine lv_icmp_ne (tgt := 48) hx hb dX2_join_38 (by decide) (fun _ => ?_) (fun c => absurd c (by rw [c1]; decide))
      refine lv_iload_n hx hb dX2_join_48 rfl (lv_at hl 1 rfl) ?_
      refine lv_iconst (v := 2) hx hb dX2_join_49 (by decide) ?_
      refine lv_icmp_ne (tgt := 60) hx hb dX2_join_50 (by decide) (fun _ => ?_) (fun c => absurd c (by rw [c1]; decide))
      refine lv_iload_n hx hb dX2_join_60 rfl (lv_at hl 1 rfl) ?_
      refine lv_iconst (v := 3) hx hb dX2_join_61 (by decide) ?_
      refine lv_icmp_ne (tgt := 72) hx hb dX2_join_62 (by decide) (fun c => absurd c1 c) (fun _ => ?_)
      refine lv_lload_n hx hb dX2_join_65 rfl (lv_at hl 2 rfl) ?_
      refine lv_lload hx hb dX2_join_66 (lv_at hl 3 rfl) ?_
      obtain ⟨b7, hok⟩ := hok
      refine lv_ldiv hx hb dX2_join_68 b7 ?_
      refine lv_goto (tgt := 97) hx hb dX2_join_69 (by decide) ?_
      obtain ⟨o8, hok⟩ := hok
      refine wx_callVv (As := [.long (a2 / a3)]) (rest := []) kst_K hC (c_X2_gives l D h ad cI cJ cZ S (a2 / a3) o8) (cwV 1 hts gX2_join_X2_gives rfl rfl rfl (by decide +kernel) ⟨Nat.le_of_ble_eq_true rfl, Nat.le_of_ble_eq_true rfl⟩) hK hP hD hS hA (wm_cell hK hP) rfl hl.1 rfl (Nat.le_of_ble_eq_true rfl) dX2_join_97 ⟨Nat.le_of_ble_eq_true rfl, Nat.le_of_ble_eq_true rfl⟩ (fun u8 H locs hw hP hD hS => ?_)
      obtain rfl : u8 = p_X2_gives S (a2 / a3) := hw
      exact wx_retv kst_K (p_X2_gives S (a2 / a3)) hx hb hr hlk hK hP hD hS dX2_join_100 (by unfold p_X2_join; rw [if_pos c1, if_neg c2])
    · have hok := hok.1 c2
      refine lv_aload_n hx hb dX2_join_17 rfl (lv_at hl 0 rfl) ?_
      refine lv_bipush (v := (-3)) hx hb dX2_join_18 (by decide) ?_
      obtain ⟨o9, hok⟩ := hok
      refine wx_callVv (As := [.int (-3)]) (rest := []) kst_K hC (c_X2_fails l D h ad cI cJ cZ S (-3) o9) (cwV 1 hts gX2_join_X2_fails rfl rfl rfl (by decide +kernel) ⟨Nat.le_of_ble_eq_true rfl, Nat.le_of_ble_eq_true rfl⟩) hK hP hD hS hA (wm_cell hK hP) rfl hl.1 rfl (Nat.le_of_ble_eq_true rfl) dX2_join_20 ⟨Nat.le_of_ble_eq_true rfl, Nat.le_of_ble_eq_true rfl⟩ (fun u9 H locs hw hP hD hS => ?_)
      obtain rfl : u9 = p_X2_fails S (-3) := hw
      exact wx_retv kst_K (p_X2_fails S (-3)) hx hb hr hlk hK hP hD hS dX2_join_23 (by unfold p_X2_join; rw [if_pos c1, if_pos c2])
  · have hok := hok.2 c1
    refine lv_iload_n hx hb dX2_join_5 rfl (lv_at hl 1 rfl) ?_
    refine lv_iconst (v := 4) hx hb dX2_join_6 (by decide) ?_
    refine lv_icmp_ne (tgt := 24) hx hb dX2_join_7 (by decide) (fun c10 => ?_) (fun c10 => ?_)
    · have hok := hok.2 c10
      refine lv_aload_n hx hb dX2_join_24 rfl (lv_at hl 0 rfl) ?_
      refine lv_iload_n hx hb dX2_join_25 rfl (lv_at hl 1 rfl) ?_
      refine lv_if_ne (tgt := 36) hx hb dX2_join_26 (by decide) (fun c11 => ?_) (fun c11 => ?_)
      · have hok := hok.2 c11
        refine lv_iload_n hx hb dX2_join_36 rfl (lv_at hl 1 rfl) ?_
        refine lv_iconst (v := 1) hx hb dX2_join_37 (by decide) ?_
        refine lv_icmp_ne (tgt := 48) hx hb dX2_join_38 (by decide) (fun c12 => ?_) (fun c12 => ?_)
        · have hok := hok.2 c12
          refine lv_iload_n hx hb dX2_join_48 rfl (lv_at hl 1 rfl) ?_
          refine lv_iconst (v := 2) hx hb dX2_join_49 (by decide) ?_
          refine lv_icmp_ne (tgt := 60) hx hb dX2_join_50 (by decide) (fun c13 => ?_) (fun c13 => ?_)
          · have hok := hok.2 c13
            refine lv_iload_n hx hb dX2_join_60 rfl (lv_at hl 1 rfl) ?_
            refine lv_iconst (v := 3) hx hb dX2_join_61 (by decide) ?_
            refine lv_icmp_ne (tgt := 72) hx hb dX2_join_62 (by decide) (fun _ => ?_) (fun c => absurd c c1)
            refine lv_iload_n hx hb dX2_join_72 rfl (lv_at hl 1 rfl) ?_
            refine lv_iconst (v := 4) hx hb dX2_join_73 (by decide) ?_
            refine lv_icmp_ne (tgt := 84) hx hb dX2_join_74 (by decide) (fun _ => ?_) (fun c => absurd c c10)
            refine lv_lload_n hx hb dX2_join_84 rfl (lv_at hl 2 rfl) ?_
            refine lv_lload hx hb dX2_join_85 (lv_at hl 3 rfl) ?_
            refine W.lcmp hx hb dX2_join_87 ?_
            refine lv_if_ge (tgt := 95) hx hb dX2_join_88 (by decide) (fun c16 => ?_) (fun c16 => ?_)
            · have hok := hok.1 c16
              refine lv_lload hx hb dX2_join_95 (lv_at hl 3 rfl) ?_
              obtain ⟨o17, hok⟩ := hok
              refine wx_callVv (As := [.long a3]) (rest := []) kst_K hC (c_X2_gives l D h ad cI cJ cZ S a3 o17) (cwV 1 hts gX2_join_X2_gives rfl rfl rfl (by decide +kernel) ⟨Nat.le_of_ble_eq_true rfl, Nat.le_of_ble_eq_true rfl⟩) hK hP hD hS hA (wm_cell hK hP) rfl hl.1 rfl (Nat.le_of_ble_eq_true rfl) dX2_join_97 ⟨Nat.le_of_ble_eq_true rfl, Nat.le_of_ble_eq_true rfl⟩ (fun u17 H locs hw hP hD hS => ?_)
              obtain rfl : u17 = p_X2_gives S a3 := hw
              exact wx_retv kst_K (p_X2_gives S a3) hx hb hr hlk hK hP hD hS dX2_join_100 (by unfold p_X2_join; rw [if_neg c1, if_neg c10, if_neg c11, if_neg c12, if_neg c13, if_pos c16])
            · have hok := hok.2 c16
              refine lv_lload_n hx hb dX2_join_91 rfl (lv_at hl 2 rfl) ?_
              refine lv_goto (tgt := 97) hx hb dX2_join_92 (by decide) ?_
              obtain ⟨o18, hok⟩ := hok
              refine wx_callVv (As := [.long a2]) (rest := []) kst_K hC (c_X2_gives l D h ad cI cJ cZ S a2 o18) (cwV 1 hts gX2_join_X2_gives rfl rfl rfl (by decide +kernel) ⟨Nat.le_of_ble_eq_true rfl, Nat.le_of_ble_eq_true rfl⟩) hK hP hD hS hA (wm_cell hK hP) rfl hl.1 rfl (Nat.le_of_ble_eq_true rfl) dX2_join_97 ⟨Nat.le_of_ble_eq_true rfl, Nat.le_of_ble_eq_true rfl⟩ (fun u18 H locs hw hP hD hS => ?_)
              obtain rfl : u18 = p_X2_gives S a2 := hw
              exact wx_retv kst_K (p_X2_gives S a2) hx hb hr hlk hK hP hD hS dX2_join_100 (by unfold p_X2_join; rw [if_neg c1, if_neg c10, if_neg c11, if_neg c12, if_neg c13, if_neg c16])
          · have hok := hok.1 c13
            refine lv_lload_n hx hb dX2_join_53 rfl (lv_at hl 2 rfl) ?_
            refine lv_lload hx hb dX2_join_54 (lv_at hl 3 rfl) ?_
            refine lv_lmul hx hb dX2_join_56 ?_
            refine lv_goto (tgt := 97) hx hb dX2_join_57 (by decide) ?_
            obtain ⟨o19, hok⟩ := hok
            refine wx_callVv (As := [.long (a2 * a3)]) (rest := []) kst_K hC (c_X2_gives l D h ad cI cJ cZ S (a2 * a3) o19) (cwV 1 hts gX2_join_X2_gives rfl rfl rfl (by decide +kernel) ⟨Nat.le_of_ble_eq_true rfl, Nat.le_of_ble_eq_true rfl⟩) hK hP hD hS hA (wm_cell hK hP) rfl hl.1 rfl (Nat.le_of_ble_eq_true rfl) dX2_join_97 ⟨Nat.le_of_ble_eq_true rfl, Nat.le_of_ble_eq_true rfl⟩ (fun u19 H locs hw hP hD hS => ?_)
            obtain rfl : u19 = p_X2_gives S (a2 * a3) := hw
            exact wx_retv kst_K (p_X2_gives S (a2 * a3)) hx hb hr hlk hK hP hD hS dX2_join_100 (by unfold p_X2_join; rw [if_neg c1, if_neg c10, if_neg c11, if_neg c12, if_pos c13])
        · have hok := hok.1 c12
          refine lv_lload_n hx hb dX2_join_41 rfl (lv_at hl 2 rfl) ?_
          refine lv_lload hx hb dX2_join_42 (lv_at hl 3 rfl) ?_
          refine lv_lsub hx hb dX2_join_44 ?_
          refine lv_goto (tgt := 97) hx hb dX2_join_45 (by decide) ?_
          obtain ⟨o20, hok⟩ := hok
          refine wx_callVv (As := [.long (a2 - a3)]) (rest := []) kst_K hC (c_X2_gives l D h ad cI cJ cZ S (a2 - a3) o20) (cwV 1 hts gX2_join_X2_gives rfl rfl rfl (by decide +kernel) ⟨Nat.le_of_ble_eq_true rfl, Nat.le_of_ble_eq_true rfl⟩) hK hP hD hS hA (wm_cell hK hP) rfl hl.1 rfl (Nat.le_of_ble_eq_true rfl) dX2_join_97 ⟨Nat.le_of_ble_eq_true rfl, Nat.le_of_ble_eq_true rfl⟩ (fun u20 H locs hw hP hD hS => ?_)
          obtain rfl : u20 = p_X2_gives S (a2 - a3) := hw
          exact wx_retv kst_K (p_X2_gives S (a2 - a3)) hx hb hr hlk hK hP hD hS dX2_join_100 (by unfold p_X2_join; rw [if_neg c1, if_neg c10, if_neg c11, if_pos c12])
      · have hok := hok.1 c11
        refine lv_lload_n hx hb dX2_join_29 rfl (lv_at hl 2 rfl) ?_
        refine lv_lload hx hb dX2_join_30 (lv_at hl 3 rfl) ?_
        refine lv_ladd hx hb dX2_join_32 ?_
        refine lv_goto (tgt := 97) hx hb dX2_join_33 (by decide) ?_
        obtain ⟨o21, hok⟩ := hok
        refine wx_callVv (As := [.long (a2 + a3)]) (rest := []) kst_K hC (c_X2_gives l D h ad cI cJ cZ S (a2 + a3) o21) (cwV 1 hts gX2_join_X2_gives rfl rfl rfl (by decide +kernel) ⟨Nat.le_of_ble_eq_true rfl, Nat.le_of_ble_eq_true rfl⟩) hK hP hD hS hA (wm_cell hK hP) rfl hl.1 rfl (Nat.le_of_ble_eq_true rfl) dX2_join_97 ⟨Nat.le_of_ble_eq_true rfl, Nat.le_of_ble_eq_true rfl⟩ (fun u21 H locs hw hP hD hS => ?_)
        obtain rfl : u21 = p_X2_gives S (a2 + a3) := hw
        exact wx_retv kst_K (p_X2_gives S (a2 + a3)) hx hb hr hlk hK hP hD hS dX2_join_100 (by unfold p_X2_join; rw [if_neg c1, if_neg c10, if_pos c11])
    · have hok := hok.1 c10
      refine lv_lload hx hb dX2_join_10 (lv_at hl 3 rfl) ?_
      refine lv_lconst (v := 0) hx hb dX2_join_12 (by decide) ?_
      refine W.lcmp hx hb dX2_join_13 ?_
      refine lv_if_ne (tgt := 24) hx hb dX2_join_14 (by decide) (fun c22 => ?_) (fun c22 => ?_)
      · have hok := hok.2 c22
        refine lv_aload_n hx hb dX2_join_24 rfl (lv_at hl 0 rfl) ?_
        refine lv_iload_n hx hb dX2_join_25 rfl (lv_at hl 1 rfl) ?_
        refine lv_if_ne (tgt := 36) hx hb dX2_join_26 (by decide) (fun _ => ?_) (fun c => absurd c (by rw [c10]; decide))
        refine lv_iload_n hx hb dX2_join_36 rfl (lv_at hl 1 rfl) ?_
        refine lv_iconst (v := 1) hx hb dX2_join_37 (by decide) ?_
        refine lv_icmp_ne (tgt := 48) hx hb dX2_join_38 (by decide) (fun _ => ?_) (fun c => absurd c (by rw [c10]; decide))
        refine lv_iload_n hx hb dX2_join_48 rfl (lv_at hl 1 rfl) ?_
        refine lv_iconst (v := 2) hx hb dX2_join_49 (by decide) ?_
        refine lv_icmp_ne (tgt := 60) hx hb dX2_join_50 (by decide) (fun _ => ?_) (fun c => absurd c (by rw [c10]; decide))
        refine lv_iload_n hx hb dX2_join_60 rfl (lv_at hl 1 rfl) ?_
        refine lv_iconst (v := 3) hx hb dX2_join_61 (by decide) ?_
        refine lv_icmp_ne (tgt := 72) hx hb dX2_join_62 (by decide) (fun _ => ?_) (fun c => absurd c c1)
        refine lv_iload_n hx hb dX2_join_72 rfl (lv_at hl 1 rfl) ?_
        refine lv_iconst (v := 4) hx hb dX2_join_73 (by decide) ?_
        refine lv_icmp_ne (tgt := 84) hx hb dX2_join_74 (by decide) (fun c => absurd c10 c) (fun _ => ?_)
        refine lv_lload_n hx hb dX2_join_77 rfl (lv_at hl 2 rfl) ?_
        refine lv_lload hx hb dX2_join_78 (lv_at hl 3 rfl) ?_
        obtain ⟨b28, hok⟩ := hok
        refine lv_lrem hx hb dX2_join_80 b28 ?_
        refine lv_goto (tgt := 97) hx hb dX2_join_81 (by decide) ?_
        obtain ⟨o29, hok⟩ := hok
        refine wx_callVv (As := [.long (a2 - a2 / a3 * a3)]) (rest := []) kst_K hC (c_X2_gives l D h ad cI cJ cZ S (a2 - a2 / a3 * a3) o29) (cwV 1 hts gX2_join_X2_gives rfl rfl rfl (by decide +kernel) ⟨Nat.le_of_ble_eq_true rfl, Nat.le_of_ble_eq_true rfl⟩) hK hP hD hS hA (wm_cell hK hP) rfl hl.1 rfl (Nat.le_of_ble_eq_true rfl) dX2_join_97 ⟨Nat.le_of_ble_eq_true rfl, Nat.le_of_ble_eq_true rfl⟩ (fun u29 H locs hw hP hD hS => ?_)
        obtain rfl : u29 = p_X2_gives S (a2 - a2 / a3 * a3) := hw
        exact wx_retv kst_K (p_X2_gives S (a2 - a2 / a3 * a3)) hx hb hr hlk hK hP hD hS dX2_join_100 (by unfold p_X2_join; rw [if_neg c1, if_pos c10, if_neg c22])
      · have hok := hok.1 c22
        refine lv_aload_n hx hb dX2_join_17 rfl (lv_at hl 0 rfl) ?_
        refine lv_bipush (v := (-3)) hx hb dX2_join_18 (by decide) ?_
        obtain ⟨o30, hok⟩ := hok
        refine wx_callVv (As := [.int (-3)]) (rest := []) kst_K hC (c_X2_fails l D h ad cI cJ cZ S (-3) o30) (cwV 1 hts gX2_join_X2_fails rfl rfl rfl (by decide +kernel) ⟨Nat.le_of_ble_eq_true rfl, Nat.le_of_ble_eq_true rfl⟩) hK hP hD hS hA (wm_cell hK hP) rfl hl.1 rfl (Nat.le_of_ble_eq_true rfl) dX2_join_20 ⟨Nat.le_of_ble_eq_true rfl, Nat.le_of_ble_eq_true rfl⟩ (fun u30 H locs hw hP hD hS => ?_)
        obtain rfl : u30 = p_X2_fails S (-3) := hw
        exact wx_retv kst_K (p_X2_fails S (-3)) hx hb hr hlk hK hP hD hS dX2_join_23 (by unfold p_X2_join; rw [if_neg c1, if_pos c10, if_pos c22])
def p_X2_goFar (S : MS) (a1 : Int32) (a2 : Int32) (a3 : Int32) (a4 : Int32) (a5 : Int32) : MS := if (S.2.1 6 a1.toNatClampNeg) = 9 then (if a4 ≤ 0 then (p_X2_asks S (p_X2_at S a5) a2 a3) else (p_X2_gives S S.2.2.2)) else (if (S.2.1 6 a1.toNatClampNeg) = 10 then (if a4 ≤ 0 then (if (lg_cmp a2.toInt64 (S.2.2.1 10 a1.toNatClampNeg)) ≤ 0 then (p_X2_asks S a5 a2 a3) else (p_X2_fails S (-5))) else (p_X2_gives S S.2.2.2)) else (if (S.2.1 6 a1.toNatClampNeg) = 11 then (if a4 = 0 then (p_X2_asks (msA S 11 a1.toNatClampNeg ((S.2.1 11 a1.toNatClampNeg) + 1)) a5 a2 a3) else (p_X2_gives S (S.2.2.2 + ((S.2.1 11 a1.toNatClampNeg).toInt64)))) else (if a4 ≤ 0 then (if (S.2.1 12 a1.toNatClampNeg) = 0 then (p_X2_asks S a5 a2 a3) else (if (S.2.1 13 a1.toNatClampNeg) = a2 then (if (S.2.1 14 a1.toNatClampNeg) = a3 then (p_X2_gives S (S.2.2.1 15 a1.toNatClampNeg)) else (p_X2_asks S a5 a2 a3)) else (p_X2_asks S a5 a2 a3))) else (p_X2_gives (msJ (msA (msA (msA S 12 a1.toNatClampNeg 1) 13 a1.toNatClampNeg a2) 14 a1.toNatClampNeg a3) 15 a1.toNatClampNeg S.2.2.2) S.2.2.2))))
def ok_X2_goFar (S : MS) (a1 : Int32) (a2 : Int32) (a3 : Int32) (a4 : Int32) (a5 : Int32) : Prop := (vp_in a1 4200) ∧ (((S.2.1 6 a1.toNatClampNeg) = 9 → ((a4 ≤ 0 → ((ok_X2_at S a5) ∧ ((ok_X2_asks S (p_X2_at S a5) a2 a3) ∧ (True)))) ∧ (¬ a4 ≤ 0 → ((ok_X2_gives S S.2.2.2) ∧ (True))))) ∧ (¬ (S.2.1 6 a1.toNatClampNeg) = 9 → (((S.2.1 6 a1.toNatClampNeg) = 10 → ((a4 ≤ 0 → ((vp_in a1 4200) ∧ (((lg_cmp a2.toInt64 (S.2.2.1 10 a1.toNatClampNeg)) ≤ 0 → ((ok_X2_asks S a5 a2 a3) ∧ (True))) ∧ (¬ (lg_cmp a2.toInt64 (S.2.2.1 10 a1.toNatClampNeg)) ≤ 0 → ((ok_X2_fails S (-5)) ∧ (True)))))) ∧ (¬ a4 ≤ 0 → ((ok_X2_gives S S.2.2.2) ∧ (True))))) ∧ (¬ (S.2.1 6 a1.toNatClampNeg) = 10 → (((S.2.1 6 a1.toNatClampNeg) = 11 → ((a4 = 0 → ((vp_in a1 4200) ∧ ((vp_in a1 4200) ∧ ((ok_X2_asks (msA S 11 a1.toNatClampNeg ((S.2.1 11 a1.toNatClampNeg) + 1)) a5 a2 a3) ∧ (True))))) ∧ (¬ a4 = 0 → ((vp_in a1 4200) ∧ ((ok_X2_gives S (S.2.2.2 + ((S.2.1 11 a1.toNatClampNeg).toInt64))) ∧ (True)))))) ∧ (¬ (S.2.1 6 a1.toNatClampNeg) = 11 → ((a4 ≤ 0 → ((vp_in a1 4200) ∧ (((S.2.1 12 a1.toNatClampNeg) = 0 → ((ok_X2_asks S a5 a2 a3) ∧ (True))) ∧ (¬ (S.2.1 12 a1.toNatClampNeg) = 0 → ((vp_in a1 4200) ∧ (((S.2.1 13 a1.toNatClampNeg) = a2 → ((vp_in a1 4200) ∧ (((S.2.1 14 a1.toNatClampNeg) = a3 → ((vp_in a1 4200) ∧ ((ok_X2_gives S (S.2.2.1 15 a1.toNatClampNeg)) ∧ (True)))) ∧ (¬ (S.2.1 14 a1.toNatClampNeg) = a3 → ((ok_X2_asks S a5 a2 a3) ∧ (True)))))) ∧ (¬ (S.2.1 13 a1.toNatClampNeg) = a2 → ((ok_X2_asks S a5 a2 a3) ∧ (True))))))))) ∧ (¬ a4 ≤ 0 → ((vp_in a1 4200) ∧ ((vp_in a1 4200) ∧ ((vp_in a1 4200) ∧ ((vp_in a1 4200) ∧ ((ok_X2_gives (msJ (msA (msA (msA S 12 a1.toNatClampNeg 1) 13 a1.toNatClampNeg a2) 14 a1.toNatClampNeg a3) 15 a1.toNatClampNeg S.2.2.2) S.2.2.2) ∧ (True))))))))))))))
set_option maxHeartbeats 4000000 in
set_option maxRecDepth 100000 in
theorem c_X2_goFar (l : Launch) (D : va_G) (h : Nat) (ad : Nat → Nat) (cI cJ cZ : ClassId) (S : MS) (a1 : Int32) (a2 : Int32) (a3 : Int32) (a4 : Int32) (a5 : Int32) (hok : ok_X2_goFar S a1 a2 a3 a4 a5) : MetV l yX2_goFar wsX2_goFar ({ frames := 2, cells := 0, slots := 0, locals := 46 } : Room) D (va_K D vwCl (mTy cI cJ cZ)) (mW h ad cI cJ cZ) S [.ref h, .int a1, .int a2, .int a3, .int a4, .int a5] (fun u => u = p_X2_goFar S a1 a2 a3 a4 a5) 0 0 := by
  unfold ok_X2_goFar at hok
  refine MetV.of (cc := cX2_goFar) (maxL := 6) (by decide) rfl (Nat.le_of_ble_eq_true rfl) ?_
  intro p e s m below meth c A ls hC hr hlk hnm hK hP hD hA hl
  obtain ⟨hx, hb, hml, hown, hts⟩ := id hC
  have hS : va_S A s.heap s.heap [] := va_S.rf
  have hin : ∀ w ∈ wsX20, w ∈ wsX2_goFar := fun _ h => List.mem_cons_of_mem _ (List.mem_append_right _ h)
  have hl : lv_has ls 6 [(0, .ref h), (1, .int a1), (2, .int a2), (3, .int a3), (4, .int a4), (5, .int a5)] := hl
  refine lv_aload_n hx hb dX2_goFar_0 rfl (lv_at hl 0 rfl) ?_
  refine wm_get hC hin hK hP 6 (by decide) rfl (by decide +kernel) (mget_6 _ _) dX2_goFar_1 ?_
  refine lv_iload_n hx hb dX2_goFar_4 rfl (lv_at hl 1 rfl) ?_
  obtain ⟨b1, hok⟩ := hok
  refine wm_iald hC hK hP 6 5 (marr_6 _ _ _ _ _ _) b1 dX2_goFar_5 ?_
  by_cases c2 : S.2.1 6 a1.toNatClampNeg = 9
  · have hok := hok.1 c2
    refine lv_tableIn (tgt := 32) hx hb dX2_goFar_6 (by rw [c2]; decide) (by rw [c2]; decide) (by rw [c2]; rfl) (by decide) ?_
    refine lv_iload hx hb dX2_goFar_32 (lv_at hl 4 rfl) ?_
    refine lv_if_le (tgt := 48) hx hb dX2_goFar_34 (by decide) (fun c3 => ?_) (fun c3 => ?_)
    · have hok := hok.1 c3
      refine lv_aload_n hx hb dX2_goFar_48 rfl (lv_at hl 0 rfl) ?_
      refine lv_aload_n hx hb dX2_goFar_49 rfl (lv_at hl 0 rfl) ?_
      refine lv_iload hx hb dX2_goFar_50 (lv_at hl 5 rfl) ?_
      obtain ⟨o4, hok⟩ := hok
      refine wx_callVi (As := [.int a5]) (rest := [.ref h]) kst_K hC (c_X2_at l D h ad cI cJ cZ S a5 o4) (cwV 1 hts gX2_goFar_X2_at rfl rfl rfl (by decide +kernel) ⟨Nat.le_of_ble_eq_true rfl, Nat.le_of_ble_eq_true rfl⟩) hK hP hD hS hA (wm_cell hK hP) rfl hl.1 rfl (Nat.le_of_ble_eq_true rfl) dX2_goFar_52 ⟨Nat.le_of_ble_eq_true rfl, Nat.le_of_ble_eq_true rfl⟩ (fun r4 u4 H locs hw hP hD hS => ?_)
      obtain rfl : r4 = p_X2_at S a5 := hw.1
      obtain rfl : S = u4 := hw.2.symm
      refine lv_iload_n hx hb dX2_goFar_55 rfl (lv_at hl 2 rfl) ?_
      refine lv_iload_n hx hb dX2_goFar_56 rfl (lv_at hl 3 rfl) ?_
      obtain ⟨o5, hok⟩ := hok
      refine wx_callVv (As := [.int (p_X2_at S a5), .int a2, .int a3]) (rest := []) kst_K hC (c_X2_asks l D h ad cI cJ cZ S (p_X2_at S a5) a2 a3 o5) (cwV 3 hts gX2_goFar_X2_asks rfl rfl rfl (by decide +kernel) ⟨Nat.le_of_ble_eq_true rfl, Nat.le_of_ble_eq_true rfl⟩) hK hP hD hS hA (wm_cell hK hP) rfl hl.1 rfl (Nat.le_of_ble_eq_true rfl) dX2_goFar_57 ⟨Nat.le_of_ble_eq_true rfl, Nat.le_of_ble_eq_true rfl⟩ (fun u5 H locs hw hP hD hS => ?_)
      obtain rfl : u5 = p_X2_asks S (p_X2_at S a5) a2 a3 := hw
      refine lv_goto (tgt := 253) hx hb dX2_goFar_60 (by decide) ?_
      exact wx_retv kst_K (p_X2_asks S (p_X2_at S a5) a2 a3) hx hb hr hlk hK hP hD hS dX2_goFar_253 (by unfold p_X2_goFar; rw [if_pos c2, if_pos c3])
    · have hok := hok.2 c3
      refine lv_aload_n hx hb dX2_goFar_37 rfl (lv_at hl 0 rfl) ?_
      refine lv_aload_n hx hb dX2_goFar_38 rfl (lv_at hl 0 rfl) ?_
      refine wm_get hC hin hK hP 26 (by decide) rfl (by decide +kernel) (mget_26 _ _) dX2_goFar_39 ?_
      obtain ⟨o6, hok⟩ := hok
      refine wx_callVv (As := [.long S.2.2.2]) (rest := []) kst_K hC (c_X2_gives l D h ad cI cJ cZ S S.2.2.2 o6) (cwV 1 hts gX2_goFar_X2_gives rfl rfl rfl (by decide +kernel) ⟨Nat.le_of_ble_eq_true rfl, Nat.le_of_ble_eq_true rfl⟩) hK hP hD hS hA (wm_cell hK hP) rfl hl.1 rfl (Nat.le_of_ble_eq_true rfl) dX2_goFar_42 ⟨Nat.le_of_ble_eq_true rfl, Nat.le_of_ble_eq_true rfl⟩ (fun u6 H locs hw hP hD hS => ?_)
      obtain rfl : u6 = p_X2_gives S S.2.2.2 := hw
      refine lv_goto (tgt := 253) hx hb dX2_goFar_45 (by decide) ?_
      exact wx_retv kst_K (p_X2_gives S S.2.2.2) hx hb hr hlk hK hP hD hS dX2_goFar_253 (by unfold p_X2_goFar; rw [if_pos c2, if_neg c3])
  have hok := hok.2 c2
  by_cases c7 : S.2.1 6 a1.toNatClampNeg = 10
  · have hok := hok.1 c7
    refine lv_tableIn (tgt := 63) hx hb dX2_goFar_6 (by rw [c7]; decide) (by rw [c7]; decide) (by rw [c7]; rfl) (by decide) ?_
    refine lv_iload hx hb dX2_goFar_63 (lv_at hl 4 rfl) ?_
    refine lv_if_le (tgt := 79) hx hb dX2_goFar_65 (by decide) (fun c8 => ?_) (fun c8 => ?_)
    · have hok := hok.1 c8
      refine lv_iload_n hx hb dX2_goFar_79 rfl (lv_at hl 2 rfl) ?_
      refine lv_i2l (v := a2.toInt64) hx hb dX2_goFar_80 rfl ?_
      refine lv_aload_n hx hb dX2_goFar_81 rfl (lv_at hl 0 rfl) ?_
      refine wm_get hC hin hK hP 10 (by decide) rfl (by decide +kernel) (mget_10 _ _) dX2_goFar_82 ?_
      refine lv_iload_n hx hb dX2_goFar_85 rfl (lv_at hl 1 rfl) ?_
      obtain ⟨b9, hok⟩ := hok
      refine wm_lald hC hK hP 10 9 (marr_10 _ _ _ _ _ _) b9 dX2_goFar_86 ?_
      refine W.lcmp hx hb dX2_goFar_87 ?_
      refine lv_if_le (tgt := 100) hx hb dX2_goFar_88 (by decide) (fun c10 => ?_) (fun c10 => ?_)
      · have hok := hok.1 c10
        refine lv_aload_n hx hb dX2_goFar_100 rfl (lv_at hl 0 rfl) ?_
        refine lv_iload hx hb dX2_goFar_101 (lv_at hl 5 rfl) ?_
        refine lv_iload_n hx hb dX2_goFar_103 rfl (lv_at hl 2 rfl) ?_
        refine lv_iload_n hx hb dX2_goFar_104 rfl (lv_at hl 3 rfl) ?_
        obtain ⟨o11, hok⟩ := hok
        refine wx_callVv (As := [.int a5, .int a2, .int a3]) (rest := []) kst_K hC (c_X2_asks l D h ad cI cJ cZ S a5 a2 a3 o11) (cwV 3 hts gX2_goFar_X2_asks rfl rfl rfl (by decide +kernel) ⟨Nat.le_of_ble_eq_true rfl, Nat.le_of_ble_eq_true rfl⟩) hK hP hD hS hA (wm_cell hK hP) rfl hl.1 rfl (Nat.le_of_ble_eq_true rfl) dX2_goFar_105 ⟨Nat.le_of_ble_eq_true rfl, Nat.le_of_ble_eq_true rfl⟩ (fun u11 H locs hw hP hD hS => ?_)
        obtain rfl : u11 = p_X2_asks S a5 a2 a3 := hw
        refine lv_goto (tgt := 253) hx hb dX2_goFar_108 (by decide) ?_
        exact wx_retv kst_K (p_X2_asks S a5 a2 a3) hx hb hr hlk hK hP hD hS dX2_goFar_253 (by unfold p_X2_goFar; rw [if_neg c2, if_pos c7, if_pos c8, if_pos c10])
      · have hok := hok.2 c10
        refine lv_aload_n hx hb dX2_goFar_91 rfl (lv_at hl 0 rfl) ?_
        refine lv_bipush (v := (-5)) hx hb dX2_goFar_92 (by decide) ?_
        obtain ⟨o12, hok⟩ := hok
        refine wx_callVv (As := [.int (-5)]) (rest := []) kst_K hC (c_X2_fails l D h ad cI cJ cZ S (-5) o12) (cwV 1 hts gX2_goFar_X2_fails rfl rfl rfl (by decide +kernel) ⟨Nat.le_of_ble_eq_true rfl, Nat.le_of_ble_eq_true rfl⟩) hK hP hD hS hA (wm_cell hK hP) rfl hl.1 rfl (Nat.le_of_ble_eq_true rfl) dX2_goFar_94 ⟨Nat.le_of_ble_eq_true rfl, Nat.le_of_ble_eq_true rfl⟩ (fun u12 H locs hw hP hD hS => ?_)
        obtain rfl : u12 = p_X2_fails S (-5) := hw
        refine lv_goto (tgt := 253) hx hb dX2_goFar_97 (by decide) ?_
        exact wx_retv kst_K (p_X2_fails S (-5)) hx hb hr hlk hK hP hD hS dX2_goFar_253 (by unfold p_X2_goFar; rw [if_neg c2, if_pos c7, if_pos c8, if_neg c10])
    · have hok := hok.2 c8
      refine lv_aload_n hx hb dX2_goFar_68 rfl (lv_at hl 0 rfl) ?_
      refine lv_aload_n hx hb dX2_goFar_69 rfl (lv_at hl 0 rfl) ?_
      refine wm_get hC hin hK hP 26 (by decide) rfl (by decide +kernel) (mget_26 _ _) dX2_goFar_70 ?_
      obtain ⟨o13, hok⟩ := hok
      refine wx_callVv (As := [.long S.2.2.2]) (rest := []) kst_K hC (c_X2_gives l D h ad cI cJ cZ S S.2.2.2 o13) (cwV 1 hts gX2_goFar_X2_gives rfl rfl rfl (by decide +kernel) ⟨Nat.le_of_ble_eq_true rfl, Nat.le_of_ble_eq_true rfl⟩) hK hP hD hS hA (wm_cell hK hP) rfl hl.1 rfl (Nat.le_of_ble_eq_true rfl) dX2_goFar_73 ⟨Nat.le_of_ble_eq_true rfl, Nat.le_of_ble_eq_true rfl⟩ (fun u13 H locs hw hP hD hS => ?_)
      obtain rfl : u13 = p_X2_gives S S.2.2.2 := hw
      refine lv_goto (tgt := 253) hx hb dX2_goFar_76 (by decide) ?_
      exact wx_retv kst_K (p_X2_gives S S.2.2.2) hx hb hr hlk hK hP hD hS dX2_goFar_253 (by unfold p_X2_goFar; rw [if_neg c2, if_pos c7, if_neg c8])
  have hok := hok.2 c7
  by_cases c14 : S.2.1 6 a1.toNatClampNeg = 11
  · have hok := hok.1 c14
    refine lv_tableIn (tgt := 111) hx hb dX2_goFar_6 (by rw [c14]; decide) (by rw [c14]; decide) (by rw [c14]; rfl) (by decide) ?_
    refine lv_iload hx hb dX2_goFar_111 (lv_at hl 4 rfl) ?_
    refine lv_if_ne (tgt := 137) hx hb dX2_goFar_113 (by decide) (fun c15 => ?_) (fun c15 => ?_)
    · have hok := hok.2 c15
      refine lv_aload_n hx hb dX2_goFar_137 rfl (lv_at hl 0 rfl) ?_
      refine lv_aload_n hx hb dX2_goFar_138 rfl (lv_at hl 0 rfl) ?_
      refine wm_get hC hin hK hP 26 (by decide) rfl (by decide +kernel) (mget_26 _ _) dX2_goFar_139 ?_
      refine lv_aload_n hx hb dX2_goFar_142 rfl (lv_at hl 0 rfl) ?_
      refine wm_get hC hin hK hP 11 (by decide) rfl (by decide +kernel) (mget_11 _ _) dX2_goFar_143 ?_
      refine lv_iload_n hx hb dX2_goFar_146 rfl (lv_at hl 1 rfl) ?_
      obtain ⟨b16, hok⟩ := hok
      refine wm_iald hC hK hP 11 10 (marr_11 _ _ _ _ _ _) b16 dX2_goFar_147 ?_
      refine lv_i2l (v := (S.2.1 11 a1.toNatClampNeg).toInt64) hx hb dX2_goFar_148 rfl ?_
      refine lv_ladd hx hb dX2_goFar_149 ?_
      obtain ⟨o17, hok⟩ := hok
      refine wx_callVv (As := [.long (S.2.2.2 + ((S.2.1 11 a1.toNatClampNeg).toInt64))]) (rest := []) kst_K hC (c_X2_gives l D h ad cI cJ cZ S (S.2.2.2 + ((S.2.1 11 a1.toNatClampNeg).toInt64)) o17) (cwV 1 hts gX2_goFar_X2_gives rfl rfl rfl (by decide +kernel) ⟨Nat.le_of_ble_eq_true rfl, Nat.le_of_ble_eq_true rfl⟩) hK hP hD hS hA (wm_cell hK hP) rfl hl.1 rfl (Nat.le_of_ble_eq_true rfl) dX2_goFar_150 ⟨Nat.le_of_ble_eq_true rfl, Nat.le_of_ble_eq_true rfl⟩ (fun u17 H locs hw hP hD hS => ?_)
      obtain rfl : u17 = p_X2_gives S (S.2.2.2 + ((S.2.1 11 a1.toNatClampNeg).toInt64)) := hw
      refine lv_goto (tgt := 253) hx hb dX2_goFar_153 (by decide) ?_
      exact wx_retv kst_K (p_X2_gives S (S.2.2.2 + ((S.2.1 11 a1.toNatClampNeg).toInt64))) hx hb hr hlk hK hP hD hS dX2_goFar_253 (by unfold p_X2_goFar; rw [if_neg c2, if_neg c7, if_pos c14, if_neg c15])
    · have hok := hok.1 c15
      refine lv_aload_n hx hb dX2_goFar_116 rfl (lv_at hl 0 rfl) ?_
      refine wm_get hC hin hK hP 11 (by decide) rfl (by decide +kernel) (mget_11 _ _) dX2_goFar_117 ?_
      refine lv_iload_n hx hb dX2_goFar_120 rfl (lv_at hl 1 rfl) ?_
      refine lv_dup2_11 hx hb dX2_goFar_121 rfl rfl ?_
      obtain ⟨b18, hok⟩ := hok
      refine wm_iald hC hK hP 11 10 (marr_11 _ _ _ _ _ _) b18 dX2_goFar_122 ?_
      refine lv_iconst (v := 1) hx hb dX2_goFar_123 (by decide) ?_
      refine lv_iadd hx hb dX2_goFar_124 ?_
      obtain ⟨b19, hok⟩ := hok
      refine wm_iast hC hK hP hD hS 11 10 (marr_11 _ _ _ _ _ _) (mast_11 _ _ _ _ _ _ _ _) b19 dX2_goFar_125 (fun H locs hP hD hS => ?_)
      refine lv_aload_n hx hb dX2_goFar_126 rfl (lv_at hl 0 rfl) ?_
      refine lv_iload hx hb dX2_goFar_127 (lv_at hl 5 rfl) ?_
      refine lv_iload_n hx hb dX2_goFar_129 rfl (lv_at hl 2 rfl) ?_
      refine lv_iload_n hx hb dX2_goFar_130 rfl (lv_at hl 3 rfl) ?_
      obtain ⟨o20, hok⟩ := hok
      refine wx_callVv (As := [.int a5, .int a2, .int a3]) (rest := []) kst_K hC (c_X2_asks l D h ad cI cJ cZ (msA S 11 a1.toNatClampNeg ((S.2.1 11 a1.toNatClampNeg) + 1)) a5 a2 a3 o20) (cwV 3 hts gX2_goFar_X2_asks rfl rfl rfl (by decide +kernel) ⟨Nat.le_of_ble_eq_true rfl, Nat.le_of_ble_eq_true rfl⟩) hK hP hD hS hA (wm_cell hK hP) rfl hl.1 rfl (Nat.le_of_ble_eq_true rfl) dX2_goFar_131 ⟨Nat.le_of_ble_eq_true rfl, Nat.le_of_ble_eq_true rfl⟩ (fun u20 H locs hw hP hD hS => ?_)
      obtain rfl : u20 = p_X2_asks (msA S 11 a1.toNatClampNeg ((S.2.1 11 a1.toNatClampNeg) + 1)) a5 a2 a3 := hw
      refine lv_goto (tgt := 253) hx hb dX2_goFar_134 (by decide) ?_
      exact wx_retv kst_K (p_X2_asks (msA S 11 a1.toNatClampNeg ((S.2.1 11 a1.toNatClampNeg) + 1)) a5 a2 a3) hx hb hr hlk hK hP hD hS dX2_goFar_253 (by unfold p_X2_goFar; rw [if_neg c2, if_neg c7, if_pos c14, if_pos c15])
  have hok := hok.2 c14
  refine lv_tableOut (tgt := 156) hx hb dX2_goFar_6 (sw_out (fun k h1 h2 => ?_)) (by decide) ?_
  · rcases (show k = 9 ∨ k = 10 ∨ k = 11 by omega) with rfl | rfl | rfl
    · exact c2
    · exact c7
    · exact c14
  refine lv_iload hx hb dX2_goFar_156 (lv_at hl 4 rfl) ?_
  refine lv_if_le (tgt := 203) hx hb dX2_goFar_158 (by decide) (fun c21 => ?_) (fun c21 => ?_)
  · have hok := hok.1 c21
    refine lv_aload_n hx hb dX2_goFar_203 rfl (lv_at hl 0 rfl) ?_
    refine wm_get hC hin hK hP 12 (by decide) rfl (by decide +kernel) (mget_12 _ _) dX2_goFar_204 ?_
    refine lv_iload_n hx hb dX2_goFar_207 rfl (lv_at hl 1 rfl) ?_
    obtain ⟨b22, hok⟩ := hok
    refine wm_zald hC hK hP 12 11 (marr_12 _ _ _ _ _ _) b22 dX2_goFar_208 ?_
    refine lv_if_eq (tgt := 245) hx hb dX2_goFar_209 (by decide) (fun c23 => ?_) (fun c23 => ?_)
    · have hok := hok.1 c23
      refine lv_aload_n hx hb dX2_goFar_245 rfl (lv_at hl 0 rfl) ?_
      refine lv_iload hx hb dX2_goFar_246 (lv_at hl 5 rfl) ?_
      refine lv_iload_n hx hb dX2_goFar_248 rfl (lv_at hl 2 rfl) ?_
      refine lv_iload_n hx hb dX2_goFar_249 rfl (lv_at hl 3 rfl) ?_
      obtain ⟨o24, hok⟩ := hok
      refine wx_callVv (As := [.int a5, .int a2, .int a3]) (rest := []) kst_K hC (c_X2_asks l D h ad cI cJ cZ S a5 a2 a3 o24) (cwV 3 hts gX2_goFar_X2_asks rfl rfl rfl (by decide +kernel) ⟨Nat.le_of_ble_eq_true rfl, Nat.le_of_ble_eq_true rfl⟩) hK hP hD hS hA (wm_cell hK hP) rfl hl.1 rfl (Nat.le_of_ble_eq_true rfl) dX2_goFar_250 ⟨Nat.le_of_ble_eq_true rfl, Nat.le_of_ble_eq_true rfl⟩ (fun u24 H locs hw hP hD hS => ?_)
      obtain rfl : u24 = p_X2_asks S a5 a2 a3 := hw
      exact wx_retv kst_K (p_X2_asks S a5 a2 a3) hx hb hr hlk hK hP hD hS dX2_goFar_253 (by unfold p_X2_goFar; rw [if_neg c2, if_neg c7, if_neg c14, if_pos c21, if_pos c23])
    · have hok := hok.2 c23
      refine lv_aload_n hx hb dX2_goFar_212 rfl (lv_at hl 0 rfl) ?_
      refine wm_get hC hin hK hP 13 (by decide) rfl (by decide +kernel) (mget_13 _ _) dX2_goFar_213 ?_
      refine lv_iload_n hx hb dX2_goFar_216 rfl (lv_at hl 1 rfl) ?_
      obtain ⟨b25, hok⟩ := hok
      refine wm_iald hC hK hP 13 12 (marr_13 _ _ _ _ _ _) b25 dX2_goFar_217 ?_
      refine lv_iload_n hx hb dX2_goFar_218 rfl (lv_at hl 2 rfl) ?_
      refine lv_icmp_ne (tgt := 245) hx hb dX2_goFar_219 (by decide) (fun c26 => ?_) (fun c26 => ?_)
      · have hok := hok.2 c26
        refine lv_aload_n hx hb dX2_goFar_245 rfl (lv_at hl 0 rfl) ?_
        refine lv_iload hx hb dX2_goFar_246 (lv_at hl 5 rfl) ?_
        refine lv_iload_n hx hb dX2_goFar_248 rfl (lv_at hl 2 rfl) ?_
        refine lv_iload_n hx hb dX2_goFar_249 rfl (lv_at hl 3 rfl) ?_
        obtain ⟨o27, hok⟩ := hok
        refine wx_callVv (As := [.int a5, .int a2, .int a3]) (rest := []) kst_K hC (c_X2_asks l D h ad cI cJ cZ S a5 a2 a3 o27) (cwV 3 hts gX2_goFar_X2_asks rfl rfl rfl (by decide +kernel) ⟨Nat.le_of_ble_eq_true rfl, Nat.le_of_ble_eq_true rfl⟩) hK hP hD hS hA (wm_cell hK hP) rfl hl.1 rfl (Nat.le_of_ble_eq_true rfl) dX2_goFar_250 ⟨Nat.le_of_ble_eq_true rfl, Nat.le_of_ble_eq_true rfl⟩ (fun u27 H locs hw hP hD hS => ?_)
        obtain rfl : u27 = p_X2_asks S a5 a2 a3 := hw
        exact wx_retv kst_K (p_X2_asks S a5 a2 a3) hx hb hr hlk hK hP hD hS dX2_goFar_253 (by unfold p_X2_goFar; rw [if_neg c2, if_neg c7, if_neg c14, if_pos c21, if_neg c23, if_neg c26])
      · have hok := hok.1 c26
        refine lv_aload_n hx hb dX2_goFar_222 rfl (lv_at hl 0 rfl) ?_
        refine wm_get hC hin hK hP 14 (by decide) rfl (by decide +kernel) (mget_14 _ _) dX2_goFar_223 ?_
        refine lv_iload_n hx hb dX2_goFar_226 rfl (lv_at hl 1 rfl) ?_
        obtain ⟨b28, hok⟩ := hok
        refine wm_iald hC hK hP 14 13 (marr_14 _ _ _ _ _ _) b28 dX2_goFar_227 ?_
        refine lv_iload_n hx hb dX2_goFar_228 rfl (lv_at hl 3 rfl) ?_
        refine lv_icmp_ne (tgt := 245) hx hb dX2_goFar_229 (by decide) (fun c29 => ?_) (fun c29 => ?_)
        · have hok := hok.2 c29
          refine lv_aload_n hx hb dX2_goFar_245 rfl (lv_at hl 0 rfl) ?_
          refine lv_iload hx hb dX2_goFar_246 (lv_at hl 5 rfl) ?_
          refine lv_iload_n hx hb dX2_goFar_248 rfl (lv_at hl 2 rfl) ?_
          refine lv_iload_n hx hb dX2_goFar_249 rfl (lv_at hl 3 rfl) ?_
          obtain ⟨o30, hok⟩ := hok
          refine wx_callVv (As := [.int a5, .int a2, .int a3]) (rest := []) kst_K hC (c_X2_asks l D h ad cI cJ cZ S a5 a2 a3 o30) (cwV 3 hts gX2_goFar_X2_asks rfl rfl rfl (by decide +kernel) ⟨Nat.le_of_ble_eq_true rfl, Nat.le_of_ble_eq_true rfl⟩) hK hP hD hS hA (wm_cell hK hP) rfl hl.1 rfl (Nat.le_of_ble_eq_true rfl) dX2_goFar_250 ⟨Nat.le_of_ble_eq_true rfl, Nat.le_of_ble_eq_true rfl⟩ (fun u30 H locs hw hP hD hS => ?_)
          obtain rfl : u30 = p_X2_asks S a5 a2 a3 := hw
          exact wx_retv kst_K (p_X2_asks S a5 a2 a3) hx hb hr hlk hK hP hD hS dX2_goFar_253 (by unfold p_X2_goFar; rw [if_neg c2, if_neg c7, if_neg c14, if_pos c21, if_neg c23, if_pos c26, if_neg c29])
        · have hok := hok.1 c29
          refine lv_aload_n hx hb dX2_goFar_232 rfl (lv_at hl 0 rfl) ?_
          refine lv_aload_n hx hb dX2_goFar_233 rfl (lv_at hl 0 rfl) ?_
          refine wm_get hC hin hK hP 15 (by decide) rfl (by decide +kernel) (mget_15 _ _) dX2_goFar_234 ?_
          refine lv_iload_n hx hb dX2_goFar_237 rfl (lv_at hl 1 rfl) ?_
          obtain ⟨b31, hok⟩ := hok
          refine wm_lald hC hK hP 15 14 (marr_15 _ _ _ _ _ _) b31 dX2_goFar_238 ?_
          obtain ⟨o32, hok⟩ := hok
          refine wx_callVv (As := [.long (S.2.2.1 15 a1.toNatClampNeg)]) (rest := []) kst_K hC (c_X2_gives l D h ad cI cJ cZ S (S.2.2.1 15 a1.toNatClampNeg) o32) (cwV 1 hts gX2_goFar_X2_gives rfl rfl rfl (by decide +kernel) ⟨Nat.le_of_ble_eq_true rfl, Nat.le_of_ble_eq_true rfl⟩) hK hP hD hS hA (wm_cell hK hP) rfl hl.1 rfl (Nat.le_of_ble_eq_true rfl) dX2_goFar_239 ⟨Nat.le_of_ble_eq_true rfl, Nat.le_of_ble_eq_true rfl⟩ (fun u32 H locs hw hP hD hS => ?_)
          obtain rfl : u32 = p_X2_gives S (S.2.2.1 15 a1.toNatClampNeg) := hw
          refine lv_goto (tgt := 253) hx hb dX2_goFar_242 (by decide) ?_
          exact wx_retv kst_K (p_X2_gives S (S.2.2.1 15 a1.toNatClampNeg)) hx hb hr hlk hK hP hD hS dX2_goFar_253 (by unfold p_X2_goFar; rw [if_neg c2, if_neg c7, if_neg c14, if_pos c21, if_neg c23, if_pos c26, if_pos c29])
  · have hok := hok.2 c21
    refine lv_aload_n hx hb dX2_goFar_161 rfl (lv_at hl 0 rfl) ?_
    refine wm_get hC hin hK hP 12 (by decide) rfl (by decide +kernel) (mget_12 _ _) dX2_goFar_162 ?_
    refine lv_iload_n hx hb dX2_goFar_165 rfl (lv_at hl 1 rfl) ?_
    refine lv_iconst (v := 1) hx hb dX2_goFar_166 (by decide) ?_
    obtain ⟨b33, hok⟩ := hok
    refine wm_zast hC hK hP hD hS 12 11 (marr_12 _ _ _ _ _ _) (mast_12 _ _ _ _ _ _ _ _) rfl b33 dX2_goFar_167 (fun H locs hP hD hS => ?_)
    refine lv_aload_n hx hb dX2_goFar_168 rfl (lv_at hl 0 rfl) ?_
    refine wm_get hC hin hK hP 13 (by decide) rfl (by decide +kernel) (mget_13 _ _) dX2_goFar_169 ?_
    refine lv_iload_n hx hb dX2_goFar_172 rfl (lv_at hl 1 rfl) ?_
    refine lv_iload_n hx hb dX2_goFar_173 rfl (lv_at hl 2 rfl) ?_
    obtain ⟨b34, hok⟩ := hok
    refine wm_iast hC hK hP hD hS 13 12 (marr_13 _ _ _ _ _ _) (mast_13 _ _ _ _ _ _ _ _) b34 dX2_goFar_174 (fun H locs hP hD hS => ?_)
    refine lv_aload_n hx hb dX2_goFar_175 rfl (lv_at hl 0 rfl) ?_
    refine wm_get hC hin hK hP 14 (by decide) rfl (by decide +kernel) (mget_14 _ _) dX2_goFar_176 ?_
    refine lv_iload_n hx hb dX2_goFar_179 rfl (lv_at hl 1 rfl) ?_
    refine lv_iload_n hx hb dX2_goFar_180 rfl (lv_at hl 3 rfl) ?_
    obtain ⟨b35, hok⟩ := hok
    refine wm_iast hC hK hP hD hS 14 13 (marr_14 _ _ _ _ _ _) (mast_14 _ _ _ _ _ _ _ _) b35 dX2_goFar_181 (fun H locs hP hD hS => ?_)
    refine lv_aload_n hx hb dX2_goFar_182 rfl (lv_at hl 0 rfl) ?_
    refine wm_get hC hin hK hP 15 (by decide) rfl (by decide +kernel) (mget_15 _ _) dX2_goFar_183 ?_
    refine lv_iload_n hx hb dX2_goFar_186 rfl (lv_at hl 1 rfl) ?_
    refine lv_aload_n hx hb dX2_goFar_187 rfl (lv_at hl 0 rfl) ?_
    refine wm_get hC hin hK hP 26 (by decide) rfl (by decide +kernel) (mget_26 _ _) dX2_goFar_188 ?_
    refine lv_see (v2 := .long S.2.2.2) rfl ?_
    obtain ⟨b36, hok⟩ := hok
    refine wm_last hC hK hP hD hS 15 14 (marr_15 _ _ _ _ _ _) (mast_15 _ _ _ _ _ _ _ _) b36 dX2_goFar_191 (fun H locs hP hD hS => ?_)
    refine lv_aload_n hx hb dX2_goFar_192 rfl (lv_at hl 0 rfl) ?_
    refine lv_aload_n hx hb dX2_goFar_193 rfl (lv_at hl 0 rfl) ?_
    refine wm_get hC hin hK hP 26 (by decide) rfl (by decide +kernel) (mget_26 _ _) dX2_goFar_194 ?_
    refine lv_see (v2 := .long S.2.2.2) rfl ?_
    obtain ⟨o37, hok⟩ := hok
    refine wx_callVv (As := [.long S.2.2.2]) (rest := []) kst_K hC (c_X2_gives l D h ad cI cJ cZ (msJ (msA (msA (msA S 12 a1.toNatClampNeg 1) 13 a1.toNatClampNeg a2) 14 a1.toNatClampNeg a3) 15 a1.toNatClampNeg S.2.2.2) S.2.2.2 o37) (cwV 1 hts gX2_goFar_X2_gives rfl rfl rfl (by decide +kernel) ⟨Nat.le_of_ble_eq_true rfl, Nat.le_of_ble_eq_true rfl⟩) hK hP hD hS hA (wm_cell hK hP) rfl hl.1 rfl (Nat.le_of_ble_eq_true rfl) dX2_goFar_197 ⟨Nat.le_of_ble_eq_true rfl, Nat.le_of_ble_eq_true rfl⟩ (fun u37 H locs hw hP hD hS => ?_)
    obtain rfl : u37 = p_X2_gives (msJ (msA (msA (msA S 12 a1.toNatClampNeg 1) 13 a1.toNatClampNeg a2) 14 a1.toNatClampNeg a3) 15 a1.toNatClampNeg S.2.2.2) S.2.2.2 := hw
    refine lv_goto (tgt := 253) hx hb dX2_goFar_200 (by decide) ?_
    exact wx_retv kst_K (p_X2_gives (msJ (msA (msA (msA S 12 a1.toNatClampNeg 1) 13 a1.toNatClampNeg a2) 14 a1.toNatClampNeg a3) 15 a1.toNatClampNeg S.2.2.2) S.2.2.2) hx hb hr hlk hK hP hD hS dX2_goFar_253 (by unfold p_X2_goFar; rw [if_neg c2, if_neg c7, if_neg c14, if_neg c21])
def p_X2_goOn (S : MS) (a1 : Int32) (a2 : Int32) (a3 : Int32) (a4 : Int32) (a5 : Int32) (a6 : Int32) : MS := if (S.2.1 6 a2.toNatClampNeg) = 4 then (if a5 = 0 then (p_X2_asks S a6 a3 a4) else (if a5 = 1 then (p_X2_asks (msJ S 25 a1.toNatClampNeg S.2.2.2) (S.2.1 8 a2.toNatClampNeg) a3 a4) else (p_X2_join S ((S.2.2.1 10 a2.toNatClampNeg).toInt32) (S.2.2.1 25 a1.toNatClampNeg) S.2.2.2))) else (if (S.2.1 6 a2.toNatClampNeg) = 5 then (if a5 = 0 then (p_X2_asks S a6 a3 a4) else (if a5 = 1 then (if (lg_cmp S.2.2.2 0) ≤ 0 then (p_X2_asks S (S.2.1 9 a2.toNatClampNeg) a3 a4) else (p_X2_asks S (S.2.1 8 a2.toNatClampNeg) a3 a4)) else (p_X2_gives S S.2.2.2))) else (if (S.2.1 6 a2.toNatClampNeg) = 6 then (if a5 = 0 then (p_X2_asks S a6 a3 ((S.2.2.1 10 a2.toNatClampNeg).toInt32)) else (p_X2_gives S S.2.2.2)) else (if (S.2.1 6 a2.toNatClampNeg) = 7 then (if a5 = 0 then (p_X2_asks S (S.2.1 8 a2.toNatClampNeg) a3 a4) else (if a5 = 1 then (p_X2_asks S a6 S.2.2.2.toInt32 a4) else (p_X2_gives S S.2.2.2))) else (if (S.2.1 6 a2.toNatClampNeg) = 8 then (if a5 = 0 then (p_X2_asks S a6 a3 a4) else (p_X2_gives S S.2.2.2)) else (p_X2_goFar S a2 a3 a4 a5 a6)))))
def ok_X2_goOn (S : MS) (a1 : Int32) (a2 : Int32) (a3 : Int32) (a4 : Int32) (a5 : Int32) (a6 : Int32) : Prop := (vp_in a2 4200) ∧ ((vp_in a2 4200) ∧ ((vp_in a2 4200) ∧ (((S.2.1 6 a2.toNatClampNeg) = 4 → ((a5 = 0 → ((ok_X2_asks S a6 a3 a4) ∧ (True))) ∧ (¬ a5 = 0 → ((a5 = 1 → ((vp_in a1 24) ∧ ((ok_X2_asks (msJ S 25 a1.toNatClampNeg S.2.2.2) (S.2.1 8 a2.toNatClampNeg) a3 a4) ∧ (True)))) ∧ (¬ a5 = 1 → ((vp_in a1 24) ∧ ((ok_X2_join S ((S.2.2.1 10 a2.toNatClampNeg).toInt32) (S.2.2.1 25 a1.toNatClampNeg) S.2.2.2) ∧ (True)))))))) ∧ (¬ (S.2.1 6 a2.toNatClampNeg) = 4 → (((S.2.1 6 a2.toNatClampNeg) = 5 → ((a5 = 0 → ((ok_X2_asks S a6 a3 a4) ∧ (True))) ∧ (¬ a5 = 0 → ((a5 = 1 → (((lg_cmp S.2.2.2 0) ≤ 0 → ((vp_in a2 4200) ∧ ((ok_X2_asks S (S.2.1 9 a2.toNatClampNeg) a3 a4) ∧ (True)))) ∧ (¬ (lg_cmp S.2.2.2 0) ≤ 0 → ((ok_X2_asks S (S.2.1 8 a2.toNatClampNeg) a3 a4) ∧ (True))))) ∧ (¬ a5 = 1 → ((ok_X2_gives S S.2.2.2) ∧ (True))))))) ∧ (¬ (S.2.1 6 a2.toNatClampNeg) = 5 → (((S.2.1 6 a2.toNatClampNeg) = 6 → ((a5 = 0 → ((ok_X2_asks S a6 a3 ((S.2.2.1 10 a2.toNatClampNeg).toInt32)) ∧ (True))) ∧ (¬ a5 = 0 → ((ok_X2_gives S S.2.2.2) ∧ (True))))) ∧ (¬ (S.2.1 6 a2.toNatClampNeg) = 6 → (((S.2.1 6 a2.toNatClampNeg) = 7 → ((a5 = 0 → ((ok_X2_asks S (S.2.1 8 a2.toNatClampNeg) a3 a4) ∧ (True))) ∧ (¬ a5 = 0 → ((a5 = 1 → ((ok_X2_asks S a6 S.2.2.2.toInt32 a4) ∧ (True))) ∧ (¬ a5 = 1 → ((ok_X2_gives S S.2.2.2) ∧ (True))))))) ∧ (¬ (S.2.1 6 a2.toNatClampNeg) = 7 → (((S.2.1 6 a2.toNatClampNeg) = 8 → ((a5 = 0 → ((ok_X2_asks S a6 a3 a4) ∧ (True))) ∧ (¬ a5 = 0 → ((ok_X2_gives S S.2.2.2) ∧ (True))))) ∧ (¬ (S.2.1 6 a2.toNatClampNeg) = 8 → ((ok_X2_goFar S a2 a3 a4 a5 a6) ∧ (True))))))))))))))
set_option maxHeartbeats 4000000 in
set_option maxRecDepth 100000 in
theorem c_X2_goOn (l : Launch) (D : va_G) (h : Nat) (ad : Nat → Nat) (cI cJ cZ : ClassId) (S : MS) (a1 : Int32) (a2 : Int32) (a3 : Int32) (a4 : Int32) (a5 : Int32) (a6 : Int32) (hok : ok_X2_goOn S a1 a2 a3 a4 a5 a6) : MetV l yX2_goOn wsX2_goOn ({ frames := 3, cells := 0, slots := 0, locals := 71 } : Room) D (va_K D vwCl (mTy cI cJ cZ)) (mW h ad cI cJ cZ) S [.ref h, .int a1, .int a2, .int a3, .int a4, .int a5, .int a6] (fun u => u = p_X2_goOn S a1 a2 a3 a4 a5 a6) 0 0 := by
  unfold ok_X2_goOn at hok
  refine MetV.of (cc := cX2_goOn) (maxL := 10) (by decide) rfl (Nat.le_of_ble_eq_true rfl) ?_
  intro p e s m below meth c A ls hC hr hlk hnm hK hP hD hA hl
  obtain ⟨hx, hb, hml, hown, hts⟩ := id hC
  have hS : va_S A s.heap s.heap [] := va_S.rf
  have hin : ∀ w ∈ wsX20, w ∈ wsX2_goOn := fun _ h => List.mem_cons_of_mem _ (List.mem_append_right _ h)
  have hl : lv_has ls 10 [(0, .ref h), (1, .int a1), (2, .int a2), (3, .int a3), (4, .int a4), (5, .int a5), (6, .int a6)] := hl
  refine lv_aload_n hx hb dX2_goOn_0 rfl (lv_at hl 0 rfl) ?_
  refine wm_get hC hin hK hP 8 (by decide) rfl (by decide +kernel) (mget_8 _ _) dX2_goOn_1 ?_
  refine lv_iload_n hx hb dX2_goOn_4 rfl (lv_at hl 2 rfl) ?_
  obtain ⟨b1, hok⟩ := hok
  refine wm_iald hC hK hP 8 7 (marr_8 _ _ _ _ _ _) b1 dX2_goOn_5 ?_
  refine lv_istore (lv' := [(7, .int (S.2.1 8 a2.toNatClampNeg)), (0, .ref h), (1, .int a1), (2, .int a2), (3, .int a3), (4, .int a4), (5, .int a5), (6, .int a6)]) hx hb dX2_goOn_6 hl (by decide) rfl (fun ls hl => ?_)
  refine lv_aload_n hx hb dX2_goOn_8 rfl (lv_at hl 1 rfl) ?_
  refine wm_get hC hin hK hP 10 (by decide) rfl (by decide +kernel) (mget_10 _ _) dX2_goOn_9 ?_
  refine lv_iload_n hx hb dX2_goOn_12 rfl (lv_at hl 3 rfl) ?_
  obtain ⟨b2, hok⟩ := hok
  refine wm_lald hC hK hP 10 9 (marr_10 _ _ _ _ _ _) b2 dX2_goOn_13 ?_
  refine lv_lstore (lv' := [(8, .long (S.2.2.1 10 a2.toNatClampNeg)), (7, .int (S.2.1 8 a2.toNatClampNeg)), (0, .ref h), (1, .int a1), (2, .int a2), (3, .int a3), (4, .int a4), (5, .int a5), (6, .int a6)]) hx hb dX2_goOn_14 hl (by decide) rfl (fun ls hl => ?_)
  refine lv_aload_n hx hb dX2_goOn_16 rfl (lv_at hl 2 rfl) ?_
  refine wm_get hC hin hK hP 6 (by decide) rfl (by decide +kernel) (mget_6 _ _) dX2_goOn_17 ?_
  refine lv_iload_n hx hb dX2_goOn_20 rfl (lv_at hl 4 rfl) ?_
  obtain ⟨b3, hok⟩ := hok
  refine wm_iald hC hK hP 6 5 (marr_6 _ _ _ _ _ _) b3 dX2_goOn_21 ?_
  by_cases c4 : S.2.1 6 a2.toNatClampNeg = 4
  · have hok := hok.1 c4
    refine lv_tableIn (tgt := 56) hx hb dX2_goOn_22 (by rw [c4]; decide) (by rw [c4]; decide) (by rw [c4]; rfl) (by decide) ?_
    refine lv_iload hx hb dX2_goOn_56 (lv_at hl 7 rfl) ?_
    refine lv_if_ne (tgt := 73) hx hb dX2_goOn_58 (by decide) (fun c5 => ?_) (fun c5 => ?_)
    · have hok := hok.2 c5
      refine lv_iload hx hb dX2_goOn_73 (lv_at hl 7 rfl) ?_
      refine lv_iconst (v := 1) hx hb dX2_goOn_75 (by decide) ?_
      refine lv_icmp_ne (tgt := 101) hx hb dX2_goOn_76 (by decide) (fun c6 => ?_) (fun c6 => ?_)
      · have hok := hok.2 c6
        refine lv_aload_n hx hb dX2_goOn_101 rfl (lv_at hl 2 rfl) ?_
        refine lv_lload hx hb dX2_goOn_102 (lv_at hl 0 rfl) ?_
        refine lv_l2i (v := (S.2.2.1 10 a2.toNatClampNeg).toInt32) hx hb dX2_goOn_104 rfl ?_
        refine lv_aload_n hx hb dX2_goOn_105 rfl (lv_at hl 2 rfl) ?_
        refine wm_get hC hin hK hP 25 (by decide) rfl (by decide +kernel) (mget_25 _ _) dX2_goOn_106 ?_
        refine lv_iload_n hx hb dX2_goOn_109 rfl (lv_at hl 3 rfl) ?_
        obtain ⟨b7, hok⟩ := hok
        refine wm_lald hC hK hP 25 20 (marr_25 _ _ _ _ _ _) b7 dX2_goOn_110 ?_
        refine lv_aload_n hx hb dX2_goOn_111 rfl (lv_at hl 2 rfl) ?_
        refine wm_get hC hin hK hP 26 (by decide) rfl (by decide +kernel) (mget_26 _ _) dX2_goOn_112 ?_
        obtain ⟨o8, hok⟩ := hok
        refine wx_callVv (As := [.int ((S.2.2.1 10 a2.toNatClampNeg).toInt32), .long (S.2.2.1 25 a1.toNatClampNeg), .long S.2.2.2]) (rest := []) kst_K hC (c_X2_join l D h ad cI cJ cZ S ((S.2.2.1 10 a2.toNatClampNeg).toInt32) (S.2.2.1 25 a1.toNatClampNeg) S.2.2.2 o8) (cwV 3 hts gX2_goOn_X2_join rfl rfl rfl (by decide +kernel) ⟨Nat.le_of_ble_eq_true rfl, Nat.le_of_ble_eq_true rfl⟩) hK hP hD hS hA (wm_cell hK hP) rfl hl.1 rfl (Nat.le_of_ble_eq_true rfl) dX2_goOn_115 ⟨Nat.le_of_ble_eq_true rfl, Nat.le_of_ble_eq_true rfl⟩ (fun u8 H locs hw hP hD hS => ?_)
        obtain rfl : u8 = p_X2_join S ((S.2.2.1 10 a2.toNatClampNeg).toInt32) (S.2.2.1 25 a1.toNatClampNeg) S.2.2.2 := hw
        refine lv_goto (tgt := 304) hx hb dX2_goOn_118 (by decide) ?_
        exact wx_retv kst_K (p_X2_join S ((S.2.2.1 10 a2.toNatClampNeg).toInt32) (S.2.2.1 25 a1.toNatClampNeg) S.2.2.2) hx hb hr hlk hK hP hD hS dX2_goOn_304 (by unfold p_X2_goOn; rw [if_pos c4, if_neg c5, if_neg c6])
      · have hok := hok.1 c6
        refine lv_aload_n hx hb dX2_goOn_79 rfl (lv_at hl 2 rfl) ?_
        refine wm_get hC hin hK hP 25 (by decide) rfl (by decide +kernel) (mget_25 _ _) dX2_goOn_80 ?_
        refine lv_iload_n hx hb dX2_goOn_83 rfl (lv_at hl 3 rfl) ?_
        refine lv_aload_n hx hb dX2_goOn_84 rfl (lv_at hl 2 rfl) ?_
        refine wm_get hC hin hK hP 26 (by decide) rfl (by decide +kernel) (mget_26 _ _) dX2_goOn_85 ?_
        obtain ⟨b9, hok⟩ := hok
        refine wm_last hC hK hP hD hS 25 20 (marr_25 _ _ _ _ _ _) (mast_25 _ _ _ _ _ _ _ _) b9 dX2_goOn_88 (fun H locs hP hD hS => ?_)
        refine lv_aload_n hx hb dX2_goOn_89 rfl (lv_at hl 2 rfl) ?_
        refine lv_iload hx hb dX2_goOn_90 (lv_at hl 1 rfl) ?_
        refine lv_iload_n hx hb dX2_goOn_92 rfl (lv_at hl 5 rfl) ?_
        refine lv_iload hx hb dX2_goOn_93 (lv_at hl 6 rfl) ?_
        obtain ⟨o10, hok⟩ := hok
        refine wx_callVv (As := [.int (S.2.1 8 a2.toNatClampNeg), .int a3, .int a4]) (rest := []) kst_K hC (c_X2_asks l D h ad cI cJ cZ (msJ S 25 a1.toNatClampNeg S.2.2.2) (S.2.1 8 a2.toNatClampNeg) a3 a4 o10) (cwV 3 hts gX2_goOn_X2_asks rfl rfl rfl (by decide +kernel) ⟨Nat.le_of_ble_eq_true rfl, Nat.le_of_ble_eq_true rfl⟩) hK hP hD hS hA (wm_cell hK hP) rfl hl.1 rfl (Nat.le_of_ble_eq_true rfl) dX2_goOn_95 ⟨Nat.le_of_ble_eq_true rfl, Nat.le_of_ble_eq_true rfl⟩ (fun u10 H locs hw hP hD hS => ?_)
        obtain rfl : u10 = p_X2_asks (msJ S 25 a1.toNatClampNeg S.2.2.2) (S.2.1 8 a2.toNatClampNeg) a3 a4 := hw
        refine lv_goto (tgt := 304) hx hb dX2_goOn_98 (by decide) ?_
        exact wx_retv kst_K (p_X2_asks (msJ S 25 a1.toNatClampNeg S.2.2.2) (S.2.1 8 a2.toNatClampNeg) a3 a4) hx hb hr hlk hK hP hD hS dX2_goOn_304 (by unfold p_X2_goOn; rw [if_pos c4, if_neg c5, if_pos c6])
    · have hok := hok.1 c5
      refine lv_aload_n hx hb dX2_goOn_61 rfl (lv_at hl 2 rfl) ?_
      refine lv_iload hx hb dX2_goOn_62 (lv_at hl 8 rfl) ?_
      refine lv_iload_n hx hb dX2_goOn_64 rfl (lv_at hl 5 rfl) ?_
      refine lv_iload hx hb dX2_goOn_65 (lv_at hl 6 rfl) ?_
      obtain ⟨o11, hok⟩ := hok
      refine wx_callVv (As := [.int a6, .int a3, .int a4]) (rest := []) kst_K hC (c_X2_asks l D h ad cI cJ cZ S a6 a3 a4 o11) (cwV 3 hts gX2_goOn_X2_asks rfl rfl rfl (by decide +kernel) ⟨Nat.le_of_ble_eq_true rfl, Nat.le_of_ble_eq_true rfl⟩) hK hP hD hS hA (wm_cell hK hP) rfl hl.1 rfl (Nat.le_of_ble_eq_true rfl) dX2_goOn_67 ⟨Nat.le_of_ble_eq_true rfl, Nat.le_of_ble_eq_true rfl⟩ (fun u11 H locs hw hP hD hS => ?_)
      obtain rfl : u11 = p_X2_asks S a6 a3 a4 := hw
      refine lv_goto (tgt := 304) hx hb dX2_goOn_70 (by decide) ?_
      exact wx_retv kst_K (p_X2_asks S a6 a3 a4) hx hb hr hlk hK hP hD hS dX2_goOn_304 (by unfold p_X2_goOn; rw [if_pos c4, if_pos c5])
  have hok := hok.2 c4
  by_cases c12 : S.2.1 6 a2.toNatClampNeg = 5
  · have hok := hok.1 c12
    refine lv_tableIn (tgt := 121) hx hb dX2_goOn_22 (by rw [c12]; decide) (by rw [c12]; decide) (by rw [c12]; rfl) (by decide) ?_
    refine lv_iload hx hb dX2_goOn_121 (lv_at hl 7 rfl) ?_
    refine lv_if_ne (tgt := 138) hx hb dX2_goOn_123 (by decide) (fun c13 => ?_) (fun c13 => ?_)
    · have hok := hok.2 c13
      refine lv_iload hx hb dX2_goOn_138 (lv_at hl 7 rfl) ?_
      refine lv_iconst (v := 1) hx hb dX2_goOn_140 (by decide) ?_
      refine lv_icmp_ne (tgt := 174) hx hb dX2_goOn_141 (by decide) (fun c14 => ?_) (fun c14 => ?_)
      · have hok := hok.2 c14
        refine lv_aload_n hx hb dX2_goOn_174 rfl (lv_at hl 2 rfl) ?_
        refine lv_aload_n hx hb dX2_goOn_175 rfl (lv_at hl 2 rfl) ?_
        refine wm_get hC hin hK hP 26 (by decide) rfl (by decide +kernel) (mget_26 _ _) dX2_goOn_176 ?_
        obtain ⟨o15, hok⟩ := hok
        refine wx_callVv (As := [.long S.2.2.2]) (rest := []) kst_K hC (c_X2_gives l D h ad cI cJ cZ S S.2.2.2 o15) (cwV 1 hts gX2_goOn_X2_gives rfl rfl rfl (by decide +kernel) ⟨Nat.le_of_ble_eq_true rfl, Nat.le_of_ble_eq_true rfl⟩) hK hP hD hS hA (wm_cell hK hP) rfl hl.1 rfl (Nat.le_of_ble_eq_true rfl) dX2_goOn_179 ⟨Nat.le_of_ble_eq_true rfl, Nat.le_of_ble_eq_true rfl⟩ (fun u15 H locs hw hP hD hS => ?_)
        obtain rfl : u15 = p_X2_gives S S.2.2.2 := hw
        refine lv_goto (tgt := 304) hx hb dX2_goOn_182 (by decide) ?_
        exact wx_retv kst_K (p_X2_gives S S.2.2.2) hx hb hr hlk hK hP hD hS dX2_goOn_304 (by unfold p_X2_goOn; rw [if_neg c4, if_pos c12, if_neg c13, if_neg c14])
      · have hok := hok.1 c14
        refine lv_aload_n hx hb dX2_goOn_144 rfl (lv_at hl 2 rfl) ?_
        refine lv_aload_n hx hb dX2_goOn_145 rfl (lv_at hl 2 rfl) ?_
        refine wm_get hC hin hK hP 26 (by decide) rfl (by decide +kernel) (mget_26 _ _) dX2_goOn_146 ?_
        refine lv_lconst (v := 0) hx hb dX2_goOn_149 (by decide) ?_
        refine W.lcmp hx hb dX2_goOn_150 ?_
        refine lv_if_le (tgt := 159) hx hb dX2_goOn_151 (by decide) (fun c16 => ?_) (fun c16 => ?_)
        · have hok := hok.1 c16
          refine lv_aload_n hx hb dX2_goOn_159 rfl (lv_at hl 2 rfl) ?_
          refine wm_get hC hin hK hP 9 (by decide) rfl (by decide +kernel) (mget_9 _ _) dX2_goOn_160 ?_
          refine lv_iload_n hx hb dX2_goOn_163 rfl (lv_at hl 4 rfl) ?_
          obtain ⟨b17, hok⟩ := hok
          refine wm_iald hC hK hP 9 8 (marr_9 _ _ _ _ _ _) b17 dX2_goOn_164 ?_
          refine lv_iload_n hx hb dX2_goOn_165 rfl (lv_at hl 5 rfl) ?_
          refine lv_iload hx hb dX2_goOn_166 (lv_at hl 6 rfl) ?_
          obtain ⟨o18, hok⟩ := hok
          refine wx_callVv (As := [.int (S.2.1 9 a2.toNatClampNeg), .int a3, .int a4]) (rest := []) kst_K hC (c_X2_asks l D h ad cI cJ cZ S (S.2.1 9 a2.toNatClampNeg) a3 a4 o18) (cwV 3 hts gX2_goOn_X2_asks rfl rfl rfl (by decide +kernel) ⟨Nat.le_of_ble_eq_true rfl, Nat.le_of_ble_eq_true rfl⟩) hK hP hD hS hA (wm_cell hK hP) rfl hl.1 rfl (Nat.le_of_ble_eq_true rfl) dX2_goOn_168 ⟨Nat.le_of_ble_eq_true rfl, Nat.le_of_ble_eq_true rfl⟩ (fun u18 H locs hw hP hD hS => ?_)
          obtain rfl : u18 = p_X2_asks S (S.2.1 9 a2.toNatClampNeg) a3 a4 := hw
          refine lv_goto (tgt := 304) hx hb dX2_goOn_171 (by decide) ?_
          exact wx_retv kst_K (p_X2_asks S (S.2.1 9 a2.toNatClampNeg) a3 a4) hx hb hr hlk hK hP hD hS dX2_goOn_304 (by unfold p_X2_goOn; rw [if_neg c4, if_pos c12, if_neg c13, if_pos c14, if_pos c16])
        · have hok := hok.2 c16
          refine lv_iload hx hb dX2_goOn_154 (lv_at hl 1 rfl) ?_
          refine lv_goto (tgt := 165) hx hb dX2_goOn_156 (by decide) ?_
          refine lv_iload_n hx hb dX2_goOn_165 rfl (lv_at hl 5 rfl) ?_
          refine lv_iload hx hb dX2_goOn_166 (lv_at hl 6 rfl) ?_
          obtain ⟨o19, hok⟩ := hok
          refine wx_callVv (As := [.int (S.2.1 8 a2.toNatClampNeg), .int a3, .int a4]) (rest := []) kst_K hC (c_X2_asks l D h ad cI cJ cZ S (S.2.1 8 a2.toNatClampNeg) a3 a4 o19) (cwV 3 hts gX2_goOn_X2_asks rfl rfl rfl (by decide +kernel) ⟨Nat.le_of_ble_eq_true rfl, Nat.le_of_ble_eq_true rfl⟩) hK hP hD hS hA (wm_cell hK hP) rfl hl.1 rfl (Nat.le_of_ble_eq_true rfl) dX2_goOn_168 ⟨Nat.le_of_ble_eq_true rfl, Nat.le_of_ble_eq_true rfl⟩ (fun u19 H locs hw hP hD hS => ?_)
          obtain rfl : u19 = p_X2_asks S (S.2.1 8 a2.toNatClampNeg) a3 a4 := hw
          refine lv_goto (tgt := 304) hx hb dX2_goOn_171 (by decide) ?_
          exact wx_retv kst_K (p_X2_asks S (S.2.1 8 a2.toNatClampNeg) a3 a4) hx hb hr hlk hK hP hD hS dX2_goOn_304 (by unfold p_X2_goOn; rw [if_neg c4, if_pos c12, if_neg c13, if_pos c14, if_neg c16])
    · have hok := hok.1 c13
      refine lv_aload_n hx hb dX2_goOn_126 rfl (lv_at hl 2 rfl) ?_
      refine lv_iload hx hb dX2_goOn_127 (lv_at hl 8 rfl) ?_
      refine lv_iload_n hx hb dX2_goOn_129 rfl (lv_at hl 5 rfl) ?_
      refine lv_iload hx hb dX2_goOn_130 (lv_at hl 6 rfl) ?_
      obtain ⟨o20, hok⟩ := hok
      refine wx_callVv (As := [.int a6, .int a3, .int a4]) (rest := []) kst_K hC (c_X2_asks l D h ad cI cJ cZ S a6 a3 a4 o20) (cwV 3 hts gX2_goOn_X2_asks rfl rfl rfl (by decide +kernel) ⟨Nat.le_of_ble_eq_true rfl, Nat.le_of_ble_eq_true rfl⟩) hK hP hD hS hA (wm_cell hK hP) rfl hl.1 rfl (Nat.le_of_ble_eq_true rfl) dX2_goOn_132 ⟨Nat.le_of_ble_eq_true rfl, Nat.le_of_ble_eq_true rfl⟩ (fun u20 H locs hw hP hD hS => ?_)
      obtain rfl : u20 = p_X2_asks S a6 a3 a4 := hw
      refine lv_goto (tgt := 304) hx hb dX2_goOn_135 (by decide) ?_
      exact wx_retv kst_K (p_X2_asks S a6 a3 a4) hx hb hr hlk hK hP hD hS dX2_goOn_304 (by unfold p_X2_goOn; rw [if_neg c4, if_pos c12, if_pos c13])
  have hok := hok.2 c12
  by_cases c21 : S.2.1 6 a2.toNatClampNeg = 6
  · have hok := hok.1 c21
    refine lv_tableIn (tgt := 185) hx hb dX2_goOn_22 (by rw [c21]; decide) (by rw [c21]; decide) (by rw [c21]; rfl) (by decide) ?_
    refine lv_iload hx hb dX2_goOn_185 (lv_at hl 7 rfl) ?_
    refine lv_if_ne (tgt := 203) hx hb dX2_goOn_187 (by decide) (fun c22 => ?_) (fun c22 => ?_)
    · have hok := hok.2 c22
      refine lv_aload_n hx hb dX2_goOn_203 rfl (lv_at hl 2 rfl) ?_
      refine lv_aload_n hx hb dX2_goOn_204 rfl (lv_at hl 2 rfl) ?_
      refine wm_get hC hin hK hP 26 (by decide) rfl (by decide +kernel) (mget_26 _ _) dX2_goOn_205 ?_
      obtain ⟨o23, hok⟩ := hok
      refine wx_callVv (As := [.long S.2.2.2]) (rest := []) kst_K hC (c_X2_gives l D h ad cI cJ cZ S S.2.2.2 o23) (cwV 1 hts gX2_goOn_X2_gives rfl rfl rfl (by decide +kernel) ⟨Nat.le_of_ble_eq_true rfl, Nat.le_of_ble_eq_true rfl⟩) hK hP hD hS hA (wm_cell hK hP) rfl hl.1 rfl (Nat.le_of_ble_eq_true rfl) dX2_goOn_208 ⟨Nat.le_of_ble_eq_true rfl, Nat.le_of_ble_eq_true rfl⟩ (fun u23 H locs hw hP hD hS => ?_)
      obtain rfl : u23 = p_X2_gives S S.2.2.2 := hw
      refine lv_goto (tgt := 304) hx hb dX2_goOn_211 (by decide) ?_
      exact wx_retv kst_K (p_X2_gives S S.2.2.2) hx hb hr hlk hK hP hD hS dX2_goOn_304 (by unfold p_X2_goOn; rw [if_neg c4, if_neg c12, if_pos c21, if_neg c22])
    · have hok := hok.1 c22
      refine lv_aload_n hx hb dX2_goOn_190 rfl (lv_at hl 2 rfl) ?_
      refine lv_iload hx hb dX2_goOn_191 (lv_at hl 8 rfl) ?_
      refine lv_iload_n hx hb dX2_goOn_193 rfl (lv_at hl 5 rfl) ?_
      refine lv_lload hx hb dX2_goOn_194 (lv_at hl 0 rfl) ?_
      refine lv_l2i (v := (S.2.2.1 10 a2.toNatClampNeg).toInt32) hx hb dX2_goOn_196 rfl ?_
      obtain ⟨o24, hok⟩ := hok
      refine wx_callVv (As := [.int a6, .int a3, .int ((S.2.2.1 10 a2.toNatClampNeg).toInt32)]) (rest := []) kst_K hC (c_X2_asks l D h ad cI cJ cZ S a6 a3 ((S.2.2.1 10 a2.toNatClampNeg).toInt32) o24) (cwV 3 hts gX2_goOn_X2_asks rfl rfl rfl (by decide +kernel) ⟨Nat.le_of_ble_eq_true rfl, Nat.le_of_ble_eq_true rfl⟩) hK hP hD hS hA (wm_cell hK hP) rfl hl.1 rfl (Nat.le_of_ble_eq_true rfl) dX2_goOn_197 ⟨Nat.le_of_ble_eq_true rfl, Nat.le_of_ble_eq_true rfl⟩ (fun u24 H locs hw hP hD hS => ?_)
      obtain rfl : u24 = p_X2_asks S a6 a3 ((S.2.2.1 10 a2.toNatClampNeg).toInt32) := hw
      refine lv_goto (tgt := 304) hx hb dX2_goOn_200 (by decide) ?_
      exact wx_retv kst_K (p_X2_asks S a6 a3 ((S.2.2.1 10 a2.toNatClampNeg).toInt32)) hx hb hr hlk hK hP hD hS dX2_goOn_304 (by unfold p_X2_goOn; rw [if_neg c4, if_neg c12, if_pos c21, if_pos c22])
  have hok := hok.2 c21
  by_cases c25 : S.2.1 6 a2.toNatClampNeg = 7
  · have hok := hok.1 c25
    refine lv_tableIn (tgt := 214) hx hb dX2_goOn_22 (by rw [c25]; decide) (by rw [c25]; decide) (by rw [c25]; rfl) (by decide) ?_
    refine lv_iload hx hb dX2_goOn_214 (lv_at hl 7 rfl) ?_
    refine lv_if_ne (tgt := 231) hx hb dX2_goOn_216 (by decide) (fun c26 => ?_) (fun c26 => ?_)
    · have hok := hok.2 c26
      refine lv_iload hx hb dX2_goOn_231 (lv_at hl 7 rfl) ?_
      refine lv_iconst (v := 1) hx hb dX2_goOn_233 (by decide) ?_
      refine lv_icmp_ne (tgt := 253) hx hb dX2_goOn_234 (by decide) (fun c27 => ?_) (fun c27 => ?_)
      · have hok := hok.2 c27
        refine lv_aload_n hx hb dX2_goOn_253 rfl (lv_at hl 2 rfl) ?_
        refine lv_aload_n hx hb dX2_goOn_254 rfl (lv_at hl 2 rfl) ?_
        refine wm_get hC hin hK hP 26 (by decide) rfl (by decide +kernel) (mget_26 _ _) dX2_goOn_255 ?_
        obtain ⟨o28, hok⟩ := hok
        refine wx_callVv (As := [.long S.2.2.2]) (rest := []) kst_K hC (c_X2_gives l D h ad cI cJ cZ S S.2.2.2 o28) (cwV 1 hts gX2_goOn_X2_gives rfl rfl rfl (by decide +kernel) ⟨Nat.le_of_ble_eq_true rfl, Nat.le_of_ble_eq_true rfl⟩) hK hP hD hS hA (wm_cell hK hP) rfl hl.1 rfl (Nat.le_of_ble_eq_true rfl) dX2_goOn_258 ⟨Nat.le_of_ble_eq_true rfl, Nat.le_of_ble_eq_true rfl⟩ (fun u28 H locs hw hP hD hS => ?_)
        obtain rfl : u28 = p_X2_gives S S.2.2.2 := hw
        refine lv_goto (tgt := 304) hx hb dX2_goOn_261 (by decide) ?_
        exact wx_retv kst_K (p_X2_gives S S.2.2.2) hx hb hr hlk hK hP hD hS dX2_goOn_304 (by unfold p_X2_goOn; rw [if_neg c4, if_neg c12, if_neg c21, if_pos c25, if_neg c26, if_neg c27])
      · have hok := hok.1 c27
        refine lv_aload_n hx hb dX2_goOn_237 rfl (lv_at hl 2 rfl) ?_
        refine lv_iload hx hb dX2_goOn_238 (lv_at hl 8 rfl) ?_
        refine lv_aload_n hx hb dX2_goOn_240 rfl (lv_at hl 2 rfl) ?_
        refine wm_get hC hin hK hP 26 (by decide) rfl (by decide +kernel) (mget_26 _ _) dX2_goOn_241 ?_
        refine lv_l2i (v := S.2.2.2.toInt32) hx hb dX2_goOn_244 rfl ?_
        refine lv_iload hx hb dX2_goOn_245 (lv_at hl 6 rfl) ?_
        obtain ⟨o29, hok⟩ := hok
        refine wx_callVv (As := [.int a6, .int S.2.2.2.toInt32, .int a4]) (rest := []) kst_K hC (c_X2_asks l D h ad cI cJ cZ S a6 S.2.2.2.toInt32 a4 o29) (cwV 3 hts gX2_goOn_X2_asks rfl rfl rfl (by decide +kernel) ⟨Nat.le_of_ble_eq_true rfl, Nat.le_of_ble_eq_true rfl⟩) hK hP hD hS hA (wm_cell hK hP) rfl hl.1 rfl (Nat.le_of_ble_eq_true rfl) dX2_goOn_247 ⟨Nat.le_of_ble_eq_true rfl, Nat.le_of_ble_eq_true rfl⟩ (fun u29 H locs hw hP hD hS => ?_)
        obtain rfl : u29 = p_X2_asks S a6 S.2.2.2.toInt32 a4 := hw
        refine lv_goto (tgt := 304) hx hb dX2_goOn_250 (by decide) ?_
        exact wx_retv kst_K (p_X2_asks S a6 S.2.2.2.toInt32 a4) hx hb hr hlk hK hP hD hS dX2_goOn_304 (by unfold p_X2_goOn; rw [if_neg c4, if_neg c12, if_neg c21, if_pos c25, if_neg c26, if_pos c27])
    · have hok := hok.1 c26
      refine lv_aload_n hx hb dX2_goOn_219 rfl (lv_at hl 2 rfl) ?_
      refine lv_iload hx hb dX2_goOn_220 (lv_at hl 1 rfl) ?_
      refine lv_iload_n hx hb dX2_goOn_222 rfl (lv_at hl 5 rfl) ?_
      refine lv_iload hx hb dX2_goOn_223 (lv_at hl 6 rfl) ?_
      obtain ⟨o30, hok⟩ := hok
      refine wx_callVv (As := [.int (S.2.1 8 a2.toNatClampNeg), .int a3, .int a4]) (rest := []) kst_K hC (c_X2_asks l D h ad cI cJ cZ S (S.2.1 8 a2.toNatClampNeg) a3 a4 o30) (cwV 3 hts gX2_goOn_X2_asks rfl rfl rfl (by decide +kernel) ⟨Nat.le_of_ble_eq_true rfl, Nat.le_of_ble_eq_true rfl⟩) hK hP hD hS hA (wm_cell hK hP) rfl hl.1 rfl (Nat.le_of_ble_eq_true rfl) dX2_goOn_225 ⟨Nat.le_of_ble_eq_true rfl, Nat.le_of_ble_eq_true rfl⟩ (fun u30 H locs hw hP hD hS => ?_)
      obtain rfl : u30 = p_X2_asks S (S.2.1 8 a2.toNatClampNeg) a3 a4 := hw
      refine lv_goto (tgt := 304) hx hb dX2_goOn_228 (by decide) ?_
      exact wx_retv kst_K (p_X2_asks S (S.2.1 8 a2.toNatClampNeg) a3 a4) hx hb hr hlk hK hP hD hS dX2_goOn_304 (by unfold p_X2_goOn; rw [if_neg c4, if_neg c12, if_neg c21, if_pos c25, if_pos c26])
  have hok := hok.2 c25
  by_cases c31 : S.2.1 6 a2.toNatClampNeg = 8
  · have hok := hok.1 c31
    refine lv_tableIn (tgt := 264) hx hb dX2_goOn_22 (by rw [c31]; decide) (by rw [c31]; decide) (by rw [c31]; rfl) (by decide) ?_
    refine lv_iload hx hb dX2_goOn_264 (lv_at hl 7 rfl) ?_
    refine lv_if_ne (tgt := 281) hx hb dX2_goOn_266 (by decide) (fun c32 => ?_) (fun c32 => ?_)
    · have hok := hok.2 c32
      refine lv_aload_n hx hb dX2_goOn_281 rfl (lv_at hl 2 rfl) ?_
      refine lv_aload_n hx hb dX2_goOn_282 rfl (lv_at hl 2 rfl) ?_
      refine wm_get hC hin hK hP 26 (by decide) rfl (by decide +kernel) (mget_26 _ _) dX2_goOn_283 ?_
      obtain ⟨o33, hok⟩ := hok
      refine wx_callVv (As := [.long S.2.2.2]) (rest := []) kst_K hC (c_X2_gives l D h ad cI cJ cZ S S.2.2.2 o33) (cwV 1 hts gX2_goOn_X2_gives rfl rfl rfl (by decide +kernel) ⟨Nat.le_of_ble_eq_true rfl, Nat.le_of_ble_eq_true rfl⟩) hK hP hD hS hA (wm_cell hK hP) rfl hl.1 rfl (Nat.le_of_ble_eq_true rfl) dX2_goOn_286 ⟨Nat.le_of_ble_eq_true rfl, Nat.le_of_ble_eq_true rfl⟩ (fun u33 H locs hw hP hD hS => ?_)
      obtain rfl : u33 = p_X2_gives S S.2.2.2 := hw
      refine lv_goto (tgt := 304) hx hb dX2_goOn_289 (by decide) ?_
      exact wx_retv kst_K (p_X2_gives S S.2.2.2) hx hb hr hlk hK hP hD hS dX2_goOn_304 (by unfold p_X2_goOn; rw [if_neg c4, if_neg c12, if_neg c21, if_neg c25, if_pos c31, if_neg c32])
    · have hok := hok.1 c32
      refine lv_aload_n hx hb dX2_goOn_269 rfl (lv_at hl 2 rfl) ?_
      refine lv_iload hx hb dX2_goOn_270 (lv_at hl 8 rfl) ?_
      refine lv_iload_n hx hb dX2_goOn_272 rfl (lv_at hl 5 rfl) ?_
      refine lv_iload hx hb dX2_goOn_273 (lv_at hl 6 rfl) ?_
      obtain ⟨o34, hok⟩ := hok
      refine wx_callVv (As := [.int a6, .int a3, .int a4]) (rest := []) kst_K hC (c_X2_asks l D h ad cI cJ cZ S a6 a3 a4 o34) (cwV 3 hts gX2_goOn_X2_asks rfl rfl rfl (by decide +kernel) ⟨Nat.le_of_ble_eq_true rfl, Nat.le_of_ble_eq_true rfl⟩) hK hP hD hS hA (wm_cell hK hP) rfl hl.1 rfl (Nat.le_of_ble_eq_true rfl) dX2_goOn_275 ⟨Nat.le_of_ble_eq_true rfl, Nat.le_of_ble_eq_true rfl⟩ (fun u34 H locs hw hP hD hS => ?_)
      obtain rfl : u34 = p_X2_asks S a6 a3 a4 := hw
      refine lv_goto (tgt := 304) hx hb dX2_goOn_278 (by decide) ?_
      exact wx_retv kst_K (p_X2_asks S a6 a3 a4) hx hb hr hlk hK hP hD hS dX2_goOn_304 (by unfold p_X2_goOn; rw [if_neg c4, if_neg c12, if_neg c21, if_neg c25, if_pos c31, if_pos c32])
  have hok := hok.2 c31
  refine lv_tableOut (tgt := 292) hx hb dX2_goOn_22 (sw_out (fun k h1 h2 => ?_)) (by decide) ?_
  · rcases (show k = 4 ∨ k = 5 ∨ k = 6 ∨ k = 7 ∨ k = 8 by omega) with rfl | rfl | rfl | rfl | rfl
    · exact c4
    · exact c12
    · exact c21
    · exact c25
    · exact c31
  refine lv_aload_n hx hb dX2_goOn_292 rfl (lv_at hl 2 rfl) ?_
  refine lv_iload_n hx hb dX2_goOn_293 rfl (lv_at hl 4 rfl) ?_
  refine lv_iload_n hx hb dX2_goOn_294 rfl (lv_at hl 5 rfl) ?_
  refine lv_iload hx hb dX2_goOn_295 (lv_at hl 6 rfl) ?_
  refine lv_iload hx hb dX2_goOn_297 (lv_at hl 7 rfl) ?_
  refine lv_iload hx hb dX2_goOn_299 (lv_at hl 8 rfl) ?_
  obtain ⟨o35, hok⟩ := hok
  refine wx_callVv (As := [.int a2, .int a3, .int a4, .int a5, .int a6]) (rest := []) kst_K hC (c_X2_goFar l D h ad cI cJ cZ S a2 a3 a4 a5 a6 o35) (cwV 5 hts gX2_goOn_X2_goFar rfl rfl rfl (by decide +kernel) ⟨Nat.le_of_ble_eq_true rfl, Nat.le_of_ble_eq_true rfl⟩) hK hP hD hS hA (wm_cell hK hP) rfl hl.1 rfl (Nat.le_of_ble_eq_true rfl) dX2_goOn_301 ⟨Nat.le_of_ble_eq_true rfl, Nat.le_of_ble_eq_true rfl⟩ (fun u35 H locs hw hP hD hS => ?_)
  obtain rfl : u35 = p_X2_goFar S a2 a3 a4 a5 a6 := hw
  exact wx_retv kst_K (p_X2_goFar S a2 a3 a4 a5 a6) hx hb hr hlk hK hP hD hS dX2_goOn_304 (by unfold p_X2_goOn; rw [if_neg c4, if_neg c12, if_neg c21, if_neg c25, if_neg c31])
def p_X2_go (S : MS)  : MS := if (S.2.1 6 ((S.2.1 21 (((S.1 20) - 1).toNatClampNeg)).toNatClampNeg)) = 0 then (p_X2_gives S (S.2.2.1 10 ((S.2.1 21 (((S.1 20) - 1).toNatClampNeg)).toNatClampNeg))) else (if (S.2.1 6 ((S.2.1 21 (((S.1 20) - 1).toNatClampNeg)).toNatClampNeg)) = 1 then (p_X2_gives S (((S.2.1 22 (((S.1 20) - 1).toNatClampNeg)).toInt64) * (S.2.2.1 10 ((S.2.1 21 (((S.1 20) - 1).toNatClampNeg)).toNatClampNeg)))) else (if (S.2.1 6 ((S.2.1 21 (((S.1 20) - 1).toNatClampNeg)).toNatClampNeg)) = 2 then (p_X2_gives S (((S.2.1 22 (((S.1 20) - 1).toNatClampNeg)).toInt64) * ((S.2.1 0 ((S.2.1 7 ((S.2.1 21 (((S.1 20) - 1).toNatClampNeg)).toNatClampNeg)).toNatClampNeg)).toInt64))) else (if (S.2.1 6 ((S.2.1 21 (((S.1 20) - 1).toNatClampNeg)).toNatClampNeg)) = 3 then (if (p_X2_in (S.2.1 23 (((S.1 20) - 1).toNatClampNeg)) 0 ((S.2.1 2 ((S.2.1 7 ((S.2.1 21 (((S.1 20) - 1).toNatClampNeg)).toNatClampNeg)).toNatClampNeg)) - 1)) = 0 then (p_X2_fails S (-4)) else (p_X2_gives S ((S.2.1 3 (((8 * (S.2.1 7 ((S.2.1 21 (((S.1 20) - 1).toNatClampNeg)).toNatClampNeg))) + (S.2.1 23 (((S.1 20) - 1).toNatClampNeg))).toNatClampNeg)).toInt64))) else (p_X2_goOn S ((S.1 20) - 1) (S.2.1 21 (((S.1 20) - 1).toNatClampNeg)) (S.2.1 22 (((S.1 20) - 1).toNatClampNeg)) (S.2.1 23 (((S.1 20) - 1).toNatClampNeg)) (S.2.1 24 (((S.1 20) - 1).toNatClampNeg)) (S.2.1 7 ((S.2.1 21 (((S.1 20) - 1).toNatClampNeg)).toNatClampNeg))))))
def ok_X2_go (S : MS)  : Prop := (vp_in ((S.1 20) - 1) 24) ∧ ((vp_in ((S.1 20) - 1) 24) ∧ ((vp_in ((S.1 20) - 1) 24) ∧ ((vp_in ((S.1 20) - 1) 24) ∧ ((vp_in (S.2.1 21 (((S.1 20) - 1).toNatClampNeg)) 4200) ∧ ((vp_in (S.2.1 21 (((S.1 20) - 1).toNatClampNeg)) 4200) ∧ ((vp_in (S.2.1 21 (((S.1 20) - 1).toNatClampNeg)) 4200) ∧ (((S.2.1 6 ((S.2.1 21 (((S.1 20) - 1).toNatClampNeg)).toNatClampNeg)) = 0 → ((ok_X2_gives S (S.2.2.1 10 ((S.2.1 21 (((S.1 20) - 1).toNatClampNeg)).toNatClampNeg))) ∧ (True))) ∧ (¬ (S.2.1 6 ((S.2.1 21 (((S.1 20) - 1).toNatClampNeg)).toNatClampNeg)) = 0 → (((S.2.1 6 ((S.2.1 21 (((S.1 20) - 1).toNatClampNeg)).toNatClampNeg)) = 1 → ((ok_X2_gives S (((S.2.1 22 (((S.1 20) - 1).toNatClampNeg)).toInt64) * (S.2.2.1 10 ((S.2.1 21 (((S.1 20) - 1).toNatClampNeg)).toNatClampNeg)))) ∧ (True))) ∧ (¬ (S.2.1 6 ((S.2.1 21 (((S.1 20) - 1).toNatClampNeg)).toNatClampNeg)) = 1 → (((S.2.1 6 ((S.2.1 21 (((S.1 20) - 1).toNatClampNeg)).toNatClampNeg)) = 2 → ((vp_in (S.2.1 7 ((S.2.1 21 (((S.1 20) - 1).toNatClampNeg)).toNatClampNeg)) 8) ∧ ((ok_X2_gives S (((S.2.1 22 (((S.1 20) - 1).toNatClampNeg)).toInt64) * ((S.2.1 0 ((S.2.1 7 ((S.2.1 21 (((S.1 20) - 1).toNatClampNeg)).toNatClampNeg)).toNatClampNeg)).toInt64))) ∧ (True)))) ∧ (¬ (S.2.1 6 ((S.2.1 21 (((S.1 20) - 1).toNatClampNeg)).toNatClampNeg)) = 2 → (((S.2.1 6 ((S.2.1 21 (((S.1 20) - 1).toNatClampNeg)).toNatClampNeg)) = 3 → ((vp_in (S.2.1 7 ((S.2.1 21 (((S.1 20) - 1).toNatClampNeg)).toNatClampNeg)) 4200) ∧ (((p_X2_in (S.2.1 23 (((S.1 20) - 1).toNatClampNeg)) 0 ((S.2.1 2 ((S.2.1 7 ((S.2.1 21 (((S.1 20) - 1).toNatClampNeg)).toNatClampNeg)).toNatClampNeg)) - 1)) = 0 → ((ok_X2_fails S (-4)) ∧ (True))) ∧ (¬ (p_X2_in (S.2.1 23 (((S.1 20) - 1).toNatClampNeg)) 0 ((S.2.1 2 ((S.2.1 7 ((S.2.1 21 (((S.1 20) - 1).toNatClampNeg)).toNatClampNeg)).toNatClampNeg)) - 1)) = 0 → ((vp_in ((8 * (S.2.1 7 ((S.2.1 21 (((S.1 20) - 1).toNatClampNeg)).toNatClampNeg))) + (S.2.1 23 (((S.1 20) - 1).toNatClampNeg))) 33600) ∧ ((ok_X2_gives S ((S.2.1 3 (((8 * (S.2.1 7 ((S.2.1 21 (((S.1 20) - 1).toNatClampNeg)).toNatClampNeg))) + (S.2.1 23 (((S.1 20) - 1).toNatClampNeg))).toNatClampNeg)).toInt64)) ∧ (True))))))) ∧ (¬ (S.2.1 6 ((S.2.1 21 (((S.1 20) - 1).toNatClampNeg)).toNatClampNeg)) = 3 → ((ok_X2_goOn S ((S.1 20) - 1) (S.2.1 21 (((S.1 20) - 1).toNatClampNeg)) (S.2.1 22 (((S.1 20) - 1).toNatClampNeg)) (S.2.1 23 (((S.1 20) - 1).toNatClampNeg)) (S.2.1 24 (((S.1 20) - 1).toNatClampNeg)) (S.2.1 7 ((S.2.1 21 (((S.1 20) - 1).toNatClampNeg)).toNatClampNeg))) ∧ (True))))))))))))))))
set_option maxHeartbeats 4000000 in
set_option maxRecDepth 100000 in
theorem c_X2_go (l : Launch) (D : va_G) (h : Nat) (ad : Nat → Nat) (cI cJ cZ : ClassId) (S : MS)  (hok : ok_X2_go S ) : MetV l yX2_go wsX2_go ({ frames := 4, cells := 0, slots := 0, locals := 100 } : Room) D (va_K D vwCl (mTy cI cJ cZ)) (mW h ad cI cJ cZ) S [.ref h] (fun u => u = p_X2_go S ) 0 0 := by
  unfold ok_X2_go at hok
  refine MetV.of (cc := cX2_go) (maxL := 9) (by decide) rfl (Nat.le_of_ble_eq_true rfl) ?_
  intro p e s m below meth c A ls hC hr hlk hnm hK hP hD hA hl
  obtain ⟨hx, hb, hml, hown, hts⟩ := id hC
  have hS : va_S A s.heap s.heap [] := va_S.rf
  have hin : ∀ w ∈ wsX20, w ∈ wsX2_go := fun _ h => List.mem_cons_of_mem _ (List.mem_append_right _ h)
  have hl : lv_has ls 9 [(0, .ref h)] := hl
  refine lv_aload_n hx hb dX2_go_0 rfl (lv_at hl 0 rfl) ?_
  refine wm_get hC hin hK hP 20 (by decide) rfl (by decide +kernel) (mget_20 _ _) dX2_go_1 ?_
  refine lv_iconst (v := 1) hx hb dX2_go_4 (by decide) ?_
  refine lv_isub hx hb dX2_go_5 ?_
  refine lv_istore_n (lv' := [(1, .int ((S.1 20) - 1)), (0, .ref h)]) hx hb dX2_go_6 rfl hl (by decide) rfl (fun ls hl => ?_)
  refine lv_aload_n hx hb dX2_go_7 rfl (lv_at hl 1 rfl) ?_
  refine wm_get hC hin hK hP 21 (by decide) rfl (by decide +kernel) (mget_21 _ _) dX2_go_8 ?_
  refine lv_iload_n hx hb dX2_go_11 rfl (lv_at hl 0 rfl) ?_
  obtain ⟨b1, hok⟩ := hok
  refine wm_iald hC hK hP 21 16 (marr_21 _ _ _ _ _ _) b1 dX2_go_12 ?_
  refine lv_istore_n (lv' := [(2, .int (S.2.1 21 (((S.1 20) - 1).toNatClampNeg))), (1, .int ((S.1 20) - 1)), (0, .ref h)]) hx hb dX2_go_13 rfl hl (by decide) rfl (fun ls hl => ?_)
  refine lv_aload_n hx hb dX2_go_14 rfl (lv_at hl 2 rfl) ?_
  refine wm_get hC hin hK hP 22 (by decide) rfl (by decide +kernel) (mget_22 _ _) dX2_go_15 ?_
  refine lv_iload_n hx hb dX2_go_18 rfl (lv_at hl 1 rfl) ?_
  obtain ⟨b2, hok⟩ := hok
  refine wm_iald hC hK hP 22 17 (marr_22 _ _ _ _ _ _) b2 dX2_go_19 ?_
  refine lv_istore_n (lv' := [(3, .int (S.2.1 22 (((S.1 20) - 1).toNatClampNeg))), (2, .int (S.2.1 21 (((S.1 20) - 1).toNatClampNeg))), (1, .int ((S.1 20) - 1)), (0, .ref h)]) hx hb dX2_go_20 rfl hl (by decide) rfl (fun ls hl => ?_)
  refine lv_aload_n hx hb dX2_go_21 rfl (lv_at hl 3 rfl) ?_
  refine wm_get hC hin hK hP 23 (by decide) rfl (by decide +kernel) (mget_23 _ _) dX2_go_22 ?_
  refine lv_iload_n hx hb dX2_go_25 rfl (lv_at hl 2 rfl) ?_
  obtain ⟨b3, hok⟩ := hok
  refine wm_iald hC hK hP 23 18 (marr_23 _ _ _ _ _ _) b3 dX2_go_26 ?_
  refine lv_istore (lv' := [(4, .int (S.2.1 23 (((S.1 20) - 1).toNatClampNeg))), (3, .int (S.2.1 22 (((S.1 20) - 1).toNatClampNeg))), (2, .int (S.2.1 21 (((S.1 20) - 1).toNatClampNeg))), (1, .int ((S.1 20) - 1)), (0, .ref h)]) hx hb dX2_go_27 hl (by decide) rfl (fun ls hl => ?_)
  refine lv_aload_n hx hb dX2_go_29 rfl (lv_at hl 4 rfl) ?_
  refine wm_get hC hin hK hP 24 (by decide) rfl (by decide +kernel) (mget_24 _ _) dX2_go_30 ?_
  refine lv_iload_n hx hb dX2_go_33 rfl (lv_at hl 3 rfl) ?_
  obtain ⟨b4, hok⟩ := hok
  refine wm_iald hC hK hP 24 19 (marr_24 _ _ _ _ _ _) b4 dX2_go_34 ?_
  refine lv_istore (lv' := [(5, .int (S.2.1 24 (((S.1 20) - 1).toNatClampNeg))), (4, .int (S.2.1 23 (((S.1 20) - 1).toNatClampNeg))), (3, .int (S.2.1 22 (((S.1 20) - 1).toNatClampNeg))), (2, .int (S.2.1 21 (((S.1 20) - 1).toNatClampNeg))), (1, .int ((S.1 20) - 1)), (0, .ref h)]) hx hb dX2_go_35 hl (by decide) rfl (fun ls hl => ?_)
  refine lv_aload_n hx hb dX2_go_37 rfl (lv_at hl 5 rfl) ?_
  refine wm_get hC hin hK hP 7 (by decide) rfl (by decide +kernel) (mget_7 _ _) dX2_go_38 ?_
  refine lv_iload_n hx hb dX2_go_41 rfl (lv_at hl 3 rfl) ?_
  obtain ⟨b5, hok⟩ := hok
  refine wm_iald hC hK hP 7 6 (marr_7 _ _ _ _ _ _) b5 dX2_go_42 ?_
  refine lv_istore (lv' := [(6, .int (S.2.1 7 ((S.2.1 21 (((S.1 20) - 1).toNatClampNeg)).toNatClampNeg))), (5, .int (S.2.1 24 (((S.1 20) - 1).toNatClampNeg))), (4, .int (S.2.1 23 (((S.1 20) - 1).toNatClampNeg))), (3, .int (S.2.1 22 (((S.1 20) - 1).toNatClampNeg))), (2, .int (S.2.1 21 (((S.1 20) - 1).toNatClampNeg))), (1, .int ((S.1 20) - 1)), (0, .ref h)]) hx hb dX2_go_43 hl (by decide) rfl (fun ls hl => ?_)
  refine lv_aload_n hx hb dX2_go_45 rfl (lv_at hl 6 rfl) ?_
  refine wm_get hC hin hK hP 10 (by decide) rfl (by decide +kernel) (mget_10 _ _) dX2_go_46 ?_
  refine lv_iload_n hx hb dX2_go_49 rfl (lv_at hl 4 rfl) ?_
  obtain ⟨b6, hok⟩ := hok
  refine wm_lald hC hK hP 10 9 (marr_10 _ _ _ _ _ _) b6 dX2_go_50 ?_
  refine lv_lstore (lv' := [(7, .long (S.2.2.1 10 ((S.2.1 21 (((S.1 20) - 1).toNatClampNeg)).toNatClampNeg))), (6, .int (S.2.1 7 ((S.2.1 21 (((S.1 20) - 1).toNatClampNeg)).toNatClampNeg))), (5, .int (S.2.1 24 (((S.1 20) - 1).toNatClampNeg))), (4, .int (S.2.1 23 (((S.1 20) - 1).toNatClampNeg))), (3, .int (S.2.1 22 (((S.1 20) - 1).toNatClampNeg))), (2, .int (S.2.1 21 (((S.1 20) - 1).toNatClampNeg))), (1, .int ((S.1 20) - 1)), (0, .ref h)]) hx hb dX2_go_51 hl (by decide) rfl (fun ls hl => ?_)
  refine lv_aload_n hx hb dX2_go_53 rfl (lv_at hl 7 rfl) ?_
  refine wm_get hC hin hK hP 6 (by decide) rfl (by decide +kernel) (mget_6 _ _) dX2_go_54 ?_
  refine lv_iload_n hx hb dX2_go_57 rfl (lv_at hl 5 rfl) ?_
  obtain ⟨b7, hok⟩ := hok
  refine wm_iald hC hK hP 6 5 (marr_6 _ _ _ _ _ _) b7 dX2_go_58 ?_
  by_cases c8 : S.2.1 6 ((S.2.1 21 (((S.1 20) - 1).toNatClampNeg)).toNatClampNeg) = 0
  · have hok := hok.1 c8
    refine lv_tableIn (tgt := 88) hx hb dX2_go_59 (by rw [c8]; decide) (by rw [c8]; decide) (by rw [c8]; rfl) (by decide) ?_
    refine lv_aload_n hx hb dX2_go_88 rfl (lv_at hl 7 rfl) ?_
    refine lv_lload hx hb dX2_go_89 (lv_at hl 0 rfl) ?_
    obtain ⟨o9, hok⟩ := hok
    refine wx_callVv (As := [.long (S.2.2.1 10 ((S.2.1 21 (((S.1 20) - 1).toNatClampNeg)).toNatClampNeg))]) (rest := []) kst_K hC (c_X2_gives l D h ad cI cJ cZ S (S.2.2.1 10 ((S.2.1 21 (((S.1 20) - 1).toNatClampNeg)).toNatClampNeg)) o9) (cwV 1 hts gX2_go_X2_gives rfl rfl rfl (by decide +kernel) ⟨Nat.le_of_ble_eq_true rfl, Nat.le_of_ble_eq_true rfl⟩) hK hP hD hS hA (wm_cell hK hP) rfl hl.1 rfl (Nat.le_of_ble_eq_true rfl) dX2_go_91 ⟨Nat.le_of_ble_eq_true rfl, Nat.le_of_ble_eq_true rfl⟩ (fun u9 H locs hw hP hD hS => ?_)
    obtain rfl : u9 = p_X2_gives S (S.2.2.1 10 ((S.2.1 21 (((S.1 20) - 1).toNatClampNeg)).toNatClampNeg)) := hw
    refine lv_goto (tgt := 188) hx hb dX2_go_94 (by decide) ?_
    exact wx_retv kst_K (p_X2_gives S (S.2.2.1 10 ((S.2.1 21 (((S.1 20) - 1).toNatClampNeg)).toNatClampNeg))) hx hb hr hlk hK hP hD hS dX2_go_188 (by unfold p_X2_go; rw [if_pos c8])
  have hok := hok.2 c8
  by_cases c10 : S.2.1 6 ((S.2.1 21 (((S.1 20) - 1).toNatClampNeg)).toNatClampNeg) = 1
  · have hok := hok.1 c10
    refine lv_tableIn (tgt := 97) hx hb dX2_go_59 (by rw [c10]; decide) (by rw [c10]; decide) (by rw [c10]; rfl) (by decide) ?_
    refine lv_aload_n hx hb dX2_go_97 rfl (lv_at hl 7 rfl) ?_
    refine lv_iload_n hx hb dX2_go_98 rfl (lv_at hl 4 rfl) ?_
    refine lv_i2l (v := (S.2.1 22 (((S.1 20) - 1).toNatClampNeg)).toInt64) hx hb dX2_go_99 rfl ?_
    refine lv_lload hx hb dX2_go_100 (lv_at hl 0 rfl) ?_
    refine lv_lmul hx hb dX2_go_102 ?_
    obtain ⟨o11, hok⟩ := hok
    refine wx_callVv (As := [.long (((S.2.1 22 (((S.1 20) - 1).toNatClampNeg)).toInt64) * (S.2.2.1 10 ((S.2.1 21 (((S.1 20) - 1).toNatClampNeg)).toNatClampNeg)))]) (rest := []) kst_K hC (c_X2_gives l D h ad cI cJ cZ S (((S.2.1 22 (((S.1 20) - 1).toNatClampNeg)).toInt64) * (S.2.2.1 10 ((S.2.1 21 (((S.1 20) - 1).toNatClampNeg)).toNatClampNeg))) o11) (cwV 1 hts gX2_go_X2_gives rfl rfl rfl (by decide +kernel) ⟨Nat.le_of_ble_eq_true rfl, Nat.le_of_ble_eq_true rfl⟩) hK hP hD hS hA (wm_cell hK hP) rfl hl.1 rfl (Nat.le_of_ble_eq_true rfl) dX2_go_103 ⟨Nat.le_of_ble_eq_true rfl, Nat.le_of_ble_eq_true rfl⟩ (fun u11 H locs hw hP hD hS => ?_)
    obtain rfl : u11 = p_X2_gives S (((S.2.1 22 (((S.1 20) - 1).toNatClampNeg)).toInt64) * (S.2.2.1 10 ((S.2.1 21 (((S.1 20) - 1).toNatClampNeg)).toNatClampNeg))) := hw
    refine lv_goto (tgt := 188) hx hb dX2_go_106 (by decide) ?_
    exact wx_retv kst_K (p_X2_gives S (((S.2.1 22 (((S.1 20) - 1).toNatClampNeg)).toInt64) * (S.2.2.1 10 ((S.2.1 21 (((S.1 20) - 1).toNatClampNeg)).toNatClampNeg)))) hx hb hr hlk hK hP hD hS dX2_go_188 (by unfold p_X2_go; rw [if_neg c8, if_pos c10])
  have hok := hok.2 c10
  by_cases c12 : S.2.1 6 ((S.2.1 21 (((S.1 20) - 1).toNatClampNeg)).toNatClampNeg) = 2
  · have hok := hok.1 c12
    refine lv_tableIn (tgt := 109) hx hb dX2_go_59 (by rw [c12]; decide) (by rw [c12]; decide) (by rw [c12]; rfl) (by decide) ?_
    refine lv_aload_n hx hb dX2_go_109 rfl (lv_at hl 7 rfl) ?_
    refine lv_iload_n hx hb dX2_go_110 rfl (lv_at hl 4 rfl) ?_
    refine lv_i2l (v := (S.2.1 22 (((S.1 20) - 1).toNatClampNeg)).toInt64) hx hb dX2_go_111 rfl ?_
    refine lv_aload_n hx hb dX2_go_112 rfl (lv_at hl 7 rfl) ?_
    refine wm_get hC hin hK hP 0 (by decide) rfl (by decide +kernel) (mget_0 _ _) dX2_go_113 ?_
    refine lv_iload hx hb dX2_go_116 (lv_at hl 1 rfl) ?_
    obtain ⟨b13, hok⟩ := hok
    refine wm_iald hC hK hP 0 1 (marr_0 _ _ _ _ _ _) b13 dX2_go_118 ?_
    refine lv_i2l (v := (S.2.1 0 ((S.2.1 7 ((S.2.1 21 (((S.1 20) - 1).toNatClampNeg)).toNatClampNeg)).toNatClampNeg)).toInt64) hx hb dX2_go_119 rfl ?_
    refine lv_lmul hx hb dX2_go_120 ?_
    obtain ⟨o14, hok⟩ := hok
    refine wx_callVv (As := [.long (((S.2.1 22 (((S.1 20) - 1).toNatClampNeg)).toInt64) * ((S.2.1 0 ((S.2.1 7 ((S.2.1 21 (((S.1 20) - 1).toNatClampNeg)).toNatClampNeg)).toNatClampNeg)).toInt64))]) (rest := []) kst_K hC (c_X2_gives l D h ad cI cJ cZ S (((S.2.1 22 (((S.1 20) - 1).toNatClampNeg)).toInt64) * ((S.2.1 0 ((S.2.1 7 ((S.2.1 21 (((S.1 20) - 1).toNatClampNeg)).toNatClampNeg)).toNatClampNeg)).toInt64)) o14) (cwV 1 hts gX2_go_X2_gives rfl rfl rfl (by decide +kernel) ⟨Nat.le_of_ble_eq_true rfl, Nat.le_of_ble_eq_true rfl⟩) hK hP hD hS hA (wm_cell hK hP) rfl hl.1 rfl (Nat.le_of_ble_eq_true rfl) dX2_go_121 ⟨Nat.le_of_ble_eq_true rfl, Nat.le_of_ble_eq_true rfl⟩ (fun u14 H locs hw hP hD hS => ?_)
    obtain rfl : u14 = p_X2_gives S (((S.2.1 22 (((S.1 20) - 1).toNatClampNeg)).toInt64) * ((S.2.1 0 ((S.2.1 7 ((S.2.1 21 (((S.1 20) - 1).toNatClampNeg)).toNatClampNeg)).toNatClampNeg)).toInt64)) := hw
    refine lv_goto (tgt := 188) hx hb dX2_go_124 (by decide) ?_
    exact wx_retv kst_K (p_X2_gives S (((S.2.1 22 (((S.1 20) - 1).toNatClampNeg)).toInt64) * ((S.2.1 0 ((S.2.1 7 ((S.2.1 21 (((S.1 20) - 1).toNatClampNeg)).toNatClampNeg)).toNatClampNeg)).toInt64))) hx hb hr hlk hK hP hD hS dX2_go_188 (by unfold p_X2_go; rw [if_neg c8, if_neg c10, if_pos c12])
  have hok := hok.2 c12
  by_cases c15 : S.2.1 6 ((S.2.1 21 (((S.1 20) - 1).toNatClampNeg)).toNatClampNeg) = 3
  · have hok := hok.1 c15
    refine lv_tableIn (tgt := 127) hx hb dX2_go_59 (by rw [c15]; decide) (by rw [c15]; decide) (by rw [c15]; rfl) (by decide) ?_
    refine lv_iload hx hb dX2_go_127 (lv_at hl 3 rfl) ?_
    refine lv_iconst (v := 0) hx hb dX2_go_129 (by decide) ?_
    refine lv_aload_n hx hb dX2_go_130 rfl (lv_at hl 7 rfl) ?_
    refine wm_get hC hin hK hP 2 (by decide) rfl (by decide +kernel) (mget_2 _ _) dX2_go_131 ?_
    refine lv_iload hx hb dX2_go_134 (lv_at hl 1 rfl) ?_
    obtain ⟨b16, hok⟩ := hok
    refine wm_iald hC hK hP 2 3 (marr_2 _ _ _ _ _ _) b16 dX2_go_136 ?_
    refine lv_iconst (v := 1) hx hb dX2_go_137 (by decide) ?_
    refine lv_isub hx hb dX2_go_138 ?_
    refine wx_callS (As := [.int (S.2.1 23 (((S.1 20) - 1).toNatClampNeg)), .int 0, .int ((S.2.1 2 ((S.2.1 7 ((S.2.1 21 (((S.1 20) - 1).toNatClampNeg)).toNatClampNeg)).toNatClampNeg)) - 1)]) (rest := []) hC (c_X2_in l (S.2.1 23 (((S.1 20) - 1).toNatClampNeg)) 0 ((S.2.1 2 ((S.2.1 7 ((S.2.1 21 (((S.1 20) - 1).toNatClampNeg)).toNatClampNeg)).toNatClampNeg)) - 1)) (va_cwS 3 hts gX2_go_X2_in rfl rfl rfl (by decide +kernel) ⟨Nat.le_of_ble_eq_true rfl, Nat.le_of_ble_eq_true rfl⟩) rfl hl.1 rfl (Nat.le_of_ble_eq_true rfl) dX2_go_139 ⟨Nat.le_of_ble_eq_true rfl, Nat.le_of_ble_eq_true rfl⟩ (fun r17 hw => ?_)
    obtain rfl : r17 = p_X2_in (S.2.1 23 (((S.1 20) - 1).toNatClampNeg)) 0 ((S.2.1 2 ((S.2.1 7 ((S.2.1 21 (((S.1 20) - 1).toNatClampNeg)).toNatClampNeg)).toNatClampNeg)) - 1) := hw
    refine lv_if_eq (tgt := 166) hx hb dX2_go_142 (by decide) (fun c18 => ?_) (fun c18 => ?_)
    · have hok := hok.1 c18
      refine lv_aload_n hx hb dX2_go_166 rfl (lv_at hl 7 rfl) ?_
      refine lv_bipush (v := (-4)) hx hb dX2_go_167 (by decide) ?_
      obtain ⟨o19, hok⟩ := hok
      refine wx_callVv (As := [.int (-4)]) (rest := []) kst_K hC (c_X2_fails l D h ad cI cJ cZ S (-4) o19) (cwV 1 hts gX2_go_X2_fails rfl rfl rfl (by decide +kernel) ⟨Nat.le_of_ble_eq_true rfl, Nat.le_of_ble_eq_true rfl⟩) hK hP hD hS hA (wm_cell hK hP) rfl hl.1 rfl (Nat.le_of_ble_eq_true rfl) dX2_go_169 ⟨Nat.le_of_ble_eq_true rfl, Nat.le_of_ble_eq_true rfl⟩ (fun u19 H locs hw hP hD hS => ?_)
      obtain rfl : u19 = p_X2_fails S (-4) := hw
      refine lv_goto (tgt := 188) hx hb dX2_go_172 (by decide) ?_
      exact wx_retv kst_K (p_X2_fails S (-4)) hx hb hr hlk hK hP hD hS dX2_go_188 (by unfold p_X2_go; rw [if_neg c8, if_neg c10, if_neg c12, if_pos c15, if_pos c18])
    · have hok := hok.2 c18
      refine lv_aload_n hx hb dX2_go_145 rfl (lv_at hl 7 rfl) ?_
      refine lv_aload_n hx hb dX2_go_146 rfl (lv_at hl 7 rfl) ?_
      refine wm_get hC hin hK hP 3 (by decide) rfl (by decide +kernel) (mget_3 _ _) dX2_go_147 ?_
      refine lv_bipush (v := 8) hx hb dX2_go_150 (by decide) ?_
      refine lv_iload hx hb dX2_go_152 (lv_at hl 1 rfl) ?_
      refine lv_imul hx hb dX2_go_154 ?_
      refine lv_iload hx hb dX2_go_155 (lv_at hl 3 rfl) ?_
      refine lv_iadd hx hb dX2_go_157 ?_
      obtain ⟨b20, hok⟩ := hok
      refine wm_iald hC hK hP 3 4 (marr_3 _ _ _ _ _ _) b20 dX2_go_158 ?_
      refine lv_i2l (v := (S.2.1 3 (((8 * (S.2.1 7 ((S.2.1 21 (((S.1 20) - 1).toNatClampNeg)).toNatClampNeg))) + (S.2.1 23 (((S.1 20) - 1).toNatClampNeg))).toNatClampNeg)).toInt64) hx hb dX2_go_159 rfl ?_
      obtain ⟨o21, hok⟩ := hok
      refine wx_callVv (As := [.long ((S.2.1 3 (((8 * (S.2.1 7 ((S.2.1 21 (((S.1 20) - 1).toNatClampNeg)).toNatClampNeg))) + (S.2.1 23 (((S.1 20) - 1).toNatClampNeg))).toNatClampNeg)).toInt64)]) (rest := []) kst_K hC (c_X2_gives l D h ad cI cJ cZ S ((S.2.1 3 (((8 * (S.2.1 7 ((S.2.1 21 (((S.1 20) - 1).toNatClampNeg)).toNatClampNeg))) + (S.2.1 23 (((S.1 20) - 1).toNatClampNeg))).toNatClampNeg)).toInt64) o21) (cwV 1 hts gX2_go_X2_gives rfl rfl rfl (by decide +kernel) ⟨Nat.le_of_ble_eq_true rfl, Nat.le_of_ble_eq_true rfl⟩) hK hP hD hS hA (wm_cell hK hP) rfl hl.1 rfl (Nat.le_of_ble_eq_true rfl) dX2_go_160 ⟨Nat.le_of_ble_eq_true rfl, Nat.le_of_ble_eq_true rfl⟩ (fun u21 H locs hw hP hD hS => ?_)
      obtain rfl : u21 = p_X2_gives S ((S.2.1 3 (((8 * (S.2.1 7 ((S.2.1 21 (((S.1 20) - 1).toNatClampNeg)).toNatClampNeg))) + (S.2.1 23 (((S.1 20) - 1).toNatClampNeg))).toNatClampNeg)).toInt64) := hw
      refine lv_goto (tgt := 188) hx hb dX2_go_163 (by decide) ?_
      exact wx_retv kst_K (p_X2_gives S ((S.2.1 3 (((8 * (S.2.1 7 ((S.2.1 21 (((S.1 20) - 1).toNatClampNeg)).toNatClampNeg))) + (S.2.1 23 (((S.1 20) - 1).toNatClampNeg))).toNatClampNeg)).toInt64)) hx hb hr hlk hK hP hD hS dX2_go_188 (by unfold p_X2_go; rw [if_neg c8, if_neg c10, if_neg c12, if_pos c15, if_neg c18])
  have hok := hok.2 c15
  refine lv_tableOut (tgt := 175) hx hb dX2_go_59 (sw_out (fun k h1 h2 => ?_)) (by decide) ?_
  · rcases (show k = 0 ∨ k = 1 ∨ k = 2 ∨ k = 3 by omega) with rfl | rfl | rfl | rfl
    · exact c8
    · exact c10
    · exact c12
    · exact c15
  refine lv_aload_n hx hb dX2_go_175 rfl (lv_at hl 7 rfl) ?_
  refine lv_iload_n hx hb dX2_go_176 rfl (lv_at hl 6 rfl) ?_
  refine lv_iload_n hx hb dX2_go_177 rfl (lv_at hl 5 rfl) ?_
  refine lv_iload_n hx hb dX2_go_178 rfl (lv_at hl 4 rfl) ?_
  refine lv_iload hx hb dX2_go_179 (lv_at hl 3 rfl) ?_
  refine lv_iload hx hb dX2_go_181 (lv_at hl 2 rfl) ?_
  refine lv_iload hx hb dX2_go_183 (lv_at hl 1 rfl) ?_
  obtain ⟨o22, hok⟩ := hok
  refine wx_callVv (As := [.int ((S.1 20) - 1), .int (S.2.1 21 (((S.1 20) - 1).toNatClampNeg)), .int (S.2.1 22 (((S.1 20) - 1).toNatClampNeg)), .int (S.2.1 23 (((S.1 20) - 1).toNatClampNeg)), .int (S.2.1 24 (((S.1 20) - 1).toNatClampNeg)), .int (S.2.1 7 ((S.2.1 21 (((S.1 20) - 1).toNatClampNeg)).toNatClampNeg))]) (rest := []) kst_K hC (c_X2_goOn l D h ad cI cJ cZ S ((S.1 20) - 1) (S.2.1 21 (((S.1 20) - 1).toNatClampNeg)) (S.2.1 22 (((S.1 20) - 1).toNatClampNeg)) (S.2.1 23 (((S.1 20) - 1).toNatClampNeg)) (S.2.1 24 (((S.1 20) - 1).toNatClampNeg)) (S.2.1 7 ((S.2.1 21 (((S.1 20) - 1).toNatClampNeg)).toNatClampNeg)) o22) (cwV 6 hts gX2_go_X2_goOn rfl rfl rfl (by decide +kernel) ⟨Nat.le_of_ble_eq_true rfl, Nat.le_of_ble_eq_true rfl⟩) hK hP hD hS hA (wm_cell hK hP) rfl hl.1 rfl (Nat.le_of_ble_eq_true rfl) dX2_go_185 ⟨Nat.le_of_ble_eq_true rfl, Nat.le_of_ble_eq_true rfl⟩ (fun u22 H locs hw hP hD hS => ?_)
  obtain rfl : u22 = p_X2_goOn S ((S.1 20) - 1) (S.2.1 21 (((S.1 20) - 1).toNatClampNeg)) (S.2.1 22 (((S.1 20) - 1).toNatClampNeg)) (S.2.1 23 (((S.1 20) - 1).toNatClampNeg)) (S.2.1 24 (((S.1 20) - 1).toNatClampNeg)) (S.2.1 7 ((S.2.1 21 (((S.1 20) - 1).toNatClampNeg)).toNatClampNeg)) := hw
  exact wx_retv kst_K (p_X2_goOn S ((S.1 20) - 1) (S.2.1 21 (((S.1 20) - 1).toNatClampNeg)) (S.2.1 22 (((S.1 20) - 1).toNatClampNeg)) (S.2.1 23 (((S.1 20) - 1).toNatClampNeg)) (S.2.1 24 (((S.1 20) - 1).toNatClampNeg)) (S.2.1 7 ((S.2.1 21 (((S.1 20) - 1).toNatClampNeg)).toNatClampNeg))) hx hb hr hlk hK hP hD hS dX2_go_188 (by unfold p_X2_go; rw [if_neg c8, if_neg c10, if_neg c12, if_neg c15])
def pL_X2_fall_0 (N : Nat) : Nat → MS → MS
  | 0, S => S
  | n + 1, S => if (S.1 20) ≤ 0 then S else (if (S.1 27) = 0 then S else (if (S.2.1 6 ((S.2.1 21 (((S.1 20) - 1).toNatClampNeg)).toNatClampNeg)) = 8 then (if (S.2.1 24 (((S.1 20) - 1).toNatClampNeg)) = 1 then (if (S.1 27) = (-6) then (pL_X2_fall_0 N n (msI S 20 ((S.1 20) - 1))) else (if (S.1 27) = (-7) then (pL_X2_fall_0 N n (msI S 20 ((S.1 20) - 1))) else (pL_X2_fall_0 N n (p_X2_asks (msI S 27 0) (S.2.1 8 ((S.2.1 21 (((S.1 20) - 1).toNatClampNeg)).toNatClampNeg)) (S.2.1 22 (((S.1 20) - 1).toNatClampNeg)) (S.2.1 23 (((S.1 20) - 1).toNatClampNeg)))))) else (pL_X2_fall_0 N n (msI S 20 ((S.1 20) - 1)))) else (pL_X2_fall_0 N n (msI S 20 ((S.1 20) - 1)))))
def okL_X2_fall_0 (N : Nat) : Nat → MS → Prop
  | 0, _ => False
  | n + 1, S => ((S.1 20) ≤ 0 → True) ∧ (¬ (S.1 20) ≤ 0 → (((S.1 27) = 0 → True) ∧ (¬ (S.1 27) = 0 → ((vp_in ((S.1 20) - 1) 24) ∧ ((vp_in (S.2.1 21 (((S.1 20) - 1).toNatClampNeg)) 4200) ∧ (((S.2.1 6 ((S.2.1 21 (((S.1 20) - 1).toNatClampNeg)).toNatClampNeg)) = 8 → ((vp_in ((S.1 20) - 1) 24) ∧ (((S.2.1 24 (((S.1 20) - 1).toNatClampNeg)) = 1 → (((S.1 27) = (-6) → (okL_X2_fall_0 N n (msI S 20 ((S.1 20) - 1)))) ∧ (¬ (S.1 27) = (-6) → (((S.1 27) = (-7) → (okL_X2_fall_0 N n (msI S 20 ((S.1 20) - 1)))) ∧ (¬ (S.1 27) = (-7) → ((vp_in (S.2.1 21 (((S.1 20) - 1).toNatClampNeg)) 4200) ∧ ((vp_in ((S.1 20) - 1) 24) ∧ ((vp_in ((S.1 20) - 1) 24) ∧ ((ok_X2_asks (msI S 27 0) (S.2.1 8 ((S.2.1 21 (((S.1 20) - 1).toNatClampNeg)).toNatClampNeg)) (S.2.1 22 (((S.1 20) - 1).toNatClampNeg)) (S.2.1 23 (((S.1 20) - 1).toNatClampNeg))) ∧ (okL_X2_fall_0 N n (p_X2_asks (msI S 27 0) (S.2.1 8 ((S.2.1 21 (((S.1 20) - 1).toNatClampNeg)).toNatClampNeg)) (S.2.1 22 (((S.1 20) - 1).toNatClampNeg)) (S.2.1 23 (((S.1 20) - 1).toNatClampNeg))))))))))))) ∧ (¬ (S.2.1 24 (((S.1 20) - 1).toNatClampNeg)) = 1 → (okL_X2_fall_0 N n (msI S 20 ((S.1 20) - 1))))))) ∧ (¬ (S.2.1 6 ((S.2.1 21 (((S.1 20) - 1).toNatClampNeg)).toNatClampNeg)) = 8 → (okL_X2_fall_0 N n (msI S 20 ((S.1 20) - 1))))))))))
set_option maxHeartbeats 4000000 in
set_option maxRecDepth 100000 in
theorem cL_X2_fall_0 {l : Launch} {D : va_G} {h : Nat} {ad : Nat → Nat} {cI cJ cZ : ClassId} {p : Program} {e : Env} {s : State} {m : MethodId} {args : Array Value} {below : List Frame} {meth : Method} {c : Code} {A : Nat → Prop} {post : MS → Prop} (hC : CallFix p m c cX2_fall 4 s args wsX2_fall RX2) (hr : meth.sig.returnType = none) (hlk : meth.locks = false) (hK : va_K D vwCl (mTy cI cJ cZ) s) (hA : ∀ q, s.heap.size ≤ q → A q) (N : Nat) :
    ∀ (n : Nat) (S : MS), okL_X2_fall_0 N n S → (∀ u, u = pL_X2_fall_0 N n S → post u) → ∀ (H : Heap) (locs : List Loc), va_P D vwCl (mW h ad cI cJ cZ S) H → va_D A (mW h ad cI cJ cZ S) → va_S A s.heap H locs → ∀ ls : Array Slot, lv_has ls 4 [(0, .ref h)] → W p l e ({ frames := 2, cells := 0, slots := 0, locals := 46 } : Room) s m args below meth c H locs 0 0 (MQ below (va_Qv post (fun u t => wAt D (va_K D vwCl (mTy cI cJ cZ)) A (mW h ad cI cJ cZ u) t) A) args s 0 0 A) (F0 m 0 ls []) := by
  obtain ⟨hx, hb, hml, hown, hts⟩ := id hC
  have hin : ∀ w ∈ wsX20, w ∈ wsX2_fall := fun _ h => List.mem_cons_of_mem _ (List.mem_append_right _ h)
  intro n
  induction n with
  | zero => intro S hok; exact False.elim hok
  | succ n ih =>
    intro S hok hq H locs hP hD hS ls hl
    rw [okL_X2_fall_0] at hok
    refine lv_aload_n hx hb dX2_fall_0 rfl (lv_at hl 0 rfl) ?_
    refine wm_get hC hin hK hP 20 (by decide) rfl (by decide +kernel) (mget_20 _ _) dX2_fall_1 ?_
    refine lv_if_le (tgt := 120) hx hb dX2_fall_4 (by decide) (fun c1 => ?_) (fun c1 => ?_)
    · have hok := hok.1 c1
      exact wx_retv kst_K S hx hb hr hlk hK hP hD hS dX2_fall_120 (hq _ (by rw [pL_X2_fall_0, if_pos c1]))
    · have hok := hok.2 c1
      refine lv_aload_n hx hb dX2_fall_7 rfl (lv_at hl 0 rfl) ?_
      refine wm_get hC hin hK hP 27 (by decide) rfl (by decide +kernel) (mget_27 _ _) dX2_fall_8 ?_
      refine lv_if_eq (tgt := 120) hx hb dX2_fall_11 (by decide) (fun c2 => ?_) (fun c2 => ?_)
      · have hok := hok.1 c2
        exact wx_retv kst_K S hx hb hr hlk hK hP hD hS dX2_fall_120 (hq _ (by rw [pL_X2_fall_0, if_neg c1, if_pos c2]))
      · have hok := hok.2 c2
        refine lv_aload_n hx hb dX2_fall_14 rfl (lv_at hl 0 rfl) ?_
        refine wm_get hC hin hK hP 20 (by decide) rfl (by decide +kernel) (mget_20 _ _) dX2_fall_15 ?_
        refine lv_iconst (v := 1) hx hb dX2_fall_18 (by decide) ?_
        refine lv_isub hx hb dX2_fall_19 ?_
        refine lv_istore_n (lv' := [(1, .int ((S.1 20) - 1)), (0, .ref h)]) hx hb dX2_fall_20 rfl hl (by decide) rfl (fun ls hl => ?_)
        refine lv_aload_n hx hb dX2_fall_21 rfl (lv_at hl 1 rfl) ?_
        refine wm_get hC hin hK hP 21 (by decide) rfl (by decide +kernel) (mget_21 _ _) dX2_fall_22 ?_
        refine lv_iload_n hx hb dX2_fall_25 rfl (lv_at hl 0 rfl) ?_
        obtain ⟨b3, hok⟩ := hok
        refine wm_iald hC hK hP 21 16 (marr_21 _ _ _ _ _ _) b3 dX2_fall_26 ?_
        refine lv_istore_n (lv' := [(2, .int (S.2.1 21 (((S.1 20) - 1).toNatClampNeg))), (1, .int ((S.1 20) - 1)), (0, .ref h)]) hx hb dX2_fall_27 rfl hl (by decide) rfl (fun ls hl => ?_)
        refine lv_aload_n hx hb dX2_fall_28 rfl (lv_at hl 2 rfl) ?_
        refine wm_get hC hin hK hP 6 (by decide) rfl (by decide +kernel) (mget_6 _ _) dX2_fall_29 ?_
        refine lv_iload_n hx hb dX2_fall_32 rfl (lv_at hl 0 rfl) ?_
        obtain ⟨b4, hok⟩ := hok
        refine wm_iald hC hK hP 6 5 (marr_6 _ _ _ _ _ _) b4 dX2_fall_33 ?_
        refine lv_bipush (v := 8) hx hb dX2_fall_34 (by decide) ?_
        refine lv_icmp_ne (tgt := 71) hx hb dX2_fall_36 (by decide) (fun c5 => ?_) (fun c5 => ?_)
        · have hok := hok.2 c5
          refine lv_iconst (v := 0) hx hb dX2_fall_71 (by decide) ?_
          refine lv_istore_n (lv' := [(3, .int 0), (2, .int (S.2.1 21 (((S.1 20) - 1).toNatClampNeg))), (1, .int ((S.1 20) - 1)), (0, .ref h)]) hx hb dX2_fall_72 rfl hl (by decide) rfl (fun ls hl => ?_)
          refine lv_iload_n hx hb dX2_fall_73 rfl (lv_at hl 0 rfl) ?_
          refine lv_if_eq (tgt := 107) hx hb dX2_fall_74 (by decide) (fun _ => ?_) (fun c => absurd (by decide) c)
          refine lv_aload_n hx hb dX2_fall_107 rfl (lv_at hl 3 rfl) ?_
          refine lv_dup hx hb dX2_fall_108 rfl ?_
          refine wm_get hC hin hK hP 20 (by decide) rfl (by decide +kernel) (mget_20 _ _) dX2_fall_109 ?_
          refine lv_iconst (v := 1) hx hb dX2_fall_112 (by decide) ?_
          refine lv_isub hx hb dX2_fall_113 ?_
          refine wm_putI hC hin hK hP hD hS 20 (by decide) rfl (by decide +kernel) rfl (by decide +kernel) (mset_20 _ _ _) dX2_fall_114 (fun H locs hP hD hS => ?_)
          refine lv_goto (tgt := 0) hx hb dX2_fall_117 (by decide) ?_
          exact ih (msI S 20 ((S.1 20) - 1)) hok (fun u hru => hq u (hru.trans (by rw [pL_X2_fall_0, if_neg c1, if_neg c2, if_neg c5]))) _ _ hP hD hS ls (lv_sub hl [3] rfl)
        · have hok := hok.1 c5
          refine lv_aload_n hx hb dX2_fall_39 rfl (lv_at hl 2 rfl) ?_
          refine wm_get hC hin hK hP 24 (by decide) rfl (by decide +kernel) (mget_24 _ _) dX2_fall_40 ?_
          refine lv_iload_n hx hb dX2_fall_43 rfl (lv_at hl 1 rfl) ?_
          obtain ⟨b7, hok⟩ := hok
          refine wm_iald hC hK hP 24 19 (marr_24 _ _ _ _ _ _) b7 dX2_fall_44 ?_
          refine lv_iconst (v := 1) hx hb dX2_fall_45 (by decide) ?_
          refine lv_icmp_ne (tgt := 71) hx hb dX2_fall_46 (by decide) (fun c8 => ?_) (fun c8 => ?_)
          · have hok := hok.2 c8
            refine lv_iconst (v := 0) hx hb dX2_fall_71 (by decide) ?_
            refine lv_istore_n (lv' := [(3, .int 0), (2, .int (S.2.1 21 (((S.1 20) - 1).toNatClampNeg))), (1, .int ((S.1 20) - 1)), (0, .ref h)]) hx hb dX2_fall_72 rfl hl (by decide) rfl (fun ls hl => ?_)
            refine lv_iload_n hx hb dX2_fall_73 rfl (lv_at hl 0 rfl) ?_
            refine lv_if_eq (tgt := 107) hx hb dX2_fall_74 (by decide) (fun _ => ?_) (fun c => absurd (by decide) c)
            refine lv_aload_n hx hb dX2_fall_107 rfl (lv_at hl 3 rfl) ?_
            refine lv_dup hx hb dX2_fall_108 rfl ?_
            refine wm_get hC hin hK hP 20 (by decide) rfl (by decide +kernel) (mget_20 _ _) dX2_fall_109 ?_
            refine lv_iconst (v := 1) hx hb dX2_fall_112 (by decide) ?_
            refine lv_isub hx hb dX2_fall_113 ?_
            refine wm_putI hC hin hK hP hD hS 20 (by decide) rfl (by decide +kernel) rfl (by decide +kernel) (mset_20 _ _ _) dX2_fall_114 (fun H locs hP hD hS => ?_)
            refine lv_goto (tgt := 0) hx hb dX2_fall_117 (by decide) ?_
            exact ih (msI S 20 ((S.1 20) - 1)) hok (fun u hru => hq u (hru.trans (by rw [pL_X2_fall_0, if_neg c1, if_neg c2, if_pos c5, if_neg c8]))) _ _ hP hD hS ls (lv_sub hl [3] rfl)
          · have hok := hok.1 c8
            refine lv_aload_n hx hb dX2_fall_49 rfl (lv_at hl 2 rfl) ?_
            refine wm_get hC hin hK hP 27 (by decide) rfl (by decide +kernel) (mget_27 _ _) dX2_fall_50 ?_
            refine lv_bipush (v := (-6)) hx hb dX2_fall_53 (by decide) ?_
            refine lv_icmp_eq (tgt := 71) hx hb dX2_fall_55 (by decide) (fun c10 => ?_) (fun c10 => ?_)
            · have hok := hok.1 c10
              refine lv_iconst (v := 0) hx hb dX2_fall_71 (by decide) ?_
              refine lv_istore_n (lv' := [(3, .int 0), (2, .int (S.2.1 21 (((S.1 20) - 1).toNatClampNeg))), (1, .int ((S.1 20) - 1)), (0, .ref h)]) hx hb dX2_fall_72 rfl hl (by decide) rfl (fun ls hl => ?_)
              refine lv_iload_n hx hb dX2_fall_73 rfl (lv_at hl 0 rfl) ?_
              refine lv_if_eq (tgt := 107) hx hb dX2_fall_74 (by decide) (fun _ => ?_) (fun c => absurd (by decide) c)
              refine lv_aload_n hx hb dX2_fall_107 rfl (lv_at hl 3 rfl) ?_
              refine lv_dup hx hb dX2_fall_108 rfl ?_
              refine wm_get hC hin hK hP 20 (by decide) rfl (by decide +kernel) (mget_20 _ _) dX2_fall_109 ?_
              refine lv_iconst (v := 1) hx hb dX2_fall_112 (by decide) ?_
              refine lv_isub hx hb dX2_fall_113 ?_
              refine wm_putI hC hin hK hP hD hS 20 (by decide) rfl (by decide +kernel) rfl (by decide +kernel) (mset_20 _ _ _) dX2_fall_114 (fun H locs hP hD hS => ?_)
              refine lv_goto (tgt := 0) hx hb dX2_fall_117 (by decide) ?_
              exact ih (msI S 20 ((S.1 20) - 1)) hok (fun u hru => hq u (hru.trans (by rw [pL_X2_fall_0, if_neg c1, if_neg c2, if_pos c5, if_pos c8, if_pos c10]))) _ _ hP hD hS ls (lv_sub hl [3] rfl)
            · have hok := hok.2 c10
              refine lv_aload_n hx hb dX2_fall_58 rfl (lv_at hl 2 rfl) ?_
              refine wm_get hC hin hK hP 27 (by decide) rfl (by decide +kernel) (mget_27 _ _) dX2_fall_59 ?_
              refine lv_bipush (v := (-7)) hx hb dX2_fall_62 (by decide) ?_
              refine lv_icmp_eq (tgt := 71) hx hb dX2_fall_64 (by decide) (fun c12 => ?_) (fun c12 => ?_)
              · have hok := hok.1 c12
                refine lv_iconst (v := 0) hx hb dX2_fall_71 (by decide) ?_
                refine lv_istore_n (lv' := [(3, .int 0), (2, .int (S.2.1 21 (((S.1 20) - 1).toNatClampNeg))), (1, .int ((S.1 20) - 1)), (0, .ref h)]) hx hb dX2_fall_72 rfl hl (by decide) rfl (fun ls hl => ?_)
                refine lv_iload_n hx hb dX2_fall_73 rfl (lv_at hl 0 rfl) ?_
                refine lv_if_eq (tgt := 107) hx hb dX2_fall_74 (by decide) (fun _ => ?_) (fun c => absurd (by decide) c)
                refine lv_aload_n hx hb dX2_fall_107 rfl (lv_at hl 3 rfl) ?_
                refine lv_dup hx hb dX2_fall_108 rfl ?_
                refine wm_get hC hin hK hP 20 (by decide) rfl (by decide +kernel) (mget_20 _ _) dX2_fall_109 ?_
                refine lv_iconst (v := 1) hx hb dX2_fall_112 (by decide) ?_
                refine lv_isub hx hb dX2_fall_113 ?_
                refine wm_putI hC hin hK hP hD hS 20 (by decide) rfl (by decide +kernel) rfl (by decide +kernel) (mset_20 _ _ _) dX2_fall_114 (fun H locs hP hD hS => ?_)
                refine lv_goto (tgt := 0) hx hb dX2_fall_117 (by decide) ?_
                exact ih (msI S 20 ((S.1 20) - 1)) hok (fun u hru => hq u (hru.trans (by rw [pL_X2_fall_0, if_neg c1, if_neg c2, if_pos c5, if_pos c8, if_neg c10, if_pos c12]))) _ _ hP hD hS ls (lv_sub hl [3] rfl)
              · have hok := hok.2 c12
                refine lv_iconst (v := 1) hx hb dX2_fall_67 (by decide) ?_
                refine lv_goto (tgt := 72) hx hb dX2_fall_68 (by decide) ?_
                refine lv_istore_n (lv' := [(3, .int 1), (2, .int (S.2.1 21 (((S.1 20) - 1).toNatClampNeg))), (1, .int ((S.1 20) - 1)), (0, .ref h)]) hx hb dX2_fall_72 rfl hl (by decide) rfl (fun ls hl => ?_)
                refine lv_iload_n hx hb dX2_fall_73 rfl (lv_at hl 0 rfl) ?_
                refine lv_if_eq (tgt := 107) hx hb dX2_fall_74 (by decide) (fun c => absurd c (by decide)) (fun _ => ?_)
                refine lv_aload_n hx hb dX2_fall_77 rfl (lv_at hl 3 rfl) ?_
                refine lv_iconst (v := 0) hx hb dX2_fall_78 (by decide) ?_
                refine wm_putI hC hin hK hP hD hS 27 (by decide) rfl (by decide +kernel) rfl (by decide +kernel) (mset_27 _ _ _) dX2_fall_79 (fun H locs hP hD hS => ?_)
                refine lv_aload_n hx hb dX2_fall_82 rfl (lv_at hl 3 rfl) ?_
                refine lv_aload_n hx hb dX2_fall_83 rfl (lv_at hl 3 rfl) ?_
                refine wm_get hC hin hK hP 8 (by decide) rfl (by decide +kernel) (mget_8 _ _) dX2_fall_84 ?_
                refine lv_iload_n hx hb dX2_fall_87 rfl (lv_at hl 1 rfl) ?_
                obtain ⟨b15, hok⟩ := hok
                refine wm_iald hC hK hP 8 7 (marr_8 _ _ _ _ _ _) b15 dX2_fall_88 ?_
                refine lv_see (v2 := .int (S.2.1 8 ((S.2.1 21 (((S.1 20) - 1).toNatClampNeg)).toNatClampNeg))) rfl ?_
                refine lv_aload_n hx hb dX2_fall_89 rfl (lv_at hl 3 rfl) ?_
                refine wm_get hC hin hK hP 22 (by decide) rfl (by decide +kernel) (mget_22 _ _) dX2_fall_90 ?_
                refine lv_iload_n hx hb dX2_fall_93 rfl (lv_at hl 2 rfl) ?_
                obtain ⟨b16, hok⟩ := hok
                refine wm_iald hC hK hP 22 17 (marr_22 _ _ _ _ _ _) b16 dX2_fall_94 ?_
                refine lv_see (v2 := .int (S.2.1 22 (((S.1 20) - 1).toNatClampNeg))) rfl ?_
                refine lv_aload_n hx hb dX2_fall_95 rfl (lv_at hl 3 rfl) ?_
                refine wm_get hC hin hK hP 23 (by decide) rfl (by decide +kernel) (mget_23 _ _) dX2_fall_96 ?_
                refine lv_iload_n hx hb dX2_fall_99 rfl (lv_at hl 2 rfl) ?_
                obtain ⟨b17, hok⟩ := hok
                refine wm_iald hC hK hP 23 18 (marr_23 _ _ _ _ _ _) b17 dX2_fall_100 ?_
                refine lv_see (v2 := .int (S.2.1 23 (((S.1 20) - 1).toNatClampNeg))) rfl ?_
                obtain ⟨o18, hok⟩ := hok
                refine wx_callVv (As := [.int (S.2.1 8 ((S.2.1 21 (((S.1 20) - 1).toNatClampNeg)).toNatClampNeg)), .int (S.2.1 22 (((S.1 20) - 1).toNatClampNeg)), .int (S.2.1 23 (((S.1 20) - 1).toNatClampNeg))]) (rest := []) kst_K hC (c_X2_asks l D h ad cI cJ cZ (msI S 27 0) (S.2.1 8 ((S.2.1 21 (((S.1 20) - 1).toNatClampNeg)).toNatClampNeg)) (S.2.1 22 (((S.1 20) - 1).toNatClampNeg)) (S.2.1 23 (((S.1 20) - 1).toNatClampNeg)) o18) (cwV 3 hts gX2_fall_X2_asks rfl rfl rfl (by decide +kernel) ⟨Nat.le_of_ble_eq_true rfl, Nat.le_of_ble_eq_true rfl⟩) hK hP hD hS hA (wm_cell hK hP) rfl hl.1 rfl (Nat.le_of_ble_eq_true rfl) dX2_fall_101 ⟨Nat.le_of_ble_eq_true rfl, Nat.le_of_ble_eq_true rfl⟩ (fun u18 H locs hw hP hD hS => ?_)
                obtain rfl : u18 = p_X2_asks (msI S 27 0) (S.2.1 8 ((S.2.1 21 (((S.1 20) - 1).toNatClampNeg)).toNatClampNeg)) (S.2.1 22 (((S.1 20) - 1).toNatClampNeg)) (S.2.1 23 (((S.1 20) - 1).toNatClampNeg)) := hw
                refine lv_goto (tgt := 117) hx hb dX2_fall_104 (by decide) ?_
                refine lv_goto (tgt := 0) hx hb dX2_fall_117 (by decide) ?_
                exact ih (p_X2_asks (msI S 27 0) (S.2.1 8 ((S.2.1 21 (((S.1 20) - 1).toNatClampNeg)).toNatClampNeg)) (S.2.1 22 (((S.1 20) - 1).toNatClampNeg)) (S.2.1 23 (((S.1 20) - 1).toNatClampNeg))) hok (fun u hru => hq u (hru.trans (by rw [pL_X2_fall_0, if_neg c1, if_neg c2, if_pos c5, if_pos c8, if_neg c10, if_neg c12]))) _ _ hP hD hS ls (lv_sub hl [3] rfl)
def p_X2_fall (N : Nat) (S : MS)  : MS := pL_X2_fall_0 N N S
def ok_X2_fall (N : Nat) (S : MS)  : Prop := okL_X2_fall_0 N N S
set_option maxHeartbeats 4000000 in
set_option maxRecDepth 100000 in
theorem c_X2_fall (l : Launch) (D : va_G) (h : Nat) (ad : Nat → Nat) (cI cJ cZ : ClassId) (N : Nat) (S : MS)  (hok : ok_X2_fall N S ) : MetV l yX2_fall wsX2_fall ({ frames := 2, cells := 0, slots := 0, locals := 46 } : Room) D (va_K D vwCl (mTy cI cJ cZ)) (mW h ad cI cJ cZ) S [.ref h] (fun u => u = p_X2_fall N S ) 0 0 := by
  unfold ok_X2_fall at hok
  refine MetV.of (cc := cX2_fall) (maxL := 4) (by decide) rfl (Nat.le_of_ble_eq_true rfl) ?_
  intro p e s m below meth c A ls hC hr hlk hnm hK hP hD hA hl
  obtain ⟨hx, hb, hml, hown, hts⟩ := id hC
  have hS : va_S A s.heap s.heap [] := va_S.rf
  have hin : ∀ w ∈ wsX20, w ∈ wsX2_fall := fun _ h => List.mem_cons_of_mem _ (List.mem_append_right _ h)
  have hl : lv_has ls 4 [(0, .ref h)] := hl
  exact cL_X2_fall_0 hC hr hlk hK hA N N S hok (fun u hru => hru.trans (by unfold p_X2_fall; rfl)) _ _ hP hD hS ls (lv_sub hl [0] rfl)
def pL_X2_ask_70 (N : Nat) : Nat → MS → Int32 → Int32 → Int32 → Int64 × MS
  | 0, S, _, _, _ => (0, S)
  | n + 1, S, x1, x2, x3 => if (S.1 20) ≤ 0 then (if (S.1 27) = 0 then (S.2.2.2, S) else (0, msI (msI S 17 (S.1 27)) 19 ((S.1 19) + 1))) else (if ((p_X2_go S).1 27) = 0 then (pL_X2_ask_70 N n (p_X2_go S) x1 x2 x3) else (pL_X2_ask_70 N n (p_X2_fall N (p_X2_go S)) x1 x2 x3))
def okL_X2_ask_70 (N : Nat) : Nat → MS → Int32 → Int32 → Int32 → Prop
  | 0, _, _, _, _ => False
  | n + 1, S, x1, x2, x3 => ((S.1 20) ≤ 0 → (((S.1 27) = 0 → True) ∧ (¬ (S.1 27) = 0 → True))) ∧ (¬ (S.1 20) ≤ 0 → ((ok_X2_go S) ∧ ((((p_X2_go S).1 27) = 0 → (okL_X2_ask_70 N n (p_X2_go S) x1 x2 x3)) ∧ (¬ ((p_X2_go S).1 27) = 0 → ((ok_X2_fall N (p_X2_go S)) ∧ (okL_X2_ask_70 N n (p_X2_fall N (p_X2_go S)) x1 x2 x3))))))
set_option maxHeartbeats 4000000 in
set_option maxRecDepth 100000 in
theorem cL_X2_ask_70 {l : Launch} {D : va_G} {h : Nat} {ad : Nat → Nat} {cI cJ cZ : ClassId} {p : Program} {e : Env} {s : State} {m : MethodId} {args : Array Value} {below : List Frame} {meth : Method} {c : Code} {A : Nat → Prop} {post : Int64 → MS → Prop} (hC : CallFix p m c cX2_ask 4 s args wsX2_ask RX2) (hr : meth.sig.returnType = some .long) (hlk : meth.locks = false) (hK : va_K D vwCl (mTy cI cJ cZ) s) (hA : ∀ q, s.heap.size ≤ q → A q) (N : Nat) :
    ∀ (n : Nat) (S : MS) (x1 : Int32) (x2 : Int32) (x3 : Int32), okL_X2_ask_70 N n S x1 x2 x3 → (∀ r u, (r, u) = pL_X2_ask_70 N n S x1 x2 x3 → post r u) → ∀ (H : Heap) (locs : List Loc), va_P D vwCl (mW h ad cI cJ cZ S) H → va_D A (mW h ad cI cJ cZ S) → va_S A s.heap H locs → ∀ ls : Array Slot, lv_has ls 4 [(0, .ref h), (1, .int x1), (2, .int x2), (3, .int x3)] → W p l e ({ frames := 5, cells := 0, slots := 0, locals := 128 } : Room) s m args below meth c H locs 0 0 (MQ below (va_Ql post (fun u t => wAt D (va_K D vwCl (mTy cI cJ cZ)) A (mW h ad cI cJ cZ u) t) A) args s 0 0 A) (F0 m 70 ls []) := by
  obtain ⟨hx, hb, hml, hown, hts⟩ := id hC
  have hin : ∀ w ∈ wsX20, w ∈ wsX2_ask := fun _ h => List.mem_cons_of_mem _ (List.mem_append_right _ h)
  intro n
  induction n with
  | zero => intro S x1 x2 x3 hok; exact False.elim hok
  | succ n ih =>
    intro S x1 x2 x3 hok hq H locs hP hD hS ls hl
    rw [okL_X2_ask_70] at hok
    refine lv_aload_n hx hb dX2_ask_70 rfl (lv_at hl 0 rfl) ?_
    refine wm_get hC hin hK hP 20 (by decide) rfl (by decide +kernel) (mget_20 _ _) dX2_ask_71 ?_
    refine lv_if_le (tgt := 95) hx hb dX2_ask_74 (by decide) (fun c10 => ?_) (fun c10 => ?_)
    · have hok := hok.1 c10
      refine lv_aload_n hx hb dX2_ask_95 rfl (lv_at hl 0 rfl) ?_
      refine wm_get hC hin hK hP 27 (by decide) rfl (by decide +kernel) (mget_27 _ _) dX2_ask_96 ?_
      refine lv_if_eq (tgt := 122) hx hb dX2_ask_99 (by decide) (fun c11 => ?_) (fun c11 => ?_)
      · have hok := hok.1 c11
        refine lv_aload_n hx hb dX2_ask_122 rfl (lv_at hl 0 rfl) ?_
        refine wm_get hC hin hK hP 26 (by decide) rfl (by decide +kernel) (mget_26 _ _) dX2_ask_123 ?_
        exact wx_retj kst_K S hx hb hr hlk hK hP hD hS dX2_ask_126 (hq _ _ (by rw [pL_X2_ask_70, if_pos c10, if_pos c11]))
      · have hok := hok.2 c11
        refine lv_aload_n hx hb dX2_ask_102 rfl (lv_at hl 0 rfl) ?_
        refine lv_aload_n hx hb dX2_ask_103 rfl (lv_at hl 0 rfl) ?_
        refine wm_get hC hin hK hP 27 (by decide) rfl (by decide +kernel) (mget_27 _ _) dX2_ask_104 ?_
        refine wm_putI hC hin hK hP hD hS 17 (by decide) rfl (by decide +kernel) rfl (by decide +kernel) (mset_17 _ _ _) dX2_ask_107 (fun H locs hP hD hS => ?_)
        refine lv_aload_n hx hb dX2_ask_110 rfl (lv_at hl 0 rfl) ?_
        refine lv_dup hx hb dX2_ask_111 rfl ?_
        refine wm_get hC hin hK hP 19 (by decide) rfl (by decide +kernel) (mget_19 _ _) dX2_ask_112 ?_
        refine lv_see (v2 := .int (S.1 19)) rfl ?_
        refine lv_iconst (v := 1) hx hb dX2_ask_115 (by decide) ?_
        refine lv_iadd hx hb dX2_ask_116 ?_
        refine wm_putI hC hin hK hP hD hS 19 (by decide) rfl (by decide +kernel) rfl (by decide +kernel) (mset_19 _ _ _) dX2_ask_117 (fun H locs hP hD hS => ?_)
        refine lv_lconst (v := 0) hx hb dX2_ask_120 (by decide) ?_
        exact wx_retj kst_K (msI (msI S 17 (S.1 27)) 19 ((S.1 19) + 1)) hx hb hr hlk hK hP hD hS dX2_ask_121 (hq _ _ (by rw [pL_X2_ask_70, if_pos c10, if_neg c11]))
    · have hok := hok.2 c10
      refine lv_aload_n hx hb dX2_ask_77 rfl (lv_at hl 0 rfl) ?_
      obtain ⟨o12, hok⟩ := hok
      refine wx_callVv (As := []) (rest := []) kst_K hC (c_X2_go l D h ad cI cJ cZ S o12) (cwV 0 hts gX2_ask_X2_go rfl rfl rfl (by decide +kernel) ⟨Nat.le_of_ble_eq_true rfl, Nat.le_of_ble_eq_true rfl⟩) hK hP hD hS hA (wm_cell hK hP) rfl hl.1 rfl (Nat.le_of_ble_eq_true rfl) dX2_ask_78 ⟨Nat.le_of_ble_eq_true rfl, Nat.le_of_ble_eq_true rfl⟩ (fun u12 H locs hw hP hD hS => ?_)
      obtain rfl : u12 = p_X2_go S := hw
      refine lv_aload_n hx hb dX2_ask_81 rfl (lv_at hl 0 rfl) ?_
      refine wm_get hC hin hK hP 27 (by decide) rfl (by decide +kernel) (mget_27 _ _) dX2_ask_82 ?_
      refine lv_if_eq (tgt := 70) hx hb dX2_ask_85 (by decide) (fun c13 => ?_) (fun c13 => ?_)
      · have hok := hok.1 c13
        exact ih (p_X2_go S) x1 x2 x3 hok (fun r u hru => hq r u (hru.trans (by rw [pL_X2_ask_70, if_neg c10, if_pos c13]))) _ _ hP hD hS ls (lv_sub hl [0, 1, 2, 3] rfl)
      · have hok := hok.2 c13
        refine lv_aload_n hx hb dX2_ask_88 rfl (lv_at hl 0 rfl) ?_
        obtain ⟨o14, hok⟩ := hok
        refine wx_callVv (As := []) (rest := []) kst_K hC (c_X2_fall l D h ad cI cJ cZ N (p_X2_go S) o14) (cwV 0 hts gX2_ask_X2_fall rfl rfl rfl (by decide +kernel) ⟨Nat.le_of_ble_eq_true rfl, Nat.le_of_ble_eq_true rfl⟩) hK hP hD hS hA (wm_cell hK hP) rfl hl.1 rfl (Nat.le_of_ble_eq_true rfl) dX2_ask_89 ⟨Nat.le_of_ble_eq_true rfl, Nat.le_of_ble_eq_true rfl⟩ (fun u14 H locs hw hP hD hS => ?_)
        obtain rfl : u14 = p_X2_fall N (p_X2_go S) := hw
        refine lv_goto (tgt := 70) hx hb dX2_ask_92 (by decide) ?_
        exact ih (p_X2_fall N (p_X2_go S)) x1 x2 x3 hok (fun r u hru => hq r u (hru.trans (by rw [pL_X2_ask_70, if_neg c10, if_neg c13]))) _ _ hP hD hS ls (lv_sub hl [0, 1, 2, 3] rfl)
def p_X2_ask (N : Nat) (S : MS) (a1 : Int32) (a2 : Int32) (a3 : Int32) : Int64 × MS := if (p_X2_isPlace a1) = 0 then (0, msI (msI S 18 0) 17 (-1)) else (if (S.2.1 16 a1.toNatClampNeg) = 0 then (0, msI (msI S 18 0) 17 (-2)) else (pL_X2_ask_70 N N (p_X2_begin (msG (msI (msI (msI (msI S 18 0) 17 0) 20 0) 27 0) 0) (p_X2_at (msG (msI (msI (msI (msI S 18 0) 17 0) 20 0) 27 0) 0) a1) a2 a3) a1 a2 a3))
def ok_X2_ask (N : Nat) (S : MS) (a1 : Int32) (a2 : Int32) (a3 : Int32) : Prop := ((p_X2_isPlace a1) = 0 → True) ∧ (¬ (p_X2_isPlace a1) = 0 → ((vp_in a1 16) ∧ (((S.2.1 16 a1.toNatClampNeg) = 0 → True) ∧ (¬ (S.2.1 16 a1.toNatClampNeg) = 0 → ((ok_X2_at (msG (msI (msI (msI (msI S 18 0) 17 0) 20 0) 27 0) 0) a1) ∧ ((ok_X2_begin (msG (msI (msI (msI (msI S 18 0) 17 0) 20 0) 27 0) 0) (p_X2_at (msG (msI (msI (msI (msI S 18 0) 17 0) 20 0) 27 0) 0) a1) a2 a3) ∧ (okL_X2_ask_70 N N (p_X2_begin (msG (msI (msI (msI (msI S 18 0) 17 0) 20 0) 27 0) 0) (p_X2_at (msG (msI (msI (msI (msI S 18 0) 17 0) 20 0) 27 0) 0) a1) a2 a3) a1 a2 a3)))))))
set_option maxHeartbeats 4000000 in
set_option maxRecDepth 100000 in
theorem c_X2_ask (l : Launch) (D : va_G) (h : Nat) (ad : Nat → Nat) (cI cJ cZ : ClassId) (N : Nat) (S : MS) (a1 : Int32) (a2 : Int32) (a3 : Int32) (hok : ok_X2_ask N S a1 a2 a3) : MetJ l yX2_ask wsX2_ask ({ frames := 5, cells := 0, slots := 0, locals := 128 } : Room) D (va_K D vwCl (mTy cI cJ cZ)) (mW h ad cI cJ cZ) S [.ref h, .int a1, .int a2, .int a3] (fun r u => (r, u) = p_X2_ask N S a1 a2 a3) 0 0 := by
  unfold ok_X2_ask at hok
  refine MetJ.of (cc := cX2_ask) (maxL := 4) (by decide) rfl (Nat.le_of_ble_eq_true rfl) ?_
  intro p e s m below meth c A ls hC hr hlk hnm hK hP hD hA hl
  obtain ⟨hx, hb, hml, hown, hts⟩ := id hC
  have hS : va_S A s.heap s.heap [] := va_S.rf
  have hin : ∀ w ∈ wsX20, w ∈ wsX2_ask := fun _ h => List.mem_cons_of_mem _ (List.mem_append_right _ h)
  have hl : lv_has ls 4 [(0, .ref h), (1, .int a1), (2, .int a2), (3, .int a3)] := hl
  refine lv_aload_n hx hb dX2_ask_0 rfl (lv_at hl 0 rfl) ?_
  refine lv_iconst (v := 0) hx hb dX2_ask_1 (by decide) ?_
  refine wm_putI hC hin hK hP hD hS 18 (by decide) rfl (by decide +kernel) rfl (by decide +kernel) (mset_18 _ _ _) dX2_ask_2 (fun H locs hP hD hS => ?_)
  refine lv_aload_n hx hb dX2_ask_5 rfl (lv_at hl 0 rfl) ?_
  refine lv_iload_n hx hb dX2_ask_6 rfl (lv_at hl 1 rfl) ?_
  refine wx_callS (As := [.int a1]) (rest := [.ref h]) hC (c_X2_isPlace l a1) (va_cwS 1 hts gX2_ask_X2_isPlace rfl rfl rfl (by decide +kernel) ⟨Nat.le_of_ble_eq_true rfl, Nat.le_of_ble_eq_true rfl⟩) rfl hl.1 rfl (Nat.le_of_ble_eq_true rfl) dX2_ask_7 ⟨Nat.le_of_ble_eq_true rfl, Nat.le_of_ble_eq_true rfl⟩ (fun r1 hw => ?_)
  obtain rfl : r1 = p_X2_isPlace a1 := hw
  refine lv_if_ne (tgt := 17) hx hb dX2_ask_10 (by decide) (fun c2 => ?_) (fun c2 => ?_)
  · have hok := hok.2 c2
    refine lv_aload_n hx hb dX2_ask_17 rfl (lv_at hl 0 rfl) ?_
    refine wm_get hC hin hK hP 16 (by decide) rfl (by decide +kernel) (mget_16 _ _) dX2_ask_18 ?_
    refine lv_iload_n hx hb dX2_ask_21 rfl (lv_at hl 1 rfl) ?_
    obtain ⟨b3, hok⟩ := hok
    refine wm_iald hC hK hP 16 15 (marr_16 _ _ _ _ _ _) b3 dX2_ask_22 ?_
    refine lv_see (v2 := .int (S.2.1 16 a1.toNatClampNeg)) rfl ?_
    refine lv_if_ne (tgt := 31) hx hb dX2_ask_23 (by decide) (fun c4 => ?_) (fun c4 => ?_)
    · have hok := hok.2 c4
      refine lv_iconst (v := 0) hx hb dX2_ask_31 (by decide) ?_
      refine wm_putI hC hin hK hP hD hS 17 (by decide) rfl (by decide +kernel) rfl (by decide +kernel) (mset_17 _ _ _) dX2_ask_32 (fun H locs hP hD hS => ?_)
      refine lv_aload_n hx hb dX2_ask_35 rfl (lv_at hl 0 rfl) ?_
      refine wm_get hC hin hK hP 17 (by decide) rfl (by decide +kernel) (mget_17 _ _) dX2_ask_36 ?_
      refine lv_see (v2 := .int 0) rfl ?_
      refine lv_if_ge (tgt := 44) hx hb dX2_ask_39 (by decide) (fun _ => ?_) (fun c => absurd (by decide) c)
      refine lv_aload_n hx hb dX2_ask_44 rfl (lv_at hl 0 rfl) ?_
      refine lv_iconst (v := 0) hx hb dX2_ask_45 (by decide) ?_
      refine wm_putI hC hin hK hP hD hS 20 (by decide) rfl (by decide +kernel) rfl (by decide +kernel) (mset_20 _ _ _) dX2_ask_46 (fun H locs hP hD hS => ?_)
      refine lv_aload_n hx hb dX2_ask_49 rfl (lv_at hl 0 rfl) ?_
      refine lv_iconst (v := 0) hx hb dX2_ask_50 (by decide) ?_
      refine wm_putI hC hin hK hP hD hS 27 (by decide) rfl (by decide +kernel) rfl (by decide +kernel) (mset_27 _ _ _) dX2_ask_51 (fun H locs hP hD hS => ?_)
      refine lv_aload_n hx hb dX2_ask_54 rfl (lv_at hl 0 rfl) ?_
      refine lv_lconst (v := 0) hx hb dX2_ask_55 (by decide) ?_
      refine wm_putJ hC hin hK hP hD hS (by decide +kernel) dX2_ask_56 (fun H locs hP hD hS => ?_)
      refine lv_aload_n hx hb dX2_ask_59 rfl (lv_at hl 0 rfl) ?_
      refine lv_aload_n hx hb dX2_ask_60 rfl (lv_at hl 0 rfl) ?_
      refine lv_iload_n hx hb dX2_ask_61 rfl (lv_at hl 1 rfl) ?_
      obtain ⟨o6, hok⟩ := hok
      refine wx_callVi (As := [.int a1]) (rest := [.ref h]) kst_K hC (c_X2_at l D h ad cI cJ cZ (msG (msI (msI (msI (msI S 18 0) 17 0) 20 0) 27 0) 0) a1 o6) (cwV 1 hts gX2_ask_X2_at rfl rfl rfl (by decide +kernel) ⟨Nat.le_of_ble_eq_true rfl, Nat.le_of_ble_eq_true rfl⟩) hK hP hD hS hA (wm_cell hK hP) rfl hl.1 rfl (Nat.le_of_ble_eq_true rfl) dX2_ask_62 ⟨Nat.le_of_ble_eq_true rfl, Nat.le_of_ble_eq_true rfl⟩ (fun r6 u6 H locs hw hP hD hS => ?_)
      obtain rfl : r6 = p_X2_at (msG (msI (msI (msI (msI S 18 0) 17 0) 20 0) 27 0) 0) a1 := hw.1
      obtain rfl : msG (msI (msI (msI (msI S 18 0) 17 0) 20 0) 27 0) 0 = u6 := hw.2.symm
      refine lv_iload_n hx hb dX2_ask_65 rfl (lv_at hl 2 rfl) ?_
      refine lv_iload_n hx hb dX2_ask_66 rfl (lv_at hl 3 rfl) ?_
      obtain ⟨o7, hok⟩ := hok
      refine wx_callVv (As := [.int (p_X2_at (msG (msI (msI (msI (msI S 18 0) 17 0) 20 0) 27 0) 0) a1), .int a2, .int a3]) (rest := []) kst_K hC (c_X2_begin l D h ad cI cJ cZ (msG (msI (msI (msI (msI S 18 0) 17 0) 20 0) 27 0) 0) (p_X2_at (msG (msI (msI (msI (msI S 18 0) 17 0) 20 0) 27 0) 0) a1) a2 a3 o7) (cwV 3 hts gX2_ask_X2_begin rfl rfl rfl (by decide +kernel) ⟨Nat.le_of_ble_eq_true rfl, Nat.le_of_ble_eq_true rfl⟩) hK hP hD hS hA (wm_cell hK hP) rfl hl.1 rfl (Nat.le_of_ble_eq_true rfl) dX2_ask_67 ⟨Nat.le_of_ble_eq_true rfl, Nat.le_of_ble_eq_true rfl⟩ (fun u7 H locs hw hP hD hS => ?_)
      obtain rfl : u7 = p_X2_begin (msG (msI (msI (msI (msI S 18 0) 17 0) 20 0) 27 0) 0) (p_X2_at (msG (msI (msI (msI (msI S 18 0) 17 0) 20 0) 27 0) 0) a1) a2 a3 := hw
      exact cL_X2_ask_70 hC hr hlk hK hA N N (p_X2_begin (msG (msI (msI (msI (msI S 18 0) 17 0) 20 0) 27 0) 0) (p_X2_at (msG (msI (msI (msI (msI S 18 0) 17 0) 20 0) 27 0) 0) a1) a2 a3) a1 a2 a3 hok (fun r u hru => hru.trans (by unfold p_X2_ask; rw [if_neg c2, if_neg c4])) _ _ hP hD hS ls (lv_sub hl [0, 1, 2, 3] rfl)
    · have hok := hok.1 c4
      refine lv_bipush (v := (-2)) hx hb dX2_ask_26 (by decide) ?_
      refine lv_goto (tgt := 32) hx hb dX2_ask_28 (by decide) ?_
      refine wm_putI hC hin hK hP hD hS 17 (by decide) rfl (by decide +kernel) rfl (by decide +kernel) (mset_17 _ _ _) dX2_ask_32 (fun H locs hP hD hS => ?_)
      refine lv_aload_n hx hb dX2_ask_35 rfl (lv_at hl 0 rfl) ?_
      refine wm_get hC hin hK hP 17 (by decide) rfl (by decide +kernel) (mget_17 _ _) dX2_ask_36 ?_
      refine lv_see (v2 := .int (-2)) rfl ?_
      refine lv_if_ge (tgt := 44) hx hb dX2_ask_39 (by decide) (fun c => absurd c (by decide)) (fun _ => ?_)
      refine lv_lconst (v := 0) hx hb dX2_ask_42 (by decide) ?_
      exact wx_retj kst_K (msI (msI S 18 0) 17 (-2)) hx hb hr hlk hK hP hD hS dX2_ask_43 (by unfold p_X2_ask; rw [if_neg c2, if_pos c4])
  · have hok := hok.1 c2
    refine lv_iconst (v := (-1)) hx hb dX2_ask_13 (by decide) ?_
    refine lv_goto (tgt := 32) hx hb dX2_ask_14 (by decide) ?_
    refine wm_putI hC hin hK hP hD hS 17 (by decide) rfl (by decide +kernel) rfl (by decide +kernel) (mset_17 _ _ _) dX2_ask_32 (fun H locs hP hD hS => ?_)
    refine lv_aload_n hx hb dX2_ask_35 rfl (lv_at hl 0 rfl) ?_
    refine wm_get hC hin hK hP 17 (by decide) rfl (by decide +kernel) (mget_17 _ _) dX2_ask_36 ?_
    refine lv_see (v2 := .int (-1)) rfl ?_
    refine lv_if_ge (tgt := 44) hx hb dX2_ask_39 (by decide) (fun c => absurd c (by decide)) (fun _ => ?_)
    refine lv_lconst (v := 0) hx hb dX2_ask_42 (by decide) ?_
    exact wx_retj kst_K (msI (msI S 18 0) 17 (-1)) hx hb hr hlk hK hP hD hS dX2_ask_43 (by unfold p_X2_ask; rw [if_pos c2])
