/-! THE CLAIM OUT OF ONE WALK OF THE LAW'S BODY. Your part is whole_start (and what it stands on); all else here is the same for every law, but numbers. -/
def R_law : String := "ChargeDeskLaw"
def lw_P (b : Addr) (xs : List Int32) (args : Array Value) (s : State) : Prop := args = #[.ref b] ∧ s.IntsAt b xs ∧ xs.length ≤ 2560 ∧ (Jvm.Cond.and given_1 narrow_1).before args s = true
def lw_Q (_ : Array Value) (s : State) (o : Outcome) (t : State) : Prop := o = .returned (some (.int 1)) ∧ Framed s o t [] 600000 7302250
def lw_Z (below : List Frame) (a : Array Value) (s : State) : State → Prop := fun t => ∃ o, t.status = .running ∧ Ended t below o ∧ lw_Q a s o t
/-- the law's own end, with 1 on the stack, nothing written that was there before, its room as the claim has it -/
theorem lw_ret {p : Program} {l : Launch} {e : Env} {s : State} {m : MethodId} {below : List Frame} {meth : Method} {c : Code} {b : Nat} (hx : p.tables.exec = Jvm.exec) (hb : c.code = code) (hr : meth.sig.returnType = ret) (hlocks : meth.locks = false) {pc : Nat} {H : Heap} {ls : Array Slot} (hdg : decode code pc = .ok (.ireturn, 1)) : W p l e room_1 s m #[Value.ref b] below meth c H [] 600000 7302250 (lw_Z below #[Value.ref b] s) (F0 m pc ls [.int 1]) := by
  intro T hT X
  obtain ⟨fs, hret, hrun, hended, hW, hframe⟩ := X.leave (v := some (.int 1)) (hlocks := hlocks) (fun h => by rw [hr] at h; cases h)
  have hmeth' : T.vm.method? m = some meth := X.method'
  refine ⟨T.setFrames fs, ?_, .returned (some (.int 1)), hrun, hended, rfl, ⟨_, rfl⟩, hW, hframe⟩
  jvm_step X.here [X.here.top, hx, hb, hdg, hmeth', hr, ret, narrow_b1]
  (try refine ⟨rfl, ?_⟩); (try refine ⟨rfl, ?_⟩)
  first | (intro acts; rw [hret _ acts rfl rfl rfl]) | rw [hret _ _ rfl rfl rfl]
  exact Steps.refl _
/-- what holds at the law's entry: the machine, the code, the tables' words (any of lw_tbl by 'hts w (by decide +kernel)'), the script of L ints xs at the cell b, what the Statement gives of the start (any of its parts by flat_of_before) -/
def lw_At (p : Program) (s : State) (m : MethodId) (meth : Method) (c : Code) (b L : Nat) (xs : Nat → Int32) : Prop :=
  p.tables.exec = Jvm.exec ∧ c.code = code ∧ meth.sig.returnType = ret ∧ c.maxLocals = 4 ∧ s.vm.findClass R_law = some m.cls ∧ (∀ w ∈ lw_tbl, w.before #[Value.ref b] s = true) ∧ va_X b L xs s s.heap ∧ b < s.heap.size ∧ meth.locks = false ∧ (Jvm.Cond.and given_1 narrow_1).before #[Value.ref b] s = true
theorem law_ix {L i : Nat} (hL : L ≤ 2560) (hc : ¬ (nI L - 5 < nI (5 * i))) (hi : i ≤ 512) : 5 * i + 5 ≤ L := by
  rcases Nat.lt_or_ge L (5 * i + 5) with h | h
  · exfalso
    apply hc
    rw [Int32.lt_iff_toInt_lt, show (5 : Int32) = nI 5 from rfl, pk_sub_toInt (by omega) (by omega), nI_toInt (by omega)]
    omega
  · exact h
theorem law_in {L i d : Nat} (hL : L ≤ 2560) (h : 5 * i + 5 ≤ L) (hd : d < 5) : vp_in (nI (5 * i) + nI d) L := by
  rw [nI_add]
  exact vp_in_nI (by omega) (by omega)
set_option maxHeartbeats 4000000 in
set_option maxRecDepth 100000 in
theorem law_rate {p : Program} {l : Launch} {e : Env} {s : State} {m : MethodId} {below : List Frame} {meth : Method} {c : Code} {b L : Nat} {xs : Nat → Int32} (hC : CallFix p m c code 4 s #[Value.ref b] wsL_law RL) (hX : va_X b L xs s s.heap) (hbl : b < s.heap.size) (hL : L ≤ 2560) {D : va_G} {x A0 A1 A2 h : Nat} {cI cR cII dI dJ dZ : ClassId} {ad : Nat → Nat} (hKc : cKK D cI cR cII s) (hKm : va_K D vwCl (mTy dI dJ dZ) s) {i : Nat} (hi : i < 512) (h5 : 5 * i + 5 ≤ L) {S : CS} {T : MS} (hsim : SimN i S T) {H : Heap} {locs : List Loc} (hPc : va_P D vwCl (cW x A0 A1 A2 cI cR cII S) H) (hDc : va_D (fun q : Nat => s.heap.size ≤ q) (cW x A0 A1 A2 cI cR cII S)) (hPm : va_P D vwCl (mW h ad dI dJ dZ T) H) (hDm : va_D (fun q : Nat => s.heap.size ≤ q) (mW h ad dI dJ dZ T)) (hdis : wdis (cW x A0 A1 A2 cI cR cII S) (mW h ad dI dJ dZ T)) (hS : va_S (fun q : Nat => s.heap.size ≤ q) s.heap H locs) {ls : Array Slot} (hl : lv_has ls 4 [(0, .ref b), (1, .ref x), (2, .ref h), (3, .int (nI (5 * i)))]) {Q : State → Prop} (tail : ∀ (u1 : CS) (u2 : MS) (H : Heap) (locs : List Loc) (ls : Array Slot) (cells slots : Nat), SimN (i + 1) u1 u2 → va_P D vwCl (cW x A0 A1 A2 cI cR cII u1) H → va_D (fun q : Nat => s.heap.size ≤ q) (cW x A0 A1 A2 cI cR cII u1) → va_P D vwCl (mW h ad dI dJ dZ u2) H → va_D (fun q : Nat => s.heap.size ≤ q) (mW h ad dI dJ dZ u2) → wdis (cW x A0 A1 A2 cI cR cII u1) (mW h ad dI dJ dZ u2) → va_S (fun q : Nat => s.heap.size ≤ q) s.heap H locs → lv_has ls 4 [(0, .ref b), (1, .ref x), (2, .ref h), (3, .int (nI (5 * i)))] → cells ≤ 29 + 4 * (i + 1) → slots ≤ 80011 + 44 * (i + 1) → W p l e room_1 s m #[Value.ref b] below meth c H locs cells slots Q (F0 m 967 ls [])) : W p l e room_1 s m #[Value.ref b] below meth c H locs (29 + 4 * i) (80011 + 44 * i) Q (F0 m 144 ls []) := by
  obtain ⟨hx, hb, hml, hown, hts⟩ := id hC
  have hA : ∀ q : Nat, s.heap.size ≤ q → (fun q : Nat => s.heap.size ≤ q) q := fun _ h => h
  have hbA : ¬ (fun q : Nat => s.heap.size ≤ q) b := Nat.not_le.mpr hbl
  refine lv_aload_n hx hb dL_law_144 rfl (lv_at hl 1 rfl) ?_
  refine lv_aload_n hx hb dL_law_145 rfl (lv_at hl 0 rfl) ?_
  refine lv_iload_n hx hb dL_law_146 rfl (lv_at hl 3 rfl) ?_
  refine lv_iconst (v := 1) hx hb dL_law_147 (by decide) ?_
  refine lv_iadd hx hb dL_law_148 ?_
  refine va_sld hx hb hX hbl hbA hS (law_in hL h5 (d := 1) (by decide)) dL_law_149 ?_
  refine lv_aload_n hx hb dL_law_150 rfl (lv_at hl 0 rfl) ?_
  refine lv_iload_n hx hb dL_law_151 rfl (lv_at hl 3 rfl) ?_
  refine lv_iconst (v := 2) hx hb dL_law_152 (by decide) ?_
  refine lv_iadd hx hb dL_law_153 ?_
  refine va_sld hx hb hX hbl hbA hS (law_in hL h5 (d := 2) (by decide)) dL_law_154 ?_
  refine wz_callVi (As := [.int (xs (nI (5 * i) + 1).toNatClampNeg), .int (xs (nI (5 * i) + 2).toNatClampNeg)]) (rest := []) kst_C hC (c_X1_rate l D x A0 A1 A2 cI cR cII S (xs (nI (5 * i) + 1).toNatClampNeg) (xs (nI (5 * i) + 2).toNatClampNeg) (okc_rate hsim hi (xs (nI (5 * i) + 1).toNatClampNeg) (xs (nI (5 * i) + 2).toNatClampNeg))) (cwV 2 hts gL_law_X1_rate rfl rfl rfl (by decide +kernel) ⟨by decide, by decide⟩) hKc hPc hDc hS hA (wc_cell hKc hPc) hPm hdis rfl hl.1 rfl (Nat.le_of_ble_eq_true rfl) dL_law_155 ⟨by show _ ≤ 600000; omega, by show _ ≤ 7302250; omega⟩ (fun r1 u1 H locs hw1 hPc hDc hPm hdis hS => ?_)
  refine lv_aload_n hx hb dL_law_158 rfl (lv_at hl 2 rfl) ?_
  refine lv_aload_n hx hb dL_law_159 rfl (lv_at hl 0 rfl) ?_
  refine lv_iload_n hx hb dL_law_160 rfl (lv_at hl 3 rfl) ?_
  refine lv_iconst (v := 1) hx hb dL_law_161 (by decide) ?_
  refine lv_iadd hx hb dL_law_162 ?_
  refine va_sld hx hb hX hbl hbA hS (law_in hL h5 (d := 1) (by decide)) dL_law_163 ?_
  refine lv_aload_n hx hb dL_law_164 rfl (lv_at hl 0 rfl) ?_
  refine lv_iload_n hx hb dL_law_165 rfl (lv_at hl 3 rfl) ?_
  refine lv_iconst (v := 2) hx hb dL_law_166 (by decide) ?_
  refine lv_iadd hx hb dL_law_167 ?_
  refine va_sld hx hb hX hbl hbA hS (law_in hL h5 (d := 2) (by decide)) dL_law_168 ?_
  refine wz_callVi (As := [.int (xs (nI (5 * i) + 1).toNatClampNeg), .int (xs (nI (5 * i) + 2).toNatClampNeg)]) (rest := [.int r1]) kst_K hC (c_X2_rate l D h ad dI dJ dZ T (xs (nI (5 * i) + 1).toNatClampNeg) (xs (nI (5 * i) + 2).toNatClampNeg) (okm_rate hsim hi (xs (nI (5 * i) + 1).toNatClampNeg) (xs (nI (5 * i) + 2).toNatClampNeg))) (cwV 2 hts gL_law_X2_rate rfl rfl rfl (by decide +kernel) ⟨by decide, by decide⟩) hKm hPm hDm hS hA (wm_cell hKm hPm) hPc hdis.symm rfl hl.1 rfl (Nat.le_of_ble_eq_true rfl) dL_law_169 ⟨by show _ ≤ 600000; omega, by show _ ≤ 7302250; omega⟩ (fun r2 u2 H locs hw2 hPm hDm hPc hdis hS => ?_)
  have hs := L_rate hsim hi (xs (nI (5 * i) + 1).toNatClampNeg) (xs (nI (5 * i) + 2).toNatClampNeg) hw1 hw2
  refine lv_icmp_eq (tgt := 967) hx hb dL_law_172 (by decide) (fun _ => ?_) (fun c9 => absurd hs.1 c9)
  exact tail u1 u2 H locs ls _ _ hs.2 hPc hDc hPm hDm hdis.symm hS hl (by omega) (by omega)
set_option maxHeartbeats 4000000 in
set_option maxRecDepth 100000 in
theorem law_fresh {p : Program} {l : Launch} {e : Env} {s : State} {m : MethodId} {below : List Frame} {meth : Method} {c : Code} {b L : Nat} {xs : Nat → Int32} (hC : CallFix p m c code 4 s #[Value.ref b] wsL_law RL) (hX : va_X b L xs s s.heap) (hbl : b < s.heap.size) (hL : L ≤ 2560) {D : va_G} {x A0 A1 A2 h : Nat} {cI cR cII dI dJ dZ : ClassId} {ad : Nat → Nat} (hKc : cKK D cI cR cII s) (hKm : va_K D vwCl (mTy dI dJ dZ) s) {i : Nat} (hi : i < 512) (h5 : 5 * i + 5 ≤ L) {S : CS} {T : MS} (hsim : SimN i S T) {H : Heap} {locs : List Loc} (hPc : va_P D vwCl (cW x A0 A1 A2 cI cR cII S) H) (hDc : va_D (fun q : Nat => s.heap.size ≤ q) (cW x A0 A1 A2 cI cR cII S)) (hPm : va_P D vwCl (mW h ad dI dJ dZ T) H) (hDm : va_D (fun q : Nat => s.heap.size ≤ q) (mW h ad dI dJ dZ T)) (hdis : wdis (cW x A0 A1 A2 cI cR cII S) (mW h ad dI dJ dZ T)) (hS : va_S (fun q : Nat => s.heap.size ≤ q) s.heap H locs) {ls : Array Slot} (hl : lv_has ls 4 [(0, .ref b), (1, .ref x), (2, .ref h), (3, .int (nI (5 * i)))]) {Q : State → Prop} (tail : ∀ (u1 : CS) (u2 : MS) (H : Heap) (locs : List Loc) (ls : Array Slot) (cells slots : Nat), SimN (i + 1) u1 u2 → va_P D vwCl (cW x A0 A1 A2 cI cR cII u1) H → va_D (fun q : Nat => s.heap.size ≤ q) (cW x A0 A1 A2 cI cR cII u1) → va_P D vwCl (mW h ad dI dJ dZ u2) H → va_D (fun q : Nat => s.heap.size ≤ q) (mW h ad dI dJ dZ u2) → wdis (cW x A0 A1 A2 cI cR cII u1) (mW h ad dI dJ dZ u2) → va_S (fun q : Nat => s.heap.size ≤ q) s.heap H locs → lv_has ls 4 [(0, .ref b), (1, .ref x), (2, .ref h), (3, .int (nI (5 * i)))] → cells ≤ 29 + 4 * (i + 1) → slots ≤ 80011 + 44 * (i + 1) → W p l e room_1 s m #[Value.ref b] below meth c H locs cells slots Q (F0 m 967 ls [])) : W p l e room_1 s m #[Value.ref b] below meth c H locs (29 + 4 * i) (80011 + 44 * i) Q (F0 m 177 ls []) := by
  obtain ⟨hx, hb, hml, hown, hts⟩ := id hC
  have hA : ∀ q : Nat, s.heap.size ≤ q → (fun q : Nat => s.heap.size ≤ q) q := fun _ h => h
  have hbA : ¬ (fun q : Nat => s.heap.size ≤ q) b := Nat.not_le.mpr hbl
  obtain ⟨N2, hN2, hL2⟩ := M_fresh hsim hi (xs (nI (5 * i) + 1).toNatClampNeg) (xs (nI (5 * i) + 2).toNatClampNeg)
  refine lv_aload_n hx hb dL_law_177 rfl (lv_at hl 1 rfl) ?_
  refine lv_aload_n hx hb dL_law_178 rfl (lv_at hl 0 rfl) ?_
  refine lv_iload_n hx hb dL_law_179 rfl (lv_at hl 3 rfl) ?_
  refine lv_iconst (v := 1) hx hb dL_law_180 (by decide) ?_
  refine lv_iadd hx hb dL_law_181 ?_
  refine va_sld hx hb hX hbl hbA hS (law_in hL h5 (d := 1) (by decide)) dL_law_182 ?_
  refine lv_aload_n hx hb dL_law_183 rfl (lv_at hl 0 rfl) ?_
  refine lv_iload_n hx hb dL_law_184 rfl (lv_at hl 3 rfl) ?_
  refine lv_iconst (v := 2) hx hb dL_law_185 (by decide) ?_
  refine lv_iadd hx hb dL_law_186 ?_
  refine va_sld hx hb hX hbl hbA hS (law_in hL h5 (d := 2) (by decide)) dL_law_187 ?_
  refine wz_callVi (As := [.int (xs (nI (5 * i) + 1).toNatClampNeg), .int (xs (nI (5 * i) + 2).toNatClampNeg)]) (rest := []) kst_C hC (c_X1_fresh l D x A0 A1 A2 cI cR cII S (xs (nI (5 * i) + 1).toNatClampNeg) (xs (nI (5 * i) + 2).toNatClampNeg) (okc_fresh hsim hi (xs (nI (5 * i) + 1).toNatClampNeg) (xs (nI (5 * i) + 2).toNatClampNeg))) (cwV 2 hts gL_law_X1_fresh rfl rfl rfl (by decide +kernel) ⟨by decide, by decide⟩) hKc hPc hDc hS hA (wc_cell hKc hPc) hPm hdis rfl hl.1 rfl (Nat.le_of_ble_eq_true rfl) dL_law_188 ⟨by show _ ≤ 600000; omega, by show _ ≤ 7302250; omega⟩ (fun r1 u1 H locs hw1 hPc hDc hPm hdis hS => ?_)
  refine lv_aload_n hx hb dL_law_191 rfl (lv_at hl 2 rfl) ?_
  refine lv_aload_n hx hb dL_law_192 rfl (lv_at hl 0 rfl) ?_
  refine lv_iload_n hx hb dL_law_193 rfl (lv_at hl 3 rfl) ?_
  refine lv_iconst (v := 1) hx hb dL_law_194 (by decide) ?_
  refine lv_iadd hx hb dL_law_195 ?_
  refine va_sld hx hb hX hbl hbA hS (law_in hL h5 (d := 1) (by decide)) dL_law_196 ?_
  refine lv_aload_n hx hb dL_law_197 rfl (lv_at hl 0 rfl) ?_
  refine lv_iload_n hx hb dL_law_198 rfl (lv_at hl 3 rfl) ?_
  refine lv_iconst (v := 2) hx hb dL_law_199 (by decide) ?_
  refine lv_iadd hx hb dL_law_200 ?_
  refine va_sld hx hb hX hbl hbA hS (law_in hL h5 (d := 2) (by decide)) dL_law_201 ?_
  refine wz_callVi (As := [.int (xs (nI (5 * i) + 1).toNatClampNeg), .int (xs (nI (5 * i) + 2).toNatClampNeg)]) (rest := [.int r1]) kst_K hC (c_X2_fresh l D h ad dI dJ dZ N2 T (xs (nI (5 * i) + 1).toNatClampNeg) (xs (nI (5 * i) + 2).toNatClampNeg) hN2) (cwV 2 hts gL_law_X2_fresh rfl rfl rfl (by decide +kernel) ⟨by decide, by decide⟩) hKm hPm hDm hS hA (wm_cell hKm hPm) hPc hdis.symm rfl hl.1 rfl (Nat.le_of_ble_eq_true rfl) dL_law_202 ⟨by show _ ≤ 600000; omega, by show _ ≤ 7302250; omega⟩ (fun r2 u2 H locs hw2 hPm hDm hPc hdis hS => ?_)
  have hs := hL2 hw1 hw2
  refine lv_icmp_eq (tgt := 967) hx hb dL_law_205 (by decide) (fun _ => ?_) (fun c9 => absurd hs.1 c9)
  exact tail u1 u2 H locs ls _ _ hs.2 hPc hDc hPm hDm hdis.symm hS hl (by omega) (by omega)
set_option maxHeartbeats 4000000 in
set_option maxRecDepth 100000 in
theorem law_book {p : Program} {l : Launch} {e : Env} {s : State} {m : MethodId} {below : List Frame} {meth : Method} {c : Code} {b L : Nat} {xs : Nat → Int32} (hC : CallFix p m c code 4 s #[Value.ref b] wsL_law RL) (hX : va_X b L xs s s.heap) (hbl : b < s.heap.size) (hL : L ≤ 2560) {D : va_G} {x A0 A1 A2 h : Nat} {cI cR cII dI dJ dZ : ClassId} {ad : Nat → Nat} (hKc : cKK D cI cR cII s) (hKm : va_K D vwCl (mTy dI dJ dZ) s) {i : Nat} (hi : i < 512) (h5 : 5 * i + 5 ≤ L) {S : CS} {T : MS} (hsim : SimN i S T) {H : Heap} {locs : List Loc} (hPc : va_P D vwCl (cW x A0 A1 A2 cI cR cII S) H) (hDc : va_D (fun q : Nat => s.heap.size ≤ q) (cW x A0 A1 A2 cI cR cII S)) (hPm : va_P D vwCl (mW h ad dI dJ dZ T) H) (hDm : va_D (fun q : Nat => s.heap.size ≤ q) (mW h ad dI dJ dZ T)) (hdis : wdis (cW x A0 A1 A2 cI cR cII S) (mW h ad dI dJ dZ T)) (hS : va_S (fun q : Nat => s.heap.size ≤ q) s.heap H locs) {ls : Array Slot} (hl : lv_has ls 4 [(0, .ref b), (1, .ref x), (2, .ref h), (3, .int (nI (5 * i)))]) {Q : State → Prop} (tail : ∀ (u1 : CS) (u2 : MS) (H : Heap) (locs : List Loc) (ls : Array Slot) (cells slots : Nat), SimN (i + 1) u1 u2 → va_P D vwCl (cW x A0 A1 A2 cI cR cII u1) H → va_D (fun q : Nat => s.heap.size ≤ q) (cW x A0 A1 A2 cI cR cII u1) → va_P D vwCl (mW h ad dI dJ dZ u2) H → va_D (fun q : Nat => s.heap.size ≤ q) (mW h ad dI dJ dZ u2) → wdis (cW x A0 A1 A2 cI cR cII u1) (mW h ad dI dJ dZ u2) → va_S (fun q : Nat => s.heap.size ≤ q) s.heap H locs → lv_has ls 4 [(0, .ref b), (1, .ref x), (2, .ref h), (3, .int (nI (5 * i)))] → cells ≤ 29 + 4 * (i + 1) → slots ≤ 80011 + 44 * (i + 1) → W p l e room_1 s m #[Value.ref b] below meth c H locs cells slots Q (F0 m 967 ls [])) : W p l e room_1 s m #[Value.ref b] below meth c H locs (29 + 4 * i) (80011 + 44 * i) Q (F0 m 210 ls []) := by
  obtain ⟨hx, hb, hml, hown, hts⟩ := id hC
  have hA : ∀ q : Nat, s.heap.size ≤ q → (fun q : Nat => s.heap.size ≤ q) q := fun _ h => h
  have hbA : ¬ (fun q : Nat => s.heap.size ≤ q) b := Nat.not_le.mpr hbl
  refine lv_aload_n hx hb dL_law_210 rfl (lv_at hl 1 rfl) ?_
  refine lv_aload_n hx hb dL_law_211 rfl (lv_at hl 0 rfl) ?_
  refine lv_iload_n hx hb dL_law_212 rfl (lv_at hl 3 rfl) ?_
  refine lv_iconst (v := 1) hx hb dL_law_213 (by decide) ?_
  refine lv_iadd hx hb dL_law_214 ?_
  refine va_sld hx hb hX hbl hbA hS (law_in hL h5 (d := 1) (by decide)) dL_law_215 ?_
  refine lv_aload_n hx hb dL_law_216 rfl (lv_at hl 0 rfl) ?_
  refine lv_iload_n hx hb dL_law_217 rfl (lv_at hl 3 rfl) ?_
  refine lv_iconst (v := 2) hx hb dL_law_218 (by decide) ?_
  refine lv_iadd hx hb dL_law_219 ?_
  refine va_sld hx hb hX hbl hbA hS (law_in hL h5 (d := 2) (by decide)) dL_law_220 ?_
  refine lv_aload_n hx hb dL_law_221 rfl (lv_at hl 0 rfl) ?_
  refine lv_iload_n hx hb dL_law_222 rfl (lv_at hl 3 rfl) ?_
  refine lv_iconst (v := 3) hx hb dL_law_223 (by decide) ?_
  refine lv_iadd hx hb dL_law_224 ?_
  refine va_sld hx hb hX hbl hbA hS (law_in hL h5 (d := 3) (by decide)) dL_law_225 ?_
  refine wz_callVi (As := [.int (xs (nI (5 * i) + 1).toNatClampNeg), .int (xs (nI (5 * i) + 2).toNatClampNeg), .int (xs (nI (5 * i) + 3).toNatClampNeg)]) (rest := []) kst_C hC (c_X1_book l D x A0 A1 A2 cI cR cII S (xs (nI (5 * i) + 1).toNatClampNeg) (xs (nI (5 * i) + 2).toNatClampNeg) (xs (nI (5 * i) + 3).toNatClampNeg) (okc_book hsim hi (xs (nI (5 * i) + 1).toNatClampNeg) (xs (nI (5 * i) + 2).toNatClampNeg) (xs (nI (5 * i) + 3).toNatClampNeg))) (cwV 3 hts gL_law_X1_book rfl rfl rfl (by decide +kernel) ⟨by decide, by decide⟩) hKc hPc hDc hS hA (wc_cell hKc hPc) hPm hdis rfl hl.1 rfl (Nat.le_of_ble_eq_true rfl) dL_law_226 ⟨by show _ ≤ 600000; omega, by show _ ≤ 7302250; omega⟩ (fun r1 u1 H locs hw1 hPc hDc hPm hdis hS => ?_)
  refine lv_aload_n hx hb dL_law_229 rfl (lv_at hl 2 rfl) ?_
  refine lv_aload_n hx hb dL_law_230 rfl (lv_at hl 0 rfl) ?_
  refine lv_iload_n hx hb dL_law_231 rfl (lv_at hl 3 rfl) ?_
  refine lv_iconst (v := 1) hx hb dL_law_232 (by decide) ?_
  refine lv_iadd hx hb dL_law_233 ?_
  refine va_sld hx hb hX hbl hbA hS (law_in hL h5 (d := 1) (by decide)) dL_law_234 ?_
  refine lv_aload_n hx hb dL_law_235 rfl (lv_at hl 0 rfl) ?_
  refine lv_iload_n hx hb dL_law_236 rfl (lv_at hl 3 rfl) ?_
  refine lv_iconst (v := 2) hx hb dL_law_237 (by decide) ?_
  refine lv_iadd hx hb dL_law_238 ?_
  refine va_sld hx hb hX hbl hbA hS (law_in hL h5 (d := 2) (by decide)) dL_law_239 ?_
  refine lv_aload_n hx hb dL_law_240 rfl (lv_at hl 0 rfl) ?_
  refine lv_iload_n hx hb dL_law_241 rfl (lv_at hl 3 rfl) ?_
  refine lv_iconst (v := 3) hx hb dL_law_242 (by decide) ?_
  refine lv_iadd hx hb dL_law_243 ?_
  refine va_sld hx hb hX hbl hbA hS (law_in hL h5 (d := 3) (by decide)) dL_law_244 ?_
  refine wz_callVi (As := [.int (xs (nI (5 * i) + 1).toNatClampNeg), .int (xs (nI (5 * i) + 2).toNatClampNeg), .int (xs (nI (5 * i) + 3).toNatClampNeg)]) (rest := [.int r1]) kst_K hC (c_X2_book l D h ad dI dJ dZ T (xs (nI (5 * i) + 1).toNatClampNeg) (xs (nI (5 * i) + 2).toNatClampNeg) (xs (nI (5 * i) + 3).toNatClampNeg) (okm_book hsim hi (xs (nI (5 * i) + 1).toNatClampNeg) (xs (nI (5 * i) + 2).toNatClampNeg) (xs (nI (5 * i) + 3).toNatClampNeg))) (cwV 3 hts gL_law_X2_book rfl rfl rfl (by decide +kernel) ⟨by decide, by decide⟩) hKm hPm hDm hS hA (wm_cell hKm hPm) hPc hdis.symm rfl hl.1 rfl (Nat.le_of_ble_eq_true rfl) dL_law_245 ⟨by show _ ≤ 600000; omega, by show _ ≤ 7302250; omega⟩ (fun r2 u2 H locs hw2 hPm hDm hPc hdis hS => ?_)
  have hs := L_book hsim hi (xs (nI (5 * i) + 1).toNatClampNeg) (xs (nI (5 * i) + 2).toNatClampNeg) (xs (nI (5 * i) + 3).toNatClampNeg) hw1 hw2
  refine lv_icmp_eq (tgt := 967) hx hb dL_law_248 (by decide) (fun _ => ?_) (fun c9 => absurd hs.1 c9)
  exact tail u1 u2 H locs ls _ _ hs.2 hPc hDc hPm hDm hdis.symm hS hl (by omega) (by omega)
set_option maxHeartbeats 4000000 in
set_option maxRecDepth 100000 in
theorem law_flat {p : Program} {l : Launch} {e : Env} {s : State} {m : MethodId} {below : List Frame} {meth : Method} {c : Code} {b L : Nat} {xs : Nat → Int32} (hC : CallFix p m c code 4 s #[Value.ref b] wsL_law RL) (hX : va_X b L xs s s.heap) (hbl : b < s.heap.size) (hL : L ≤ 2560) {D : va_G} {x A0 A1 A2 h : Nat} {cI cR cII dI dJ dZ : ClassId} {ad : Nat → Nat} (hKc : cKK D cI cR cII s) (hKm : va_K D vwCl (mTy dI dJ dZ) s) {i : Nat} (hi : i < 512) (h5 : 5 * i + 5 ≤ L) {S : CS} {T : MS} (hsim : SimN i S T) {H : Heap} {locs : List Loc} (hPc : va_P D vwCl (cW x A0 A1 A2 cI cR cII S) H) (hDc : va_D (fun q : Nat => s.heap.size ≤ q) (cW x A0 A1 A2 cI cR cII S)) (hPm : va_P D vwCl (mW h ad dI dJ dZ T) H) (hDm : va_D (fun q : Nat => s.heap.size ≤ q) (mW h ad dI dJ dZ T)) (hdis : wdis (cW x A0 A1 A2 cI cR cII S) (mW h ad dI dJ dZ T)) (hS : va_S (fun q : Nat => s.heap.size ≤ q) s.heap H locs) {ls : Array Slot} (hl : lv_has ls 4 [(0, .ref b), (1, .ref x), (2, .ref h), (3, .int (nI (5 * i)))]) {Q : State → Prop} (tail : ∀ (u1 : CS) (u2 : MS) (H : Heap) (locs : List Loc) (ls : Array Slot) (cells slots : Nat), SimN (i + 1) u1 u2 → va_P D vwCl (cW x A0 A1 A2 cI cR cII u1) H → va_D (fun q : Nat => s.heap.size ≤ q) (cW x A0 A1 A2 cI cR cII u1) → va_P D vwCl (mW h ad dI dJ dZ u2) H → va_D (fun q : Nat => s.heap.size ≤ q) (mW h ad dI dJ dZ u2) → wdis (cW x A0 A1 A2 cI cR cII u1) (mW h ad dI dJ dZ u2) → va_S (fun q : Nat => s.heap.size ≤ q) s.heap H locs → lv_has ls 4 [(0, .ref b), (1, .ref x), (2, .ref h), (3, .int (nI (5 * i)))] → cells ≤ 29 + 4 * (i + 1) → slots ≤ 80011 + 44 * (i + 1) → W p l e room_1 s m #[Value.ref b] below meth c H locs cells slots Q (F0 m 967 ls [])) : W p l e room_1 s m #[Value.ref b] below meth c H locs (29 + 4 * i) (80011 + 44 * i) Q (F0 m 253 ls []) := by
  obtain ⟨hx, hb, hml, hown, hts⟩ := id hC
  have hA : ∀ q : Nat, s.heap.size ≤ q → (fun q : Nat => s.heap.size ≤ q) q := fun _ h => h
  have hbA : ¬ (fun q : Nat => s.heap.size ≤ q) b := Nat.not_le.mpr hbl
  refine lv_aload_n hx hb dL_law_253 rfl (lv_at hl 1 rfl) ?_
  refine lv_aload_n hx hb dL_law_254 rfl (lv_at hl 0 rfl) ?_
  refine lv_iload_n hx hb dL_law_255 rfl (lv_at hl 3 rfl) ?_
  refine lv_iconst (v := 1) hx hb dL_law_256 (by decide) ?_
  refine lv_iadd hx hb dL_law_257 ?_
  refine va_sld hx hb hX hbl hbA hS (law_in hL h5 (d := 1) (by decide)) dL_law_258 ?_
  refine lv_aload_n hx hb dL_law_259 rfl (lv_at hl 0 rfl) ?_
  refine lv_iload_n hx hb dL_law_260 rfl (lv_at hl 3 rfl) ?_
  refine lv_iconst (v := 2) hx hb dL_law_261 (by decide) ?_
  refine lv_iadd hx hb dL_law_262 ?_
  refine va_sld hx hb hX hbl hbA hS (law_in hL h5 (d := 2) (by decide)) dL_law_263 ?_
  refine wz_callVi (As := [.int (xs (nI (5 * i) + 1).toNatClampNeg), .int (xs (nI (5 * i) + 2).toNatClampNeg)]) (rest := []) kst_C hC (c_X1_flat l D x A0 A1 A2 cI cR cII S (xs (nI (5 * i) + 1).toNatClampNeg) (xs (nI (5 * i) + 2).toNatClampNeg) (okc_flat hsim hi (xs (nI (5 * i) + 1).toNatClampNeg) (xs (nI (5 * i) + 2).toNatClampNeg))) (cwV 2 hts gL_law_X1_flat rfl rfl rfl (by decide +kernel) ⟨by decide, by decide⟩) hKc hPc hDc hS hA (wc_cell hKc hPc) hPm hdis rfl hl.1 rfl (Nat.le_of_ble_eq_true rfl) dL_law_264 ⟨by show _ ≤ 600000; omega, by show _ ≤ 7302250; omega⟩ (fun r1 u1 H locs hw1 hPc hDc hPm hdis hS => ?_)
  refine lv_aload_n hx hb dL_law_267 rfl (lv_at hl 2 rfl) ?_
  refine lv_aload_n hx hb dL_law_268 rfl (lv_at hl 0 rfl) ?_
  refine lv_iload_n hx hb dL_law_269 rfl (lv_at hl 3 rfl) ?_
  refine lv_iconst (v := 1) hx hb dL_law_270 (by decide) ?_
  refine lv_iadd hx hb dL_law_271 ?_
  refine va_sld hx hb hX hbl hbA hS (law_in hL h5 (d := 1) (by decide)) dL_law_272 ?_
  refine lv_aload_n hx hb dL_law_273 rfl (lv_at hl 0 rfl) ?_
  refine lv_iload_n hx hb dL_law_274 rfl (lv_at hl 3 rfl) ?_
  refine lv_iconst (v := 2) hx hb dL_law_275 (by decide) ?_
  refine lv_iadd hx hb dL_law_276 ?_
  refine va_sld hx hb hX hbl hbA hS (law_in hL h5 (d := 2) (by decide)) dL_law_277 ?_
  refine wz_callVi (As := [.int (xs (nI (5 * i) + 1).toNatClampNeg), .int (xs (nI (5 * i) + 2).toNatClampNeg)]) (rest := [.int r1]) kst_K hC (c_X2_flat l D h ad dI dJ dZ T (xs (nI (5 * i) + 1).toNatClampNeg) (xs (nI (5 * i) + 2).toNatClampNeg) (okm_flat hsim hi (xs (nI (5 * i) + 1).toNatClampNeg) (xs (nI (5 * i) + 2).toNatClampNeg))) (cwV 2 hts gL_law_X2_flat rfl rfl rfl (by decide +kernel) ⟨by decide, by decide⟩) hKm hPm hDm hS hA (wm_cell hKm hPm) hPc hdis.symm rfl hl.1 rfl (Nat.le_of_ble_eq_true rfl) dL_law_278 ⟨by show _ ≤ 600000; omega, by show _ ≤ 7302250; omega⟩ (fun r2 u2 H locs hw2 hPm hDm hPc hdis hS => ?_)
  have hs := L_flat hsim hi (xs (nI (5 * i) + 1).toNatClampNeg) (xs (nI (5 * i) + 2).toNatClampNeg) hw1 hw2
  refine lv_icmp_eq (tgt := 967) hx hb dL_law_281 (by decide) (fun _ => ?_) (fun c9 => absurd hs.1 c9)
  exact tail u1 u2 H locs ls _ _ hs.2 hPc hDc hPm hDm hdis.symm hS hl (by omega) (by omega)
set_option maxHeartbeats 4000000 in
set_option maxRecDepth 100000 in
theorem law_rated {p : Program} {l : Launch} {e : Env} {s : State} {m : MethodId} {below : List Frame} {meth : Method} {c : Code} {b L : Nat} {xs : Nat → Int32} (hC : CallFix p m c code 4 s #[Value.ref b] wsL_law RL) (hX : va_X b L xs s s.heap) (hbl : b < s.heap.size) (hL : L ≤ 2560) {D : va_G} {x A0 A1 A2 h : Nat} {cI cR cII dI dJ dZ : ClassId} {ad : Nat → Nat} (hKc : cKK D cI cR cII s) (hKm : va_K D vwCl (mTy dI dJ dZ) s) {i : Nat} (hi : i < 512) (h5 : 5 * i + 5 ≤ L) {S : CS} {T : MS} (hsim : SimN i S T) {H : Heap} {locs : List Loc} (hPc : va_P D vwCl (cW x A0 A1 A2 cI cR cII S) H) (hDc : va_D (fun q : Nat => s.heap.size ≤ q) (cW x A0 A1 A2 cI cR cII S)) (hPm : va_P D vwCl (mW h ad dI dJ dZ T) H) (hDm : va_D (fun q : Nat => s.heap.size ≤ q) (mW h ad dI dJ dZ T)) (hdis : wdis (cW x A0 A1 A2 cI cR cII S) (mW h ad dI dJ dZ T)) (hS : va_S (fun q : Nat => s.heap.size ≤ q) s.heap H locs) {ls : Array Slot} (hl : lv_has ls 4 [(0, .ref b), (1, .ref x), (2, .ref h), (3, .int (nI (5 * i)))]) {Q : State → Prop} (tail : ∀ (u1 : CS) (u2 : MS) (H : Heap) (locs : List Loc) (ls : Array Slot) (cells slots : Nat), SimN (i + 1) u1 u2 → va_P D vwCl (cW x A0 A1 A2 cI cR cII u1) H → va_D (fun q : Nat => s.heap.size ≤ q) (cW x A0 A1 A2 cI cR cII u1) → va_P D vwCl (mW h ad dI dJ dZ u2) H → va_D (fun q : Nat => s.heap.size ≤ q) (mW h ad dI dJ dZ u2) → wdis (cW x A0 A1 A2 cI cR cII u1) (mW h ad dI dJ dZ u2) → va_S (fun q : Nat => s.heap.size ≤ q) s.heap H locs → lv_has ls 4 [(0, .ref b), (1, .ref x), (2, .ref h), (3, .int (nI (5 * i)))] → cells ≤ 29 + 4 * (i + 1) → slots ≤ 80011 + 44 * (i + 1) → W p l e room_1 s m #[Value.ref b] below meth c H locs cells slots Q (F0 m 967 ls [])) : W p l e room_1 s m #[Value.ref b] below meth c H locs (29 + 4 * i) (80011 + 44 * i) Q (F0 m 286 ls []) := by
  obtain ⟨hx, hb, hml, hown, hts⟩ := id hC
  have hA : ∀ q : Nat, s.heap.size ≤ q → (fun q : Nat => s.heap.size ≤ q) q := fun _ h => h
  have hbA : ¬ (fun q : Nat => s.heap.size ≤ q) b := Nat.not_le.mpr hbl
  refine lv_aload_n hx hb dL_law_286 rfl (lv_at hl 1 rfl) ?_
  refine lv_aload_n hx hb dL_law_287 rfl (lv_at hl 0 rfl) ?_
  refine lv_iload_n hx hb dL_law_288 rfl (lv_at hl 3 rfl) ?_
  refine lv_iconst (v := 1) hx hb dL_law_289 (by decide) ?_
  refine lv_iadd hx hb dL_law_290 ?_
  refine va_sld hx hb hX hbl hbA hS (law_in hL h5 (d := 1) (by decide)) dL_law_291 ?_
  refine lv_aload_n hx hb dL_law_292 rfl (lv_at hl 0 rfl) ?_
  refine lv_iload_n hx hb dL_law_293 rfl (lv_at hl 3 rfl) ?_
  refine lv_iconst (v := 2) hx hb dL_law_294 (by decide) ?_
  refine lv_iadd hx hb dL_law_295 ?_
  refine va_sld hx hb hX hbl hbA hS (law_in hL h5 (d := 2) (by decide)) dL_law_296 ?_
  refine wz_callVi (As := [.int (xs (nI (5 * i) + 1).toNatClampNeg), .int (xs (nI (5 * i) + 2).toNatClampNeg)]) (rest := []) kst_C hC (c_X1_rated l D x A0 A1 A2 cI cR cII S (xs (nI (5 * i) + 1).toNatClampNeg) (xs (nI (5 * i) + 2).toNatClampNeg) (okc_rated hsim hi (xs (nI (5 * i) + 1).toNatClampNeg) (xs (nI (5 * i) + 2).toNatClampNeg))) (cwV 2 hts gL_law_X1_rated rfl rfl rfl (by decide +kernel) ⟨by decide, by decide⟩) hKc hPc hDc hS hA (wc_cell hKc hPc) hPm hdis rfl hl.1 rfl (Nat.le_of_ble_eq_true rfl) dL_law_297 ⟨by show _ ≤ 600000; omega, by show _ ≤ 7302250; omega⟩ (fun r1 u1 H locs hw1 hPc hDc hPm hdis hS => ?_)
  refine lv_aload_n hx hb dL_law_300 rfl (lv_at hl 2 rfl) ?_
  refine lv_aload_n hx hb dL_law_301 rfl (lv_at hl 0 rfl) ?_
  refine lv_iload_n hx hb dL_law_302 rfl (lv_at hl 3 rfl) ?_
  refine lv_iconst (v := 1) hx hb dL_law_303 (by decide) ?_
  refine lv_iadd hx hb dL_law_304 ?_
  refine va_sld hx hb hX hbl hbA hS (law_in hL h5 (d := 1) (by decide)) dL_law_305 ?_
  refine lv_aload_n hx hb dL_law_306 rfl (lv_at hl 0 rfl) ?_
  refine lv_iload_n hx hb dL_law_307 rfl (lv_at hl 3 rfl) ?_
  refine lv_iconst (v := 2) hx hb dL_law_308 (by decide) ?_
  refine lv_iadd hx hb dL_law_309 ?_
  refine va_sld hx hb hX hbl hbA hS (law_in hL h5 (d := 2) (by decide)) dL_law_310 ?_
  refine wz_callVi (As := [.int (xs (nI (5 * i) + 1).toNatClampNeg), .int (xs (nI (5 * i) + 2).toNatClampNeg)]) (rest := [.int r1]) kst_K hC (c_X2_rated l D h ad dI dJ dZ T (xs (nI (5 * i) + 1).toNatClampNeg) (xs (nI (5 * i) + 2).toNatClampNeg) (okm_rated hsim hi (xs (nI (5 * i) + 1).toNatClampNeg) (xs (nI (5 * i) + 2).toNatClampNeg))) (cwV 2 hts gL_law_X2_rated rfl rfl rfl (by decide +kernel) ⟨by decide, by decide⟩) hKm hPm hDm hS hA (wm_cell hKm hPm) hPc hdis.symm rfl hl.1 rfl (Nat.le_of_ble_eq_true rfl) dL_law_311 ⟨by show _ ≤ 600000; omega, by show _ ≤ 7302250; omega⟩ (fun r2 u2 H locs hw2 hPm hDm hPc hdis hS => ?_)
  have hs := L_rated hsim hi (xs (nI (5 * i) + 1).toNatClampNeg) (xs (nI (5 * i) + 2).toNatClampNeg) hw1 hw2
  refine lv_icmp_eq (tgt := 967) hx hb dL_law_314 (by decide) (fun _ => ?_) (fun c9 => absurd hs.1 c9)
  exact tail u1 u2 H locs ls _ _ hs.2 hPc hDc hPm hDm hdis.symm hS hl (by omega) (by omega)
set_option maxHeartbeats 4000000 in
set_option maxRecDepth 100000 in
theorem law_live {p : Program} {l : Launch} {e : Env} {s : State} {m : MethodId} {below : List Frame} {meth : Method} {c : Code} {b L : Nat} {xs : Nat → Int32} (hC : CallFix p m c code 4 s #[Value.ref b] wsL_law RL) (hX : va_X b L xs s s.heap) (hbl : b < s.heap.size) (hL : L ≤ 2560) {D : va_G} {x A0 A1 A2 h : Nat} {cI cR cII dI dJ dZ : ClassId} {ad : Nat → Nat} (hKc : cKK D cI cR cII s) (hKm : va_K D vwCl (mTy dI dJ dZ) s) {i : Nat} (hi : i < 512) (h5 : 5 * i + 5 ≤ L) {S : CS} {T : MS} (hsim : SimN i S T) {H : Heap} {locs : List Loc} (hPc : va_P D vwCl (cW x A0 A1 A2 cI cR cII S) H) (hDc : va_D (fun q : Nat => s.heap.size ≤ q) (cW x A0 A1 A2 cI cR cII S)) (hPm : va_P D vwCl (mW h ad dI dJ dZ T) H) (hDm : va_D (fun q : Nat => s.heap.size ≤ q) (mW h ad dI dJ dZ T)) (hdis : wdis (cW x A0 A1 A2 cI cR cII S) (mW h ad dI dJ dZ T)) (hS : va_S (fun q : Nat => s.heap.size ≤ q) s.heap H locs) {ls : Array Slot} (hl : lv_has ls 4 [(0, .ref b), (1, .ref x), (2, .ref h), (3, .int (nI (5 * i)))]) {Q : State → Prop} (tail : ∀ (u1 : CS) (u2 : MS) (H : Heap) (locs : List Loc) (ls : Array Slot) (cells slots : Nat), SimN (i + 1) u1 u2 → va_P D vwCl (cW x A0 A1 A2 cI cR cII u1) H → va_D (fun q : Nat => s.heap.size ≤ q) (cW x A0 A1 A2 cI cR cII u1) → va_P D vwCl (mW h ad dI dJ dZ u2) H → va_D (fun q : Nat => s.heap.size ≤ q) (mW h ad dI dJ dZ u2) → wdis (cW x A0 A1 A2 cI cR cII u1) (mW h ad dI dJ dZ u2) → va_S (fun q : Nat => s.heap.size ≤ q) s.heap H locs → lv_has ls 4 [(0, .ref b), (1, .ref x), (2, .ref h), (3, .int (nI (5 * i)))] → cells ≤ 29 + 4 * (i + 1) → slots ≤ 80011 + 44 * (i + 1) → W p l e room_1 s m #[Value.ref b] below meth c H locs cells slots Q (F0 m 967 ls [])) : W p l e room_1 s m #[Value.ref b] below meth c H locs (29 + 4 * i) (80011 + 44 * i) Q (F0 m 319 ls []) := by
  obtain ⟨hx, hb, hml, hown, hts⟩ := id hC
  have hA : ∀ q : Nat, s.heap.size ≤ q → (fun q : Nat => s.heap.size ≤ q) q := fun _ h => h
  have hbA : ¬ (fun q : Nat => s.heap.size ≤ q) b := Nat.not_le.mpr hbl
  refine lv_aload_n hx hb dL_law_319 rfl (lv_at hl 1 rfl) ?_
  refine lv_aload_n hx hb dL_law_320 rfl (lv_at hl 0 rfl) ?_
  refine lv_iload_n hx hb dL_law_321 rfl (lv_at hl 3 rfl) ?_
  refine lv_iconst (v := 1) hx hb dL_law_322 (by decide) ?_
  refine lv_iadd hx hb dL_law_323 ?_
  refine va_sld hx hb hX hbl hbA hS (law_in hL h5 (d := 1) (by decide)) dL_law_324 ?_
  refine lv_aload_n hx hb dL_law_325 rfl (lv_at hl 0 rfl) ?_
  refine lv_iload_n hx hb dL_law_326 rfl (lv_at hl 3 rfl) ?_
  refine lv_iconst (v := 2) hx hb dL_law_327 (by decide) ?_
  refine lv_iadd hx hb dL_law_328 ?_
  refine va_sld hx hb hX hbl hbA hS (law_in hL h5 (d := 2) (by decide)) dL_law_329 ?_
  refine wz_callVi (As := [.int (xs (nI (5 * i) + 1).toNatClampNeg), .int (xs (nI (5 * i) + 2).toNatClampNeg)]) (rest := []) kst_C hC (c_X1_live l D x A0 A1 A2 cI cR cII S (xs (nI (5 * i) + 1).toNatClampNeg) (xs (nI (5 * i) + 2).toNatClampNeg) (okc_live hsim hi (xs (nI (5 * i) + 1).toNatClampNeg) (xs (nI (5 * i) + 2).toNatClampNeg))) (cwV 2 hts gL_law_X1_live rfl rfl rfl (by decide +kernel) ⟨by decide, by decide⟩) hKc hPc hDc hS hA (wc_cell hKc hPc) hPm hdis rfl hl.1 rfl (Nat.le_of_ble_eq_true rfl) dL_law_330 ⟨by show _ ≤ 600000; omega, by show _ ≤ 7302250; omega⟩ (fun r1 u1 H locs hw1 hPc hDc hPm hdis hS => ?_)
  refine lv_aload_n hx hb dL_law_333 rfl (lv_at hl 2 rfl) ?_
  refine lv_aload_n hx hb dL_law_334 rfl (lv_at hl 0 rfl) ?_
  refine lv_iload_n hx hb dL_law_335 rfl (lv_at hl 3 rfl) ?_
  refine lv_iconst (v := 1) hx hb dL_law_336 (by decide) ?_
  refine lv_iadd hx hb dL_law_337 ?_
  refine va_sld hx hb hX hbl hbA hS (law_in hL h5 (d := 1) (by decide)) dL_law_338 ?_
  refine lv_aload_n hx hb dL_law_339 rfl (lv_at hl 0 rfl) ?_
  refine lv_iload_n hx hb dL_law_340 rfl (lv_at hl 3 rfl) ?_
  refine lv_iconst (v := 2) hx hb dL_law_341 (by decide) ?_
  refine lv_iadd hx hb dL_law_342 ?_
  refine va_sld hx hb hX hbl hbA hS (law_in hL h5 (d := 2) (by decide)) dL_law_343 ?_
  refine wz_callVi (As := [.int (xs (nI (5 * i) + 1).toNatClampNeg), .int (xs (nI (5 * i) + 2).toNatClampNeg)]) (rest := [.int r1]) kst_K hC (c_X2_live l D h ad dI dJ dZ T (xs (nI (5 * i) + 1).toNatClampNeg) (xs (nI (5 * i) + 2).toNatClampNeg) (okm_live hsim hi (xs (nI (5 * i) + 1).toNatClampNeg) (xs (nI (5 * i) + 2).toNatClampNeg))) (cwV 2 hts gL_law_X2_live rfl rfl rfl (by decide +kernel) ⟨by decide, by decide⟩) hKm hPm hDm hS hA (wm_cell hKm hPm) hPc hdis.symm rfl hl.1 rfl (Nat.le_of_ble_eq_true rfl) dL_law_344 ⟨by show _ ≤ 600000; omega, by show _ ≤ 7302250; omega⟩ (fun r2 u2 H locs hw2 hPm hDm hPc hdis hS => ?_)
  have hs := L_live hsim hi (xs (nI (5 * i) + 1).toNatClampNeg) (xs (nI (5 * i) + 2).toNatClampNeg) hw1 hw2
  refine lv_icmp_eq (tgt := 967) hx hb dL_law_347 (by decide) (fun _ => ?_) (fun c9 => absurd hs.1 c9)
  exact tail u1 u2 H locs ls _ _ hs.2 hPc hDc hPm hDm hdis.symm hS hl (by omega) (by omega)
set_option maxHeartbeats 4000000 in
set_option maxRecDepth 100000 in
theorem law_booked {p : Program} {l : Launch} {e : Env} {s : State} {m : MethodId} {below : List Frame} {meth : Method} {c : Code} {b L : Nat} {xs : Nat → Int32} (hC : CallFix p m c code 4 s #[Value.ref b] wsL_law RL) (hX : va_X b L xs s s.heap) (hbl : b < s.heap.size) (hL : L ≤ 2560) {D : va_G} {x A0 A1 A2 h : Nat} {cI cR cII dI dJ dZ : ClassId} {ad : Nat → Nat} (hKc : cKK D cI cR cII s) (hKm : va_K D vwCl (mTy dI dJ dZ) s) {i : Nat} (hi : i < 512) (h5 : 5 * i + 5 ≤ L) {S : CS} {T : MS} (hsim : SimN i S T) {H : Heap} {locs : List Loc} (hPc : va_P D vwCl (cW x A0 A1 A2 cI cR cII S) H) (hDc : va_D (fun q : Nat => s.heap.size ≤ q) (cW x A0 A1 A2 cI cR cII S)) (hPm : va_P D vwCl (mW h ad dI dJ dZ T) H) (hDm : va_D (fun q : Nat => s.heap.size ≤ q) (mW h ad dI dJ dZ T)) (hdis : wdis (cW x A0 A1 A2 cI cR cII S) (mW h ad dI dJ dZ T)) (hS : va_S (fun q : Nat => s.heap.size ≤ q) s.heap H locs) {ls : Array Slot} (hl : lv_has ls 4 [(0, .ref b), (1, .ref x), (2, .ref h), (3, .int (nI (5 * i)))]) {Q : State → Prop} (tail : ∀ (u1 : CS) (u2 : MS) (H : Heap) (locs : List Loc) (ls : Array Slot) (cells slots : Nat), SimN (i + 1) u1 u2 → va_P D vwCl (cW x A0 A1 A2 cI cR cII u1) H → va_D (fun q : Nat => s.heap.size ≤ q) (cW x A0 A1 A2 cI cR cII u1) → va_P D vwCl (mW h ad dI dJ dZ u2) H → va_D (fun q : Nat => s.heap.size ≤ q) (mW h ad dI dJ dZ u2) → wdis (cW x A0 A1 A2 cI cR cII u1) (mW h ad dI dJ dZ u2) → va_S (fun q : Nat => s.heap.size ≤ q) s.heap H locs → lv_has ls 4 [(0, .ref b), (1, .ref x), (2, .ref h), (3, .int (nI (5 * i)))] → cells ≤ 29 + 4 * (i + 1) → slots ≤ 80011 + 44 * (i + 1) → W p l e room_1 s m #[Value.ref b] below meth c H locs cells slots Q (F0 m 967 ls [])) : W p l e room_1 s m #[Value.ref b] below meth c H locs (29 + 4 * i) (80011 + 44 * i) Q (F0 m 352 ls []) := by
  obtain ⟨hx, hb, hml, hown, hts⟩ := id hC
  have hA : ∀ q : Nat, s.heap.size ≤ q → (fun q : Nat => s.heap.size ≤ q) q := fun _ h => h
  have hbA : ¬ (fun q : Nat => s.heap.size ≤ q) b := Nat.not_le.mpr hbl
  refine lv_aload_n hx hb dL_law_352 rfl (lv_at hl 1 rfl) ?_
  refine lv_aload_n hx hb dL_law_353 rfl (lv_at hl 0 rfl) ?_
  refine lv_iload_n hx hb dL_law_354 rfl (lv_at hl 3 rfl) ?_
  refine lv_iconst (v := 1) hx hb dL_law_355 (by decide) ?_
  refine lv_iadd hx hb dL_law_356 ?_
  refine va_sld hx hb hX hbl hbA hS (law_in hL h5 (d := 1) (by decide)) dL_law_357 ?_
  refine lv_aload_n hx hb dL_law_358 rfl (lv_at hl 0 rfl) ?_
  refine lv_iload_n hx hb dL_law_359 rfl (lv_at hl 3 rfl) ?_
  refine lv_iconst (v := 2) hx hb dL_law_360 (by decide) ?_
  refine lv_iadd hx hb dL_law_361 ?_
  refine va_sld hx hb hX hbl hbA hS (law_in hL h5 (d := 2) (by decide)) dL_law_362 ?_
  refine wz_callVi (As := [.int (xs (nI (5 * i) + 1).toNatClampNeg), .int (xs (nI (5 * i) + 2).toNatClampNeg)]) (rest := []) kst_C hC (c_X1_booked l D x A0 A1 A2 cI cR cII S (xs (nI (5 * i) + 1).toNatClampNeg) (xs (nI (5 * i) + 2).toNatClampNeg) (okc_booked hsim hi (xs (nI (5 * i) + 1).toNatClampNeg) (xs (nI (5 * i) + 2).toNatClampNeg))) (cwV 2 hts gL_law_X1_booked rfl rfl rfl (by decide +kernel) ⟨by decide, by decide⟩) hKc hPc hDc hS hA (wc_cell hKc hPc) hPm hdis rfl hl.1 rfl (Nat.le_of_ble_eq_true rfl) dL_law_363 ⟨by show _ ≤ 600000; omega, by show _ ≤ 7302250; omega⟩ (fun r1 u1 H locs hw1 hPc hDc hPm hdis hS => ?_)
  refine lv_aload_n hx hb dL_law_366 rfl (lv_at hl 2 rfl) ?_
  refine lv_aload_n hx hb dL_law_367 rfl (lv_at hl 0 rfl) ?_
  refine lv_iload_n hx hb dL_law_368 rfl (lv_at hl 3 rfl) ?_
  refine lv_iconst (v := 1) hx hb dL_law_369 (by decide) ?_
  refine lv_iadd hx hb dL_law_370 ?_
  refine va_sld hx hb hX hbl hbA hS (law_in hL h5 (d := 1) (by decide)) dL_law_371 ?_
  refine lv_aload_n hx hb dL_law_372 rfl (lv_at hl 0 rfl) ?_
  refine lv_iload_n hx hb dL_law_373 rfl (lv_at hl 3 rfl) ?_
  refine lv_iconst (v := 2) hx hb dL_law_374 (by decide) ?_
  refine lv_iadd hx hb dL_law_375 ?_
  refine va_sld hx hb hX hbl hbA hS (law_in hL h5 (d := 2) (by decide)) dL_law_376 ?_
  refine wz_callVi (As := [.int (xs (nI (5 * i) + 1).toNatClampNeg), .int (xs (nI (5 * i) + 2).toNatClampNeg)]) (rest := [.int r1]) kst_K hC (c_X2_booked l D h ad dI dJ dZ T (xs (nI (5 * i) + 1).toNatClampNeg) (xs (nI (5 * i) + 2).toNatClampNeg) (okm_booked hsim hi (xs (nI (5 * i) + 1).toNatClampNeg) (xs (nI (5 * i) + 2).toNatClampNeg))) (cwV 2 hts gL_law_X2_booked rfl rfl rfl (by decide +kernel) ⟨by decide, by decide⟩) hKm hPm hDm hS hA (wm_cell hKm hPm) hPc hdis.symm rfl hl.1 rfl (Nat.le_of_ble_eq_true rfl) dL_law_377 ⟨by show _ ≤ 600000; omega, by show _ ≤ 7302250; omega⟩ (fun r2 u2 H locs hw2 hPm hDm hPc hdis hS => ?_)
  have hs := L_booked hsim hi (xs (nI (5 * i) + 1).toNatClampNeg) (xs (nI (5 * i) + 2).toNatClampNeg) hw1 hw2
  refine lv_icmp_eq (tgt := 967) hx hb dL_law_380 (by decide) (fun _ => ?_) (fun c9 => absurd hs.1 c9)
  exact tail u1 u2 H locs ls _ _ hs.2 hPc hDc hPm hDm hdis.symm hS hl (by omega) (by omega)
set_option maxHeartbeats 4000000 in
set_option maxRecDepth 100000 in
theorem law_joined {p : Program} {l : Launch} {e : Env} {s : State} {m : MethodId} {below : List Frame} {meth : Method} {c : Code} {b L : Nat} {xs : Nat → Int32} (hC : CallFix p m c code 4 s #[Value.ref b] wsL_law RL) (hX : va_X b L xs s s.heap) (hbl : b < s.heap.size) (hL : L ≤ 2560) {D : va_G} {x A0 A1 A2 h : Nat} {cI cR cII dI dJ dZ : ClassId} {ad : Nat → Nat} (hKc : cKK D cI cR cII s) (hKm : va_K D vwCl (mTy dI dJ dZ) s) {i : Nat} (hi : i < 512) (h5 : 5 * i + 5 ≤ L) {S : CS} {T : MS} (hsim : SimN i S T) {H : Heap} {locs : List Loc} (hPc : va_P D vwCl (cW x A0 A1 A2 cI cR cII S) H) (hDc : va_D (fun q : Nat => s.heap.size ≤ q) (cW x A0 A1 A2 cI cR cII S)) (hPm : va_P D vwCl (mW h ad dI dJ dZ T) H) (hDm : va_D (fun q : Nat => s.heap.size ≤ q) (mW h ad dI dJ dZ T)) (hdis : wdis (cW x A0 A1 A2 cI cR cII S) (mW h ad dI dJ dZ T)) (hS : va_S (fun q : Nat => s.heap.size ≤ q) s.heap H locs) {ls : Array Slot} (hl : lv_has ls 4 [(0, .ref b), (1, .ref x), (2, .ref h), (3, .int (nI (5 * i)))]) {Q : State → Prop} (tail : ∀ (u1 : CS) (u2 : MS) (H : Heap) (locs : List Loc) (ls : Array Slot) (cells slots : Nat), SimN (i + 1) u1 u2 → va_P D vwCl (cW x A0 A1 A2 cI cR cII u1) H → va_D (fun q : Nat => s.heap.size ≤ q) (cW x A0 A1 A2 cI cR cII u1) → va_P D vwCl (mW h ad dI dJ dZ u2) H → va_D (fun q : Nat => s.heap.size ≤ q) (mW h ad dI dJ dZ u2) → wdis (cW x A0 A1 A2 cI cR cII u1) (mW h ad dI dJ dZ u2) → va_S (fun q : Nat => s.heap.size ≤ q) s.heap H locs → lv_has ls 4 [(0, .ref b), (1, .ref x), (2, .ref h), (3, .int (nI (5 * i)))] → cells ≤ 29 + 4 * (i + 1) → slots ≤ 80011 + 44 * (i + 1) → W p l e room_1 s m #[Value.ref b] below meth c H locs cells slots Q (F0 m 967 ls [])) : W p l e room_1 s m #[Value.ref b] below meth c H locs (29 + 4 * i) (80011 + 44 * i) Q (F0 m 385 ls []) := by
  obtain ⟨hx, hb, hml, hown, hts⟩ := id hC
  have hA : ∀ q : Nat, s.heap.size ≤ q → (fun q : Nat => s.heap.size ≤ q) q := fun _ h => h
  have hbA : ¬ (fun q : Nat => s.heap.size ≤ q) b := Nat.not_le.mpr hbl
  refine lv_aload_n hx hb dL_law_385 rfl (lv_at hl 1 rfl) ?_
  refine lv_aload_n hx hb dL_law_386 rfl (lv_at hl 0 rfl) ?_
  refine lv_iload_n hx hb dL_law_387 rfl (lv_at hl 3 rfl) ?_
  refine lv_iconst (v := 1) hx hb dL_law_388 (by decide) ?_
  refine lv_iadd hx hb dL_law_389 ?_
  refine va_sld hx hb hX hbl hbA hS (law_in hL h5 (d := 1) (by decide)) dL_law_390 ?_
  refine lv_aload_n hx hb dL_law_391 rfl (lv_at hl 0 rfl) ?_
  refine lv_iload_n hx hb dL_law_392 rfl (lv_at hl 3 rfl) ?_
  refine lv_iconst (v := 2) hx hb dL_law_393 (by decide) ?_
  refine lv_iadd hx hb dL_law_394 ?_
  refine va_sld hx hb hX hbl hbA hS (law_in hL h5 (d := 2) (by decide)) dL_law_395 ?_
  refine lv_aload_n hx hb dL_law_396 rfl (lv_at hl 0 rfl) ?_
  refine lv_iload_n hx hb dL_law_397 rfl (lv_at hl 3 rfl) ?_
  refine lv_iconst (v := 3) hx hb dL_law_398 (by decide) ?_
  refine lv_iadd hx hb dL_law_399 ?_
  refine va_sld hx hb hX hbl hbA hS (law_in hL h5 (d := 3) (by decide)) dL_law_400 ?_
  refine lv_aload_n hx hb dL_law_401 rfl (lv_at hl 0 rfl) ?_
  refine lv_iload_n hx hb dL_law_402 rfl (lv_at hl 3 rfl) ?_
  refine lv_iconst (v := 4) hx hb dL_law_403 (by decide) ?_
  refine lv_iadd hx hb dL_law_404 ?_
  refine va_sld hx hb hX hbl hbA hS (law_in hL h5 (d := 4) (by decide)) dL_law_405 ?_
  refine wz_callVi (As := [.int (xs (nI (5 * i) + 1).toNatClampNeg), .int (xs (nI (5 * i) + 2).toNatClampNeg), .int (xs (nI (5 * i) + 3).toNatClampNeg), .int (xs (nI (5 * i) + 4).toNatClampNeg)]) (rest := []) kst_C hC (c_X1_joined l D x A0 A1 A2 cI cR cII S (xs (nI (5 * i) + 1).toNatClampNeg) (xs (nI (5 * i) + 2).toNatClampNeg) (xs (nI (5 * i) + 3).toNatClampNeg) (xs (nI (5 * i) + 4).toNatClampNeg) (okc_joined hsim hi (xs (nI (5 * i) + 1).toNatClampNeg) (xs (nI (5 * i) + 2).toNatClampNeg) (xs (nI (5 * i) + 3).toNatClampNeg) (xs (nI (5 * i) + 4).toNatClampNeg))) (cwV 4 hts gL_law_X1_joined rfl rfl rfl (by decide +kernel) ⟨by decide, by decide⟩) hKc hPc hDc hS hA (wc_cell hKc hPc) hPm hdis rfl hl.1 rfl (Nat.le_of_ble_eq_true rfl) dL_law_406 ⟨by show _ ≤ 600000; omega, by show _ ≤ 7302250; omega⟩ (fun r1 u1 H locs hw1 hPc hDc hPm hdis hS => ?_)
  refine lv_aload_n hx hb dL_law_409 rfl (lv_at hl 2 rfl) ?_
  refine lv_aload_n hx hb dL_law_410 rfl (lv_at hl 0 rfl) ?_
  refine lv_iload_n hx hb dL_law_411 rfl (lv_at hl 3 rfl) ?_
  refine lv_iconst (v := 1) hx hb dL_law_412 (by decide) ?_
  refine lv_iadd hx hb dL_law_413 ?_
  refine va_sld hx hb hX hbl hbA hS (law_in hL h5 (d := 1) (by decide)) dL_law_414 ?_
  refine lv_aload_n hx hb dL_law_415 rfl (lv_at hl 0 rfl) ?_
  refine lv_iload_n hx hb dL_law_416 rfl (lv_at hl 3 rfl) ?_
  refine lv_iconst (v := 2) hx hb dL_law_417 (by decide) ?_
  refine lv_iadd hx hb dL_law_418 ?_
  refine va_sld hx hb hX hbl hbA hS (law_in hL h5 (d := 2) (by decide)) dL_law_419 ?_
  refine lv_aload_n hx hb dL_law_420 rfl (lv_at hl 0 rfl) ?_
  refine lv_iload_n hx hb dL_law_421 rfl (lv_at hl 3 rfl) ?_
  refine lv_iconst (v := 3) hx hb dL_law_422 (by decide) ?_
  refine lv_iadd hx hb dL_law_423 ?_
  refine va_sld hx hb hX hbl hbA hS (law_in hL h5 (d := 3) (by decide)) dL_law_424 ?_
  refine lv_aload_n hx hb dL_law_425 rfl (lv_at hl 0 rfl) ?_
  refine lv_iload_n hx hb dL_law_426 rfl (lv_at hl 3 rfl) ?_
  refine lv_iconst (v := 4) hx hb dL_law_427 (by decide) ?_
  refine lv_iadd hx hb dL_law_428 ?_
  refine va_sld hx hb hX hbl hbA hS (law_in hL h5 (d := 4) (by decide)) dL_law_429 ?_
  refine wz_callVi (As := [.int (xs (nI (5 * i) + 1).toNatClampNeg), .int (xs (nI (5 * i) + 2).toNatClampNeg), .int (xs (nI (5 * i) + 3).toNatClampNeg), .int (xs (nI (5 * i) + 4).toNatClampNeg)]) (rest := [.int r1]) kst_K hC (c_X2_joined l D h ad dI dJ dZ T (xs (nI (5 * i) + 1).toNatClampNeg) (xs (nI (5 * i) + 2).toNatClampNeg) (xs (nI (5 * i) + 3).toNatClampNeg) (xs (nI (5 * i) + 4).toNatClampNeg) (okm_joined hsim hi (xs (nI (5 * i) + 1).toNatClampNeg) (xs (nI (5 * i) + 2).toNatClampNeg) (xs (nI (5 * i) + 3).toNatClampNeg) (xs (nI (5 * i) + 4).toNatClampNeg))) (cwV 4 hts gL_law_X2_joined rfl rfl rfl (by decide +kernel) ⟨by decide, by decide⟩) hKm hPm hDm hS hA (wm_cell hKm hPm) hPc hdis.symm rfl hl.1 rfl (Nat.le_of_ble_eq_true rfl) dL_law_430 ⟨by show _ ≤ 600000; omega, by show _ ≤ 7302250; omega⟩ (fun r2 u2 H locs hw2 hPm hDm hPc hdis hS => ?_)
  have hs := L_joined hsim hi (xs (nI (5 * i) + 1).toNatClampNeg) (xs (nI (5 * i) + 2).toNatClampNeg) (xs (nI (5 * i) + 3).toNatClampNeg) (xs (nI (5 * i) + 4).toNatClampNeg) hw1 hw2
  refine lv_icmp_eq (tgt := 967) hx hb dL_law_433 (by decide) (fun _ => ?_) (fun c9 => absurd hs.1 c9)
  exact tail u1 u2 H locs ls _ _ hs.2 hPc hDc hPm hDm hdis.symm hS hl (by omega) (by omega)
set_option maxHeartbeats 4000000 in
set_option maxRecDepth 100000 in
theorem law_when {p : Program} {l : Launch} {e : Env} {s : State} {m : MethodId} {below : List Frame} {meth : Method} {c : Code} {b L : Nat} {xs : Nat → Int32} (hC : CallFix p m c code 4 s #[Value.ref b] wsL_law RL) (hX : va_X b L xs s s.heap) (hbl : b < s.heap.size) (hL : L ≤ 2560) {D : va_G} {x A0 A1 A2 h : Nat} {cI cR cII dI dJ dZ : ClassId} {ad : Nat → Nat} (hKc : cKK D cI cR cII s) (hKm : va_K D vwCl (mTy dI dJ dZ) s) {i : Nat} (hi : i < 512) (h5 : 5 * i + 5 ≤ L) {S : CS} {T : MS} (hsim : SimN i S T) {H : Heap} {locs : List Loc} (hPc : va_P D vwCl (cW x A0 A1 A2 cI cR cII S) H) (hDc : va_D (fun q : Nat => s.heap.size ≤ q) (cW x A0 A1 A2 cI cR cII S)) (hPm : va_P D vwCl (mW h ad dI dJ dZ T) H) (hDm : va_D (fun q : Nat => s.heap.size ≤ q) (mW h ad dI dJ dZ T)) (hdis : wdis (cW x A0 A1 A2 cI cR cII S) (mW h ad dI dJ dZ T)) (hS : va_S (fun q : Nat => s.heap.size ≤ q) s.heap H locs) {ls : Array Slot} (hl : lv_has ls 4 [(0, .ref b), (1, .ref x), (2, .ref h), (3, .int (nI (5 * i)))]) {Q : State → Prop} (tail : ∀ (u1 : CS) (u2 : MS) (H : Heap) (locs : List Loc) (ls : Array Slot) (cells slots : Nat), SimN (i + 1) u1 u2 → va_P D vwCl (cW x A0 A1 A2 cI cR cII u1) H → va_D (fun q : Nat => s.heap.size ≤ q) (cW x A0 A1 A2 cI cR cII u1) → va_P D vwCl (mW h ad dI dJ dZ u2) H → va_D (fun q : Nat => s.heap.size ≤ q) (mW h ad dI dJ dZ u2) → wdis (cW x A0 A1 A2 cI cR cII u1) (mW h ad dI dJ dZ u2) → va_S (fun q : Nat => s.heap.size ≤ q) s.heap H locs → lv_has ls 4 [(0, .ref b), (1, .ref x), (2, .ref h), (3, .int (nI (5 * i)))] → cells ≤ 29 + 4 * (i + 1) → slots ≤ 80011 + 44 * (i + 1) → W p l e room_1 s m #[Value.ref b] below meth c H locs cells slots Q (F0 m 967 ls [])) : W p l e room_1 s m #[Value.ref b] below meth c H locs (29 + 4 * i) (80011 + 44 * i) Q (F0 m 438 ls []) := by
  obtain ⟨hx, hb, hml, hown, hts⟩ := id hC
  have hA : ∀ q : Nat, s.heap.size ≤ q → (fun q : Nat => s.heap.size ≤ q) q := fun _ h => h
  have hbA : ¬ (fun q : Nat => s.heap.size ≤ q) b := Nat.not_le.mpr hbl
  refine lv_aload_n hx hb dL_law_438 rfl (lv_at hl 1 rfl) ?_
  refine lv_aload_n hx hb dL_law_439 rfl (lv_at hl 0 rfl) ?_
  refine lv_iload_n hx hb dL_law_440 rfl (lv_at hl 3 rfl) ?_
  refine lv_iconst (v := 1) hx hb dL_law_441 (by decide) ?_
  refine lv_iadd hx hb dL_law_442 ?_
  refine va_sld hx hb hX hbl hbA hS (law_in hL h5 (d := 1) (by decide)) dL_law_443 ?_
  refine lv_aload_n hx hb dL_law_444 rfl (lv_at hl 0 rfl) ?_
  refine lv_iload_n hx hb dL_law_445 rfl (lv_at hl 3 rfl) ?_
  refine lv_iconst (v := 2) hx hb dL_law_446 (by decide) ?_
  refine lv_iadd hx hb dL_law_447 ?_
  refine va_sld hx hb hX hbl hbA hS (law_in hL h5 (d := 2) (by decide)) dL_law_448 ?_
  refine lv_aload_n hx hb dL_law_449 rfl (lv_at hl 0 rfl) ?_
  refine lv_iload_n hx hb dL_law_450 rfl (lv_at hl 3 rfl) ?_
  refine lv_iconst (v := 3) hx hb dL_law_451 (by decide) ?_
  refine lv_iadd hx hb dL_law_452 ?_
  refine va_sld hx hb hX hbl hbA hS (law_in hL h5 (d := 3) (by decide)) dL_law_453 ?_
  refine lv_aload_n hx hb dL_law_454 rfl (lv_at hl 0 rfl) ?_
  refine lv_iload_n hx hb dL_law_455 rfl (lv_at hl 3 rfl) ?_
  refine lv_iconst (v := 4) hx hb dL_law_456 (by decide) ?_
  refine lv_iadd hx hb dL_law_457 ?_
  refine va_sld hx hb hX hbl hbA hS (law_in hL h5 (d := 4) (by decide)) dL_law_458 ?_
  refine wz_callVi (As := [.int (xs (nI (5 * i) + 1).toNatClampNeg), .int (xs (nI (5 * i) + 2).toNatClampNeg), .int (xs (nI (5 * i) + 3).toNatClampNeg), .int (xs (nI (5 * i) + 4).toNatClampNeg)]) (rest := []) kst_C hC (c_X1_when l D x A0 A1 A2 cI cR cII S (xs (nI (5 * i) + 1).toNatClampNeg) (xs (nI (5 * i) + 2).toNatClampNeg) (xs (nI (5 * i) + 3).toNatClampNeg) (xs (nI (5 * i) + 4).toNatClampNeg) (okc_when hsim hi (xs (nI (5 * i) + 1).toNatClampNeg) (xs (nI (5 * i) + 2).toNatClampNeg) (xs (nI (5 * i) + 3).toNatClampNeg) (xs (nI (5 * i) + 4).toNatClampNeg))) (cwV 4 hts gL_law_X1_when rfl rfl rfl (by decide +kernel) ⟨by decide, by decide⟩) hKc hPc hDc hS hA (wc_cell hKc hPc) hPm hdis rfl hl.1 rfl (Nat.le_of_ble_eq_true rfl) dL_law_459 ⟨by show _ ≤ 600000; omega, by show _ ≤ 7302250; omega⟩ (fun r1 u1 H locs hw1 hPc hDc hPm hdis hS => ?_)
  refine lv_aload_n hx hb dL_law_462 rfl (lv_at hl 2 rfl) ?_
  refine lv_aload_n hx hb dL_law_463 rfl (lv_at hl 0 rfl) ?_
  refine lv_iload_n hx hb dL_law_464 rfl (lv_at hl 3 rfl) ?_
  refine lv_iconst (v := 1) hx hb dL_law_465 (by decide) ?_
  refine lv_iadd hx hb dL_law_466 ?_
  refine va_sld hx hb hX hbl hbA hS (law_in hL h5 (d := 1) (by decide)) dL_law_467 ?_
  refine lv_aload_n hx hb dL_law_468 rfl (lv_at hl 0 rfl) ?_
  refine lv_iload_n hx hb dL_law_469 rfl (lv_at hl 3 rfl) ?_
  refine lv_iconst (v := 2) hx hb dL_law_470 (by decide) ?_
  refine lv_iadd hx hb dL_law_471 ?_
  refine va_sld hx hb hX hbl hbA hS (law_in hL h5 (d := 2) (by decide)) dL_law_472 ?_
  refine lv_aload_n hx hb dL_law_473 rfl (lv_at hl 0 rfl) ?_
  refine lv_iload_n hx hb dL_law_474 rfl (lv_at hl 3 rfl) ?_
  refine lv_iconst (v := 3) hx hb dL_law_475 (by decide) ?_
  refine lv_iadd hx hb dL_law_476 ?_
  refine va_sld hx hb hX hbl hbA hS (law_in hL h5 (d := 3) (by decide)) dL_law_477 ?_
  refine lv_aload_n hx hb dL_law_478 rfl (lv_at hl 0 rfl) ?_
  refine lv_iload_n hx hb dL_law_479 rfl (lv_at hl 3 rfl) ?_
  refine lv_iconst (v := 4) hx hb dL_law_480 (by decide) ?_
  refine lv_iadd hx hb dL_law_481 ?_
  refine va_sld hx hb hX hbl hbA hS (law_in hL h5 (d := 4) (by decide)) dL_law_482 ?_
  refine wz_callVi (As := [.int (xs (nI (5 * i) + 1).toNatClampNeg), .int (xs (nI (5 * i) + 2).toNatClampNeg), .int (xs (nI (5 * i) + 3).toNatClampNeg), .int (xs (nI (5 * i) + 4).toNatClampNeg)]) (rest := [.int r1]) kst_K hC (c_X2_when l D h ad dI dJ dZ T (xs (nI (5 * i) + 1).toNatClampNeg) (xs (nI (5 * i) + 2).toNatClampNeg) (xs (nI (5 * i) + 3).toNatClampNeg) (xs (nI (5 * i) + 4).toNatClampNeg) (okm_when hsim hi (xs (nI (5 * i) + 1).toNatClampNeg) (xs (nI (5 * i) + 2).toNatClampNeg) (xs (nI (5 * i) + 3).toNatClampNeg) (xs (nI (5 * i) + 4).toNatClampNeg))) (cwV 4 hts gL_law_X2_when rfl rfl rfl (by decide +kernel) ⟨by decide, by decide⟩) hKm hPm hDm hS hA (wm_cell hKm hPm) hPc hdis.symm rfl hl.1 rfl (Nat.le_of_ble_eq_true rfl) dL_law_483 ⟨by show _ ≤ 600000; omega, by show _ ≤ 7302250; omega⟩ (fun r2 u2 H locs hw2 hPm hDm hPc hdis hS => ?_)
  have hs := L_when hsim hi (xs (nI (5 * i) + 1).toNatClampNeg) (xs (nI (5 * i) + 2).toNatClampNeg) (xs (nI (5 * i) + 3).toNatClampNeg) (xs (nI (5 * i) + 4).toNatClampNeg) hw1 hw2
  refine lv_icmp_eq (tgt := 967) hx hb dL_law_486 (by decide) (fun _ => ?_) (fun c9 => absurd hs.1 c9)
  exact tail u1 u2 H locs ls _ _ hs.2 hPc hDc hPm hDm hdis.symm hS hl (by omega) (by omega)
set_option maxHeartbeats 4000000 in
set_option maxRecDepth 100000 in
theorem law_fixed {p : Program} {l : Launch} {e : Env} {s : State} {m : MethodId} {below : List Frame} {meth : Method} {c : Code} {b L : Nat} {xs : Nat → Int32} (hC : CallFix p m c code 4 s #[Value.ref b] wsL_law RL) (hX : va_X b L xs s s.heap) (hbl : b < s.heap.size) (hL : L ≤ 2560) {D : va_G} {x A0 A1 A2 h : Nat} {cI cR cII dI dJ dZ : ClassId} {ad : Nat → Nat} (hKc : cKK D cI cR cII s) (hKm : va_K D vwCl (mTy dI dJ dZ) s) {i : Nat} (hi : i < 512) (h5 : 5 * i + 5 ≤ L) {S : CS} {T : MS} (hsim : SimN i S T) {H : Heap} {locs : List Loc} (hPc : va_P D vwCl (cW x A0 A1 A2 cI cR cII S) H) (hDc : va_D (fun q : Nat => s.heap.size ≤ q) (cW x A0 A1 A2 cI cR cII S)) (hPm : va_P D vwCl (mW h ad dI dJ dZ T) H) (hDm : va_D (fun q : Nat => s.heap.size ≤ q) (mW h ad dI dJ dZ T)) (hdis : wdis (cW x A0 A1 A2 cI cR cII S) (mW h ad dI dJ dZ T)) (hS : va_S (fun q : Nat => s.heap.size ≤ q) s.heap H locs) {ls : Array Slot} (hl : lv_has ls 4 [(0, .ref b), (1, .ref x), (2, .ref h), (3, .int (nI (5 * i)))]) {Q : State → Prop} (tail : ∀ (u1 : CS) (u2 : MS) (H : Heap) (locs : List Loc) (ls : Array Slot) (cells slots : Nat), SimN (i + 1) u1 u2 → va_P D vwCl (cW x A0 A1 A2 cI cR cII u1) H → va_D (fun q : Nat => s.heap.size ≤ q) (cW x A0 A1 A2 cI cR cII u1) → va_P D vwCl (mW h ad dI dJ dZ u2) H → va_D (fun q : Nat => s.heap.size ≤ q) (mW h ad dI dJ dZ u2) → wdis (cW x A0 A1 A2 cI cR cII u1) (mW h ad dI dJ dZ u2) → va_S (fun q : Nat => s.heap.size ≤ q) s.heap H locs → lv_has ls 4 [(0, .ref b), (1, .ref x), (2, .ref h), (3, .int (nI (5 * i)))] → cells ≤ 29 + 4 * (i + 1) → slots ≤ 80011 + 44 * (i + 1) → W p l e room_1 s m #[Value.ref b] below meth c H locs cells slots Q (F0 m 967 ls [])) : W p l e room_1 s m #[Value.ref b] below meth c H locs (29 + 4 * i) (80011 + 44 * i) Q (F0 m 491 ls []) := by
  obtain ⟨hx, hb, hml, hown, hts⟩ := id hC
  have hA : ∀ q : Nat, s.heap.size ≤ q → (fun q : Nat => s.heap.size ≤ q) q := fun _ h => h
  have hbA : ¬ (fun q : Nat => s.heap.size ≤ q) b := Nat.not_le.mpr hbl
  refine lv_aload_n hx hb dL_law_491 rfl (lv_at hl 1 rfl) ?_
  refine lv_aload_n hx hb dL_law_492 rfl (lv_at hl 0 rfl) ?_
  refine lv_iload_n hx hb dL_law_493 rfl (lv_at hl 3 rfl) ?_
  refine lv_iconst (v := 1) hx hb dL_law_494 (by decide) ?_
  refine lv_iadd hx hb dL_law_495 ?_
  refine va_sld hx hb hX hbl hbA hS (law_in hL h5 (d := 1) (by decide)) dL_law_496 ?_
  refine lv_aload_n hx hb dL_law_497 rfl (lv_at hl 0 rfl) ?_
  refine lv_iload_n hx hb dL_law_498 rfl (lv_at hl 3 rfl) ?_
  refine lv_iconst (v := 2) hx hb dL_law_499 (by decide) ?_
  refine lv_iadd hx hb dL_law_500 ?_
  refine va_sld hx hb hX hbl hbA hS (law_in hL h5 (d := 2) (by decide)) dL_law_501 ?_
  refine lv_aload_n hx hb dL_law_502 rfl (lv_at hl 0 rfl) ?_
  refine lv_iload_n hx hb dL_law_503 rfl (lv_at hl 3 rfl) ?_
  refine lv_iconst (v := 3) hx hb dL_law_504 (by decide) ?_
  refine lv_iadd hx hb dL_law_505 ?_
  refine va_sld hx hb hX hbl hbA hS (law_in hL h5 (d := 3) (by decide)) dL_law_506 ?_
  refine wz_callVi (As := [.int (xs (nI (5 * i) + 1).toNatClampNeg), .int (xs (nI (5 * i) + 2).toNatClampNeg), .int (xs (nI (5 * i) + 3).toNatClampNeg)]) (rest := []) kst_C hC (c_X1_fixed l D x A0 A1 A2 cI cR cII S (xs (nI (5 * i) + 1).toNatClampNeg) (xs (nI (5 * i) + 2).toNatClampNeg) (xs (nI (5 * i) + 3).toNatClampNeg) (okc_fixed hsim hi (xs (nI (5 * i) + 1).toNatClampNeg) (xs (nI (5 * i) + 2).toNatClampNeg) (xs (nI (5 * i) + 3).toNatClampNeg))) (cwV 3 hts gL_law_X1_fixed rfl rfl rfl (by decide +kernel) ⟨by decide, by decide⟩) hKc hPc hDc hS hA (wc_cell hKc hPc) hPm hdis rfl hl.1 rfl (Nat.le_of_ble_eq_true rfl) dL_law_507 ⟨by show _ ≤ 600000; omega, by show _ ≤ 7302250; omega⟩ (fun r1 u1 H locs hw1 hPc hDc hPm hdis hS => ?_)
  refine lv_aload_n hx hb dL_law_510 rfl (lv_at hl 2 rfl) ?_
  refine lv_aload_n hx hb dL_law_511 rfl (lv_at hl 0 rfl) ?_
  refine lv_iload_n hx hb dL_law_512 rfl (lv_at hl 3 rfl) ?_
  refine lv_iconst (v := 1) hx hb dL_law_513 (by decide) ?_
  refine lv_iadd hx hb dL_law_514 ?_
  refine va_sld hx hb hX hbl hbA hS (law_in hL h5 (d := 1) (by decide)) dL_law_515 ?_
  refine lv_aload_n hx hb dL_law_516 rfl (lv_at hl 0 rfl) ?_
  refine lv_iload_n hx hb dL_law_517 rfl (lv_at hl 3 rfl) ?_
  refine lv_iconst (v := 2) hx hb dL_law_518 (by decide) ?_
  refine lv_iadd hx hb dL_law_519 ?_
  refine va_sld hx hb hX hbl hbA hS (law_in hL h5 (d := 2) (by decide)) dL_law_520 ?_
  refine lv_aload_n hx hb dL_law_521 rfl (lv_at hl 0 rfl) ?_
  refine lv_iload_n hx hb dL_law_522 rfl (lv_at hl 3 rfl) ?_
  refine lv_iconst (v := 3) hx hb dL_law_523 (by decide) ?_
  refine lv_iadd hx hb dL_law_524 ?_
  refine va_sld hx hb hX hbl hbA hS (law_in hL h5 (d := 3) (by decide)) dL_law_525 ?_
  refine wz_callVi (As := [.int (xs (nI (5 * i) + 1).toNatClampNeg), .int (xs (nI (5 * i) + 2).toNatClampNeg), .int (xs (nI (5 * i) + 3).toNatClampNeg)]) (rest := [.int r1]) kst_K hC (c_X2_fixed l D h ad dI dJ dZ T (xs (nI (5 * i) + 1).toNatClampNeg) (xs (nI (5 * i) + 2).toNatClampNeg) (xs (nI (5 * i) + 3).toNatClampNeg) (okm_fixed hsim hi (xs (nI (5 * i) + 1).toNatClampNeg) (xs (nI (5 * i) + 2).toNatClampNeg) (xs (nI (5 * i) + 3).toNatClampNeg))) (cwV 3 hts gL_law_X2_fixed rfl rfl rfl (by decide +kernel) ⟨by decide, by decide⟩) hKm hPm hDm hS hA (wm_cell hKm hPm) hPc hdis.symm rfl hl.1 rfl (Nat.le_of_ble_eq_true rfl) dL_law_526 ⟨by show _ ≤ 600000; omega, by show _ ≤ 7302250; omega⟩ (fun r2 u2 H locs hw2 hPm hDm hPc hdis hS => ?_)
  have hs := L_fixed hsim hi (xs (nI (5 * i) + 1).toNatClampNeg) (xs (nI (5 * i) + 2).toNatClampNeg) (xs (nI (5 * i) + 3).toNatClampNeg) hw1 hw2
  refine lv_icmp_eq (tgt := 967) hx hb dL_law_529 (by decide) (fun _ => ?_) (fun c9 => absurd hs.1 c9)
  exact tail u1 u2 H locs ls _ _ hs.2 hPc hDc hPm hDm hdis.symm hS hl (by omega) (by omega)
set_option maxHeartbeats 4000000 in
set_option maxRecDepth 100000 in
theorem law_fed {p : Program} {l : Launch} {e : Env} {s : State} {m : MethodId} {below : List Frame} {meth : Method} {c : Code} {b L : Nat} {xs : Nat → Int32} (hC : CallFix p m c code 4 s #[Value.ref b] wsL_law RL) (hX : va_X b L xs s s.heap) (hbl : b < s.heap.size) (hL : L ≤ 2560) {D : va_G} {x A0 A1 A2 h : Nat} {cI cR cII dI dJ dZ : ClassId} {ad : Nat → Nat} (hKc : cKK D cI cR cII s) (hKm : va_K D vwCl (mTy dI dJ dZ) s) {i : Nat} (hi : i < 512) (h5 : 5 * i + 5 ≤ L) {S : CS} {T : MS} (hsim : SimN i S T) {H : Heap} {locs : List Loc} (hPc : va_P D vwCl (cW x A0 A1 A2 cI cR cII S) H) (hDc : va_D (fun q : Nat => s.heap.size ≤ q) (cW x A0 A1 A2 cI cR cII S)) (hPm : va_P D vwCl (mW h ad dI dJ dZ T) H) (hDm : va_D (fun q : Nat => s.heap.size ≤ q) (mW h ad dI dJ dZ T)) (hdis : wdis (cW x A0 A1 A2 cI cR cII S) (mW h ad dI dJ dZ T)) (hS : va_S (fun q : Nat => s.heap.size ≤ q) s.heap H locs) {ls : Array Slot} (hl : lv_has ls 4 [(0, .ref b), (1, .ref x), (2, .ref h), (3, .int (nI (5 * i)))]) {Q : State → Prop} (tail : ∀ (u1 : CS) (u2 : MS) (H : Heap) (locs : List Loc) (ls : Array Slot) (cells slots : Nat), SimN (i + 1) u1 u2 → va_P D vwCl (cW x A0 A1 A2 cI cR cII u1) H → va_D (fun q : Nat => s.heap.size ≤ q) (cW x A0 A1 A2 cI cR cII u1) → va_P D vwCl (mW h ad dI dJ dZ u2) H → va_D (fun q : Nat => s.heap.size ≤ q) (mW h ad dI dJ dZ u2) → wdis (cW x A0 A1 A2 cI cR cII u1) (mW h ad dI dJ dZ u2) → va_S (fun q : Nat => s.heap.size ≤ q) s.heap H locs → lv_has ls 4 [(0, .ref b), (1, .ref x), (2, .ref h), (3, .int (nI (5 * i)))] → cells ≤ 29 + 4 * (i + 1) → slots ≤ 80011 + 44 * (i + 1) → W p l e room_1 s m #[Value.ref b] below meth c H locs cells slots Q (F0 m 967 ls [])) : W p l e room_1 s m #[Value.ref b] below meth c H locs (29 + 4 * i) (80011 + 44 * i) Q (F0 m 534 ls []) := by
  obtain ⟨hx, hb, hml, hown, hts⟩ := id hC
  have hA : ∀ q : Nat, s.heap.size ≤ q → (fun q : Nat => s.heap.size ≤ q) q := fun _ h => h
  have hbA : ¬ (fun q : Nat => s.heap.size ≤ q) b := Nat.not_le.mpr hbl
  refine lv_aload_n hx hb dL_law_534 rfl (lv_at hl 1 rfl) ?_
  refine lv_aload_n hx hb dL_law_535 rfl (lv_at hl 0 rfl) ?_
  refine lv_iload_n hx hb dL_law_536 rfl (lv_at hl 3 rfl) ?_
  refine lv_iconst (v := 1) hx hb dL_law_537 (by decide) ?_
  refine lv_iadd hx hb dL_law_538 ?_
  refine va_sld hx hb hX hbl hbA hS (law_in hL h5 (d := 1) (by decide)) dL_law_539 ?_
  refine lv_aload_n hx hb dL_law_540 rfl (lv_at hl 0 rfl) ?_
  refine lv_iload_n hx hb dL_law_541 rfl (lv_at hl 3 rfl) ?_
  refine lv_iconst (v := 2) hx hb dL_law_542 (by decide) ?_
  refine lv_iadd hx hb dL_law_543 ?_
  refine va_sld hx hb hX hbl hbA hS (law_in hL h5 (d := 2) (by decide)) dL_law_544 ?_
  refine lv_aload_n hx hb dL_law_545 rfl (lv_at hl 0 rfl) ?_
  refine lv_iload_n hx hb dL_law_546 rfl (lv_at hl 3 rfl) ?_
  refine lv_iconst (v := 3) hx hb dL_law_547 (by decide) ?_
  refine lv_iadd hx hb dL_law_548 ?_
  refine va_sld hx hb hX hbl hbA hS (law_in hL h5 (d := 3) (by decide)) dL_law_549 ?_
  refine wz_callVi (As := [.int (xs (nI (5 * i) + 1).toNatClampNeg), .int (xs (nI (5 * i) + 2).toNatClampNeg), .int (xs (nI (5 * i) + 3).toNatClampNeg)]) (rest := []) kst_C hC (c_X1_fed l D x A0 A1 A2 cI cR cII S (xs (nI (5 * i) + 1).toNatClampNeg) (xs (nI (5 * i) + 2).toNatClampNeg) (xs (nI (5 * i) + 3).toNatClampNeg) (okc_fed hsim hi (xs (nI (5 * i) + 1).toNatClampNeg) (xs (nI (5 * i) + 2).toNatClampNeg) (xs (nI (5 * i) + 3).toNatClampNeg))) (cwV 3 hts gL_law_X1_fed rfl rfl rfl (by decide +kernel) ⟨by decide, by decide⟩) hKc hPc hDc hS hA (wc_cell hKc hPc) hPm hdis rfl hl.1 rfl (Nat.le_of_ble_eq_true rfl) dL_law_550 ⟨by show _ ≤ 600000; omega, by show _ ≤ 7302250; omega⟩ (fun r1 u1 H locs hw1 hPc hDc hPm hdis hS => ?_)
  refine lv_aload_n hx hb dL_law_553 rfl (lv_at hl 2 rfl) ?_
  refine lv_aload_n hx hb dL_law_554 rfl (lv_at hl 0 rfl) ?_
  refine lv_iload_n hx hb dL_law_555 rfl (lv_at hl 3 rfl) ?_
  refine lv_iconst (v := 1) hx hb dL_law_556 (by decide) ?_
  refine lv_iadd hx hb dL_law_557 ?_
  refine va_sld hx hb hX hbl hbA hS (law_in hL h5 (d := 1) (by decide)) dL_law_558 ?_
  refine lv_aload_n hx hb dL_law_559 rfl (lv_at hl 0 rfl) ?_
  refine lv_iload_n hx hb dL_law_560 rfl (lv_at hl 3 rfl) ?_
  refine lv_iconst (v := 2) hx hb dL_law_561 (by decide) ?_
  refine lv_iadd hx hb dL_law_562 ?_
  refine va_sld hx hb hX hbl hbA hS (law_in hL h5 (d := 2) (by decide)) dL_law_563 ?_
  refine lv_aload_n hx hb dL_law_564 rfl (lv_at hl 0 rfl) ?_
  refine lv_iload_n hx hb dL_law_565 rfl (lv_at hl 3 rfl) ?_
  refine lv_iconst (v := 3) hx hb dL_law_566 (by decide) ?_
  refine lv_iadd hx hb dL_law_567 ?_
  refine va_sld hx hb hX hbl hbA hS (law_in hL h5 (d := 3) (by decide)) dL_law_568 ?_
  refine wz_callVi (As := [.int (xs (nI (5 * i) + 1).toNatClampNeg), .int (xs (nI (5 * i) + 2).toNatClampNeg), .int (xs (nI (5 * i) + 3).toNatClampNeg)]) (rest := [.int r1]) kst_K hC (c_X2_fed l D h ad dI dJ dZ T (xs (nI (5 * i) + 1).toNatClampNeg) (xs (nI (5 * i) + 2).toNatClampNeg) (xs (nI (5 * i) + 3).toNatClampNeg) (okm_fed hsim hi (xs (nI (5 * i) + 1).toNatClampNeg) (xs (nI (5 * i) + 2).toNatClampNeg) (xs (nI (5 * i) + 3).toNatClampNeg))) (cwV 3 hts gL_law_X2_fed rfl rfl rfl (by decide +kernel) ⟨by decide, by decide⟩) hKm hPm hDm hS hA (wm_cell hKm hPm) hPc hdis.symm rfl hl.1 rfl (Nat.le_of_ble_eq_true rfl) dL_law_569 ⟨by show _ ≤ 600000; omega, by show _ ≤ 7302250; omega⟩ (fun r2 u2 H locs hw2 hPm hDm hPc hdis hS => ?_)
  have hs := L_fed hsim hi (xs (nI (5 * i) + 1).toNatClampNeg) (xs (nI (5 * i) + 2).toNatClampNeg) (xs (nI (5 * i) + 3).toNatClampNeg) hw1 hw2
  refine lv_icmp_eq (tgt := 967) hx hb dL_law_572 (by decide) (fun _ => ?_) (fun c9 => absurd hs.1 c9)
  exact tail u1 u2 H locs ls _ _ hs.2 hPc hDc hPm hDm hdis.symm hS hl (by omega) (by omega)
set_option maxHeartbeats 4000000 in
set_option maxRecDepth 100000 in
theorem law_guarded {p : Program} {l : Launch} {e : Env} {s : State} {m : MethodId} {below : List Frame} {meth : Method} {c : Code} {b L : Nat} {xs : Nat → Int32} (hC : CallFix p m c code 4 s #[Value.ref b] wsL_law RL) (hX : va_X b L xs s s.heap) (hbl : b < s.heap.size) (hL : L ≤ 2560) {D : va_G} {x A0 A1 A2 h : Nat} {cI cR cII dI dJ dZ : ClassId} {ad : Nat → Nat} (hKc : cKK D cI cR cII s) (hKm : va_K D vwCl (mTy dI dJ dZ) s) {i : Nat} (hi : i < 512) (h5 : 5 * i + 5 ≤ L) {S : CS} {T : MS} (hsim : SimN i S T) {H : Heap} {locs : List Loc} (hPc : va_P D vwCl (cW x A0 A1 A2 cI cR cII S) H) (hDc : va_D (fun q : Nat => s.heap.size ≤ q) (cW x A0 A1 A2 cI cR cII S)) (hPm : va_P D vwCl (mW h ad dI dJ dZ T) H) (hDm : va_D (fun q : Nat => s.heap.size ≤ q) (mW h ad dI dJ dZ T)) (hdis : wdis (cW x A0 A1 A2 cI cR cII S) (mW h ad dI dJ dZ T)) (hS : va_S (fun q : Nat => s.heap.size ≤ q) s.heap H locs) {ls : Array Slot} (hl : lv_has ls 4 [(0, .ref b), (1, .ref x), (2, .ref h), (3, .int (nI (5 * i)))]) {Q : State → Prop} (tail : ∀ (u1 : CS) (u2 : MS) (H : Heap) (locs : List Loc) (ls : Array Slot) (cells slots : Nat), SimN (i + 1) u1 u2 → va_P D vwCl (cW x A0 A1 A2 cI cR cII u1) H → va_D (fun q : Nat => s.heap.size ≤ q) (cW x A0 A1 A2 cI cR cII u1) → va_P D vwCl (mW h ad dI dJ dZ u2) H → va_D (fun q : Nat => s.heap.size ≤ q) (mW h ad dI dJ dZ u2) → wdis (cW x A0 A1 A2 cI cR cII u1) (mW h ad dI dJ dZ u2) → va_S (fun q : Nat => s.heap.size ≤ q) s.heap H locs → lv_has ls 4 [(0, .ref b), (1, .ref x), (2, .ref h), (3, .int (nI (5 * i)))] → cells ≤ 29 + 4 * (i + 1) → slots ≤ 80011 + 44 * (i + 1) → W p l e room_1 s m #[Value.ref b] below meth c H locs cells slots Q (F0 m 967 ls [])) : W p l e room_1 s m #[Value.ref b] below meth c H locs (29 + 4 * i) (80011 + 44 * i) Q (F0 m 577 ls []) := by
  obtain ⟨hx, hb, hml, hown, hts⟩ := id hC
  have hA : ∀ q : Nat, s.heap.size ≤ q → (fun q : Nat => s.heap.size ≤ q) q := fun _ h => h
  have hbA : ¬ (fun q : Nat => s.heap.size ≤ q) b := Nat.not_le.mpr hbl
  refine lv_aload_n hx hb dL_law_577 rfl (lv_at hl 1 rfl) ?_
  refine lv_aload_n hx hb dL_law_578 rfl (lv_at hl 0 rfl) ?_
  refine lv_iload_n hx hb dL_law_579 rfl (lv_at hl 3 rfl) ?_
  refine lv_iconst (v := 1) hx hb dL_law_580 (by decide) ?_
  refine lv_iadd hx hb dL_law_581 ?_
  refine va_sld hx hb hX hbl hbA hS (law_in hL h5 (d := 1) (by decide)) dL_law_582 ?_
  refine lv_aload_n hx hb dL_law_583 rfl (lv_at hl 0 rfl) ?_
  refine lv_iload_n hx hb dL_law_584 rfl (lv_at hl 3 rfl) ?_
  refine lv_iconst (v := 2) hx hb dL_law_585 (by decide) ?_
  refine lv_iadd hx hb dL_law_586 ?_
  refine va_sld hx hb hX hbl hbA hS (law_in hL h5 (d := 2) (by decide)) dL_law_587 ?_
  refine lv_aload_n hx hb dL_law_588 rfl (lv_at hl 0 rfl) ?_
  refine lv_iload_n hx hb dL_law_589 rfl (lv_at hl 3 rfl) ?_
  refine lv_iconst (v := 3) hx hb dL_law_590 (by decide) ?_
  refine lv_iadd hx hb dL_law_591 ?_
  refine va_sld hx hb hX hbl hbA hS (law_in hL h5 (d := 3) (by decide)) dL_law_592 ?_
  refine wz_callVi (As := [.int (xs (nI (5 * i) + 1).toNatClampNeg), .int (xs (nI (5 * i) + 2).toNatClampNeg), .int (xs (nI (5 * i) + 3).toNatClampNeg)]) (rest := []) kst_C hC (c_X1_guarded l D x A0 A1 A2 cI cR cII S (xs (nI (5 * i) + 1).toNatClampNeg) (xs (nI (5 * i) + 2).toNatClampNeg) (xs (nI (5 * i) + 3).toNatClampNeg) (okc_guarded hsim hi (xs (nI (5 * i) + 1).toNatClampNeg) (xs (nI (5 * i) + 2).toNatClampNeg) (xs (nI (5 * i) + 3).toNatClampNeg))) (cwV 3 hts gL_law_X1_guarded rfl rfl rfl (by decide +kernel) ⟨by decide, by decide⟩) hKc hPc hDc hS hA (wc_cell hKc hPc) hPm hdis rfl hl.1 rfl (Nat.le_of_ble_eq_true rfl) dL_law_593 ⟨by show _ ≤ 600000; omega, by show _ ≤ 7302250; omega⟩ (fun r1 u1 H locs hw1 hPc hDc hPm hdis hS => ?_)
  refine lv_aload_n hx hb dL_law_596 rfl (lv_at hl 2 rfl) ?_
  refine lv_aload_n hx hb dL_law_597 rfl (lv_at hl 0 rfl) ?_
  refine lv_iload_n hx hb dL_law_598 rfl (lv_at hl 3 rfl) ?_
  refine lv_iconst (v := 1) hx hb dL_law_599 (by decide) ?_
  refine lv_iadd hx hb dL_law_600 ?_
  refine va_sld hx hb hX hbl hbA hS (law_in hL h5 (d := 1) (by decide)) dL_law_601 ?_
  refine lv_aload_n hx hb dL_law_602 rfl (lv_at hl 0 rfl) ?_
  refine lv_iload_n hx hb dL_law_603 rfl (lv_at hl 3 rfl) ?_
  refine lv_iconst (v := 2) hx hb dL_law_604 (by decide) ?_
  refine lv_iadd hx hb dL_law_605 ?_
  refine va_sld hx hb hX hbl hbA hS (law_in hL h5 (d := 2) (by decide)) dL_law_606 ?_
  refine lv_aload_n hx hb dL_law_607 rfl (lv_at hl 0 rfl) ?_
  refine lv_iload_n hx hb dL_law_608 rfl (lv_at hl 3 rfl) ?_
  refine lv_iconst (v := 3) hx hb dL_law_609 (by decide) ?_
  refine lv_iadd hx hb dL_law_610 ?_
  refine va_sld hx hb hX hbl hbA hS (law_in hL h5 (d := 3) (by decide)) dL_law_611 ?_
  refine wz_callVi (As := [.int (xs (nI (5 * i) + 1).toNatClampNeg), .int (xs (nI (5 * i) + 2).toNatClampNeg), .int (xs (nI (5 * i) + 3).toNatClampNeg)]) (rest := [.int r1]) kst_K hC (c_X2_guarded l D h ad dI dJ dZ T (xs (nI (5 * i) + 1).toNatClampNeg) (xs (nI (5 * i) + 2).toNatClampNeg) (xs (nI (5 * i) + 3).toNatClampNeg) (okm_guarded hsim hi (xs (nI (5 * i) + 1).toNatClampNeg) (xs (nI (5 * i) + 2).toNatClampNeg) (xs (nI (5 * i) + 3).toNatClampNeg))) (cwV 3 hts gL_law_X2_guarded rfl rfl rfl (by decide +kernel) ⟨by decide, by decide⟩) hKm hPm hDm hS hA (wm_cell hKm hPm) hPc hdis.symm rfl hl.1 rfl (Nat.le_of_ble_eq_true rfl) dL_law_612 ⟨by show _ ≤ 600000; omega, by show _ ≤ 7302250; omega⟩ (fun r2 u2 H locs hw2 hPm hDm hPc hdis hS => ?_)
  have hs := L_guarded hsim hi (xs (nI (5 * i) + 1).toNatClampNeg) (xs (nI (5 * i) + 2).toNatClampNeg) (xs (nI (5 * i) + 3).toNatClampNeg) hw1 hw2
  refine lv_icmp_eq (tgt := 967) hx hb dL_law_615 (by decide) (fun _ => ?_) (fun c9 => absurd hs.1 c9)
  exact tail u1 u2 H locs ls _ _ hs.2 hPc hDc hPm hDm hdis.symm hS hl (by omega) (by omega)
set_option maxHeartbeats 4000000 in
set_option maxRecDepth 100000 in
theorem law_called {p : Program} {l : Launch} {e : Env} {s : State} {m : MethodId} {below : List Frame} {meth : Method} {c : Code} {b L : Nat} {xs : Nat → Int32} (hC : CallFix p m c code 4 s #[Value.ref b] wsL_law RL) (hX : va_X b L xs s s.heap) (hbl : b < s.heap.size) (hL : L ≤ 2560) {D : va_G} {x A0 A1 A2 h : Nat} {cI cR cII dI dJ dZ : ClassId} {ad : Nat → Nat} (hKc : cKK D cI cR cII s) (hKm : va_K D vwCl (mTy dI dJ dZ) s) {i : Nat} (hi : i < 512) (h5 : 5 * i + 5 ≤ L) {S : CS} {T : MS} (hsim : SimN i S T) {H : Heap} {locs : List Loc} (hPc : va_P D vwCl (cW x A0 A1 A2 cI cR cII S) H) (hDc : va_D (fun q : Nat => s.heap.size ≤ q) (cW x A0 A1 A2 cI cR cII S)) (hPm : va_P D vwCl (mW h ad dI dJ dZ T) H) (hDm : va_D (fun q : Nat => s.heap.size ≤ q) (mW h ad dI dJ dZ T)) (hdis : wdis (cW x A0 A1 A2 cI cR cII S) (mW h ad dI dJ dZ T)) (hS : va_S (fun q : Nat => s.heap.size ≤ q) s.heap H locs) {ls : Array Slot} (hl : lv_has ls 4 [(0, .ref b), (1, .ref x), (2, .ref h), (3, .int (nI (5 * i)))]) {Q : State → Prop} (tail : ∀ (u1 : CS) (u2 : MS) (H : Heap) (locs : List Loc) (ls : Array Slot) (cells slots : Nat), SimN (i + 1) u1 u2 → va_P D vwCl (cW x A0 A1 A2 cI cR cII u1) H → va_D (fun q : Nat => s.heap.size ≤ q) (cW x A0 A1 A2 cI cR cII u1) → va_P D vwCl (mW h ad dI dJ dZ u2) H → va_D (fun q : Nat => s.heap.size ≤ q) (mW h ad dI dJ dZ u2) → wdis (cW x A0 A1 A2 cI cR cII u1) (mW h ad dI dJ dZ u2) → va_S (fun q : Nat => s.heap.size ≤ q) s.heap H locs → lv_has ls 4 [(0, .ref b), (1, .ref x), (2, .ref h), (3, .int (nI (5 * i)))] → cells ≤ 29 + 4 * (i + 1) → slots ≤ 80011 + 44 * (i + 1) → W p l e room_1 s m #[Value.ref b] below meth c H locs cells slots Q (F0 m 967 ls [])) : W p l e room_1 s m #[Value.ref b] below meth c H locs (29 + 4 * i) (80011 + 44 * i) Q (F0 m 620 ls []) := by
  obtain ⟨hx, hb, hml, hown, hts⟩ := id hC
  have hA : ∀ q : Nat, s.heap.size ≤ q → (fun q : Nat => s.heap.size ≤ q) q := fun _ h => h
  have hbA : ¬ (fun q : Nat => s.heap.size ≤ q) b := Nat.not_le.mpr hbl
  refine lv_aload_n hx hb dL_law_620 rfl (lv_at hl 1 rfl) ?_
  refine lv_aload_n hx hb dL_law_621 rfl (lv_at hl 0 rfl) ?_
  refine lv_iload_n hx hb dL_law_622 rfl (lv_at hl 3 rfl) ?_
  refine lv_iconst (v := 1) hx hb dL_law_623 (by decide) ?_
  refine lv_iadd hx hb dL_law_624 ?_
  refine va_sld hx hb hX hbl hbA hS (law_in hL h5 (d := 1) (by decide)) dL_law_625 ?_
  refine lv_aload_n hx hb dL_law_626 rfl (lv_at hl 0 rfl) ?_
  refine lv_iload_n hx hb dL_law_627 rfl (lv_at hl 3 rfl) ?_
  refine lv_iconst (v := 2) hx hb dL_law_628 (by decide) ?_
  refine lv_iadd hx hb dL_law_629 ?_
  refine va_sld hx hb hX hbl hbA hS (law_in hL h5 (d := 2) (by decide)) dL_law_630 ?_
  refine wz_callVi (As := [.int (xs (nI (5 * i) + 1).toNatClampNeg), .int (xs (nI (5 * i) + 2).toNatClampNeg)]) (rest := []) kst_C hC (c_X1_called l D x A0 A1 A2 cI cR cII S (xs (nI (5 * i) + 1).toNatClampNeg) (xs (nI (5 * i) + 2).toNatClampNeg) (okc_called hsim hi (xs (nI (5 * i) + 1).toNatClampNeg) (xs (nI (5 * i) + 2).toNatClampNeg))) (cwV 2 hts gL_law_X1_called rfl rfl rfl (by decide +kernel) ⟨by decide, by decide⟩) hKc hPc hDc hS hA (wc_cell hKc hPc) hPm hdis rfl hl.1 rfl (Nat.le_of_ble_eq_true rfl) dL_law_631 ⟨by show _ ≤ 600000; omega, by show _ ≤ 7302250; omega⟩ (fun r1 u1 H locs hw1 hPc hDc hPm hdis hS => ?_)
  refine lv_aload_n hx hb dL_law_634 rfl (lv_at hl 2 rfl) ?_
  refine lv_aload_n hx hb dL_law_635 rfl (lv_at hl 0 rfl) ?_
  refine lv_iload_n hx hb dL_law_636 rfl (lv_at hl 3 rfl) ?_
  refine lv_iconst (v := 1) hx hb dL_law_637 (by decide) ?_
  refine lv_iadd hx hb dL_law_638 ?_
  refine va_sld hx hb hX hbl hbA hS (law_in hL h5 (d := 1) (by decide)) dL_law_639 ?_
  refine lv_aload_n hx hb dL_law_640 rfl (lv_at hl 0 rfl) ?_
  refine lv_iload_n hx hb dL_law_641 rfl (lv_at hl 3 rfl) ?_
  refine lv_iconst (v := 2) hx hb dL_law_642 (by decide) ?_
  refine lv_iadd hx hb dL_law_643 ?_
  refine va_sld hx hb hX hbl hbA hS (law_in hL h5 (d := 2) (by decide)) dL_law_644 ?_
  refine wz_callVi (As := [.int (xs (nI (5 * i) + 1).toNatClampNeg), .int (xs (nI (5 * i) + 2).toNatClampNeg)]) (rest := [.int r1]) kst_K hC (c_X2_called l D h ad dI dJ dZ T (xs (nI (5 * i) + 1).toNatClampNeg) (xs (nI (5 * i) + 2).toNatClampNeg) (okm_called hsim hi (xs (nI (5 * i) + 1).toNatClampNeg) (xs (nI (5 * i) + 2).toNatClampNeg))) (cwV 2 hts gL_law_X2_called rfl rfl rfl (by decide +kernel) ⟨by decide, by decide⟩) hKm hPm hDm hS hA (wm_cell hKm hPm) hPc hdis.symm rfl hl.1 rfl (Nat.le_of_ble_eq_true rfl) dL_law_645 ⟨by show _ ≤ 600000; omega, by show _ ≤ 7302250; omega⟩ (fun r2 u2 H locs hw2 hPm hDm hPc hdis hS => ?_)
  have hs := L_called hsim hi (xs (nI (5 * i) + 1).toNatClampNeg) (xs (nI (5 * i) + 2).toNatClampNeg) hw1 hw2
  refine lv_icmp_eq (tgt := 967) hx hb dL_law_648 (by decide) (fun _ => ?_) (fun c9 => absurd hs.1 c9)
  exact tail u1 u2 H locs ls _ _ hs.2 hPc hDc hPm hDm hdis.symm hS hl (by omega) (by omega)
set_option maxHeartbeats 4000000 in
set_option maxRecDepth 100000 in
theorem law_barred {p : Program} {l : Launch} {e : Env} {s : State} {m : MethodId} {below : List Frame} {meth : Method} {c : Code} {b L : Nat} {xs : Nat → Int32} (hC : CallFix p m c code 4 s #[Value.ref b] wsL_law RL) (hX : va_X b L xs s s.heap) (hbl : b < s.heap.size) (hL : L ≤ 2560) {D : va_G} {x A0 A1 A2 h : Nat} {cI cR cII dI dJ dZ : ClassId} {ad : Nat → Nat} (hKc : cKK D cI cR cII s) (hKm : va_K D vwCl (mTy dI dJ dZ) s) {i : Nat} (hi : i < 512) (h5 : 5 * i + 5 ≤ L) {S : CS} {T : MS} (hsim : SimN i S T) {H : Heap} {locs : List Loc} (hPc : va_P D vwCl (cW x A0 A1 A2 cI cR cII S) H) (hDc : va_D (fun q : Nat => s.heap.size ≤ q) (cW x A0 A1 A2 cI cR cII S)) (hPm : va_P D vwCl (mW h ad dI dJ dZ T) H) (hDm : va_D (fun q : Nat => s.heap.size ≤ q) (mW h ad dI dJ dZ T)) (hdis : wdis (cW x A0 A1 A2 cI cR cII S) (mW h ad dI dJ dZ T)) (hS : va_S (fun q : Nat => s.heap.size ≤ q) s.heap H locs) {ls : Array Slot} (hl : lv_has ls 4 [(0, .ref b), (1, .ref x), (2, .ref h), (3, .int (nI (5 * i)))]) {Q : State → Prop} (tail : ∀ (u1 : CS) (u2 : MS) (H : Heap) (locs : List Loc) (ls : Array Slot) (cells slots : Nat), SimN (i + 1) u1 u2 → va_P D vwCl (cW x A0 A1 A2 cI cR cII u1) H → va_D (fun q : Nat => s.heap.size ≤ q) (cW x A0 A1 A2 cI cR cII u1) → va_P D vwCl (mW h ad dI dJ dZ u2) H → va_D (fun q : Nat => s.heap.size ≤ q) (mW h ad dI dJ dZ u2) → wdis (cW x A0 A1 A2 cI cR cII u1) (mW h ad dI dJ dZ u2) → va_S (fun q : Nat => s.heap.size ≤ q) s.heap H locs → lv_has ls 4 [(0, .ref b), (1, .ref x), (2, .ref h), (3, .int (nI (5 * i)))] → cells ≤ 29 + 4 * (i + 1) → slots ≤ 80011 + 44 * (i + 1) → W p l e room_1 s m #[Value.ref b] below meth c H locs cells slots Q (F0 m 967 ls [])) : W p l e room_1 s m #[Value.ref b] below meth c H locs (29 + 4 * i) (80011 + 44 * i) Q (F0 m 653 ls []) := by
  obtain ⟨hx, hb, hml, hown, hts⟩ := id hC
  have hA : ∀ q : Nat, s.heap.size ≤ q → (fun q : Nat => s.heap.size ≤ q) q := fun _ h => h
  have hbA : ¬ (fun q : Nat => s.heap.size ≤ q) b := Nat.not_le.mpr hbl
  refine lv_aload_n hx hb dL_law_653 rfl (lv_at hl 1 rfl) ?_
  refine lv_aload_n hx hb dL_law_654 rfl (lv_at hl 0 rfl) ?_
  refine lv_iload_n hx hb dL_law_655 rfl (lv_at hl 3 rfl) ?_
  refine lv_iconst (v := 1) hx hb dL_law_656 (by decide) ?_
  refine lv_iadd hx hb dL_law_657 ?_
  refine va_sld hx hb hX hbl hbA hS (law_in hL h5 (d := 1) (by decide)) dL_law_658 ?_
  refine lv_aload_n hx hb dL_law_659 rfl (lv_at hl 0 rfl) ?_
  refine lv_iload_n hx hb dL_law_660 rfl (lv_at hl 3 rfl) ?_
  refine lv_iconst (v := 2) hx hb dL_law_661 (by decide) ?_
  refine lv_iadd hx hb dL_law_662 ?_
  refine va_sld hx hb hX hbl hbA hS (law_in hL h5 (d := 2) (by decide)) dL_law_663 ?_
  refine lv_aload_n hx hb dL_law_664 rfl (lv_at hl 0 rfl) ?_
  refine lv_iload_n hx hb dL_law_665 rfl (lv_at hl 3 rfl) ?_
  refine lv_iconst (v := 3) hx hb dL_law_666 (by decide) ?_
  refine lv_iadd hx hb dL_law_667 ?_
  refine va_sld hx hb hX hbl hbA hS (law_in hL h5 (d := 3) (by decide)) dL_law_668 ?_
  refine wz_callVi (As := [.int (xs (nI (5 * i) + 1).toNatClampNeg), .int (xs (nI (5 * i) + 2).toNatClampNeg), .int (xs (nI (5 * i) + 3).toNatClampNeg)]) (rest := []) kst_C hC (c_X1_barred l D x A0 A1 A2 cI cR cII S (xs (nI (5 * i) + 1).toNatClampNeg) (xs (nI (5 * i) + 2).toNatClampNeg) (xs (nI (5 * i) + 3).toNatClampNeg) (okc_barred hsim hi (xs (nI (5 * i) + 1).toNatClampNeg) (xs (nI (5 * i) + 2).toNatClampNeg) (xs (nI (5 * i) + 3).toNatClampNeg))) (cwV 3 hts gL_law_X1_barred rfl rfl rfl (by decide +kernel) ⟨by decide, by decide⟩) hKc hPc hDc hS hA (wc_cell hKc hPc) hPm hdis rfl hl.1 rfl (Nat.le_of_ble_eq_true rfl) dL_law_669 ⟨by show _ ≤ 600000; omega, by show _ ≤ 7302250; omega⟩ (fun r1 u1 H locs hw1 hPc hDc hPm hdis hS => ?_)
  refine lv_aload_n hx hb dL_law_672 rfl (lv_at hl 2 rfl) ?_
  refine lv_aload_n hx hb dL_law_673 rfl (lv_at hl 0 rfl) ?_
  refine lv_iload_n hx hb dL_law_674 rfl (lv_at hl 3 rfl) ?_
  refine lv_iconst (v := 1) hx hb dL_law_675 (by decide) ?_
  refine lv_iadd hx hb dL_law_676 ?_
  refine va_sld hx hb hX hbl hbA hS (law_in hL h5 (d := 1) (by decide)) dL_law_677 ?_
  refine lv_aload_n hx hb dL_law_678 rfl (lv_at hl 0 rfl) ?_
  refine lv_iload_n hx hb dL_law_679 rfl (lv_at hl 3 rfl) ?_
  refine lv_iconst (v := 2) hx hb dL_law_680 (by decide) ?_
  refine lv_iadd hx hb dL_law_681 ?_
  refine va_sld hx hb hX hbl hbA hS (law_in hL h5 (d := 2) (by decide)) dL_law_682 ?_
  refine lv_aload_n hx hb dL_law_683 rfl (lv_at hl 0 rfl) ?_
  refine lv_iload_n hx hb dL_law_684 rfl (lv_at hl 3 rfl) ?_
  refine lv_iconst (v := 3) hx hb dL_law_685 (by decide) ?_
  refine lv_iadd hx hb dL_law_686 ?_
  refine va_sld hx hb hX hbl hbA hS (law_in hL h5 (d := 3) (by decide)) dL_law_687 ?_
  refine wz_callVi (As := [.int (xs (nI (5 * i) + 1).toNatClampNeg), .int (xs (nI (5 * i) + 2).toNatClampNeg), .int (xs (nI (5 * i) + 3).toNatClampNeg)]) (rest := [.int r1]) kst_K hC (c_X2_barred l D h ad dI dJ dZ T (xs (nI (5 * i) + 1).toNatClampNeg) (xs (nI (5 * i) + 2).toNatClampNeg) (xs (nI (5 * i) + 3).toNatClampNeg) (okm_barred hsim hi (xs (nI (5 * i) + 1).toNatClampNeg) (xs (nI (5 * i) + 2).toNatClampNeg) (xs (nI (5 * i) + 3).toNatClampNeg))) (cwV 3 hts gL_law_X2_barred rfl rfl rfl (by decide +kernel) ⟨by decide, by decide⟩) hKm hPm hDm hS hA (wm_cell hKm hPm) hPc hdis.symm rfl hl.1 rfl (Nat.le_of_ble_eq_true rfl) dL_law_688 ⟨by show _ ≤ 600000; omega, by show _ ≤ 7302250; omega⟩ (fun r2 u2 H locs hw2 hPm hDm hPc hdis hS => ?_)
  have hs := L_barred hsim hi (xs (nI (5 * i) + 1).toNatClampNeg) (xs (nI (5 * i) + 2).toNatClampNeg) (xs (nI (5 * i) + 3).toNatClampNeg) hw1 hw2
  refine lv_icmp_eq (tgt := 967) hx hb dL_law_691 (by decide) (fun _ => ?_) (fun c9 => absurd hs.1 c9)
  exact tail u1 u2 H locs ls _ _ hs.2 hPc hDc hPm hDm hdis.symm hS hl (by omega) (by omega)
set_option maxHeartbeats 4000000 in
set_option maxRecDepth 100000 in
theorem law_counted {p : Program} {l : Launch} {e : Env} {s : State} {m : MethodId} {below : List Frame} {meth : Method} {c : Code} {b L : Nat} {xs : Nat → Int32} (hC : CallFix p m c code 4 s #[Value.ref b] wsL_law RL) (hX : va_X b L xs s s.heap) (hbl : b < s.heap.size) (hL : L ≤ 2560) {D : va_G} {x A0 A1 A2 h : Nat} {cI cR cII dI dJ dZ : ClassId} {ad : Nat → Nat} (hKc : cKK D cI cR cII s) (hKm : va_K D vwCl (mTy dI dJ dZ) s) {i : Nat} (hi : i < 512) (h5 : 5 * i + 5 ≤ L) {S : CS} {T : MS} (hsim : SimN i S T) {H : Heap} {locs : List Loc} (hPc : va_P D vwCl (cW x A0 A1 A2 cI cR cII S) H) (hDc : va_D (fun q : Nat => s.heap.size ≤ q) (cW x A0 A1 A2 cI cR cII S)) (hPm : va_P D vwCl (mW h ad dI dJ dZ T) H) (hDm : va_D (fun q : Nat => s.heap.size ≤ q) (mW h ad dI dJ dZ T)) (hdis : wdis (cW x A0 A1 A2 cI cR cII S) (mW h ad dI dJ dZ T)) (hS : va_S (fun q : Nat => s.heap.size ≤ q) s.heap H locs) {ls : Array Slot} (hl : lv_has ls 4 [(0, .ref b), (1, .ref x), (2, .ref h), (3, .int (nI (5 * i)))]) {Q : State → Prop} (tail : ∀ (u1 : CS) (u2 : MS) (H : Heap) (locs : List Loc) (ls : Array Slot) (cells slots : Nat), SimN (i + 1) u1 u2 → va_P D vwCl (cW x A0 A1 A2 cI cR cII u1) H → va_D (fun q : Nat => s.heap.size ≤ q) (cW x A0 A1 A2 cI cR cII u1) → va_P D vwCl (mW h ad dI dJ dZ u2) H → va_D (fun q : Nat => s.heap.size ≤ q) (mW h ad dI dJ dZ u2) → wdis (cW x A0 A1 A2 cI cR cII u1) (mW h ad dI dJ dZ u2) → va_S (fun q : Nat => s.heap.size ≤ q) s.heap H locs → lv_has ls 4 [(0, .ref b), (1, .ref x), (2, .ref h), (3, .int (nI (5 * i)))] → cells ≤ 29 + 4 * (i + 1) → slots ≤ 80011 + 44 * (i + 1) → W p l e room_1 s m #[Value.ref b] below meth c H locs cells slots Q (F0 m 967 ls [])) : W p l e room_1 s m #[Value.ref b] below meth c H locs (29 + 4 * i) (80011 + 44 * i) Q (F0 m 696 ls []) := by
  obtain ⟨hx, hb, hml, hown, hts⟩ := id hC
  have hA : ∀ q : Nat, s.heap.size ≤ q → (fun q : Nat => s.heap.size ≤ q) q := fun _ h => h
  have hbA : ¬ (fun q : Nat => s.heap.size ≤ q) b := Nat.not_le.mpr hbl
  refine lv_aload_n hx hb dL_law_696 rfl (lv_at hl 1 rfl) ?_
  refine lv_aload_n hx hb dL_law_697 rfl (lv_at hl 0 rfl) ?_
  refine lv_iload_n hx hb dL_law_698 rfl (lv_at hl 3 rfl) ?_
  refine lv_iconst (v := 1) hx hb dL_law_699 (by decide) ?_
  refine lv_iadd hx hb dL_law_700 ?_
  refine va_sld hx hb hX hbl hbA hS (law_in hL h5 (d := 1) (by decide)) dL_law_701 ?_
  refine lv_aload_n hx hb dL_law_702 rfl (lv_at hl 0 rfl) ?_
  refine lv_iload_n hx hb dL_law_703 rfl (lv_at hl 3 rfl) ?_
  refine lv_iconst (v := 2) hx hb dL_law_704 (by decide) ?_
  refine lv_iadd hx hb dL_law_705 ?_
  refine va_sld hx hb hX hbl hbA hS (law_in hL h5 (d := 2) (by decide)) dL_law_706 ?_
  refine wz_callVi (As := [.int (xs (nI (5 * i) + 1).toNatClampNeg), .int (xs (nI (5 * i) + 2).toNatClampNeg)]) (rest := []) kst_C hC (c_X1_counted l D x A0 A1 A2 cI cR cII S (xs (nI (5 * i) + 1).toNatClampNeg) (xs (nI (5 * i) + 2).toNatClampNeg) (okc_counted hsim hi (xs (nI (5 * i) + 1).toNatClampNeg) (xs (nI (5 * i) + 2).toNatClampNeg))) (cwV 2 hts gL_law_X1_counted rfl rfl rfl (by decide +kernel) ⟨by decide, by decide⟩) hKc hPc hDc hS hA (wc_cell hKc hPc) hPm hdis rfl hl.1 rfl (Nat.le_of_ble_eq_true rfl) dL_law_707 ⟨by show _ ≤ 600000; omega, by show _ ≤ 7302250; omega⟩ (fun r1 u1 H locs hw1 hPc hDc hPm hdis hS => ?_)
  refine lv_aload_n hx hb dL_law_710 rfl (lv_at hl 2 rfl) ?_
  refine lv_aload_n hx hb dL_law_711 rfl (lv_at hl 0 rfl) ?_
  refine lv_iload_n hx hb dL_law_712 rfl (lv_at hl 3 rfl) ?_
  refine lv_iconst (v := 1) hx hb dL_law_713 (by decide) ?_
  refine lv_iadd hx hb dL_law_714 ?_
  refine va_sld hx hb hX hbl hbA hS (law_in hL h5 (d := 1) (by decide)) dL_law_715 ?_
  refine lv_aload_n hx hb dL_law_716 rfl (lv_at hl 0 rfl) ?_
  refine lv_iload_n hx hb dL_law_717 rfl (lv_at hl 3 rfl) ?_
  refine lv_iconst (v := 2) hx hb dL_law_718 (by decide) ?_
  refine lv_iadd hx hb dL_law_719 ?_
  refine va_sld hx hb hX hbl hbA hS (law_in hL h5 (d := 2) (by decide)) dL_law_720 ?_
  refine wz_callVi (As := [.int (xs (nI (5 * i) + 1).toNatClampNeg), .int (xs (nI (5 * i) + 2).toNatClampNeg)]) (rest := [.int r1]) kst_K hC (c_X2_counted l D h ad dI dJ dZ T (xs (nI (5 * i) + 1).toNatClampNeg) (xs (nI (5 * i) + 2).toNatClampNeg) (okm_counted hsim hi (xs (nI (5 * i) + 1).toNatClampNeg) (xs (nI (5 * i) + 2).toNatClampNeg))) (cwV 2 hts gL_law_X2_counted rfl rfl rfl (by decide +kernel) ⟨by decide, by decide⟩) hKm hPm hDm hS hA (wm_cell hKm hPm) hPc hdis.symm rfl hl.1 rfl (Nat.le_of_ble_eq_true rfl) dL_law_721 ⟨by show _ ≤ 600000; omega, by show _ ≤ 7302250; omega⟩ (fun r2 u2 H locs hw2 hPm hDm hPc hdis hS => ?_)
  have hs := L_counted hsim hi (xs (nI (5 * i) + 1).toNatClampNeg) (xs (nI (5 * i) + 2).toNatClampNeg) hw1 hw2
  refine lv_icmp_eq (tgt := 967) hx hb dL_law_724 (by decide) (fun _ => ?_) (fun c9 => absurd hs.1 c9)
  exact tail u1 u2 H locs ls _ _ hs.2 hPc hDc hPm hDm hdis.symm hS hl (by omega) (by omega)
set_option maxHeartbeats 4000000 in
set_option maxRecDepth 100000 in
theorem law_kept {p : Program} {l : Launch} {e : Env} {s : State} {m : MethodId} {below : List Frame} {meth : Method} {c : Code} {b L : Nat} {xs : Nat → Int32} (hC : CallFix p m c code 4 s #[Value.ref b] wsL_law RL) (hX : va_X b L xs s s.heap) (hbl : b < s.heap.size) (hL : L ≤ 2560) {D : va_G} {x A0 A1 A2 h : Nat} {cI cR cII dI dJ dZ : ClassId} {ad : Nat → Nat} (hKc : cKK D cI cR cII s) (hKm : va_K D vwCl (mTy dI dJ dZ) s) {i : Nat} (hi : i < 512) (h5 : 5 * i + 5 ≤ L) {S : CS} {T : MS} (hsim : SimN i S T) {H : Heap} {locs : List Loc} (hPc : va_P D vwCl (cW x A0 A1 A2 cI cR cII S) H) (hDc : va_D (fun q : Nat => s.heap.size ≤ q) (cW x A0 A1 A2 cI cR cII S)) (hPm : va_P D vwCl (mW h ad dI dJ dZ T) H) (hDm : va_D (fun q : Nat => s.heap.size ≤ q) (mW h ad dI dJ dZ T)) (hdis : wdis (cW x A0 A1 A2 cI cR cII S) (mW h ad dI dJ dZ T)) (hS : va_S (fun q : Nat => s.heap.size ≤ q) s.heap H locs) {ls : Array Slot} (hl : lv_has ls 4 [(0, .ref b), (1, .ref x), (2, .ref h), (3, .int (nI (5 * i)))]) {Q : State → Prop} (tail : ∀ (u1 : CS) (u2 : MS) (H : Heap) (locs : List Loc) (ls : Array Slot) (cells slots : Nat), SimN (i + 1) u1 u2 → va_P D vwCl (cW x A0 A1 A2 cI cR cII u1) H → va_D (fun q : Nat => s.heap.size ≤ q) (cW x A0 A1 A2 cI cR cII u1) → va_P D vwCl (mW h ad dI dJ dZ u2) H → va_D (fun q : Nat => s.heap.size ≤ q) (mW h ad dI dJ dZ u2) → wdis (cW x A0 A1 A2 cI cR cII u1) (mW h ad dI dJ dZ u2) → va_S (fun q : Nat => s.heap.size ≤ q) s.heap H locs → lv_has ls 4 [(0, .ref b), (1, .ref x), (2, .ref h), (3, .int (nI (5 * i)))] → cells ≤ 29 + 4 * (i + 1) → slots ≤ 80011 + 44 * (i + 1) → W p l e room_1 s m #[Value.ref b] below meth c H locs cells slots Q (F0 m 967 ls [])) : W p l e room_1 s m #[Value.ref b] below meth c H locs (29 + 4 * i) (80011 + 44 * i) Q (F0 m 729 ls []) := by
  obtain ⟨hx, hb, hml, hown, hts⟩ := id hC
  have hA : ∀ q : Nat, s.heap.size ≤ q → (fun q : Nat => s.heap.size ≤ q) q := fun _ h => h
  have hbA : ¬ (fun q : Nat => s.heap.size ≤ q) b := Nat.not_le.mpr hbl
  refine lv_aload_n hx hb dL_law_729 rfl (lv_at hl 1 rfl) ?_
  refine lv_aload_n hx hb dL_law_730 rfl (lv_at hl 0 rfl) ?_
  refine lv_iload_n hx hb dL_law_731 rfl (lv_at hl 3 rfl) ?_
  refine lv_iconst (v := 1) hx hb dL_law_732 (by decide) ?_
  refine lv_iadd hx hb dL_law_733 ?_
  refine va_sld hx hb hX hbl hbA hS (law_in hL h5 (d := 1) (by decide)) dL_law_734 ?_
  refine lv_aload_n hx hb dL_law_735 rfl (lv_at hl 0 rfl) ?_
  refine lv_iload_n hx hb dL_law_736 rfl (lv_at hl 3 rfl) ?_
  refine lv_iconst (v := 2) hx hb dL_law_737 (by decide) ?_
  refine lv_iadd hx hb dL_law_738 ?_
  refine va_sld hx hb hX hbl hbA hS (law_in hL h5 (d := 2) (by decide)) dL_law_739 ?_
  refine wz_callVi (As := [.int (xs (nI (5 * i) + 1).toNatClampNeg), .int (xs (nI (5 * i) + 2).toNatClampNeg)]) (rest := []) kst_C hC (c_X1_kept l D x A0 A1 A2 cI cR cII S (xs (nI (5 * i) + 1).toNatClampNeg) (xs (nI (5 * i) + 2).toNatClampNeg) (okc_kept hsim hi (xs (nI (5 * i) + 1).toNatClampNeg) (xs (nI (5 * i) + 2).toNatClampNeg))) (cwV 2 hts gL_law_X1_kept rfl rfl rfl (by decide +kernel) ⟨by decide, by decide⟩) hKc hPc hDc hS hA (wc_cell hKc hPc) hPm hdis rfl hl.1 rfl (Nat.le_of_ble_eq_true rfl) dL_law_740 ⟨by show _ ≤ 600000; omega, by show _ ≤ 7302250; omega⟩ (fun r1 u1 H locs hw1 hPc hDc hPm hdis hS => ?_)
  refine lv_aload_n hx hb dL_law_743 rfl (lv_at hl 2 rfl) ?_
  refine lv_aload_n hx hb dL_law_744 rfl (lv_at hl 0 rfl) ?_
  refine lv_iload_n hx hb dL_law_745 rfl (lv_at hl 3 rfl) ?_
  refine lv_iconst (v := 1) hx hb dL_law_746 (by decide) ?_
  refine lv_iadd hx hb dL_law_747 ?_
  refine va_sld hx hb hX hbl hbA hS (law_in hL h5 (d := 1) (by decide)) dL_law_748 ?_
  refine lv_aload_n hx hb dL_law_749 rfl (lv_at hl 0 rfl) ?_
  refine lv_iload_n hx hb dL_law_750 rfl (lv_at hl 3 rfl) ?_
  refine lv_iconst (v := 2) hx hb dL_law_751 (by decide) ?_
  refine lv_iadd hx hb dL_law_752 ?_
  refine va_sld hx hb hX hbl hbA hS (law_in hL h5 (d := 2) (by decide)) dL_law_753 ?_
  refine wz_callVi (As := [.int (xs (nI (5 * i) + 1).toNatClampNeg), .int (xs (nI (5 * i) + 2).toNatClampNeg)]) (rest := [.int r1]) kst_K hC (c_X2_kept l D h ad dI dJ dZ T (xs (nI (5 * i) + 1).toNatClampNeg) (xs (nI (5 * i) + 2).toNatClampNeg) (okm_kept hsim hi (xs (nI (5 * i) + 1).toNatClampNeg) (xs (nI (5 * i) + 2).toNatClampNeg))) (cwV 2 hts gL_law_X2_kept rfl rfl rfl (by decide +kernel) ⟨by decide, by decide⟩) hKm hPm hDm hS hA (wm_cell hKm hPm) hPc hdis.symm rfl hl.1 rfl (Nat.le_of_ble_eq_true rfl) dL_law_754 ⟨by show _ ≤ 600000; omega, by show _ ≤ 7302250; omega⟩ (fun r2 u2 H locs hw2 hPm hDm hPc hdis hS => ?_)
  have hs := L_kept hsim hi (xs (nI (5 * i) + 1).toNatClampNeg) (xs (nI (5 * i) + 2).toNatClampNeg) hw1 hw2
  refine lv_icmp_eq (tgt := 967) hx hb dL_law_757 (by decide) (fun _ => ?_) (fun c9 => absurd hs.1 c9)
  exact tail u1 u2 H locs ls _ _ hs.2 hPc hDc hPm hDm hdis.symm hS hl (by omega) (by omega)
set_option maxHeartbeats 4000000 in
set_option maxRecDepth 100000 in
theorem law_put {p : Program} {l : Launch} {e : Env} {s : State} {m : MethodId} {below : List Frame} {meth : Method} {c : Code} {b L : Nat} {xs : Nat → Int32} (hC : CallFix p m c code 4 s #[Value.ref b] wsL_law RL) (hX : va_X b L xs s s.heap) (hbl : b < s.heap.size) (hL : L ≤ 2560) {D : va_G} {x A0 A1 A2 h : Nat} {cI cR cII dI dJ dZ : ClassId} {ad : Nat → Nat} (hKc : cKK D cI cR cII s) (hKm : va_K D vwCl (mTy dI dJ dZ) s) {i : Nat} (hi : i < 512) (h5 : 5 * i + 5 ≤ L) {S : CS} {T : MS} (hsim : SimN i S T) {H : Heap} {locs : List Loc} (hPc : va_P D vwCl (cW x A0 A1 A2 cI cR cII S) H) (hDc : va_D (fun q : Nat => s.heap.size ≤ q) (cW x A0 A1 A2 cI cR cII S)) (hPm : va_P D vwCl (mW h ad dI dJ dZ T) H) (hDm : va_D (fun q : Nat => s.heap.size ≤ q) (mW h ad dI dJ dZ T)) (hdis : wdis (cW x A0 A1 A2 cI cR cII S) (mW h ad dI dJ dZ T)) (hS : va_S (fun q : Nat => s.heap.size ≤ q) s.heap H locs) {ls : Array Slot} (hl : lv_has ls 4 [(0, .ref b), (1, .ref x), (2, .ref h), (3, .int (nI (5 * i)))]) {Q : State → Prop} (tail : ∀ (u1 : CS) (u2 : MS) (H : Heap) (locs : List Loc) (ls : Array Slot) (cells slots : Nat), SimN (i + 1) u1 u2 → va_P D vwCl (cW x A0 A1 A2 cI cR cII u1) H → va_D (fun q : Nat => s.heap.size ≤ q) (cW x A0 A1 A2 cI cR cII u1) → va_P D vwCl (mW h ad dI dJ dZ u2) H → va_D (fun q : Nat => s.heap.size ≤ q) (mW h ad dI dJ dZ u2) → wdis (cW x A0 A1 A2 cI cR cII u1) (mW h ad dI dJ dZ u2) → va_S (fun q : Nat => s.heap.size ≤ q) s.heap H locs → lv_has ls 4 [(0, .ref b), (1, .ref x), (2, .ref h), (3, .int (nI (5 * i)))] → cells ≤ 29 + 4 * (i + 1) → slots ≤ 80011 + 44 * (i + 1) → W p l e room_1 s m #[Value.ref b] below meth c H locs cells slots Q (F0 m 967 ls [])) : W p l e room_1 s m #[Value.ref b] below meth c H locs (29 + 4 * i) (80011 + 44 * i) Q (F0 m 762 ls []) := by
  obtain ⟨hx, hb, hml, hown, hts⟩ := id hC
  have hA : ∀ q : Nat, s.heap.size ≤ q → (fun q : Nat => s.heap.size ≤ q) q := fun _ h => h
  have hbA : ¬ (fun q : Nat => s.heap.size ≤ q) b := Nat.not_le.mpr hbl
  refine lv_aload_n hx hb dL_law_762 rfl (lv_at hl 1 rfl) ?_
  refine lv_aload_n hx hb dL_law_763 rfl (lv_at hl 0 rfl) ?_
  refine lv_iload_n hx hb dL_law_764 rfl (lv_at hl 3 rfl) ?_
  refine lv_iconst (v := 1) hx hb dL_law_765 (by decide) ?_
  refine lv_iadd hx hb dL_law_766 ?_
  refine va_sld hx hb hX hbl hbA hS (law_in hL h5 (d := 1) (by decide)) dL_law_767 ?_
  refine lv_aload_n hx hb dL_law_768 rfl (lv_at hl 0 rfl) ?_
  refine lv_iload_n hx hb dL_law_769 rfl (lv_at hl 3 rfl) ?_
  refine lv_iconst (v := 2) hx hb dL_law_770 (by decide) ?_
  refine lv_iadd hx hb dL_law_771 ?_
  refine va_sld hx hb hX hbl hbA hS (law_in hL h5 (d := 2) (by decide)) dL_law_772 ?_
  refine wz_callVi (As := [.int (xs (nI (5 * i) + 1).toNatClampNeg), .int (xs (nI (5 * i) + 2).toNatClampNeg)]) (rest := []) kst_C hC (c_X1_put l D x A0 A1 A2 cI cR cII S (xs (nI (5 * i) + 1).toNatClampNeg) (xs (nI (5 * i) + 2).toNatClampNeg) (okc_put hsim hi (xs (nI (5 * i) + 1).toNatClampNeg) (xs (nI (5 * i) + 2).toNatClampNeg))) (cwV 2 hts gL_law_X1_put rfl rfl rfl (by decide +kernel) ⟨by decide, by decide⟩) hKc hPc hDc hS hA (wc_cell hKc hPc) hPm hdis rfl hl.1 rfl (Nat.le_of_ble_eq_true rfl) dL_law_773 ⟨by show _ ≤ 600000; omega, by show _ ≤ 7302250; omega⟩ (fun r1 u1 H locs hw1 hPc hDc hPm hdis hS => ?_)
  refine lv_aload_n hx hb dL_law_776 rfl (lv_at hl 2 rfl) ?_
  refine lv_aload_n hx hb dL_law_777 rfl (lv_at hl 0 rfl) ?_
  refine lv_iload_n hx hb dL_law_778 rfl (lv_at hl 3 rfl) ?_
  refine lv_iconst (v := 1) hx hb dL_law_779 (by decide) ?_
  refine lv_iadd hx hb dL_law_780 ?_
  refine va_sld hx hb hX hbl hbA hS (law_in hL h5 (d := 1) (by decide)) dL_law_781 ?_
  refine lv_aload_n hx hb dL_law_782 rfl (lv_at hl 0 rfl) ?_
  refine lv_iload_n hx hb dL_law_783 rfl (lv_at hl 3 rfl) ?_
  refine lv_iconst (v := 2) hx hb dL_law_784 (by decide) ?_
  refine lv_iadd hx hb dL_law_785 ?_
  refine va_sld hx hb hX hbl hbA hS (law_in hL h5 (d := 2) (by decide)) dL_law_786 ?_
  refine wz_callVi (As := [.int (xs (nI (5 * i) + 1).toNatClampNeg), .int (xs (nI (5 * i) + 2).toNatClampNeg)]) (rest := [.int r1]) kst_K hC (c_X2_put l D h ad dI dJ dZ T (xs (nI (5 * i) + 1).toNatClampNeg) (xs (nI (5 * i) + 2).toNatClampNeg) (okm_put hsim hi (xs (nI (5 * i) + 1).toNatClampNeg) (xs (nI (5 * i) + 2).toNatClampNeg))) (cwV 2 hts gL_law_X2_put rfl rfl rfl (by decide +kernel) ⟨by decide, by decide⟩) hKm hPm hDm hS hA (wm_cell hKm hPm) hPc hdis.symm rfl hl.1 rfl (Nat.le_of_ble_eq_true rfl) dL_law_787 ⟨by show _ ≤ 600000; omega, by show _ ≤ 7302250; omega⟩ (fun r2 u2 H locs hw2 hPm hDm hPc hdis hS => ?_)
  have hs := L_put hsim hi (xs (nI (5 * i) + 1).toNatClampNeg) (xs (nI (5 * i) + 2).toNatClampNeg) hw1 hw2
  refine lv_icmp_eq (tgt := 967) hx hb dL_law_790 (by decide) (fun _ => ?_) (fun c9 => absurd hs.1 c9)
  exact tail u1 u2 H locs ls _ _ hs.2 hPc hDc hPm hDm hdis.symm hS hl (by omega) (by omega)
set_option maxHeartbeats 4000000 in
set_option maxRecDepth 100000 in
theorem law_take {p : Program} {l : Launch} {e : Env} {s : State} {m : MethodId} {below : List Frame} {meth : Method} {c : Code} {b L : Nat} {xs : Nat → Int32} (hC : CallFix p m c code 4 s #[Value.ref b] wsL_law RL) (hX : va_X b L xs s s.heap) (hbl : b < s.heap.size) (hL : L ≤ 2560) {D : va_G} {x A0 A1 A2 h : Nat} {cI cR cII dI dJ dZ : ClassId} {ad : Nat → Nat} (hKc : cKK D cI cR cII s) (hKm : va_K D vwCl (mTy dI dJ dZ) s) {i : Nat} (hi : i < 512) (h5 : 5 * i + 5 ≤ L) {S : CS} {T : MS} (hsim : SimN i S T) {H : Heap} {locs : List Loc} (hPc : va_P D vwCl (cW x A0 A1 A2 cI cR cII S) H) (hDc : va_D (fun q : Nat => s.heap.size ≤ q) (cW x A0 A1 A2 cI cR cII S)) (hPm : va_P D vwCl (mW h ad dI dJ dZ T) H) (hDm : va_D (fun q : Nat => s.heap.size ≤ q) (mW h ad dI dJ dZ T)) (hdis : wdis (cW x A0 A1 A2 cI cR cII S) (mW h ad dI dJ dZ T)) (hS : va_S (fun q : Nat => s.heap.size ≤ q) s.heap H locs) {ls : Array Slot} (hl : lv_has ls 4 [(0, .ref b), (1, .ref x), (2, .ref h), (3, .int (nI (5 * i)))]) {Q : State → Prop} (tail : ∀ (u1 : CS) (u2 : MS) (H : Heap) (locs : List Loc) (ls : Array Slot) (cells slots : Nat), SimN (i + 1) u1 u2 → va_P D vwCl (cW x A0 A1 A2 cI cR cII u1) H → va_D (fun q : Nat => s.heap.size ≤ q) (cW x A0 A1 A2 cI cR cII u1) → va_P D vwCl (mW h ad dI dJ dZ u2) H → va_D (fun q : Nat => s.heap.size ≤ q) (mW h ad dI dJ dZ u2) → wdis (cW x A0 A1 A2 cI cR cII u1) (mW h ad dI dJ dZ u2) → va_S (fun q : Nat => s.heap.size ≤ q) s.heap H locs → lv_has ls 4 [(0, .ref b), (1, .ref x), (2, .ref h), (3, .int (nI (5 * i)))] → cells ≤ 29 + 4 * (i + 1) → slots ≤ 80011 + 44 * (i + 1) → W p l e room_1 s m #[Value.ref b] below meth c H locs cells slots Q (F0 m 967 ls [])) : W p l e room_1 s m #[Value.ref b] below meth c H locs (29 + 4 * i) (80011 + 44 * i) Q (F0 m 795 ls []) := by
  obtain ⟨hx, hb, hml, hown, hts⟩ := id hC
  have hA : ∀ q : Nat, s.heap.size ≤ q → (fun q : Nat => s.heap.size ≤ q) q := fun _ h => h
  have hbA : ¬ (fun q : Nat => s.heap.size ≤ q) b := Nat.not_le.mpr hbl
  refine lv_aload_n hx hb dL_law_795 rfl (lv_at hl 1 rfl) ?_
  refine lv_aload_n hx hb dL_law_796 rfl (lv_at hl 0 rfl) ?_
  refine lv_iload_n hx hb dL_law_797 rfl (lv_at hl 3 rfl) ?_
  refine lv_iconst (v := 1) hx hb dL_law_798 (by decide) ?_
  refine lv_iadd hx hb dL_law_799 ?_
  refine va_sld hx hb hX hbl hbA hS (law_in hL h5 (d := 1) (by decide)) dL_law_800 ?_
  refine wz_callVi (As := [.int (xs (nI (5 * i) + 1).toNatClampNeg)]) (rest := []) kst_C hC (c_X1_take l D x A0 A1 A2 cI cR cII S (xs (nI (5 * i) + 1).toNatClampNeg) (okc_take hsim hi (xs (nI (5 * i) + 1).toNatClampNeg))) (cwV 1 hts gL_law_X1_take rfl rfl rfl (by decide +kernel) ⟨by decide, by decide⟩) hKc hPc hDc hS hA (wc_cell hKc hPc) hPm hdis rfl hl.1 rfl (Nat.le_of_ble_eq_true rfl) dL_law_801 ⟨by show _ ≤ 600000; omega, by show _ ≤ 7302250; omega⟩ (fun r1 u1 H locs hw1 hPc hDc hPm hdis hS => ?_)
  refine lv_aload_n hx hb dL_law_804 rfl (lv_at hl 2 rfl) ?_
  refine lv_aload_n hx hb dL_law_805 rfl (lv_at hl 0 rfl) ?_
  refine lv_iload_n hx hb dL_law_806 rfl (lv_at hl 3 rfl) ?_
  refine lv_iconst (v := 1) hx hb dL_law_807 (by decide) ?_
  refine lv_iadd hx hb dL_law_808 ?_
  refine va_sld hx hb hX hbl hbA hS (law_in hL h5 (d := 1) (by decide)) dL_law_809 ?_
  refine wz_callVi (As := [.int (xs (nI (5 * i) + 1).toNatClampNeg)]) (rest := [.int r1]) kst_K hC (c_X2_take l D h ad dI dJ dZ T (xs (nI (5 * i) + 1).toNatClampNeg) (okm_take hsim hi (xs (nI (5 * i) + 1).toNatClampNeg))) (cwV 1 hts gL_law_X2_take rfl rfl rfl (by decide +kernel) ⟨by decide, by decide⟩) hKm hPm hDm hS hA (wm_cell hKm hPm) hPc hdis.symm rfl hl.1 rfl (Nat.le_of_ble_eq_true rfl) dL_law_810 ⟨by show _ ≤ 600000; omega, by show _ ≤ 7302250; omega⟩ (fun r2 u2 H locs hw2 hPm hDm hPc hdis hS => ?_)
  have hs := L_take hsim hi (xs (nI (5 * i) + 1).toNatClampNeg) hw1 hw2
  refine lv_icmp_eq (tgt := 967) hx hb dL_law_813 (by decide) (fun _ => ?_) (fun c9 => absurd hs.1 c9)
  exact tail u1 u2 H locs ls _ _ hs.2 hPc hDc hPm hDm hdis.symm hS hl (by omega) (by omega)
set_option maxHeartbeats 4000000 in
set_option maxRecDepth 100000 in
theorem law_ask {p : Program} {l : Launch} {e : Env} {s : State} {m : MethodId} {below : List Frame} {meth : Method} {c : Code} {b L : Nat} {xs : Nat → Int32} (hC : CallFix p m c code 4 s #[Value.ref b] wsL_law RL) (hX : va_X b L xs s s.heap) (hbl : b < s.heap.size) (hL : L ≤ 2560) {D : va_G} {x A0 A1 A2 h : Nat} {cI cR cII dI dJ dZ : ClassId} {ad : Nat → Nat} (hKc : cKK D cI cR cII s) (hKm : va_K D vwCl (mTy dI dJ dZ) s) {i : Nat} (hi : i < 512) (h5 : 5 * i + 5 ≤ L) {S : CS} {T : MS} (hsim : SimN i S T) {H : Heap} {locs : List Loc} (hPc : va_P D vwCl (cW x A0 A1 A2 cI cR cII S) H) (hDc : va_D (fun q : Nat => s.heap.size ≤ q) (cW x A0 A1 A2 cI cR cII S)) (hPm : va_P D vwCl (mW h ad dI dJ dZ T) H) (hDm : va_D (fun q : Nat => s.heap.size ≤ q) (mW h ad dI dJ dZ T)) (hdis : wdis (cW x A0 A1 A2 cI cR cII S) (mW h ad dI dJ dZ T)) (hS : va_S (fun q : Nat => s.heap.size ≤ q) s.heap H locs) {ls : Array Slot} (hl : lv_has ls 4 [(0, .ref b), (1, .ref x), (2, .ref h), (3, .int (nI (5 * i)))]) {Q : State → Prop} (tail : ∀ (u1 : CS) (u2 : MS) (H : Heap) (locs : List Loc) (ls : Array Slot) (cells slots : Nat), SimN (i + 1) u1 u2 → va_P D vwCl (cW x A0 A1 A2 cI cR cII u1) H → va_D (fun q : Nat => s.heap.size ≤ q) (cW x A0 A1 A2 cI cR cII u1) → va_P D vwCl (mW h ad dI dJ dZ u2) H → va_D (fun q : Nat => s.heap.size ≤ q) (mW h ad dI dJ dZ u2) → wdis (cW x A0 A1 A2 cI cR cII u1) (mW h ad dI dJ dZ u2) → va_S (fun q : Nat => s.heap.size ≤ q) s.heap H locs → lv_has ls 4 [(0, .ref b), (1, .ref x), (2, .ref h), (3, .int (nI (5 * i)))] → cells ≤ 29 + 4 * (i + 1) → slots ≤ 80011 + 44 * (i + 1) → W p l e room_1 s m #[Value.ref b] below meth c H locs cells slots Q (F0 m 967 ls [])) : W p l e room_1 s m #[Value.ref b] below meth c H locs (29 + 4 * i) (80011 + 44 * i) Q (F0 m 818 ls []) := by
  obtain ⟨hx, hb, hml, hown, hts⟩ := id hC
  have hA : ∀ q : Nat, s.heap.size ≤ q → (fun q : Nat => s.heap.size ≤ q) q := fun _ h => h
  have hbA : ¬ (fun q : Nat => s.heap.size ≤ q) b := Nat.not_le.mpr hbl
  obtain ⟨N2, hN2, hL2⟩ := M_ask hsim hi (xs (nI (5 * i) + 1).toNatClampNeg) (xs (nI (5 * i) + 2).toNatClampNeg) (xs (nI (5 * i) + 3).toNatClampNeg)
  refine lv_aload_n hx hb dL_law_818 rfl (lv_at hl 1 rfl) ?_
  refine lv_aload_n hx hb dL_law_819 rfl (lv_at hl 0 rfl) ?_
  refine lv_iload_n hx hb dL_law_820 rfl (lv_at hl 3 rfl) ?_
  refine lv_iconst (v := 1) hx hb dL_law_821 (by decide) ?_
  refine lv_iadd hx hb dL_law_822 ?_
  refine va_sld hx hb hX hbl hbA hS (law_in hL h5 (d := 1) (by decide)) dL_law_823 ?_
  refine lv_aload_n hx hb dL_law_824 rfl (lv_at hl 0 rfl) ?_
  refine lv_iload_n hx hb dL_law_825 rfl (lv_at hl 3 rfl) ?_
  refine lv_iconst (v := 2) hx hb dL_law_826 (by decide) ?_
  refine lv_iadd hx hb dL_law_827 ?_
  refine va_sld hx hb hX hbl hbA hS (law_in hL h5 (d := 2) (by decide)) dL_law_828 ?_
  refine lv_aload_n hx hb dL_law_829 rfl (lv_at hl 0 rfl) ?_
  refine lv_iload_n hx hb dL_law_830 rfl (lv_at hl 3 rfl) ?_
  refine lv_iconst (v := 3) hx hb dL_law_831 (by decide) ?_
  refine lv_iadd hx hb dL_law_832 ?_
  refine va_sld hx hb hX hbl hbA hS (law_in hL h5 (d := 3) (by decide)) dL_law_833 ?_
  refine wz_callVj (As := [.int (xs (nI (5 * i) + 1).toNatClampNeg), .int (xs (nI (5 * i) + 2).toNatClampNeg), .int (xs (nI (5 * i) + 3).toNatClampNeg)]) (rest := []) kst_C hC (c_X1_ask l D x A0 A1 A2 cI cR cII 26 S (xs (nI (5 * i) + 1).toNatClampNeg) (xs (nI (5 * i) + 2).toNatClampNeg) (xs (nI (5 * i) + 3).toNatClampNeg) (okc_ask hsim hi (xs (nI (5 * i) + 1).toNatClampNeg) (xs (nI (5 * i) + 2).toNatClampNeg) (xs (nI (5 * i) + 3).toNatClampNeg))) (cwV 3 hts gL_law_X1_ask rfl rfl rfl (by decide +kernel) ⟨by decide, by decide⟩) hKc hPc hDc hS hA (wc_cell hKc hPc) hPm hdis rfl hl.1 rfl (Nat.le_of_ble_eq_true rfl) dL_law_834 ⟨by show _ ≤ 600000; omega, by show _ ≤ 7302250; omega⟩ (fun r1 u1 H locs hw1 hPc hDc hPm hdis hS => ?_)
  refine lv_aload_n hx hb dL_law_837 rfl (lv_at hl 2 rfl) ?_
  refine lv_aload_n hx hb dL_law_838 rfl (lv_at hl 0 rfl) ?_
  refine lv_iload_n hx hb dL_law_839 rfl (lv_at hl 3 rfl) ?_
  refine lv_iconst (v := 1) hx hb dL_law_840 (by decide) ?_
  refine lv_iadd hx hb dL_law_841 ?_
  refine va_sld hx hb hX hbl hbA hS (law_in hL h5 (d := 1) (by decide)) dL_law_842 ?_
  refine lv_aload_n hx hb dL_law_843 rfl (lv_at hl 0 rfl) ?_
  refine lv_iload_n hx hb dL_law_844 rfl (lv_at hl 3 rfl) ?_
  refine lv_iconst (v := 2) hx hb dL_law_845 (by decide) ?_
  refine lv_iadd hx hb dL_law_846 ?_
  refine va_sld hx hb hX hbl hbA hS (law_in hL h5 (d := 2) (by decide)) dL_law_847 ?_
  refine lv_aload_n hx hb dL_law_848 rfl (lv_at hl 0 rfl) ?_
  refine lv_iload_n hx hb dL_law_849 rfl (lv_at hl 3 rfl) ?_
  refine lv_iconst (v := 3) hx hb dL_law_850 (by decide) ?_
  refine lv_iadd hx hb dL_law_851 ?_
  refine va_sld hx hb hX hbl hbA hS (law_in hL h5 (d := 3) (by decide)) dL_law_852 ?_
  refine wz_callVj (As := [.int (xs (nI (5 * i) + 1).toNatClampNeg), .int (xs (nI (5 * i) + 2).toNatClampNeg), .int (xs (nI (5 * i) + 3).toNatClampNeg)]) (rest := [.long r1]) kst_K hC (c_X2_ask l D h ad dI dJ dZ N2 T (xs (nI (5 * i) + 1).toNatClampNeg) (xs (nI (5 * i) + 2).toNatClampNeg) (xs (nI (5 * i) + 3).toNatClampNeg) hN2) (cwV 3 hts gL_law_X2_ask rfl rfl rfl (by decide +kernel) ⟨by decide, by decide⟩) hKm hPm hDm hS hA (wm_cell hKm hPm) hPc hdis.symm rfl hl.1 rfl (Nat.le_of_ble_eq_true rfl) dL_law_853 ⟨by show _ ≤ 600000; omega, by show _ ≤ 7302250; omega⟩ (fun r2 u2 H locs hw2 hPm hDm hPc hdis hS => ?_)
  have hs := hL2 hw1 hw2
  refine W.lcmp hx hb dL_law_856 ?_
  refine lv_if_eq (tgt := 967) hx hb dL_law_857 (by decide) (fun _ => ?_) (fun c9 => absurd (by rw [hs.1]; simp [lg_cmp]) c9)
  exact tail u1 u2 H locs ls _ _ hs.2 hPc hDc hPm hDm hdis.symm hS hl (by omega) (by omega)
set_option maxHeartbeats 4000000 in
set_option maxRecDepth 100000 in
theorem law_failed {p : Program} {l : Launch} {e : Env} {s : State} {m : MethodId} {below : List Frame} {meth : Method} {c : Code} {b L : Nat} {xs : Nat → Int32} (hC : CallFix p m c code 4 s #[Value.ref b] wsL_law RL) (hX : va_X b L xs s s.heap) (hbl : b < s.heap.size) (hL : L ≤ 2560) {D : va_G} {x A0 A1 A2 h : Nat} {cI cR cII dI dJ dZ : ClassId} {ad : Nat → Nat} (hKc : cKK D cI cR cII s) (hKm : va_K D vwCl (mTy dI dJ dZ) s) {i : Nat} (hi : i < 512) (h5 : 5 * i + 5 ≤ L) {S : CS} {T : MS} (hsim : SimN i S T) {H : Heap} {locs : List Loc} (hPc : va_P D vwCl (cW x A0 A1 A2 cI cR cII S) H) (hDc : va_D (fun q : Nat => s.heap.size ≤ q) (cW x A0 A1 A2 cI cR cII S)) (hPm : va_P D vwCl (mW h ad dI dJ dZ T) H) (hDm : va_D (fun q : Nat => s.heap.size ≤ q) (mW h ad dI dJ dZ T)) (hdis : wdis (cW x A0 A1 A2 cI cR cII S) (mW h ad dI dJ dZ T)) (hS : va_S (fun q : Nat => s.heap.size ≤ q) s.heap H locs) {ls : Array Slot} (hl : lv_has ls 4 [(0, .ref b), (1, .ref x), (2, .ref h), (3, .int (nI (5 * i)))]) {Q : State → Prop} (tail : ∀ (u1 : CS) (u2 : MS) (H : Heap) (locs : List Loc) (ls : Array Slot) (cells slots : Nat), SimN (i + 1) u1 u2 → va_P D vwCl (cW x A0 A1 A2 cI cR cII u1) H → va_D (fun q : Nat => s.heap.size ≤ q) (cW x A0 A1 A2 cI cR cII u1) → va_P D vwCl (mW h ad dI dJ dZ u2) H → va_D (fun q : Nat => s.heap.size ≤ q) (mW h ad dI dJ dZ u2) → wdis (cW x A0 A1 A2 cI cR cII u1) (mW h ad dI dJ dZ u2) → va_S (fun q : Nat => s.heap.size ≤ q) s.heap H locs → lv_has ls 4 [(0, .ref b), (1, .ref x), (2, .ref h), (3, .int (nI (5 * i)))] → cells ≤ 29 + 4 * (i + 1) → slots ≤ 80011 + 44 * (i + 1) → W p l e room_1 s m #[Value.ref b] below meth c H locs cells slots Q (F0 m 967 ls [])) : W p l e room_1 s m #[Value.ref b] below meth c H locs (29 + 4 * i) (80011 + 44 * i) Q (F0 m 862 ls []) := by
  obtain ⟨hx, hb, hml, hown, hts⟩ := id hC
  have hA : ∀ q : Nat, s.heap.size ≤ q → (fun q : Nat => s.heap.size ≤ q) q := fun _ h => h
  have hbA : ¬ (fun q : Nat => s.heap.size ≤ q) b := Nat.not_le.mpr hbl
  refine lv_aload_n hx hb dL_law_862 rfl (lv_at hl 1 rfl) ?_
  refine wz_callVi (As := []) (rest := []) kst_C hC (c_X1_failed l D x A0 A1 A2 cI cR cII S (okc_failed hsim hi)) (cwV 0 hts gL_law_X1_failed rfl rfl rfl (by decide +kernel) ⟨by decide, by decide⟩) hKc hPc hDc hS hA (wc_cell hKc hPc) hPm hdis rfl hl.1 rfl (Nat.le_of_ble_eq_true rfl) dL_law_863 ⟨by show _ ≤ 600000; omega, by show _ ≤ 7302250; omega⟩ (fun r1 u1 H locs hw1 hPc hDc hPm hdis hS => ?_)
  refine lv_aload_n hx hb dL_law_866 rfl (lv_at hl 2 rfl) ?_
  refine wz_callVi (As := []) (rest := [.int r1]) kst_K hC (c_X2_failed l D h ad dI dJ dZ T (okm_failed hsim hi)) (cwV 0 hts gL_law_X2_failed rfl rfl rfl (by decide +kernel) ⟨by decide, by decide⟩) hKm hPm hDm hS hA (wm_cell hKm hPm) hPc hdis.symm rfl hl.1 rfl (Nat.le_of_ble_eq_true rfl) dL_law_867 ⟨by show _ ≤ 600000; omega, by show _ ≤ 7302250; omega⟩ (fun r2 u2 H locs hw2 hPm hDm hPc hdis hS => ?_)
  have hs := L_failed hsim hi hw1 hw2
  refine lv_icmp_eq (tgt := 967) hx hb dL_law_870 (by decide) (fun _ => ?_) (fun c9 => absurd hs.1 c9)
  exact tail u1 u2 H locs ls _ _ hs.2 hPc hDc hPm hDm hdis.symm hS hl (by omega) (by omega)
set_option maxHeartbeats 4000000 in
set_option maxRecDepth 100000 in
theorem law_same {p : Program} {l : Launch} {e : Env} {s : State} {m : MethodId} {below : List Frame} {meth : Method} {c : Code} {b L : Nat} {xs : Nat → Int32} (hC : CallFix p m c code 4 s #[Value.ref b] wsL_law RL) (hX : va_X b L xs s s.heap) (hbl : b < s.heap.size) (hL : L ≤ 2560) {D : va_G} {x A0 A1 A2 h : Nat} {cI cR cII dI dJ dZ : ClassId} {ad : Nat → Nat} (hKc : cKK D cI cR cII s) (hKm : va_K D vwCl (mTy dI dJ dZ) s) {i : Nat} (hi : i < 512) (h5 : 5 * i + 5 ≤ L) {S : CS} {T : MS} (hsim : SimN i S T) {H : Heap} {locs : List Loc} (hPc : va_P D vwCl (cW x A0 A1 A2 cI cR cII S) H) (hDc : va_D (fun q : Nat => s.heap.size ≤ q) (cW x A0 A1 A2 cI cR cII S)) (hPm : va_P D vwCl (mW h ad dI dJ dZ T) H) (hDm : va_D (fun q : Nat => s.heap.size ≤ q) (mW h ad dI dJ dZ T)) (hdis : wdis (cW x A0 A1 A2 cI cR cII S) (mW h ad dI dJ dZ T)) (hS : va_S (fun q : Nat => s.heap.size ≤ q) s.heap H locs) {ls : Array Slot} (hl : lv_has ls 4 [(0, .ref b), (1, .ref x), (2, .ref h), (3, .int (nI (5 * i)))]) {Q : State → Prop} (tail : ∀ (u1 : CS) (u2 : MS) (H : Heap) (locs : List Loc) (ls : Array Slot) (cells slots : Nat), SimN (i + 1) u1 u2 → va_P D vwCl (cW x A0 A1 A2 cI cR cII u1) H → va_D (fun q : Nat => s.heap.size ≤ q) (cW x A0 A1 A2 cI cR cII u1) → va_P D vwCl (mW h ad dI dJ dZ u2) H → va_D (fun q : Nat => s.heap.size ≤ q) (mW h ad dI dJ dZ u2) → wdis (cW x A0 A1 A2 cI cR cII u1) (mW h ad dI dJ dZ u2) → va_S (fun q : Nat => s.heap.size ≤ q) s.heap H locs → lv_has ls 4 [(0, .ref b), (1, .ref x), (2, .ref h), (3, .int (nI (5 * i)))] → cells ≤ 29 + 4 * (i + 1) → slots ≤ 80011 + 44 * (i + 1) → W p l e room_1 s m #[Value.ref b] below meth c H locs cells slots Q (F0 m 967 ls [])) : W p l e room_1 s m #[Value.ref b] below meth c H locs (29 + 4 * i) (80011 + 44 * i) Q (F0 m 875 ls []) := by
  obtain ⟨hx, hb, hml, hown, hts⟩ := id hC
  have hA : ∀ q : Nat, s.heap.size ≤ q → (fun q : Nat => s.heap.size ≤ q) q := fun _ h => h
  have hbA : ¬ (fun q : Nat => s.heap.size ≤ q) b := Nat.not_le.mpr hbl
  refine lv_aload_n hx hb dL_law_875 rfl (lv_at hl 1 rfl) ?_
  refine lv_aload_n hx hb dL_law_876 rfl (lv_at hl 0 rfl) ?_
  refine lv_iload_n hx hb dL_law_877 rfl (lv_at hl 3 rfl) ?_
  refine lv_iconst (v := 1) hx hb dL_law_878 (by decide) ?_
  refine lv_iadd hx hb dL_law_879 ?_
  refine va_sld hx hb hX hbl hbA hS (law_in hL h5 (d := 1) (by decide)) dL_law_880 ?_
  refine lv_aload_n hx hb dL_law_881 rfl (lv_at hl 0 rfl) ?_
  refine lv_iload_n hx hb dL_law_882 rfl (lv_at hl 3 rfl) ?_
  refine lv_iconst (v := 2) hx hb dL_law_883 (by decide) ?_
  refine lv_iadd hx hb dL_law_884 ?_
  refine va_sld hx hb hX hbl hbA hS (law_in hL h5 (d := 2) (by decide)) dL_law_885 ?_
  refine wz_callVi (As := [.int (xs (nI (5 * i) + 1).toNatClampNeg), .int (xs (nI (5 * i) + 2).toNatClampNeg)]) (rest := []) kst_C hC (c_X1_same l D x A0 A1 A2 cI cR cII S (xs (nI (5 * i) + 1).toNatClampNeg) (xs (nI (5 * i) + 2).toNatClampNeg) (okc_same hsim hi (xs (nI (5 * i) + 1).toNatClampNeg) (xs (nI (5 * i) + 2).toNatClampNeg))) (cwV 2 hts gL_law_X1_same rfl rfl rfl (by decide +kernel) ⟨by decide, by decide⟩) hKc hPc hDc hS hA (wc_cell hKc hPc) hPm hdis rfl hl.1 rfl (Nat.le_of_ble_eq_true rfl) dL_law_886 ⟨by show _ ≤ 600000; omega, by show _ ≤ 7302250; omega⟩ (fun r1 u1 H locs hw1 hPc hDc hPm hdis hS => ?_)
  refine lv_aload_n hx hb dL_law_889 rfl (lv_at hl 2 rfl) ?_
  refine lv_aload_n hx hb dL_law_890 rfl (lv_at hl 0 rfl) ?_
  refine lv_iload_n hx hb dL_law_891 rfl (lv_at hl 3 rfl) ?_
  refine lv_iconst (v := 1) hx hb dL_law_892 (by decide) ?_
  refine lv_iadd hx hb dL_law_893 ?_
  refine va_sld hx hb hX hbl hbA hS (law_in hL h5 (d := 1) (by decide)) dL_law_894 ?_
  refine lv_aload_n hx hb dL_law_895 rfl (lv_at hl 0 rfl) ?_
  refine lv_iload_n hx hb dL_law_896 rfl (lv_at hl 3 rfl) ?_
  refine lv_iconst (v := 2) hx hb dL_law_897 (by decide) ?_
  refine lv_iadd hx hb dL_law_898 ?_
  refine va_sld hx hb hX hbl hbA hS (law_in hL h5 (d := 2) (by decide)) dL_law_899 ?_
  refine wz_callVi (As := [.int (xs (nI (5 * i) + 1).toNatClampNeg), .int (xs (nI (5 * i) + 2).toNatClampNeg)]) (rest := [.int r1]) kst_K hC (c_X2_same l D h ad dI dJ dZ T (xs (nI (5 * i) + 1).toNatClampNeg) (xs (nI (5 * i) + 2).toNatClampNeg) (okm_same hsim hi (xs (nI (5 * i) + 1).toNatClampNeg) (xs (nI (5 * i) + 2).toNatClampNeg))) (cwV 2 hts gL_law_X2_same rfl rfl rfl (by decide +kernel) ⟨by decide, by decide⟩) hKm hPm hDm hS hA (wm_cell hKm hPm) hPc hdis.symm rfl hl.1 rfl (Nat.le_of_ble_eq_true rfl) dL_law_900 ⟨by show _ ≤ 600000; omega, by show _ ≤ 7302250; omega⟩ (fun r2 u2 H locs hw2 hPm hDm hPc hdis hS => ?_)
  have hs := L_same hsim hi (xs (nI (5 * i) + 1).toNatClampNeg) (xs (nI (5 * i) + 2).toNatClampNeg) hw1 hw2
  refine lv_icmp_eq (tgt := 967) hx hb dL_law_903 (by decide) (fun _ => ?_) (fun c9 => absurd hs.1 c9)
  exact tail u1 u2 H locs ls _ _ hs.2 hPc hDc hPm hDm hdis.symm hS hl (by omega) (by omega)
set_option maxHeartbeats 4000000 in
set_option maxRecDepth 100000 in
theorem law_count {p : Program} {l : Launch} {e : Env} {s : State} {m : MethodId} {below : List Frame} {meth : Method} {c : Code} {b L : Nat} {xs : Nat → Int32} (hC : CallFix p m c code 4 s #[Value.ref b] wsL_law RL) (hX : va_X b L xs s s.heap) (hbl : b < s.heap.size) (hL : L ≤ 2560) {D : va_G} {x A0 A1 A2 h : Nat} {cI cR cII dI dJ dZ : ClassId} {ad : Nat → Nat} (hKc : cKK D cI cR cII s) (hKm : va_K D vwCl (mTy dI dJ dZ) s) {i : Nat} (hi : i < 512) (h5 : 5 * i + 5 ≤ L) {S : CS} {T : MS} (hsim : SimN i S T) {H : Heap} {locs : List Loc} (hPc : va_P D vwCl (cW x A0 A1 A2 cI cR cII S) H) (hDc : va_D (fun q : Nat => s.heap.size ≤ q) (cW x A0 A1 A2 cI cR cII S)) (hPm : va_P D vwCl (mW h ad dI dJ dZ T) H) (hDm : va_D (fun q : Nat => s.heap.size ≤ q) (mW h ad dI dJ dZ T)) (hdis : wdis (cW x A0 A1 A2 cI cR cII S) (mW h ad dI dJ dZ T)) (hS : va_S (fun q : Nat => s.heap.size ≤ q) s.heap H locs) {ls : Array Slot} (hl : lv_has ls 4 [(0, .ref b), (1, .ref x), (2, .ref h), (3, .int (nI (5 * i)))]) {Q : State → Prop} (tail : ∀ (u1 : CS) (u2 : MS) (H : Heap) (locs : List Loc) (ls : Array Slot) (cells slots : Nat), SimN (i + 1) u1 u2 → va_P D vwCl (cW x A0 A1 A2 cI cR cII u1) H → va_D (fun q : Nat => s.heap.size ≤ q) (cW x A0 A1 A2 cI cR cII u1) → va_P D vwCl (mW h ad dI dJ dZ u2) H → va_D (fun q : Nat => s.heap.size ≤ q) (mW h ad dI dJ dZ u2) → wdis (cW x A0 A1 A2 cI cR cII u1) (mW h ad dI dJ dZ u2) → va_S (fun q : Nat => s.heap.size ≤ q) s.heap H locs → lv_has ls 4 [(0, .ref b), (1, .ref x), (2, .ref h), (3, .int (nI (5 * i)))] → cells ≤ 29 + 4 * (i + 1) → slots ≤ 80011 + 44 * (i + 1) → W p l e room_1 s m #[Value.ref b] below meth c H locs cells slots Q (F0 m 967 ls [])) : W p l e room_1 s m #[Value.ref b] below meth c H locs (29 + 4 * i) (80011 + 44 * i) Q (F0 m 908 ls []) := by
  obtain ⟨hx, hb, hml, hown, hts⟩ := id hC
  have hA : ∀ q : Nat, s.heap.size ≤ q → (fun q : Nat => s.heap.size ≤ q) q := fun _ h => h
  have hbA : ¬ (fun q : Nat => s.heap.size ≤ q) b := Nat.not_le.mpr hbl
  refine lv_aload_n hx hb dL_law_908 rfl (lv_at hl 1 rfl) ?_
  refine lv_aload_n hx hb dL_law_909 rfl (lv_at hl 0 rfl) ?_
  refine lv_iload_n hx hb dL_law_910 rfl (lv_at hl 3 rfl) ?_
  refine lv_iconst (v := 1) hx hb dL_law_911 (by decide) ?_
  refine lv_iadd hx hb dL_law_912 ?_
  refine va_sld hx hb hX hbl hbA hS (law_in hL h5 (d := 1) (by decide)) dL_law_913 ?_
  refine wz_callVi (As := [.int (xs (nI (5 * i) + 1).toNatClampNeg)]) (rest := []) kst_C hC (c_X1_count l D x A0 A1 A2 cI cR cII S (xs (nI (5 * i) + 1).toNatClampNeg) (okc_count hsim hi (xs (nI (5 * i) + 1).toNatClampNeg))) (cwV 1 hts gL_law_X1_count rfl rfl rfl (by decide +kernel) ⟨by decide, by decide⟩) hKc hPc hDc hS hA (wc_cell hKc hPc) hPm hdis rfl hl.1 rfl (Nat.le_of_ble_eq_true rfl) dL_law_914 ⟨by show _ ≤ 600000; omega, by show _ ≤ 7302250; omega⟩ (fun r1 u1 H locs hw1 hPc hDc hPm hdis hS => ?_)
  refine lv_aload_n hx hb dL_law_917 rfl (lv_at hl 2 rfl) ?_
  refine lv_aload_n hx hb dL_law_918 rfl (lv_at hl 0 rfl) ?_
  refine lv_iload_n hx hb dL_law_919 rfl (lv_at hl 3 rfl) ?_
  refine lv_iconst (v := 1) hx hb dL_law_920 (by decide) ?_
  refine lv_iadd hx hb dL_law_921 ?_
  refine va_sld hx hb hX hbl hbA hS (law_in hL h5 (d := 1) (by decide)) dL_law_922 ?_
  refine wz_callVi (As := [.int (xs (nI (5 * i) + 1).toNatClampNeg)]) (rest := [.int r1]) kst_K hC (c_X2_count l D h ad dI dJ dZ T (xs (nI (5 * i) + 1).toNatClampNeg) (okm_count hsim hi (xs (nI (5 * i) + 1).toNatClampNeg))) (cwV 1 hts gL_law_X2_count rfl rfl rfl (by decide +kernel) ⟨by decide, by decide⟩) hKm hPm hDm hS hA (wm_cell hKm hPm) hPc hdis.symm rfl hl.1 rfl (Nat.le_of_ble_eq_true rfl) dL_law_923 ⟨by show _ ≤ 600000; omega, by show _ ≤ 7302250; omega⟩ (fun r2 u2 H locs hw2 hPm hDm hPc hdis hS => ?_)
  have hs := L_count hsim hi (xs (nI (5 * i) + 1).toNatClampNeg) hw1 hw2
  refine lv_icmp_eq (tgt := 967) hx hb dL_law_926 (by decide) (fun _ => ?_) (fun c9 => absurd hs.1 c9)
  exact tail u1 u2 H locs ls _ _ hs.2 hPc hDc hPm hDm hdis.symm hS hl (by omega) (by omega)
set_option maxHeartbeats 4000000 in
set_option maxRecDepth 100000 in
theorem law_told {p : Program} {l : Launch} {e : Env} {s : State} {m : MethodId} {below : List Frame} {meth : Method} {c : Code} {b L : Nat} {xs : Nat → Int32} (hC : CallFix p m c code 4 s #[Value.ref b] wsL_law RL) (hX : va_X b L xs s s.heap) (hbl : b < s.heap.size) (hL : L ≤ 2560) {D : va_G} {x A0 A1 A2 h : Nat} {cI cR cII dI dJ dZ : ClassId} {ad : Nat → Nat} (hKc : cKK D cI cR cII s) (hKm : va_K D vwCl (mTy dI dJ dZ) s) {i : Nat} (hi : i < 512) (h5 : 5 * i + 5 ≤ L) {S : CS} {T : MS} (hsim : SimN i S T) {H : Heap} {locs : List Loc} (hPc : va_P D vwCl (cW x A0 A1 A2 cI cR cII S) H) (hDc : va_D (fun q : Nat => s.heap.size ≤ q) (cW x A0 A1 A2 cI cR cII S)) (hPm : va_P D vwCl (mW h ad dI dJ dZ T) H) (hDm : va_D (fun q : Nat => s.heap.size ≤ q) (mW h ad dI dJ dZ T)) (hdis : wdis (cW x A0 A1 A2 cI cR cII S) (mW h ad dI dJ dZ T)) (hS : va_S (fun q : Nat => s.heap.size ≤ q) s.heap H locs) {ls : Array Slot} (hl : lv_has ls 4 [(0, .ref b), (1, .ref x), (2, .ref h), (3, .int (nI (5 * i)))]) {Q : State → Prop} (tail : ∀ (u1 : CS) (u2 : MS) (H : Heap) (locs : List Loc) (ls : Array Slot) (cells slots : Nat), SimN (i + 1) u1 u2 → va_P D vwCl (cW x A0 A1 A2 cI cR cII u1) H → va_D (fun q : Nat => s.heap.size ≤ q) (cW x A0 A1 A2 cI cR cII u1) → va_P D vwCl (mW h ad dI dJ dZ u2) H → va_D (fun q : Nat => s.heap.size ≤ q) (mW h ad dI dJ dZ u2) → wdis (cW x A0 A1 A2 cI cR cII u1) (mW h ad dI dJ dZ u2) → va_S (fun q : Nat => s.heap.size ≤ q) s.heap H locs → lv_has ls 4 [(0, .ref b), (1, .ref x), (2, .ref h), (3, .int (nI (5 * i)))] → cells ≤ 29 + 4 * (i + 1) → slots ≤ 80011 + 44 * (i + 1) → W p l e room_1 s m #[Value.ref b] below meth c H locs cells slots Q (F0 m 967 ls [])) : W p l e room_1 s m #[Value.ref b] below meth c H locs (29 + 4 * i) (80011 + 44 * i) Q (F0 m 931 ls []) := by
  obtain ⟨hx, hb, hml, hown, hts⟩ := id hC
  have hA : ∀ q : Nat, s.heap.size ≤ q → (fun q : Nat => s.heap.size ≤ q) q := fun _ h => h
  have hbA : ¬ (fun q : Nat => s.heap.size ≤ q) b := Nat.not_le.mpr hbl
  obtain ⟨N1, N2, hN1, hN2, hL2⟩ := M_told hsim hi (xs (nI (5 * i) + 1).toNatClampNeg)
  refine lv_aload_n hx hb dL_law_931 rfl (lv_at hl 1 rfl) ?_
  refine lv_aload_n hx hb dL_law_932 rfl (lv_at hl 0 rfl) ?_
  refine lv_iload_n hx hb dL_law_933 rfl (lv_at hl 3 rfl) ?_
  refine lv_iconst (v := 1) hx hb dL_law_934 (by decide) ?_
  refine lv_iadd hx hb dL_law_935 ?_
  refine va_sld hx hb hX hbl hbA hS (law_in hL h5 (d := 1) (by decide)) dL_law_936 ?_
  refine wz_callVi (As := [.int (xs (nI (5 * i) + 1).toNatClampNeg)]) (rest := []) kst_C hC (c_X1_told l D x A0 A1 A2 cI cR cII N1 S (xs (nI (5 * i) + 1).toNatClampNeg) hN1) (cwV 1 hts gL_law_X1_told rfl rfl rfl (by decide +kernel) ⟨by decide, by decide⟩) hKc hPc hDc hS hA (wc_cell hKc hPc) hPm hdis rfl hl.1 rfl (Nat.le_of_ble_eq_true rfl) dL_law_937 ⟨by show _ ≤ 600000; omega, by show _ ≤ 7302250; omega⟩ (fun r1 u1 H locs hw1 hPc hDc hPm hdis hS => ?_)
  refine lv_aload_n hx hb dL_law_940 rfl (lv_at hl 2 rfl) ?_
  refine lv_aload_n hx hb dL_law_941 rfl (lv_at hl 0 rfl) ?_
  refine lv_iload_n hx hb dL_law_942 rfl (lv_at hl 3 rfl) ?_
  refine lv_iconst (v := 1) hx hb dL_law_943 (by decide) ?_
  refine lv_iadd hx hb dL_law_944 ?_
  refine va_sld hx hb hX hbl hbA hS (law_in hL h5 (d := 1) (by decide)) dL_law_945 ?_
  refine wz_callVi (As := [.int (xs (nI (5 * i) + 1).toNatClampNeg)]) (rest := [.int r1]) kst_K hC (c_X2_told l D h ad dI dJ dZ N2 T (xs (nI (5 * i) + 1).toNatClampNeg) hN2) (cwV 1 hts gL_law_X2_told rfl rfl rfl (by decide +kernel) ⟨by decide, by decide⟩) hKm hPm hDm hS hA (wm_cell hKm hPm) hPc hdis.symm rfl hl.1 rfl (Nat.le_of_ble_eq_true rfl) dL_law_946 ⟨by show _ ≤ 600000; omega, by show _ ≤ 7302250; omega⟩ (fun r2 u2 H locs hw2 hPm hDm hPc hdis hS => ?_)
  have hs := hL2 hw1 hw2
  refine lv_icmp_eq (tgt := 967) hx hb dL_law_949 (by decide) (fun _ => ?_) (fun c9 => absurd hs.1 c9)
  exact tail u1 u2 H locs ls _ _ hs.2 hPc hDc hPm hDm hdis.symm hS hl (by omega) (by omega)
set_option maxHeartbeats 4000000 in
set_option maxRecDepth 100000 in
theorem law_clear {p : Program} {l : Launch} {e : Env} {s : State} {m : MethodId} {below : List Frame} {meth : Method} {c : Code} {b L : Nat} {xs : Nat → Int32} (hC : CallFix p m c code 4 s #[Value.ref b] wsL_law RL) (hX : va_X b L xs s s.heap) (hbl : b < s.heap.size) (hL : L ≤ 2560) {D : va_G} {x A0 A1 A2 h : Nat} {cI cR cII dI dJ dZ : ClassId} {ad : Nat → Nat} (hKc : cKK D cI cR cII s) (hKm : va_K D vwCl (mTy dI dJ dZ) s) {i : Nat} (hi : i < 512) (h5 : 5 * i + 5 ≤ L) {S : CS} {T : MS} (hsim : SimN i S T) {H : Heap} {locs : List Loc} (hPc : va_P D vwCl (cW x A0 A1 A2 cI cR cII S) H) (hDc : va_D (fun q : Nat => s.heap.size ≤ q) (cW x A0 A1 A2 cI cR cII S)) (hPm : va_P D vwCl (mW h ad dI dJ dZ T) H) (hDm : va_D (fun q : Nat => s.heap.size ≤ q) (mW h ad dI dJ dZ T)) (hdis : wdis (cW x A0 A1 A2 cI cR cII S) (mW h ad dI dJ dZ T)) (hS : va_S (fun q : Nat => s.heap.size ≤ q) s.heap H locs) {ls : Array Slot} (hl : lv_has ls 4 [(0, .ref b), (1, .ref x), (2, .ref h), (3, .int (nI (5 * i)))]) {Q : State → Prop} (tail : ∀ (u1 : CS) (u2 : MS) (H : Heap) (locs : List Loc) (ls : Array Slot) (cells slots : Nat), SimN (i + 1) u1 u2 → va_P D vwCl (cW x A0 A1 A2 cI cR cII u1) H → va_D (fun q : Nat => s.heap.size ≤ q) (cW x A0 A1 A2 cI cR cII u1) → va_P D vwCl (mW h ad dI dJ dZ u2) H → va_D (fun q : Nat => s.heap.size ≤ q) (mW h ad dI dJ dZ u2) → wdis (cW x A0 A1 A2 cI cR cII u1) (mW h ad dI dJ dZ u2) → va_S (fun q : Nat => s.heap.size ≤ q) s.heap H locs → lv_has ls 4 [(0, .ref b), (1, .ref x), (2, .ref h), (3, .int (nI (5 * i)))] → cells ≤ 29 + 4 * (i + 1) → slots ≤ 80011 + 44 * (i + 1) → W p l e room_1 s m #[Value.ref b] below meth c H locs cells slots Q (F0 m 967 ls [])) : W p l e room_1 s m #[Value.ref b] below meth c H locs (29 + 4 * i) (80011 + 44 * i) Q (F0 m 954 ls []) := by
  obtain ⟨hx, hb, hml, hown, hts⟩ := id hC
  have hA : ∀ q : Nat, s.heap.size ≤ q → (fun q : Nat => s.heap.size ≤ q) q := fun _ h => h
  have hbA : ¬ (fun q : Nat => s.heap.size ≤ q) b := Nat.not_le.mpr hbl
  obtain ⟨N2, hN2, hL2⟩ := M_clear hsim hi
  refine lv_aload_n hx hb dL_law_954 rfl (lv_at hl 1 rfl) ?_
  refine wz_callVi (As := []) (rest := []) kst_C hC (c_X1_clear l D x A0 A1 A2 cI cR cII S (okc_clear hsim hi)) (cwV 0 hts gL_law_X1_clear rfl rfl rfl (by decide +kernel) ⟨by decide, by decide⟩) hKc hPc hDc hS hA (wc_cell hKc hPc) hPm hdis rfl hl.1 rfl (Nat.le_of_ble_eq_true rfl) dL_law_955 ⟨by show _ ≤ 600000; omega, by show _ ≤ 7302250; omega⟩ (fun r1 u1 H locs hw1 hPc hDc hPm hdis hS => ?_)
  refine lv_aload_n hx hb dL_law_958 rfl (lv_at hl 2 rfl) ?_
  refine wz_callVi (As := []) (rest := [.int r1]) kst_K hC (c_X2_clear l D h ad dI dJ dZ N2 T hN2) (cwV 0 hts gL_law_X2_clear rfl rfl rfl (by decide +kernel) ⟨by decide, by decide⟩) hKm hPm hDm hS hA (wm_cell hKm hPm) hPc hdis.symm rfl hl.1 rfl (Nat.le_of_ble_eq_true rfl) dL_law_959 ⟨by show _ ≤ 600000; omega, by show _ ≤ 7302250; omega⟩ (fun r2 u2 H locs hw2 hPm hDm hPc hdis hS => ?_)
  have hs := hL2 hw1 hw2
  refine lv_icmp_eq (tgt := 967) hx hb dL_law_962 (by decide) (fun _ => ?_) (fun c9 => absurd hs.1 c9)
  exact tail u1 u2 H locs ls _ _ hs.2 hPc hDc hPm hDm hdis.symm hS hl (by omega) (by omega)
theorem SimN.mono {c : Nat} {S : CS} {T : MS} (h : SimN c S T) : SimN (c + 1) S T := by
  obtain ⟨k, w, ra, wa, h1, h2, h3⟩ := h
  exact ⟨k, w, ra, wa, by omega, by omega, h3⟩
set_option maxHeartbeats 4000000 in
set_option maxRecDepth 100000 in
theorem law_loop {p : Program} {l : Launch} {e : Env} {s : State} {m : MethodId} {below : List Frame} {meth : Method} {c : Code} {b L : Nat} {xs : Nat → Int32} (hC : CallFix p m c code 4 s #[Value.ref b] wsL_law RL) (hr : meth.sig.returnType = ret) (hlk : meth.locks = false) (hX : va_X b L xs s s.heap) (hbl : b < s.heap.size) (hL : L ≤ 2560) {D : va_G} {x A0 A1 A2 h : Nat} {cI cR cII dI dJ dZ : ClassId} {ad : Nat → Nat} (hKc : cKK D cI cR cII s) (hKm : va_K D vwCl (mTy dI dJ dZ) s) :
    ∀ (n i : Nat), i ≤ 512 → 513 ≤ i + n → ∀ (S : CS) (T : MS), SimN i S T → ∀ (H : Heap) (locs : List Loc), va_P D vwCl (cW x A0 A1 A2 cI cR cII S) H → va_D (fun q : Nat => s.heap.size ≤ q) (cW x A0 A1 A2 cI cR cII S) → va_P D vwCl (mW h ad dI dJ dZ T) H → va_D (fun q : Nat => s.heap.size ≤ q) (mW h ad dI dJ dZ T) → wdis (cW x A0 A1 A2 cI cR cII S) (mW h ad dI dJ dZ T) → va_S (fun q : Nat => s.heap.size ≤ q) s.heap H locs → ∀ ls : Array Slot, lv_has ls 4 [(0, .ref b), (1, .ref x), (2, .ref h), (3, .int (nI (5 * i)))] → W p l e room_1 s m #[Value.ref b] below meth c H locs (29 + 4 * i) (80011 + 44 * i) (lw_Z below #[Value.ref b] s) (F0 m 18 ls []) := by
  obtain ⟨hx, hb, hml, hown, hts⟩ := id hC
  have hA : ∀ q : Nat, s.heap.size ≤ q → (fun q : Nat => s.heap.size ≤ q) q := fun _ h => h
  have hbA : ¬ (fun q : Nat => s.heap.size ≤ q) b := Nat.not_le.mpr hbl
  intro n
  induction n with
  | zero => intro i h1 h2; omega
  | succ n ih =>
    intro i hi0 hin S T hsim H locs hPc hDc hPm hDm hdis hS ls hl
    refine lv_iload_n hx hb dL_law_18 rfl (lv_at hl 3 rfl) ?_
    refine lv_aload_n hx hb dL_law_19 rfl (lv_at hl 0 rfl) ?_
    refine va_slen hx hb hX hbl hbA hS dL_law_20 ?_
    refine lv_iconst (v := 5) hx hb dL_law_21 (by decide) ?_
    refine lv_isub hx hb dL_law_22 ?_
    refine lv_icmp_gt (tgt := 973) hx hb dL_law_23 (by decide) (fun c1 => ?_) (fun c1 => ?_)
    · refine lv_iconst (v := 1) hx hb dL_law_973 (by decide) ?_
      refine va_forget (fun q hq => hS.2.2 q hq) ?_
      refine W.widen (k := 600000) (n := 7302250) (by omega) (by omega) ?_
      exact lw_ret hx hb hr hlk dL_law_974
    have h5 : 5 * i + 5 ≤ L := law_ix hL c1 hi0
    have hi : i < 512 := by omega
    have tail : ∀ (u1 : CS) (u2 : MS) (H : Heap) (locs : List Loc) (ls : Array Slot) (cells slots : Nat), SimN (i + 1) u1 u2 → va_P D vwCl (cW x A0 A1 A2 cI cR cII u1) H → va_D (fun q : Nat => s.heap.size ≤ q) (cW x A0 A1 A2 cI cR cII u1) → va_P D vwCl (mW h ad dI dJ dZ u2) H → va_D (fun q : Nat => s.heap.size ≤ q) (mW h ad dI dJ dZ u2) → wdis (cW x A0 A1 A2 cI cR cII u1) (mW h ad dI dJ dZ u2) → va_S (fun q : Nat => s.heap.size ≤ q) s.heap H locs → lv_has ls 4 [(0, .ref b), (1, .ref x), (2, .ref h), (3, .int (nI (5 * i)))] → cells ≤ 29 + 4 * (i + 1) → slots ≤ 80011 + 44 * (i + 1) → W p l e room_1 s m #[Value.ref b] below meth c H locs cells slots (lw_Z below #[Value.ref b] s) (F0 m 967 ls []) := by
      intro u1 u2 H locs ls cells slots hs hPc hDc hPm hDm hdis hS hl hce hsl
      refine lv_iinc (v := nI (5 * (i + 1))) (lv' := [(3, .int (nI (5 * (i + 1)))), (0, .ref b), (1, .ref x), (2, .ref h)]) hx hb dL_law_967 hl (k := 3) rfl (nI_add (5 * i) 5) (by decide) rfl (fun ls hl => ?_)
      refine lv_goto (tgt := 18) hx hb dL_law_970 (by decide) ?_
      refine W.widen (k := 29 + 4 * (i + 1)) (n := 80011 + 44 * (i + 1)) hce hsl ?_
      exact ih (i + 1) (by omega) (by omega) u1 u2 hs H locs hPc hDc hPm hDm hdis hS ls (lv_sub hl [1, 2, 3, 0] rfl)
    refine lv_aload_n hx hb dL_law_26 rfl (lv_at hl 0 rfl) ?_
    refine lv_iload_n hx hb dL_law_27 rfl (lv_at hl 3 rfl) ?_
    refine va_sld hx hb hX hbl hbA hS (vp_in_nI (by omega) (by omega)) dL_law_28 ?_
    refine lv_bipush (v := 31) hx hb dL_law_29 (by decide) ?_
    refine lv_iand hx hb dL_law_31 ?_
    refine lv_topi (fun w ew => ?_)
    by_cases d0 : w = 0
    · refine lv_tableIn (tgt := 144) hx hb dL_law_32 (by rw [d0]; decide) (by rw [d0]; decide) (by rw [d0]; rfl) (by decide) ?_
      exact law_rate hC hX hbl hL hKc hKm hi h5 hsim hPc hDc hPm hDm hdis hS hl tail
    by_cases d1 : w = 1
    · refine lv_tableIn (tgt := 177) hx hb dL_law_32 (by rw [d1]; decide) (by rw [d1]; decide) (by rw [d1]; rfl) (by decide) ?_
      exact law_fresh hC hX hbl hL hKc hKm hi h5 hsim hPc hDc hPm hDm hdis hS hl tail
    by_cases d2 : w = 2
    · refine lv_tableIn (tgt := 210) hx hb dL_law_32 (by rw [d2]; decide) (by rw [d2]; decide) (by rw [d2]; rfl) (by decide) ?_
      exact law_book hC hX hbl hL hKc hKm hi h5 hsim hPc hDc hPm hDm hdis hS hl tail
    by_cases d3 : w = 3
    · refine lv_tableIn (tgt := 253) hx hb dL_law_32 (by rw [d3]; decide) (by rw [d3]; decide) (by rw [d3]; rfl) (by decide) ?_
      exact law_flat hC hX hbl hL hKc hKm hi h5 hsim hPc hDc hPm hDm hdis hS hl tail
    by_cases d4 : w = 4
    · refine lv_tableIn (tgt := 286) hx hb dL_law_32 (by rw [d4]; decide) (by rw [d4]; decide) (by rw [d4]; rfl) (by decide) ?_
      exact law_rated hC hX hbl hL hKc hKm hi h5 hsim hPc hDc hPm hDm hdis hS hl tail
    by_cases d5 : w = 5
    · refine lv_tableIn (tgt := 319) hx hb dL_law_32 (by rw [d5]; decide) (by rw [d5]; decide) (by rw [d5]; rfl) (by decide) ?_
      exact law_live hC hX hbl hL hKc hKm hi h5 hsim hPc hDc hPm hDm hdis hS hl tail
    by_cases d6 : w = 6
    · refine lv_tableIn (tgt := 352) hx hb dL_law_32 (by rw [d6]; decide) (by rw [d6]; decide) (by rw [d6]; rfl) (by decide) ?_
      exact law_booked hC hX hbl hL hKc hKm hi h5 hsim hPc hDc hPm hDm hdis hS hl tail
    by_cases d7 : w = 7
    · refine lv_tableIn (tgt := 385) hx hb dL_law_32 (by rw [d7]; decide) (by rw [d7]; decide) (by rw [d7]; rfl) (by decide) ?_
      exact law_joined hC hX hbl hL hKc hKm hi h5 hsim hPc hDc hPm hDm hdis hS hl tail
    by_cases d8 : w = 8
    · refine lv_tableIn (tgt := 438) hx hb dL_law_32 (by rw [d8]; decide) (by rw [d8]; decide) (by rw [d8]; rfl) (by decide) ?_
      exact law_when hC hX hbl hL hKc hKm hi h5 hsim hPc hDc hPm hDm hdis hS hl tail
    by_cases d9 : w = 9
    · refine lv_tableIn (tgt := 491) hx hb dL_law_32 (by rw [d9]; decide) (by rw [d9]; decide) (by rw [d9]; rfl) (by decide) ?_
      exact law_fixed hC hX hbl hL hKc hKm hi h5 hsim hPc hDc hPm hDm hdis hS hl tail
    by_cases d10 : w = 10
    · refine lv_tableIn (tgt := 534) hx hb dL_law_32 (by rw [d10]; decide) (by rw [d10]; decide) (by rw [d10]; rfl) (by decide) ?_
      exact law_fed hC hX hbl hL hKc hKm hi h5 hsim hPc hDc hPm hDm hdis hS hl tail
    by_cases d11 : w = 11
    · refine lv_tableIn (tgt := 577) hx hb dL_law_32 (by rw [d11]; decide) (by rw [d11]; decide) (by rw [d11]; rfl) (by decide) ?_
      exact law_guarded hC hX hbl hL hKc hKm hi h5 hsim hPc hDc hPm hDm hdis hS hl tail
    by_cases d12 : w = 12
    · refine lv_tableIn (tgt := 620) hx hb dL_law_32 (by rw [d12]; decide) (by rw [d12]; decide) (by rw [d12]; rfl) (by decide) ?_
      exact law_called hC hX hbl hL hKc hKm hi h5 hsim hPc hDc hPm hDm hdis hS hl tail
    by_cases d13 : w = 13
    · refine lv_tableIn (tgt := 653) hx hb dL_law_32 (by rw [d13]; decide) (by rw [d13]; decide) (by rw [d13]; rfl) (by decide) ?_
      exact law_barred hC hX hbl hL hKc hKm hi h5 hsim hPc hDc hPm hDm hdis hS hl tail
    by_cases d14 : w = 14
    · refine lv_tableIn (tgt := 696) hx hb dL_law_32 (by rw [d14]; decide) (by rw [d14]; decide) (by rw [d14]; rfl) (by decide) ?_
      exact law_counted hC hX hbl hL hKc hKm hi h5 hsim hPc hDc hPm hDm hdis hS hl tail
    by_cases d15 : w = 15
    · refine lv_tableIn (tgt := 729) hx hb dL_law_32 (by rw [d15]; decide) (by rw [d15]; decide) (by rw [d15]; rfl) (by decide) ?_
      exact law_kept hC hX hbl hL hKc hKm hi h5 hsim hPc hDc hPm hDm hdis hS hl tail
    by_cases d16 : w = 16
    · refine lv_tableIn (tgt := 762) hx hb dL_law_32 (by rw [d16]; decide) (by rw [d16]; decide) (by rw [d16]; rfl) (by decide) ?_
      exact law_put hC hX hbl hL hKc hKm hi h5 hsim hPc hDc hPm hDm hdis hS hl tail
    by_cases d17 : w = 17
    · refine lv_tableIn (tgt := 795) hx hb dL_law_32 (by rw [d17]; decide) (by rw [d17]; decide) (by rw [d17]; rfl) (by decide) ?_
      exact law_take hC hX hbl hL hKc hKm hi h5 hsim hPc hDc hPm hDm hdis hS hl tail
    by_cases d18 : w = 18
    · refine lv_tableIn (tgt := 818) hx hb dL_law_32 (by rw [d18]; decide) (by rw [d18]; decide) (by rw [d18]; rfl) (by decide) ?_
      exact law_ask hC hX hbl hL hKc hKm hi h5 hsim hPc hDc hPm hDm hdis hS hl tail
    by_cases d19 : w = 19
    · refine lv_tableIn (tgt := 862) hx hb dL_law_32 (by rw [d19]; decide) (by rw [d19]; decide) (by rw [d19]; rfl) (by decide) ?_
      exact law_failed hC hX hbl hL hKc hKm hi h5 hsim hPc hDc hPm hDm hdis hS hl tail
    by_cases d20 : w = 20
    · refine lv_tableIn (tgt := 875) hx hb dL_law_32 (by rw [d20]; decide) (by rw [d20]; decide) (by rw [d20]; rfl) (by decide) ?_
      exact law_same hC hX hbl hL hKc hKm hi h5 hsim hPc hDc hPm hDm hdis hS hl tail
    by_cases d21 : w = 21
    · refine lv_tableIn (tgt := 908) hx hb dL_law_32 (by rw [d21]; decide) (by rw [d21]; decide) (by rw [d21]; rfl) (by decide) ?_
      exact law_count hC hX hbl hL hKc hKm hi h5 hsim hPc hDc hPm hDm hdis hS hl tail
    by_cases d22 : w = 22
    · refine lv_tableIn (tgt := 931) hx hb dL_law_32 (by rw [d22]; decide) (by rw [d22]; decide) (by rw [d22]; rfl) (by decide) ?_
      exact law_told hC hX hbl hL hKc hKm hi h5 hsim hPc hDc hPm hDm hdis hS hl tail
    by_cases d23 : w = 23
    · refine lv_tableIn (tgt := 954) hx hb dL_law_32 (by rw [d23]; decide) (by rw [d23]; decide) (by rw [d23]; rfl) (by decide) ?_
      exact law_clear hC hX hbl hL hKc hKm hi h5 hsim hPc hDc hPm hDm hdis hS hl tail
    refine lv_tableOut (tgt := 967) hx hb dL_law_32 (sw_out (fun k h1 h2 => ?_)) (by decide) ?_
    · rcases (show k = 0 ∨ k = 1 ∨ k = 2 ∨ k = 3 ∨ k = 4 ∨ k = 5 ∨ k = 6 ∨ k = 7 ∨ k = 8 ∨ k = 9 ∨ k = 10 ∨ k = 11 ∨ k = 12 ∨ k = 13 ∨ k = 14 ∨ k = 15 ∨ k = 16 ∨ k = 17 ∨ k = 18 ∨ k = 19 ∨ k = 20 ∨ k = 21 ∨ k = 22 ∨ k = 23 by omega) with rfl | rfl | rfl | rfl | rfl | rfl | rfl | rfl | rfl | rfl | rfl | rfl | rfl | rfl | rfl | rfl | rfl | rfl | rfl | rfl | rfl | rfl | rfl | rfl
      · exact d0
      · exact d1
      · exact d2
      · exact d3
      · exact d4
      · exact d5
      · exact d6
      · exact d7
      · exact d8
      · exact d9
      · exact d10
      · exact d11
      · exact d12
      · exact d13
      · exact d14
      · exact d15
      · exact d16
      · exact d17
      · exact d18
      · exact d19
      · exact d20
      · exact d21
      · exact d22
      · exact d23
    exact tail S T H locs ls _ _ (SimN.mono hsim) hPc hDc hPm hDm hdis hS hl (by omega) (by omega)
theorem law_split {D : va_G} {A : Nat → Prop} {w : va_W} {z : Nat × va_E} {H : Heap} (hP : va_P D vwCl (w ++ [z]) H) (hD : va_D A (w ++ [z])) : va_P D vwCl w H ∧ va_P D vwCl [z] H ∧ va_D A [z] ∧ wdis w [z] := by
  have g1 : ∀ (k : Nat) (q : Nat × va_E), w[k]? = some q → (w ++ [z])[k]? = some q := fun k q h => by
    rw [List.getElem?_append_left (List.getElem?_eq_some_iff.mp h).1]
    exact h
  have g2 : ∀ (k : Nat) (q : Nat × va_E), [z][k]? = some q → (w ++ [z])[w.length + k]? = some q := fun k q h => by
    rw [List.getElem?_append_right (by omega), Nat.add_sub_cancel_left]
    exact h
  refine ⟨fun k q h => hP k q (g1 k q h), fun k q h => hP _ q (g2 k q h), ⟨fun i j p q hi hj e => ?_, fun k q h => hD.2 _ q (g2 k q h)⟩, fun i j p q hi hj e => ?_⟩
  · have := hD.1 _ _ p q (g2 i p hi) (g2 j q hj) e
    omega
  · have := hD.1 _ _ p q (g1 i p hi) (g2 j q hj) e
    have := (List.getElem?_eq_some_iff.mp hi).1
    omega
theorem law_back {D : va_G} {w : va_W} {z : Nat × va_E} {H : Heap} (hP : va_P D vwCl (w ++ [z]) H) : va_P D vwCl w H := fun k q h => hP k q (by
    rw [List.getElem?_append_left (List.getElem?_eq_some_iff.mp h).1]
    exact h)
set_option maxHeartbeats 4000000 in
set_option maxRecDepth 100000 in
theorem whole_start {p : Program} {e : Env} {s : State} {m : MethodId} {below : List Frame} {meth : Method} {c : Code} (l : Launch) {b L : Nat} {xs : Nat → Int32} (hL : L ≤ 2560) (C0 : lw_At p s m meth c b L xs) : W p l e room_1 s m #[Value.ref b] below meth c s.heap [] 0 0 (lw_Z below #[Value.ref b] s) (entryFrame m ([Value.ref b] : List Value).toArray 4) := by
  obtain ⟨hx, hb, hr, hml, hown, hts0, hX, hbl, hlk, hgv⟩ := id C0
  have hown : s.vm.findClass RL = some m.cls := hown
  have hts : ∀ w ∈ wsL_law, w.before #[Value.ref b] s = true := fun w h => hts0 w (wsL_law_in w h)
  have hC : CallFix p m c code 4 s #[Value.ref b] wsL_law RL := ⟨hx, hb, hml, hown, hts⟩
  have hA : ∀ q : Nat, s.heap.size ≤ q → (fun q : Nat => s.heap.size ≤ q) q := fun _ h => h
  obtain ⟨c0, iS0, hKn0⟩ := u_known (C := RX0) (T := TX0) (N := 11) (n := 11) hts0 inX0 (hts0 (.instantiable RX0 11) (by decide +kernel))
  obtain ⟨c1, iS1, hKn1⟩ := u_known (C := RX1) (T := TX1) (N := 7) (n := 7) hts0 inX1 (hts0 (.instantiable RX1 7) (by decide +kernel))
  obtain ⟨c2, iS2, hKn2⟩ := u_known (C := RX2) (T := TX2) (N := 28) (n := 28) hts0 inX2 (hts0 (.instantiable RX2 28) (by decide +kernel))
  obtain ⟨D, hKc0⟩ : ∃ D : va_G, ∀ (k : Nat) (q : vw_C), vwCl[k]? = some q → u_Kn s q.1 q.2.1 q.2.2 (D.1 k) (D.2 k) := by
    refine ⟨(fun k => if k = 0 then c0 else if k = 1 then c1 else c2, fun k => if k = 0 then iS0 else if k = 1 then iS1 else iS2), ?_⟩
    intro k q hq
    match k, hq with
    | 0, hq => cases hq; exact hKn0
    | 1, hq => cases hq; exact hKn1
    | 2, hq => cases hq; exact hKn2
    | k + 3, hq => simp [vwCl] at hq
  have hS : va_S (fun q : Nat => s.heap.size ≤ q) s.heap s.heap [] := va_S.rf
  have hK : va_K D vwCl [] s := ⟨hKc0, fun k q h => by simp at h⟩
  have hK0 : cK0 D s := ⟨hK, va_AO.of (hts0 (.arrayOver (.object RX0)) (by decide +kernel)), hts0 (.arrayOver (.array .int)) (by decide +kernel)⟩
  have hP : va_P D vwCl [] s.heap := fun k q h => by simp at h
  have hD : va_D (fun q : Nat => s.heap.size ≤ q) [] := ⟨fun i j p q h => by simp at h, fun k q h => by simp at h⟩
  have hl := lv_entry ([.ref b]) (n := 4) (Nat.le_of_ble_eq_true rfl)
  rw [lg_entry_eq]
  generalize (lg_sl ([.ref b]) ++ List.replicate (4 - (lg_sl ([.ref b])).length) Slot.unset).toArray = ls at hl ⊢
  have hl : lv_has ls 4 [(0, .ref b)] := hl
  refine va_new (ci := 1) (fs := dk0) (C := RX1) (T := TX1) (N := 7) hx hb hts0 inX1 tyX1 tyX1_ok hown (hts (.classLink RL 7 RX1) (by decide +kernel)) (hts (.instantiable RX1 7) (by decide +kernel)) (hts (.initialized RX1) (by decide +kernel)) hK hP hD hS hA rfl (fun j hj => by rcases (show j = 0 ∨ j = 1 ∨ j = 2 ∨ j = 3 ∨ j = 4 ∨ j = 5 ∨ j = 6 by omega) with rfl | rfl | rfl | rfl | rfl | rfl | rfl <;> rfl) (by show _ ≤ 600000; omega) (by show _ ≤ 7302250; omega) dL_law_0 (fun x H hP hD hS => ?_)
  have hP : va_P D vwCl [(x, .inr (1, dk0))] H := hP
  have hD : va_D (fun q : Nat => s.heap.size ≤ q) [(x, .inr (1, dk0))] := hD
  refine W.widen (k := 1) (n := 7) (by omega) (by omega) ?_
  refine lv_dup hx hb dL_law_3 rfl ?_
  have hSa := hS
  refine va_callv (va_runI (As := []) (rest := [.ref x]) hC (c_X1_init l D x H.size) (cwI 0 hts gL_law_X1_init rfl rfl rfl (hts (.initialized RX1) (by decide +kernel)) (hts (.methodLink RL 9 yX1_init) (by decide +kernel)) (hts (.instanceMethod yX1_init) (by decide +kernel)) rfl (by decide +kernel) ⟨by decide, by decide⟩) ⟨wPre_blind kst_0, fun U hU hW => ⟨rfl, wPre_of kst_0 hK0 hP hD U hU hW⟩⟩ rfl rfl hl.1 rfl (lv_room (Nat.le_of_ble_eq_true rfl)) dL_law_4 ⟨by show _ ≤ 600000; omega, by show _ ≤ 7302250; omega⟩) hS (fun q _ h => wfree hD hS hA q h) (wfree hD hS hA) (fun u t H1 locs ht hvm hw hB hz1 hk1 hS => ?_)
  obtain ⟨⟨A0, A1, A2⟩, ⟨cI, cR, cII⟩, S⟩ := u
  obtain ⟨r, hrinj, hS0⟩ := hw
  obtain ⟨hP1, hK1, hD1⟩ := hB
  have hPc : va_P D vwCl (cW x A0 A1 A2 cI cR cII S) H1 := ht ▸ hP1
  have hKc : cKK D cI cR cII s := kst_C hvm.symm hK1
  have hDc : va_D (fun q : Nat => s.heap.size ≤ q) (cW x A0 A1 A2 cI cR cII S) := hD1.weaken (fun k q _ h9 => wfree hD hSa hA q.1 h9)
  refine W.widen (k := 8) (n := 35) (by omega) (by omega) ?_
  refine lv_astore_n (lv' := [(1, .ref x), (0, .ref b)]) hx hb dL_law_7 rfl hl (by decide) rfl (fun ls hl => ?_)
  refine va_new (ci := 2) (fs := mF0) (C := RX2) (T := TX2) (N := 28) hx hb hts0 inX2 tyX2 tyX2_ok hown (hts (.classLink RL 10 RX2) (by decide +kernel)) (hts (.instantiable RX2 28) (by decide +kernel)) (hts (.initialized RX2) (by decide +kernel)) hK hPc hDc hS hA rfl (fun j hj => by rcases (show j = 0 ∨ j = 1 ∨ j = 2 ∨ j = 3 ∨ j = 4 ∨ j = 5 ∨ j = 6 ∨ j = 7 ∨ j = 8 ∨ j = 9 ∨ j = 10 ∨ j = 11 ∨ j = 12 ∨ j = 13 ∨ j = 14 ∨ j = 15 ∨ j = 16 ∨ j = 17 ∨ j = 18 ∨ j = 19 ∨ j = 20 ∨ j = 21 ∨ j = 22 ∨ j = 23 ∨ j = 24 ∨ j = 25 ∨ j = 26 ∨ j = 27 by omega) with rfl | rfl | rfl | rfl | rfl | rfl | rfl | rfl | rfl | rfl | rfl | rfl | rfl | rfl | rfl | rfl | rfl | rfl | rfl | rfl | rfl | rfl | rfl | rfl | rfl | rfl | rfl | rfl <;> rfl) (by show _ ≤ 600000; omega) (by show _ ≤ 7302250; omega) dL_law_8 (fun h H hP2 hD2 hS => ?_)
  obtain ⟨hPc, hPm, hDm, hdis⟩ := law_split hP2 hD2
  refine W.widen (k := 9) (n := 63) (by omega) (by omega) ?_
  refine lv_dup hx hb dL_law_11 rfl ?_
  obtain ⟨N, hN, hI⟩ := M_init
  refine va_callv (va_runI (As := []) (rest := [.ref h]) hC (c_X2_init l D h N hN H.size) (cwI 0 hts gL_law_X2_init rfl rfl rfl (hts (.initialized RX2) (by decide +kernel)) (hts (.methodLink RL 12 yX2_init) (by decide +kernel)) (hts (.instanceMethod yX2_init) (by decide +kernel)) rfl (by decide +kernel) ⟨by decide, by decide⟩) ⟨wPre_blind kst_K, fun U hU hW => ⟨rfl, wPre_of kst_K hK hPm hDm U hU hW⟩⟩ rfl rfl hl.1 rfl (lv_room (Nat.le_of_ble_eq_true rfl)) dL_law_12 ⟨by show _ ≤ 600000; omega, by show _ ≤ 7302250; omega⟩) hS (fun q _ h => wfree hDm hS hA q h) (wfree hDm hS hA) (fun u t H2 locs ht hvm hw hB hz1 hk1 hS2 => ?_)
  obtain ⟨ad, dI, dJ, dZ, T⟩ := u
  obtain ⟨hP3, hK3, hD3⟩ := hB
  have hPc : va_P D vwCl (cW x A0 A1 A2 cI cR cII S) H2 := wz_keep hPc hdis.symm hk1
  have hdis : wdis (mW h ad dI dJ dZ T) (cW x A0 A1 A2 cI cR cII S) := wz_dis (law_back hP2) hdis.symm hD3
  have hPm2 : va_P D vwCl (mW h ad dI dJ dZ T) H2 := ht ▸ hP3
  have hKm : va_K D vwCl (mTy dI dJ dZ) s := va_K.moved hvm.symm hK3
  have hDm2 : va_D (fun q : Nat => s.heap.size ≤ q) (mW h ad dI dJ dZ T) := hD3.weaken (fun k q _ h9 => wfree hDm hS hA q.1 h9)
  refine W.widen (k := 29 + 4 * 0) (n := 80011 + 44 * 0) (by omega) (by omega) ?_
  refine lv_astore_n (lv' := [(2, .ref h), (1, .ref x), (0, .ref b)]) hx hb dL_law_15 rfl hl (by decide) rfl (fun ls hl => ?_)
  refine lv_iconst (v := nI (5 * 0)) hx hb dL_law_16 (by decide) ?_
  refine lv_istore_n (lv' := [(3, .int (nI (5 * 0))), (2, .ref h), (1, .ref x), (0, .ref b)]) hx hb dL_law_17 rfl hl (by decide) rfl (fun ls hl => ?_)
  have hw : T = (p_X2_clear N MS0).2 := hw
  subst hw
  subst hS0
  exact law_loop hC hr hlk hX hbl hL hKc hKm 513 0 (by omega) (by omega) _ _ (hI r hrinj) _ _ hPc hDc hPm2 hDm2 hdis.symm hS2 ls (lv_sub hl [3, 2, 1, 0] rfl)
-- ===== YOUR PART ENDS =====
set_option maxHeartbeats 4000000 in
theorem lw_walk (l : Launch) (b : Addr) (xs : List Int32) : MetFree l x (headSpec (Jvm.Cond.code x code maxLocals ret :: tables_1) room_1) (lw_P b xs) (fun _ _ _ _ _ => True) lw_Q := by
  refine MetFree.of_bodyS (code := code) (maxLocals := maxLocals) (ret := ret) (by decide) ?_ ?_
  · intro args s m h hn
    obtain ⟨meth, c, h1, h2, h3, h4, h5, h6, -, -⟩ := Cond.code_spec hn (atoms_spec (ws := Jvm.Cond.code x code maxLocals ret :: tables_1) h _ List.mem_cons_self)
    exact ⟨meth, c, h1, h2, h3, h4, h5, h6⟩
  · intro p e s m args below meth c s₁ B hml0 hP _
    obtain ⟨rfl, hx, hbd, hgv⟩ := hP
    obtain ⟨scr, harrAt, hlist, hof, hsmall⟩ := hx
    obtain ⟨hcb, hkn, -, -⟩ := State.arrayAt?_spec harrAt
    have hown : s.vm.findClass R_law = some m.cls := findClass_of_methodNamed B.named
    have hts0 : ∀ c ∈ (Jvm.Cond.code x code maxLocals ret :: tables_1), c.before #[Value.ref b] s = true := atoms_spec (ws := Jvm.Cond.code x code maxLocals ret :: tables_1) B.pre
    have hts : ∀ w ∈ lw_tbl, w.before #[Value.ref b] s = true := k2_hts_sels lw_privs (fun w hw => hts0 w (List.mem_cons_of_mem _ hw)) lw_privs_ok
    have hml : c.maxLocals = 4 := B.maxLocals_eq (hts0 _ List.mem_cons_self)
    have X₀ : Stand p l e room_1 s m #[Value.ref b] below meth c s₁ [] 0 0 := Stand.of_body B
    have hh0 : s₁.heap = s.heap := by rw [B.state]; rfl
    have hsz : scr.slots.size = xs.length := by rw [← Array.length_toList, hlist, List.length_map]
    have hval : ∀ j : Nat, j < xs.length → scr.slots[j]? = some (.int (xs.getD j 0)) := fun j hj => by
      rw [← Array.getElem?_toList, hlist]
      simp [hj]
    have hbl : b < s.heap.size := (Array.getElem?_eq_some_iff.mp hcb).1
    have hX : va_X b xs.length (fun j => xs.getD j 0) s s.heap := ⟨scr, hcb, hof, hkn, hsz, hval⟩
    have K : W p l e room_1 s m #[Value.ref b] below meth c s₁.heap [] 0 0 (lw_Z below #[Value.ref b] s) (entryFrame m ([Value.ref b] : List Value).toArray 4) := by
      rw [hh0]
      exact whole_start l hbd ⟨B.exec, B.bytes, B.returns, hml, hown, hts, hX, hbl, B.notSynchronized, hgv⟩
    obtain ⟨t, a1, o, b1, b2, b3⟩ := K s₁ rfl X₀
    exact ⟨t, o, a1, b1, b2, b3⟩
theorem lw_pre_spec {args : Array Value} {s : State} (h : (Jvm.Cond.and given_1 narrow_1).before args s = true) (hr : rest_1_c.before args s = true) : ∃ (b : Addr) (xs : List Int32), lw_P b xs args s := by
  have hs := flat_of_before _ h
  have hq := flat_of_before _ hr
  have hc : (Cond.count 1).before args s = true := hs _ (by decide +kernel)
  have harr : (Cond.arrayOf (.arg 0) .int).before args s = true := hs _ (by decide +kernel)
  have hle : (Cond.le (.length (.arg 0)) (.int 2560)).before args s = true := hs _ (by decide +kernel)
  have hlen : (Cond.isInt (.length (.arg 0))).before args s = true := hq _ (by decide +kernel)
  have hall : (Cond.all (.arg 0) (.isInt (.elem (.arg 0) (.index 0)))).before args s = true := hq _ (by decide +kernel)
  obtain ⟨b, xs, hb, hx⟩ := State.ints_of_pre rfl harr hlen hall
  have hsm : xs.length < 2 ^ 31 := hx.choose_spec.2.2.2
  have hev : (Term.length (.arg 0)).eval args s none [] s = some (.int xs.length.toInt32) := hx.length_eval hb
  have hv := Cond.le_ints hev (show (Term.int 2560).eval args s none [] s = some (.int 2560) from rfl)
  have hd : xs.length.toInt32 ≤ 2560 := by
    simpa [Cond.before, Cond.holds, hv] using hle
  have hN : xs.length ≤ 2560 := (Int32.ofNat_le_ofNat hsm (by decide)).mp (show Int32.ofNat xs.length ≤ Int32.ofNat 2560 from hd)
  exact ⟨b, xs, Cond.one_arg hc (show args[0]? = some (.ref b) from hb), hx, hN, h⟩
theorem lw_comes (l : Launch) : Comes l x (Jvm.Cond.code x code maxLocals ret :: tables_1) room_1 (fun tb e args s => Calls_1 tb e args s ∧ rest_1 tb e args s ∧ Pre_1 tb e args s)
    (fun _ _ args s o t => lw_Q args s o t) := by
  intro p e ha hc hk s m args below hf hfit hheap happ hpre
  obtain ⟨b, xs, hP⟩ := lw_pre_spec hpre.2.2 hpre.2.1
  obtain ⟨k, o, h1, h2, h3, hQ⟩ := lw_walk l b xs p e ha hc hk s m args below hf ((Spec.applies_iff_loose hf).mp happ).1 hP trivial
  exact ⟨k, o, h1, h2, h3, hQ⟩
theorem lw_frame {s t : State} {o : Outcome} {args : Array Value} (h : Framed s o t [] 600000 7302250) :
    Framed s o t (fieldLocs frame_1_writes args s ++ arrayLocs frame_1_arrays args s ++ staticLocs frame_1_statics s) 600000 7302250 := h
theorem lw_limb (L : Cond) (hL : ∀ (args : Array Value) (s t : State), L.after args s (.returned (some (.int 1))) t = true) :
    ArmFor flags0 classFile x code maxLocals ret World_1 tables_1 room_1 Calls_1 rest_1 Pre_1
      (fun tb e a s o t => postC L tb e a s o t ∧ Framed s o t (fieldLocs frame_1_writes a s ++ arrayLocs frame_1_arrays a s ++ staticLocs frame_1_statics s) 600000 7302250) := by
  intro l _ _ _ p e ha hc hk s m args below hf hfit hheap happ hpre
  obtain ⟨k, o, h1, h2, h3, rfl, hF⟩ := lw_comes l p e ha hc hk s m args below hf hfit hheap happ hpre
  exact ⟨k, _, h1, h2, h3, hL args s _, lw_frame hF⟩
theorem i_vc : Claimed_1_1 ∧ Claimed_1_2 := ⟨lw_limb limb_1_1 (fun args s t => by simp [limb_1_1, Cond.after, Cond.holds, Cond.value]), lw_limb limb_1_2 (fun args s t => Cond.after_iff.mpr (by
  first | (rw [show limb_1_2 = Cond.eq .result (.int 1) from rfl, Cond.eq_ints (x := 1) (y := 1) rfl rfl]; simp; done) | (simp [limb_1_2, Cond.value, Term.eval]; done)))⟩
