/-! the reference's world: one object, twenty arrays; its state: int fields and arrays by the slot of their field, long arrays, and the long that came -/
abbrev MS : Type := (Nat → Int32) × (Nat → Nat → Int32) × (Nat → Nat → Int64) × Int64
abbrev msI (S : MS) (k : Nat) (v : Int32) : MS := (upd S.1 k v, S.2)
abbrev msA (S : MS) (j i : Nat) (v : Int32) : MS := (S.1, va_up S.2.1 j (upd (S.2.1 j) i v), S.2.2)
abbrev msJ (S : MS) (j i : Nat) (v : Int64) : MS := (S.1, S.2.1, va_up S.2.2.1 j (vp_updL (S.2.2.1 j) i v), S.2.2.2)
abbrev msG (S : MS) (v : Int64) : MS := (S.1, S.2.1, S.2.2.1, v)
abbrev mTy (cI cJ cZ : ClassId) : List (ClassId × FieldType) := [(cI, .int), (cJ, .long), (cZ, .boolean)]
def mF (ad : Nat → Nat) (S : MS) : List Value := [.ref (ad 0), .ref (ad 1), .ref (ad 2), .ref (ad 3), .int (S.1 4), .int (S.1 5), .ref (ad 6), .ref (ad 7), .ref (ad 8), .ref (ad 9), .ref (ad 10), .ref (ad 11), .ref (ad 12), .ref (ad 13), .ref (ad 14), .ref (ad 15), .ref (ad 16), .int (S.1 17), .int (S.1 18), .int (S.1 19), .int (S.1 20), .ref (ad 21), .ref (ad 22), .ref (ad 23), .ref (ad 24), .ref (ad 25), .long S.2.2.2, .int (S.1 27)]
def mR (ad : Nat → Nat) (cI cJ cZ : ClassId) (S : MS) : va_W := [(ad 0, .inl (cI, 8, .inl (S.2.1 0))), (ad 1, .inl (cI, 4, .inl (S.2.1 1))), (ad 2, .inl (cI, 4200, .inl (S.2.1 2))), (ad 3, .inl (cI, 33600, .inl (S.2.1 3))), (ad 6, .inl (cI, 4200, .inl (S.2.1 6))), (ad 7, .inl (cI, 4200, .inl (S.2.1 7))), (ad 8, .inl (cI, 4200, .inl (S.2.1 8))), (ad 9, .inl (cI, 4200, .inl (S.2.1 9))), (ad 10, .inl (cJ, 4200, .inr (.inl (S.2.2.1 10)))), (ad 11, .inl (cI, 4200, .inl (S.2.1 11))), (ad 12, .inl (cZ, 4200, .inl (S.2.1 12))), (ad 13, .inl (cI, 4200, .inl (S.2.1 13))), (ad 14, .inl (cI, 4200, .inl (S.2.1 14))), (ad 15, .inl (cJ, 4200, .inr (.inl (S.2.2.1 15)))), (ad 16, .inl (cI, 16, .inl (S.2.1 16))), (ad 21, .inl (cI, 24, .inl (S.2.1 21))), (ad 22, .inl (cI, 24, .inl (S.2.1 22))), (ad 23, .inl (cI, 24, .inl (S.2.1 23))), (ad 24, .inl (cI, 24, .inl (S.2.1 24))), (ad 25, .inl (cJ, 24, .inr (.inl (S.2.2.1 25))))]
def mW (h : Nat) (ad : Nat → Nat) (cI cJ cZ : ClassId) (S : MS) : va_W := (h, .inr (2, mF ad S)) :: mR ad cI cJ cZ S
section WM
variable {p : Program} {l : Launch} {e : Env} {R : Room} {s : State} {m : MethodId} {args : Array Value} {below : List Frame} {meth : Method} {c : Code} {H H0 : Heap} {locs : List Loc} {cells slots : Nat} {Q : State → Prop}
variable {D : va_G} {A : Nat → Prop} {pc : Nat} {ls : Array Slot} {rest : List Value} {cc : ByteArray} {nL index : Nat} {Ts : List Cond} {h : Nat} {ad : Nat → Nat} {cI cJ cZ : ClassId} {S : MS}
theorem wm_cell (hK : va_K D vwCl (mTy cI cJ cZ) s) (hP : va_P D vwCl (mW h ad cI cJ cZ S) H) : ∃ cellB : Cell, H[h]? = some cellB ∧ cellB.vm.isStatics = false ∧ s.vm.findClass RX2 = some cellB.cls := va_recv hK hP (ci := 2) (q0 := 0) rfl rfl
theorem wm_get (hC : CallFix p m c cc nL s args Ts RX2) (hin : ∀ w ∈ wsX20, w ∈ Ts) (hK : va_K D vwCl (mTy cI cJ cZ) s) (hP : va_P D vwCl (mW h ad cI cJ cZ S) H) (k : Nat) (hk : k < 28) (hs : (TX2 k).1 = "ChargeDeskModel") (hm : Cond.fieldLink RX2 index "ChargeDeskModel" (TX2 k).2.1 (TX2 k).2.2.1 ∈ Ts) {v : Value} (hv : (mF ad S)[k]? = some v) (hdg : decode cc pc = .ok (.getfield index, 3))
    (kk : W p l e R s m args below meth c H locs cells slots Q (F0 m (pc + 3) ls (v :: rest))) : W p l e R s m args below meth c H locs cells slots Q (F0 m pc ls (.ref h :: rest)) :=
  va_get (D := D) (ci := 2) (v := v) (C := RX2) (T := TX2) (N := 28) hC.1 hC.2.1 hC.2.2.2.2 hin hC.2.2.2.1 hK hP 0 rfl rfl k hk (hC.2.2.2.2 _ hm) (fun x h9 => by rw [hs] at h9; exact h9) hv hdg kk
theorem wm_putI (hC : CallFix p m c cc nL s args Ts RX2) (hin : ∀ w ∈ wsX20, w ∈ Ts) (hK : va_K D vwCl (mTy cI cJ cZ) s) (hP : va_P D vwCl (mW h ad cI cJ cZ S) H) (hD : va_D A (mW h ad cI cJ cZ S)) (hS : va_S A H0 H locs) (k : Nat) (hk : k < 28) (hs : (TX2 k).1 = "ChargeDeskModel") (hm : Cond.fieldLink RX2 index "ChargeDeskModel" (TX2 k).2.1 (TX2 k).2.2.1 ∈ Ts) {v : Int32} (hfin : (TX2 k).2.2.2 = false) (hd : parseFieldDescriptor (TX2 k).2.2.1 = some .int) (hset : (mF ad S).set k (.int v) = mF ad (msI S k v)) (hdg : decode cc pc = .ok (.putfield index, 3))
    (kk : ∀ (H1 : Heap) (locs1 : List Loc), va_P D vwCl (mW h ad cI cJ cZ (msI S k v)) H1 → va_D A (mW h ad cI cJ cZ (msI S k v)) → va_S A H0 H1 locs1 → W p l e R s m args below meth c H1 locs1 cells slots Q (F0 m (pc + 3) ls rest)) : W p l e R s m args below meth c H locs cells slots Q (F0 m pc ls (.int v :: .ref h :: rest)) := by
  refine va_put (D := D) (ci := 2) (v := .int v) (ty := .int) (C := RX2) (T := TX2) (N := 28) hC.1 hC.2.1 hC.2.2.2.2 hin tyX2 tyX2_ok nmX2 hC.2.2.2.1 hK hP hD hS 0 rfl rfl k hk (hC.2.2.2.2 _ hm) (fun x h9 => by rw [hs] at h9; exact h9) hfin hd rfl rfl hk hdg (fun H locs hP hD hS => ?_)
  rw [hset] at hP hD
  exact kk H locs hP hD hS
theorem wm_putJ (hC : CallFix p m c cc nL s args Ts RX2) (hin : ∀ w ∈ wsX20, w ∈ Ts) (hK : va_K D vwCl (mTy cI cJ cZ) s) (hP : va_P D vwCl (mW h ad cI cJ cZ S) H) (hD : va_D A (mW h ad cI cJ cZ S)) (hS : va_S A H0 H locs) (hm : Cond.fieldLink RX2 index "ChargeDeskModel" (TX2 26).2.1 (TX2 26).2.2.1 ∈ Ts) {v : Int64} (hdg : decode cc pc = .ok (.putfield index, 3))
    (kk : ∀ (H1 : Heap) (locs1 : List Loc), va_P D vwCl (mW h ad cI cJ cZ (msG S v)) H1 → va_D A (mW h ad cI cJ cZ (msG S v)) → va_S A H0 H1 locs1 → W p l e R s m args below meth c H1 locs1 cells slots Q (F0 m (pc + 3) ls rest)) : W p l e R s m args below meth c H locs cells slots Q (F0 m pc ls (.long v :: .ref h :: rest)) := by
  refine va_put (D := D) (ci := 2) (v := .long v) (ty := .long) (C := RX2) (T := TX2) (N := 28) hC.1 hC.2.1 hC.2.2.2.2 hin tyX2 tyX2_ok nmX2 hC.2.2.2.1 hK hP hD hS 0 rfl rfl 26 (by decide) (hC.2.2.2.2 _ hm) (fun x h9 => h9) rfl (by decide +kernel) rfl rfl (Nat.le_of_ble_eq_true rfl) hdg (fun H locs hP hD hS => ?_)
  exact kk H locs hP hD hS
theorem wm_iald (hC : CallFix p m c cc nL s args Ts RX2) (hK : va_K D vwCl (mTy cI cJ cZ) s) (hP : va_P D vwCl (mW h ad cI cJ cZ S) H) (j q : Nat) {n : Nat} {i : Int32} (ha : (mW h ad cI cJ cZ S)[q]? = some (ad j, .inl (cI, n, .inl (S.2.1 j)))) (hin : vp_in i n) (hdg : decode cc pc = .ok (.iaload, 1))
    (kk : W p l e R s m args below meth c H locs cells slots Q (F0 m (pc + 1) ls (.int (S.2.1 j i.toNatClampNeg) :: rest))) : W p l e R s m args below meth c H locs cells slots Q (F0 m pc ls (.int i :: .ref (ad j) :: rest)) :=
  va_iald hC.1 hC.2.1 hK hP q 0 ha rfl hin hdg kk
theorem wm_zald (hC : CallFix p m c cc nL s args Ts RX2) (hK : va_K D vwCl (mTy cI cJ cZ) s) (hP : va_P D vwCl (mW h ad cI cJ cZ S) H) (j q : Nat) {n : Nat} {i : Int32} (ha : (mW h ad cI cJ cZ S)[q]? = some (ad j, .inl (cZ, n, .inl (S.2.1 j)))) (hin : vp_in i n) (hdg : decode cc pc = .ok (.baload, 1))
    (kk : W p l e R s m args below meth c H locs cells slots Q (F0 m (pc + 1) ls (.int (S.2.1 j i.toNatClampNeg) :: rest))) : W p l e R s m args below meth c H locs cells slots Q (F0 m pc ls (.int i :: .ref (ad j) :: rest)) :=
  va_zald hC.1 hC.2.1 hK hP q 2 ha rfl hin hdg kk
theorem wm_lald (hC : CallFix p m c cc nL s args Ts RX2) (hK : va_K D vwCl (mTy cI cJ cZ) s) (hP : va_P D vwCl (mW h ad cI cJ cZ S) H) (j q : Nat) {n : Nat} {i : Int32} (ha : (mW h ad cI cJ cZ S)[q]? = some (ad j, .inl (cJ, n, .inr (.inl (S.2.2.1 j))))) (hin : vp_in i n) (hdg : decode cc pc = .ok (.laload, 1))
    (kk : W p l e R s m args below meth c H locs cells slots Q (F0 m (pc + 1) ls (.long (S.2.2.1 j i.toNatClampNeg) :: rest))) : W p l e R s m args below meth c H locs cells slots Q (F0 m pc ls (.int i :: .ref (ad j) :: rest)) :=
  va_lald hC.1 hC.2.1 hK hP q 1 ha rfl hin hdg kk
theorem wm_iast (hC : CallFix p m c cc nL s args Ts RX2) (hK : va_K D vwCl (mTy cI cJ cZ) s) (hP : va_P D vwCl (mW h ad cI cJ cZ S) H) (hD : va_D A (mW h ad cI cJ cZ S)) (hS : va_S A H0 H locs) (j q : Nat) {n : Nat} {i x : Int32} (ha : (mW h ad cI cJ cZ S)[q]? = some (ad j, .inl (cI, n, .inl (S.2.1 j)))) (hset : (mW h ad cI cJ cZ S).set q (ad j, .inl (cI, n, .inl (upd (S.2.1 j) i.toNatClampNeg x))) = mW h ad cI cJ cZ (msA S j i.toNatClampNeg x)) (hin : vp_in i n) (hdg : decode cc pc = .ok (.iastore, 1))
    (kk : ∀ (H1 : Heap) (locs1 : List Loc), va_P D vwCl (mW h ad cI cJ cZ (msA S j i.toNatClampNeg x)) H1 → va_D A (mW h ad cI cJ cZ (msA S j i.toNatClampNeg x)) → va_S A H0 H1 locs1 → W p l e R s m args below meth c H1 locs1 cells slots Q (F0 m (pc + 1) ls rest)) : W p l e R s m args below meth c H locs cells slots Q (F0 m pc ls (.int x :: .int i :: .ref (ad j) :: rest)) := by
  refine va_iast hC.1 hC.2.1 hK hP hD hS q 0 ha rfl hin hdg (fun H locs hP hD hS => ?_)
  rw [hset] at hP hD
  exact kk H locs hP hD hS
theorem wm_zast (hC : CallFix p m c cc nL s args Ts RX2) (hK : va_K D vwCl (mTy cI cJ cZ) s) (hP : va_P D vwCl (mW h ad cI cJ cZ S) H) (hD : va_D A (mW h ad cI cJ cZ S)) (hS : va_S A H0 H locs) (j q : Nat) {n : Nat} {i x : Int32} (ha : (mW h ad cI cJ cZ S)[q]? = some (ad j, .inl (cZ, n, .inl (S.2.1 j)))) (hset : (mW h ad cI cJ cZ S).set q (ad j, .inl (cZ, n, .inl (upd (S.2.1 j) i.toNatClampNeg x))) = mW h ad cI cJ cZ (msA S j i.toNatClampNeg x)) (hx : vp_nar .boolean x = x) (hin : vp_in i n) (hdg : decode cc pc = .ok (.bastore, 1))
    (kk : ∀ (H1 : Heap) (locs1 : List Loc), va_P D vwCl (mW h ad cI cJ cZ (msA S j i.toNatClampNeg x)) H1 → va_D A (mW h ad cI cJ cZ (msA S j i.toNatClampNeg x)) → va_S A H0 H1 locs1 → W p l e R s m args below meth c H1 locs1 cells slots Q (F0 m (pc + 1) ls rest)) : W p l e R s m args below meth c H locs cells slots Q (F0 m pc ls (.int x :: .int i :: .ref (ad j) :: rest)) := by
  refine va_zast hC.1 hC.2.1 hK hP hD hS q 2 ha rfl hin hdg (fun H locs hP hD hS => ?_)
  rw [hx, hset] at hP hD
  exact kk H locs hP hD hS
theorem wm_last (hC : CallFix p m c cc nL s args Ts RX2) (hK : va_K D vwCl (mTy cI cJ cZ) s) (hP : va_P D vwCl (mW h ad cI cJ cZ S) H) (hD : va_D A (mW h ad cI cJ cZ S)) (hS : va_S A H0 H locs) (j q : Nat) {n : Nat} {i : Int32} {x : Int64} (ha : (mW h ad cI cJ cZ S)[q]? = some (ad j, .inl (cJ, n, .inr (.inl (S.2.2.1 j))))) (hset : (mW h ad cI cJ cZ S).set q (ad j, .inl (cJ, n, .inr (.inl (vp_updL (S.2.2.1 j) i.toNatClampNeg x)))) = mW h ad cI cJ cZ (msJ S j i.toNatClampNeg x)) (hin : vp_in i n) (hdg : decode cc pc = .ok (.lastore, 1))
    (kk : ∀ (H1 : Heap) (locs1 : List Loc), va_P D vwCl (mW h ad cI cJ cZ (msJ S j i.toNatClampNeg x)) H1 → va_D A (mW h ad cI cJ cZ (msJ S j i.toNatClampNeg x)) → va_S A H0 H1 locs1 → W p l e R s m args below meth c H1 locs1 cells slots Q (F0 m (pc + 1) ls rest)) : W p l e R s m args below meth c H locs cells slots Q (F0 m pc ls (.long x :: .int i :: .ref (ad j) :: rest)) := by
  refine va_last hC.1 hC.2.1 hK hP hD hS q 1 ha rfl hin hdg (fun H locs hP hD hS => ?_)
  rw [hset] at hP hD
  exact kk H locs hP hD hS
end WM
theorem mget_0 (ad : Nat → Nat) (S : MS) : (mF ad S)[0]? = some (.ref (ad 0)) := rfl
theorem marr_0 (h : Nat) (ad : Nat → Nat) (cI cJ cZ : ClassId) (S : MS) : (mW h ad cI cJ cZ S)[1]? = some (ad 0, .inl (cI, 8, .inl (S.2.1 0))) := rfl
theorem mast_0 (h : Nat) (ad : Nat → Nat) (cI cJ cZ : ClassId) (S : MS) (i : Nat) (x : Int32) : (mW h ad cI cJ cZ S).set 1 (ad 0, .inl (cI, 8, .inl (upd (S.2.1 0) i x))) = mW h ad cI cJ cZ (msA S 0 i x) := rfl
theorem mget_1 (ad : Nat → Nat) (S : MS) : (mF ad S)[1]? = some (.ref (ad 1)) := rfl
theorem marr_1 (h : Nat) (ad : Nat → Nat) (cI cJ cZ : ClassId) (S : MS) : (mW h ad cI cJ cZ S)[2]? = some (ad 1, .inl (cI, 4, .inl (S.2.1 1))) := rfl
theorem mast_1 (h : Nat) (ad : Nat → Nat) (cI cJ cZ : ClassId) (S : MS) (i : Nat) (x : Int32) : (mW h ad cI cJ cZ S).set 2 (ad 1, .inl (cI, 4, .inl (upd (S.2.1 1) i x))) = mW h ad cI cJ cZ (msA S 1 i x) := rfl
theorem mget_2 (ad : Nat → Nat) (S : MS) : (mF ad S)[2]? = some (.ref (ad 2)) := rfl
theorem marr_2 (h : Nat) (ad : Nat → Nat) (cI cJ cZ : ClassId) (S : MS) : (mW h ad cI cJ cZ S)[3]? = some (ad 2, .inl (cI, 4200, .inl (S.2.1 2))) := rfl
theorem mast_2 (h : Nat) (ad : Nat → Nat) (cI cJ cZ : ClassId) (S : MS) (i : Nat) (x : Int32) : (mW h ad cI cJ cZ S).set 3 (ad 2, .inl (cI, 4200, .inl (upd (S.2.1 2) i x))) = mW h ad cI cJ cZ (msA S 2 i x) := rfl
theorem mget_3 (ad : Nat → Nat) (S : MS) : (mF ad S)[3]? = some (.ref (ad 3)) := rfl
theorem marr_3 (h : Nat) (ad : Nat → Nat) (cI cJ cZ : ClassId) (S : MS) : (mW h ad cI cJ cZ S)[4]? = some (ad 3, .inl (cI, 33600, .inl (S.2.1 3))) := rfl
theorem mast_3 (h : Nat) (ad : Nat → Nat) (cI cJ cZ : ClassId) (S : MS) (i : Nat) (x : Int32) : (mW h ad cI cJ cZ S).set 4 (ad 3, .inl (cI, 33600, .inl (upd (S.2.1 3) i x))) = mW h ad cI cJ cZ (msA S 3 i x) := rfl
theorem mget_4 (ad : Nat → Nat) (S : MS) : (mF ad S)[4]? = some (.int (S.1 4)) := rfl
theorem mset_4 (ad : Nat → Nat) (S : MS) (v : Int32) : (mF ad S).set 4 (.int v) = mF ad (msI S 4 v) := rfl
theorem mget_5 (ad : Nat → Nat) (S : MS) : (mF ad S)[5]? = some (.int (S.1 5)) := rfl
theorem mset_5 (ad : Nat → Nat) (S : MS) (v : Int32) : (mF ad S).set 5 (.int v) = mF ad (msI S 5 v) := rfl
theorem mget_6 (ad : Nat → Nat) (S : MS) : (mF ad S)[6]? = some (.ref (ad 6)) := rfl
theorem marr_6 (h : Nat) (ad : Nat → Nat) (cI cJ cZ : ClassId) (S : MS) : (mW h ad cI cJ cZ S)[5]? = some (ad 6, .inl (cI, 4200, .inl (S.2.1 6))) := rfl
theorem mast_6 (h : Nat) (ad : Nat → Nat) (cI cJ cZ : ClassId) (S : MS) (i : Nat) (x : Int32) : (mW h ad cI cJ cZ S).set 5 (ad 6, .inl (cI, 4200, .inl (upd (S.2.1 6) i x))) = mW h ad cI cJ cZ (msA S 6 i x) := rfl
theorem mget_7 (ad : Nat → Nat) (S : MS) : (mF ad S)[7]? = some (.ref (ad 7)) := rfl
theorem marr_7 (h : Nat) (ad : Nat → Nat) (cI cJ cZ : ClassId) (S : MS) : (mW h ad cI cJ cZ S)[6]? = some (ad 7, .inl (cI, 4200, .inl (S.2.1 7))) := rfl
theorem mast_7 (h : Nat) (ad : Nat → Nat) (cI cJ cZ : ClassId) (S : MS) (i : Nat) (x : Int32) : (mW h ad cI cJ cZ S).set 6 (ad 7, .inl (cI, 4200, .inl (upd (S.2.1 7) i x))) = mW h ad cI cJ cZ (msA S 7 i x) := rfl
theorem mget_8 (ad : Nat → Nat) (S : MS) : (mF ad S)[8]? = some (.ref (ad 8)) := rfl
theorem marr_8 (h : Nat) (ad : Nat → Nat) (cI cJ cZ : ClassId) (S : MS) : (mW h ad cI cJ cZ S)[7]? = some (ad 8, .inl (cI, 4200, .inl (S.2.1 8))) := rfl
theorem mast_8 (h : Nat) (ad : Nat → Nat) (cI cJ cZ : ClassId) (S : MS) (i : Nat) (x : Int32) : (mW h ad cI cJ cZ S).set 7 (ad 8, .inl (cI, 4200, .inl (upd (S.2.1 8) i x))) = mW h ad cI cJ cZ (msA S 8 i x) := rfl
theorem mget_9 (ad : Nat → Nat) (S : MS) : (mF ad S)[9]? = some (.ref (ad 9)) := rfl
theorem marr_9 (h : Nat) (ad : Nat → Nat) (cI cJ cZ : ClassId) (S : MS) : (mW h ad cI cJ cZ S)[8]? = some (ad 9, .inl (cI, 4200, .inl (S.2.1 9))) := rfl
theorem mast_9 (h : Nat) (ad : Nat → Nat) (cI cJ cZ : ClassId) (S : MS) (i : Nat) (x : Int32) : (mW h ad cI cJ cZ S).set 8 (ad 9, .inl (cI, 4200, .inl (upd (S.2.1 9) i x))) = mW h ad cI cJ cZ (msA S 9 i x) := rfl
theorem mget_10 (ad : Nat → Nat) (S : MS) : (mF ad S)[10]? = some (.ref (ad 10)) := rfl
theorem marr_10 (h : Nat) (ad : Nat → Nat) (cI cJ cZ : ClassId) (S : MS) : (mW h ad cI cJ cZ S)[9]? = some (ad 10, .inl (cJ, 4200, .inr (.inl (S.2.2.1 10)))) := rfl
theorem mast_10 (h : Nat) (ad : Nat → Nat) (cI cJ cZ : ClassId) (S : MS) (i : Nat) (x : Int64) : (mW h ad cI cJ cZ S).set 9 (ad 10, .inl (cJ, 4200, .inr (.inl (vp_updL (S.2.2.1 10) i x)))) = mW h ad cI cJ cZ (msJ S 10 i x) := rfl
theorem mget_11 (ad : Nat → Nat) (S : MS) : (mF ad S)[11]? = some (.ref (ad 11)) := rfl
theorem marr_11 (h : Nat) (ad : Nat → Nat) (cI cJ cZ : ClassId) (S : MS) : (mW h ad cI cJ cZ S)[10]? = some (ad 11, .inl (cI, 4200, .inl (S.2.1 11))) := rfl
theorem mast_11 (h : Nat) (ad : Nat → Nat) (cI cJ cZ : ClassId) (S : MS) (i : Nat) (x : Int32) : (mW h ad cI cJ cZ S).set 10 (ad 11, .inl (cI, 4200, .inl (upd (S.2.1 11) i x))) = mW h ad cI cJ cZ (msA S 11 i x) := rfl
theorem mget_12 (ad : Nat → Nat) (S : MS) : (mF ad S)[12]? = some (.ref (ad 12)) := rfl
theorem marr_12 (h : Nat) (ad : Nat → Nat) (cI cJ cZ : ClassId) (S : MS) : (mW h ad cI cJ cZ S)[11]? = some (ad 12, .inl (cZ, 4200, .inl (S.2.1 12))) := rfl
theorem mast_12 (h : Nat) (ad : Nat → Nat) (cI cJ cZ : ClassId) (S : MS) (i : Nat) (x : Int32) : (mW h ad cI cJ cZ S).set 11 (ad 12, .inl (cZ, 4200, .inl (upd (S.2.1 12) i x))) = mW h ad cI cJ cZ (msA S 12 i x) := rfl
theorem mget_13 (ad : Nat → Nat) (S : MS) : (mF ad S)[13]? = some (.ref (ad 13)) := rfl
theorem marr_13 (h : Nat) (ad : Nat → Nat) (cI cJ cZ : ClassId) (S : MS) : (mW h ad cI cJ cZ S)[12]? = some (ad 13, .inl (cI, 4200, .inl (S.2.1 13))) := rfl
theorem mast_13 (h : Nat) (ad : Nat → Nat) (cI cJ cZ : ClassId) (S : MS) (i : Nat) (x : Int32) : (mW h ad cI cJ cZ S).set 12 (ad 13, .inl (cI, 4200, .inl (upd (S.2.1 13) i x))) = mW h ad cI cJ cZ (msA S 13 i x) := rfl
theorem mget_14 (ad : Nat → Nat) (S : MS) : (mF ad S)[14]? = some (.ref (ad 14)) := rfl
theorem marr_14 (h : Nat) (ad : Nat → Nat) (cI cJ cZ : ClassId) (S : MS) : (mW h ad cI cJ cZ S)[13]? = some (ad 14, .inl (cI, 4200, .inl (S.2.1 14))) := rfl
theorem mast_14 (h : Nat) (ad : Nat → Nat) (cI cJ cZ : ClassId) (S : MS) (i : Nat) (x : Int32) : (mW h ad cI cJ cZ S).set 13 (ad 14, .inl (cI, 4200, .inl (upd (S.2.1 14) i x))) = mW h ad cI cJ cZ (msA S 14 i x) := rfl
theorem mget_15 (ad : Nat → Nat) (S : MS) : (mF ad S)[15]? = some (.ref (ad 15)) := rfl
theorem marr_15 (h : Nat) (ad : Nat → Nat) (cI cJ cZ : ClassId) (S : MS) : (mW h ad cI cJ cZ S)[14]? = some (ad 15, .inl (cJ, 4200, .inr (.inl (S.2.2.1 15)))) := rfl
theorem mast_15 (h : Nat) (ad : Nat → Nat) (cI cJ cZ : ClassId) (S : MS) (i : Nat) (x : Int64) : (mW h ad cI cJ cZ S).set 14 (ad 15, .inl (cJ, 4200, .inr (.inl (vp_updL (S.2.2.1 15) i x)))) = mW h ad cI cJ cZ (msJ S 15 i x) := rfl
theorem mget_16 (ad : Nat → Nat) (S : MS) : (mF ad S)[16]? = some (.ref (ad 16)) := rfl
theorem marr_16 (h : Nat) (ad : Nat → Nat) (cI cJ cZ : ClassId) (S : MS) : (mW h ad cI cJ cZ S)[15]? = some (ad 16, .inl (cI, 16, .inl (S.2.1 16))) := rfl
theorem mast_16 (h : Nat) (ad : Nat → Nat) (cI cJ cZ : ClassId) (S : MS) (i : Nat) (x : Int32) : (mW h ad cI cJ cZ S).set 15 (ad 16, .inl (cI, 16, .inl (upd (S.2.1 16) i x))) = mW h ad cI cJ cZ (msA S 16 i x) := rfl
theorem mget_17 (ad : Nat → Nat) (S : MS) : (mF ad S)[17]? = some (.int (S.1 17)) := rfl
theorem mset_17 (ad : Nat → Nat) (S : MS) (v : Int32) : (mF ad S).set 17 (.int v) = mF ad (msI S 17 v) := rfl
theorem mget_18 (ad : Nat → Nat) (S : MS) : (mF ad S)[18]? = some (.int (S.1 18)) := rfl
theorem mset_18 (ad : Nat → Nat) (S : MS) (v : Int32) : (mF ad S).set 18 (.int v) = mF ad (msI S 18 v) := rfl
theorem mget_19 (ad : Nat → Nat) (S : MS) : (mF ad S)[19]? = some (.int (S.1 19)) := rfl
theorem mset_19 (ad : Nat → Nat) (S : MS) (v : Int32) : (mF ad S).set 19 (.int v) = mF ad (msI S 19 v) := rfl
theorem mget_20 (ad : Nat → Nat) (S : MS) : (mF ad S)[20]? = some (.int (S.1 20)) := rfl
theorem mset_20 (ad : Nat → Nat) (S : MS) (v : Int32) : (mF ad S).set 20 (.int v) = mF ad (msI S 20 v) := rfl
theorem mget_21 (ad : Nat → Nat) (S : MS) : (mF ad S)[21]? = some (.ref (ad 21)) := rfl
theorem marr_21 (h : Nat) (ad : Nat → Nat) (cI cJ cZ : ClassId) (S : MS) : (mW h ad cI cJ cZ S)[16]? = some (ad 21, .inl (cI, 24, .inl (S.2.1 21))) := rfl
theorem mast_21 (h : Nat) (ad : Nat → Nat) (cI cJ cZ : ClassId) (S : MS) (i : Nat) (x : Int32) : (mW h ad cI cJ cZ S).set 16 (ad 21, .inl (cI, 24, .inl (upd (S.2.1 21) i x))) = mW h ad cI cJ cZ (msA S 21 i x) := rfl
theorem mget_22 (ad : Nat → Nat) (S : MS) : (mF ad S)[22]? = some (.ref (ad 22)) := rfl
theorem marr_22 (h : Nat) (ad : Nat → Nat) (cI cJ cZ : ClassId) (S : MS) : (mW h ad cI cJ cZ S)[17]? = some (ad 22, .inl (cI, 24, .inl (S.2.1 22))) := rfl
theorem mast_22 (h : Nat) (ad : Nat → Nat) (cI cJ cZ : ClassId) (S : MS) (i : Nat) (x : Int32) : (mW h ad cI cJ cZ S).set 17 (ad 22, .inl (cI, 24, .inl (upd (S.2.1 22) i x))) = mW h ad cI cJ cZ (msA S 22 i x) := rfl
theorem mget_23 (ad : Nat → Nat) (S : MS) : (mF ad S)[23]? = some (.ref (ad 23)) := rfl
theorem marr_23 (h : Nat) (ad : Nat → Nat) (cI cJ cZ : ClassId) (S : MS) : (mW h ad cI cJ cZ S)[18]? = some (ad 23, .inl (cI, 24, .inl (S.2.1 23))) := rfl
theorem mast_23 (h : Nat) (ad : Nat → Nat) (cI cJ cZ : ClassId) (S : MS) (i : Nat) (x : Int32) : (mW h ad cI cJ cZ S).set 18 (ad 23, .inl (cI, 24, .inl (upd (S.2.1 23) i x))) = mW h ad cI cJ cZ (msA S 23 i x) := rfl
theorem mget_24 (ad : Nat → Nat) (S : MS) : (mF ad S)[24]? = some (.ref (ad 24)) := rfl
theorem marr_24 (h : Nat) (ad : Nat → Nat) (cI cJ cZ : ClassId) (S : MS) : (mW h ad cI cJ cZ S)[19]? = some (ad 24, .inl (cI, 24, .inl (S.2.1 24))) := rfl
theorem mast_24 (h : Nat) (ad : Nat → Nat) (cI cJ cZ : ClassId) (S : MS) (i : Nat) (x : Int32) : (mW h ad cI cJ cZ S).set 19 (ad 24, .inl (cI, 24, .inl (upd (S.2.1 24) i x))) = mW h ad cI cJ cZ (msA S 24 i x) := rfl
theorem mget_25 (ad : Nat → Nat) (S : MS) : (mF ad S)[25]? = some (.ref (ad 25)) := rfl
theorem marr_25 (h : Nat) (ad : Nat → Nat) (cI cJ cZ : ClassId) (S : MS) : (mW h ad cI cJ cZ S)[20]? = some (ad 25, .inl (cJ, 24, .inr (.inl (S.2.2.1 25)))) := rfl
theorem mast_25 (h : Nat) (ad : Nat → Nat) (cI cJ cZ : ClassId) (S : MS) (i : Nat) (x : Int64) : (mW h ad cI cJ cZ S).set 20 (ad 25, .inl (cJ, 24, .inr (.inl (vp_updL (S.2.2.1 25) i x)))) = mW h ad cI cJ cZ (msJ S 25 i x) := rfl
theorem mget_26 (ad : Nat → Nat) (S : MS) : (mF ad S)[26]? = some (.long S.2.2.2) := rfl
theorem mget_27 (ad : Nat → Nat) (S : MS) : (mF ad S)[27]? = some (.int (S.1 27)) := rfl
theorem mset_27 (ad : Nat → Nat) (S : MS) (v : Int32) : (mF ad S).set 27 (.int v) = mF ad (msI S 27 v) := rfl
