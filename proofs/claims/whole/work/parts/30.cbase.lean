/-! the landed side's world: the desk, its three arrays, and a pool of rules and rows, by their addresses -/
abbrev CS : Type := (Nat → Int32) × (Nat → Int32) × (Nat → Option Nat) × (Nat → Option Nat) × (List Nat) × (Nat → Bool) × (Nat → Nat → Int32) × (Nat → Nat → Option Nat) × (Nat → Int64) × (Nat → Nat) × (Nat → Nat → Int32)
abbrev qI (S : CS) : (Nat → Int32) := S.1
abbrev qR (S : CS) : (Nat → Int32) := S.2.1
abbrev qW (S : CS) : (Nat → Option Nat) := S.2.2.1
abbrev qP (S : CS) : (Nat → Option Nat) := S.2.2.2.1
abbrev qL (S : CS) : (List Nat) := S.2.2.2.2.1
abbrev qK (S : CS) : (Nat → Bool) := S.2.2.2.2.2.1
abbrev qRI (S : CS) : (Nat → Nat → Int32) := S.2.2.2.2.2.2.1
abbrev qRO (S : CS) : (Nat → Nat → Option Nat) := S.2.2.2.2.2.2.2.1
abbrev qRJ (S : CS) : (Nat → Int64) := S.2.2.2.2.2.2.2.2.1
abbrev qWL (S : CS) : (Nat → Nat) := S.2.2.2.2.2.2.2.2.2.1
abbrev qWA (S : CS) : (Nat → Nat → Int32) := S.2.2.2.2.2.2.2.2.2.2
abbrev csI (S : CS) (k : Nat) (v : Int32) : CS := (upd (qI S) k v, qR S, qW S, qP S, qL S, qK S, qRI S, qRO S, qRJ S, qWL S, qWA S)
abbrev csR (S : CS) (i : Nat) (v : Int32) : CS := (qI S, upd (qR S) i v, qW S, qP S, qL S, qK S, qRI S, qRO S, qRJ S, qWL S, qWA S)
abbrev csW (S : CS) (i : Nat) (v : Option Nat) : CS := (qI S, qR S, va_up (qW S) i v, qP S, qL S, qK S, qRI S, qRO S, qRJ S, qWL S, qWA S)
abbrev csP (S : CS) (i : Nat) (v : Option Nat) : CS := (qI S, qR S, qW S, va_up (qP S) i v, qL S, qK S, qRI S, qRO S, qRJ S, qWL S, qWA S)
abbrev csRI (S : CS) (k a : Nat) (v : Int32) : CS := (qI S, qR S, qW S, qP S, qL S, qK S, va_up (qRI S) k (va_up (qRI S k) a v), qRO S, qRJ S, qWL S, qWA S)
abbrev csRO (S : CS) (k a : Nat) (v : Option Nat) : CS := (qI S, qR S, qW S, qP S, qL S, qK S, qRI S, va_up (qRO S) k (va_up (qRO S k) a v), qRJ S, qWL S, qWA S)
abbrev csRJ (S : CS) (a : Nat) (v : Int64) : CS := (qI S, qR S, qW S, qP S, qL S, qK S, qRI S, qRO S, va_up (qRJ S) a v, qWL S, qWA S)
abbrev csWA (S : CS) (a i : Nat) (v : Int32) : CS := (qI S, qR S, qW S, qP S, qL S, qK S, qRI S, qRO S, qRJ S, qWL S, va_up (qWA S) a (upd (qWA S a) i v))
abbrev csNR (S : CS) (q : Nat) : CS := (qI S, qR S, qW S, qP S, qL S ++ [q], va_up (qK S) q true, (fun k => va_up (qRI S k) q 0), (fun k => va_up (qRO S k) q none), va_up (qRJ S) q 0, qWL S, qWA S)
abbrev csNW (S : CS) (q n : Nat) : CS := (qI S, qR S, qW S, qP S, qL S ++ [q], va_up (qK S) q false, qRI S, qRO S, qRJ S, va_up (qWL S) q n, va_up (qWA S) q (fun _ => 0))
abbrev cTy (cI cR cII : ClassId) : List (ClassId × FieldType) := [(cI, .int), (cR, .object RX0), (cII, .array .int)]
def ovA (cI cII : ClassId) (U : State) : Prop := ∃ kA : Class, U.vm.classes[cII]? = some kA ∧ kA.kind = .array cI (.array .int)
def cKK (D : va_G) (cI cR cII : ClassId) (U : State) : Prop := va_K D vwCl (cTy cI cR cII) U ∧ ovA cI cII U
theorem kst_C {D : va_G} {cI cR cII : ClassId} : kst (cKK D cI cR cII) := by
  intro u U hvm h
  obtain ⟨h1, kA, h2, h3⟩ := h
  obtain ⟨k', hk', he⟩ := hvm.2.2 _ _ h2
  exact ⟨va_K.moved hvm h1, k', hk', by rw [he]; exact h3⟩
def ruL (S : CS) (a : Nat) : List Value := [.int (qRI S 0 a), .int (qRI S 1 a), va_rf (qRO S 2 a), va_rf (qRO S 3 a), va_rf (qRO S 4 a), va_rf (qRO S 5 a), .int (qRI S 6 a), .int (qRI S 7 a), .int (qRI S 8 a), .int (qRI S 9 a), .long (qRJ S a)]
def cF (cI : ClassId) (S : CS) (a : Nat) : va_E := if qK S a = true then .inr (0, ruL S a) else .inl (cI, qWL S a, .inl (qWA S a))
def dkL (A0 A1 A2 : Nat) (S : CS) : List Value := [.ref A0, .ref A1, .ref A2, .int (qI S 3), .int (qI S 4), .int (qI S 5), .int (qI S 6)]
def cX (x A0 A1 A2 : Nat) (cI cR cII : ClassId) (S : CS) : va_W := [(x, .inr (1, dkL A0 A1 A2 S)), (A0, .inl (cI, 8, .inl (qR S))), (A1, .inl (cII, 4, .inr (.inr (.inr (.inr (qW S)))))), (A2, .inl (cR, 16, .inr (.inr (.inr (.inr (qP S))))))]
def cW (x A0 A1 A2 : Nat) (cI cR cII : ClassId) (S : CS) : va_W := cX x A0 A1 A2 cI cR cII S ++ va_pl (qL S) (cF cI S)
theorem ruL_RI_ne {S : CS} {k a b : Nat} {v : Int32} (h : b ≠ a) : ruL (csRI S k a v) b = ruL S b := by
  have e : ∀ j, qRI (csRI S k a v) j b = qRI S j b := by
    intro j
    show va_up (qRI S) k (va_up (qRI S k) a v) j b = qRI S j b
    unfold va_up
    by_cases hj : j = k
    · rw [if_pos hj, if_neg h, hj]
    · rw [if_neg hj]
  unfold ruL
  rw [e, e, e, e, e, e]
theorem ruL_RO_ne {S : CS} {k a b : Nat} {v : Option Nat} (h : b ≠ a) : ruL (csRO S k a v) b = ruL S b := by
  have e : ∀ j, qRO (csRO S k a v) j b = qRO S j b := by
    intro j
    show va_up (qRO S) k (va_up (qRO S k) a v) j b = qRO S j b
    unfold va_up
    by_cases hj : j = k
    · rw [if_pos hj, if_neg h, hj]
    · rw [if_neg hj]
  unfold ruL
  rw [e, e, e, e]
theorem ruL_RJ_ne {S : CS} {a b : Nat} {v : Int64} (h : b ≠ a) : ruL (csRJ S a v) b = ruL S b := by
  have e : qRJ (csRJ S a v) b = qRJ S b := by
    show va_up (qRJ S) a v b = qRJ S b
    unfold va_up
    rw [if_neg h]
  unfold ruL
  rw [e]
theorem cF_up {cI : ClassId} {S S' : CS} {a : Nat} {e : va_E} (h1 : cF cI S' a = e) (h2 : ∀ b, b ≠ a → cF cI S' b = cF cI S b) (b : Nat) : va_up (cF cI S) a e b = cF cI S' b := by
  unfold va_up
  by_cases h : b = a
  · rw [if_pos h, h, h1]
  · rw [if_neg h, h2 b h]
theorem ruL_RI_0 {S : CS} {a : Nat} {v : Int32} : ruL (csRI S 0 a v) a = (ruL S a).set 0 (.int v) := by
  simp [ruL, va_up, qI, qR, qW, qP, qL, qK, qRI, qRO, qRJ, qWL, qWA, csRI, csRO, csRJ, csWA, csNR, csNW]
theorem ruL_RI_1 {S : CS} {a : Nat} {v : Int32} : ruL (csRI S 1 a v) a = (ruL S a).set 1 (.int v) := by
  simp [ruL, va_up, qI, qR, qW, qP, qL, qK, qRI, qRO, qRJ, qWL, qWA, csRI, csRO, csRJ, csWA, csNR, csNW]
theorem ruL_RI_6 {S : CS} {a : Nat} {v : Int32} : ruL (csRI S 6 a v) a = (ruL S a).set 6 (.int v) := by
  simp [ruL, va_up, qI, qR, qW, qP, qL, qK, qRI, qRO, qRJ, qWL, qWA, csRI, csRO, csRJ, csWA, csNR, csNW]
theorem ruL_RI_7 {S : CS} {a : Nat} {v : Int32} : ruL (csRI S 7 a v) a = (ruL S a).set 7 (.int v) := by
  simp [ruL, va_up, qI, qR, qW, qP, qL, qK, qRI, qRO, qRJ, qWL, qWA, csRI, csRO, csRJ, csWA, csNR, csNW]
theorem ruL_RI_8 {S : CS} {a : Nat} {v : Int32} : ruL (csRI S 8 a v) a = (ruL S a).set 8 (.int v) := by
  simp [ruL, va_up, qI, qR, qW, qP, qL, qK, qRI, qRO, qRJ, qWL, qWA, csRI, csRO, csRJ, csWA, csNR, csNW]
theorem ruL_RI_9 {S : CS} {a : Nat} {v : Int32} : ruL (csRI S 9 a v) a = (ruL S a).set 9 (.int v) := by
  simp [ruL, va_up, qI, qR, qW, qP, qL, qK, qRI, qRO, qRJ, qWL, qWA, csRI, csRO, csRJ, csWA, csNR, csNW]
theorem ruL_RO_2 {S : CS} {a : Nat} {v : Option Nat} : ruL (csRO S 2 a v) a = (ruL S a).set 2 (va_rf v) := by
  simp [ruL, va_up, qI, qR, qW, qP, qL, qK, qRI, qRO, qRJ, qWL, qWA, csRI, csRO, csRJ, csWA, csNR, csNW]
theorem ruL_RO_3 {S : CS} {a : Nat} {v : Option Nat} : ruL (csRO S 3 a v) a = (ruL S a).set 3 (va_rf v) := by
  simp [ruL, va_up, qI, qR, qW, qP, qL, qK, qRI, qRO, qRJ, qWL, qWA, csRI, csRO, csRJ, csWA, csNR, csNW]
theorem ruL_RO_4 {S : CS} {a : Nat} {v : Option Nat} : ruL (csRO S 4 a v) a = (ruL S a).set 4 (va_rf v) := by
  simp [ruL, va_up, qI, qR, qW, qP, qL, qK, qRI, qRO, qRJ, qWL, qWA, csRI, csRO, csRJ, csWA, csNR, csNW]
theorem ruL_RO_5 {S : CS} {a : Nat} {v : Option Nat} : ruL (csRO S 5 a v) a = (ruL S a).set 5 (va_rf v) := by
  simp [ruL, va_up, qI, qR, qW, qP, qL, qK, qRI, qRO, qRJ, qWL, qWA, csRI, csRO, csRJ, csWA, csNR, csNW]
theorem ruL_RJ_10 {S : CS} {a : Nat} {v : Int64} : ruL (csRJ S a v) a = (ruL S a).set 10 (.long v) := by
  simp [ruL, va_up, qI, qR, qW, qP, qL, qK, qRI, qRO, qRJ, qWL, qWA, csRI, csRO, csRJ, csWA, csNR, csNW]
def va_E_row (cI : ClassId) (n : Nat) (f : Nat → Int32) : va_E := .inl (cI, n, .inl f)
section WC
variable {p : Program} {l : Launch} {e : Env} {R : Room} {s : State} {m : MethodId} {args : Array Value} {below : List Frame} {meth : Method} {c : Code} {H H0 : Heap} {locs : List Loc} {cells slots : Nat} {Q : State → Prop}
variable {D : va_G} {A : Nat → Prop} {pc : Nat} {ls : Array Slot} {rest : List Value} {cc : ByteArray} {nL index : Nat} {Ts : List Cond} {x A0 A1 A2 : Nat} {cI cR cII : ClassId} {S : CS} {own : String}
theorem cw_rule {a : Nat} (ha : a ∈ qL S) (hk : qK S a = true) : ∃ k : Nat, (cW x A0 A1 A2 cI cR cII S)[k]? = some (a, cF cI S a) ∧ (cW x A0 A1 A2 cI cR cII S)[k]? = some (a, .inr (0, ruL S a)) := by
  obtain ⟨k, h⟩ := va_pl_get (X := cX x A0 A1 A2 cI cR cII S) (f := cF cI S) ha
  exact ⟨k, h, h.trans (congrArg (fun z => some (a, z)) (if_pos hk))⟩
theorem cw_row {a : Nat} (ha : a ∈ qL S) (hk : qK S a = false) : ∃ k : Nat, (cW x A0 A1 A2 cI cR cII S)[k]? = some (a, cF cI S a) ∧ (cW x A0 A1 A2 cI cR cII S)[k]? = some (a, .inl (cI, qWL S a, .inl (qWA S a))) := by
  obtain ⟨k, h⟩ := va_pl_get (X := cX x A0 A1 A2 cI cR cII S) (f := cF cI S) ha
  exact ⟨k, h, h.trans (congrArg (fun z => some (a, z)) (if_neg (by rw [hk]; decide)))⟩
theorem cw_set {S' : CS} {a k : Nat} {z : va_E} (hD : va_D A (cW x A0 A1 A2 cI cR cII S)) (ha : a ∈ qL S) (hk : (cW x A0 A1 A2 cI cR cII S)[k]? = some (a, cF cI S a)) (hX : cX x A0 A1 A2 cI cR cII S' = cX x A0 A1 A2 cI cR cII S) (hL : qL S' = qL S) (hF : ∀ b, va_up (cF cI S) a z b = cF cI S' b) : (cW x A0 A1 A2 cI cR cII S).set k (a, z) = cW x A0 A1 A2 cI cR cII S' := by
  unfold cW at hD hk ⊢
  rw [va_pl_set hD ha hk, hX, hL, va_pl_congr hF]
theorem wc_cell (hK : cKK D cI cR cII s) (hP : va_P D vwCl (cW x A0 A1 A2 cI cR cII S) H) : ∃ cellB : Cell, H[x]? = some cellB ∧ cellB.vm.isStatics = false ∧ s.vm.findClass RX1 = some cellB.cls := va_recv hK.1 hP (ci := 1) (q0 := 0) rfl rfl
theorem wc_get (hC : CallFix p m c cc nL s args Ts RX1) (hin : ∀ w ∈ wsX10, w ∈ Ts) (hK : cKK D cI cR cII s) (hP : va_P D vwCl (cW x A0 A1 A2 cI cR cII S) H) (k : Nat) (hk : k < 7) (hs : (TX1 k).1 = "ChargeDesk") (hm : Cond.fieldLink RX1 index "ChargeDesk" (TX1 k).2.1 (TX1 k).2.2.1 ∈ Ts) {v : Value} (hv : (dkL A0 A1 A2 S)[k]? = some v) (hdg : decode cc pc = .ok (.getfield index, 3))
    (kk : W p l e R s m args below meth c H locs cells slots Q (F0 m (pc + 3) ls (v :: rest))) : W p l e R s m args below meth c H locs cells slots Q (F0 m pc ls (.ref x :: rest)) :=
  va_get (D := D) (ci := 1) (v := v) (C := RX1) (T := TX1) (N := 7) hC.1 hC.2.1 hC.2.2.2.2 hin hC.2.2.2.1 hK.1 hP 0 rfl rfl k hk (hC.2.2.2.2 _ hm) (fun z h9 => by rw [hs] at h9; exact h9) hv hdg kk
theorem wc_putI (hC : CallFix p m c cc nL s args Ts RX1) (hin : ∀ w ∈ wsX10, w ∈ Ts) (hK : cKK D cI cR cII s) (hP : va_P D vwCl (cW x A0 A1 A2 cI cR cII S) H) (hD : va_D A (cW x A0 A1 A2 cI cR cII S)) (hS : va_S A H0 H locs) (k : Nat) (hk : k < 7) (hs : (TX1 k).1 = "ChargeDesk") (hm : Cond.fieldLink RX1 index "ChargeDesk" (TX1 k).2.1 (TX1 k).2.2.1 ∈ Ts) {v : Int32} (hfin : (TX1 k).2.2.2 = false) (hd : parseFieldDescriptor (TX1 k).2.2.1 = some .int) (hset : (dkL A0 A1 A2 S).set k (.int v) = dkL A0 A1 A2 (csI S k v)) (hdg : decode cc pc = .ok (.putfield index, 3))
    (kk : ∀ (H1 : Heap) (locs1 : List Loc), va_P D vwCl (cW x A0 A1 A2 cI cR cII (csI S k v)) H1 → va_D A (cW x A0 A1 A2 cI cR cII (csI S k v)) → va_S A H0 H1 locs1 → W p l e R s m args below meth c H1 locs1 cells slots Q (F0 m (pc + 3) ls rest)) : W p l e R s m args below meth c H locs cells slots Q (F0 m pc ls (.int v :: .ref x :: rest)) := by
  refine va_put (D := D) (ci := 1) (v := .int v) (ty := .int) (C := RX1) (T := TX1) (N := 7) hC.1 hC.2.1 hC.2.2.2.2 hin tyX1 tyX1_ok nmX1 hC.2.2.2.1 hK.1 hP hD hS 0 rfl rfl k hk (hC.2.2.2.2 _ hm) (fun z h9 => by rw [hs] at h9; exact h9) hfin hd rfl rfl hk hdg (fun H locs hP hD hS => ?_)
  rw [hset] at hP hD
  exact kk H locs hP hD hS
theorem wc_ald0 (hC : CallFix p m c cc nL s args Ts own) (hK : cKK D cI cR cII s) (hP : va_P D vwCl (cW x A0 A1 A2 cI cR cII S) H) {i : Int32} (hin : vp_in i 8) (hdg : decode cc pc = .ok (.iaload, 1))
    (kk : W p l e R s m args below meth c H locs cells slots Q (F0 m (pc + 1) ls (.int (qR S i.toNatClampNeg) :: rest))) : W p l e R s m args below meth c H locs cells slots Q (F0 m pc ls (.int i :: .ref A0 :: rest)) :=
  va_iald hC.1 hC.2.1 hK.1 hP 1 0 rfl rfl hin hdg kk
theorem wc_ast0 (hC : CallFix p m c cc nL s args Ts own) (hK : cKK D cI cR cII s) (hP : va_P D vwCl (cW x A0 A1 A2 cI cR cII S) H) (hD : va_D A (cW x A0 A1 A2 cI cR cII S)) (hS : va_S A H0 H locs) {i v : Int32} (hin : vp_in i 8) (hdg : decode cc pc = .ok (.iastore, 1))
    (kk : ∀ (H1 : Heap) (locs1 : List Loc), va_P D vwCl (cW x A0 A1 A2 cI cR cII (csR S i.toNatClampNeg v)) H1 → va_D A (cW x A0 A1 A2 cI cR cII (csR S i.toNatClampNeg v)) → va_S A H0 H1 locs1 → W p l e R s m args below meth c H1 locs1 cells slots Q (F0 m (pc + 1) ls rest)) : W p l e R s m args below meth c H locs cells slots Q (F0 m pc ls (.int v :: .int i :: .ref A0 :: rest)) :=
  va_iast hC.1 hC.2.1 hK.1 hP hD hS 1 0 rfl rfl hin hdg (fun H locs hP hD hS => kk H locs hP hD hS)
theorem wc_aldP (hC : CallFix p m c cc nL s args Ts own) (hK : cKK D cI cR cII s) (hP : va_P D vwCl (cW x A0 A1 A2 cI cR cII S) H) {i : Int32} (hin : vp_in i 16) (hdg : decode cc pc = .ok (.aaload, 1))
    (kk : W p l e R s m args below meth c H locs cells slots Q (F0 m (pc + 1) ls (va_rf (qP S i.toNatClampNeg) :: rest))) : W p l e R s m args below meth c H locs cells slots Q (F0 m pc ls (.int i :: .ref A2 :: rest)) :=
  va_aldq (C := RX0) hC.1 hC.2.1 hK.1 hP 3 1 rfl rfl hin hdg kk
theorem wc_astP (hC : CallFix p m c cc nL s args Ts own) (hK : cKK D cI cR cII s) (hP : va_P D vwCl (cW x A0 A1 A2 cI cR cII S) H) (hD : va_D A (cW x A0 A1 A2 cI cR cII S)) (hS : va_S A H0 H locs) {i : Int32} {a : Nat} (hL : a ∈ qL S) (hk : qK S a = true) (hin : vp_in i 16) (hdg : decode cc pc = .ok (.aastore, 1))
    (kk : ∀ (H1 : Heap) (locs1 : List Loc), va_P D vwCl (cW x A0 A1 A2 cI cR cII (csP S i.toNatClampNeg (some a))) H1 → va_D A (cW x A0 A1 A2 cI cR cII (csP S i.toNatClampNeg (some a))) → va_S A H0 H1 locs1 → W p l e R s m args below meth c H1 locs1 cells slots Q (F0 m (pc + 1) ls rest)) : W p l e R s m args below meth c H locs cells slots Q (F0 m pc ls (.ref a :: .int i :: .ref A2 :: rest)) := by
  obtain ⟨k, -, hk2⟩ := cw_rule (x := x) (A0 := A0) (A1 := A1) (A2 := A2) (cI := cI) (cR := cR) (cII := cII) hL hk
  exact va_astq (r := (RX0, TX0, 11)) (ci := 0) hC.1 hC.2.1 hK.1 hP hD hS 3 1 k rfl rfl hk2 rfl hin hdg (fun H locs hP hD hS => kk H locs hP hD hS)
theorem wc_astPN (hC : CallFix p m c cc nL s args Ts own) (hK : cKK D cI cR cII s) (hP : va_P D vwCl (cW x A0 A1 A2 cI cR cII S) H) (hD : va_D A (cW x A0 A1 A2 cI cR cII S)) (hS : va_S A H0 H locs) {i : Int32} (hin : vp_in i 16) (hdg : decode cc pc = .ok (.aastore, 1))
    (kk : ∀ (H1 : Heap) (locs1 : List Loc), va_P D vwCl (cW x A0 A1 A2 cI cR cII (csP S i.toNatClampNeg none)) H1 → va_D A (cW x A0 A1 A2 cI cR cII (csP S i.toNatClampNeg none)) → va_S A H0 H1 locs1 → W p l e R s m args below meth c H1 locs1 cells slots Q (F0 m (pc + 1) ls rest)) : W p l e R s m args below meth c H locs cells slots Q (F0 m pc ls (.null :: .int i :: .ref A2 :: rest)) :=
  va_astqN (C := RX0) hC.1 hC.2.1 hK.1 hP hD hS 3 1 rfl rfl hin hdg (fun H locs hP hD hS => kk H locs hP hD hS)
theorem wc_aldW (hC : CallFix p m c cc nL s args Ts own) (hK : cKK D cI cR cII s) (hP : va_P D vwCl (cW x A0 A1 A2 cI cR cII S) H) {i : Int32} (hin : vp_in i 4) (hdg : decode cc pc = .ok (.aaload, 1))
    (kk : W p l e R s m args below meth c H locs cells slots Q (F0 m (pc + 1) ls (va_rf (qW S i.toNatClampNeg) :: rest))) : W p l e R s m args below meth c H locs cells slots Q (F0 m pc ls (.int i :: .ref A1 :: rest)) := by
  have hlt : i.toNatClampNeg < 4 := Nat.not_le.mp fun q => hin (Or.inr q)
  have ha : (cW x A0 A1 A2 cI cR cII S)[2]? = some (A1, .inl (cII, 4, .inr (.inr (.inr (.inr (qW S)))))) := rfl
  exact W.aald (v := va_rf (qW S i.toNatClampNeg)) (ty := .array .int) hC.1 hC.2.1 (hP 2 _ ha) ((hK.1.2 2 _ rfl).1 4 (fun j => va_rf (qW S j))) rfl (fun q => by cases q) (by show ¬ (i < 0 ∨ (arrV _ _ _).slots.size ≤ _); rw [arrV_size]; exact hin) (by show (arrV _ _ _).slots[_]? = _; rw [arrV_read _ _ hlt]) rfl rfl hdg kk
theorem wc_astW (hC : CallFix p m c cc nL s args Ts own) (hK : cKK D cI cR cII s) (hP : va_P D vwCl (cW x A0 A1 A2 cI cR cII S) H) (hD : va_D A (cW x A0 A1 A2 cI cR cII S)) (hS : va_S A H0 H locs) {i : Int32} {a : Nat} (hL : a ∈ qL S) (hk : qK S a = false) (hin : vp_in i 4) (hdg : decode cc pc = .ok (.aastore, 1))
    (kk : ∀ (H1 : Heap) (locs1 : List Loc), va_P D vwCl (cW x A0 A1 A2 cI cR cII (csW S i.toNatClampNeg (some a))) H1 → va_D A (cW x A0 A1 A2 cI cR cII (csW S i.toNatClampNeg (some a))) → va_S A H0 H1 locs1 → W p l e R s m args below meth c H1 locs1 cells slots Q (F0 m (pc + 1) ls rest)) : W p l e R s m args below meth c H locs cells slots Q (F0 m pc ls (.ref a :: .int i :: .ref A1 :: rest)) := by
  obtain ⟨k, -, hk2⟩ := cw_row (x := x) (A0 := A0) (A1 := A1) (A2 := A2) (cI := cI) (cR := cR) (cII := cII) hL hk
  have hlt : i.toNatClampNeg < 4 := Nat.not_le.mp fun q => hin (Or.inr q)
  have h0 : ¬ i < 0 := fun q => hin (Or.inl q)
  have ha : (cW x A0 A1 A2 cI cR cII S)[2]? = some (A1, .inl (cII, 4, .inr (.inr (.inr (.inr (qW S)))))) := rfl
  obtain ⟨kA, k1, k2⟩ := hK.2
  have hfi : s.vm.findClass ("[" ++ FieldType.int.toString) = some cI := (hK.1.2 0 _ rfl).2
  obtain ⟨kE, hkE, -⟩ := Vm.findClass_spec hfi
  refine W.aast hC.1 hC.2.1 (hP 2 _ ha) (fun q h => by cases h) (fun h => by cases h) k1 k2 rfl hkE ⟨h0, by show _ < (arrV _ _ _).slots.size; rw [arrV_size]; exact hlt⟩ (hP k _ hk2) (fun q h => by cases h) hkE (Vm.assignable_self _ _) rfl rfl hdg fun H1 e z oq => ?_
  refine kk H1 _ (hP.set (e := .inl (cII, 4, .inr (.inr (.inr (.inr (va_up (qW S) i.toNatClampNeg (some a))))))) hD ha ?_ oq) (hD.set ha) (hS.put z oq (hD.2 2 _ ha))
  show H1[A1]? = some (vp_cell _ _)
  rw [e]
  rw [vp_cell_q, vp_cell_q, arrV_store]
  congr 2
  funext q
  by_cases hq : q = i.toNatClampNeg
  · subst hq
    simp [updV, va_up, va_rf]
  · simp [updV, va_up, hq]
theorem wc_getR (hC : CallFix p m c cc nL s args Ts own) (hin : ∀ w ∈ wsX00, w ∈ Ts) (hK : cKK D cI cR cII s) (hP : va_P D vwCl (cW x A0 A1 A2 cI cR cII S) H) {a : Nat} (hL : a ∈ qL S) (hkd : qK S a = true) (k : Nat) (hk : k < 11) (hs : (TX0 k).1 = "ChargeDesk$Rule") (hm : Cond.fieldLink own index "ChargeDesk$Rule" (TX0 k).2.1 (TX0 k).2.2.1 ∈ Ts) {v : Value} (hv : (ruL S a)[k]? = some v) (hdg : decode cc pc = .ok (.getfield index, 3))
    (kk : W p l e R s m args below meth c H locs cells slots Q (F0 m (pc + 3) ls (v :: rest))) : W p l e R s m args below meth c H locs cells slots Q (F0 m pc ls (.ref a :: rest)) := by
  obtain ⟨n, -, hn⟩ := cw_rule (x := x) (A0 := A0) (A1 := A1) (A2 := A2) (cI := cI) (cR := cR) (cII := cII) hL hkd
  exact va_get (D := D) (ci := 0) (v := v) (C := RX0) (T := TX0) (N := 11) hC.1 hC.2.1 hC.2.2.2.2 hin hC.2.2.2.1 hK.1 hP n hn rfl k hk (hC.2.2.2.2 _ hm) (fun z h9 => by rw [hs] at h9; exact h9) hv hdg kk
theorem wc_putR (hC : CallFix p m c cc nL s args Ts own) (hin : ∀ w ∈ wsX00, w ∈ Ts) (hK : cKK D cI cR cII s) (hP : va_P D vwCl (cW x A0 A1 A2 cI cR cII S) H) (hD : va_D A (cW x A0 A1 A2 cI cR cII S)) (hS : va_S A H0 H locs) {a : Nat} (hL : a ∈ qL S) (hkd : qK S a = true) (k : Nat) (hk : k < 11) (hs : (TX0 k).1 = "ChargeDesk$Rule") (hm : Cond.fieldLink own index "ChargeDesk$Rule" (TX0 k).2.1 (TX0 k).2.2.1 ∈ Ts) {v : Value} {ty : FieldType} (hfin : (TX0 k).2.2.2 = false) (hd : parseFieldDescriptor (TX0 k).2.2.1 = some ty) (hn : narrow ty v = v) (hfit : fits ty v = true) (S' : CS) (hX : cX x A0 A1 A2 cI cR cII S' = cX x A0 A1 A2 cI cR cII S) (hqL : qL S' = qL S) (hqK : qK S' = qK S) (hqA : qWL S' = qWL S ∧ qWA S' = qWA S) (h1 : ruL S' a = (ruL S a).set k v) (h2 : ∀ b, b ≠ a → ruL S' b = ruL S b) (hdg : decode cc pc = .ok (.putfield index, 3))
    (kk : ∀ (H1 : Heap) (locs1 : List Loc), va_P D vwCl (cW x A0 A1 A2 cI cR cII S') H1 → va_D A (cW x A0 A1 A2 cI cR cII S') → va_S A H0 H1 locs1 → W p l e R s m args below meth c H1 locs1 cells slots Q (F0 m (pc + 3) ls rest)) : W p l e R s m args below meth c H locs cells slots Q (F0 m pc ls (v :: .ref a :: rest)) := by
  obtain ⟨n, hn1, hn2⟩ := cw_rule (x := x) (A0 := A0) (A1 := A1) (A2 := A2) (cI := cI) (cR := cR) (cII := cII) hL hkd
  refine va_put (D := D) (ci := 0) (v := v) (ty := ty) (C := RX0) (T := TX0) (N := 11) hC.1 hC.2.1 hC.2.2.2.2 hin tyX0 tyX0_ok nmX0 hC.2.2.2.1 hK.1 hP hD hS n hn2 rfl k hk (hC.2.2.2.2 _ hm) (fun z h9 => by rw [hs] at h9; exact h9) hfin hd hn hfit hk hdg (fun H locs hP hD2 hS => ?_)
  rw [cw_set (S' := S') hD hL hn1 hX hqL (cF_up (by unfold cF; rw [hqK, if_pos hkd, h1]) (fun b hb => by unfold cF; rw [hqK, hqA.1, hqA.2, h2 b hb]))] at hP hD2
  exact kk H locs hP hD2 hS
theorem wc_putF (hC : CallFix p m c cc nL s args Ts RX0) (hmn : meth.name = "<init>") (hin : ∀ w ∈ wsX00, w ∈ Ts) (hK : cKK D cI cR cII s) (hP : va_P D vwCl (cW x A0 A1 A2 cI cR cII S) H) (hD : va_D A (cW x A0 A1 A2 cI cR cII S)) (hS : va_S A H0 H locs) {a : Nat} (hL : a ∈ qL S) (hkd : qK S a = true) (k : Nat) (hk : k < 11) (hs : (TX0 k).1 = RX0) (hm : Cond.fieldLink RX0 index "ChargeDesk$Rule" (TX0 k).2.1 (TX0 k).2.2.1 ∈ Ts) {v : Value} {ty : FieldType} (hfin : (TX0 k).2.2.2 = true) (hd : parseFieldDescriptor (TX0 k).2.2.1 = some ty) (hn : narrow ty v = v) (hfit : fits ty v = true) (S' : CS) (hX : cX x A0 A1 A2 cI cR cII S' = cX x A0 A1 A2 cI cR cII S) (hqL : qL S' = qL S) (hqK : qK S' = qK S) (hqA : qWL S' = qWL S ∧ qWA S' = qWA S) (h1 : ruL S' a = (ruL S a).set k v) (h2 : ∀ b, b ≠ a → ruL S' b = ruL S b) (hdg : decode cc pc = .ok (.putfield index, 3))
    (kk : ∀ (H1 : Heap) (locs1 : List Loc), va_P D vwCl (cW x A0 A1 A2 cI cR cII S') H1 → va_D A (cW x A0 A1 A2 cI cR cII S') → va_S A H0 H1 locs1 → W p l e R s m args below meth c H1 locs1 cells slots Q (F0 m (pc + 3) ls rest)) : W p l e R s m args below meth c H locs cells slots Q (F0 m pc ls (v :: .ref a :: rest)) := by
  obtain ⟨n, hn1, hn2⟩ := cw_rule (x := x) (A0 := A0) (A1 := A1) (A2 := A2) (cI := cI) (cR := cR) (cII := cII) hL hkd
  refine va_putF (D := D) (ci := 0) (v := v) (ty := ty) (C := RX0) (T := TX0) (N := 11) hC.1 hC.2.1 hC.2.2.2.2 hin tyX0 tyX0_ok nmX0 hC.2.2.2.1 hK.1 hP hD hS n hn2 rfl k hk (hC.2.2.2.2 _ hm) (fun z h9 => by rw [hs] at h9; exact h9) hfin hmn hs hd hn hfit hk hdg (fun H locs hP hD2 hS => ?_)
  rw [cw_set (S' := S') hD hL hn1 hX hqL (cF_up (by unfold cF; rw [hqK, if_pos hkd, h1]) (fun b hb => by unfold cF; rw [hqK, hqA.1, hqA.2, h2 b hb]))] at hP hD2
  exact kk H locs hP hD2 hS
theorem wc_rald (hC : CallFix p m c cc nL s args Ts own) (hK : cKK D cI cR cII s) (hP : va_P D vwCl (cW x A0 A1 A2 cI cR cII S) H) {a : Nat} (hL : a ∈ qL S) (hkd : qK S a = false) {i : Int32} (hin : vp_in i (qWL S a)) (hdg : decode cc pc = .ok (.iaload, 1))
    (kk : W p l e R s m args below meth c H locs cells slots Q (F0 m (pc + 1) ls (.int (qWA S a i.toNatClampNeg) :: rest))) : W p l e R s m args below meth c H locs cells slots Q (F0 m pc ls (.int i :: .ref a :: rest)) := by
  obtain ⟨n, -, hn⟩ := cw_row (x := x) (A0 := A0) (A1 := A1) (A2 := A2) (cI := cI) (cR := cR) (cII := cII) hL hkd
  exact va_iald hC.1 hC.2.1 hK.1 hP n 0 hn rfl hin hdg kk
theorem wc_rlen (hC : CallFix p m c cc nL s args Ts own) (hK : cKK D cI cR cII s) (hP : va_P D vwCl (cW x A0 A1 A2 cI cR cII S) H) {a : Nat} (hL : a ∈ qL S) (hkd : qK S a = false) (hdg : decode cc pc = .ok (.arraylength, 1))
    (kk : W p l e R s m args below meth c H locs cells slots Q (F0 m (pc + 1) ls (.int (nI (qWL S a)) :: rest))) : W p l e R s m args below meth c H locs cells slots Q (F0 m pc ls (.ref a :: rest)) := by
  obtain ⟨n, -, hn⟩ := cw_row (x := x) (A0 := A0) (A1 := A1) (A2 := A2) (cI := cI) (cR := cR) (cII := cII) hL hkd
  exact va_alen hC.1 hC.2.1 hK.1 hP n 0 hn rfl rfl hdg kk
theorem wc_rast (hC : CallFix p m c cc nL s args Ts own) (hK : cKK D cI cR cII s) (hP : va_P D vwCl (cW x A0 A1 A2 cI cR cII S) H) (hD : va_D A (cW x A0 A1 A2 cI cR cII S)) (hS : va_S A H0 H locs) {a : Nat} (hL : a ∈ qL S) (hkd : qK S a = false) {i v : Int32} (hin : vp_in i (qWL S a)) (hdg : decode cc pc = .ok (.iastore, 1))
    (kk : ∀ (H1 : Heap) (locs1 : List Loc), va_P D vwCl (cW x A0 A1 A2 cI cR cII (csWA S a i.toNatClampNeg v)) H1 → va_D A (cW x A0 A1 A2 cI cR cII (csWA S a i.toNatClampNeg v)) → va_S A H0 H1 locs1 → W p l e R s m args below meth c H1 locs1 cells slots Q (F0 m (pc + 1) ls rest)) : W p l e R s m args below meth c H locs cells slots Q (F0 m pc ls (.int v :: .int i :: .ref a :: rest)) := by
  obtain ⟨n, hn1, hn2⟩ := cw_row (x := x) (A0 := A0) (A1 := A1) (A2 := A2) (cI := cI) (cR := cR) (cII := cII) hL hkd
  refine va_iast hC.1 hC.2.1 hK.1 hP hD hS n 0 hn2 rfl hin hdg (fun H locs hP hD2 hS => ?_)
  rw [cw_set (S' := csWA S a i.toNatClampNeg v) hD hL hn1 rfl rfl (cF_up (by unfold cF; rw [if_neg (by show ¬ qK S a = true; rw [hkd]; decide)]; show _ = va_E_row cI (qWL S a) _; simp [va_up, va_E_row, qI, qR, qW, qP, qL, qK, qRI, qRO, qRJ, qWL, qWA, csRI, csRO, csRJ, csWA, csNR, csNW]) (fun b hb => by unfold cF; simp [va_up, hb, ruL, qI, qR, qW, qP, qL, qK, qRI, qRO, qRJ, qWL, qWA, csRI, csRO, csRJ, csWA, csNR, csNW]))] at hP hD2
  exact kk H locs hP hD2 hS
theorem wc_new (hC : CallFix p m c cc nL s args Ts RX1) (hin : ∀ w ∈ wsX00, w ∈ Ts) (hcl : Cond.classLink RX1 index RX0 ∈ Ts) (hi1 : Cond.instantiable RX0 11 ∈ Ts) (hi2 : Cond.initialized RX0 ∈ Ts) (hK : cKK D cI cR cII s) (hP : va_P D vwCl (cW x A0 A1 A2 cI cR cII S) H) (hD : va_D A (cW x A0 A1 A2 cI cR cII S)) (hS : va_S A H0 H locs) (hA : ∀ q, H0.size ≤ q → A q) (hcells : cells + 1 ≤ R.cells) (hslots : slots + 11 ≤ R.slots) (hdg : decode cc pc = .ok (.new index, 3))
    (kk : ∀ (q : Nat) (H1 : Heap), q ∉ qL S → va_P D vwCl (cW x A0 A1 A2 cI cR cII (csNR S q)) H1 → va_D A (cW x A0 A1 A2 cI cR cII (csNR S q)) → va_S A H0 H1 locs → W p l e R s m args below meth c H1 locs (cells + 1) (slots + 11) Q (F0 m (pc + 3) ls (.ref q :: rest))) : W p l e R s m args below meth c H locs cells slots Q (F0 m pc ls rest) := by
  refine va_new (ci := 0) (fs := [.int 0, .int 0, .null, .null, .null, .null, .int 0, .int 0, .int 0, .int 0, .long 0]) (C := RX0) (T := TX0) (N := 11) hC.1 hC.2.1 hC.2.2.2.2 hin tyX0 tyX0_ok hC.2.2.2.1 (hC.2.2.2.2 _ hcl) (hC.2.2.2.2 _ hi1) (hC.2.2.2.2 _ hi2) hK.1 hP hD hS hA rfl (fun j hj => by rcases (show j = 0 ∨ j = 1 ∨ j = 2 ∨ j = 3 ∨ j = 4 ∨ j = 5 ∨ j = 6 ∨ j = 7 ∨ j = 8 ∨ j = 9 ∨ j = 10 by omega) with rfl | rfl | rfl | rfl | rfl | rfl | rfl | rfl | rfl | rfl | rfl <;> rfl) hcells hslots hdg (fun q H1 hP1 hD1 hS1 => ?_)
  have hq : q ∉ qL S := va_pl_fresh2 hD1
  have e : cW x A0 A1 A2 cI cR cII S ++ [(q, .inr (0, [.int 0, .int 0, .null, .null, .null, .null, .int 0, .int 0, .int 0, .int 0, .long 0]))] = cW x A0 A1 A2 cI cR cII (csNR S q) := by
    unfold cW
    rw [List.append_assoc, va_pl_push hq]
    show cX x A0 A1 A2 cI cR cII S ++ va_pl (qL S ++ [q]) _ = cX x A0 A1 A2 cI cR cII S ++ va_pl (qL S ++ [q]) _
    rw [va_pl_congr (cF_up (S' := csNR S q) (by unfold cF; simp [va_up, ruL, va_rf, qI, qR, qW, qP, qL, qK, qRI, qRO, qRJ, qWL, qWA, csRI, csRO, csRJ, csWA, csNR, csNW]) (fun b hb => by unfold cF; simp [va_up, hb, ruL, qI, qR, qW, qP, qL, qK, qRI, qRO, qRJ, qWL, qWA, csRI, csRO, csRJ, csWA, csNR, csNW]))]
  rw [e] at hP1 hD1
  exact kk q H1 hq hP1 hD1 hS1
theorem wc_newa (hC : CallFix p m c cc nL s args Ts own) (harr : Cond.arrayClass .int ∈ Ts) (hK : cKK D cI cR cII s) (hP : va_P D vwCl (cW x A0 A1 A2 cI cR cII S) H) (hD : va_D A (cW x A0 A1 A2 cI cR cII S)) (hS : va_S A H0 H locs) (hA : ∀ q, H0.size ≤ q → A q) {n : Int32} (hn : ¬ n < 0) (hb : n.toNatClampNeg ≤ 8) (hcells : cells + 1 ≤ R.cells) (hslots : slots + 8 ≤ R.slots) (hdg : decode cc pc = .ok (.newarray .int, 2))
    (kk : ∀ (q : Nat) (H1 : Heap), q ∉ qL S → va_P D vwCl (cW x A0 A1 A2 cI cR cII (csNW S q n.toNatClampNeg)) H1 → va_D A (cW x A0 A1 A2 cI cR cII (csNW S q n.toNatClampNeg)) → va_S A H0 H1 locs → W p l e R s m args below meth c H1 locs (cells + 1) (slots + 8) Q (F0 m (pc + 2) ls (.ref q :: rest))) : W p l e R s m args below meth c H locs cells slots Q (F0 m pc ls (.int n :: rest)) := by
  refine va_newa (ty := .int) (a0 := (n.toNatClampNeg, .inl (fun _ => 0))) hC.1 hC.2.1 (atype := .int) (hC.2.2.2.2 _ harr) rfl hK.1 hP hD hS hA (fun cA => rfl) hn rfl (by show _ * 4 ≤ _; omega) hcells (by omega) hdg (fun q cA H1 hK1 hP1 hD1 hS1 => ?_)
  have hq : q ∉ qL S := va_pl_fresh2 hD1
  have h1 : s.vm.findClass ("[" ++ FieldType.int.toString) = some cA := (hK1.2 3 _ rfl).2
  have h2 : s.vm.findClass ("[" ++ FieldType.int.toString) = some cI := (hK.1.2 0 _ rfl).2
  have h3 : cA = cI := Option.some.inj (h1.symm.trans h2)
  subst h3
  have e : cW x A0 A1 A2 cA cR cII S ++ [(q, .inl (cA, n.toNatClampNeg, .inl (fun _ => 0)))] = cW x A0 A1 A2 cA cR cII (csNW S q n.toNatClampNeg) := by
    unfold cW
    rw [List.append_assoc, va_pl_push hq]
    show cX x A0 A1 A2 cA cR cII S ++ va_pl (qL S ++ [q]) _ = cX x A0 A1 A2 cA cR cII S ++ va_pl (qL S ++ [q]) _
    rw [va_pl_congr (cF_up (S' := csNW S q n.toNatClampNeg) (by unfold cF; simp [va_up, qI, qR, qW, qP, qL, qK, qRI, qRO, qRJ, qWL, qWA, csRI, csRO, csRJ, csWA, csNR, csNW]) (fun b hb => by unfold cF; simp [va_up, hb, ruL, qI, qR, qW, qP, qL, qK, qRI, qRO, qRJ, qWL, qWA, csRI, csRO, csRJ, csWA, csNR, csNW]))]
  rw [e] at hP1 hD1
  refine W.widen (k := cells + 1) (n := slots + 8) (Nat.le_refl _) (by omega) ?_
  exact kk q H1 hq hP1 hD1 hS1
end WC
section WQ
variable {p : Program} {l : Launch} {e : Env} {R : Room} {s : State} {m : MethodId} {args : Array Value} {below : List Frame} {meth : Method} {c : Code} {H : Heap} {locs : List Loc} {cells slots : Nat} {Q : State → Prop} {pc : Nat} {ls : Array Slot} {rest : List Value} {cc : ByteArray}
theorem lv_qaload_n (hexec : p.tables.exec = Jvm.exec) (hb : c.code = cc) {k : Fin 4} {i : Nat} {r : Option Nat} (hdg : decode cc pc = .ok (.aload_n k, 1)) (hi : (k : Nat) = i) (hl : ls[i]? = some (.val (va_rf r)))
    (kk : W p l e R s m args below meth c H locs cells slots Q (F0 m (pc + 1) ls (va_rf r :: rest))) : W p l e R s m args below meth c H locs cells slots Q (F0 m pc ls rest) := by
  cases r with
  | none => exact lv_aload_nN hexec hb hdg hi hl kk
  | some a => exact lv_aload_n hexec hb hdg hi hl kk
theorem lv_qastore_n (hexec : p.tables.exec = Jvm.exec) (hb : c.code = cc) {k : Fin 4} {i nL : Nat} {r : Option Nat} {lv lv' : List (Nat × Value)} (hdg : decode cc pc = .ok (.astore_n k, 1)) (hi : (k : Nat) = i) (h : lv_has ls nL lv) (hn : i < nL) (hl : (i, va_rf r) :: lv.filter (fun q => !(q.1 == i) && !(q.1 + 1 == i && q.2.category == 2)) = lv')
    (kk : ∀ ls' : Array Slot, lv_has ls' nL lv' → W p l e R s m args below meth c H locs cells slots Q (F0 m (pc + 1) ls' rest)) : W p l e R s m args below meth c H locs cells slots Q (F0 m pc ls (va_rf r :: rest)) := by
  cases r with
  | none => exact lv_astore_nN hexec hb hdg hi h hn hl kk
  | some a => exact lv_astore_n hexec hb hdg hi h hn hl kk
theorem lv_qifnull (hexec : p.tables.exec = Jvm.exec) (hb : c.code = cc) {r : Option Nat} {off : Int} {tgt : Nat} (hdg : decode cc pc = .ok (.ifnull off, 3)) (ht : (pc : Int) + off = (tgt : Int))
    (kt : r = none → W p l e R s m args below meth c H locs cells slots Q (F0 m tgt ls rest)) (kf : ¬ r = none → W p l e R s m args below meth c H locs cells slots Q (F0 m (pc + 3) ls rest)) : W p l e R s m args below meth c H locs cells slots Q (F0 m pc ls (va_rf r :: rest)) := by
  cases r with
  | none => exact lv_ifnullN hexec hb hdg ht (kt rfl)
  | some a => exact lv_ifnull hexec hb hdg (kf (fun h => by cases h))
theorem lv_qifnonnull (hexec : p.tables.exec = Jvm.exec) (hb : c.code = cc) {r : Option Nat} {off : Int} {tgt : Nat} (hdg : decode cc pc = .ok (.ifnonnull off, 3)) (ht : (pc : Int) + off = (tgt : Int))
    (kt : ¬ r = none → W p l e R s m args below meth c H locs cells slots Q (F0 m tgt ls rest)) (kf : r = none → W p l e R s m args below meth c H locs cells slots Q (F0 m (pc + 3) ls rest)) : W p l e R s m args below meth c H locs cells slots Q (F0 m pc ls (va_rf r :: rest)) := by
  cases r with
  | none => exact lv_ifnonnullN hexec hb hdg (kf rfl)
  | some a => exact lv_ifnonnull hexec hb hdg ht (kt (fun h => by cases h))
theorem lv_qsome {r : Option Nat} (h : ¬ r = none) (kk : W p l e R s m args below meth c H locs cells slots Q (F0 m pc ls (.ref (r.getD 0) :: rest))) : W p l e R s m args below meth c H locs cells slots Q (F0 m pc ls (va_rf r :: rest)) := by
  cases r with
  | none => exact absurd rfl h
  | some a => exact kk
end WQ
theorem dget_0 (A0 A1 A2 : Nat) (S : CS) : (dkL A0 A1 A2 S)[0]? = some (.ref A0) := rfl
theorem dget_1 (A0 A1 A2 : Nat) (S : CS) : (dkL A0 A1 A2 S)[1]? = some (.ref A1) := rfl
theorem dget_2 (A0 A1 A2 : Nat) (S : CS) : (dkL A0 A1 A2 S)[2]? = some (.ref A2) := rfl
theorem dget_3 (A0 A1 A2 : Nat) (S : CS) : (dkL A0 A1 A2 S)[3]? = some (.int (qI S 3)) := rfl
theorem dset_3 (A0 A1 A2 : Nat) (S : CS) (v : Int32) : (dkL A0 A1 A2 S).set 3 (.int v) = dkL A0 A1 A2 (csI S 3 v) := rfl
theorem dget_4 (A0 A1 A2 : Nat) (S : CS) : (dkL A0 A1 A2 S)[4]? = some (.int (qI S 4)) := rfl
theorem dset_4 (A0 A1 A2 : Nat) (S : CS) (v : Int32) : (dkL A0 A1 A2 S).set 4 (.int v) = dkL A0 A1 A2 (csI S 4 v) := rfl
theorem dget_5 (A0 A1 A2 : Nat) (S : CS) : (dkL A0 A1 A2 S)[5]? = some (.int (qI S 5)) := rfl
theorem dset_5 (A0 A1 A2 : Nat) (S : CS) (v : Int32) : (dkL A0 A1 A2 S).set 5 (.int v) = dkL A0 A1 A2 (csI S 5 v) := rfl
theorem dget_6 (A0 A1 A2 : Nat) (S : CS) : (dkL A0 A1 A2 S)[6]? = some (.int (qI S 6)) := rfl
theorem dset_6 (A0 A1 A2 : Nat) (S : CS) (v : Int32) : (dkL A0 A1 A2 S).set 6 (.int v) = dkL A0 A1 A2 (csI S 6 v) := rfl
theorem rget_0 (S : CS) (a : Nat) : (ruL S a)[0]? = some (.int (qRI S 0 a)) := rfl
theorem rget_1 (S : CS) (a : Nat) : (ruL S a)[1]? = some (.int (qRI S 1 a)) := rfl
theorem rget_2 (S : CS) (a : Nat) : (ruL S a)[2]? = some (va_rf (qRO S 2 a)) := rfl
theorem rget_3 (S : CS) (a : Nat) : (ruL S a)[3]? = some (va_rf (qRO S 3 a)) := rfl
theorem rget_4 (S : CS) (a : Nat) : (ruL S a)[4]? = some (va_rf (qRO S 4 a)) := rfl
theorem rget_5 (S : CS) (a : Nat) : (ruL S a)[5]? = some (va_rf (qRO S 5 a)) := rfl
theorem rget_6 (S : CS) (a : Nat) : (ruL S a)[6]? = some (.int (qRI S 6 a)) := rfl
theorem rget_7 (S : CS) (a : Nat) : (ruL S a)[7]? = some (.int (qRI S 7 a)) := rfl
theorem rget_8 (S : CS) (a : Nat) : (ruL S a)[8]? = some (.int (qRI S 8 a)) := rfl
theorem rget_9 (S : CS) (a : Nat) : (ruL S a)[9]? = some (.int (qRI S 9 a)) := rfl
theorem rget_10 (S : CS) (a : Nat) : (ruL S a)[10]? = some (.long (qRJ S a)) := rfl
section WZ
variable {p : Program} {l : Launch} {e : Env} {R : Room} {s : State} {m : MethodId} {args : Array Value} {below : List Frame} {meth : Method} {c : Code} {H H0 : Heap} {locs : List Loc} {cells slots : Nat} {Q : State → Prop}
variable {D : va_G} {KK : State → Prop} {σ : Type} {Wd : σ → va_W} {S : σ} {A : Nat → Prop} {pc : Nat} {ls : Array Slot} {rest st0 : List Value}
variable {y : MethodName} {bytes cc : ByteArray} {maxL nL mc ms n index : Nat} {ws Ts : List Cond} {rm : Room} {own : String} {b : Addr} {As : List Value}
theorem wx_callIv {post : σ → Prop} (hs : kst KK) (Sx : CallFix p m c cc nL s args Ts own) (hM : MetV l y ws rm D KK Wd S (.ref b :: As) post mc ms) (cw : CallB R s args own index y bytes maxL none ws rm mc ms n ∧ y.name = "<init>" ∧ (Cond.instanceMethod y).before args s = true)
    (hK : KK s) (hP : va_P D vwCl (Wd S) H) (hD : va_D A (Wd S)) (hS : va_S A H0 H locs) (hA : ∀ q, H0.size ≤ q → A q)
    (hn : As.length = n) (hsize : ls.size = nL) (hstack : st0 = As.reverse ++ .ref b :: rest) (hW : (rest.map fun v => v.category).sum ≤ 8) (hdg : decode cc pc = .ok (.invokespecial index, 3)) (hf : cells + mc ≤ R.cells ∧ slots + ms ≤ R.slots)
    (kk : ∀ (u : σ) (H1 : Heap) (locs1 : List Loc), post u → va_P D vwCl (Wd u) H1 → va_D A (Wd u) → va_S A H0 H1 locs1 → W p l e R s m args below meth c H1 locs1 (cells + mc) (slots + ms) Q (F0 m (pc + 3) ls rest)) : W p l e R s m args below meth c H locs cells slots Q (F0 m pc ls st0) :=
  va_callv (va_runI Sx (hM H.size) cw ⟨wPre_blind hs, fun U hU hW => ⟨rfl, wPre_of hs hK hP hD U hU hW⟩⟩ rfl hn hsize hstack (lv_room (m := m) (pc := pc) (ls := ls) hW) hdg hf) hS (fun q _ h => wfree hD hS hA q h) (wfree hD hS hA)
    (fun u t H1 locs1 ht hvm hw hB hz hk hS1 => kk u H1 locs1 hw (ht ▸ hB.1) (hB.2.2.weaken (fun k q _ h => wfree hD hS hA q.1 h)) hS1)
end WZ
