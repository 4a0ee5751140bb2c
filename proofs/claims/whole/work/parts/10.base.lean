/-! rows of our own: a method over a whole world of cells, as a function of a state -/
/-- a fact of the tables that stays when they grow -/
def kst (KK : State → Prop) : Prop := ∀ {u U : State}, u.vm.Alike U.vm → KK u → KK U
theorem kst_K {D : va_G} {tys : List (ClassId × FieldType)} : kst (va_K D vwCl tys) := fun h k => va_K.moved h k
def wPre (D : va_G) (KK : State → Prop) (w : va_W) (sz : Nat) (U : State) : Prop := U.heap.size = sz ∧ va_P D vwCl w U.heap ∧ KK U ∧ va_D (fun _ => True) w
def wAt (D : va_G) (KK : State → Prop) (A : Nat → Prop) (w : va_W) (t : State) : Prop := va_P D vwCl w t.heap ∧ KK t ∧ va_D A w
theorem wPre_blind {D : va_G} {KK : State → Prop} (hs : kst KK) {w : va_W} {sz : Nat} {av : List Value} : FrameBlind (va_Pc av (wPre D KK w sz)) := fun a U g mk q => by
  obtain ⟨q0, q1, qP, qK, qD⟩ := q
  exact ⟨q0, q1, qP, hs (u := U) (U := U.calling g mk a) (Vm.Alike.refl U.vm) qK, qD⟩
theorem wPre_of {D : va_G} {KK : State → Prop} (hs : kst KK) {A : Nat → Prop} {w : va_W} {H : Heap} {s : State} (hK : KK s) (hP : va_P D vwCl w H) (hD : va_D A w) : ∀ U : State, U.heap = H → s.WarmedH U.vm → wPre D KK w H.size U := fun U hU hW => ⟨by rw [hU], by rw [hU]; exact hP, hs hW.alike hK, hD.weaken (fun _ _ _ _ => trivial)⟩
theorem wfree {A : Nat → Prop} {H0 H : Heap} {w : va_W} {locs : List Loc} (hD : va_D A w) (hS : va_S A H0 H locs) (hA : ∀ q, H0.size ≤ q → A q) : ∀ q, va_A w H.size q → A q := fun q h => h.elim (fun ⟨k, e, hk⟩ => hD.2 k (q, e) hk) (fun h => hA q (Nat.le_trans hS.1 h))
/-- a method that answers an int, a long, nothing -/
abbrev MetI (l : Launch) (y : MethodName) (ws : List Cond) (rm : Room) (D : va_G) (KK : State → Prop) {σ : Type} (Wd : σ → va_W) (S : σ) (av : List Value) (post : Int32 → σ → Prop) (mc ms : Nat) : Prop := ∀ sz : Nat, Met l y ws rm (va_Pc av (wPre D KK (Wd S) sz)) (va_Qi post (fun u t => wAt D KK (va_A (Wd S) sz) (Wd u) t) (va_A (Wd S) sz)) mc ms (va_A (Wd S) sz)
abbrev MetJ (l : Launch) (y : MethodName) (ws : List Cond) (rm : Room) (D : va_G) (KK : State → Prop) {σ : Type} (Wd : σ → va_W) (S : σ) (av : List Value) (post : Int64 → σ → Prop) (mc ms : Nat) : Prop := ∀ sz : Nat, Met l y ws rm (va_Pc av (wPre D KK (Wd S) sz)) (va_Ql post (fun u t => wAt D KK (va_A (Wd S) sz) (Wd u) t) (va_A (Wd S) sz)) mc ms (va_A (Wd S) sz)
abbrev MetQ (l : Launch) (y : MethodName) (ws : List Cond) (rm : Room) (D : va_G) (KK : State → Prop) {σ : Type} (Wd : σ → va_W) (S : σ) (av : List Value) (post : Option Nat → σ → Prop) (mc ms : Nat) : Prop := ∀ sz : Nat, Met l y ws rm (va_Pc av (wPre D KK (Wd S) sz)) (va_Qq post (fun u t => wAt D KK (va_A (Wd S) sz) (Wd u) t) (va_A (Wd S) sz)) mc ms (va_A (Wd S) sz)
abbrev MetV (l : Launch) (y : MethodName) (ws : List Cond) (rm : Room) (D : va_G) (KK : State → Prop) {σ : Type} (Wd : σ → va_W) (S : σ) (av : List Value) (post : σ → Prop) (mc ms : Nat) : Prop := ∀ sz : Nat, Met l y ws rm (va_Pc av (wPre D KK (Wd S) sz)) (va_Qv post (fun u t => wAt D KK (va_A (Wd S) sz) (Wd u) t) (va_A (Wd S) sz)) mc ms (va_A (Wd S) sz)
/-- a static method without a world, that answers an int -/
abbrev MetS (l : Launch) (y : MethodName) (ws : List Cond) (rm : Room) (av : List Value) (post : Int32 → Prop) : Prop := Met l y ws rm (fun v _ => v = av.toArray) (vp_Si post) 0 0 (fun _ => False)
section WX
variable {l : Launch} {D : va_G} {KK : State → Prop} {σ : Type} {Wd : σ → va_W} {S : σ} {av : List Value} {mc ms : Nat} {y : MethodName} {ws ws' : List Cond} {rm : Room} {cc : ByteArray} {maxL : Nat}
theorem MetI.of {post : Int32 → σ → Prop} (hy : plainName y.cls = true) (hw : ws = Cond.code y cc maxL (some .int) :: ws') (hn : (lg_sl av).length ≤ maxL)
    (body : ∀ (p : Program) (e : Env) (s : State) (m : MethodId) (below : List Frame) (meth : Method) (c : Code) (A : Nat → Prop) (ls : Array Slot), CallFix p m c cc maxL s av.toArray ws y.cls → meth.sig.returnType = some .int → meth.locks = false → meth.name = y.name → KK s → va_P D vwCl (Wd S) s.heap → va_D A (Wd S) → (∀ q, s.heap.size ≤ q → A q) → lv_has ls maxL (lv_args 0 av) →
      W p l e rm s m av.toArray below meth c s.heap [] 0 0 (MQ below (va_Qi post (fun u t => wAt D KK A (Wd u) t) A) av.toArray s mc ms A) (F0 m 0 ls [])) : MetI l y ws rm D KK Wd S av post mc ms := by
  intro sz
  refine Met.ofW (cc := cc) (maxL := maxL) (ret := some .int) hy hw ?_
  intro p e s m args below meth c s₁ B hml hv
  obtain ⟨rfl, hsz, hP, hK, hD0⟩ := hv
  have hts := atoms_spec (ws := ws) B.pre
  have hown : s.vm.findClass y.cls = some m.cls := findClass_of_methodNamed B.named
  have hin : meth.name = y.name := (name_of_methodNamed B.named B.method).1
  subst hsz
  have hD := hD0.self (sz := s.heap.size)
  have hA : ∀ q : Nat, s.heap.size ≤ q → va_A (Wd S) s.heap.size q := fun q h => Or.inr h
  have hl := lv_entry av (n := maxL) hn
  rw [lg_entry_eq]
  exact body p e s m below meth c _ _ ⟨B.exec, B.bytes, hml, hown, hts⟩ B.returns B.notSynchronized hin hK hP hD hA hl
theorem MetJ.of {post : Int64 → σ → Prop} (hy : plainName y.cls = true) (hw : ws = Cond.code y cc maxL (some .long) :: ws') (hn : (lg_sl av).length ≤ maxL)
    (body : ∀ (p : Program) (e : Env) (s : State) (m : MethodId) (below : List Frame) (meth : Method) (c : Code) (A : Nat → Prop) (ls : Array Slot), CallFix p m c cc maxL s av.toArray ws y.cls → meth.sig.returnType = some .long → meth.locks = false → meth.name = y.name → KK s → va_P D vwCl (Wd S) s.heap → va_D A (Wd S) → (∀ q, s.heap.size ≤ q → A q) → lv_has ls maxL (lv_args 0 av) →
      W p l e rm s m av.toArray below meth c s.heap [] 0 0 (MQ below (va_Ql post (fun u t => wAt D KK A (Wd u) t) A) av.toArray s mc ms A) (F0 m 0 ls [])) : MetJ l y ws rm D KK Wd S av post mc ms := by
  intro sz
  refine Met.ofW (cc := cc) (maxL := maxL) (ret := some .long) hy hw ?_
  intro p e s m args below meth c s₁ B hml hv
  obtain ⟨rfl, hsz, hP, hK, hD0⟩ := hv
  have hts := atoms_spec (ws := ws) B.pre
  have hown : s.vm.findClass y.cls = some m.cls := findClass_of_methodNamed B.named
  have hin : meth.name = y.name := (name_of_methodNamed B.named B.method).1
  subst hsz
  have hD := hD0.self (sz := s.heap.size)
  have hA : ∀ q : Nat, s.heap.size ≤ q → va_A (Wd S) s.heap.size q := fun q h => Or.inr h
  have hl := lv_entry av (n := maxL) hn
  rw [lg_entry_eq]
  exact body p e s m below meth c _ _ ⟨B.exec, B.bytes, hml, hown, hts⟩ B.returns B.notSynchronized hin hK hP hD hA hl
theorem MetQ.of {post : Option Nat → σ → Prop} {rt : FieldType} (hy : plainName y.cls = true) (hw : ws = Cond.code y cc maxL (some rt) :: ws') (hn : (lg_sl av).length ≤ maxL)
    (body : ∀ (p : Program) (e : Env) (s : State) (m : MethodId) (below : List Frame) (meth : Method) (c : Code) (A : Nat → Prop) (ls : Array Slot), CallFix p m c cc maxL s av.toArray ws y.cls → meth.sig.returnType = some rt → meth.locks = false → meth.name = y.name → KK s → va_P D vwCl (Wd S) s.heap → va_D A (Wd S) → (∀ q, s.heap.size ≤ q → A q) → lv_has ls maxL (lv_args 0 av) →
      W p l e rm s m av.toArray below meth c s.heap [] 0 0 (MQ below (va_Qq post (fun u t => wAt D KK A (Wd u) t) A) av.toArray s mc ms A) (F0 m 0 ls [])) : MetQ l y ws rm D KK Wd S av post mc ms := by
  intro sz
  refine Met.ofW (cc := cc) (maxL := maxL) (ret := some rt) hy hw ?_
  intro p e s m args below meth c s₁ B hml hv
  obtain ⟨rfl, hsz, hP, hK, hD0⟩ := hv
  have hts := atoms_spec (ws := ws) B.pre
  have hown : s.vm.findClass y.cls = some m.cls := findClass_of_methodNamed B.named
  have hin : meth.name = y.name := (name_of_methodNamed B.named B.method).1
  subst hsz
  have hD := hD0.self (sz := s.heap.size)
  have hA : ∀ q : Nat, s.heap.size ≤ q → va_A (Wd S) s.heap.size q := fun q h => Or.inr h
  have hl := lv_entry av (n := maxL) hn
  rw [lg_entry_eq]
  exact body p e s m below meth c _ _ ⟨B.exec, B.bytes, hml, hown, hts⟩ B.returns B.notSynchronized hin hK hP hD hA hl
theorem MetV.of {post : σ → Prop} (hy : plainName y.cls = true) (hw : ws = Cond.code y cc maxL none :: ws') (hn : (lg_sl av).length ≤ maxL)
    (body : ∀ (p : Program) (e : Env) (s : State) (m : MethodId) (below : List Frame) (meth : Method) (c : Code) (A : Nat → Prop) (ls : Array Slot), CallFix p m c cc maxL s av.toArray ws y.cls → meth.sig.returnType = none → meth.locks = false → meth.name = y.name → KK s → va_P D vwCl (Wd S) s.heap → va_D A (Wd S) → (∀ q, s.heap.size ≤ q → A q) → lv_has ls maxL (lv_args 0 av) →
      W p l e rm s m av.toArray below meth c s.heap [] 0 0 (MQ below (va_Qv post (fun u t => wAt D KK A (Wd u) t) A) av.toArray s mc ms A) (F0 m 0 ls [])) : MetV l y ws rm D KK Wd S av post mc ms := by
  intro sz
  refine Met.ofW (cc := cc) (maxL := maxL) (ret := none) hy hw ?_
  intro p e s m args below meth c s₁ B hml hv
  obtain ⟨rfl, hsz, hP, hK, hD0⟩ := hv
  have hts := atoms_spec (ws := ws) B.pre
  have hown : s.vm.findClass y.cls = some m.cls := findClass_of_methodNamed B.named
  have hin : meth.name = y.name := (name_of_methodNamed B.named B.method).1
  subst hsz
  have hD := hD0.self (sz := s.heap.size)
  have hA : ∀ q : Nat, s.heap.size ≤ q → va_A (Wd S) s.heap.size q := fun q h => Or.inr h
  have hl := lv_entry av (n := maxL) hn
  rw [lg_entry_eq]
  exact body p e s m below meth c _ _ ⟨B.exec, B.bytes, hml, hown, hts⟩ B.returns B.notSynchronized hin hK hP hD hA hl
theorem MetS.of {post : Int32 → Prop} {ret : FieldType} (hy : plainName y.cls = true) (hw : ws = Cond.code y cc maxL (some ret) :: ws') (hn : (lg_sl av).length ≤ maxL)
    (body : ∀ (p : Program) (e : Env) (s : State) (m : MethodId) (below : List Frame) (meth : Method) (c : Code) (ls : Array Slot), CallFix p m c cc maxL s av.toArray ws y.cls → meth.sig.returnType = some ret → meth.locks = false → lv_has ls maxL (lv_args 0 av) →
      W p l e rm s m av.toArray below meth c s.heap [] 0 0 (MQ below (vp_Si post) av.toArray s 0 0 (fun _ => False)) (F0 m 0 ls [])) : MetS l y ws rm av post := by
  refine Met.ofW (cc := cc) (maxL := maxL) (ret := some ret) hy hw ?_
  intro p e s m args below meth c s₁ B hml hv
  subst hv
  have hts := atoms_spec (ws := ws) B.pre
  have hown : s.vm.findClass y.cls = some m.cls := findClass_of_methodNamed B.named
  have hl := lv_entry av (n := maxL) hn
  rw [lg_entry_eq]
  exact body p e s m below meth c _ ⟨B.exec, B.bytes, hml, hown, hts⟩ B.returns B.notSynchronized hl
end WX
section WY
variable {p : Program} {l : Launch} {e : Env} {R : Room} {s : State} {m : MethodId} {args : Array Value} {below : List Frame} {meth : Method} {c : Code} {H H0 : Heap} {locs : List Loc} {cells slots : Nat} {Q : State → Prop}
variable {D : va_G} {KK : State → Prop} {σ : Type} {Wd : σ → va_W} {S : σ} {A : Nat → Prop} {pc : Nat} {ls : Array Slot} {rest st0 : List Value}
variable {y : MethodName} {bytes cc : ByteArray} {maxL nL mc ms n index : Nat} {ret : Option FieldType} {ws Ts : List Cond} {rm : Room} {own C : String} {b : Addr} {As : List Value}
theorem wx_callVi {post : Int32 → σ → Prop} (hs : kst KK) (Sx : CallFix p m c cc nL s args Ts own) (hM : MetI l y ws rm D KK Wd S (.ref b :: As) post mc ms) (cw : CallW R s args own C index y bytes maxL ret ws rm mc ms n)
    (hK : KK s) (hP : va_P D vwCl (Wd S) H) (hD : va_D A (Wd S)) (hS : va_S A H0 H locs) (hA : ∀ q, H0.size ≤ q → A q) (hc : ∃ cellB : Cell, H[b]? = some cellB ∧ cellB.vm.isStatics = false ∧ s.vm.findClass C = some cellB.cls)
    (hn : As.length = n) (hsize : ls.size = nL) (hstack : st0 = As.reverse ++ .ref b :: rest) (hW : (rest.map fun v => v.category).sum ≤ 8) (hdg : decode cc pc = .ok (.invokevirtual index, 3)) (hf : cells + mc ≤ R.cells ∧ slots + ms ≤ R.slots)
    (kk : ∀ (r : Int32) (u : σ) (H1 : Heap) (locs1 : List Loc), post r u → va_P D vwCl (Wd u) H1 → va_D A (Wd u) → va_S A H0 H1 locs1 → W p l e R s m args below meth c H1 locs1 (cells + mc) (slots + ms) Q (F0 m (pc + 3) ls (.int r :: rest))) : W p l e R s m args below meth c H locs cells slots Q (F0 m pc ls st0) :=
  va_calli (va_runV Sx (hM H.size) cw ⟨wPre_blind hs, hc, fun U hU hW => ⟨rfl, wPre_of hs hK hP hD U hU hW⟩⟩ rfl hn hsize hstack (lv_room (m := m) (pc := pc) (ls := ls) hW) hdg hf) hS (fun q _ h => wfree hD hS hA q h) (wfree hD hS hA)
    (fun r u t H1 locs1 ht hvm hw hB hz hk hS1 => kk r u H1 locs1 hw (ht ▸ hB.1) (hB.2.2.weaken (fun k q _ h => wfree hD hS hA q.1 h)) hS1)
theorem wx_callVj {post : Int64 → σ → Prop} (hs : kst KK) (Sx : CallFix p m c cc nL s args Ts own) (hM : MetJ l y ws rm D KK Wd S (.ref b :: As) post mc ms) (cw : CallW R s args own C index y bytes maxL ret ws rm mc ms n)
    (hK : KK s) (hP : va_P D vwCl (Wd S) H) (hD : va_D A (Wd S)) (hS : va_S A H0 H locs) (hA : ∀ q, H0.size ≤ q → A q) (hc : ∃ cellB : Cell, H[b]? = some cellB ∧ cellB.vm.isStatics = false ∧ s.vm.findClass C = some cellB.cls)
    (hn : As.length = n) (hsize : ls.size = nL) (hstack : st0 = As.reverse ++ .ref b :: rest) (hW : (rest.map fun v => v.category).sum ≤ 8) (hdg : decode cc pc = .ok (.invokevirtual index, 3)) (hf : cells + mc ≤ R.cells ∧ slots + ms ≤ R.slots)
    (kk : ∀ (r : Int64) (u : σ) (H1 : Heap) (locs1 : List Loc), post r u → va_P D vwCl (Wd u) H1 → va_D A (Wd u) → va_S A H0 H1 locs1 → W p l e R s m args below meth c H1 locs1 (cells + mc) (slots + ms) Q (F0 m (pc + 3) ls (.long r :: rest))) : W p l e R s m args below meth c H locs cells slots Q (F0 m pc ls st0) :=
  va_calll (va_runV Sx (hM H.size) cw ⟨wPre_blind hs, hc, fun U hU hW => ⟨rfl, wPre_of hs hK hP hD U hU hW⟩⟩ rfl hn hsize hstack (lv_room (m := m) (pc := pc) (ls := ls) hW) hdg hf) hS (fun q _ h => wfree hD hS hA q h) (wfree hD hS hA)
    (fun r u t H1 locs1 ht hvm hw hB hz hk hS1 => kk r u H1 locs1 hw (ht ▸ hB.1) (hB.2.2.weaken (fun k q _ h => wfree hD hS hA q.1 h)) hS1)
theorem wx_callVq {post : Option Nat → σ → Prop} (hs : kst KK) (Sx : CallFix p m c cc nL s args Ts own) (hM : MetQ l y ws rm D KK Wd S (.ref b :: As) post mc ms) (cw : CallW R s args own C index y bytes maxL ret ws rm mc ms n)
    (hK : KK s) (hP : va_P D vwCl (Wd S) H) (hD : va_D A (Wd S)) (hS : va_S A H0 H locs) (hA : ∀ q, H0.size ≤ q → A q) (hc : ∃ cellB : Cell, H[b]? = some cellB ∧ cellB.vm.isStatics = false ∧ s.vm.findClass C = some cellB.cls)
    (hn : As.length = n) (hsize : ls.size = nL) (hstack : st0 = As.reverse ++ .ref b :: rest) (hW : (rest.map fun v => v.category).sum ≤ 8) (hdg : decode cc pc = .ok (.invokevirtual index, 3)) (hf : cells + mc ≤ R.cells ∧ slots + ms ≤ R.slots)
    (kk : ∀ (r : Option Nat) (u : σ) (H1 : Heap) (locs1 : List Loc), post r u → va_P D vwCl (Wd u) H1 → va_D A (Wd u) → va_S A H0 H1 locs1 → W p l e R s m args below meth c H1 locs1 (cells + mc) (slots + ms) Q (F0 m (pc + 3) ls (va_rf r :: rest))) : W p l e R s m args below meth c H locs cells slots Q (F0 m pc ls st0) :=
  va_callq (va_runV Sx (hM H.size) cw ⟨wPre_blind hs, hc, fun U hU hW => ⟨rfl, wPre_of hs hK hP hD U hU hW⟩⟩ rfl hn hsize hstack (lv_room (m := m) (pc := pc) (ls := ls) hW) hdg hf) hS (fun q _ h => wfree hD hS hA q h) (wfree hD hS hA)
    (fun r u t H1 locs1 ht hvm hw hB hz hk hS1 => kk r u H1 locs1 hw (ht ▸ hB.1) (hB.2.2.weaken (fun k q _ h => wfree hD hS hA q.1 h)) hS1)
theorem wx_callVv {post : σ → Prop} (hs : kst KK) (Sx : CallFix p m c cc nL s args Ts own) (hM : MetV l y ws rm D KK Wd S (.ref b :: As) post mc ms) (cw : CallW R s args own C index y bytes maxL ret ws rm mc ms n)
    (hK : KK s) (hP : va_P D vwCl (Wd S) H) (hD : va_D A (Wd S)) (hS : va_S A H0 H locs) (hA : ∀ q, H0.size ≤ q → A q) (hc : ∃ cellB : Cell, H[b]? = some cellB ∧ cellB.vm.isStatics = false ∧ s.vm.findClass C = some cellB.cls)
    (hn : As.length = n) (hsize : ls.size = nL) (hstack : st0 = As.reverse ++ .ref b :: rest) (hW : (rest.map fun v => v.category).sum ≤ 8) (hdg : decode cc pc = .ok (.invokevirtual index, 3)) (hf : cells + mc ≤ R.cells ∧ slots + ms ≤ R.slots)
    (kk : ∀ (u : σ) (H1 : Heap) (locs1 : List Loc), post u → va_P D vwCl (Wd u) H1 → va_D A (Wd u) → va_S A H0 H1 locs1 → W p l e R s m args below meth c H1 locs1 (cells + mc) (slots + ms) Q (F0 m (pc + 3) ls rest)) : W p l e R s m args below meth c H locs cells slots Q (F0 m pc ls st0) :=
  va_callv (va_runV Sx (hM H.size) cw ⟨wPre_blind hs, hc, fun U hU hW => ⟨rfl, wPre_of hs hK hP hD U hU hW⟩⟩ rfl hn hsize hstack (lv_room (m := m) (pc := pc) (ls := ls) hW) hdg hf) hS (fun q _ h => wfree hD hS hA q h) (wfree hD hS hA)
    (fun u t H1 locs1 ht hvm hw hB hz hk hS1 => kk u H1 locs1 hw (ht ▸ hB.1) (hB.2.2.weaken (fun k q _ h => wfree hD hS hA q.1 h)) hS1)
theorem wx_callS {post : Int32 → Prop} (Sx : CallFix p m c cc nL s args Ts own) (hM : MetS l y ws rm As post) (cw : CallB R s args own index y bytes maxL ret ws rm 0 0 n ∧ (Cond.static y).before args s = true)
    (hn : As.length = n) (hsize : ls.size = nL) (hstack : st0 = As.reverse ++ rest) (hW : (rest.map fun v => v.category).sum ≤ 8) (hdg : decode cc pc = .ok (.invokestatic index, 3)) (hf : cells ≤ R.cells ∧ slots ≤ R.slots)
    (kk : ∀ r : Int32, post r → W p l e R s m args below meth c H locs cells slots Q (F0 m (pc + 3) ls (.int r :: rest))) : W p l e R s m args below meth c H locs cells slots Q (F0 m pc ls st0) :=
  vp_callSi (W.runS Sx hM cw ⟨fun a U g mk q => q, fun U hU hW => rfl⟩ rfl hn hsize hstack (lv_room (m := m) (pc := pc) (ls := ls) hW) hdg hf) kk
theorem wx_reti {post : Int32 → σ → Prop} {v : Int32} (hs : kst KK) (u : σ) (hexec : p.tables.exec = Jvm.exec) (hb : c.code = cc) (hr : meth.sig.returnType = some .int) (hlk : meth.locks = false) (hK : KK s) (hP : va_P D vwCl (Wd u) H) (hD : va_D A (Wd u)) (hS : va_S A s.heap H locs) (hdg : decode cc pc = .ok (.ireturn, 1)) (hp : post v u) :
    W p l e R s m args below meth c H locs cells slots (MQ below (va_Qi post (fun u t => wAt D KK A (Wd u) t) A) args s cells slots A) (F0 m pc ls [.int v]) :=
  W.iret (v := v) hexec hb hr (fun t ht hW => ⟨⟨v, u, rfl, hp, by rw [ht]; exact hP, hs hW.alike hK, hD⟩, hS.F ht⟩) hS.2.2 hdg hlk
theorem wx_retj {post : Int64 → σ → Prop} {v : Int64} (hs : kst KK) (u : σ) (hexec : p.tables.exec = Jvm.exec) (hb : c.code = cc) (hr : meth.sig.returnType = some .long) (hlk : meth.locks = false) (hK : KK s) (hP : va_P D vwCl (Wd u) H) (hD : va_D A (Wd u)) (hS : va_S A s.heap H locs) (hdg : decode cc pc = .ok (.lreturn, 1)) (hp : post v u) :
    W p l e R s m args below meth c H locs cells slots (MQ below (va_Ql post (fun u t => wAt D KK A (Wd u) t) A) args s cells slots A) (F0 m pc ls [.long v]) :=
  W.lret (v := v) hexec hb hr (fun t ht hW => ⟨⟨v, u, rfl, hp, by rw [ht]; exact hP, hs hW.alike hK, hD⟩, hS.F ht⟩) hS.2.2 hdg hlk
theorem wx_retq {post : Option Nat → σ → Prop} {v : Option Nat} {nm : String} (hs : kst KK) (u : σ) (hexec : p.tables.exec = Jvm.exec) (hb : c.code = cc) (hr : meth.sig.returnType = some (.object nm)) (hlk : meth.locks = false) (hK : KK s) (hP : va_P D vwCl (Wd u) H) (hD : va_D A (Wd u)) (hS : va_S A s.heap H locs) (hdg : decode cc pc = .ok (.areturn, 1)) (hp : post v u) :
    W p l e R s m args below meth c H locs cells slots (MQ below (va_Qq post (fun u t => wAt D KK A (Wd u) t) A) args s cells slots A) (F0 m pc ls [va_rf v]) :=
  W.aret (v := va_rf v) hexec hb hr (Or.inl ⟨nm, rfl⟩) (va_rf_or v) (fun t ht hW => ⟨⟨v, u, rfl, hp, by rw [ht]; exact hP, hs hW.alike hK, hD⟩, hS.F ht⟩) hS.2.2 hdg hlk
theorem wx_retv {post : σ → Prop} (hs : kst KK) (u : σ) (hexec : p.tables.exec = Jvm.exec) (hb : c.code = cc) (hr : meth.sig.returnType = none) (hlk : meth.locks = false) (hK : KK s) (hP : va_P D vwCl (Wd u) H) (hD : va_D A (Wd u)) (hS : va_S A s.heap H locs) (hdg : decode cc pc = .ok (.return_, 1)) (hp : post u) :
    W p l e R s m args below meth c H locs cells slots (MQ below (va_Qv post (fun u t => wAt D KK A (Wd u) t) A) args s cells slots A) (F0 m pc ls []) :=
  W.vret hexec hb hr (fun t ht hW => ⟨⟨u, rfl, hp, by rw [ht]; exact hP, hs hW.alike hK, hD⟩, hS.F ht⟩) hS.2.2 hdg hlk
theorem wx_rets {post : Int32 → Prop} {v : Int32} {ty : FieldType} (hexec : p.tables.exec = Jvm.exec) (hb : c.code = cc) (hr : meth.sig.returnType = some ty) (hn : narrow ty (.int v) = .int v) (hlk : meth.locks = false) (hH : H = s.heap) (hdg : decode cc pc = .ok (.ireturn, 1)) (hp : post v) :
    W p l e R s m args below meth c H [] cells slots (MQ below (vp_Si post) args s cells slots (fun _ => False)) (F0 m pc ls [.int v]) :=
  W.zret (v := v) hexec hb hr hn (fun t ht hW => ⟨v, rfl, hp, by rw [ht, hH]⟩) (fun q h => by cases h) hdg hlk
end WY
theorem sw_out {x : Int32} {lo hi : Int} (h : ∀ k : Int, lo ≤ k → k ≤ hi → ¬ x = Int32.ofInt k) : x.toInt < lo ∨ hi < x.toInt := by
  rcases Int.lt_or_le x.toInt lo with h1 | h1
  · exact Or.inl h1
  rcases Int.lt_or_le hi x.toInt with h2 | h2
  · exact Or.inr h2
  exact absurd (Int32.ofInt_toInt x).symm (h _ h1 h2)
theorem nb_of {x : Int32} (h : x = 0 ∨ x = 1) : narrow .boolean (.int x) = .int x := by
  rcases h with rfl | rfl <;> rfl
theorem lv_see {p : Program} {l : Launch} {e : Env} {R : Room} {s : State} {m : MethodId} {args : Array Value} {below : List Frame} {meth : Method} {c : Code} {H : Heap} {locs : List Loc} {cells slots : Nat} {Q : State → Prop} {pc : Nat} {ls : Array Slot} {rest : List Value} {v v2 : Value} (h : v = v2) (k : W p l e R s m args below meth c H locs cells slots Q (F0 m pc ls (v2 :: rest))) : W p l e R s m args below meth c H locs cells slots Q (F0 m pc ls (v :: rest)) := h ▸ k
