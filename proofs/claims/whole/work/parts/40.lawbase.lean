/-! two worlds side by side: a call works in its own, the other stays -/
def wdis (w1 w2 : va_W) : Prop := ∀ (i j : Nat) (p q : Nat × va_E), w1[i]? = some p → w2[j]? = some q → p.1 ≠ q.1
theorem wdis.symm {a b : va_W} (h : wdis a b) : wdis b a := fun i j p q hp hq e => h j i q p hq hp e.symm
theorem wz_keep {D : va_G} {w F : va_W} {H H1 : Heap} (hP : va_P D vwCl F H) (hd : wdis w F) (hk : ∀ q : Nat, q < H.size → ¬ va_A w H.size q → H1[q]? = H[q]?) : va_P D vwCl F H1 :=
  hP.kept (fun k q hq => hk q.1 ((hP k q hq).lt) (fun h => h.elim (fun ⟨i, e, hi⟩ => hd i k (q.1, e) q hi hq rfl) (fun h => absurd ((hP k q hq).lt) (Nat.not_lt.mpr h))))
theorem wz_dis {D : va_G} {w w' F : va_W} {H : Heap} (hP : va_P D vwCl F H) (hd : wdis w F) (hD : va_D (va_A w H.size) w') : wdis w' F := fun i j p q hp hq e => by
  have h1 := hD.2 i p hp
  have hlt := (hP j q hq).lt
  rcases h1 with ⟨k, e', hk⟩ | h
  · exact hd k j (p.1, e') q hk hq e
  · rw [e] at h
    omega
section WZL
variable {p : Program} {l : Launch} {e : Env} {R : Room} {s : State} {m : MethodId} {args : Array Value} {below : List Frame} {meth : Method} {c : Code} {H H0 : Heap} {locs : List Loc} {cells slots : Nat} {Q : State → Prop}
variable {D : va_G} {KK : State → Prop} {σ : Type} {Wd : σ → va_W} {S : σ} {A : Nat → Prop} {pc : Nat} {ls : Array Slot} {rest st0 : List Value}
variable {y : MethodName} {bytes cc : ByteArray} {maxL nL mc ms n index : Nat} {ret : Option FieldType} {ws Ts : List Cond} {rm : Room} {own C : String} {b : Addr} {As : List Value} {F : va_W}
theorem wz_callVi {post : Int32 → σ → Prop} (hs : kst KK) (Sx : CallFix p m c cc nL s args Ts own) (hM : MetI l y ws rm D KK Wd S (.ref b :: As) post mc ms) (cw : CallW R s args own C index y bytes maxL ret ws rm mc ms n)
    (hK : KK s) (hP : va_P D vwCl (Wd S) H) (hD : va_D A (Wd S)) (hS : va_S A H0 H locs) (hA : ∀ q, H0.size ≤ q → A q) (hc : ∃ cellB : Cell, H[b]? = some cellB ∧ cellB.vm.isStatics = false ∧ s.vm.findClass C = some cellB.cls) (hF : va_P D vwCl F H) (hd : wdis (Wd S) F)
    (hn : As.length = n) (hsize : ls.size = nL) (hstack : st0 = As.reverse ++ .ref b :: rest) (hW : (rest.map fun v => v.category).sum ≤ 8) (hdg : decode cc pc = .ok (.invokevirtual index, 3)) (hf : cells + mc ≤ R.cells ∧ slots + ms ≤ R.slots)
    (kk : ∀ (r : Int32) (u : σ) (H1 : Heap) (locs1 : List Loc), post r u → va_P D vwCl (Wd u) H1 → va_D A (Wd u) → va_P D vwCl F H1 → wdis (Wd u) F → va_S A H0 H1 locs1 → W p l e R s m args below meth c H1 locs1 (cells + mc) (slots + ms) Q (F0 m (pc + 3) ls (.int r :: rest))) : W p l e R s m args below meth c H locs cells slots Q (F0 m pc ls st0) :=
  va_calli (va_runV Sx (hM H.size) cw ⟨wPre_blind hs, hc, fun U hU hW => ⟨rfl, wPre_of hs hK hP hD U hU hW⟩⟩ rfl hn hsize hstack (lv_room (m := m) (pc := pc) (ls := ls) hW) hdg hf) hS (fun q _ h => wfree hD hS hA q h) (wfree hD hS hA)
    (fun r u t H1 locs1 ht hvm hw hB hz hk hS1 => kk r u H1 locs1 hw (ht ▸ hB.1) (hB.2.2.weaken (fun k q _ h => wfree hD hS hA q.1 h)) (wz_keep hF hd hk) (wz_dis hF hd hB.2.2) hS1)
theorem wz_callVj {post : Int64 → σ → Prop} (hs : kst KK) (Sx : CallFix p m c cc nL s args Ts own) (hM : MetJ l y ws rm D KK Wd S (.ref b :: As) post mc ms) (cw : CallW R s args own C index y bytes maxL ret ws rm mc ms n)
    (hK : KK s) (hP : va_P D vwCl (Wd S) H) (hD : va_D A (Wd S)) (hS : va_S A H0 H locs) (hA : ∀ q, H0.size ≤ q → A q) (hc : ∃ cellB : Cell, H[b]? = some cellB ∧ cellB.vm.isStatics = false ∧ s.vm.findClass C = some cellB.cls) (hF : va_P D vwCl F H) (hd : wdis (Wd S) F)
    (hn : As.length = n) (hsize : ls.size = nL) (hstack : st0 = As.reverse ++ .ref b :: rest) (hW : (rest.map fun v => v.category).sum ≤ 8) (hdg : decode cc pc = .ok (.invokevirtual index, 3)) (hf : cells + mc ≤ R.cells ∧ slots + ms ≤ R.slots)
    (kk : ∀ (r : Int64) (u : σ) (H1 : Heap) (locs1 : List Loc), post r u → va_P D vwCl (Wd u) H1 → va_D A (Wd u) → va_P D vwCl F H1 → wdis (Wd u) F → va_S A H0 H1 locs1 → W p l e R s m args below meth c H1 locs1 (cells + mc) (slots + ms) Q (F0 m (pc + 3) ls (.long r :: rest))) : W p l e R s m args below meth c H locs cells slots Q (F0 m pc ls st0) :=
  va_calll (va_runV Sx (hM H.size) cw ⟨wPre_blind hs, hc, fun U hU hW => ⟨rfl, wPre_of hs hK hP hD U hU hW⟩⟩ rfl hn hsize hstack (lv_room (m := m) (pc := pc) (ls := ls) hW) hdg hf) hS (fun q _ h => wfree hD hS hA q h) (wfree hD hS hA)
    (fun r u t H1 locs1 ht hvm hw hB hz hk hS1 => kk r u H1 locs1 hw (ht ▸ hB.1) (hB.2.2.weaken (fun k q _ h => wfree hD hS hA q.1 h)) (wz_keep hF hd hk) (wz_dis hF hd hB.2.2) hS1)
end WZL
