/-- one round of the fall -/
def fall1 (S : MS) : MS := if (S.2.1 6 ((S.2.1 21 (((S.1 20) - 1).toNatClampNeg)).toNatClampNeg)) = 8 then (if (S.2.1 24 (((S.1 20) - 1).toNatClampNeg)) = 1 then (if (S.1 27) = (-6) then (id (msI S 20 ((S.1 20) - 1))) else (if (S.1 27) = (-7) then (id (msI S 20 ((S.1 20) - 1))) else (id (p_X2_asks (msI S 27 0) (S.2.1 8 ((S.2.1 21 (((S.1 20) - 1).toNatClampNeg)).toNatClampNeg)) (S.2.1 22 (((S.1 20) - 1).toNatClampNeg)) (S.2.1 23 (((S.1 20) - 1).toNatClampNeg)))))) else (id (msI S 20 ((S.1 20) - 1)))) else (id (msI S 20 ((S.1 20) - 1)))
def okf1 (S : MS) : Prop := (vp_in ((S.1 20) - 1) 24) ∧ ((vp_in (S.2.1 21 (((S.1 20) - 1).toNatClampNeg)) 4200) ∧ (((S.2.1 6 ((S.2.1 21 (((S.1 20) - 1).toNatClampNeg)).toNatClampNeg)) = 8 → ((vp_in ((S.1 20) - 1) 24) ∧ (((S.2.1 24 (((S.1 20) - 1).toNatClampNeg)) = 1 → (((S.1 27) = (-6) → True) ∧ (¬ (S.1 27) = (-6) → (((S.1 27) = (-7) → True) ∧ (¬ (S.1 27) = (-7) → ((vp_in (S.2.1 21 (((S.1 20) - 1).toNatClampNeg)) 4200) ∧ ((vp_in ((S.1 20) - 1) 24) ∧ ((vp_in ((S.1 20) - 1) 24) ∧ ((ok_X2_asks (msI S 27 0) (S.2.1 8 ((S.2.1 21 (((S.1 20) - 1).toNatClampNeg)).toNatClampNeg)) (S.2.1 22 (((S.1 20) - 1).toNatClampNeg)) (S.2.1 23 (((S.1 20) - 1).toNatClampNeg))) ∧ True))))))))) ∧ (¬ (S.2.1 24 (((S.1 20) - 1).toNatClampNeg)) = 1 → True)))) ∧ (¬ (S.2.1 6 ((S.2.1 21 (((S.1 20) - 1).toNatClampNeg)).toNatClampNeg)) = 8 → True)))
def stp (T : MS) : MS := if T.1 27 = 0 then p_X2_go T else fall1 T
def okst (T : MS) : Prop := if T.1 27 = 0 then ok_X2_go T else okf1 T
def Rn : Nat → MS → MS → Prop
  | 0, T, T' => T = T'
  | n + 1, T, T' => ¬ T.1 20 ≤ 0 ∧ okst T ∧ Rn n (stp T) T'
theorem fall_eq (N m : Nat) {S : MS} (h1 : ¬ S.1 20 ≤ 0) (h2 : ¬ S.1 27 = 0) : pL_X2_fall_0 N (m + 1) S = pL_X2_fall_0 N m (fall1 S) := by
  rw [pL_X2_fall_0, if_neg h1, if_neg h2]
  unfold fall1
  split
  · split
    · split
      · rfl
      · split
        · rfl
        · rfl
    · rfl
  · rfl
theorem fall_ok (N m : Nat) {S : MS} (h1 : ¬ S.1 20 ≤ 0) (h2 : ¬ S.1 27 = 0) (hk : okf1 S) (hn : okL_X2_fall_0 N m (fall1 S)) : okL_X2_fall_0 N (m + 1) S := by
  rw [okL_X2_fall_0]
  refine ⟨fun z => absurd z h1, fun _ => ⟨fun z => absurd z h2, fun _ => ?_⟩⟩
  unfold okf1 at hk
  unfold fall1 at hn
  obtain ⟨a1, a2, a3, a4⟩ := hk
  refine ⟨a1, a2, fun c1 => ⟨(a3 c1).1, fun c2 => ⟨fun c3 => ?_, fun c3 => ⟨fun c4 => ?_, fun c4 => ?_⟩⟩, fun c2 => ?_⟩, fun c1 => ?_⟩
  · rw [if_pos c1, if_pos c2, if_pos c3] at hn
    exact hn
  · rw [if_pos c1, if_pos c2, if_neg c3, if_pos c4] at hn
    exact hn
  · rw [if_pos c1, if_pos c2, if_neg c3, if_neg c4] at hn
    obtain ⟨b1, b2, b3, b4, -⟩ := (((a3 c1).2.1 c2).2 c3).2 c4
    exact ⟨b1, b2, b3, b4, hn⟩
  · rw [if_pos c1, if_neg c2] at hn
    exact hn
  · rw [if_neg c1] at hn
    exact hn
theorem fall_b {Tf : MS} (hf : Tf.1 20 ≤ 0) (N : Nat) : ∀ (n : Nat) (T : MS) (m : Nat), Rn n T Tf → n < m → okL_X2_fall_0 N m T ∧ ∃ n1, n1 ≤ n ∧ Rn n1 (pL_X2_fall_0 N m T) Tf ∧ ((pL_X2_fall_0 N m T).1 20 ≤ 0 ∨ (pL_X2_fall_0 N m T).1 27 = 0) := by
  intro n
  induction n with
  | zero =>
    intro T m h hm
    obtain ⟨m, rfl⟩ : ∃ z, m = z + 1 := ⟨m - 1, by omega⟩
    have h : T = Tf := h
    subst h
    rw [okL_X2_fall_0, pL_X2_fall_0, if_pos hf]
    exact ⟨⟨fun _ => trivial, fun z => absurd hf z⟩, 0, Nat.le_refl _, rfl, Or.inl hf⟩
  | succ n ih =>
    intro T m h hm
    obtain ⟨m, rfl⟩ : ∃ z, m = z + 1 := ⟨m - 1, by omega⟩
    obtain ⟨h1, h2, h3⟩ := h
    by_cases h27 : T.1 27 = 0
    · rw [okL_X2_fall_0, pL_X2_fall_0, if_neg h1, if_pos h27]
      exact ⟨⟨fun z => absurd z h1, fun _ => ⟨fun _ => trivial, fun z => absurd h27 z⟩⟩, n + 1, Nat.le_refl _, ⟨h1, h2, h3⟩, Or.inr h27⟩
    · unfold okst at h2
      unfold stp at h3
      rw [if_neg h27] at h2 h3
      obtain ⟨g1, n1, g2, g3, g4⟩ := ih (fall1 T) m h3 (by omega)
      rw [fall_eq N m h1 h27]
      exact ⟨fall_ok N m h1 h27 h2 g1, n1, by omega, g3, g4⟩
theorem ask_b {Tf : MS} (hf : Tf.1 20 ≤ 0) (N : Nat) (x1 x2 x3 : Int32) : ∀ (n : Nat) (T : MS) (m : Nat), Rn n T Tf → (T.1 20 ≤ 0 ∨ T.1 27 = 0) → n < m → n < N → okL_X2_ask_70 N m T x1 x2 x3 ∧ pL_X2_ask_70 N m T x1 x2 x3 = if Tf.1 27 = 0 then (Tf.2.2.2, Tf) else (0, msI (msI Tf 17 (Tf.1 27)) 19 (Tf.1 19 + 1)) := by
  intro n
  induction n using Nat.strongRecOn with
  | ind n ih =>
    intro T m h ht hm hN
    obtain ⟨m, rfl⟩ : ∃ z, m = z + 1 := ⟨m - 1, by omega⟩
    cases n with
    | zero =>
      have h : T = Tf := h
      subst h
      rw [okL_X2_ask_70, pL_X2_ask_70, if_pos hf]
      exact ⟨⟨fun _ => ⟨fun _ => trivial, fun _ => trivial⟩, fun z => absurd hf z⟩, rfl⟩
    | succ n =>
      obtain ⟨h1, h2, h3⟩ := h
      have h27 : T.1 27 = 0 := ht.resolve_left h1
      unfold okst at h2
      unfold stp at h3
      rw [if_pos h27] at h2 h3
      rw [okL_X2_ask_70, pL_X2_ask_70, if_neg h1]
      by_cases hg : (p_X2_go T).1 27 = 0
      · rw [if_pos hg]
        obtain ⟨g1, g2⟩ := ih n (by omega) (p_X2_go T) m h3 (Or.inr hg) (by omega) (by omega)
        exact ⟨⟨fun z => absurd z h1, fun _ => ⟨h2, fun _ => g1, fun z => absurd hg z⟩⟩, g2⟩
      · rw [if_neg hg]
        obtain ⟨f1, n1, f2, f3, f4⟩ := fall_b hf N n (p_X2_go T) N h3 (by omega)
        obtain ⟨g1, g2⟩ := ih n1 (by omega) (p_X2_fall N (p_X2_go T)) m f3 f4 (by omega) (by omega)
        exact ⟨⟨fun z => absurd z h1, fun _ => ⟨h2, fun z => absurd z hg, fun _ => ⟨f1, g1⟩⟩⟩, g2⟩
def Rs (T T' : MS) : Prop := ∃ n, Rn n T T'
theorem Rn.trans : ∀ {n m : Nat} {A B C : MS}, Rn n A B → Rn m B C → Rn (n + m) A C := by
  intro n
  induction n with
  | zero =>
    intro m A B C h1 h2
    have h1 : A = B := h1
    rw [h1, Nat.zero_add]
    exact h2
  | succ n ih =>
    intro m A B C h1 h2
    rw [Nat.succ_add]
    exact ⟨h1.1, h1.2.1, ih h1.2.2 h2⟩
theorem Rs.trans {A B C : MS} (h1 : Rs A B) (h2 : Rs B C) : Rs A C := by
  obtain ⟨n, h1⟩ := h1
  obtain ⟨m, h2⟩ := h2
  exact ⟨n + m, h1.trans h2⟩
theorem Rs.rf {A : MS} : Rs A A := ⟨0, rfl⟩
theorem Rs.one {A B : MS} (h1 : ¬ A.1 20 ≤ 0) (h2 : okst A) (h3 : stp A = B) : Rs A B := ⟨1, h1, h2, h3⟩
/-! the relation without steps and failure -/
def Core (k w : Nat) (ra wa : Nat → Nat) (S : CS) (T : MS) : Prop :=
  (T.1 5 = nI k ∧ qI S 3 = nI k ∧ T.1 4 = nI w) ∧ qI S 5 = T.1 19 ∧
  (∀ i, i < 8 → qR S i = T.2.1 0 i) ∧ (∀ i, i < 4 → ∃ j, j < w ∧ T.2.1 1 i = nI j ∧ qW S i = some (wa j)) ∧
  (∀ j, j < w → RowR wa S T j) ∧ (∀ i, i < 16 → PlaceR k ra S T i) ∧ (∀ j, j < k → RuleR k w ra wa S T j) ∧
  (∀ i j, i < k → j < k → ra i = ra j → i = j) ∧ (∀ i j, i < w → j < w → wa i = wa j → i = j)
theorem Sim.core {k w : Nat} {ra wa : Nat → Nat} {S : CS} {T : MS} (h : Sim k w ra wa S T) : Core k w ra wa S T := ⟨h.1, h.2.1.2.1, h.2.2⟩
theorem Core.sim {k w : Nat} {ra wa : Nat → Nat} {S : CS} {T : MS} (h : Core k w ra wa S T) (h1 : qI S 4 = T.1 18) (h2 : qI S 6 = T.1 17) : Sim k w ra wa S T := ⟨h.1, ⟨h1, h.2.1, h2⟩, h.2.2⟩
section CO
variable {k w : Nat} {ra wa : Nat → Nat} {S : CS} {T : MS}
theorem Core.s4 (h : Core k w ra wa S T) (v : Int32) : Core k w ra wa (csI S 4 v) T := h
theorem Core.s6 (h : Core k w ra wa S T) (v : Int32) : Core k w ra wa (csI S 6 v) T := h
theorem Core.i17 (h : Core k w ra wa S T) (v : Int32) : Core k w ra wa S (msI T 17 v) := h
theorem Core.i18 (h : Core k w ra wa S T) (v : Int32) : Core k w ra wa S (msI T 18 v) := h
theorem Core.i20 (h : Core k w ra wa S T) (v : Int32) : Core k w ra wa S (msI T 20 v) := h
theorem Core.i27 (h : Core k w ra wa S T) (v : Int32) : Core k w ra wa S (msI T 27 v) := h
theorem Core.a21 (h : Core k w ra wa S T) (i : Nat) (v : Int32) : Core k w ra wa S (msA T 21 i v) := h
theorem Core.a22 (h : Core k w ra wa S T) (i : Nat) (v : Int32) : Core k w ra wa S (msA T 22 i v) := h
theorem Core.a23 (h : Core k w ra wa S T) (i : Nat) (v : Int32) : Core k w ra wa S (msA T 23 i v) := h
theorem Core.a24 (h : Core k w ra wa S T) (i : Nat) (v : Int32) : Core k w ra wa S (msA T 24 i v) := h
theorem Core.j25 (h : Core k w ra wa S T) (i : Nat) (v : Int64) : Core k w ra wa S (msJ T 25 i v) := h
theorem Core.g (h : Core k w ra wa S T) (v : Int64) : Core k w ra wa S (msG T v) := h
end CO
/-- what stays below p, and what never changes -/
def Pile (p : Nat) (T T' : MS) : Prop := T'.1 17 = T.1 17 ∧ T'.2.1 6 = T.2.1 6 ∧ ∀ m, m < p → T'.2.1 21 m = T.2.1 21 m ∧ T'.2.1 22 m = T.2.1 22 m ∧ T'.2.1 23 m = T.2.1 23 m ∧ T'.2.1 24 m = T.2.1 24 m ∧ T'.2.2.1 25 m = T.2.2.1 25 m
theorem Pile.rf {p : Nat} {T : MS} : Pile p T T := ⟨rfl, rfl, fun _ _ => ⟨rfl, rfl, rfl, rfl, rfl⟩⟩
theorem Pile.trans {p : Nat} {A B C : MS} (h1 : Pile p A B) (h2 : Pile p B C) : Pile p A C := ⟨h2.1.trans h1.1, h2.2.1.trans h1.2.1, fun m hm => by
  obtain ⟨a1, a2, a3, a4, a5⟩ := h1.2.2 m hm
  obtain ⟨b1, b2, b3, b4, b5⟩ := h2.2.2 m hm
  exact ⟨b1.trans a1, b2.trans a2, b3.trans a3, b4.trans a4, b5.trans a5⟩⟩
theorem Pile.le {p q : Nat} {A B : MS} (h : Pile q A B) (hq : p ≤ q) : Pile p A B := ⟨h.1, h.2.1, fun m hm => h.2.2 m (by omega)⟩
def SR (st : Nat) (S : CS) (T : MS) : Prop := st ≤ 80 ∧ qI S 4 = nI st ∧ T.1 18 = nI st
def Lnk (k : Nat) (ra : Nat → Nat) (r : Option Nat) (idx : Int32) : Prop := (r = none ∧ idx = -1) ∨ ∃ j, j < k ∧ r = some (ra j) ∧ idx = nI j
/-- from T the reference comes to the end of what the class answers by x -/
def Out (k w : Nat) (ra wa : Nat → Nat) (p : Nat) (T0 : MS) (x : Int64 × CS) (T : MS) : Prop := ∃ (T' : MS) (st : Nat), Rs T T' ∧ T'.1 20 = nI p ∧ Pile p T0 T' ∧ Core k w ra wa x.2 T' ∧ SR st x.2 T' ∧ qI x.2 6 = T'.1 27 ∧ (T'.1 27 = 0 → T'.2.2.2 = x.1)
def Good (k w : Nat) (ra wa : Nat → Nat) (fa : CS → Option Nat → Int32 → Int32 → Int32 → Int64 × CS) (fo : CS → Option Nat → Int32 → Int32 → Int32 → Prop) (p : Nat) : Prop :=
  ∀ (S : CS) (T : MS) (r : Option Nat) (idx lo wy : Int32) (st : Nat), Core k w ra wa S T → SR st S T → qI S 6 = 0 → T.1 27 = 0 → T.1 20 = nI p → Lnk k ra r idx → fo S r lo wy (nI p) ∧ ok_X2_begin T idx lo wy ∧ Out k w ra wa p T (fa S r lo wy (nI p)) (p_X2_begin T idx lo wy)
section OU
variable {k w : Nat} {ra wa : Nat → Nat} {p : Nat} {T0 T : MS} {x : Int64 × CS}
theorem Out.step {T2 : MS} (h : Out k w ra wa p T0 x T2) (hs : Rs T T2) : Out k w ra wa p T0 x T := by
  obtain ⟨T', st, h1, h2⟩ := h
  exact ⟨T', st, hs.trans h1, h2⟩
theorem Out.base {T1 : MS} (h : Out k w ra wa p T1 x T) (hp : Pile p T0 T1) : Out k w ra wa p T0 x T := by
  obtain ⟨T', st, h1, h2, h3, h4⟩ := h
  exact ⟨T', st, h1, h2, hp.trans h3, h4⟩
theorem piled_pos {q : Nat} (h : q < 1000) : ¬ nI (q + 1) ≤ 0 := nI_nle (by omega) (by omega)
theorem out_gives {T2 : MS} {v : Int64} {S : CS} {st : Nat} (hp : p < 24) (h20 : T.1 20 = nI (p + 1)) (h27 : T.1 27 = 0) (hg : p_X2_go T = p_X2_gives T2 v) (hk : ok_X2_go T) (g20 : T2.1 20 = nI (p + 1)) (g27 : T2.1 27 = 0) (hpi : Pile p T0 T2) (hc : Core k w ra wa S T2) (hs : SR st S T2) (h6 : qI S 6 = 0) : Out k w ra wa p T0 (v, S) T := by
  obtain ⟨A, hA⟩ : ∃ z, z = msG T2 v := ⟨_, rfl⟩
  obtain ⟨B, hB⟩ : ∃ z, z = msI A 20 (nI p) := ⟨_, rfl⟩
  have aI : A.1 = T2.1 := by rw [hA]
  have aA : A.2.1 = T2.2.1 := by rw [hA]
  have aJ : A.2.2.1 = T2.2.2.1 := by rw [hA]
  have aG : A.2.2.2 = v := by rw [hA]
  have b20 : B.1 20 = nI p := by rw [hB]; exact msI_eq _ _ _
  have bn : ∀ m, m ≠ 20 → B.1 m = A.1 m := fun m hm => by rw [hB]; exact msI_ne _ _ _ _ hm
  have b2 : B.2 = A.2 := by rw [hB]
  have cB : Core k w ra wa S B := by rw [hB, hA]; exact (hc.g v).i20 _
  have e : p_X2_gives T2 v = B := by
    unfold p_X2_gives
    rw [g20, nI_pred, ← hA, ← hB]
  refine ⟨B, st, Rs.one (by rw [h20]; exact piled_pos (by omega)) (by unfold okst; rw [if_pos h27]; exact hk) (by unfold stp; rw [if_pos h27, hg, e]), b20, hpi.trans ⟨by rw [bn 17 (by decide), aI], by rw [b2, aA], fun m _ => by rw [b2, aA, aJ]; exact ⟨rfl, rfl, rfl, rfl, rfl⟩⟩, cB, ⟨hs.1, hs.2.1, by rw [bn 18 (by decide), aI]; exact hs.2.2⟩, ?_, ?_⟩
  · show qI S 6 = B.1 27
    rw [bn 27 (by decide), aI, g27, h6]
  · intro _
    rw [b2, aG]
theorem out_fails {what : Int32} {z : Int64} {S : CS} {st : Nat} (hp : p < 24) (h20 : T.1 20 = nI (p + 1)) (h27 : T.1 27 = 0) (hg : p_X2_go T = p_X2_fails T what) (hk : ok_X2_go T) (hw : ¬ what = 0) (hpi : Pile p T0 T) (hc : Core k w ra wa S T) (hs : SR st S T) : Out k w ra wa p T0 (z, csI S 6 what) T := by
  obtain ⟨A, hA⟩ : ∃ z, z = msI T 27 what := ⟨_, rfl⟩
  obtain ⟨B, hB⟩ : ∃ z, z = msI A 20 (nI p) := ⟨_, rfl⟩
  have a27 : A.1 27 = what := by rw [hA]; exact msI_eq _ _ _
  have an : ∀ m, m ≠ 27 → A.1 m = T.1 m := fun m hm => by rw [hA]; exact msI_ne _ _ _ _ hm
  have a2 : A.2 = T.2 := by rw [hA]
  have b20 : B.1 20 = nI p := by rw [hB]; exact msI_eq _ _ _
  have bn : ∀ m, m ≠ 20 → B.1 m = A.1 m := fun m hm => by rw [hB]; exact msI_ne _ _ _ _ hm
  have b2 : B.2 = A.2 := by rw [hB]
  have cB : Core k w ra wa (csI S 6 what) B := by rw [hB, hA]; exact ((hc.s6 what).i27 _).i20 _
  have e : p_X2_fails T what = B := by
    unfold p_X2_fails
    rw [h20, nI_pred, ← hA, ← hB]
  refine ⟨B, st, Rs.one (by rw [h20]; exact piled_pos (by omega)) (by unfold okst; rw [if_pos h27]; exact hk) (by unfold stp; rw [if_pos h27, hg, e]), b20, hpi.trans ⟨by rw [bn 17 (by decide), an 17 (by decide)], by rw [b2, a2], fun m _ => by rw [b2, a2]; exact ⟨rfl, rfl, rfl, rfl, rfl⟩⟩, cB, ⟨hs.1, (qI_csI_ne S 6 4 what (by decide)).trans hs.2.1, by rw [bn 18 (by decide), an 18 (by decide)]; exact hs.2.2⟩, ?_, ?_⟩
  · show qI (csI S 6 what) 6 = B.1 27
    rw [bn 27 (by decide), a27]
    exact qI_csI_eq _ _ _
  · intro z
    rw [bn 27 (by decide), a27] at z
    exact absurd z hw
theorem out_pop {j n q : Nat} {lo wy : Int32} {z : Int64} {S : CS} {st : Nat} (hp : p < 24) (hj : j < 4000) (ht : Top p j lo wy q T) (h27 : ¬ T.1 27 = 0) (e6 : T.2.1 6 j = nI n) (hn : n < 100) (hq : q < 100) (hng : n = 8 → q = 1 → T.1 27 = -6 ∨ T.1 27 = -7) (hpi : Pile p T0 T) (hc : Core k w ra wa S T) (hs : SR st S T) (h6 : qI S 6 = T.1 27) : Out k w ra wa p T0 (z, S) T := by
  obtain ⟨e20, e21, e22, e23, e24⟩ := ht
  have e20' : T.1 20 - 1 = nI p := by rw [e20, nI_pred]
  obtain ⟨B, hB⟩ : ∃ z, z = msI T 20 (nI p) := ⟨_, rfl⟩
  have b20 : B.1 20 = nI p := by rw [hB]; exact msI_eq _ _ _
  have bn : ∀ m, m ≠ 20 → B.1 m = T.1 m := fun m hm => by rw [hB]; exact msI_ne _ _ _ _ hm
  have b2 : B.2 = T.2 := by rw [hB]
  have cB : Core k w ra wa S B := by rw [hB]; exact hc.i20 _
  have v : vp_in (nI p) 24 := vp_in_nI hp (by omega)
  have vj : vp_in (nI j) 4200 := vp_in_nI (by omega) (by omega)
  have q8 : (nI n = (8 : Int32)) ↔ n = 8 := by
    rw [show (8 : Int32) = nI 8 from rfl, nI_eq (by omega) (by omega)]
  have q1 : (nI q = (1 : Int32)) ↔ q = 1 := by
    rw [show (1 : Int32) = nI 1 from rfl, nI_eq (by omega) (by omega)]
  have e : fall1 T = B := by
    unfold fall1
    rw [e20', cl p (by omega), e21, cl j (by omega), e6, e24, ← hB]
    by_cases c1 : n = 8
    · by_cases c2 : q = 1
      · rcases hng c1 c2 with c3 | c3
        · rw [if_pos (q8.mpr c1), if_pos (q1.mpr c2), if_pos c3]
          rfl
        · rw [if_pos (q8.mpr c1), if_pos (q1.mpr c2), if_neg (by rw [c3]; decide), if_pos c3]
          rfl
      · rw [if_pos (q8.mpr c1), if_neg (fun z => c2 (q1.mp z))]
        rfl
    · rw [if_neg (fun z => c1 (q8.mp z))]
      rfl
  have ek : okf1 T := by
    unfold okf1
    rw [e20', cl p (by omega), e21, cl j (by omega), e6, e24]
    refine ⟨v, vj, fun c1 => ⟨v, fun c2 => ?_, fun _ => trivial⟩, fun _ => trivial⟩
    rcases hng (q8.mp c1) (q1.mp c2) with c3 | c3
    · exact ⟨fun _ => trivial, fun z => absurd c3 z⟩
    · exact ⟨fun _ => trivial, fun _ => ⟨fun _ => trivial, fun z => absurd c3 z⟩⟩
  refine ⟨B, st, Rs.one (by rw [e20]; exact piled_pos (by omega)) (by unfold okst; rw [if_neg h27]; exact ek) (by unfold stp; rw [if_neg h27, e]), b20, hpi.trans ⟨by rw [bn 17 (by decide)], by rw [b2], fun m _ => by rw [b2]; exact ⟨rfl, rfl, rfl, rfl, rfl⟩⟩, cB, ⟨hs.1, hs.2.1, by rw [bn 18 (by decide)]; exact hs.2.2⟩, ?_, ?_⟩
  · show qI S 6 = B.1 27
    rw [bn 27 (by decide)]
    exact h6
  · intro y
    rw [bn 27 (by decide)] at y
    exact absurd y h27
end OU
