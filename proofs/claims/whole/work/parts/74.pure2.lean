/-! making a rule -/
abbrev nr (S : CS) (q : Nat) (kd num : Int32) (row f s t : Option Nat) : CS := csRO (csRO (csRO (csRO (csRI (csRI (csNR S q) 0 q kd) 1 q num) 2 q row) 3 q f) 4 q s) 5 q t
theorem up_ne {α : Type} {f : Nat → α} {k j : Nat} {v : α} (h : j ≠ k) : va_up f k v j = f j := if_neg h
theorem up_eq {α : Type} {f : Nat → α} {k : Nat} {v : α} : va_up f k v k = v := if_pos rfl
theorem upd_ne {f : Nat → Int32} {k j : Nat} {v : Int32} (h : j ≠ k) : upd f k v j = f j := if_neg h
theorem upd_eq {f : Nat → Int32} {k : Nat} {v : Int32} : upd f k v k = v := if_pos rfl
theorem updL_ne {f : Nat → Int64} {k j : Nat} {v : Int64} (h : j ≠ k) : vp_updL f k v j = f j := if_neg h
theorem updL_eq {f : Nat → Int64} {k : Nat} {v : Int64} : vp_updL f k v k = v := if_pos rfl
theorem qR_csI (S : CS) (k : Nat) (v : Int32) : qR (csI S k v) = qR S := rfl
theorem qW_csI (S : CS) (k : Nat) (v : Int32) : qW (csI S k v) = qW S := rfl
theorem qP_csI (S : CS) (k : Nat) (v : Int32) : qP (csI S k v) = qP S := rfl
theorem qL_csI (S : CS) (k : Nat) (v : Int32) : qL (csI S k v) = qL S := rfl
theorem qK_csI (S : CS) (k : Nat) (v : Int32) : qK (csI S k v) = qK S := rfl
theorem qRI_csI (S : CS) (k : Nat) (v : Int32) : qRI (csI S k v) = qRI S := rfl
theorem qRO_csI (S : CS) (k : Nat) (v : Int32) : qRO (csI S k v) = qRO S := rfl
theorem qRJ_csI (S : CS) (k : Nat) (v : Int32) : qRJ (csI S k v) = qRJ S := rfl
theorem qWL_csI (S : CS) (k : Nat) (v : Int32) : qWL (csI S k v) = qWL S := rfl
theorem qWA_csI (S : CS) (k : Nat) (v : Int32) : qWA (csI S k v) = qWA S := rfl
theorem qI_csR (S : CS) (k : Nat) (v : Int32) : qI (csR S k v) = qI S := rfl
theorem qW_csR (S : CS) (k : Nat) (v : Int32) : qW (csR S k v) = qW S := rfl
theorem qP_csR (S : CS) (k : Nat) (v : Int32) : qP (csR S k v) = qP S := rfl
theorem qL_csR (S : CS) (k : Nat) (v : Int32) : qL (csR S k v) = qL S := rfl
theorem qK_csR (S : CS) (k : Nat) (v : Int32) : qK (csR S k v) = qK S := rfl
theorem qRI_csR (S : CS) (k : Nat) (v : Int32) : qRI (csR S k v) = qRI S := rfl
theorem qRO_csR (S : CS) (k : Nat) (v : Int32) : qRO (csR S k v) = qRO S := rfl
theorem qRJ_csR (S : CS) (k : Nat) (v : Int32) : qRJ (csR S k v) = qRJ S := rfl
theorem qWL_csR (S : CS) (k : Nat) (v : Int32) : qWL (csR S k v) = qWL S := rfl
theorem qWA_csR (S : CS) (k : Nat) (v : Int32) : qWA (csR S k v) = qWA S := rfl
theorem qI_csW (S : CS) (k : Nat) (v : Option Nat) : qI (csW S k v) = qI S := rfl
theorem qR_csW (S : CS) (k : Nat) (v : Option Nat) : qR (csW S k v) = qR S := rfl
theorem qP_csW (S : CS) (k : Nat) (v : Option Nat) : qP (csW S k v) = qP S := rfl
theorem qL_csW (S : CS) (k : Nat) (v : Option Nat) : qL (csW S k v) = qL S := rfl
theorem qK_csW (S : CS) (k : Nat) (v : Option Nat) : qK (csW S k v) = qK S := rfl
theorem qRI_csW (S : CS) (k : Nat) (v : Option Nat) : qRI (csW S k v) = qRI S := rfl
theorem qRO_csW (S : CS) (k : Nat) (v : Option Nat) : qRO (csW S k v) = qRO S := rfl
theorem qRJ_csW (S : CS) (k : Nat) (v : Option Nat) : qRJ (csW S k v) = qRJ S := rfl
theorem qWL_csW (S : CS) (k : Nat) (v : Option Nat) : qWL (csW S k v) = qWL S := rfl
theorem qWA_csW (S : CS) (k : Nat) (v : Option Nat) : qWA (csW S k v) = qWA S := rfl
theorem qI_csP (S : CS) (k : Nat) (v : Option Nat) : qI (csP S k v) = qI S := rfl
theorem qR_csP (S : CS) (k : Nat) (v : Option Nat) : qR (csP S k v) = qR S := rfl
theorem qW_csP (S : CS) (k : Nat) (v : Option Nat) : qW (csP S k v) = qW S := rfl
theorem qL_csP (S : CS) (k : Nat) (v : Option Nat) : qL (csP S k v) = qL S := rfl
theorem qK_csP (S : CS) (k : Nat) (v : Option Nat) : qK (csP S k v) = qK S := rfl
theorem qRI_csP (S : CS) (k : Nat) (v : Option Nat) : qRI (csP S k v) = qRI S := rfl
theorem qRO_csP (S : CS) (k : Nat) (v : Option Nat) : qRO (csP S k v) = qRO S := rfl
theorem qRJ_csP (S : CS) (k : Nat) (v : Option Nat) : qRJ (csP S k v) = qRJ S := rfl
theorem qWL_csP (S : CS) (k : Nat) (v : Option Nat) : qWL (csP S k v) = qWL S := rfl
theorem qWA_csP (S : CS) (k : Nat) (v : Option Nat) : qWA (csP S k v) = qWA S := rfl
theorem qI_csRI (S : CS) (k a : Nat) (v : Int32) : qI (csRI S k a v) = qI S := rfl
theorem qR_csRI (S : CS) (k a : Nat) (v : Int32) : qR (csRI S k a v) = qR S := rfl
theorem qW_csRI (S : CS) (k a : Nat) (v : Int32) : qW (csRI S k a v) = qW S := rfl
theorem qP_csRI (S : CS) (k a : Nat) (v : Int32) : qP (csRI S k a v) = qP S := rfl
theorem qL_csRI (S : CS) (k a : Nat) (v : Int32) : qL (csRI S k a v) = qL S := rfl
theorem qK_csRI (S : CS) (k a : Nat) (v : Int32) : qK (csRI S k a v) = qK S := rfl
theorem qRO_csRI (S : CS) (k a : Nat) (v : Int32) : qRO (csRI S k a v) = qRO S := rfl
theorem qRJ_csRI (S : CS) (k a : Nat) (v : Int32) : qRJ (csRI S k a v) = qRJ S := rfl
theorem qWL_csRI (S : CS) (k a : Nat) (v : Int32) : qWL (csRI S k a v) = qWL S := rfl
theorem qWA_csRI (S : CS) (k a : Nat) (v : Int32) : qWA (csRI S k a v) = qWA S := rfl
theorem qI_csRO (S : CS) (k a : Nat) (v : Option Nat) : qI (csRO S k a v) = qI S := rfl
theorem qR_csRO (S : CS) (k a : Nat) (v : Option Nat) : qR (csRO S k a v) = qR S := rfl
theorem qW_csRO (S : CS) (k a : Nat) (v : Option Nat) : qW (csRO S k a v) = qW S := rfl
theorem qP_csRO (S : CS) (k a : Nat) (v : Option Nat) : qP (csRO S k a v) = qP S := rfl
theorem qL_csRO (S : CS) (k a : Nat) (v : Option Nat) : qL (csRO S k a v) = qL S := rfl
theorem qK_csRO (S : CS) (k a : Nat) (v : Option Nat) : qK (csRO S k a v) = qK S := rfl
theorem qRI_csRO (S : CS) (k a : Nat) (v : Option Nat) : qRI (csRO S k a v) = qRI S := rfl
theorem qRJ_csRO (S : CS) (k a : Nat) (v : Option Nat) : qRJ (csRO S k a v) = qRJ S := rfl
theorem qWL_csRO (S : CS) (k a : Nat) (v : Option Nat) : qWL (csRO S k a v) = qWL S := rfl
theorem qWA_csRO (S : CS) (k a : Nat) (v : Option Nat) : qWA (csRO S k a v) = qWA S := rfl
theorem qI_csRJ (S : CS) (a : Nat) (v : Int64) : qI (csRJ S a v) = qI S := rfl
theorem qR_csRJ (S : CS) (a : Nat) (v : Int64) : qR (csRJ S a v) = qR S := rfl
theorem qW_csRJ (S : CS) (a : Nat) (v : Int64) : qW (csRJ S a v) = qW S := rfl
theorem qP_csRJ (S : CS) (a : Nat) (v : Int64) : qP (csRJ S a v) = qP S := rfl
theorem qL_csRJ (S : CS) (a : Nat) (v : Int64) : qL (csRJ S a v) = qL S := rfl
theorem qK_csRJ (S : CS) (a : Nat) (v : Int64) : qK (csRJ S a v) = qK S := rfl
theorem qRI_csRJ (S : CS) (a : Nat) (v : Int64) : qRI (csRJ S a v) = qRI S := rfl
theorem qRO_csRJ (S : CS) (a : Nat) (v : Int64) : qRO (csRJ S a v) = qRO S := rfl
theorem qWL_csRJ (S : CS) (a : Nat) (v : Int64) : qWL (csRJ S a v) = qWL S := rfl
theorem qWA_csRJ (S : CS) (a : Nat) (v : Int64) : qWA (csRJ S a v) = qWA S := rfl
theorem qI_csWA (S : CS) (a k : Nat) (v : Int32) : qI (csWA S a k v) = qI S := rfl
theorem qR_csWA (S : CS) (a k : Nat) (v : Int32) : qR (csWA S a k v) = qR S := rfl
theorem qW_csWA (S : CS) (a k : Nat) (v : Int32) : qW (csWA S a k v) = qW S := rfl
theorem qP_csWA (S : CS) (a k : Nat) (v : Int32) : qP (csWA S a k v) = qP S := rfl
theorem qL_csWA (S : CS) (a k : Nat) (v : Int32) : qL (csWA S a k v) = qL S := rfl
theorem qK_csWA (S : CS) (a k : Nat) (v : Int32) : qK (csWA S a k v) = qK S := rfl
theorem qRI_csWA (S : CS) (a k : Nat) (v : Int32) : qRI (csWA S a k v) = qRI S := rfl
theorem qRO_csWA (S : CS) (a k : Nat) (v : Int32) : qRO (csWA S a k v) = qRO S := rfl
theorem qRJ_csWA (S : CS) (a k : Nat) (v : Int32) : qRJ (csWA S a k v) = qRJ S := rfl
theorem qWL_csWA (S : CS) (a k : Nat) (v : Int32) : qWL (csWA S a k v) = qWL S := rfl
theorem qI_csNR (S : CS) (q : Nat) : qI (csNR S q) = qI S := rfl
theorem qR_csNR (S : CS) (q : Nat) : qR (csNR S q) = qR S := rfl
theorem qW_csNR (S : CS) (q : Nat) : qW (csNR S q) = qW S := rfl
theorem qP_csNR (S : CS) (q : Nat) : qP (csNR S q) = qP S := rfl
theorem qWL_csNR (S : CS) (q : Nat) : qWL (csNR S q) = qWL S := rfl
theorem qWA_csNR (S : CS) (q : Nat) : qWA (csNR S q) = qWA S := rfl
theorem qI_csNW (S : CS) (q n : Nat) : qI (csNW S q n) = qI S := rfl
theorem qR_csNW (S : CS) (q n : Nat) : qR (csNW S q n) = qR S := rfl
theorem qW_csNW (S : CS) (q n : Nat) : qW (csNW S q n) = qW S := rfl
theorem qP_csNW (S : CS) (q n : Nat) : qP (csNW S q n) = qP S := rfl
theorem qRI_csNW (S : CS) (q n : Nat) : qRI (csNW S q n) = qRI S := rfl
theorem qRO_csNW (S : CS) (q n : Nat) : qRO (csNW S q n) = qRO S := rfl
theorem qRJ_csNW (S : CS) (q n : Nat) : qRJ (csNW S q n) = qRJ S := rfl
theorem nr_qI (S : CS) (q : Nat) (kd num : Int32) (row f s t : Option Nat) : qI (nr S q kd num row f s t) = qI S := (qI_csRO _ 5 q t).trans ((qI_csRO _ 4 q s).trans ((qI_csRO _ 3 q f).trans ((qI_csRO _ 2 q row).trans ((qI_csRI _ 1 q num).trans ((qI_csRI _ 0 q kd).trans (qI_csNR S q))))))
theorem nr_qR (S : CS) (q : Nat) (kd num : Int32) (row f s t : Option Nat) : qR (nr S q kd num row f s t) = qR S := (qR_csRO _ 5 q t).trans ((qR_csRO _ 4 q s).trans ((qR_csRO _ 3 q f).trans ((qR_csRO _ 2 q row).trans ((qR_csRI _ 1 q num).trans ((qR_csRI _ 0 q kd).trans (qR_csNR S q))))))
theorem nr_qW (S : CS) (q : Nat) (kd num : Int32) (row f s t : Option Nat) : qW (nr S q kd num row f s t) = qW S := (qW_csRO _ 5 q t).trans ((qW_csRO _ 4 q s).trans ((qW_csRO _ 3 q f).trans ((qW_csRO _ 2 q row).trans ((qW_csRI _ 1 q num).trans ((qW_csRI _ 0 q kd).trans (qW_csNR S q))))))
theorem nr_qP (S : CS) (q : Nat) (kd num : Int32) (row f s t : Option Nat) : qP (nr S q kd num row f s t) = qP S := (qP_csRO _ 5 q t).trans ((qP_csRO _ 4 q s).trans ((qP_csRO _ 3 q f).trans ((qP_csRO _ 2 q row).trans ((qP_csRI _ 1 q num).trans ((qP_csRI _ 0 q kd).trans (qP_csNR S q))))))
theorem nr_qWL (S : CS) (q : Nat) (kd num : Int32) (row f s t : Option Nat) : qWL (nr S q kd num row f s t) = qWL S := (qWL_csRO _ 5 q t).trans ((qWL_csRO _ 4 q s).trans ((qWL_csRO _ 3 q f).trans ((qWL_csRO _ 2 q row).trans ((qWL_csRI _ 1 q num).trans ((qWL_csRI _ 0 q kd).trans (qWL_csNR S q))))))
theorem nr_qWA (S : CS) (q : Nat) (kd num : Int32) (row f s t : Option Nat) : qWA (nr S q kd num row f s t) = qWA S := (qWA_csRO _ 5 q t).trans ((qWA_csRO _ 4 q s).trans ((qWA_csRO _ 3 q f).trans ((qWA_csRO _ 2 q row).trans ((qWA_csRI _ 1 q num).trans ((qWA_csRI _ 0 q kd).trans (qWA_csNR S q))))))
theorem nr_qL (S : CS) (q : Nat) (kd num : Int32) (row f s t : Option Nat) : qL (nr S q kd num row f s t) = qL S ++ [q] := (qL_csRO _ 5 q t).trans ((qL_csRO _ 4 q s).trans ((qL_csRO _ 3 q f).trans ((qL_csRO _ 2 q row).trans ((qL_csRI _ 1 q num).trans (qL_csRI (csNR S q) 0 q kd)))))
theorem nr_qK (S : CS) (q : Nat) (kd num : Int32) (row f s t : Option Nat) : qK (nr S q kd num row f s t) = va_up (qK S) q true := (qK_csRO _ 5 q t).trans ((qK_csRO _ 4 q s).trans ((qK_csRO _ 3 q f).trans ((qK_csRO _ 2 q row).trans ((qK_csRI _ 1 q num).trans (qK_csRI (csNR S q) 0 q kd)))))
theorem msA_ne (S : MS) (j i m : Nat) (v : Int32) (h : m ≠ j) : (msA S j i v).2.1 m = S.2.1 m := up_ne h
theorem msA_eq (S : MS) (j i : Nat) (v : Int32) : (msA S j i v).2.1 j = upd (S.2.1 j) i v := up_eq
theorem msI_eq (S : MS) (j : Nat) (v : Int32) : (msI S j v).1 j = v := upd_eq
theorem msI_ne (S : MS) (j m : Nat) (v : Int32) (h : m ≠ j) : (msI S j v).1 m = S.1 m := upd_ne h
theorem qI_csI_eq (S : CS) (j : Nat) (v : Int32) : qI (csI S j v) j = v := upd_eq
theorem qI_csI_ne (S : CS) (j m : Nat) (v : Int32) (h : m ≠ j) : qI (csI S j v) m = qI S m := upd_ne h
theorem msJ_ne (S : MS) (j i m : Nat) (v : Int64) (h : m ≠ j) : (msJ S j i v).2.2.1 m = S.2.2.1 m := up_ne h
theorem msJ_eq (S : MS) (j i : Nat) (v : Int64) : (msJ S j i v).2.2.1 j = vp_updL (S.2.2.1 j) i v := up_eq
theorem nr_RI {S : CS} {q a : Nat} {kd num : Int32} {row f s t : Option Nat} (h : a ≠ q) (m : Nat) : qRI (nr S q kd num row f s t) m a = qRI S m a := by
  show va_up (va_up (fun k => va_up (qRI S k) q 0) 0 (va_up (va_up (qRI S 0) q 0) q kd)) 1 (va_up (va_up (fun k => va_up (qRI S k) q 0) 0 (va_up (va_up (qRI S 0) q 0) q kd) 1) q num) m a = qRI S m a
  by_cases h1 : m = 1
  · subst h1
    rw [up_eq, up_ne h, up_ne (by decide), up_ne h]
  · rw [up_ne h1]
    by_cases h0 : m = 0
    · subst h0
      rw [up_eq, up_ne h, up_ne h]
    · rw [up_ne h0, up_ne h]
theorem ro_ne {g : Nat → Nat → Option Nat} {q a j : Nat} {v : Option Nat} (h : a ≠ q) (m : Nat) : va_up g j (va_up (g j) q v) m a = g m a := by
  by_cases h1 : m = j
  · subst h1
    rw [up_eq, up_ne h]
  · rw [up_ne h1]
theorem nr_RO {S : CS} {q a : Nat} {kd num : Int32} {row f s t : Option Nat} (h : a ≠ q) (m : Nat) : qRO (nr S q kd num row f s t) m a = qRO S m a := by
  have e0 : ∀ m, qRO (csNR S q) m a = qRO S m a := fun m => up_ne h
  refine (ro_ne h m).trans ((ro_ne h m).trans ((ro_ne h m).trans ((ro_ne h m).trans (e0 m))))
theorem nr_RJ {S : CS} {q a : Nat} {kd num : Int32} {row f s t : Option Nat} (h : a ≠ q) : qRJ (nr S q kd num row f s t) a = qRJ S a := up_ne h
theorem nr_K {S : CS} {q a : Nat} {kd num : Int32} {row f s t : Option Nat} (h : a ≠ q) : qK (nr S q kd num row f s t) a = qK S a := by
  rw [nr_qK]
  exact up_ne h
theorem nr_q {S : CS} {q : Nat} {kd num : Int32} {row f s t : Option Nat} : qRI (nr S q kd num row f s t) 0 q = kd ∧ qRI (nr S q kd num row f s t) 1 q = num ∧ qRI (nr S q kd num row f s t) 6 q = 0 ∧ qRI (nr S q kd num row f s t) 7 q = 0 ∧ qRO (nr S q kd num row f s t) 2 q = row ∧ qRO (nr S q kd num row f s t) 3 q = f ∧ qRO (nr S q kd num row f s t) 4 q = s ∧ qRO (nr S q kd num row f s t) 5 q = t ∧ qK (nr S q kd num row f s t) q = true := by
  refine ⟨?_, ?_, ?_, ?_, ?_, ?_, ?_, ?_, ?_⟩ <;> simp [va_up, qRI, qRO, qK]
theorem sim_make_abs {k w : Nat} {ra wa : Nat → Nat} {S S' : CS} {T T' : MS} (h : Sim k w ra wa S T) {q : Nat} (hq : q ∉ qL S) {i : Nat} {n : Nat} (hn : n ≤ 12) {num a b c : Int32} {row f s t : Option Nat} {N : Int64}
    (c1 : n ≠ 2 → n ≠ 9 → N = num.toInt64) (c2 : n = 2 → a = num ∧ vp_in num 8) (c3 : n = 9 → a = num ∧ vp_in num 16) (c4 : n = 3 → ∃ j, j < w ∧ a = nI j ∧ row = some (wa j)) (c5 : 4 ≤ n → n ≠ 9 → ∃ j, j < k ∧ a = nI j ∧ f = some (ra j)) (c6 : n = 4 ∨ n = 5 ∨ n = 7 ∨ n = 8 → ∃ j, j < k ∧ b = nI j ∧ s = some (ra j)) (c7 : n = 5 → ∃ j, j < k ∧ c = nI j ∧ t = some (ra j))
    (E1 : qI S' 3 = nI (k + 1) ∧ qI S' 4 = qI S 4 ∧ qI S' 5 = qI S 5 ∧ qI S' 6 = qI S 6) (E2 : qR S' = qR S) (E3 : qW S' = qW S) (E4 : qP S' = va_up (qP S) i (some q)) (E5 : qL S' = qL S ++ [q]) (E6 : ∀ z, z ≠ q → qK S' z = qK S z) (E7 : ∀ z, z ≠ q → ∀ m, qRI S' m z = qRI S m z) (E8 : ∀ z, z ≠ q → ∀ m, qRO S' m z = qRO S m z) (E9 : ∀ z, z ≠ q → qRJ S' z = qRJ S z) (E10 : qWL S' = qWL S) (E11 : qWA S' = qWA S)
    (Q : qRI S' 0 q = nI n ∧ qRI S' 1 q = num ∧ qRI S' 6 q = 0 ∧ qRI S' 7 q = 0 ∧ qRO S' 2 q = row ∧ qRO S' 3 q = f ∧ qRO S' 4 q = s ∧ qRO S' 5 q = t ∧ qK S' q = true)
    (F1 : T'.1 5 = nI (k + 1) ∧ T'.1 4 = T.1 4 ∧ T'.1 18 = T.1 18 ∧ T'.1 19 = T.1 19 ∧ T'.1 17 = T.1 17) (F2 : T'.2.1 0 = T.2.1 0 ∧ T'.2.1 1 = T.2.1 1 ∧ T'.2.1 2 = T.2.1 2 ∧ T'.2.1 3 = T.2.1 3 ∧ T'.2.1 13 = T.2.1 13 ∧ T'.2.1 14 = T.2.1 14 ∧ T'.2.2.1 15 = T.2.2.1 15)
    (G6 : T'.2.1 6 = upd (T.2.1 6) k (nI n)) (G7 : T'.2.1 7 = upd (T.2.1 7) k a) (G8 : T'.2.1 8 = upd (T.2.1 8) k b) (G9 : T'.2.1 9 = upd (T.2.1 9) k c) (G10 : T'.2.2.1 10 = vp_updL (T.2.2.1 10) k N) (G11 : T'.2.1 11 = upd (T.2.1 11) k 0) (G12 : T'.2.1 12 = upd (T.2.1 12) k 0) (G16 : T'.2.1 16 = upd (T.2.1 16) i (nI (k + 1))) : Sim (k + 1) w (va_up ra k q) wa S' T' := by
  obtain ⟨⟨s1, s1', s1''⟩, s2, s3, s4, s5, s6, s7, s8, s9⟩ := h
  have hrq : ∀ j, j < k → ra j ≠ q := fun j hj e => hq (e ▸ (s7 j hj).1)
  have hwq : ∀ j, j < w → wa j ≠ q := fun j hj e => hq (e ▸ (s5 j hj).1)
  have hr : ∀ j, j < k → va_up ra k q j = ra j := fun j hj => up_ne (by omega)
  obtain ⟨n1, n2, n3, n4, n5, n6, n7, n8, n9⟩ := Q
  obtain ⟨f0, f1, f2, f3, f13, f14, f15⟩ := F2
  refine ⟨⟨F1.1, E1.1, F1.2.1.trans s1''⟩, ?_, ?_, ?_, ?_, ?_, ?_, ?_, s9⟩
  · rw [E1.2.1, E1.2.2.1, E1.2.2.2, F1.2.2.1, F1.2.2.2.1, F1.2.2.2.2]
    exact s2
  · rw [E2, f0]
    exact s3
  · rw [E3, f1]
    exact s4
  · intro j hj
    obtain ⟨g1, g2, g3⟩ := s5 j hj
    unfold RowR
    rw [E5, E6 _ (hwq j hj), E10, E11, f2, f3]
    exact ⟨List.mem_append_left _ g1, g2, g3⟩
  · intro z hz
    unfold PlaceR
    rw [E4, G16]
    by_cases hzi : z = i
    · subst hzi
      rw [up_eq, upd_eq]
      exact Or.inr ⟨k, by omega, by rw [up_eq], rfl⟩
    · rw [up_ne hzi, upd_ne hzi]
      rcases s6 z hz with h1 | ⟨j, hj, h1, h2⟩
      · exact Or.inl h1
      · exact Or.inr ⟨j, by omega, by rw [hr j hj]; exact h1, h2⟩
  · intro j hj
    by_cases hjk : j = k
    · subst hjk
      unfold RuleR
      rw [up_eq, E5, n9, n1, n2, n3, n4, n5, n6, n7, n8, G6, G7, G8, G9, G10, G11, G12, upd_eq, upd_eq, upd_eq, upd_eq, upd_eq, upd_eq, updL_eq]
      refine ⟨List.mem_append_right _ (List.mem_singleton.mpr rfl), rfl, n, hn, rfl, rfl, c1, c2, c3, c4, ?_, ?_, ?_, rfl, rfl, fun z => absurd rfl z⟩
      · intro x y
        obtain ⟨z, z1, z2, z3⟩ := c5 x y
        exact ⟨z, by omega, z2, by rw [hr z z1]; exact z3⟩
      · intro x
        obtain ⟨z, z1, z2, z3⟩ := c6 x
        exact ⟨z, by omega, z2, by rw [hr z z1]; exact z3⟩
      · intro x
        obtain ⟨z, z1, z2, z3⟩ := c7 x
        exact ⟨z, by omega, z2, by rw [hr z z1]; exact z3⟩
    · have hjk : j < k := by omega
      have hne : j ≠ k := by omega
      have hq2 := hrq j hjk
      obtain ⟨g1, g2, n', hn', e6, e0, d1, d2, d3, d4, d5, d6, d7, d8, d9, d10⟩ := s7 j hjk
      unfold RuleR
      rw [hr j hjk, E5, E6 _ hq2, E7 _ hq2, E7 _ hq2, E7 _ hq2, E7 _ hq2, E7 _ hq2, E7 _ hq2, E8 _ hq2, E8 _ hq2, E8 _ hq2, E8 _ hq2, E9 _ hq2, f13, f14, f15, G6, G7, G8, G9, G10, G11, G12, upd_ne hne, upd_ne hne, upd_ne hne, upd_ne hne, upd_ne hne, upd_ne hne, updL_ne hne]
      refine ⟨List.mem_append_left _ g1, g2, n', hn', e6, e0, d1, d2, d3, d4, ?_, ?_, ?_, d8, d9, d10⟩
      · intro x y
        obtain ⟨z, z1, z2, z3⟩ := d5 x y
        exact ⟨z, by omega, z2, by rw [hr z z1]; exact z3⟩
      · intro x
        obtain ⟨z, z1, z2, z3⟩ := d6 x
        exact ⟨z, by omega, z2, by rw [hr z z1]; exact z3⟩
      · intro x
        obtain ⟨z, z1, z2, z3⟩ := d7 x
        exact ⟨z, by omega, z2, by rw [hr z z1]; exact z3⟩
  · intro z y hz hy hzy
    by_cases h1 : z = k <;> by_cases h2 : y = k
    · omega
    · rw [h1, up_eq, hr y (by omega)] at hzy
      exact absurd hzy.symm (hrq y (by omega))
    · rw [h2, up_eq, hr z (by omega)] at hzy
      exact absurd hzy (hrq z (by omega))
    · rw [hr z (by omega), hr y (by omega)] at hzy
      exact s8 z y (by omega) (by omega) hzy
theorem sim_make {k w : Nat} {ra wa : Nat → Nat} {S : CS} {T : MS} (h : Sim k w ra wa S T) (hk : k < 4000) {q : Nat} (hq : q ∉ qL S) {i : Nat} (hi : i < 16) {n : Nat} (hn : n ≤ 12) {num a b c : Int32} {row f s t : Option Nat} {N : Int64}
    (c1 : n ≠ 2 → n ≠ 9 → N = num.toInt64) (c2 : n = 2 → a = num ∧ vp_in num 8) (c3 : n = 9 → a = num ∧ vp_in num 16) (c4 : n = 3 → ∃ j, j < w ∧ a = nI j ∧ row = some (wa j)) (c5 : 4 ≤ n → n ≠ 9 → ∃ j, j < k ∧ a = nI j ∧ f = some (ra j)) (c6 : n = 4 ∨ n = 5 ∨ n = 7 ∨ n = 8 → ∃ j, j < k ∧ b = nI j ∧ s = some (ra j)) (c7 : n = 5 → ∃ j, j < k ∧ c = nI j ∧ t = some (ra j)) :
    (p_X1_stand (nr S q (nI n) num row f s t) (nI i) q).1 = (p_X2_make T (nI i) (nI n) a b c N).1 ∧ Sim (k + 1) w (va_up ra k q) wa (p_X1_stand (nr S q (nI n) num row f s t) (nI i) q).2 (p_X2_make T (nI i) (nI n) a b c N).2 := by
  have s1 := h.1.1
  have s1' := h.1.2.1
  have eI : qI (nr S q (nI n) num row f s t) 3 = nI k := s1'
  have e1 : (p_X1_stand (nr S q (nI n) num row f s t) (nI i) q) = (nI (k + 1), csI (csP (nr S q (nI n) num row f s t) i (some q)) 3 (nI (k + 1))) := by
    unfold p_X1_stand
    rw [eI, cl i (by omega), nI_1]
  have e2 : p_X2_make T (nI i) (nI n) a b c N = (nI (k + 1), msI (msA (msA (msA (msJ (msA (msA (msA (msA T 6 k (nI n)) 7 k a) 8 k b) 9 k c) 10 k N) 11 k 0) 12 k 0) 16 i (nI (k + 1))) 5 (nI (k + 1))) := by
    unfold p_X2_make
    rw [s1, cl i (by omega), cl k (by omega), nI_1]
  rw [e1, e2]
  refine ⟨rfl, ?_⟩
  obtain ⟨T0, hT0⟩ : ∃ z, z = msA T 6 k (nI n) := ⟨_, rfl⟩
  obtain ⟨T1, hT1⟩ : ∃ z, z = msA T0 7 k a := ⟨_, rfl⟩
  obtain ⟨T2, hT2⟩ : ∃ z, z = msA T1 8 k b := ⟨_, rfl⟩
  obtain ⟨T3, hT3⟩ : ∃ z, z = msA T2 9 k c := ⟨_, rfl⟩
  obtain ⟨T4, hT4⟩ : ∃ z, z = msJ T3 10 k N := ⟨_, rfl⟩
  obtain ⟨T5, hT5⟩ : ∃ z, z = msA T4 11 k 0 := ⟨_, rfl⟩
  obtain ⟨T6, hT6⟩ : ∃ z, z = msA T5 12 k 0 := ⟨_, rfl⟩
  obtain ⟨T7, hT7⟩ : ∃ z, z = msA T6 16 i (nI (k + 1)) := ⟨_, rfl⟩
  obtain ⟨T8, hT8⟩ : ∃ z, z = msI T7 5  (nI (k + 1)) := ⟨_, rfl⟩
  have eT : msI (msA (msA (msA (msJ (msA (msA (msA (msA T 6 k (nI n)) 7 k a) 8 k b) 9 k c) 10 k N) 11 k 0) 12 k 0) 16 i (nI (k + 1))) 5 (nI (k + 1)) = T8 := by
    rw [hT8, hT7, hT6, hT5, hT4, hT3, hT2, hT1, hT0]
  show Sim (k + 1) w (va_up ra k q) wa _ (msI (msA (msA (msA (msJ (msA (msA (msA (msA T 6 k (nI n)) 7 k a) 8 k b) 9 k c) 10 k N) 11 k 0) 12 k 0) 16 i (nI (k + 1))) 5 (nI (k + 1)))
  rw [eT]
  have N0 : ∀ m, m ≠ 6 → T0.2.1 m = T.2.1 m := fun m hm => by rw [hT0]; exact up_ne hm
  have A0 : T0.2.1 6 = upd (T.2.1 6) k (nI n) := by rw [hT0]; exact msA_eq _ _ _ _
  have J0 : T0.2.2 = T.2.2 := by rw [hT0]
  have I0 : T0.1 = T.1 := by rw [hT0]
  have N1 : ∀ m, m ≠ 7 → T1.2.1 m = T0.2.1 m := fun m hm => by rw [hT1]; exact up_ne hm
  have A1 : T1.2.1 7 = upd (T0.2.1 7) k a := by rw [hT1]; exact msA_eq _ _ _ _
  have J1 : T1.2.2 = T0.2.2 := by rw [hT1]
  have I1 : T1.1 = T0.1 := by rw [hT1]
  have N2 : ∀ m, m ≠ 8 → T2.2.1 m = T1.2.1 m := fun m hm => by rw [hT2]; exact up_ne hm
  have A2 : T2.2.1 8 = upd (T1.2.1 8) k b := by rw [hT2]; exact msA_eq _ _ _ _
  have J2 : T2.2.2 = T1.2.2 := by rw [hT2]
  have I2 : T2.1 = T1.1 := by rw [hT2]
  have N3 : ∀ m, m ≠ 9 → T3.2.1 m = T2.2.1 m := fun m hm => by rw [hT3]; exact up_ne hm
  have A3 : T3.2.1 9 = upd (T2.2.1 9) k c := by rw [hT3]; exact msA_eq _ _ _ _
  have J3 : T3.2.2 = T2.2.2 := by rw [hT3]
  have I3 : T3.1 = T2.1 := by rw [hT3]
  have B4 : T4.2.1 = T3.2.1 := by rw [hT4]
  have M4 : ∀ m, m ≠ 10 → T4.2.2.1 m = T3.2.2.1 m := fun m hm => by rw [hT4]; exact up_ne hm
  have A4 : T4.2.2.1 10 = vp_updL (T3.2.2.1 10) k N := by rw [hT4]; exact msJ_eq _ _ _ _
  have I4 : T4.1 = T3.1 := by rw [hT4]
  have N5 : ∀ m, m ≠ 11 → T5.2.1 m = T4.2.1 m := fun m hm => by rw [hT5]; exact up_ne hm
  have A5 : T5.2.1 11 = upd (T4.2.1 11) k 0 := by rw [hT5]; exact msA_eq _ _ _ _
  have J5 : T5.2.2 = T4.2.2 := by rw [hT5]
  have I5 : T5.1 = T4.1 := by rw [hT5]
  have N6 : ∀ m, m ≠ 12 → T6.2.1 m = T5.2.1 m := fun m hm => by rw [hT6]; exact up_ne hm
  have A6 : T6.2.1 12 = upd (T5.2.1 12) k 0 := by rw [hT6]; exact msA_eq _ _ _ _
  have J6 : T6.2.2 = T5.2.2 := by rw [hT6]
  have I6 : T6.1 = T5.1 := by rw [hT6]
  have N7 : ∀ m, m ≠ 16 → T7.2.1 m = T6.2.1 m := fun m hm => by rw [hT7]; exact up_ne hm
  have A7 : T7.2.1 16 = upd (T6.2.1 16) i (nI (k + 1)) := by rw [hT7]; exact msA_eq _ _ _ _
  have J7 : T7.2.2 = T6.2.2 := by rw [hT7]
  have I7 : T7.1 = T6.1 := by rw [hT7]
  have B8 : T8.2 = T7.2 := by rw [hT8]
  have I8 : ∀ m, m ≠ 5 → T8.1 m = T7.1 m := fun m hm => by rw [hT8]; exact upd_ne hm
  have I8e : T8.1 5 = nI (k + 1) := by rw [hT8]; exact msI_eq _ _ _
  obtain ⟨X, hX⟩ : ∃ z, z = nr S q (nI n) num row f s t := ⟨_, rfl⟩
  rw [← hX]
  have x_qI : qI X = qI S := by rw [hX, nr_qI]
  have x_qR : qR X = qR S := by rw [hX, nr_qR]
  have x_qW : qW X = qW S := by rw [hX, nr_qW]
  have x_qP : qP X = qP S := by rw [hX, nr_qP]
  have x_qWL : qWL X = qWL S := by rw [hX, nr_qWL]
  have x_qWA : qWA X = qWA S := by rw [hX, nr_qWA]
  have x_qL : qL X = qL S ++ [q] := by rw [hX, nr_qL]
  have x_K : ∀ z, z ≠ q → qK X z = qK S z := fun z hz => by rw [hX]; exact nr_K hz
  have x_RI : ∀ z, z ≠ q → ∀ m, qRI X m z = qRI S m z := fun z hz m => by rw [hX]; exact nr_RI hz m
  have x_RO : ∀ z, z ≠ q → ∀ m, qRO X m z = qRO S m z := fun z hz m => by rw [hX]; exact nr_RO hz m
  have x_RJ : ∀ z, z ≠ q → qRJ X z = qRJ S z := fun z hz => by rw [hX]; exact nr_RJ hz
  have x_q := nr_q (S := S) (q := q) (kd := nI n) (num := num) (row := row) (f := f) (s := s) (t := t)
  rw [← hX] at x_q
  show Sim (k + 1) w (va_up ra k q) wa (csI (csP X i (some q)) 3 (nI (k + 1))) T8
  obtain ⟨Y, hY⟩ : ∃ z, z = csP X i (some q) := ⟨_, rfl⟩
  rw [← hY]
  obtain ⟨Z, hZ⟩ : ∃ z, z = csI Y 3 (nI (k + 1)) := ⟨_, rfl⟩
  rw [← hZ]
  have z_qR : qR Z = qR X := by rw [hZ, qR_csI, hY, qR_csP]
  have z_qW : qW Z = qW X := by rw [hZ, qW_csI, hY, qW_csP]
  have z_qP : qP Z = va_up (qP X) i (some q) := by rw [hZ, qP_csI, hY]
  have z_qL : qL Z = qL X := by rw [hZ, qL_csI, hY, qL_csP]
  have z_qK : qK Z = qK X := by rw [hZ, qK_csI, hY, qK_csP]
  have z_qRI : qRI Z = qRI X := by rw [hZ, qRI_csI, hY, qRI_csP]
  have z_qRO : qRO Z = qRO X := by rw [hZ, qRO_csI, hY, qRO_csP]
  have z_qRJ : qRJ Z = qRJ X := by rw [hZ, qRJ_csI, hY, qRJ_csP]
  have z_qWL : qWL Z = qWL X := by rw [hZ, qWL_csI, hY, qWL_csP]
  have z_qWA : qWA Z = qWA X := by rw [hZ, qWA_csI, hY, qWA_csP]
  have z_I : ∀ m, m ≠ 3 → qI Z m = qI X m := fun m hm => by rw [hZ, ← qI_csP X i (some q), ← hY]; exact upd_ne hm
  have z_I3 : qI Z 3 = nI (k + 1) := by rw [hZ]; exact qI_csI_eq _ _ _
  refine sim_make_abs h hq hn c1 c2 c3 c4 c5 c6 c7 (i := i) ⟨z_I3, by rw [z_I 4 (by decide), x_qI], by rw [z_I 5 (by decide), x_qI], by rw [z_I 6 (by decide), x_qI]⟩ (by rw [z_qR, x_qR]) (by rw [z_qW, x_qW]) (by rw [z_qP, x_qP]) (by rw [z_qL, x_qL]) (fun z hz => by rw [z_qK]; exact x_K z hz) (fun z hz m => by rw [z_qRI]; exact x_RI z hz m) (fun z hz m => by rw [z_qRO]; exact x_RO z hz m) (fun z hz => by rw [z_qRJ]; exact x_RJ z hz) (by rw [z_qWL, x_qWL]) (by rw [z_qWA, x_qWA]) (by rw [z_qRI, z_qRO, z_qK]; exact x_q) ⟨I8e, (by rw [I8 4 (by decide), I7, I6, I5, I4, I3, I2, I1, I0]), (by rw [I8 18 (by decide), I7, I6, I5, I4, I3, I2, I1, I0]), (by rw [I8 19 (by decide), I7, I6, I5, I4, I3, I2, I1, I0]), (by rw [I8 17 (by decide), I7, I6, I5, I4, I3, I2, I1, I0])⟩ ⟨(by rw [B8, N7 0 (by decide), N6 0 (by decide), N5 0 (by decide), B4, N3 0 (by decide), N2 0 (by decide), N1 0 (by decide), N0 0 (by decide)]), (by rw [B8, N7 1 (by decide), N6 1 (by decide), N5 1 (by decide), B4, N3 1 (by decide), N2 1 (by decide), N1 1 (by decide), N0 1 (by decide)]), (by rw [B8, N7 2 (by decide), N6 2 (by decide), N5 2 (by decide), B4, N3 2 (by decide), N2 2 (by decide), N1 2 (by decide), N0 2 (by decide)]), (by rw [B8, N7 3 (by decide), N6 3 (by decide), N5 3 (by decide), B4, N3 3 (by decide), N2 3 (by decide), N1 3 (by decide), N0 3 (by decide)]), (by rw [B8, N7 13 (by decide), N6 13 (by decide), N5 13 (by decide), B4, N3 13 (by decide), N2 13 (by decide), N1 13 (by decide), N0 13 (by decide)]), (by rw [B8, N7 14 (by decide), N6 14 (by decide), N5 14 (by decide), B4, N3 14 (by decide), N2 14 (by decide), N1 14 (by decide), N0 14 (by decide)]), (by rw [B8, J7, J6, J5, M4 15 (by decide), J3, J2, J1, J0])⟩ (by rw [B8, N7 6 (by decide), N6 6 (by decide), N5 6 (by decide), B4, N3 6 (by decide), N2 6 (by decide), N1 6 (by decide), A0]) (by rw [B8, N7 7 (by decide), N6 7 (by decide), N5 7 (by decide), B4, N3 7 (by decide), N2 7 (by decide), A1, N0 7 (by decide)]) (by rw [B8, N7 8 (by decide), N6 8 (by decide), N5 8 (by decide), B4, N3 8 (by decide), A2, N1 8 (by decide), N0 8 (by decide)]) (by rw [B8, N7 9 (by decide), N6 9 (by decide), N5 9 (by decide), B4, A3, N2 9 (by decide), N1 9 (by decide), N0 9 (by decide)]) (by rw [B8, J7, J6, J5, A4, J3, J2, J1, J0]) (by rw [B8, N7 11 (by decide), N6 11 (by decide), A5, B4, N3 11 (by decide), N2 11 (by decide), N1 11 (by decide), N0 11 (by decide)]) (by rw [B8, N7 12 (by decide), A6, N5 12 (by decide), B4, N3 12 (by decide), N2 12 (by decide), N1 12 (by decide), N0 12 (by decide)]) (by rw [B8, A7, N6 16 (by decide), N5 16 (by decide), B4, N3 16 (by decide), N2 16 (by decide), N1 16 (by decide), N0 16 (by decide)])
theorem okm_make {k w : Nat} {ra wa : Nat → Nat} {S : CS} {T : MS} (h : Sim k w ra wa S T) (hk : k < 4000) {i : Nat} (hi : i < 16) {n a b c : Int32} {N : Int64} : ok_X2_make T (nI i) n a b c N := by
  have e : vp_in (T.1 5) 4200 := by rw [h.1.1]; exact vp_in_nI (by omega) (by omega)
  exact ⟨e, e, e, e, e, e, e, vp_in_nI hi (by omega), trivial⟩
theorem okc_init {S : CS} {q : Nat} {a b : Int32} {o : Option Nat} : ok_X0_init (csNR S q) q a b o := by
  have e : q ∈ qL (csNR S q) ∧ qK (csNR S q) q = true := ⟨List.mem_append_right _ (List.mem_singleton.mpr rfl), up_eq⟩
  exact ⟨e, e, e, e, e, e, trivial⟩
theorem okc_init_ {S : CS} {q : Nat} {a b : Int32} {x y z : Nat} : ok_X0_init_ (csNR S q) q a b x y z := by
  have e : q ∈ qL (csNR S q) ∧ qK (csNR S q) q = true := ⟨List.mem_append_right _ (List.mem_singleton.mpr rfl), up_eq⟩
  exact ⟨e, e, e, e, e, e, trivial⟩
theorem okc_stand {S : CS} {q : Nat} {kd num : Int32} {row f s t : Option Nat} {i : Nat} (hi : i < 16) : ok_X1_stand (nr S q kd num row f s t) (nI i) q :=
  ⟨vp_in_nI hi (by omega), ⟨List.mem_append_right _ (List.mem_singleton.mpr rfl), up_eq⟩, trivial⟩
/-! flat, rated, live, booked, called -/
theorem okc_flat {c : Nat} {S : CS} {T : MS} (h : SimN c S T) (hc : c < 512) (a1 a2 : Int32) : ok_X1_flat S a1 a2 := by
  unfold ok_X1_flat
  rcases rngP a1 with ⟨h1, h2⟩ | ⟨i, hi, rfl, h1, h2⟩
  · exact ⟨fun _ => trivial, fun z => absurd h1 z⟩
  exact ⟨fun _ => trivial, fun _ q hq => ⟨okc_init, okc_stand hi, trivial⟩⟩
theorem okm_flat {c : Nat} {S : CS} {T : MS} (h : SimN c S T) (hc : c < 512) (a1 a2 : Int32) : ok_X2_flat T a1 a2 := by
  obtain ⟨k, w, ra, wa, hk, hw, hs⟩ := h
  unfold ok_X2_flat
  rcases rngP a1 with ⟨h1, h2⟩ | ⟨i, hi, rfl, h1, h2⟩
  · exact ⟨fun _ => trivial, fun z => absurd h2 z⟩
  exact ⟨fun _ => trivial, fun _ => ⟨okm_make hs (by omega) hi, trivial⟩⟩
theorem L_flat {c : Nat} {S : CS} {T : MS} (h : SimN c S T) (hc : c < 512) (a1 a2 : Int32) {r1 r2 : Int32} {u1 : CS} {u2 : MS} (h1 : s_X1_flat S a1 a2 r1 u1) (h2 : (r2, u2) = p_X2_flat T a1 a2) : r1 = r2 ∧ SimN (c + 1) u1 u2 := by
  unfold s_X1_flat at h1
  unfold p_X2_flat at h2
  rcases rngP a1 with ⟨e1, e2⟩ | ⟨i, hi, rfl, e1, e2⟩
  · rw [if_pos e1] at h1
    rw [if_pos e2] at h2
    obtain ⟨rfl, rfl⟩ := h1
    obtain ⟨rfl, rfl⟩ := pair_inj h2
    exact ⟨rfl, h.up⟩
  rw [if_neg e1] at h1
  rw [if_neg e2] at h2
  obtain ⟨q, hq, rfl, rfl⟩ := h1
  obtain ⟨rfl, rfl⟩ := pair_inj h2
  obtain ⟨k, w, ra, wa, hk, hw, hs⟩ := h
  have m := sim_make hs (by omega) hq hi (n := 0) (by omega) (num := a2) (a := 0) (b := 0) (c := 0) (row := none) (f := none) (s := none) (t := none) (N := a2.toInt64) (fun _ _ => rfl) (fun z => by omega) (fun z => by omega) (fun z => by omega) (fun z => by omega) (fun z => by omega) (fun z => by omega)
  exact ⟨m.1, k + 1, w, _, wa, by omega, by omega, m.2⟩
theorem okc_rated {c : Nat} {S : CS} {T : MS} (h : SimN c S T) (hc : c < 512) (a1 a2 : Int32) : ok_X1_rated S a1 a2 := by
  unfold ok_X1_rated
  rcases rngP a1 with ⟨h1, h2⟩ | ⟨i, hi, rfl, h1, h2⟩
  · exact ⟨fun _ => trivial, fun z => absurd h1 z⟩
  rcases rng8 a2 with ⟨g1, g2⟩ | ⟨j, hj, rfl, g1, g2⟩
  · exact ⟨fun _ => trivial, fun _ => ⟨fun _ => trivial, fun z => absurd g1 z⟩⟩
  exact ⟨fun _ => trivial, fun _ => ⟨fun _ => trivial, fun _ q hq => ⟨vp_in_nI hj (by omega), okc_init, okc_stand hi, trivial⟩⟩⟩
theorem okm_rated {c : Nat} {S : CS} {T : MS} (h : SimN c S T) (hc : c < 512) (a1 a2 : Int32) : ok_X2_rated T a1 a2 := by
  obtain ⟨k, w, ra, wa, hk, hw, hs⟩ := h
  unfold ok_X2_rated
  rcases rngP a1 with ⟨h1, h2⟩ | ⟨i, hi, rfl, h1, h2⟩
  · exact ⟨fun _ => trivial, fun z => absurd h2 z⟩
  rcases rng8 a2 with ⟨g1, g2⟩ | ⟨j, hj, rfl, g1, g2⟩
  · exact ⟨fun _ => trivial, fun _ => ⟨fun _ => trivial, fun z => absurd g2 z⟩⟩
  exact ⟨fun _ => trivial, fun _ => ⟨fun _ => trivial, fun _ => ⟨vp_in_nI hj (by omega), okm_make hs (by omega) hi, trivial⟩⟩⟩
theorem L_rated {c : Nat} {S : CS} {T : MS} (h : SimN c S T) (hc : c < 512) (a1 a2 : Int32) {r1 r2 : Int32} {u1 : CS} {u2 : MS} (h1 : s_X1_rated S a1 a2 r1 u1) (h2 : (r2, u2) = p_X2_rated T a1 a2) : r1 = r2 ∧ SimN (c + 1) u1 u2 := by
  unfold s_X1_rated at h1
  unfold p_X2_rated at h2
  rcases rngP a1 with ⟨e1, e2⟩ | ⟨i, hi, rfl, e1, e2⟩
  · rw [if_pos e1] at h1
    rw [if_pos e2] at h2
    obtain ⟨rfl, rfl⟩ := h1
    obtain ⟨rfl, rfl⟩ := pair_inj h2
    exact ⟨rfl, h.up⟩
  rw [if_neg e1] at h1
  rw [if_neg e2] at h2
  rcases rng8 a2 with ⟨g1, g2⟩ | ⟨j, hj, rfl, g1, g2⟩
  · rw [if_pos g1] at h1
    rw [if_pos g2] at h2
    obtain ⟨rfl, rfl⟩ := h1
    obtain ⟨rfl, rfl⟩ := pair_inj h2
    exact ⟨rfl, h.up⟩
  rw [if_neg g1] at h1
  rw [if_neg g2] at h2
  obtain ⟨q, hq, rfl, rfl⟩ := h1
  obtain ⟨rfl, rfl⟩ := pair_inj h2
  obtain ⟨k, w, ra, wa, hk, hw, hs⟩ := h
  have er := hs.2.2.1 j hj
  rw [cl j (by omega), ← er]
  have m := sim_make hs (by omega) hq hi (n := 1) (by omega) (num := qR S j) (a := 0) (b := 0) (c := 0) (row := none) (f := none) (s := none) (t := none) (N := (qR S j).toInt64) (fun _ _ => rfl) (fun z => by omega) (fun z => by omega) (fun z => by omega) (fun z => by omega) (fun z => by omega) (fun z => by omega)
  exact ⟨m.1, k + 1, w, _, wa, by omega, by omega, m.2⟩
theorem okc_live {c : Nat} {S : CS} {T : MS} (h : SimN c S T) (hc : c < 512) (a1 a2 : Int32) : ok_X1_live S a1 a2 := by
  unfold ok_X1_live
  rcases rngP a1 with ⟨h1, h2⟩ | ⟨i, hi, rfl, h1, h2⟩
  · exact ⟨fun _ => trivial, fun z => absurd h1 z⟩
  rcases rng8 a2 with ⟨g1, g2⟩ | ⟨j, hj, rfl, g1, g2⟩
  · exact ⟨fun _ => trivial, fun _ => ⟨fun _ => trivial, fun z => absurd g1 z⟩⟩
  exact ⟨fun _ => trivial, fun _ => ⟨fun _ => trivial, fun _ q hq => ⟨okc_init, okc_stand hi, trivial⟩⟩⟩
theorem okm_live {c : Nat} {S : CS} {T : MS} (h : SimN c S T) (hc : c < 512) (a1 a2 : Int32) : ok_X2_live T a1 a2 := by
  obtain ⟨k, w, ra, wa, hk, hw, hs⟩ := h
  unfold ok_X2_live
  rcases rngP a1 with ⟨h1, h2⟩ | ⟨i, hi, rfl, h1, h2⟩
  · exact ⟨fun _ => trivial, fun z => absurd h2 z⟩
  rcases rng8 a2 with ⟨g1, g2⟩ | ⟨j, hj, rfl, g1, g2⟩
  · exact ⟨fun _ => trivial, fun _ => ⟨fun _ => trivial, fun z => absurd g2 z⟩⟩
  exact ⟨fun _ => trivial, fun _ => ⟨fun _ => trivial, fun _ => ⟨okm_make hs (by omega) hi, trivial⟩⟩⟩
theorem L_live {c : Nat} {S : CS} {T : MS} (h : SimN c S T) (hc : c < 512) (a1 a2 : Int32) {r1 r2 : Int32} {u1 : CS} {u2 : MS} (h1 : s_X1_live S a1 a2 r1 u1) (h2 : (r2, u2) = p_X2_live T a1 a2) : r1 = r2 ∧ SimN (c + 1) u1 u2 := by
  unfold s_X1_live at h1
  unfold p_X2_live at h2
  rcases rngP a1 with ⟨e1, e2⟩ | ⟨i, hi, rfl, e1, e2⟩
  · rw [if_pos e1] at h1
    rw [if_pos e2] at h2
    obtain ⟨rfl, rfl⟩ := h1
    obtain ⟨rfl, rfl⟩ := pair_inj h2
    exact ⟨rfl, h.up⟩
  rw [if_neg e1] at h1
  rw [if_neg e2] at h2
  rcases rng8 a2 with ⟨g1, g2⟩ | ⟨j, hj, rfl, g1, g2⟩
  · rw [if_pos g1] at h1
    rw [if_pos g2] at h2
    obtain ⟨rfl, rfl⟩ := h1
    obtain ⟨rfl, rfl⟩ := pair_inj h2
    exact ⟨rfl, h.up⟩
  rw [if_neg g1] at h1
  rw [if_neg g2] at h2
  obtain ⟨q, hq, rfl, rfl⟩ := h1
  obtain ⟨rfl, rfl⟩ := pair_inj h2
  obtain ⟨k, w, ra, wa, hk, hw, hs⟩ := h
  have m := sim_make hs (by omega) hq hi (n := 2) (by omega) (num := nI j) (a := nI j) (b := 0) (c := 0) (row := none) (f := none) (s := none) (t := none) (N := 0) (fun z => by omega) (fun _ => ⟨rfl, vp_in_nI hj (by omega)⟩) (fun z => by omega) (fun z => by omega) (fun z => by omega) (fun z => by omega) (fun z => by omega)
  exact ⟨m.1, k + 1, w, _, wa, by omega, by omega, m.2⟩
theorem okc_booked {c : Nat} {S : CS} {T : MS} (h : SimN c S T) (hc : c < 512) (a1 a2 : Int32) : ok_X1_booked S a1 a2 := by
  unfold ok_X1_booked
  rcases rngP a1 with ⟨h1, h2⟩ | ⟨i, hi, rfl, h1, h2⟩
  · exact ⟨fun _ => trivial, fun z => absurd h1 z⟩
  rcases rng4 a2 with ⟨g1, g2⟩ | ⟨j, hj, rfl, g1, g2⟩
  · exact ⟨fun _ => trivial, fun _ => ⟨fun _ => trivial, fun z => absurd g1 z⟩⟩
  exact ⟨fun _ => trivial, fun _ => ⟨fun _ => trivial, fun _ q hq => ⟨vp_in_nI hj (by omega), okc_init, okc_stand hi, trivial⟩⟩⟩
theorem okm_booked {c : Nat} {S : CS} {T : MS} (h : SimN c S T) (hc : c < 512) (a1 a2 : Int32) : ok_X2_booked T a1 a2 := by
  obtain ⟨k, w, ra, wa, hk, hw, hs⟩ := h
  unfold ok_X2_booked
  rcases rngP a1 with ⟨h1, h2⟩ | ⟨i, hi, rfl, h1, h2⟩
  · exact ⟨fun _ => trivial, fun z => absurd h2 z⟩
  rcases rng4 a2 with ⟨g1, g2⟩ | ⟨j, hj, rfl, g1, g2⟩
  · exact ⟨fun _ => trivial, fun _ => ⟨fun _ => trivial, fun z => absurd g2 z⟩⟩
  exact ⟨fun _ => trivial, fun _ => ⟨fun _ => trivial, fun _ => ⟨vp_in_nI hj (by omega), okm_make hs (by omega) hi, trivial⟩⟩⟩
theorem L_booked {c : Nat} {S : CS} {T : MS} (h : SimN c S T) (hc : c < 512) (a1 a2 : Int32) {r1 r2 : Int32} {u1 : CS} {u2 : MS} (h1 : s_X1_booked S a1 a2 r1 u1) (h2 : (r2, u2) = p_X2_booked T a1 a2) : r1 = r2 ∧ SimN (c + 1) u1 u2 := by
  unfold s_X1_booked at h1
  unfold p_X2_booked at h2
  rcases rngP a1 with ⟨e1, e2⟩ | ⟨i, hi, rfl, e1, e2⟩
  · rw [if_pos e1] at h1
    rw [if_pos e2] at h2
    obtain ⟨rfl, rfl⟩ := h1
    obtain ⟨rfl, rfl⟩ := pair_inj h2
    exact ⟨rfl, h.up⟩
  rw [if_neg e1] at h1
  rw [if_neg e2] at h2
  rcases rng4 a2 with ⟨g1, g2⟩ | ⟨j, hj, rfl, g1, g2⟩
  · rw [if_pos g1] at h1
    rw [if_pos g2] at h2
    obtain ⟨rfl, rfl⟩ := h1
    obtain ⟨rfl, rfl⟩ := pair_inj h2
    exact ⟨rfl, h.up⟩
  rw [if_neg g1] at h1
  rw [if_neg g2] at h2
  obtain ⟨q, hq, rfl, rfl⟩ := h1
  obtain ⟨rfl, rfl⟩ := pair_inj h2
  obtain ⟨k, w, ra, wa, hk, hw, hs⟩ := h
  obtain ⟨z, z1, z2, z3⟩ := hs.2.2.2.1 j hj
  rw [cl j (by omega), z2, z3]
  have m := sim_make hs (by omega) hq hi (n := 3) (by omega) (num := 0) (a := nI z) (b := 0) (c := 0) (row := some (wa z)) (f := none) (s := none) (t := none) (N := 0) (fun _ _ => rfl) (fun z => by omega) (fun z => by omega) (fun _ => ⟨z, z1, rfl, rfl⟩) (fun z => by omega) (fun z => by omega) (fun z => by omega)
  exact ⟨m.1, k + 1, w, _, wa, by omega, by omega, m.2⟩
theorem okc_called {c : Nat} {S : CS} {T : MS} (h : SimN c S T) (hc : c < 512) (a1 a2 : Int32) : ok_X1_called S a1 a2 := by
  unfold ok_X1_called
  rcases rngP a1 with ⟨h1, h2⟩ | ⟨i, hi, rfl, h1, h2⟩
  · exact ⟨fun _ => trivial, fun z => absurd h1 z⟩
  rcases rngP a2 with ⟨g1, g2⟩ | ⟨j, hj, rfl, g1, g2⟩
  · exact ⟨fun _ => trivial, fun _ => ⟨fun _ => trivial, fun z => absurd g1 z⟩⟩
  exact ⟨fun _ => trivial, fun _ => ⟨fun _ => trivial, fun _ q hq => ⟨okc_init, okc_stand hi, trivial⟩⟩⟩
theorem okm_called {c : Nat} {S : CS} {T : MS} (h : SimN c S T) (hc : c < 512) (a1 a2 : Int32) : ok_X2_called T a1 a2 := by
  obtain ⟨k, w, ra, wa, hk, hw, hs⟩ := h
  unfold ok_X2_called
  rcases rngP a1 with ⟨h1, h2⟩ | ⟨i, hi, rfl, h1, h2⟩
  · exact ⟨fun _ => trivial, fun z => absurd h2 z⟩
  rcases rngP a2 with ⟨g1, g2⟩ | ⟨j, hj, rfl, g1, g2⟩
  · exact ⟨fun _ => trivial, fun _ => ⟨fun _ => trivial, fun z => absurd g2 z⟩⟩
  exact ⟨fun _ => trivial, fun _ => ⟨fun _ => trivial, fun _ => ⟨okm_make hs (by omega) hi, trivial⟩⟩⟩
theorem L_called {c : Nat} {S : CS} {T : MS} (h : SimN c S T) (hc : c < 512) (a1 a2 : Int32) {r1 r2 : Int32} {u1 : CS} {u2 : MS} (h1 : s_X1_called S a1 a2 r1 u1) (h2 : (r2, u2) = p_X2_called T a1 a2) : r1 = r2 ∧ SimN (c + 1) u1 u2 := by
  unfold s_X1_called at h1
  unfold p_X2_called at h2
  rcases rngP a1 with ⟨e1, e2⟩ | ⟨i, hi, rfl, e1, e2⟩
  · rw [if_pos e1] at h1
    rw [if_pos e2] at h2
    obtain ⟨rfl, rfl⟩ := h1
    obtain ⟨rfl, rfl⟩ := pair_inj h2
    exact ⟨rfl, h.up⟩
  rw [if_neg e1] at h1
  rw [if_neg e2] at h2
  rcases rngP a2 with ⟨g1, g2⟩ | ⟨j, hj, rfl, g1, g2⟩
  · rw [if_pos g1] at h1
    rw [if_pos g2] at h2
    obtain ⟨rfl, rfl⟩ := h1
    obtain ⟨rfl, rfl⟩ := pair_inj h2
    exact ⟨rfl, h.up⟩
  rw [if_neg g1] at h1
  rw [if_neg g2] at h2
  obtain ⟨q, hq, rfl, rfl⟩ := h1
  obtain ⟨rfl, rfl⟩ := pair_inj h2
  obtain ⟨k, w, ra, wa, hk, hw, hs⟩ := h
  have m := sim_make hs (by omega) hq hi (n := 9) (by omega) (num := nI j) (a := nI j) (b := 0) (c := 0) (row := none) (f := none) (s := none) (t := none) (N := 0) (fun _ z => absurd rfl z) (fun z => by omega) (fun _ => ⟨rfl, vp_in_nI hj (by omega)⟩) (fun z => by omega) (fun _ z => absurd rfl z) (fun z => by omega) (fun z => by omega)
  exact ⟨m.1, k + 1, w, _, wa, by omega, by omega, m.2⟩
