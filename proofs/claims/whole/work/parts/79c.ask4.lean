theorem rate_now {S : CS} {k : Int32} (h : vp_in k 8) : p_X1_rateNow S k = qR S k.toNatClampNeg ∧ ok_X1_rateNow S k := by
  obtain ⟨i, hi, ei⟩ := vp_in_of h (by omega)
  have hb : ¬ p_X1_isBelow k 8 = 0 := by
    rw [ei]
    rcases (show i = 0 ∨ i = 1 ∨ i = 2 ∨ i = 3 ∨ i = 4 ∨ i = 5 ∨ i = 6 ∨ i = 7 by omega) with rfl | rfl | rfl | rfl | rfl | rfl | rfl | rfl <;> decide +kernel
  unfold p_X1_rateNow ok_X1_rateNow
  exact ⟨if_neg hb, fun c => absurd c hb, fun _ => ⟨h, trivial⟩⟩
theorem rule_now {S : CS} {k : Int32} (h : vp_in k 16) : p_X1_ruleNow S k = qP S k.toNatClampNeg ∧ ok_X1_ruleNow S k := by
  obtain ⟨i, hi, ei⟩ := vp_in_of h (by omega)
  have hb : ¬ p_X1_isPlace k = 0 := by
    rw [ei]
    rcases (show i = 0 ∨ i = 1 ∨ i = 2 ∨ i = 3 ∨ i = 4 ∨ i = 5 ∨ i = 6 ∨ i = 7 ∨ i = 8 ∨ i = 9 ∨ i = 10 ∨ i = 11 ∨ i = 12 ∨ i = 13 ∨ i = 14 ∨ i = 15 by omega) with rfl | rfl | rfl | rfl | rfl | rfl | rfl | rfl | rfl | rfl | rfl | rfl | rfl | rfl | rfl | rfl <;> decide +kernel
  unfold p_X1_ruleNow ok_X1_ruleNow
  exact ⟨if_neg hb, fun c => absurd c hb, fun _ => ⟨h, trivial⟩⟩
theorem abk_0 {fa : CS → Option Nat → Int32 → Int32 → Int32 → Int64 × CS} {fo : CS → Option Nat → Int32 → Int32 → Int32 → Prop} {S : CS} {a : Nat} {lo wy o : Int32} (e0 : qRI S 0 a = nI 0) (hm : a ∈ qL S ∧ qK S a = true) : p_X1_answerByKind fa S a lo wy o = ((qRI S 1 a).toInt64, S) ∧ (ok_X1_answerByKind fa fo S a lo wy o) := by
  refine ⟨?_, ?_⟩
  · simp only [p_X1_answerByKind, e0, eq_true (by decide : (nI 0 = (0 : Int32))), eq_false (by decide : ¬ (nI 0 = (1 : Int32))), eq_false (by decide : ¬ (nI 0 = (2 : Int32))), eq_false (by decide : ¬ (nI 0 = (3 : Int32))), eq_false (by decide : ¬ (nI 0 = (4 : Int32))), eq_false (by decide : ¬ (nI 0 = (5 : Int32))), eq_false (by decide : ¬ (nI 0 = (6 : Int32))), eq_false (by decide : ¬ (nI 0 = (7 : Int32))), eq_false (by decide : ¬ (nI 0 = (8 : Int32))), eq_false (by decide : ¬ (nI 0 = (9 : Int32))), eq_false (by decide : ¬ (nI 0 = (10 : Int32))), eq_false (by decide : ¬ (nI 0 = (11 : Int32))), eq_false (by decide : ¬ (nI 0 = (12 : Int32))), if_true, if_false, reduceIte]
  · simp only [ok_X1_answerByKind, e0, eq_true (by decide : (nI 0 = (0 : Int32))), eq_false (by decide : ¬ (nI 0 = (1 : Int32))), eq_false (by decide : ¬ (nI 0 = (2 : Int32))), eq_false (by decide : ¬ (nI 0 = (3 : Int32))), eq_false (by decide : ¬ (nI 0 = (4 : Int32))), eq_false (by decide : ¬ (nI 0 = (5 : Int32))), eq_false (by decide : ¬ (nI 0 = (6 : Int32))), eq_false (by decide : ¬ (nI 0 = (7 : Int32))), eq_false (by decide : ¬ (nI 0 = (8 : Int32))), eq_false (by decide : ¬ (nI 0 = (9 : Int32))), eq_false (by decide : ¬ (nI 0 = (10 : Int32))), eq_false (by decide : ¬ (nI 0 = (11 : Int32))), eq_false (by decide : ¬ (nI 0 = (12 : Int32))), hm, not_true_eq_false, not_false_eq_true, false_implies, true_implies, implies_true, and_self, and_true, true_and]
theorem abk_1 {fa : CS → Option Nat → Int32 → Int32 → Int32 → Int64 × CS} {fo : CS → Option Nat → Int32 → Int32 → Int32 → Prop} {S : CS} {a : Nat} {lo wy o : Int32} (e0 : qRI S 0 a = nI 1) (hm : a ∈ qL S ∧ qK S a = true) : p_X1_answerByKind fa S a lo wy o = (lo.toInt64 * (qRI S 1 a).toInt64, S) ∧ (ok_X1_answerByKind fa fo S a lo wy o) := by
  refine ⟨?_, ?_⟩
  · simp only [p_X1_answerByKind, e0, eq_false (by decide : ¬ (nI 1 = (0 : Int32))), eq_true (by decide : (nI 1 = (1 : Int32))), eq_false (by decide : ¬ (nI 1 = (2 : Int32))), eq_false (by decide : ¬ (nI 1 = (3 : Int32))), eq_false (by decide : ¬ (nI 1 = (4 : Int32))), eq_false (by decide : ¬ (nI 1 = (5 : Int32))), eq_false (by decide : ¬ (nI 1 = (6 : Int32))), eq_false (by decide : ¬ (nI 1 = (7 : Int32))), eq_false (by decide : ¬ (nI 1 = (8 : Int32))), eq_false (by decide : ¬ (nI 1 = (9 : Int32))), eq_false (by decide : ¬ (nI 1 = (10 : Int32))), eq_false (by decide : ¬ (nI 1 = (11 : Int32))), eq_false (by decide : ¬ (nI 1 = (12 : Int32))), if_true, if_false, reduceIte]
  · simp only [ok_X1_answerByKind, e0, eq_false (by decide : ¬ (nI 1 = (0 : Int32))), eq_true (by decide : (nI 1 = (1 : Int32))), eq_false (by decide : ¬ (nI 1 = (2 : Int32))), eq_false (by decide : ¬ (nI 1 = (3 : Int32))), eq_false (by decide : ¬ (nI 1 = (4 : Int32))), eq_false (by decide : ¬ (nI 1 = (5 : Int32))), eq_false (by decide : ¬ (nI 1 = (6 : Int32))), eq_false (by decide : ¬ (nI 1 = (7 : Int32))), eq_false (by decide : ¬ (nI 1 = (8 : Int32))), eq_false (by decide : ¬ (nI 1 = (9 : Int32))), eq_false (by decide : ¬ (nI 1 = (10 : Int32))), eq_false (by decide : ¬ (nI 1 = (11 : Int32))), eq_false (by decide : ¬ (nI 1 = (12 : Int32))), hm, not_true_eq_false, not_false_eq_true, false_implies, true_implies, implies_true, and_self, and_true, true_and]
theorem abk_2 {fa : CS → Option Nat → Int32 → Int32 → Int32 → Int64 × CS} {fo : CS → Option Nat → Int32 → Int32 → Int32 → Prop} {S : CS} {a : Nat} {lo wy o : Int32} (e0 : qRI S 0 a = nI 2) (hm : a ∈ qL S ∧ qK S a = true) : p_X1_answerByKind fa S a lo wy o = (lo.toInt64 * (p_X1_rateNow S (qRI S 1 a)).toInt64, S) ∧ (ok_X1_rateNow S (qRI S 1 a) → ok_X1_answerByKind fa fo S a lo wy o) := by
  refine ⟨?_, fun hok => ?_⟩
  · simp only [p_X1_answerByKind, e0, eq_false (by decide : ¬ (nI 2 = (0 : Int32))), eq_false (by decide : ¬ (nI 2 = (1 : Int32))), eq_true (by decide : (nI 2 = (2 : Int32))), eq_false (by decide : ¬ (nI 2 = (3 : Int32))), eq_false (by decide : ¬ (nI 2 = (4 : Int32))), eq_false (by decide : ¬ (nI 2 = (5 : Int32))), eq_false (by decide : ¬ (nI 2 = (6 : Int32))), eq_false (by decide : ¬ (nI 2 = (7 : Int32))), eq_false (by decide : ¬ (nI 2 = (8 : Int32))), eq_false (by decide : ¬ (nI 2 = (9 : Int32))), eq_false (by decide : ¬ (nI 2 = (10 : Int32))), eq_false (by decide : ¬ (nI 2 = (11 : Int32))), eq_false (by decide : ¬ (nI 2 = (12 : Int32))), if_true, if_false, reduceIte]
  · simp only [ok_X1_answerByKind, e0, eq_false (by decide : ¬ (nI 2 = (0 : Int32))), eq_false (by decide : ¬ (nI 2 = (1 : Int32))), eq_true (by decide : (nI 2 = (2 : Int32))), eq_false (by decide : ¬ (nI 2 = (3 : Int32))), eq_false (by decide : ¬ (nI 2 = (4 : Int32))), eq_false (by decide : ¬ (nI 2 = (5 : Int32))), eq_false (by decide : ¬ (nI 2 = (6 : Int32))), eq_false (by decide : ¬ (nI 2 = (7 : Int32))), eq_false (by decide : ¬ (nI 2 = (8 : Int32))), eq_false (by decide : ¬ (nI 2 = (9 : Int32))), eq_false (by decide : ¬ (nI 2 = (10 : Int32))), eq_false (by decide : ¬ (nI 2 = (11 : Int32))), eq_false (by decide : ¬ (nI 2 = (12 : Int32))), hm, hok, not_true_eq_false, not_false_eq_true, false_implies, true_implies, implies_true, and_self, and_true, true_and]
theorem abk_3 {fa : CS → Option Nat → Int32 → Int32 → Int32 → Int64 × CS} {fo : CS → Option Nat → Int32 → Int32 → Int32 → Prop} {S : CS} {a : Nat} {lo wy o : Int32} (e0 : qRI S 0 a = nI 3) (hm : a ∈ qL S ∧ qK S a = true) : p_X1_answerByKind fa S a lo wy o = p_X1_answerBooked S a wy ∧ (ok_X1_answerBooked S a wy → ok_X1_answerByKind fa fo S a lo wy o) := by
  refine ⟨?_, fun hok => ?_⟩
  · simp only [p_X1_answerByKind, e0, eq_false (by decide : ¬ (nI 3 = (0 : Int32))), eq_false (by decide : ¬ (nI 3 = (1 : Int32))), eq_false (by decide : ¬ (nI 3 = (2 : Int32))), eq_true (by decide : (nI 3 = (3 : Int32))), eq_false (by decide : ¬ (nI 3 = (4 : Int32))), eq_false (by decide : ¬ (nI 3 = (5 : Int32))), eq_false (by decide : ¬ (nI 3 = (6 : Int32))), eq_false (by decide : ¬ (nI 3 = (7 : Int32))), eq_false (by decide : ¬ (nI 3 = (8 : Int32))), eq_false (by decide : ¬ (nI 3 = (9 : Int32))), eq_false (by decide : ¬ (nI 3 = (10 : Int32))), eq_false (by decide : ¬ (nI 3 = (11 : Int32))), eq_false (by decide : ¬ (nI 3 = (12 : Int32))), if_true, if_false, reduceIte]
  · simp only [ok_X1_answerByKind, e0, eq_false (by decide : ¬ (nI 3 = (0 : Int32))), eq_false (by decide : ¬ (nI 3 = (1 : Int32))), eq_false (by decide : ¬ (nI 3 = (2 : Int32))), eq_true (by decide : (nI 3 = (3 : Int32))), eq_false (by decide : ¬ (nI 3 = (4 : Int32))), eq_false (by decide : ¬ (nI 3 = (5 : Int32))), eq_false (by decide : ¬ (nI 3 = (6 : Int32))), eq_false (by decide : ¬ (nI 3 = (7 : Int32))), eq_false (by decide : ¬ (nI 3 = (8 : Int32))), eq_false (by decide : ¬ (nI 3 = (9 : Int32))), eq_false (by decide : ¬ (nI 3 = (10 : Int32))), eq_false (by decide : ¬ (nI 3 = (11 : Int32))), eq_false (by decide : ¬ (nI 3 = (12 : Int32))), hm, hok, not_true_eq_false, not_false_eq_true, false_implies, true_implies, implies_true, and_self, and_true, true_and]
theorem abk_4 {fa : CS → Option Nat → Int32 → Int32 → Int32 → Int64 × CS} {fo : CS → Option Nat → Int32 → Int32 → Int32 → Prop} {S : CS} {a : Nat} {lo wy o : Int32} (e0 : qRI S 0 a = nI 4) (hm : a ∈ qL S ∧ qK S a = true) : p_X1_answerByKind fa S a lo wy o = p_X1_answerJoined fa S a lo wy o ∧ (ok_X1_answerJoined fa fo S a lo wy o → ok_X1_answerByKind fa fo S a lo wy o) := by
  refine ⟨?_, fun hok => ?_⟩
  · simp only [p_X1_answerByKind, e0, eq_false (by decide : ¬ (nI 4 = (0 : Int32))), eq_false (by decide : ¬ (nI 4 = (1 : Int32))), eq_false (by decide : ¬ (nI 4 = (2 : Int32))), eq_false (by decide : ¬ (nI 4 = (3 : Int32))), eq_true (by decide : (nI 4 = (4 : Int32))), eq_false (by decide : ¬ (nI 4 = (5 : Int32))), eq_false (by decide : ¬ (nI 4 = (6 : Int32))), eq_false (by decide : ¬ (nI 4 = (7 : Int32))), eq_false (by decide : ¬ (nI 4 = (8 : Int32))), eq_false (by decide : ¬ (nI 4 = (9 : Int32))), eq_false (by decide : ¬ (nI 4 = (10 : Int32))), eq_false (by decide : ¬ (nI 4 = (11 : Int32))), eq_false (by decide : ¬ (nI 4 = (12 : Int32))), if_true, if_false, reduceIte]
  · simp only [ok_X1_answerByKind, e0, eq_false (by decide : ¬ (nI 4 = (0 : Int32))), eq_false (by decide : ¬ (nI 4 = (1 : Int32))), eq_false (by decide : ¬ (nI 4 = (2 : Int32))), eq_false (by decide : ¬ (nI 4 = (3 : Int32))), eq_true (by decide : (nI 4 = (4 : Int32))), eq_false (by decide : ¬ (nI 4 = (5 : Int32))), eq_false (by decide : ¬ (nI 4 = (6 : Int32))), eq_false (by decide : ¬ (nI 4 = (7 : Int32))), eq_false (by decide : ¬ (nI 4 = (8 : Int32))), eq_false (by decide : ¬ (nI 4 = (9 : Int32))), eq_false (by decide : ¬ (nI 4 = (10 : Int32))), eq_false (by decide : ¬ (nI 4 = (11 : Int32))), eq_false (by decide : ¬ (nI 4 = (12 : Int32))), hm, hok, not_true_eq_false, not_false_eq_true, false_implies, true_implies, implies_true, and_self, and_true, true_and]
theorem abk_5 {fa : CS → Option Nat → Int32 → Int32 → Int32 → Int64 × CS} {fo : CS → Option Nat → Int32 → Int32 → Int32 → Prop} {S : CS} {a : Nat} {lo wy o : Int32} (e0 : qRI S 0 a = nI 5) (hm : a ∈ qL S ∧ qK S a = true) : p_X1_answerByKind fa S a lo wy o = p_X1_answerWhen fa S a lo wy o ∧ (ok_X1_answerWhen fa fo S a lo wy o → ok_X1_answerByKind fa fo S a lo wy o) := by
  refine ⟨?_, fun hok => ?_⟩
  · simp only [p_X1_answerByKind, e0, eq_false (by decide : ¬ (nI 5 = (0 : Int32))), eq_false (by decide : ¬ (nI 5 = (1 : Int32))), eq_false (by decide : ¬ (nI 5 = (2 : Int32))), eq_false (by decide : ¬ (nI 5 = (3 : Int32))), eq_false (by decide : ¬ (nI 5 = (4 : Int32))), eq_true (by decide : (nI 5 = (5 : Int32))), eq_false (by decide : ¬ (nI 5 = (6 : Int32))), eq_false (by decide : ¬ (nI 5 = (7 : Int32))), eq_false (by decide : ¬ (nI 5 = (8 : Int32))), eq_false (by decide : ¬ (nI 5 = (9 : Int32))), eq_false (by decide : ¬ (nI 5 = (10 : Int32))), eq_false (by decide : ¬ (nI 5 = (11 : Int32))), eq_false (by decide : ¬ (nI 5 = (12 : Int32))), if_true, if_false, reduceIte]
  · simp only [ok_X1_answerByKind, e0, eq_false (by decide : ¬ (nI 5 = (0 : Int32))), eq_false (by decide : ¬ (nI 5 = (1 : Int32))), eq_false (by decide : ¬ (nI 5 = (2 : Int32))), eq_false (by decide : ¬ (nI 5 = (3 : Int32))), eq_false (by decide : ¬ (nI 5 = (4 : Int32))), eq_true (by decide : (nI 5 = (5 : Int32))), eq_false (by decide : ¬ (nI 5 = (6 : Int32))), eq_false (by decide : ¬ (nI 5 = (7 : Int32))), eq_false (by decide : ¬ (nI 5 = (8 : Int32))), eq_false (by decide : ¬ (nI 5 = (9 : Int32))), eq_false (by decide : ¬ (nI 5 = (10 : Int32))), eq_false (by decide : ¬ (nI 5 = (11 : Int32))), eq_false (by decide : ¬ (nI 5 = (12 : Int32))), hm, hok, not_true_eq_false, not_false_eq_true, false_implies, true_implies, implies_true, and_self, and_true, true_and]
theorem abk_6 {fa : CS → Option Nat → Int32 → Int32 → Int32 → Int64 × CS} {fo : CS → Option Nat → Int32 → Int32 → Int32 → Prop} {S : CS} {a : Nat} {lo wy o : Int32} (e0 : qRI S 0 a = nI 6) (hm : a ∈ qL S ∧ qK S a = true) : p_X1_answerByKind fa S a lo wy o = fa S (qRO S 3 a) lo (qRI S 1 a) o ∧ (fo S (qRO S 3 a) lo (qRI S 1 a) o → ok_X1_answerByKind fa fo S a lo wy o) := by
  refine ⟨?_, fun hok => ?_⟩
  · simp only [p_X1_answerByKind, e0, eq_false (by decide : ¬ (nI 6 = (0 : Int32))), eq_false (by decide : ¬ (nI 6 = (1 : Int32))), eq_false (by decide : ¬ (nI 6 = (2 : Int32))), eq_false (by decide : ¬ (nI 6 = (3 : Int32))), eq_false (by decide : ¬ (nI 6 = (4 : Int32))), eq_false (by decide : ¬ (nI 6 = (5 : Int32))), eq_true (by decide : (nI 6 = (6 : Int32))), eq_false (by decide : ¬ (nI 6 = (7 : Int32))), eq_false (by decide : ¬ (nI 6 = (8 : Int32))), eq_false (by decide : ¬ (nI 6 = (9 : Int32))), eq_false (by decide : ¬ (nI 6 = (10 : Int32))), eq_false (by decide : ¬ (nI 6 = (11 : Int32))), eq_false (by decide : ¬ (nI 6 = (12 : Int32))), if_true, if_false, reduceIte]
  · simp only [ok_X1_answerByKind, e0, eq_false (by decide : ¬ (nI 6 = (0 : Int32))), eq_false (by decide : ¬ (nI 6 = (1 : Int32))), eq_false (by decide : ¬ (nI 6 = (2 : Int32))), eq_false (by decide : ¬ (nI 6 = (3 : Int32))), eq_false (by decide : ¬ (nI 6 = (4 : Int32))), eq_false (by decide : ¬ (nI 6 = (5 : Int32))), eq_true (by decide : (nI 6 = (6 : Int32))), eq_false (by decide : ¬ (nI 6 = (7 : Int32))), eq_false (by decide : ¬ (nI 6 = (8 : Int32))), eq_false (by decide : ¬ (nI 6 = (9 : Int32))), eq_false (by decide : ¬ (nI 6 = (10 : Int32))), eq_false (by decide : ¬ (nI 6 = (11 : Int32))), eq_false (by decide : ¬ (nI 6 = (12 : Int32))), hm, hok, not_true_eq_false, not_false_eq_true, false_implies, true_implies, implies_true, and_self, and_true, true_and]
theorem abk_7 {fa : CS → Option Nat → Int32 → Int32 → Int32 → Int64 × CS} {fo : CS → Option Nat → Int32 → Int32 → Int32 → Prop} {S : CS} {a : Nat} {lo wy o : Int32} (e0 : qRI S 0 a = nI 7) (hm : a ∈ qL S ∧ qK S a = true) : p_X1_answerByKind fa S a lo wy o = p_X1_answerFed fa S a lo wy o ∧ (ok_X1_answerFed fa fo S a lo wy o → ok_X1_answerByKind fa fo S a lo wy o) := by
  refine ⟨?_, fun hok => ?_⟩
  · simp only [p_X1_answerByKind, e0, eq_false (by decide : ¬ (nI 7 = (0 : Int32))), eq_false (by decide : ¬ (nI 7 = (1 : Int32))), eq_false (by decide : ¬ (nI 7 = (2 : Int32))), eq_false (by decide : ¬ (nI 7 = (3 : Int32))), eq_false (by decide : ¬ (nI 7 = (4 : Int32))), eq_false (by decide : ¬ (nI 7 = (5 : Int32))), eq_false (by decide : ¬ (nI 7 = (6 : Int32))), eq_true (by decide : (nI 7 = (7 : Int32))), eq_false (by decide : ¬ (nI 7 = (8 : Int32))), eq_false (by decide : ¬ (nI 7 = (9 : Int32))), eq_false (by decide : ¬ (nI 7 = (10 : Int32))), eq_false (by decide : ¬ (nI 7 = (11 : Int32))), eq_false (by decide : ¬ (nI 7 = (12 : Int32))), if_true, if_false, reduceIte]
  · simp only [ok_X1_answerByKind, e0, eq_false (by decide : ¬ (nI 7 = (0 : Int32))), eq_false (by decide : ¬ (nI 7 = (1 : Int32))), eq_false (by decide : ¬ (nI 7 = (2 : Int32))), eq_false (by decide : ¬ (nI 7 = (3 : Int32))), eq_false (by decide : ¬ (nI 7 = (4 : Int32))), eq_false (by decide : ¬ (nI 7 = (5 : Int32))), eq_false (by decide : ¬ (nI 7 = (6 : Int32))), eq_true (by decide : (nI 7 = (7 : Int32))), eq_false (by decide : ¬ (nI 7 = (8 : Int32))), eq_false (by decide : ¬ (nI 7 = (9 : Int32))), eq_false (by decide : ¬ (nI 7 = (10 : Int32))), eq_false (by decide : ¬ (nI 7 = (11 : Int32))), eq_false (by decide : ¬ (nI 7 = (12 : Int32))), hm, hok, not_true_eq_false, not_false_eq_true, false_implies, true_implies, implies_true, and_self, and_true, true_and]
theorem abk_8 {fa : CS → Option Nat → Int32 → Int32 → Int32 → Int64 × CS} {fo : CS → Option Nat → Int32 → Int32 → Int32 → Prop} {S : CS} {a : Nat} {lo wy o : Int32} (e0 : qRI S 0 a = nI 8) (hm : a ∈ qL S ∧ qK S a = true) : p_X1_answerByKind fa S a lo wy o = p_X1_answerGuarded fa S a lo wy o ∧ (ok_X1_answerGuarded fa fo S a lo wy o → ok_X1_answerByKind fa fo S a lo wy o) := by
  refine ⟨?_, fun hok => ?_⟩
  · simp only [p_X1_answerByKind, e0, eq_false (by decide : ¬ (nI 8 = (0 : Int32))), eq_false (by decide : ¬ (nI 8 = (1 : Int32))), eq_false (by decide : ¬ (nI 8 = (2 : Int32))), eq_false (by decide : ¬ (nI 8 = (3 : Int32))), eq_false (by decide : ¬ (nI 8 = (4 : Int32))), eq_false (by decide : ¬ (nI 8 = (5 : Int32))), eq_false (by decide : ¬ (nI 8 = (6 : Int32))), eq_false (by decide : ¬ (nI 8 = (7 : Int32))), eq_true (by decide : (nI 8 = (8 : Int32))), eq_false (by decide : ¬ (nI 8 = (9 : Int32))), eq_false (by decide : ¬ (nI 8 = (10 : Int32))), eq_false (by decide : ¬ (nI 8 = (11 : Int32))), eq_false (by decide : ¬ (nI 8 = (12 : Int32))), if_true, if_false, reduceIte]
  · simp only [ok_X1_answerByKind, e0, eq_false (by decide : ¬ (nI 8 = (0 : Int32))), eq_false (by decide : ¬ (nI 8 = (1 : Int32))), eq_false (by decide : ¬ (nI 8 = (2 : Int32))), eq_false (by decide : ¬ (nI 8 = (3 : Int32))), eq_false (by decide : ¬ (nI 8 = (4 : Int32))), eq_false (by decide : ¬ (nI 8 = (5 : Int32))), eq_false (by decide : ¬ (nI 8 = (6 : Int32))), eq_false (by decide : ¬ (nI 8 = (7 : Int32))), eq_true (by decide : (nI 8 = (8 : Int32))), eq_false (by decide : ¬ (nI 8 = (9 : Int32))), eq_false (by decide : ¬ (nI 8 = (10 : Int32))), eq_false (by decide : ¬ (nI 8 = (11 : Int32))), eq_false (by decide : ¬ (nI 8 = (12 : Int32))), hm, hok, not_true_eq_false, not_false_eq_true, false_implies, true_implies, implies_true, and_self, and_true, true_and]
theorem abk_9 {fa : CS → Option Nat → Int32 → Int32 → Int32 → Int64 × CS} {fo : CS → Option Nat → Int32 → Int32 → Int32 → Prop} {S : CS} {a : Nat} {lo wy o : Int32} (e0 : qRI S 0 a = nI 9) (hm : a ∈ qL S ∧ qK S a = true) : p_X1_answerByKind fa S a lo wy o = fa S (p_X1_ruleNow S (qRI S 1 a)) lo wy o ∧ (ok_X1_ruleNow S (qRI S 1 a) ∧ fo S (p_X1_ruleNow S (qRI S 1 a)) lo wy o → ok_X1_answerByKind fa fo S a lo wy o) := by
  refine ⟨?_, fun hok => ?_⟩
  · simp only [p_X1_answerByKind, e0, eq_false (by decide : ¬ (nI 9 = (0 : Int32))), eq_false (by decide : ¬ (nI 9 = (1 : Int32))), eq_false (by decide : ¬ (nI 9 = (2 : Int32))), eq_false (by decide : ¬ (nI 9 = (3 : Int32))), eq_false (by decide : ¬ (nI 9 = (4 : Int32))), eq_false (by decide : ¬ (nI 9 = (5 : Int32))), eq_false (by decide : ¬ (nI 9 = (6 : Int32))), eq_false (by decide : ¬ (nI 9 = (7 : Int32))), eq_false (by decide : ¬ (nI 9 = (8 : Int32))), eq_true (by decide : (nI 9 = (9 : Int32))), eq_false (by decide : ¬ (nI 9 = (10 : Int32))), eq_false (by decide : ¬ (nI 9 = (11 : Int32))), eq_false (by decide : ¬ (nI 9 = (12 : Int32))), if_true, if_false, reduceIte]
  · simp only [ok_X1_answerByKind, e0, eq_false (by decide : ¬ (nI 9 = (0 : Int32))), eq_false (by decide : ¬ (nI 9 = (1 : Int32))), eq_false (by decide : ¬ (nI 9 = (2 : Int32))), eq_false (by decide : ¬ (nI 9 = (3 : Int32))), eq_false (by decide : ¬ (nI 9 = (4 : Int32))), eq_false (by decide : ¬ (nI 9 = (5 : Int32))), eq_false (by decide : ¬ (nI 9 = (6 : Int32))), eq_false (by decide : ¬ (nI 9 = (7 : Int32))), eq_false (by decide : ¬ (nI 9 = (8 : Int32))), eq_true (by decide : (nI 9 = (9 : Int32))), eq_false (by decide : ¬ (nI 9 = (10 : Int32))), eq_false (by decide : ¬ (nI 9 = (11 : Int32))), eq_false (by decide : ¬ (nI 9 = (12 : Int32))), hm, hok, not_true_eq_false, not_false_eq_true, false_implies, true_implies, implies_true, and_self, and_true, true_and]
theorem abk_10 {fa : CS → Option Nat → Int32 → Int32 → Int32 → Int64 × CS} {fo : CS → Option Nat → Int32 → Int32 → Int32 → Prop} {S : CS} {a : Nat} {lo wy o : Int32} (e0 : qRI S 0 a = nI 10) (hm : a ∈ qL S ∧ qK S a = true) : p_X1_answerByKind fa S a lo wy o = (if lo ≤ qRI S 1 a then fa S (qRO S 3 a) lo wy o else p_X1_fail S (-5)) ∧ ((lo ≤ qRI S 1 a → fo S (qRO S 3 a) lo wy o) → ok_X1_answerByKind fa fo S a lo wy o) := by
  refine ⟨?_, fun hok => ?_⟩
  · simp only [p_X1_answerByKind, e0, eq_false (by decide : ¬ (nI 10 = (0 : Int32))), eq_false (by decide : ¬ (nI 10 = (1 : Int32))), eq_false (by decide : ¬ (nI 10 = (2 : Int32))), eq_false (by decide : ¬ (nI 10 = (3 : Int32))), eq_false (by decide : ¬ (nI 10 = (4 : Int32))), eq_false (by decide : ¬ (nI 10 = (5 : Int32))), eq_false (by decide : ¬ (nI 10 = (6 : Int32))), eq_false (by decide : ¬ (nI 10 = (7 : Int32))), eq_false (by decide : ¬ (nI 10 = (8 : Int32))), eq_false (by decide : ¬ (nI 10 = (9 : Int32))), eq_true (by decide : (nI 10 = (10 : Int32))), eq_false (by decide : ¬ (nI 10 = (11 : Int32))), eq_false (by decide : ¬ (nI 10 = (12 : Int32))), if_true, if_false, reduceIte]
  · simp only [ok_X1_answerByKind, ok_X1_fail, e0, eq_false (by decide : ¬ (nI 10 = (0 : Int32))), eq_false (by decide : ¬ (nI 10 = (1 : Int32))), eq_false (by decide : ¬ (nI 10 = (2 : Int32))), eq_false (by decide : ¬ (nI 10 = (3 : Int32))), eq_false (by decide : ¬ (nI 10 = (4 : Int32))), eq_false (by decide : ¬ (nI 10 = (5 : Int32))), eq_false (by decide : ¬ (nI 10 = (6 : Int32))), eq_false (by decide : ¬ (nI 10 = (7 : Int32))), eq_false (by decide : ¬ (nI 10 = (8 : Int32))), eq_false (by decide : ¬ (nI 10 = (9 : Int32))), eq_true (by decide : (nI 10 = (10 : Int32))), eq_false (by decide : ¬ (nI 10 = (11 : Int32))), eq_false (by decide : ¬ (nI 10 = (12 : Int32))), hm, not_true_eq_false, not_false_eq_true, false_implies, true_implies, implies_true, and_self, and_true, true_and]
    exact hok
theorem abk_11 {fa : CS → Option Nat → Int32 → Int32 → Int32 → Int64 × CS} {fo : CS → Option Nat → Int32 → Int32 → Int32 → Prop} {S : CS} {a : Nat} {lo wy o : Int32} (e0 : qRI S 0 a = nI 11) (hm : a ∈ qL S ∧ qK S a = true) : p_X1_answerByKind fa S a lo wy o = p_X1_answerCounted fa S a lo wy o ∧ (ok_X1_answerCounted fa fo S a lo wy o → ok_X1_answerByKind fa fo S a lo wy o) := by
  refine ⟨?_, fun hok => ?_⟩
  · simp only [p_X1_answerByKind, e0, eq_false (by decide : ¬ (nI 11 = (0 : Int32))), eq_false (by decide : ¬ (nI 11 = (1 : Int32))), eq_false (by decide : ¬ (nI 11 = (2 : Int32))), eq_false (by decide : ¬ (nI 11 = (3 : Int32))), eq_false (by decide : ¬ (nI 11 = (4 : Int32))), eq_false (by decide : ¬ (nI 11 = (5 : Int32))), eq_false (by decide : ¬ (nI 11 = (6 : Int32))), eq_false (by decide : ¬ (nI 11 = (7 : Int32))), eq_false (by decide : ¬ (nI 11 = (8 : Int32))), eq_false (by decide : ¬ (nI 11 = (9 : Int32))), eq_false (by decide : ¬ (nI 11 = (10 : Int32))), eq_true (by decide : (nI 11 = (11 : Int32))), eq_false (by decide : ¬ (nI 11 = (12 : Int32))), if_true, if_false, reduceIte]
  · simp only [ok_X1_answerByKind, e0, eq_false (by decide : ¬ (nI 11 = (0 : Int32))), eq_false (by decide : ¬ (nI 11 = (1 : Int32))), eq_false (by decide : ¬ (nI 11 = (2 : Int32))), eq_false (by decide : ¬ (nI 11 = (3 : Int32))), eq_false (by decide : ¬ (nI 11 = (4 : Int32))), eq_false (by decide : ¬ (nI 11 = (5 : Int32))), eq_false (by decide : ¬ (nI 11 = (6 : Int32))), eq_false (by decide : ¬ (nI 11 = (7 : Int32))), eq_false (by decide : ¬ (nI 11 = (8 : Int32))), eq_false (by decide : ¬ (nI 11 = (9 : Int32))), eq_false (by decide : ¬ (nI 11 = (10 : Int32))), eq_true (by decide : (nI 11 = (11 : Int32))), eq_false (by decide : ¬ (nI 11 = (12 : Int32))), hm, hok, not_true_eq_false, not_false_eq_true, false_implies, true_implies, implies_true, and_self, and_true, true_and]
theorem abk_12 {fa : CS → Option Nat → Int32 → Int32 → Int32 → Int64 × CS} {fo : CS → Option Nat → Int32 → Int32 → Int32 → Prop} {S : CS} {a : Nat} {lo wy o : Int32} (e0 : qRI S 0 a = nI 12) (hm : a ∈ qL S ∧ qK S a = true) : p_X1_answerByKind fa S a lo wy o = p_X1_answerKept fa S a lo wy o ∧ (ok_X1_answerKept fa fo S a lo wy o → ok_X1_answerByKind fa fo S a lo wy o) := by
  refine ⟨?_, fun hok => ?_⟩
  · simp only [p_X1_answerByKind, e0, eq_false (by decide : ¬ (nI 12 = (0 : Int32))), eq_false (by decide : ¬ (nI 12 = (1 : Int32))), eq_false (by decide : ¬ (nI 12 = (2 : Int32))), eq_false (by decide : ¬ (nI 12 = (3 : Int32))), eq_false (by decide : ¬ (nI 12 = (4 : Int32))), eq_false (by decide : ¬ (nI 12 = (5 : Int32))), eq_false (by decide : ¬ (nI 12 = (6 : Int32))), eq_false (by decide : ¬ (nI 12 = (7 : Int32))), eq_false (by decide : ¬ (nI 12 = (8 : Int32))), eq_false (by decide : ¬ (nI 12 = (9 : Int32))), eq_false (by decide : ¬ (nI 12 = (10 : Int32))), eq_false (by decide : ¬ (nI 12 = (11 : Int32))), eq_true (by decide : (nI 12 = (12 : Int32))), if_true, if_false, reduceIte]
  · simp only [ok_X1_answerByKind, e0, eq_false (by decide : ¬ (nI 12 = (0 : Int32))), eq_false (by decide : ¬ (nI 12 = (1 : Int32))), eq_false (by decide : ¬ (nI 12 = (2 : Int32))), eq_false (by decide : ¬ (nI 12 = (3 : Int32))), eq_false (by decide : ¬ (nI 12 = (4 : Int32))), eq_false (by decide : ¬ (nI 12 = (5 : Int32))), eq_false (by decide : ¬ (nI 12 = (6 : Int32))), eq_false (by decide : ¬ (nI 12 = (7 : Int32))), eq_false (by decide : ¬ (nI 12 = (8 : Int32))), eq_false (by decide : ¬ (nI 12 = (9 : Int32))), eq_false (by decide : ¬ (nI 12 = (10 : Int32))), eq_false (by decide : ¬ (nI 12 = (11 : Int32))), eq_true (by decide : (nI 12 = (12 : Int32))), hm, hok, not_true_eq_false, not_false_eq_true, false_implies, true_implies, implies_true, and_self, and_true, true_and]
def RK (k w : Nat) (ra wa : Nat → Nat) (S : CS) (T : MS) (j n : Nat) : Prop :=
  (ra j ∈ qL S ∧ qK S (ra j) = true) ∧ qRI S 0 (ra j) = nI n ∧
    (n ≠ 2 → n ≠ 9 → T.2.2.1 10 j = (qRI S 1 (ra j)).toInt64) ∧
    (n = 2 → T.2.1 7 j = qRI S 1 (ra j) ∧ vp_in (qRI S 1 (ra j)) 8) ∧
    (n = 9 → T.2.1 7 j = qRI S 1 (ra j) ∧ vp_in (qRI S 1 (ra j)) 16) ∧
    (n = 3 → ∃ i, i < w ∧ T.2.1 7 j = nI i ∧ qRO S 2 (ra j) = some (wa i)) ∧
    (4 ≤ n → n ≠ 9 → Lnk k ra (qRO S 3 (ra j)) (T.2.1 7 j)) ∧
    (n = 4 ∨ n = 5 ∨ n = 7 ∨ n = 8 → Lnk k ra (qRO S 4 (ra j)) (T.2.1 8 j)) ∧
    (n = 5 → Lnk k ra (qRO S 5 (ra j)) (T.2.1 9 j)) ∧
    T.2.1 11 j = qRI S 6 (ra j) ∧ T.2.1 12 j = qRI S 7 (ra j) ∧
    (¬ qRI S 7 (ra j) = 0 → T.2.1 13 j = qRI S 8 (ra j) ∧ T.2.1 14 j = qRI S 9 (ra j) ∧ T.2.2.1 15 j = qRJ S (ra j))
theorem rk_of {k w : Nat} {ra wa : Nat → Nat} {S : CS} {T : MS} (h : Core k w ra wa S T) {j n : Nat} (hj : j < k) (e6 : T.2.1 6 j = nI n) (hn : n ≤ 12) : RK k w ra wa S T j n := by
  obtain ⟨g1, g2, n', hn', e6', e0, d1, d2, d3, d4, d5, d6, d7, d8, d9, d10⟩ := h.2.2.2.2.2.2.1 j hj
  have en : n' = n := (nI_eq (by omega) (by omega)).mp (e6'.symm.trans e6)
  subst en
  refine ⟨⟨g1, g2⟩, e0, d1, d2, d3, d4, fun x y => ?_, fun x => ?_, fun x => ?_, d8, d9, d10⟩
  · obtain ⟨i, h1, h2, h3⟩ := d5 x y
    exact Or.inr ⟨i, h1, h3, h2⟩
  · obtain ⟨i, h1, h2, h3⟩ := d6 x
    exact Or.inr ⟨i, h1, h3, h2⟩
  · obtain ⟨i, h1, h2, h3⟩ := d7 x
    exact Or.inr ⟨i, h1, h3, h2⟩
theorem t32 (x : Int32) : x.toInt64.toInt32 = x := by simp
theorem le64 (a b : Int32) : a.toInt64 ≤ b.toInt64 ↔ a ≤ b := by
  rw [Int64.le_iff_toInt_le, Int32.le_iff_toInt_le, Int32.toInt_toInt64, Int32.toInt_toInt64]
section IN
variable {k w : Nat} {ra wa : Nat → Nat} {p : Nat} {T0 T : MS} {S : CS}
theorem step_go {T2 : MS} {j q : Nat} {lo wy : Int32} (hp : p < 24) (ht : Top p j lo wy q T) (h27 : T.1 27 = 0) (hok : ok_X2_go T) (hg : p_X2_go T = T2) : Rs T T2 := Rs.one (by rw [ht.1]; exact piled_pos (by omega)) (by unfold okst; rw [if_pos h27]; exact hok) (by unfold stp; rw [if_pos h27, hg])
theorem last {x : Int64 × CS} {T3 : MS} {j n q st : Nat} {lo wy : Int32} (hp : p < 24) (hj : j < 4000) (ht : Top p j lo wy q T3) (e6 : T3.2.1 6 j = nI n) (hn : n < 100) (hq : q < 100) (hgo : p_X2_go T3 = p_X2_gives T3 T3.2.2.2 ∧ ok_X2_go T3) (hng : n = 8 → q = 1 → ¬ T3.1 27 = 0 → T3.1 27 = -6 ∨ T3.1 27 = -7) (hpi : Pile p T0 T3) (hc : Core k w ra wa x.2 T3) (hs : SR st x.2 T3) (h6 : qI x.2 6 = T3.1 27) (hv : T3.1 27 = 0 → T3.2.2.2 = x.1) : Out k w ra wa p T0 x T3 := by
  by_cases h27 : T3.1 27 = 0
  · have := out_gives (T0 := T0) (S := x.2) (st := st) hp ht.1 h27 hgo.1 hgo.2 ht.1 h27 hpi hc hs (h6.trans h27)
    rw [hv h27] at this
    exact this
  · exact out_pop (z := x.1) (S := x.2) (st := st) hp hj ht h27 e6 hn hq (fun a b => hng a b h27) hpi hc hs h6

theorem in_0 {fa : CS → Option Nat → Int32 → Int32 → Int32 → Int64 × CS} {fo : CS → Option Nat → Int32 → Int32 → Int32 → Prop} (G : Good k w ra wa fa fo (p + 1)) (hp : p < 24) (hk : k < 4000) (hw : w < 4000) {j st : Nat} {lo wy : Int32} (ht : Top p j lo wy 0 T) (hc : Core k w ra wa S T) (hs : SR st S T) (h6 : qI S 6 = 0) (h27 : T.1 27 = 0) (hj : j < k) (e6 : T.2.1 6 j = nI 0) : ok_X1_answerByKind fa fo S (ra j) lo wy (nI (p + 1)) ∧ Out k w ra wa p T (p_X1_answerByKind fa S (ra j) lo wy (nI (p + 1))) T := by
  obtain ⟨hm, e0, d1, d2, d3, d4, d5, d6, d7, d8, d9, d10⟩ := rk_of hc hj e6 (by omega)
  have A := abk_0 (fa := fa) (fo := fo) (lo := lo) (wy := wy) (o := nI (p + 1)) e0 hm
  rw [A.1]
  have g := go_0_0 ht (by omega) hp e6
  refine ⟨A.2, ?_⟩
  have := out_gives (T0 := T) (S := S) (st := st) hp ht.1 h27 g.1 g.2 ht.1 h27 Pile.rf hc hs h6
  rw [d1 (by omega) (by omega)] at this
  exact this
theorem in_1 {fa : CS → Option Nat → Int32 → Int32 → Int32 → Int64 × CS} {fo : CS → Option Nat → Int32 → Int32 → Int32 → Prop} (G : Good k w ra wa fa fo (p + 1)) (hp : p < 24) (hk : k < 4000) (hw : w < 4000) {j st : Nat} {lo wy : Int32} (ht : Top p j lo wy 0 T) (hc : Core k w ra wa S T) (hs : SR st S T) (h6 : qI S 6 = 0) (h27 : T.1 27 = 0) (hj : j < k) (e6 : T.2.1 6 j = nI 1) : ok_X1_answerByKind fa fo S (ra j) lo wy (nI (p + 1)) ∧ Out k w ra wa p T (p_X1_answerByKind fa S (ra j) lo wy (nI (p + 1))) T := by
  obtain ⟨hm, e0, d1, d2, d3, d4, d5, d6, d7, d8, d9, d10⟩ := rk_of hc hj e6 (by omega)
  have A := abk_1 (fa := fa) (fo := fo) (lo := lo) (wy := wy) (o := nI (p + 1)) e0 hm
  rw [A.1]
  have g := go_1_0 ht (by omega) hp e6
  refine ⟨A.2, ?_⟩
  have := out_gives (T0 := T) (S := S) (st := st) hp ht.1 h27 g.1 g.2 ht.1 h27 Pile.rf hc hs h6
  rw [d1 (by omega) (by omega)] at this
  exact this
theorem in_2 {fa : CS → Option Nat → Int32 → Int32 → Int32 → Int64 × CS} {fo : CS → Option Nat → Int32 → Int32 → Int32 → Prop} (G : Good k w ra wa fa fo (p + 1)) (hp : p < 24) (hk : k < 4000) (hw : w < 4000) {j st : Nat} {lo wy : Int32} (ht : Top p j lo wy 0 T) (hc : Core k w ra wa S T) (hs : SR st S T) (h6 : qI S 6 = 0) (h27 : T.1 27 = 0) (hj : j < k) (e6 : T.2.1 6 j = nI 2) : ok_X1_answerByKind fa fo S (ra j) lo wy (nI (p + 1)) ∧ Out k w ra wa p T (p_X1_answerByKind fa S (ra j) lo wy (nI (p + 1))) T := by
  obtain ⟨hm, e0, d1, d2, d3, d4, d5, d6, d7, d8, d9, d10⟩ := rk_of hc hj e6 (by omega)
  have A := abk_2 (fa := fa) (fo := fo) (lo := lo) (wy := wy) (o := nI (p + 1)) e0 hm
  rw [A.1]
  obtain ⟨x1, x2⟩ := d2 rfl
  rw [(rate_now x2).1]
  have g := go_2_0 ht (by omega) hp e6 (by rw [x1]; exact x2)
  refine ⟨A.2 (rate_now x2).2, ?_⟩
  have := out_gives (T0 := T) (S := S) (st := st) hp ht.1 h27 g.1 g.2 ht.1 h27 Pile.rf hc hs h6
  obtain ⟨i, hi, ei⟩ := vp_in_of x2 (by omega)
  rw [x1, ei, cl i (by omega), ← hc.2.2.1 i hi] at this
  rw [ei, cl i (by omega)]
  exact this
theorem in_3 {fa : CS → Option Nat → Int32 → Int32 → Int32 → Int64 × CS} {fo : CS → Option Nat → Int32 → Int32 → Int32 → Prop} (G : Good k w ra wa fa fo (p + 1)) (hp : p < 24) (hk : k < 4000) (hw : w < 4000) {j st : Nat} {lo wy : Int32} (ht : Top p j lo wy 0 T) (hc : Core k w ra wa S T) (hs : SR st S T) (h6 : qI S 6 = 0) (h27 : T.1 27 = 0) (hj : j < k) (e6 : T.2.1 6 j = nI 3) : ok_X1_answerByKind fa fo S (ra j) lo wy (nI (p + 1)) ∧ Out k w ra wa p T (p_X1_answerByKind fa S (ra j) lo wy (nI (p + 1))) T := by
  obtain ⟨hm, e0, d1, d2, d3, d4, d5, d6, d7, d8, d9, d10⟩ := rk_of hc hj e6 (by omega)
  have A := abk_3 (fa := fa) (fo := fo) (lo := lo) (wy := wy) (o := nI (p + 1)) e0 hm
  rw [A.1]
  obtain ⟨i, hi, x1, x2⟩ := d4 rfl
  obtain ⟨y1, y2, y3, y4, y5⟩ := hc.2.2.2.2.1 i hi
  have xn : ¬ qRO S 2 (ra j) = none := by rw [x2]; simp
  have gd : (some (wa i)).getD 0 = wa i := rfl
  have ok : ok_X1_answerBooked S (ra j) wy := by
    unfold ok_X1_answerBooked
    refine ⟨hm, fun z => absurd z xn, fun _ => ⟨hm, ?_⟩⟩
    rw [x2, gd]
    refine ⟨⟨y1, y2⟩, fun _ => ⟨trivial, trivial⟩, fun z => ⟨hm, ⟨y1, y2⟩, ?_, trivial⟩⟩
    rcases rng wy (qWL S (wa i)) (by omega) with ⟨f1, f2⟩ | ⟨m, hm2, rfl, f1, f2⟩
    · exact absurd f1 z
    · exact vp_in_nI hm2 (by omega)
  refine ⟨A.2 ok, ?_⟩
  unfold p_X1_answerBooked
  rw [if_neg xn, x2, gd]
  rcases rng wy (qWL S (wa i)) (by omega) with ⟨f1, f2⟩ | ⟨m, hm2, rfl, f1, f2⟩
  · rw [if_pos f1]
    have g := go_3_0a ht (by omega) hp e6 (i := i) (by omega) x1 (by rw [y3]; exact f2)
    exact out_fails (T0 := T) (S := S) (st := st) (z := 0) hp ht.1 h27 g.1 g.2 (by decide) Pile.rf hc hs
  · rw [if_neg f1, cl m (by omega)]
    have g := go_3_0b ht (by omega) hp e6 (i := i) (x := m) (by omega) (by omega) rfl x1 (by rw [y3]; exact f2)
    have := out_gives (T0 := T) (S := S) (st := st) hp ht.1 h27 g.1 g.2 ht.1 h27 Pile.rf hc hs h6
    rw [← y5 m hm2] at this
    exact this
theorem in_6 {fa : CS → Option Nat → Int32 → Int32 → Int32 → Int64 × CS} {fo : CS → Option Nat → Int32 → Int32 → Int32 → Prop} (G : Good k w ra wa fa fo (p + 1)) (hp : p < 24) (hk : k < 4000) (hw : w < 4000) {j st : Nat} {lo wy : Int32} (ht : Top p j lo wy 0 T) (hc : Core k w ra wa S T) (hs : SR st S T) (h6 : qI S 6 = 0) (h27 : T.1 27 = 0) (hj : j < k) (e6 : T.2.1 6 j = nI 6) : ok_X1_answerByKind fa fo S (ra j) lo wy (nI (p + 1)) ∧ Out k w ra wa p T (p_X1_answerByKind fa S (ra j) lo wy (nI (p + 1))) T := by
  obtain ⟨hm, e0, d1, d2, d3, d4, d5, d6, d7, d8, d9, d10⟩ := rk_of hc hj e6 (by omega)
  have A := abk_6 (fa := fa) (fo := fo) (lo := lo) (wy := wy) (o := nI (p + 1)) e0 hm
  rw [A.1]
  have en : (T.2.2.1 10 j).toInt32 = qRI S 1 (ra j) := by rw [d1 (by omega) (by omega), t32]
  obtain ⟨c1, c2, T3, st3, r1, r2, r3, r4, r5, r6, r7, r8⟩ := child G hp ht hc hs h6 h27 (d5 (by omega) (by omega)) lo (qRI S 1 (ra j))
  have g := go_6_0 ht (by omega) hp e6
  rw [en] at g
  refine ⟨A.2 c1, ?_⟩
  have e63 : T3.2.1 6 j = nI 6 := by rw [r3.2.1]; exact e6
  exact (last hp (by omega) r2 e63 (by omega) (by omega) (go_6_1 r2 (by omega) hp e63) (fun z => by omega) r3 r5 r6 r7 r8).step ((step_go hp ht h27 (g.2 c2) g.1).trans r1)
theorem in_9 {fa : CS → Option Nat → Int32 → Int32 → Int32 → Int64 × CS} {fo : CS → Option Nat → Int32 → Int32 → Int32 → Prop} (G : Good k w ra wa fa fo (p + 1)) (hp : p < 24) (hk : k < 4000) (hw : w < 4000) {j st : Nat} {lo wy : Int32} (ht : Top p j lo wy 0 T) (hc : Core k w ra wa S T) (hs : SR st S T) (h6 : qI S 6 = 0) (h27 : T.1 27 = 0) (hj : j < k) (e6 : T.2.1 6 j = nI 9) : ok_X1_answerByKind fa fo S (ra j) lo wy (nI (p + 1)) ∧ Out k w ra wa p T (p_X1_answerByKind fa S (ra j) lo wy (nI (p + 1))) T := by
  obtain ⟨hm, e0, d1, d2, d3, d4, d5, d6, d7, d8, d9, d10⟩ := rk_of hc hj e6 (by omega)
  have A := abk_9 (fa := fa) (fo := fo) (lo := lo) (wy := wy) (o := nI (p + 1)) e0 hm
  rw [A.1]
  obtain ⟨x1, x2⟩ := d3 rfl
  rw [(rule_now x2).1] at A ⊢
  obtain ⟨i, hi, ei⟩ := vp_in_of x2 (by omega)
  have hl : Lnk k ra (qP S i) (p_X2_at T (nI i)) := by
    unfold p_X2_at
    rw [cl i (by omega)]
    rcases hc.2.2.2.2.2.1 i hi with ⟨z1, z2⟩ | ⟨q, hq, z1, z2⟩
    · rw [z1, z2]
      exact Or.inl ⟨rfl, by decide⟩
    · rw [z1, z2, nI_pred]
      exact Or.inr ⟨q, hq, rfl, rfl⟩
  obtain ⟨c1, c2, T3, st3, r1, r2, r3, r4, r5, r6, r7, r8⟩ := child G hp ht hc hs h6 h27 hl lo wy
  have g := go_9_0 ht (by omega) hp e6
  rw [x1, ei] at g
  rw [ei, cl i (by omega)]
  rw [ei, cl i (by omega)] at A
  refine ⟨A.2 ⟨(rule_now (vp_in_nI hi (by omega))).2, c1⟩, ?_⟩
  have e63 : T3.2.1 6 j = nI 9 := by rw [r3.2.1]; exact e6
  exact (last hp (by omega) r2 e63 (by omega) (by omega) (go_9_1 r2 (by omega) hp e63) (fun z => by omega) r3 r5 r6 r7 r8).step ((step_go hp ht h27 (g.2 ⟨okm_at hi, c2⟩) g.1).trans r1)
theorem in_10 {fa : CS → Option Nat → Int32 → Int32 → Int32 → Int64 × CS} {fo : CS → Option Nat → Int32 → Int32 → Int32 → Prop} (G : Good k w ra wa fa fo (p + 1)) (hp : p < 24) (hk : k < 4000) (hw : w < 4000) {j st : Nat} {lo wy : Int32} (ht : Top p j lo wy 0 T) (hc : Core k w ra wa S T) (hs : SR st S T) (h6 : qI S 6 = 0) (h27 : T.1 27 = 0) (hj : j < k) (e6 : T.2.1 6 j = nI 10) : ok_X1_answerByKind fa fo S (ra j) lo wy (nI (p + 1)) ∧ Out k w ra wa p T (p_X1_answerByKind fa S (ra j) lo wy (nI (p + 1))) T := by
  obtain ⟨hm, e0, d1, d2, d3, d4, d5, d6, d7, d8, d9, d10⟩ := rk_of hc hj e6 (by omega)
  have A := abk_10 (fa := fa) (fo := fo) (lo := lo) (wy := wy) (o := nI (p + 1)) e0 hm
  rw [A.1]
  have en : T.2.2.1 10 j = (qRI S 1 (ra j)).toInt64 := d1 (by omega) (by omega)
  by_cases hb : lo ≤ qRI S 1 (ra j)
  · rw [if_pos hb]
    obtain ⟨c1, c2, T3, st3, r1, r2, r3, r4, r5, r6, r7, r8⟩ := child G hp ht hc hs h6 h27 (d5 (by omega) (by omega)) lo wy
    have g := go_10_0a ht (by omega) hp e6 (by rw [en, lg_cmp_le, le64]; exact hb)
    refine ⟨A.2 (fun _ => c1), ?_⟩
    have e63 : T3.2.1 6 j = nI 10 := by rw [r3.2.1]; exact e6
    exact (last hp (by omega) r2 e63 (by omega) (by omega) (go_10_1 r2 (by omega) hp e63) (fun z => by omega) r3 r5 r6 r7 r8).step ((step_go hp ht h27 (g.2 c2) g.1).trans r1)
  · rw [if_neg hb]
    have g := go_10_0b ht (by omega) hp e6 (by rw [en, lg_cmp_le, le64]; exact hb)
    exact ⟨A.2 (fun z => absurd z hb), out_fails (T0 := T) (S := S) (st := st) (z := 0) hp ht.1 h27 g.1 g.2 (by decide) Pile.rf hc hs⟩
theorem in_7 {fa : CS → Option Nat → Int32 → Int32 → Int32 → Int64 × CS} {fo : CS → Option Nat → Int32 → Int32 → Int32 → Prop} (G : Good k w ra wa fa fo (p + 1)) (hp : p < 24) (hk : k < 4000) (hw : w < 4000) {j st : Nat} {lo wy : Int32} (ht : Top p j lo wy 0 T) (hc : Core k w ra wa S T) (hs : SR st S T) (h6 : qI S 6 = 0) (h27 : T.1 27 = 0) (hj : j < k) (e6 : T.2.1 6 j = nI 7) : ok_X1_answerByKind fa fo S (ra j) lo wy (nI (p + 1)) ∧ Out k w ra wa p T (p_X1_answerByKind fa S (ra j) lo wy (nI (p + 1))) T := by
  obtain ⟨hm, e0, d1, d2, d3, d4, d5, d6, d7, d8, d9, d10⟩ := rk_of hc hj e6 (by omega)
  have A := abk_7 (fa := fa) (fo := fo) (lo := lo) (wy := wy) (o := nI (p + 1)) e0 hm
  rw [A.1]
  obtain ⟨c1, c2, T3, st3, r1, r2, r3, r4, r5, r6, r7, r8⟩ := child G hp ht hc hs h6 h27 (d6 (by omega)) lo wy
  have g := go_7_0 ht (by omega) hp e6
  have s1 := step_go hp ht h27 (g.2 c2) g.1
  have e63 : T3.2.1 6 j = nI 7 := by rw [r3.2.1]; exact e6
  obtain ⟨x1, hx1⟩ : ∃ z, z = fa S (qRO S 4 (ra j)) lo wy (nI (p + 1)) := ⟨_, rfl⟩
  unfold p_X1_answerFed
  have okf : ok_X1_answerFed fa fo S (ra j) lo wy (nI (p + 1)) ↔ ((ra j ∈ qL S ∧ qK S (ra j) = true) ∧ fo S (qRO S 4 (ra j)) lo wy (nI (p + 1)) ∧ (qI x1.2 6 = 0 → (ra j ∈ qL x1.2 ∧ qK x1.2 (ra j) = true) ∧ fo x1.2 (qRO x1.2 3 (ra j)) x1.1.toInt32 wy (nI (p + 1)) ∧ True) ∧ (¬ qI x1.2 6 = 0 → True)) := by rw [hx1]; rfl
  rw [okf] at A
  rw [← hx1] at r5 r6 r7 r8 ⊢
  by_cases hf : T3.1 27 = 0
  · have q6 : qI x1.2 6 = 0 := r7.trans hf
    rw [if_pos q6]
    obtain ⟨hm2, f0, f1, f2, f3, f4, f5, -⟩ := rk_of r5 hj e63 (by omega)
    obtain ⟨c3, c4, T5, st5, u1, u2, u3, u4, u5, u6, u7, u8⟩ := child G hp r2 r5 r6 q6 hf (f5 (by omega) (by omega)) x1.1.toInt32 wy
    have g2 := go_7_1 r2 (by omega) hp e63
    rw [r8 hf] at g2
    have e65 : T5.2.1 6 j = nI 7 := by rw [u3.2.1]; exact e63
    refine ⟨A.2 ⟨hm, c1, fun _ => ⟨hm2, c3, trivial⟩, fun _ => trivial⟩, ?_⟩
    exact (last hp (by omega) u2 e65 (by omega) (by omega) (go_7_2 u2 (by omega) hp e65) (fun z => by omega) (r3.trans u3) u5 u6 u7 u8).step (s1.trans (r1.trans ((step_go hp r2 hf (g2.2 c4) g2.1).trans u1)))
  · have q6 : ¬ qI x1.2 6 = 0 := fun z => hf (r7.symm.trans z)
    rw [if_neg q6]
    exact ⟨A.2 ⟨hm, c1, fun z => absurd z q6, fun _ => trivial⟩, (out_pop (z := 0) (S := x1.2) (st := st3) hp (by omega) r2 hf e63 (by omega) (by omega) (fun z => by omega) r3 r5 r6 r7).step (s1.trans r1)⟩
theorem in_5 {fa : CS → Option Nat → Int32 → Int32 → Int32 → Int64 × CS} {fo : CS → Option Nat → Int32 → Int32 → Int32 → Prop} (G : Good k w ra wa fa fo (p + 1)) (hp : p < 24) (hk : k < 4000) (hw : w < 4000) {j st : Nat} {lo wy : Int32} (ht : Top p j lo wy 0 T) (hc : Core k w ra wa S T) (hs : SR st S T) (h6 : qI S 6 = 0) (h27 : T.1 27 = 0) (hj : j < k) (e6 : T.2.1 6 j = nI 5) : ok_X1_answerByKind fa fo S (ra j) lo wy (nI (p + 1)) ∧ Out k w ra wa p T (p_X1_answerByKind fa S (ra j) lo wy (nI (p + 1))) T := by
  obtain ⟨hm, e0, d1, d2, d3, d4, d5, d6, d7, d8, d9, d10⟩ := rk_of hc hj e6 (by omega)
  have A := abk_5 (fa := fa) (fo := fo) (lo := lo) (wy := wy) (o := nI (p + 1)) e0 hm
  rw [A.1]
  obtain ⟨c1, c2, T3, st3, r1, r2, r3, r4, r5, r6, r7, r8⟩ := child G hp ht hc hs h6 h27 (d5 (by omega) (by omega)) lo wy
  have g := go_5_0 ht (by omega) hp e6
  have s1 := step_go hp ht h27 (g.2 c2) g.1
  have e63 : T3.2.1 6 j = nI 5 := by rw [r3.2.1]; exact e6
  obtain ⟨x1, hx1⟩ : ∃ z, z = fa S (qRO S 3 (ra j)) lo wy (nI (p + 1)) := ⟨_, rfl⟩
  unfold p_X1_answerWhen
  have okf : ok_X1_answerWhen fa fo S (ra j) lo wy (nI (p + 1)) ↔ ((ra j ∈ qL S ∧ qK S (ra j) = true) ∧ fo S (qRO S 3 (ra j)) lo wy (nI (p + 1)) ∧ (qI x1.2 6 = 0 → (lg_cmp x1.1 0 ≤ 0 → (ra j ∈ qL x1.2 ∧ qK x1.2 (ra j) = true) ∧ fo x1.2 (qRO x1.2 5 (ra j)) lo wy (nI (p + 1)) ∧ True) ∧ (¬ lg_cmp x1.1 0 ≤ 0 → (ra j ∈ qL x1.2 ∧ qK x1.2 (ra j) = true) ∧ fo x1.2 (qRO x1.2 4 (ra j)) lo wy (nI (p + 1)) ∧ True)) ∧ (¬ qI x1.2 6 = 0 → True)) := by rw [hx1]; rfl
  rw [okf] at A
  rw [← hx1] at r5 r6 r7 r8 ⊢
  by_cases hf : T3.1 27 = 0
  · have q6 : qI x1.2 6 = 0 := r7.trans hf
    rw [if_pos q6]
    obtain ⟨hm2, f0, f1, f2, f3, f4, f5, f6, f7, -⟩ := rk_of r5 hj e63 (by omega)
    by_cases hb : lg_cmp x1.1 0 ≤ 0
    · rw [if_pos hb]
      obtain ⟨c3, c4, T5, st5, u1, u2, u3, u4, u5, u6, u7, u8⟩ := child G hp r2 r5 r6 q6 hf (f7 rfl) lo wy
      have g2 := go_5_1a r2 (by omega) hp e63 (by rw [r8 hf]; exact hb)
      have e65 : T5.2.1 6 j = nI 5 := by rw [u3.2.1]; exact e63
      refine ⟨A.2 ⟨hm, c1, fun _ => ⟨fun _ => ⟨hm2, c3, trivial⟩, fun z => absurd hb z⟩, fun _ => trivial⟩, ?_⟩
      exact (last hp (by omega) u2 e65 (by omega) (by omega) (go_5_2 u2 (by omega) hp e65) (fun z => by omega) (r3.trans u3) u5 u6 u7 u8).step (s1.trans (r1.trans ((step_go hp r2 hf (g2.2 c4) g2.1).trans u1)))
    · rw [if_neg hb]
      obtain ⟨c3, c4, T5, st5, u1, u2, u3, u4, u5, u6, u7, u8⟩ := child G hp r2 r5 r6 q6 hf (f6 (by omega)) lo wy
      have g2 := go_5_1b r2 (by omega) hp e63 (by rw [r8 hf]; exact hb)
      have e65 : T5.2.1 6 j = nI 5 := by rw [u3.2.1]; exact e63
      refine ⟨A.2 ⟨hm, c1, fun _ => ⟨fun z => absurd z hb, fun _ => ⟨hm2, c3, trivial⟩⟩, fun _ => trivial⟩, ?_⟩
      exact (last hp (by omega) u2 e65 (by omega) (by omega) (go_5_2 u2 (by omega) hp e65) (fun z => by omega) (r3.trans u3) u5 u6 u7 u8).step (s1.trans (r1.trans ((step_go hp r2 hf (g2.2 c4) g2.1).trans u1)))
  · have q6 : ¬ qI x1.2 6 = 0 := fun z => hf (r7.symm.trans z)
    rw [if_neg q6]
    exact ⟨A.2 ⟨hm, c1, fun z => absurd z q6, fun _ => trivial⟩, (out_pop (z := 0) (S := x1.2) (st := st3) hp (by omega) r2 hf e63 (by omega) (by omega) (fun z => by omega) r3 r5 r6 r7).step (s1.trans r1)⟩
theorem in_8 {fa : CS → Option Nat → Int32 → Int32 → Int32 → Int64 × CS} {fo : CS → Option Nat → Int32 → Int32 → Int32 → Prop} (G : Good k w ra wa fa fo (p + 1)) (hp : p < 24) (hk : k < 4000) (hw : w < 4000) {j st : Nat} {lo wy : Int32} (ht : Top p j lo wy 0 T) (hc : Core k w ra wa S T) (hs : SR st S T) (h6 : qI S 6 = 0) (h27 : T.1 27 = 0) (hj : j < k) (e6 : T.2.1 6 j = nI 8) : ok_X1_answerByKind fa fo S (ra j) lo wy (nI (p + 1)) ∧ Out k w ra wa p T (p_X1_answerByKind fa S (ra j) lo wy (nI (p + 1))) T := by
  obtain ⟨hm, e0, d1, d2, d3, d4, d5, d6, d7, d8, d9, d10⟩ := rk_of hc hj e6 (by omega)
  have A := abk_8 (fa := fa) (fo := fo) (lo := lo) (wy := wy) (o := nI (p + 1)) e0 hm
  rw [A.1]
  obtain ⟨c1, c2, T3, st3, r1, r2, r3, r4, r5, r6, r7, r8⟩ := child G hp ht hc hs h6 h27 (d5 (by omega) (by omega)) lo wy
  have g := go_8_0 ht (by omega) hp e6
  have s1 := step_go hp ht h27 (g.2 c2) g.1
  have e63 : T3.2.1 6 j = nI 8 := by rw [r3.2.1]; exact e6
  obtain ⟨x1, hx1⟩ : ∃ z, z = fa S (qRO S 3 (ra j)) lo wy (nI (p + 1)) := ⟨_, rfl⟩
  unfold p_X1_answerGuarded
  have okf : ok_X1_answerGuarded fa fo S (ra j) lo wy (nI (p + 1)) ↔ ((ra j ∈ qL S ∧ qK S (ra j) = true) ∧ fo S (qRO S 3 (ra j)) lo wy (nI (p + 1)) ∧ (qI x1.2 6 = 0 → True) ∧ (¬ qI x1.2 6 = 0 → (qI x1.2 6 = -6 → True) ∧ (¬ qI x1.2 6 = -6 → (qI x1.2 6 = -7 → True) ∧ (¬ qI x1.2 6 = -7 → (ra j ∈ qL x1.2 ∧ qK x1.2 (ra j) = true) ∧ fo (csI x1.2 6 0) (qRO x1.2 4 (ra j)) lo wy (nI (p + 1)) ∧ True)))) := by rw [hx1]; rfl
  rw [okf] at A
  rw [← hx1] at r5 r6 r7 r8 ⊢
  have fin : (T3.1 27 = 0 ∨ T3.1 27 = -6 ∨ T3.1 27 = -7) → Out k w ra wa p T x1 T := fun hh => (last hp (by omega) r2 e63 (by omega) (by omega) (go_8_1 r2 (by omega) hp e63) (fun _ _ z => hh.resolve_left z) r3 r5 r6 r7 r8).step (s1.trans r1)
  by_cases hf : T3.1 27 = 0
  · have q6 : qI x1.2 6 = 0 := r7.trans hf
    rw [if_pos q6]
    exact ⟨A.2 ⟨hm, c1, fun _ => trivial, fun z => absurd q6 z⟩, fin (Or.inl hf)⟩
  have q6 : ¬ qI x1.2 6 = 0 := fun z => hf (r7.symm.trans z)
  rw [if_neg q6]
  by_cases hf6 : T3.1 27 = -6
  · have q66 : qI x1.2 6 = -6 := r7.trans hf6
    rw [if_pos q66]
    exact ⟨A.2 ⟨hm, c1, fun z => absurd z q6, fun _ => ⟨fun _ => trivial, fun z => absurd q66 z⟩⟩, fin (Or.inr (Or.inl hf6))⟩
  have q66 : ¬ qI x1.2 6 = -6 := fun z => hf6 (r7.symm.trans z)
  rw [if_neg q66]
  by_cases hf7 : T3.1 27 = -7
  · have q67 : qI x1.2 6 = -7 := r7.trans hf7
    rw [if_pos q67]
    exact ⟨A.2 ⟨hm, c1, fun z => absurd z q6, fun _ => ⟨fun z => absurd z q66, fun _ => ⟨fun _ => trivial, fun z => absurd q67 z⟩⟩⟩, fin (Or.inr (Or.inr hf7))⟩
  have q67 : ¬ qI x1.2 6 = -7 := fun z => hf7 (r7.symm.trans z)
  rw [if_neg q67]
  obtain ⟨hm2, f0, f1, f2, f3, f4, f5, f6, -⟩ := rk_of r5 hj e63 (by omega)
  obtain ⟨T4, hT4⟩ : ∃ z, z = msI T3 27 0 := ⟨_, rfl⟩
  have t27 : T4.1 27 = 0 := by rw [hT4]; exact msI_eq _ _ _
  have tn : ∀ m, m ≠ 27 → T4.1 m = T3.1 m := fun m hm => by rw [hT4]; exact msI_ne _ _ _ _ hm
  have t2 : T4.2 = T3.2 := by rw [hT4]
  have ct : Core k w ra wa (csI x1.2 6 0) T4 := by rw [hT4]; exact (r5.s6 0).i27 _
  have top4 : Top p j lo wy 1 T4 := ⟨by rw [tn 20 (by decide)]; exact r2.1, by rw [t2]; exact r2.2.1, by rw [t2]; exact r2.2.2.1, by rw [t2]; exact r2.2.2.2.1, by rw [t2]; exact r2.2.2.2.2⟩
  have gm := guard_m hp (by omega) r2 e63 hf6 hf7
  rw [← hT4] at gm
  have lk : Lnk k ra (qRO x1.2 4 (ra j)) (T3.2.1 8 j) := f6 (by omega)
  obtain ⟨c3, c4, T5, st5, u1, u2, u3, u4, u5, u6, u7, u8⟩ := child G hp top4 ct ⟨r6.1, (qI_csI_ne x1.2 6 4 0 (by decide)).trans r6.2.1, by rw [tn 18 (by decide)]; exact r6.2.2⟩ (qI_csI_eq _ _ _) t27 lk lo wy
  have e65 : T5.2.1 6 j = nI 8 := by rw [u3.2.1, t2]; exact e63
  have p34 : Pile p T3 T4 := ⟨tn 17 (by decide), by rw [t2], fun m _ => by rw [t2]; exact ⟨rfl, rfl, rfl, rfl, rfl⟩⟩
  have s3 : Rs T3 (p_X2_asks T4 (T3.2.1 8 j) lo wy) := Rs.one (by rw [r2.1]; exact piled_pos (by omega)) (by unfold okst; rw [if_neg hf]; exact gm.2 c4) (by unfold stp; rw [if_neg hf, gm.1])
  refine ⟨A.2 ⟨hm, c1, fun z => absurd z q6, fun _ => ⟨fun z => absurd z q66, fun _ => ⟨fun z => absurd z q67, fun _ => ⟨hm2, c3, trivial⟩⟩⟩⟩, ?_⟩
  exact (last hp (by omega) u2 e65 (by omega) (by omega) (go_8_2 u2 (by omega) hp e65) (fun _ z => by omega) (r3.trans (p34.trans u3)) u5 u6 u7 u8).step (s1.trans (r1.trans (s3.trans u1)))
end IN
