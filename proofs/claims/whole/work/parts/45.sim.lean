/-! how the two sides belong together: k rules made, rule j of the reference is the cell ra j; w rows, row j is the cell wa j -/
def RuleR (k w : Nat) (ra wa : Nat → Nat) (S : CS) (T : MS) (j : Nat) : Prop :=
  ra j ∈ qL S ∧ qK S (ra j) = true ∧ ∃ n : Nat, n ≤ 12 ∧ T.2.1 6 j = nI n ∧ qRI S 0 (ra j) = nI n ∧
    (n ≠ 2 → n ≠ 9 → T.2.2.1 10 j = (qRI S 1 (ra j)).toInt64) ∧
    (n = 2 → T.2.1 7 j = qRI S 1 (ra j) ∧ vp_in (qRI S 1 (ra j)) 8) ∧
    (n = 9 → T.2.1 7 j = qRI S 1 (ra j) ∧ vp_in (qRI S 1 (ra j)) 16) ∧
    (n = 3 → ∃ i, i < w ∧ T.2.1 7 j = nI i ∧ qRO S 2 (ra j) = some (wa i)) ∧
    (4 ≤ n → n ≠ 9 → ∃ i, i < k ∧ T.2.1 7 j = nI i ∧ qRO S 3 (ra j) = some (ra i)) ∧
    (n = 4 ∨ n = 5 ∨ n = 7 ∨ n = 8 → ∃ i, i < k ∧ T.2.1 8 j = nI i ∧ qRO S 4 (ra j) = some (ra i)) ∧
    (n = 5 → ∃ i, i < k ∧ T.2.1 9 j = nI i ∧ qRO S 5 (ra j) = some (ra i)) ∧
    T.2.1 11 j = qRI S 6 (ra j) ∧ T.2.1 12 j = qRI S 7 (ra j) ∧
    (¬ qRI S 7 (ra j) = 0 → T.2.1 13 j = qRI S 8 (ra j) ∧ T.2.1 14 j = qRI S 9 (ra j) ∧ T.2.2.1 15 j = qRJ S (ra j))
def RowR (wa : Nat → Nat) (S : CS) (T : MS) (j : Nat) : Prop :=
  wa j ∈ qL S ∧ qK S (wa j) = false ∧ T.2.1 2 j = nI (qWL S (wa j)) ∧ qWL S (wa j) ≤ 8 ∧ ∀ i, i < qWL S (wa j) → qWA S (wa j) i = T.2.1 3 (8 * j + i)
def PlaceR (k : Nat) (ra : Nat → Nat) (S : CS) (T : MS) (i : Nat) : Prop :=
  (qP S i = none ∧ T.2.1 16 i = 0) ∨ ∃ j, j < k ∧ qP S i = some (ra j) ∧ T.2.1 16 i = nI (j + 1)
def Sim (k w : Nat) (ra wa : Nat → Nat) (S : CS) (T : MS) : Prop :=
  (T.1 5 = nI k ∧ qI S 3 = nI k ∧ T.1 4 = nI w) ∧ (qI S 4 = T.1 18 ∧ qI S 5 = T.1 19 ∧ qI S 6 = T.1 17) ∧
  (∀ i, i < 8 → qR S i = T.2.1 0 i) ∧ (∀ i, i < 4 → ∃ j, j < w ∧ T.2.1 1 i = nI j ∧ qW S i = some (wa j)) ∧
  (∀ j, j < w → RowR wa S T j) ∧ (∀ i, i < 16 → PlaceR k ra S T i) ∧ (∀ j, j < k → RuleR k w ra wa S T j) ∧
  (∀ i j, i < k → j < k → ra i = ra j → i = j) ∧ (∀ i j, i < w → j < w → wa i = wa j → i = j)
def SimN (c : Nat) (S : CS) (T : MS) : Prop := ∃ (k w : Nat) (ra wa : Nat → Nat), k ≤ c ∧ w ≤ 4 + c ∧ Sim k w ra wa S T
