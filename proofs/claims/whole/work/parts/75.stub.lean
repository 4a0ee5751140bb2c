theorem okc_rate {c : Nat} {S : CS} {T : MS} (h : SimN c S T) (hc : c < 512) (a1 a2 : Int32) : ok_X1_rate S a1 a2 := by sorry
theorem okm_rate {c : Nat} {S : CS} {T : MS} (h : SimN c S T) (hc : c < 512) (a1 a2 : Int32) : ok_X2_rate T a1 a2 := by sorry
theorem L_rate {c : Nat} {S : CS} {T : MS} (h : SimN c S T) (hc : c < 512) (a1 a2 : Int32) {r1 r2 : Int32} {u1 : CS} {u2 : MS} (h1 : (r1, u1) = p_X1_rate S a1 a2) (h2 : (r2, u2) = p_X2_rate T a1 a2) : r1 = r2 ∧ SimN (c + 1) u1 u2 := by sorry
theorem okc_fresh {c : Nat} {S : CS} {T : MS} (h : SimN c S T) (hc : c < 512) (a1 a2 : Int32) : ok_X1_fresh S a1 a2 := by sorry
theorem okm_fresh {c : Nat} {S : CS} {T : MS} (h : SimN c S T) (hc : c < 512) (a1 a2 : Int32) : ∃ N, ok_X2_fresh N T a1 a2 := by sorry
theorem L_fresh {c : Nat} {S : CS} {T : MS} (h : SimN c S T) (hc : c < 512) (a1 a2 : Int32) (N2 : Nat) (hN2 : ok_X2_fresh N2 T a1 a2) {r1 r2 : Int32} {u1 : CS} {u2 : MS} (h1 : s_X1_fresh S a1 a2 r1 u1) (h2 : (r2, u2) = p_X2_fresh N2 T a1 a2) : r1 = r2 ∧ SimN (c + 1) u1 u2 := by sorry
theorem okc_book {c : Nat} {S : CS} {T : MS} (h : SimN c S T) (hc : c < 512) (a1 a2 a3 : Int32) : ok_X1_book S a1 a2 a3 := by sorry
theorem okm_book {c : Nat} {S : CS} {T : MS} (h : SimN c S T) (hc : c < 512) (a1 a2 a3 : Int32) : ok_X2_book T a1 a2 a3 := by sorry
theorem L_book {c : Nat} {S : CS} {T : MS} (h : SimN c S T) (hc : c < 512) (a1 a2 a3 : Int32) {r1 r2 : Int32} {u1 : CS} {u2 : MS} (h1 : (r1, u1) = p_X1_book S a1 a2 a3) (h2 : (r2, u2) = p_X2_book T a1 a2 a3) : r1 = r2 ∧ SimN (c + 1) u1 u2 := by sorry
theorem okc_flat {c : Nat} {S : CS} {T : MS} (h : SimN c S T) (hc : c < 512) (a1 a2 : Int32) : ok_X1_flat S a1 a2 := by sorry
theorem okm_flat {c : Nat} {S : CS} {T : MS} (h : SimN c S T) (hc : c < 512) (a1 a2 : Int32) : ok_X2_flat T a1 a2 := by sorry
theorem L_flat {c : Nat} {S : CS} {T : MS} (h : SimN c S T) (hc : c < 512) (a1 a2 : Int32) {r1 r2 : Int32} {u1 : CS} {u2 : MS} (h1 : s_X1_flat S a1 a2 r1 u1) (h2 : (r2, u2) = p_X2_flat T a1 a2) : r1 = r2 ∧ SimN (c + 1) u1 u2 := by sorry
theorem okc_rated {c : Nat} {S : CS} {T : MS} (h : SimN c S T) (hc : c < 512) (a1 a2 : Int32) : ok_X1_rated S a1 a2 := by sorry
theorem okm_rated {c : Nat} {S : CS} {T : MS} (h : SimN c S T) (hc : c < 512) (a1 a2 : Int32) : ok_X2_rated T a1 a2 := by sorry
theorem L_rated {c : Nat} {S : CS} {T : MS} (h : SimN c S T) (hc : c < 512) (a1 a2 : Int32) {r1 r2 : Int32} {u1 : CS} {u2 : MS} (h1 : s_X1_rated S a1 a2 r1 u1) (h2 : (r2, u2) = p_X2_rated T a1 a2) : r1 = r2 ∧ SimN (c + 1) u1 u2 := by sorry
theorem okc_live {c : Nat} {S : CS} {T : MS} (h : SimN c S T) (hc : c < 512) (a1 a2 : Int32) : ok_X1_live S a1 a2 := by sorry
theorem okm_live {c : Nat} {S : CS} {T : MS} (h : SimN c S T) (hc : c < 512) (a1 a2 : Int32) : ok_X2_live T a1 a2 := by sorry
theorem L_live {c : Nat} {S : CS} {T : MS} (h : SimN c S T) (hc : c < 512) (a1 a2 : Int32) {r1 r2 : Int32} {u1 : CS} {u2 : MS} (h1 : s_X1_live S a1 a2 r1 u1) (h2 : (r2, u2) = p_X2_live T a1 a2) : r1 = r2 ∧ SimN (c + 1) u1 u2 := by sorry
theorem okc_booked {c : Nat} {S : CS} {T : MS} (h : SimN c S T) (hc : c < 512) (a1 a2 : Int32) : ok_X1_booked S a1 a2 := by sorry
theorem okm_booked {c : Nat} {S : CS} {T : MS} (h : SimN c S T) (hc : c < 512) (a1 a2 : Int32) : ok_X2_booked T a1 a2 := by sorry
theorem L_booked {c : Nat} {S : CS} {T : MS} (h : SimN c S T) (hc : c < 512) (a1 a2 : Int32) {r1 r2 : Int32} {u1 : CS} {u2 : MS} (h1 : s_X1_booked S a1 a2 r1 u1) (h2 : (r2, u2) = p_X2_booked T a1 a2) : r1 = r2 ∧ SimN (c + 1) u1 u2 := by sorry
theorem okc_joined {c : Nat} {S : CS} {T : MS} (h : SimN c S T) (hc : c < 512) (a1 a2 a3 a4 : Int32) : ok_X1_joined S a1 a2 a3 a4 := by sorry
theorem okm_joined {c : Nat} {S : CS} {T : MS} (h : SimN c S T) (hc : c < 512) (a1 a2 a3 a4 : Int32) : ok_X2_joined T a1 a2 a3 a4 := by sorry
theorem L_joined {c : Nat} {S : CS} {T : MS} (h : SimN c S T) (hc : c < 512) (a1 a2 a3 a4 : Int32) {r1 r2 : Int32} {u1 : CS} {u2 : MS} (h1 : s_X1_joined S a1 a2 a3 a4 r1 u1) (h2 : (r2, u2) = p_X2_joined T a1 a2 a3 a4) : r1 = r2 ∧ SimN (c + 1) u1 u2 := by sorry
theorem okc_when {c : Nat} {S : CS} {T : MS} (h : SimN c S T) (hc : c < 512) (a1 a2 a3 a4 : Int32) : ok_X1_when S a1 a2 a3 a4 := by sorry
theorem okm_when {c : Nat} {S : CS} {T : MS} (h : SimN c S T) (hc : c < 512) (a1 a2 a3 a4 : Int32) : ok_X2_when T a1 a2 a3 a4 := by sorry
theorem L_when {c : Nat} {S : CS} {T : MS} (h : SimN c S T) (hc : c < 512) (a1 a2 a3 a4 : Int32) {r1 r2 : Int32} {u1 : CS} {u2 : MS} (h1 : s_X1_when S a1 a2 a3 a4 r1 u1) (h2 : (r2, u2) = p_X2_when T a1 a2 a3 a4) : r1 = r2 ∧ SimN (c + 1) u1 u2 := by sorry
theorem okc_fixed {c : Nat} {S : CS} {T : MS} (h : SimN c S T) (hc : c < 512) (a1 a2 a3 : Int32) : ok_X1_fixed S a1 a2 a3 := by sorry
theorem okm_fixed {c : Nat} {S : CS} {T : MS} (h : SimN c S T) (hc : c < 512) (a1 a2 a3 : Int32) : ok_X2_fixed T a1 a2 a3 := by sorry
theorem L_fixed {c : Nat} {S : CS} {T : MS} (h : SimN c S T) (hc : c < 512) (a1 a2 a3 : Int32) {r1 r2 : Int32} {u1 : CS} {u2 : MS} (h1 : s_X1_fixed S a1 a2 a3 r1 u1) (h2 : (r2, u2) = p_X2_fixed T a1 a2 a3) : r1 = r2 ∧ SimN (c + 1) u1 u2 := by sorry
theorem okc_fed {c : Nat} {S : CS} {T : MS} (h : SimN c S T) (hc : c < 512) (a1 a2 a3 : Int32) : ok_X1_fed S a1 a2 a3 := by sorry
theorem okm_fed {c : Nat} {S : CS} {T : MS} (h : SimN c S T) (hc : c < 512) (a1 a2 a3 : Int32) : ok_X2_fed T a1 a2 a3 := by sorry
theorem L_fed {c : Nat} {S : CS} {T : MS} (h : SimN c S T) (hc : c < 512) (a1 a2 a3 : Int32) {r1 r2 : Int32} {u1 : CS} {u2 : MS} (h1 : s_X1_fed S a1 a2 a3 r1 u1) (h2 : (r2, u2) = p_X2_fed T a1 a2 a3) : r1 = r2 ∧ SimN (c + 1) u1 u2 := by sorry
theorem okc_guarded {c : Nat} {S : CS} {T : MS} (h : SimN c S T) (hc : c < 512) (a1 a2 a3 : Int32) : ok_X1_guarded S a1 a2 a3 := by sorry
theorem okm_guarded {c : Nat} {S : CS} {T : MS} (h : SimN c S T) (hc : c < 512) (a1 a2 a3 : Int32) : ok_X2_guarded T a1 a2 a3 := by sorry
theorem L_guarded {c : Nat} {S : CS} {T : MS} (h : SimN c S T) (hc : c < 512) (a1 a2 a3 : Int32) {r1 r2 : Int32} {u1 : CS} {u2 : MS} (h1 : s_X1_guarded S a1 a2 a3 r1 u1) (h2 : (r2, u2) = p_X2_guarded T a1 a2 a3) : r1 = r2 ∧ SimN (c + 1) u1 u2 := by sorry
theorem okc_called {c : Nat} {S : CS} {T : MS} (h : SimN c S T) (hc : c < 512) (a1 a2 : Int32) : ok_X1_called S a1 a2 := by sorry
theorem okm_called {c : Nat} {S : CS} {T : MS} (h : SimN c S T) (hc : c < 512) (a1 a2 : Int32) : ok_X2_called T a1 a2 := by sorry
theorem L_called {c : Nat} {S : CS} {T : MS} (h : SimN c S T) (hc : c < 512) (a1 a2 : Int32) {r1 r2 : Int32} {u1 : CS} {u2 : MS} (h1 : s_X1_called S a1 a2 r1 u1) (h2 : (r2, u2) = p_X2_called T a1 a2) : r1 = r2 ∧ SimN (c + 1) u1 u2 := by sorry
theorem okc_barred {c : Nat} {S : CS} {T : MS} (h : SimN c S T) (hc : c < 512) (a1 a2 a3 : Int32) : ok_X1_barred S a1 a2 a3 := by sorry
theorem okm_barred {c : Nat} {S : CS} {T : MS} (h : SimN c S T) (hc : c < 512) (a1 a2 a3 : Int32) : ok_X2_barred T a1 a2 a3 := by sorry
theorem L_barred {c : Nat} {S : CS} {T : MS} (h : SimN c S T) (hc : c < 512) (a1 a2 a3 : Int32) {r1 r2 : Int32} {u1 : CS} {u2 : MS} (h1 : s_X1_barred S a1 a2 a3 r1 u1) (h2 : (r2, u2) = p_X2_barred T a1 a2 a3) : r1 = r2 ∧ SimN (c + 1) u1 u2 := by sorry
theorem okc_counted {c : Nat} {S : CS} {T : MS} (h : SimN c S T) (hc : c < 512) (a1 a2 : Int32) : ok_X1_counted S a1 a2 := by sorry
theorem okm_counted {c : Nat} {S : CS} {T : MS} (h : SimN c S T) (hc : c < 512) (a1 a2 : Int32) : ok_X2_counted T a1 a2 := by sorry
theorem L_counted {c : Nat} {S : CS} {T : MS} (h : SimN c S T) (hc : c < 512) (a1 a2 : Int32) {r1 r2 : Int32} {u1 : CS} {u2 : MS} (h1 : s_X1_counted S a1 a2 r1 u1) (h2 : (r2, u2) = p_X2_counted T a1 a2) : r1 = r2 ∧ SimN (c + 1) u1 u2 := by sorry
theorem okc_kept {c : Nat} {S : CS} {T : MS} (h : SimN c S T) (hc : c < 512) (a1 a2 : Int32) : ok_X1_kept S a1 a2 := by sorry
theorem okm_kept {c : Nat} {S : CS} {T : MS} (h : SimN c S T) (hc : c < 512) (a1 a2 : Int32) : ok_X2_kept T a1 a2 := by sorry
theorem L_kept {c : Nat} {S : CS} {T : MS} (h : SimN c S T) (hc : c < 512) (a1 a2 : Int32) {r1 r2 : Int32} {u1 : CS} {u2 : MS} (h1 : s_X1_kept S a1 a2 r1 u1) (h2 : (r2, u2) = p_X2_kept T a1 a2) : r1 = r2 ∧ SimN (c + 1) u1 u2 := by sorry
theorem okc_put {c : Nat} {S : CS} {T : MS} (h : SimN c S T) (hc : c < 512) (a1 a2 : Int32) : ok_X1_put S a1 a2 := by sorry
theorem okm_put {c : Nat} {S : CS} {T : MS} (h : SimN c S T) (hc : c < 512) (a1 a2 : Int32) : ok_X2_put T a1 a2 := by sorry
theorem L_put {c : Nat} {S : CS} {T : MS} (h : SimN c S T) (hc : c < 512) (a1 a2 : Int32) {r1 r2 : Int32} {u1 : CS} {u2 : MS} (h1 : (r1, u1) = p_X1_put S a1 a2) (h2 : (r2, u2) = p_X2_put T a1 a2) : r1 = r2 ∧ SimN (c + 1) u1 u2 := by sorry
theorem okc_take {c : Nat} {S : CS} {T : MS} (h : SimN c S T) (hc : c < 512) (a1 : Int32) : ok_X1_take S a1 := by sorry
theorem okm_take {c : Nat} {S : CS} {T : MS} (h : SimN c S T) (hc : c < 512) (a1 : Int32) : ok_X2_take T a1 := by sorry
theorem L_take {c : Nat} {S : CS} {T : MS} (h : SimN c S T) (hc : c < 512) (a1 : Int32) {r1 r2 : Int32} {u1 : CS} {u2 : MS} (h1 : (r1, u1) = p_X1_take S a1) (h2 : (r2, u2) = p_X2_take T a1) : r1 = r2 ∧ SimN (c + 1) u1 u2 := by sorry
theorem okc_ask {c : Nat} {S : CS} {T : MS} (h : SimN c S T) (hc : c < 512) (a1 a2 a3 : Int32) : ok_X1_ask 26 S a1 a2 a3 := by sorry
theorem okm_ask {c : Nat} {S : CS} {T : MS} (h : SimN c S T) (hc : c < 512) (a1 a2 a3 : Int32) : ∃ N, ok_X2_ask N T a1 a2 a3 := by sorry
theorem L_ask {c : Nat} {S : CS} {T : MS} (h : SimN c S T) (hc : c < 512) (a1 a2 a3 : Int32) (N2 : Nat) (hN2 : ok_X2_ask N2 T a1 a2 a3) {r1 r2 : Int64} {u1 : CS} {u2 : MS} (h1 : (r1, u1) = p_X1_ask 26 S a1 a2 a3) (h2 : (r2, u2) = p_X2_ask N2 T a1 a2 a3) : r1 = r2 ∧ SimN (c + 1) u1 u2 := by sorry
theorem okc_failed {c : Nat} {S : CS} {T : MS} (h : SimN c S T) (hc : c < 512) : ok_X1_failed S := by sorry
theorem okm_failed {c : Nat} {S : CS} {T : MS} (h : SimN c S T) (hc : c < 512) : ok_X2_failed T := by sorry
theorem L_failed {c : Nat} {S : CS} {T : MS} (h : SimN c S T) (hc : c < 512) {r1 r2 : Int32} {u1 : CS} {u2 : MS} (h1 : r1 = p_X1_failed S ∧ u1 = S) (h2 : r2 = p_X2_failed T ∧ u2 = T) : r1 = r2 ∧ SimN (c + 1) u1 u2 := by sorry
theorem okc_same {c : Nat} {S : CS} {T : MS} (h : SimN c S T) (hc : c < 512) (a1 a2 : Int32) : ok_X1_same S a1 a2 := by sorry
theorem okm_same {c : Nat} {S : CS} {T : MS} (h : SimN c S T) (hc : c < 512) (a1 a2 : Int32) : ok_X2_same T a1 a2 := by sorry
theorem L_same {c : Nat} {S : CS} {T : MS} (h : SimN c S T) (hc : c < 512) (a1 a2 : Int32) {r1 r2 : Int32} {u1 : CS} {u2 : MS} (h1 : r1 = p_X1_same S a1 a2 ∧ u1 = S) (h2 : r2 = p_X2_same T a1 a2 ∧ u2 = T) : r1 = r2 ∧ SimN (c + 1) u1 u2 := by sorry
theorem okc_count {c : Nat} {S : CS} {T : MS} (h : SimN c S T) (hc : c < 512) (a1 : Int32) : ok_X1_count S a1 := by sorry
theorem okm_count {c : Nat} {S : CS} {T : MS} (h : SimN c S T) (hc : c < 512) (a1 : Int32) : ok_X2_count T a1 := by sorry
theorem L_count {c : Nat} {S : CS} {T : MS} (h : SimN c S T) (hc : c < 512) (a1 : Int32) {r1 r2 : Int32} {u1 : CS} {u2 : MS} (h1 : r1 = p_X1_count S a1 ∧ u1 = S) (h2 : r2 = p_X2_count T a1 ∧ u2 = T) : r1 = r2 ∧ SimN (c + 1) u1 u2 := by sorry
theorem okc_told {c : Nat} {S : CS} {T : MS} (h : SimN c S T) (hc : c < 512) (a1 : Int32) : ∃ N, ok_X1_told N S a1 := by sorry
theorem okm_told {c : Nat} {S : CS} {T : MS} (h : SimN c S T) (hc : c < 512) (a1 : Int32) : ∃ N, ok_X2_told N T a1 := by sorry
theorem L_told {c : Nat} {S : CS} {T : MS} (h : SimN c S T) (hc : c < 512) (a1 : Int32) (N1 : Nat) (hN1 : ok_X1_told N1 S a1) (N2 : Nat) (hN2 : ok_X2_told N2 T a1) {r1 r2 : Int32} {u1 : CS} {u2 : MS} (h1 : (r1, u1) = p_X1_told N1 S a1) (h2 : (r2, u2) = p_X2_told N2 T a1) : r1 = r2 ∧ SimN (c + 1) u1 u2 := by sorry
theorem okc_clear {c : Nat} {S : CS} {T : MS} (h : SimN c S T) (hc : c < 512) : ok_X1_clear S := by sorry
theorem okm_clear {c : Nat} {S : CS} {T : MS} (h : SimN c S T) (hc : c < 512) : ∃ N, ok_X2_clear N T := by sorry
theorem L_clear {c : Nat} {S : CS} {T : MS} (h : SimN c S T) (hc : c < 512) (N2 : Nat) (hN2 : ok_X2_clear N2 T) {r1 r2 : Int32} {u1 : CS} {u2 : MS} (h1 : s_X1_clear S r1 u1) (h2 : (r2, u2) = p_X2_clear N2 T) : r1 = r2 ∧ SimN (c + 1) u1 u2 := by sorry
theorem okm_init : ∃ N, ok_X2_clear N MS0 := by sorry
theorem L_init (r : Nat → Nat) (hr : ∀ i j : Nat, i < 4 → j < 4 → r i = r j → i = j) (N : Nat) (hN : ok_X2_clear N MS0) : SimN 0 (CS0 r) (p_X2_clear N MS0).2 := by sorry
