/-! rules over others -/
theorem ip9 : p_X2_isPlace (-9) = 0 := by decide
theorem ip1 : p_X2_isPlace (-1) = 0 := by decide
theorem ag1 (T : MS) (pl a : Int32) : p_X2_against T pl a (-9) (-9) = if p_X2_isPlace pl = 0 then -1 else if p_X2_isPlace a = 0 then -1 else if p_X2_at T a < 0 then -2 else 0 := by
  unfold p_X2_against
  rw [if_pos (rfl : (-9 : Int32) = -9), if_pos (rfl : (-9 : Int32) = -9)]
theorem aw_bad {b : Int32} (h : p_X2_isPlace b = 0) : p_X2_asWanted b = -1 := by
  unfold p_X2_asWanted
  rw [if_pos h]
theorem aw_good {b : Int32} (h : ¬ p_X2_isPlace b = 0) : p_X2_asWanted b = b ∧ ¬ b = -9 := by
  unfold p_X2_asWanted
  rw [if_neg h]
  exact ⟨rfl, fun e => h (by rw [e]; exact ip9)⟩
theorem ag2 (T : MS) (pl a b : Int32) : p_X2_against T pl a (p_X2_asWanted b) (-9) = if p_X2_isPlace pl = 0 then -1 else if p_X2_isPlace a = 0 then -1 else if p_X2_isPlace b = 0 then -1 else if p_X2_at T a < 0 then -2 else if p_X2_at T b < 0 then -2 else 0 := by
  unfold p_X2_against
  by_cases hb : p_X2_isPlace b = 0
  · rw [aw_bad hb, if_neg (by decide : ¬ (-1 : Int32) = -9), if_pos ip1, if_pos hb]
  · rw [(aw_good hb).1, if_neg (aw_good hb).2, if_neg hb, if_pos (rfl : (-9 : Int32) = -9), if_neg hb]
theorem ag3 (T : MS) (pl a b c : Int32) : p_X2_against T pl a (p_X2_asWanted b) (p_X2_asWanted c) = if p_X2_isPlace pl = 0 then -1 else if p_X2_isPlace a = 0 then -1 else if p_X2_isPlace b = 0 then -1 else if p_X2_isPlace c = 0 then -1 else if p_X2_at T a < 0 then -2 else if p_X2_at T b < 0 then -2 else if 0 ≤ p_X2_at T c then 0 else -2 := by
  unfold p_X2_against
  by_cases hb : p_X2_isPlace b = 0
  · rw [aw_bad hb, if_neg (by decide : ¬ (-1 : Int32) = -9), if_pos ip1, if_pos hb]
  · rw [(aw_good hb).1, if_neg (aw_good hb).2, if_neg hb, if_neg hb]
    by_cases hc : p_X2_isPlace c = 0
    · rw [aw_bad hc, if_neg (by decide : ¬ (-1 : Int32) = -9), if_pos ip1, if_pos hc]
    · rw [(aw_good hc).1, if_neg (aw_good hc).2, if_neg hc]
theorem neg0 : ¬ (0 : Int32) ≤ -1 := by decide
theorem neg1 : ¬ (0 : Int32) ≤ -2 := by decide
/-- a place that is one: empty on both sides, or with a rule -/
theorem at_cases {k w : Nat} {ra wa : Nat → Nat} {S : CS} {T : MS} (h : Sim k w ra wa S T) (hk : k < 4000) {i : Nat} (hi : i < 16) : (qP S (nI i).toNatClampNeg = none ∧ p_X2_at T (nI i) < 0 ∧ ¬ 0 ≤ p_X2_at T (nI i)) ∨ ∃ j, j < k ∧ qP S (nI i).toNatClampNeg = some (ra j) ∧ p_X2_at T (nI i) = nI j ∧ ¬ p_X2_at T (nI i) < 0 ∧ 0 ≤ p_X2_at T (nI i) := by
  unfold p_X2_at
  rw [cl i (by omega)]
  rcases h.2.2.2.2.2.1 i hi with ⟨z1, z2⟩ | ⟨q, hq, z1, z2⟩
  · rw [z2]
    exact Or.inl ⟨z1, by decide, by decide⟩
  · rw [z2, nI_pred]
    exact Or.inr ⟨q, hq, z1, rfl, nI_pos (by omega), nI_pos' (by omega)⟩
theorem okm_at {T : MS} {i : Nat} (hi : i < 16) : ok_X2_at T (nI i) := ⟨vp_in_nI hi (by omega), trivial⟩
theorem okc_over {c : Nat} {S : CS} {T : MS} (h : SimN c S T) (hc : c < 512) (pl kd num x y z : Int32) : ok_X1_standOver S pl kd num x y z := by
  unfold ok_X1_standOver
  rcases rngP pl with ⟨h1, h2⟩ | ⟨i, hi, rfl, h1, h2⟩
  · exact ⟨fun _ => trivial, fun z => absurd h1 z⟩
  refine ⟨fun _ => trivial, fun _ => ?_⟩
  rcases rngP x with ⟨h1, h2⟩ | ⟨ix, hx, rfl, h1, h2⟩
  · exact ⟨fun _ => trivial, fun z => absurd h1 z⟩
  refine ⟨fun _ => trivial, fun _ => ?_⟩
  rcases rngP y with ⟨h1, h2⟩ | ⟨iy, hy, rfl, h1, h2⟩
  · exact ⟨fun _ => trivial, fun z => absurd h1 z⟩
  refine ⟨fun _ => trivial, fun _ => ?_⟩
  rcases rngP z with ⟨h1, h2⟩ | ⟨iz, hz, rfl, h1, h2⟩
  · exact ⟨fun _ => trivial, fun z => absurd h1 z⟩
  have vx := vp_in_nI hx (show 16 < 2 ^ 31 by omega)
  have vy := vp_in_nI hy (show 16 < 2 ^ 31 by omega)
  have vz := vp_in_nI hz (show 16 < 2 ^ 31 by omega)
  exact ⟨fun _ => trivial, fun _ => ⟨vx, fun _ => trivial, fun _ => ⟨vy, fun _ => trivial, fun _ => ⟨vz, fun _ => trivial, fun _ q hq => ⟨vx, vy, vz, okc_init_, okc_stand hi, trivial⟩⟩⟩⟩⟩
theorem okm_ag1 {T : MS} (pl x : Int32) : ok_X2_against T pl x (-9) (-9) := by
  unfold ok_X2_against
  have A : ∀ v : Int32, ¬ p_X2_isPlace v = 0 → ok_X2_at T v := fun v hv => by
    rcases rngP v with ⟨h1, h2⟩ | ⟨i, hi, rfl, h1, h2⟩
    · exact absurd h2 hv
    · exact okm_at hi
  refine ⟨fun _ => trivial, fun _ => ⟨fun _ => trivial, fun hx => ⟨fun e3 => ⟨fun e4 => ?_, fun e4 => ?_⟩, fun e3 => ⟨fun _ => trivial, fun hy => ⟨fun e4 => ?_, fun e4 => ?_⟩⟩⟩⟩⟩
  · exact ⟨A _ hx, fun _ => trivial, fun _ => trivial⟩
  · exact ⟨fun _ => trivial, fun hz => ⟨A _ hx, fun _ => trivial, fun _ => ⟨A _ hz, fun _ => trivial, fun _ => trivial⟩⟩⟩
  · exact ⟨A _ hx, fun _ => trivial, fun _ => ⟨A _ hy, fun _ => trivial, fun _ => trivial⟩⟩
  · exact ⟨fun _ => trivial, fun hz => ⟨A _ hx, fun _ => trivial, fun _ => ⟨A _ hy, fun _ => trivial, fun _ => ⟨A _ hz, fun _ => trivial, fun _ => trivial⟩⟩⟩⟩
theorem L_over1 {c : Nat} {S : CS} {T : MS} (h : SimN c S T) (hc : c < 512) (pl x : Int32) {n : Nat} (hn : n = 6 ∨ n = 10 ∨ n = 11 ∨ n = 12) {num : Int32} {N : Int64} (hN : N = num.toInt64) {r1 r2 : Int32} {u1 : CS} {u2 : MS} (h1 : s_X1_standOver S pl (nI n) num x x x r1 u1) (h2 : (r2, u2) = if 0 ≤ (p_X2_against T pl x (-9) (-9)) then ((p_X2_make T pl (nI n) (p_X2_at T x) 0 0 N).1, (p_X2_make T pl (nI n) (p_X2_at T x) 0 0 N).2) else (p_X2_against T pl x (-9) (-9), T)) : r1 = r2 ∧ SimN (c + 1) u1 u2 := by
  unfold s_X1_standOver at h1
  rw [ag1] at h2
  rcases rngP pl with ⟨e1, e2⟩ | ⟨i, hi, rfl, ci, mi⟩
  · rw [if_pos e1] at h1
    rw [if_pos e2, if_neg neg0] at h2
    obtain ⟨rfl, rfl⟩ := h1
    obtain ⟨rfl, rfl⟩ := pair_inj h2
    exact ⟨rfl, h.up⟩
  rcases rngP x with ⟨e1, e2⟩ | ⟨ix, hix, rfl, cix, mix⟩
  · rw [if_neg ci, if_pos e1] at h1
    rw [if_neg mi, if_pos e2, if_neg neg0] at h2
    obtain ⟨rfl, rfl⟩ := h1
    obtain ⟨rfl, rfl⟩ := pair_inj h2
    exact ⟨rfl, h.up⟩
  rw [if_neg ci, if_neg cix, if_neg cix, if_neg cix] at h1
  rw [if_neg mi, if_neg mix] at h2
  obtain ⟨k, w, ra, wa, hk, hw, hs⟩ := h
  rcases at_cases hs (by omega) hix with ⟨p1, p2, p3⟩ | ⟨jx, hjx, qx, tx, lx, gx⟩
  · rw [if_pos p1] at h1
    rw [if_pos p2, if_neg neg1] at h2
    obtain ⟨rfl, rfl⟩ := h1
    obtain ⟨rfl, rfl⟩ := pair_inj h2
    exact ⟨rfl, k, w, ra, wa, by omega, by omega, hs⟩
  rw [if_neg (by rw [qx]; simp), if_neg (by rw [qx]; simp), if_neg (by rw [qx]; simp)] at h1
  rw [if_neg lx, if_pos (by decide)] at h2
  obtain ⟨q, hq, rfl, rfl⟩ := h1
  obtain ⟨rfl, rfl⟩ := pair_inj h2
  rw [qx, tx]
  have m := sim_make hs (by omega) hq hi (n := n) (by omega) (num := num) (a := nI jx) (b := 0) (c := 0) (row := none) (f := some (ra jx)) (s := some (ra jx)) (t := some (ra jx)) (N := N) (fun _ _ => hN) (fun z => by omega) (fun z => by omega) (fun z => by omega) (fun _ _ => ⟨jx, hjx, rfl, rfl⟩) (fun z => by omega) (fun z => by omega)
  exact ⟨m.1, k + 1, w, _, wa, by omega, by omega, m.2⟩
theorem okm_ag2 {T : MS} (pl x y : Int32) : ok_X2_against T pl x (p_X2_asWanted y) (-9) := by
  unfold ok_X2_against
  have A : ∀ v : Int32, ¬ p_X2_isPlace v = 0 → ok_X2_at T v := fun v hv => by
    rcases rngP v with ⟨h1, h2⟩ | ⟨i, hi, rfl, h1, h2⟩
    · exact absurd h2 hv
    · exact okm_at hi
  refine ⟨fun _ => trivial, fun _ => ⟨fun _ => trivial, fun hx => ⟨fun e3 => ⟨fun e4 => ?_, fun e4 => ?_⟩, fun e3 => ⟨fun _ => trivial, fun hy => ⟨fun e4 => ?_, fun e4 => ?_⟩⟩⟩⟩⟩
  · exact ⟨A _ hx, fun _ => trivial, fun _ => trivial⟩
  · exact ⟨fun _ => trivial, fun hz => ⟨A _ hx, fun _ => trivial, fun _ => ⟨A _ hz, fun _ => trivial, fun _ => trivial⟩⟩⟩
  · exact ⟨A _ hx, fun _ => trivial, fun _ => ⟨A _ hy, fun _ => trivial, fun _ => trivial⟩⟩
  · exact ⟨fun _ => trivial, fun hz => ⟨A _ hx, fun _ => trivial, fun _ => ⟨A _ hy, fun _ => trivial, fun _ => ⟨A _ hz, fun _ => trivial, fun _ => trivial⟩⟩⟩⟩
theorem L_over2 {c : Nat} {S : CS} {T : MS} (h : SimN c S T) (hc : c < 512) (pl x y : Int32) {n : Nat} (hn : n = 4 ∨ n = 7 ∨ n = 8) {num : Int32} {N : Int64} (hN : N = num.toInt64) {r1 r2 : Int32} {u1 : CS} {u2 : MS} (h1 : s_X1_standOver S pl (nI n) num x y y r1 u1) (h2 : (r2, u2) = if 0 ≤ (p_X2_against T pl x (p_X2_asWanted y) (-9)) then ((p_X2_make T pl (nI n) (p_X2_at T x) (p_X2_at T y) 0 N).1, (p_X2_make T pl (nI n) (p_X2_at T x) (p_X2_at T y) 0 N).2) else (p_X2_against T pl x (p_X2_asWanted y) (-9), T)) : r1 = r2 ∧ SimN (c + 1) u1 u2 := by
  unfold s_X1_standOver at h1
  rw [ag2] at h2
  rcases rngP pl with ⟨e1, e2⟩ | ⟨i, hi, rfl, ci, mi⟩
  · rw [if_pos e1] at h1
    rw [if_pos e2, if_neg neg0] at h2
    obtain ⟨rfl, rfl⟩ := h1
    obtain ⟨rfl, rfl⟩ := pair_inj h2
    exact ⟨rfl, h.up⟩
  rcases rngP x with ⟨e1, e2⟩ | ⟨ix, hix, rfl, cix, mix⟩
  · rw [if_neg ci, if_pos e1] at h1
    rw [if_neg mi, if_pos e2, if_neg neg0] at h2
    obtain ⟨rfl, rfl⟩ := h1
    obtain ⟨rfl, rfl⟩ := pair_inj h2
    exact ⟨rfl, h.up⟩
  rcases rngP y with ⟨e1, e2⟩ | ⟨iy, hiy, rfl, ciy, miy⟩
  · rw [if_neg ci, if_neg cix, if_pos e1] at h1
    rw [if_neg mi, if_neg mix, if_pos e2, if_neg neg0] at h2
    obtain ⟨rfl, rfl⟩ := h1
    obtain ⟨rfl, rfl⟩ := pair_inj h2
    exact ⟨rfl, h.up⟩
  rw [if_neg ci, if_neg cix, if_neg ciy, if_neg ciy] at h1
  rw [if_neg mi, if_neg mix, if_neg miy] at h2
  obtain ⟨k, w, ra, wa, hk, hw, hs⟩ := h
  rcases at_cases hs (by omega) hix with ⟨p1, p2, p3⟩ | ⟨jx, hjx, qx, tx, lx, gx⟩
  · rw [if_pos p1] at h1
    rw [if_pos p2, if_neg neg1] at h2
    obtain ⟨rfl, rfl⟩ := h1
    obtain ⟨rfl, rfl⟩ := pair_inj h2
    exact ⟨rfl, k, w, ra, wa, by omega, by omega, hs⟩
  rcases at_cases hs (by omega) hiy with ⟨p1, p2, p3⟩ | ⟨jy, hjy, qy, ty, ly, gy⟩
  · rw [if_neg (by rw [qx]; simp), if_pos p1] at h1
    rw [if_neg lx, if_pos p2, if_neg neg1] at h2
    obtain ⟨rfl, rfl⟩ := h1
    obtain ⟨rfl, rfl⟩ := pair_inj h2
    exact ⟨rfl, k, w, ra, wa, by omega, by omega, hs⟩
  rw [if_neg (by rw [qx]; simp), if_neg (by rw [qy]; simp), if_neg (by rw [qy]; simp)] at h1
  rw [if_neg lx, if_neg ly, if_pos (by decide)] at h2
  obtain ⟨q, hq, rfl, rfl⟩ := h1
  obtain ⟨rfl, rfl⟩ := pair_inj h2
  rw [qx, qy, tx, ty]
  have m := sim_make hs (by omega) hq hi (n := n) (by omega) (num := num) (a := nI jx) (b := nI jy) (c := 0) (row := none) (f := some (ra jx)) (s := some (ra jy)) (t := some (ra jy)) (N := N) (fun _ _ => hN) (fun z => by omega) (fun z => by omega) (fun z => by omega) (fun _ _ => ⟨jx, hjx, rfl, rfl⟩) (fun _ => ⟨jy, hjy, rfl, rfl⟩) (fun z => by omega)
  exact ⟨m.1, k + 1, w, _, wa, by omega, by omega, m.2⟩
theorem okm_ag3 {T : MS} (pl x y z : Int32) : ok_X2_against T pl x (p_X2_asWanted y) (p_X2_asWanted z) := by
  unfold ok_X2_against
  have A : ∀ v : Int32, ¬ p_X2_isPlace v = 0 → ok_X2_at T v := fun v hv => by
    rcases rngP v with ⟨h1, h2⟩ | ⟨i, hi, rfl, h1, h2⟩
    · exact absurd h2 hv
    · exact okm_at hi
  refine ⟨fun _ => trivial, fun _ => ⟨fun _ => trivial, fun hx => ⟨fun e3 => ⟨fun e4 => ?_, fun e4 => ?_⟩, fun e3 => ⟨fun _ => trivial, fun hy => ⟨fun e4 => ?_, fun e4 => ?_⟩⟩⟩⟩⟩
  · exact ⟨A _ hx, fun _ => trivial, fun _ => trivial⟩
  · exact ⟨fun _ => trivial, fun hz => ⟨A _ hx, fun _ => trivial, fun _ => ⟨A _ hz, fun _ => trivial, fun _ => trivial⟩⟩⟩
  · exact ⟨A _ hx, fun _ => trivial, fun _ => ⟨A _ hy, fun _ => trivial, fun _ => trivial⟩⟩
  · exact ⟨fun _ => trivial, fun hz => ⟨A _ hx, fun _ => trivial, fun _ => ⟨A _ hy, fun _ => trivial, fun _ => ⟨A _ hz, fun _ => trivial, fun _ => trivial⟩⟩⟩⟩
theorem L_over3 {c : Nat} {S : CS} {T : MS} (h : SimN c S T) (hc : c < 512) (pl x y z : Int32) {n : Nat} (hn : n = 5) {num : Int32} {N : Int64} (hN : N = num.toInt64) {r1 r2 : Int32} {u1 : CS} {u2 : MS} (h1 : s_X1_standOver S pl (nI n) num x y z r1 u1) (h2 : (r2, u2) = if 0 ≤ (p_X2_against T pl x (p_X2_asWanted y) (p_X2_asWanted z)) then ((p_X2_make T pl (nI n) (p_X2_at T x) (p_X2_at T y) (p_X2_at T z) N).1, (p_X2_make T pl (nI n) (p_X2_at T x) (p_X2_at T y) (p_X2_at T z) N).2) else (p_X2_against T pl x (p_X2_asWanted y) (p_X2_asWanted z), T)) : r1 = r2 ∧ SimN (c + 1) u1 u2 := by
  unfold s_X1_standOver at h1
  rw [ag3] at h2
  rcases rngP pl with ⟨e1, e2⟩ | ⟨i, hi, rfl, ci, mi⟩
  · rw [if_pos e1] at h1
    rw [if_pos e2, if_neg neg0] at h2
    obtain ⟨rfl, rfl⟩ := h1
    obtain ⟨rfl, rfl⟩ := pair_inj h2
    exact ⟨rfl, h.up⟩
  rcases rngP x with ⟨e1, e2⟩ | ⟨ix, hix, rfl, cix, mix⟩
  · rw [if_neg ci, if_pos e1] at h1
    rw [if_neg mi, if_pos e2, if_neg neg0] at h2
    obtain ⟨rfl, rfl⟩ := h1
    obtain ⟨rfl, rfl⟩ := pair_inj h2
    exact ⟨rfl, h.up⟩
  rcases rngP y with ⟨e1, e2⟩ | ⟨iy, hiy, rfl, ciy, miy⟩
  · rw [if_neg ci, if_neg cix, if_pos e1] at h1
    rw [if_neg mi, if_neg mix, if_pos e2, if_neg neg0] at h2
    obtain ⟨rfl, rfl⟩ := h1
    obtain ⟨rfl, rfl⟩ := pair_inj h2
    exact ⟨rfl, h.up⟩
  rcases rngP z with ⟨e1, e2⟩ | ⟨iz, hiz, rfl, ciz, miz⟩
  · rw [if_neg ci, if_neg cix, if_neg ciy, if_pos e1] at h1
    rw [if_neg mi, if_neg mix, if_neg miy, if_pos e2, if_neg neg0] at h2
    obtain ⟨rfl, rfl⟩ := h1
    obtain ⟨rfl, rfl⟩ := pair_inj h2
    exact ⟨rfl, h.up⟩
  rw [if_neg ci, if_neg cix, if_neg ciy, if_neg ciz] at h1
  rw [if_neg mi, if_neg mix, if_neg miy, if_neg miz] at h2
  obtain ⟨k, w, ra, wa, hk, hw, hs⟩ := h
  rcases at_cases hs (by omega) hix with ⟨p1, p2, p3⟩ | ⟨jx, hjx, qx, tx, lx, gx⟩
  · rw [if_pos p1] at h1
    rw [if_pos p2, if_neg neg1] at h2
    obtain ⟨rfl, rfl⟩ := h1
    obtain ⟨rfl, rfl⟩ := pair_inj h2
    exact ⟨rfl, k, w, ra, wa, by omega, by omega, hs⟩
  rcases at_cases hs (by omega) hiy with ⟨p1, p2, p3⟩ | ⟨jy, hjy, qy, ty, ly, gy⟩
  · rw [if_neg (by rw [qx]; simp), if_pos p1] at h1
    rw [if_neg lx, if_pos p2, if_neg neg1] at h2
    obtain ⟨rfl, rfl⟩ := h1
    obtain ⟨rfl, rfl⟩ := pair_inj h2
    exact ⟨rfl, k, w, ra, wa, by omega, by omega, hs⟩
  rcases at_cases hs (by omega) hiz with ⟨p1, p2, p3⟩ | ⟨jz, hjz, qz, tz, lz, gz⟩
  · rw [if_neg (by rw [qx]; simp), if_neg (by rw [qy]; simp), if_pos p1] at h1
    rw [if_neg lx, if_neg ly, if_neg p3, if_neg neg1] at h2
    obtain ⟨rfl, rfl⟩ := h1
    obtain ⟨rfl, rfl⟩ := pair_inj h2
    exact ⟨rfl, k, w, ra, wa, by omega, by omega, hs⟩
  rw [if_neg (by rw [qx]; simp), if_neg (by rw [qy]; simp), if_neg (by rw [qz]; simp)] at h1
  rw [if_neg lx, if_neg ly, if_pos gz, if_pos (by decide)] at h2
  obtain ⟨q, hq, rfl, rfl⟩ := h1
  obtain ⟨rfl, rfl⟩ := pair_inj h2
  rw [qx, qy, qz, tx, ty, tz]
  have m := sim_make hs (by omega) hq hi (n := n) (by omega) (num := num) (a := nI jx) (b := nI jy) (c := nI jz) (row := none) (f := some (ra jx)) (s := some (ra jy)) (t := some (ra jz)) (N := N) (fun _ _ => hN) (fun z => by omega) (fun z => by omega) (fun z => by omega) (fun _ _ => ⟨jx, hjx, rfl, rfl⟩) (fun _ => ⟨jy, hjy, rfl, rfl⟩) (fun _ => ⟨jz, hjz, rfl, rfl⟩)
  exact ⟨m.1, k + 1, w, _, wa, by omega, by omega, m.2⟩
theorem okc_joined {c : Nat} {S : CS} {T : MS} (h : SimN c S T) (hc : c < 512) (a1 a2 a3 a4 : Int32) : ok_X1_joined S a1 a2 a3 a4 := by
  unfold ok_X1_joined
  rcases rng6 a2 with ⟨h1, h2⟩ | ⟨j, hj, rfl, h1, h2⟩
  · exact ⟨fun _ => trivial, fun z => absurd h1 z⟩
  exact ⟨fun _ => trivial, fun _ => ⟨okc_over h hc _ _ _ _ _ _, fun _ _ _ => trivial⟩⟩
theorem okm_joined {c : Nat} {S : CS} {T : MS} (h : SimN c S T) (hc : c < 512) (a1 a2 a3 a4 : Int32) : ok_X2_joined T a1 a2 a3 a4 := by
  obtain ⟨k, w, ra, wa, hk, hw, hs⟩ := h
  have B : ∀ v : Int32, ¬ p_X2_isPlace v = 0 → ok_X2_at T v := fun v hv => by
    rcases rngP v with ⟨h1, h2⟩ | ⟨i, hi, rfl, h1, h2⟩
    · exact absurd h2 hv
    · exact okm_at hi
  have M : ∀ (n a b c : Int32) (N : Int64), ¬ p_X2_isPlace a1 = 0 → ok_X2_make T a1 n a b c N := fun n a b c N hv => by
    rcases rngP a1 with ⟨h1, h2⟩ | ⟨i, hi, rfl, h1, h2⟩
    · exact absurd h2 hv
    · exact okm_make hs (by omega) hi
  have G : 0 ≤ (p_X2_against T a1 a3 (p_X2_asWanted a4) (-9)) → ¬ p_X2_isPlace a1 = 0 ∧ ¬ p_X2_isPlace a3 = 0 ∧ ¬ p_X2_isPlace a4 = 0 := by
    intro hg
    rw [ag2] at hg
    by_cases ga1 : p_X2_isPlace a1 = 0
    · rw [if_pos ga1] at hg
      exact absurd hg neg0
    rw [if_neg ga1] at hg
    by_cases ga3 : p_X2_isPlace a3 = 0
    · rw [if_pos ga3] at hg
      exact absurd hg neg0
    rw [if_neg ga3] at hg
    by_cases ga4 : p_X2_isPlace a4 = 0
    · rw [if_pos ga4] at hg
      exact absurd hg neg0
    rw [if_neg ga4] at hg
    exact ⟨ga1, ga3, ga4⟩
  unfold ok_X2_joined
  refine ⟨fun _ => trivial, fun _ => ⟨okm_ag2 _ _ _, fun hg => by
    obtain ⟨g0, g1, g2⟩ := G hg
    exact ⟨B _ g1, B _ g2, M _ _ _ _ _ g0, trivial⟩, fun _ => trivial⟩⟩
theorem L_joined {c : Nat} {S : CS} {T : MS} (h : SimN c S T) (hc : c < 512) (a1 a2 a3 a4 : Int32) {r1 r2 : Int32} {u1 : CS} {u2 : MS} (h1 : s_X1_joined S a1 a2 a3 a4 r1 u1) (h2 : (r2, u2) = p_X2_joined T a1 a2 a3 a4) : r1 = r2 ∧ SimN (c + 1) u1 u2 := by
  unfold s_X1_joined at h1
  unfold p_X2_joined at h2
  rcases rng6 a2 with ⟨e1, e2⟩ | ⟨j, hj, rfl, e1, e2⟩
  · rw [if_pos e1] at h1
    rw [if_pos e2] at h2
    obtain ⟨rfl, rfl⟩ := h1
    obtain ⟨rfl, rfl⟩ := pair_inj h2
    exact ⟨rfl, h.up⟩
  rw [if_neg e1] at h1
  rw [if_neg e2] at h2
  obtain ⟨r, u, h1, rfl, rfl⟩ := h1
  exact L_over2 h hc a1 a3 a4 (n := 4) (by omega) rfl h1 h2
theorem okc_when {c : Nat} {S : CS} {T : MS} (h : SimN c S T) (hc : c < 512) (a1 a2 a3 a4 : Int32) : ok_X1_when S a1 a2 a3 a4 := ⟨okc_over h hc _ _ _ _ _ _, fun _ _ _ => trivial⟩
theorem okm_when {c : Nat} {S : CS} {T : MS} (h : SimN c S T) (hc : c < 512) (a1 a2 a3 a4 : Int32) : ok_X2_when T a1 a2 a3 a4 := by
  obtain ⟨k, w, ra, wa, hk, hw, hs⟩ := h
  have B : ∀ v : Int32, ¬ p_X2_isPlace v = 0 → ok_X2_at T v := fun v hv => by
    rcases rngP v with ⟨h1, h2⟩ | ⟨i, hi, rfl, h1, h2⟩
    · exact absurd h2 hv
    · exact okm_at hi
  have M : ∀ (n a b c : Int32) (N : Int64), ¬ p_X2_isPlace a1 = 0 → ok_X2_make T a1 n a b c N := fun n a b c N hv => by
    rcases rngP a1 with ⟨h1, h2⟩ | ⟨i, hi, rfl, h1, h2⟩
    · exact absurd h2 hv
    · exact okm_make hs (by omega) hi
  have G : 0 ≤ (p_X2_against T a1 a2 (p_X2_asWanted a3) (p_X2_asWanted a4)) → ¬ p_X2_isPlace a1 = 0 ∧ ¬ p_X2_isPlace a2 = 0 ∧ ¬ p_X2_isPlace a3 = 0 ∧ ¬ p_X2_isPlace a4 = 0 := by
    intro hg
    rw [ag3] at hg
    by_cases ga1 : p_X2_isPlace a1 = 0
    · rw [if_pos ga1] at hg
      exact absurd hg neg0
    rw [if_neg ga1] at hg
    by_cases ga2 : p_X2_isPlace a2 = 0
    · rw [if_pos ga2] at hg
      exact absurd hg neg0
    rw [if_neg ga2] at hg
    by_cases ga3 : p_X2_isPlace a3 = 0
    · rw [if_pos ga3] at hg
      exact absurd hg neg0
    rw [if_neg ga3] at hg
    by_cases ga4 : p_X2_isPlace a4 = 0
    · rw [if_pos ga4] at hg
      exact absurd hg neg0
    rw [if_neg ga4] at hg
    exact ⟨ga1, ga2, ga3, ga4⟩
  unfold ok_X2_when
  refine ⟨okm_ag3 _ _ _ _, fun hg => by
    obtain ⟨g0, g1, g2, g3⟩ := G hg
    exact ⟨B _ g1, B _ g2, B _ g3, M _ _ _ _ _ g0, trivial⟩, fun _ => trivial⟩
theorem L_when {c : Nat} {S : CS} {T : MS} (h : SimN c S T) (hc : c < 512) (a1 a2 a3 a4 : Int32) {r1 r2 : Int32} {u1 : CS} {u2 : MS} (h1 : s_X1_when S a1 a2 a3 a4 r1 u1) (h2 : (r2, u2) = p_X2_when T a1 a2 a3 a4) : r1 = r2 ∧ SimN (c + 1) u1 u2 := by
  obtain ⟨r, u, h1, rfl, rfl⟩ := h1
  exact L_over3 h hc a1 a2 a3 a4 (n := 5) (by omega) (num := 0) rfl h1 h2
theorem okc_fixed {c : Nat} {S : CS} {T : MS} (h : SimN c S T) (hc : c < 512) (a1 a2 a3 : Int32) : ok_X1_fixed S a1 a2 a3 := ⟨okc_over h hc _ _ _ _ _ _, fun _ _ _ => trivial⟩
theorem okm_fixed {c : Nat} {S : CS} {T : MS} (h : SimN c S T) (hc : c < 512) (a1 a2 a3 : Int32) : ok_X2_fixed T a1 a2 a3 := by
  obtain ⟨k, w, ra, wa, hk, hw, hs⟩ := h
  have B : ∀ v : Int32, ¬ p_X2_isPlace v = 0 → ok_X2_at T v := fun v hv => by
    rcases rngP v with ⟨h1, h2⟩ | ⟨i, hi, rfl, h1, h2⟩
    · exact absurd h2 hv
    · exact okm_at hi
  have M : ∀ (n a b c : Int32) (N : Int64), ¬ p_X2_isPlace a1 = 0 → ok_X2_make T a1 n a b c N := fun n a b c N hv => by
    rcases rngP a1 with ⟨h1, h2⟩ | ⟨i, hi, rfl, h1, h2⟩
    · exact absurd h2 hv
    · exact okm_make hs (by omega) hi
  have G : 0 ≤ (p_X2_against T a1 a2 (-9) (-9)) → ¬ p_X2_isPlace a1 = 0 ∧ ¬ p_X2_isPlace a2 = 0 := by
    intro hg
    rw [ag1] at hg
    by_cases ga1 : p_X2_isPlace a1 = 0
    · rw [if_pos ga1] at hg
      exact absurd hg neg0
    rw [if_neg ga1] at hg
    by_cases ga2 : p_X2_isPlace a2 = 0
    · rw [if_pos ga2] at hg
      exact absurd hg neg0
    rw [if_neg ga2] at hg
    exact ⟨ga1, ga2⟩
  unfold ok_X2_fixed
  refine ⟨okm_ag1 _ _, fun hg => by
    obtain ⟨g0, g1⟩ := G hg
    exact ⟨B _ g1, M _ _ _ _ _ g0, trivial⟩, fun _ => trivial⟩
theorem L_fixed {c : Nat} {S : CS} {T : MS} (h : SimN c S T) (hc : c < 512) (a1 a2 a3 : Int32) {r1 r2 : Int32} {u1 : CS} {u2 : MS} (h1 : s_X1_fixed S a1 a2 a3 r1 u1) (h2 : (r2, u2) = p_X2_fixed T a1 a2 a3) : r1 = r2 ∧ SimN (c + 1) u1 u2 := by
  obtain ⟨r, u, h1, rfl, rfl⟩ := h1
  exact L_over1 h hc a1 a2 (n := 6) (by omega) (num := a3) rfl h1 h2
theorem okc_fed {c : Nat} {S : CS} {T : MS} (h : SimN c S T) (hc : c < 512) (a1 a2 a3 : Int32) : ok_X1_fed S a1 a2 a3 := ⟨okc_over h hc _ _ _ _ _ _, fun _ _ _ => trivial⟩
theorem okm_fed {c : Nat} {S : CS} {T : MS} (h : SimN c S T) (hc : c < 512) (a1 a2 a3 : Int32) : ok_X2_fed T a1 a2 a3 := by
  obtain ⟨k, w, ra, wa, hk, hw, hs⟩ := h
  have B : ∀ v : Int32, ¬ p_X2_isPlace v = 0 → ok_X2_at T v := fun v hv => by
    rcases rngP v with ⟨h1, h2⟩ | ⟨i, hi, rfl, h1, h2⟩
    · exact absurd h2 hv
    · exact okm_at hi
  have M : ∀ (n a b c : Int32) (N : Int64), ¬ p_X2_isPlace a1 = 0 → ok_X2_make T a1 n a b c N := fun n a b c N hv => by
    rcases rngP a1 with ⟨h1, h2⟩ | ⟨i, hi, rfl, h1, h2⟩
    · exact absurd h2 hv
    · exact okm_make hs (by omega) hi
  have G : 0 ≤ (p_X2_against T a1 a2 (p_X2_asWanted a3) (-9)) → ¬ p_X2_isPlace a1 = 0 ∧ ¬ p_X2_isPlace a2 = 0 ∧ ¬ p_X2_isPlace a3 = 0 := by
    intro hg
    rw [ag2] at hg
    by_cases ga1 : p_X2_isPlace a1 = 0
    · rw [if_pos ga1] at hg
      exact absurd hg neg0
    rw [if_neg ga1] at hg
    by_cases ga2 : p_X2_isPlace a2 = 0
    · rw [if_pos ga2] at hg
      exact absurd hg neg0
    rw [if_neg ga2] at hg
    by_cases ga3 : p_X2_isPlace a3 = 0
    · rw [if_pos ga3] at hg
      exact absurd hg neg0
    rw [if_neg ga3] at hg
    exact ⟨ga1, ga2, ga3⟩
  unfold ok_X2_fed
  refine ⟨okm_ag2 _ _ _, fun hg => by
    obtain ⟨g0, g1, g2⟩ := G hg
    exact ⟨B _ g1, B _ g2, M _ _ _ _ _ g0, trivial⟩, fun _ => trivial⟩
theorem L_fed {c : Nat} {S : CS} {T : MS} (h : SimN c S T) (hc : c < 512) (a1 a2 a3 : Int32) {r1 r2 : Int32} {u1 : CS} {u2 : MS} (h1 : s_X1_fed S a1 a2 a3 r1 u1) (h2 : (r2, u2) = p_X2_fed T a1 a2 a3) : r1 = r2 ∧ SimN (c + 1) u1 u2 := by
  obtain ⟨r, u, h1, rfl, rfl⟩ := h1
  exact L_over2 h hc a1 a2 a3 (n := 7) (by omega) (num := 0) rfl h1 h2
theorem okc_guarded {c : Nat} {S : CS} {T : MS} (h : SimN c S T) (hc : c < 512) (a1 a2 a3 : Int32) : ok_X1_guarded S a1 a2 a3 := ⟨okc_over h hc _ _ _ _ _ _, fun _ _ _ => trivial⟩
theorem okm_guarded {c : Nat} {S : CS} {T : MS} (h : SimN c S T) (hc : c < 512) (a1 a2 a3 : Int32) : ok_X2_guarded T a1 a2 a3 := by
  obtain ⟨k, w, ra, wa, hk, hw, hs⟩ := h
  have B : ∀ v : Int32, ¬ p_X2_isPlace v = 0 → ok_X2_at T v := fun v hv => by
    rcases rngP v with ⟨h1, h2⟩ | ⟨i, hi, rfl, h1, h2⟩
    · exact absurd h2 hv
    · exact okm_at hi
  have M : ∀ (n a b c : Int32) (N : Int64), ¬ p_X2_isPlace a1 = 0 → ok_X2_make T a1 n a b c N := fun n a b c N hv => by
    rcases rngP a1 with ⟨h1, h2⟩ | ⟨i, hi, rfl, h1, h2⟩
    · exact absurd h2 hv
    · exact okm_make hs (by omega) hi
  have G : 0 ≤ (p_X2_against T a1 a2 (p_X2_asWanted a3) (-9)) → ¬ p_X2_isPlace a1 = 0 ∧ ¬ p_X2_isPlace a2 = 0 ∧ ¬ p_X2_isPlace a3 = 0 := by
    intro hg
    rw [ag2] at hg
    by_cases ga1 : p_X2_isPlace a1 = 0
    · rw [if_pos ga1] at hg
      exact absurd hg neg0
    rw [if_neg ga1] at hg
    by_cases ga2 : p_X2_isPlace a2 = 0
    · rw [if_pos ga2] at hg
      exact absurd hg neg0
    rw [if_neg ga2] at hg
    by_cases ga3 : p_X2_isPlace a3 = 0
    · rw [if_pos ga3] at hg
      exact absurd hg neg0
    rw [if_neg ga3] at hg
    exact ⟨ga1, ga2, ga3⟩
  unfold ok_X2_guarded
  refine ⟨okm_ag2 _ _ _, fun hg => by
    obtain ⟨g0, g1, g2⟩ := G hg
    exact ⟨B _ g1, B _ g2, M _ _ _ _ _ g0, trivial⟩, fun _ => trivial⟩
theorem L_guarded {c : Nat} {S : CS} {T : MS} (h : SimN c S T) (hc : c < 512) (a1 a2 a3 : Int32) {r1 r2 : Int32} {u1 : CS} {u2 : MS} (h1 : s_X1_guarded S a1 a2 a3 r1 u1) (h2 : (r2, u2) = p_X2_guarded T a1 a2 a3) : r1 = r2 ∧ SimN (c + 1) u1 u2 := by
  obtain ⟨r, u, h1, rfl, rfl⟩ := h1
  exact L_over2 h hc a1 a2 a3 (n := 8) (by omega) (num := 0) rfl h1 h2
theorem okc_barred {c : Nat} {S : CS} {T : MS} (h : SimN c S T) (hc : c < 512) (a1 a2 a3 : Int32) : ok_X1_barred S a1 a2 a3 := ⟨okc_over h hc _ _ _ _ _ _, fun _ _ _ => trivial⟩
theorem okm_barred {c : Nat} {S : CS} {T : MS} (h : SimN c S T) (hc : c < 512) (a1 a2 a3 : Int32) : ok_X2_barred T a1 a2 a3 := by
  obtain ⟨k, w, ra, wa, hk, hw, hs⟩ := h
  have B : ∀ v : Int32, ¬ p_X2_isPlace v = 0 → ok_X2_at T v := fun v hv => by
    rcases rngP v with ⟨h1, h2⟩ | ⟨i, hi, rfl, h1, h2⟩
    · exact absurd h2 hv
    · exact okm_at hi
  have M : ∀ (n a b c : Int32) (N : Int64), ¬ p_X2_isPlace a1 = 0 → ok_X2_make T a1 n a b c N := fun n a b c N hv => by
    rcases rngP a1 with ⟨h1, h2⟩ | ⟨i, hi, rfl, h1, h2⟩
    · exact absurd h2 hv
    · exact okm_make hs (by omega) hi
  have G : 0 ≤ (p_X2_against T a1 a2 (-9) (-9)) → ¬ p_X2_isPlace a1 = 0 ∧ ¬ p_X2_isPlace a2 = 0 := by
    intro hg
    rw [ag1] at hg
    by_cases ga1 : p_X2_isPlace a1 = 0
    · rw [if_pos ga1] at hg
      exact absurd hg neg0
    rw [if_neg ga1] at hg
    by_cases ga2 : p_X2_isPlace a2 = 0
    · rw [if_pos ga2] at hg
      exact absurd hg neg0
    rw [if_neg ga2] at hg
    exact ⟨ga1, ga2⟩
  unfold ok_X2_barred
  refine ⟨okm_ag1 _ _, fun hg => by
    obtain ⟨g0, g1⟩ := G hg
    exact ⟨B _ g1, M _ _ _ _ _ g0, trivial⟩, fun _ => trivial⟩
theorem L_barred {c : Nat} {S : CS} {T : MS} (h : SimN c S T) (hc : c < 512) (a1 a2 a3 : Int32) {r1 r2 : Int32} {u1 : CS} {u2 : MS} (h1 : s_X1_barred S a1 a2 a3 r1 u1) (h2 : (r2, u2) = p_X2_barred T a1 a2 a3) : r1 = r2 ∧ SimN (c + 1) u1 u2 := by
  obtain ⟨r, u, h1, rfl, rfl⟩ := h1
  exact L_over1 h hc a1 a2 (n := 10) (by omega) (num := a3) rfl h1 h2
theorem okc_counted {c : Nat} {S : CS} {T : MS} (h : SimN c S T) (hc : c < 512) (a1 a2 : Int32) : ok_X1_counted S a1 a2 := ⟨okc_over h hc _ _ _ _ _ _, fun _ _ _ => trivial⟩
theorem okm_counted {c : Nat} {S : CS} {T : MS} (h : SimN c S T) (hc : c < 512) (a1 a2 : Int32) : ok_X2_counted T a1 a2 := by
  obtain ⟨k, w, ra, wa, hk, hw, hs⟩ := h
  have B : ∀ v : Int32, ¬ p_X2_isPlace v = 0 → ok_X2_at T v := fun v hv => by
    rcases rngP v with ⟨h1, h2⟩ | ⟨i, hi, rfl, h1, h2⟩
    · exact absurd h2 hv
    · exact okm_at hi
  have M : ∀ (n a b c : Int32) (N : Int64), ¬ p_X2_isPlace a1 = 0 → ok_X2_make T a1 n a b c N := fun n a b c N hv => by
    rcases rngP a1 with ⟨h1, h2⟩ | ⟨i, hi, rfl, h1, h2⟩
    · exact absurd h2 hv
    · exact okm_make hs (by omega) hi
  have G : 0 ≤ (p_X2_against T a1 a2 (-9) (-9)) → ¬ p_X2_isPlace a1 = 0 ∧ ¬ p_X2_isPlace a2 = 0 := by
    intro hg
    rw [ag1] at hg
    by_cases ga1 : p_X2_isPlace a1 = 0
    · rw [if_pos ga1] at hg
      exact absurd hg neg0
    rw [if_neg ga1] at hg
    by_cases ga2 : p_X2_isPlace a2 = 0
    · rw [if_pos ga2] at hg
      exact absurd hg neg0
    rw [if_neg ga2] at hg
    exact ⟨ga1, ga2⟩
  unfold ok_X2_counted
  refine ⟨okm_ag1 _ _, fun hg => by
    obtain ⟨g0, g1⟩ := G hg
    exact ⟨B _ g1, M _ _ _ _ _ g0, trivial⟩, fun _ => trivial⟩
theorem L_counted {c : Nat} {S : CS} {T : MS} (h : SimN c S T) (hc : c < 512) (a1 a2 : Int32) {r1 r2 : Int32} {u1 : CS} {u2 : MS} (h1 : s_X1_counted S a1 a2 r1 u1) (h2 : (r2, u2) = p_X2_counted T a1 a2) : r1 = r2 ∧ SimN (c + 1) u1 u2 := by
  obtain ⟨r, u, h1, rfl, rfl⟩ := h1
  exact L_over1 h hc a1 a2 (n := 11) (by omega) (num := 0) rfl h1 h2
theorem okc_kept {c : Nat} {S : CS} {T : MS} (h : SimN c S T) (hc : c < 512) (a1 a2 : Int32) : ok_X1_kept S a1 a2 := ⟨okc_over h hc _ _ _ _ _ _, fun _ _ _ => trivial⟩
theorem okm_kept {c : Nat} {S : CS} {T : MS} (h : SimN c S T) (hc : c < 512) (a1 a2 : Int32) : ok_X2_kept T a1 a2 := by
  obtain ⟨k, w, ra, wa, hk, hw, hs⟩ := h
  have B : ∀ v : Int32, ¬ p_X2_isPlace v = 0 → ok_X2_at T v := fun v hv => by
    rcases rngP v with ⟨h1, h2⟩ | ⟨i, hi, rfl, h1, h2⟩
    · exact absurd h2 hv
    · exact okm_at hi
  have M : ∀ (n a b c : Int32) (N : Int64), ¬ p_X2_isPlace a1 = 0 → ok_X2_make T a1 n a b c N := fun n a b c N hv => by
    rcases rngP a1 with ⟨h1, h2⟩ | ⟨i, hi, rfl, h1, h2⟩
    · exact absurd h2 hv
    · exact okm_make hs (by omega) hi
  have G : 0 ≤ (p_X2_against T a1 a2 (-9) (-9)) → ¬ p_X2_isPlace a1 = 0 ∧ ¬ p_X2_isPlace a2 = 0 := by
    intro hg
    rw [ag1] at hg
    by_cases ga1 : p_X2_isPlace a1 = 0
    · rw [if_pos ga1] at hg
      exact absurd hg neg0
    rw [if_neg ga1] at hg
    by_cases ga2 : p_X2_isPlace a2 = 0
    · rw [if_pos ga2] at hg
      exact absurd hg neg0
    rw [if_neg ga2] at hg
    exact ⟨ga1, ga2⟩
  unfold ok_X2_kept
  refine ⟨okm_ag1 _ _, fun hg => by
    obtain ⟨g0, g1⟩ := G hg
    exact ⟨B _ g1, M _ _ _ _ _ g0, trivial⟩, fun _ => trivial⟩
theorem L_kept {c : Nat} {S : CS} {T : MS} (h : SimN c S T) (hc : c < 512) (a1 a2 : Int32) {r1 r2 : Int32} {u1 : CS} {u2 : MS} (h1 : s_X1_kept S a1 a2 r1 u1) (h2 : (r2, u2) = p_X2_kept T a1 a2) : r1 = r2 ∧ SimN (c + 1) u1 u2 := by
  obtain ⟨r, u, h1, rfl, rfl⟩ := h1
  exact L_over1 h hc a1 a2 (n := 12) (by omega) (num := 0) rfl h1 h2
