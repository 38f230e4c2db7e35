/-! PURE: the class's own looks at a place of a row -/
theorem row_lt0 {i : Nat} (hi : i < 2 ^ 31) : ¬ nI i < 0 := by
  rw [lt0_iff, nI_toInt hi]; omega
theorem row_le {n i : Nat} (h : i < n) (hn : n < 2 ^ 31) : ¬ nI n ≤ nI i := by
  rw [ti_le hn, nI_toInt (by omega)]; omega
theorem row_at {n i : Nat} (h : i < n) (hn : n < 2 ^ 31) (v : Nat → Int32) : D_X5_at n (nI i) v = some (v i) := by
  unfold D_X5_at
  rw [if_neg (row_lt0 (by omega)), if_neg (row_le h hn), ck_n h hn, nI_clamp (by omega)]
theorem row_put {n i : Nat} (h : i < n) (hn : n < 2 ^ 31) (x : Int32) (v : Nat → Int32) : D_X5_put n (nI i) x v = some (upd v i x) := by
  unfold D_X5_put
  rw [if_neg (row_lt0 (by omega)), if_neg (row_le h hn), ck_n h hn, nI_clamp (by omega)]
theorem row_atL {n i : Nat} (h : i < n) (hn : n < 2 ^ 31) (v : Nat → Int64) : D_X5_at_ n (nI i) v = some (v i) := by
  unfold D_X5_at_
  rw [if_neg (row_lt0 (by omega)), if_neg (row_le h hn), ck_n h hn, nI_clamp (by omega)]
theorem row_add {n i : Nat} (h : i < n) (hn : n < 2 ^ 31) (x : Int64) (v : Nat → Int64) : D_X5_add n (nI i) x v = some (vp_updL v i (v i + x)) := by
  unfold D_X5_add
  simp only [nm_s]
  rw [if_neg (row_lt0 (by omega)), if_neg (row_le h hn), ck_n h hn, ck_n h hn, nI_clamp (by omega)]
theorem lN_neg {u v : Nat} (h : v ≤ u) : lN u + -lN v = lN (u - v) := by
  rw [← Int64.sub_eq_add_neg, lN_sub h]
