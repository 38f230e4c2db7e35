/-! PURE: one stand of a meeting, class and reference -/
theorem tr_0 (U : Nat → Nat) (f t : Nat) : tr U f t 0 = U := by
  funext j; unfold tr; simp
theorem part_of {a b : Nat} (ha : 1 ≤ a) (ha8 : a ≤ 8) (hb : 1 ≤ b) (hb8 : b ≤ 8) {zh oh : Nat} (hh : zh + oh ≤ 100) {N U : Nat → Nat} {now nx : Nat → Int64} (hn : holdL N now) (hu : holdL U nx) {x y : Nat} (hx : x ≤ a) (hy : y ≤ b) (hc : N (9 * x + y) ≤ 1000000) (hU : N (9 * x + y) ≤ U (9 * x + y)) (mv : Int32) : ∃ mv' nx', D_X1_part (nI x) (nI y) (nI a) (nI b) (nI zh) (nI oh) mv now nx = some (mv', nx') ∧ holdL (tr (tr (tr (tr U (9 * x + y) (9 * (x + 1) + y) (qp a b (N (9 * x + y)) ((a - x) * (b - y)) zh)) (9 * x + y) (9 * x + y + 1) (qp a b (N (9 * x + y)) ((a - x) * (b - y)) oh)) (9 * x + y) (9 * (x - 1) + y) (qp a b (N (9 * x + y)) (x * y) zh)) (9 * x + y) (9 * x + y - 1) (qp a b (N (9 * x + y)) (x * y) oh)) nx' ∧ ((mv' = mv ∧ qp a b (N (9 * x + y)) ((a - x) * (b - y)) zh = 0 ∧ qp a b (N (9 * x + y)) ((a - x) * (b - y)) oh = 0 ∧ qp a b (N (9 * x + y)) (x * y) zh = 0 ∧ qp a b (N (9 * x + y)) (x * y) oh = 0) ∨ (mv' = nI 1 ∧ 0 < qp a b (N (9 * x + y)) ((a - x) * (b - y)) zh + qp a b (N (9 * x + y)) ((a - x) * (b - y)) oh + qp a b (N (9 * x + y)) (x * y) zh + qp a b (N (9 * x + y)) (x * y) oh)) ∧ sumN (tr (tr (tr (tr U (9 * x + y) (9 * (x + 1) + y) (qp a b (N (9 * x + y)) ((a - x) * (b - y)) zh)) (9 * x + y) (9 * x + y + 1) (qp a b (N (9 * x + y)) ((a - x) * (b - y)) oh)) (9 * x + y) (9 * (x - 1) + y) (qp a b (N (9 * x + y)) (x * y) zh)) (9 * x + y) (9 * x + y - 1) (qp a b (N (9 * x + y)) (x * y) oh)) 81 = sumN U 81 := by
  have hpl := parts_le (c := N (9 * x + y)) ha hb hx hy hh
  have how : (a - x) * (b - y) ≤ 64 := Nat.mul_le_mul (show a - x ≤ 8 by omega) (show b - y ≤ 8 by omega)
  have htw : x * y ≤ 64 := Nat.mul_le_mul (show x ≤ 8 by omega) (show y ≤ 8 by omega)
  have hz : 9 * x + y < 81 := by omega
  -- where something goes there is a place
  have r1 : ∀ g, 0 < qp a b (N (9 * x + y)) ((a - x) * (b - y)) g → x < a ∧ y < b := by
    intro g hg
    rcases Nat.eq_zero_or_pos ((a - x) * (b - y)) with e | e
    · rw [e, qp_0] at hg; omega
    · have := Nat.pos_of_mul_pos_right e
      have := Nat.pos_of_mul_pos_left e
      omega
  have r2 : ∀ g, 0 < qp a b (N (9 * x + y)) (x * y) g → 0 < x ∧ 0 < y := by
    intro g hg
    rcases Nat.eq_zero_or_pos (x * y) with e | e
    · rw [e, qp_0] at hg; omega
    · have := Nat.pos_of_mul_pos_right e
      have := Nat.pos_of_mul_pos_left e
      omega
  unfold D_X1_part
  rw [place_of, bd1_s, row_atL hz (by decide), bd1_s, nm_s, nm_s, hn _ hz, pk_sub hx, pk_sub hy, pk_mul, pk_mul, nI_l (by omega), nI_l (by omega), lN_mul, lN_mul]
  generalize hcc : N (9 * x + y) = c at *
  generalize hoo : (a - x) * (b - y) = o at *
  generalize htt : x * y = t at *
  have hco : c * o ≤ 64000000 := Nat.le_trans (Nat.mul_le_mul hc how) (by decide)
  have hct : c * t ≤ 64000000 := Nat.le_trans (Nat.mul_le_mul hc htw) (by decide)
  generalize hz9 : 9 * x + y = z at *
  -- the second half
  have second : ∀ (V : Nat → Nat) (nv : Nat → Int64) (m1 : Int32), holdL V nv → qp a b c t zh + qp a b c t oh ≤ V z → ∃ mv' nx', j_X1_part_91 (nI x) (nI y) (nI a) (nI b) (nI zh) (nI oh) (nI z) (lN (c * t)) m1 nv = some (mv', nx') ∧ holdL (tr (tr V z (9 * (x - 1) + y) (qp a b c t zh)) z (z - 1) (qp a b c t oh)) nx' ∧ ((mv' = m1 ∧ qp a b c t zh = 0 ∧ qp a b c t oh = 0) ∨ (mv' = nI 1 ∧ 0 < qp a b c t zh + qp a b c t oh)) := by
    intro V nv m1 hV hV2
    unfold j_X1_part_91
    by_cases e : c * t = 0
    · have e1 : ∀ g, qp a b c t g = 0 := by intro g; unfold qp; rw [e, Nat.zero_mul, Nat.zero_div]
      rw [if_pos ((lc0 (by omega)).mpr e), e1, e1, tr_0, tr_0]
      exact ⟨_, _, rfl, hV, Or.inl ⟨rfl, rfl, rfl⟩⟩
    · have ht0 : 0 < t := by
        rcases Nat.eq_zero_or_pos t with q | q
        · rw [q, Nat.mul_zero] at e; omega
        · exact q
      have hxy : 0 < x ∧ 0 < y := by
        rw [← htt] at ht0
        exact ⟨Nat.pos_of_mul_pos_right ht0, Nat.pos_of_mul_pos_left ht0⟩
      rw [if_neg (fun q => e ((lc0 (by omega)).mp q)), pk_sub (by omega), place_of, bd1_s, nI_l (by omega), nI_l (by omega), pk_sub (by omega), place_of]
      obtain ⟨m2, n2, f2, h2, k2⟩ := go_of ha ha8 hb hb8 hV hz (t := 9 * (x - 1) + y) (by omega) hc htw (g := zh) (by omega) (fun _ => by omega) (by omega) m1
      rw [f2, bd2_s, bd1_s]
      have hv2 : qp a b c t oh ≤ tr V z (9 * (x - 1) + y) (qp a b c t zh) z := by
        unfold tr; rw [if_pos rfl, if_neg (by omega)]; omega
      obtain ⟨m3, n3, f3, h3, k3⟩ := go_of ha ha8 hb hb8 h2 hz (t := z - 1) (by omega) hc htw (g := oh) (by omega) (fun _ => by omega) hv2 m2
      rw [show 9 * x + (y - 1) = z - 1 by omega, f3, bd2_s]
      refine ⟨_, _, rfl, h3, ?_⟩
      rcases k2 with ⟨g1, g2⟩ | ⟨g1, g2⟩ <;> rcases k3 with ⟨g3, g4⟩ | ⟨g3, g4⟩
      · exact Or.inl ⟨by rw [g3, g1], g2, g4⟩
      · exact Or.inr ⟨g3, by omega⟩
      · exact Or.inr ⟨by rw [g3, g1], by omega⟩
      · exact Or.inr ⟨g3, by omega⟩
  have hsum : ∀ (V : Nat → Nat) (t' v : Nat), v ≤ V z → (0 < v → t' < 81) → sumN (tr V z t' v) 81 = sumN V 81 := by
    intro V t' v h1 h2
    rcases Nat.eq_zero_or_pos v with e | e
    · rw [e, tr_0]
    · exact sum_tr h1 hz (h2 e)
  have trz : ∀ (V : Nat → Nat) (t' v : Nat), t' ≠ z → tr V z t' v z = V z - v := by
    intro V t' v h; unfold tr; rw [if_pos rfl, if_neg (fun q => h q.symm), Nat.add_zero]
  -- places differ, or nothing goes
  have d3 : 0 < qp a b c t zh → 9 * (x - 1) + y ≠ z ∧ 9 * (x - 1) + y < 81 := fun q => by have := r2 _ q; omega
  have d4 : 0 < qp a b c t oh → z - 1 ≠ z ∧ z - 1 < 81 := fun q => by have := r2 _ q; omega
  have v1 : tr U z (9 * (x + 1) + y) (qp a b c o zh) z = U z - qp a b c o zh := trz _ _ _ (by omega)
  have v2 : tr (tr U z (9 * (x + 1) + y) (qp a b c o zh)) z (z + 1) (qp a b c o oh) z = U z - qp a b c o zh - qp a b c o oh := by rw [trz _ _ _ (by omega), v1]
  have s1 : sumN (tr U z (9 * (x + 1) + y) (qp a b c o zh)) 81 = sumN U 81 := hsum _ _ _ (by omega) (fun q => by have := r1 _ q; omega)
  have s2 : sumN (tr (tr U z (9 * (x + 1) + y) (qp a b c o zh)) z (z + 1) (qp a b c o oh)) 81 = sumN U 81 := by
    rw [hsum _ _ _ (by rw [v1]; omega) (fun q => by have := r1 _ q; omega), s1]
  have s4 : sumN (tr (tr (tr (tr U z (9 * (x + 1) + y) (qp a b c o zh)) z (z + 1) (qp a b c o oh)) z (9 * (x - 1) + y) (qp a b c t zh)) z (z - 1) (qp a b c t oh)) 81 = sumN U 81 := by
    have v3 : qp a b c t oh ≤ tr (tr (tr U z (9 * (x + 1) + y) (qp a b c o zh)) z (z + 1) (qp a b c o oh)) z (9 * (x - 1) + y) (qp a b c t zh) z := by
      rcases Nat.eq_zero_or_pos (qp a b c t zh) with q | q
      · rw [q, tr_0, v2]; omega
      · rw [trz _ _ _ (d3 q).1, v2]; omega
    rw [hsum _ _ _ v3 (fun q => (d4 q).2), hsum _ _ _ (by rw [v2]; omega) (fun q => (d3 q).2), s2]
  by_cases e : c * o = 0
  · have e1 : ∀ g, qp a b c o g = 0 := by intro g; unfold qp; rw [e, Nat.zero_mul, Nat.zero_div]
    rw [if_pos ((lc0 (by omega)).mpr e)]
    rw [e1, e1, tr_0, tr_0] at *
    obtain ⟨m5, n5, f5, h5, k5⟩ := second U nx mv hu (by omega)
    refine ⟨m5, n5, f5, h5, ?_, s4⟩
    rcases k5 with ⟨g1, g2, g3⟩ | ⟨g1, g2⟩
    · exact Or.inl ⟨g1, rfl, rfl, g2, g3⟩
    · exact Or.inr ⟨g1, by omega⟩
  · have ho0 : 0 < o := by
      rcases Nat.eq_zero_or_pos o with q | q
      · rw [q, Nat.mul_zero] at e; omega
      · exact q
    have hxy : x < a ∧ y < b := by
      rw [← hoo] at ho0
      have := Nat.pos_of_mul_pos_right ho0
      have := Nat.pos_of_mul_pos_left ho0
      omega
    rw [if_neg (fun q => e ((lc0 (by omega)).mp q)), nI_add, place_of, bd1_s, nI_l (by omega), nI_l (by omega), nI_add, place_of]
    obtain ⟨m2, n2, f2, h2, k2⟩ := go_of ha ha8 hb hb8 hu hz (t := 9 * (x + 1) + y) (by omega) hc how (g := zh) (by omega) (fun _ => by omega) (by omega) mv
    rw [f2, bd2_s, bd1_s]
    obtain ⟨m3, n3, f3, h3, k3⟩ := go_of ha ha8 hb hb8 h2 hz (t := z + 1) (by omega) hc how (g := oh) (by omega) (fun _ => by omega) (by rw [v1]; omega) m2
    rw [show 9 * x + (y + 1) = z + 1 by omega, f3, bd2_s]
    obtain ⟨m5, n5, f5, h5, k5⟩ := second _ n3 m3 h3 (by rw [v2]; omega)
    refine ⟨m5, n5, f5, h5, ?_, s4⟩
    rcases k2 with ⟨g1, g2⟩ | ⟨g1, g2⟩ <;> rcases k3 with ⟨g3, g4⟩ | ⟨g3, g4⟩ <;> rcases k5 with ⟨g5, g6, g7⟩ | ⟨g5, g6⟩
    · exact Or.inl ⟨by rw [g5, g3, g1], g2, g4, g6, g7⟩
    · exact Or.inr ⟨g5, by omega⟩
    · exact Or.inr ⟨by rw [g5, g3], by omega⟩
    · exact Or.inr ⟨g5, by omega⟩
    · exact Or.inr ⟨by rw [g5, g3, g1], by omega⟩
    · exact Or.inr ⟨g5, by omega⟩
    · exact Or.inr ⟨by rw [g5, g3], by omega⟩
    · exact Or.inr ⟨g5, by omega⟩
