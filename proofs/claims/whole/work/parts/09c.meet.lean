/-! PURE: one stand in the reference; whole meetings -/
theorem ad_0 (T : Nat → Nat) (k : Nat) : ad T k 0 = T := by funext j; unfold ad; simp
theorem updA {T : Nat → Nat} {f : Nat → Int64} (h : holdL T f) {k : Nat} (hk : k < 81) (v : Nat) : holdL (ad T k v) (vp_updL f k (f k + lN v)) := by
  intro j hj
  rw [h k hk, lN_add, updL_hold h k (T k + v) j hj]
  dsimp only
  unfold ad
  by_cases e : j = k
  · rw [if_pos e, if_pos e, e]
  · rw [if_neg e, if_neg e, Nat.add_zero]
theorem mul4 (c g o k : Nat) : c * g * o * k = c * o * (g * k) := by
  rw [Nat.mul_right_comm c g o, Nat.mul_assoc]
theorem cellM {a b : Nat} (ha : 1 ≤ a) (ha8 : a ≤ 8) (hb : 1 ≤ b) (hb8 : b ≤ 8) {s k0 k1 : Nat} (hs : s ≤ 10) (hk0 : k0 ≤ 10) (hk1 : k1 ≤ 10) {N T : Nat → Nat} {now th : Nat → Int64} (hn : holdL N now) (ht : holdL T th) {x y : Nat} (hx : x ≤ a) (hy : y ≤ b) (hc : N (9 * x + y) ≤ 1000000) (rec : Int32 → (Nat → Int64) → Option ((Nat → Int64))) : ∃ th', b_X10_meet_46 (nI a) (nI b) (nI k0) (nI k1) now (nI s) (nI x) rec (nI y) th = rec (nI (y + 1)) th' ∧ holdL (sc a b ((10 - s) * k0) (s * k1) N x y T) th' := by
  have hh : (10 - s) * k0 + s * k1 ≤ 100 := by
    have h1 : (10 - s) * k0 ≤ (10 - s) * 10 := Nat.mul_le_mul (Nat.le_refl _) hk0
    have h2 : s * k1 ≤ s * 10 := Nat.mul_le_mul (Nat.le_refl _) hk1
    omega
  have hpl := parts_le (c := N (9 * x + y)) ha hb hx hy hh
  have how : (a - x) * (b - y) ≤ 64 := Nat.mul_le_mul (show a - x ≤ 8 by omega) (show b - y ≤ 8 by omega)
  have htw : x * y ≤ 64 := Nat.mul_le_mul (show x ≤ 8 by omega) (show y ≤ 8 by omega)
  have hz : 9 * x + y < 81 := by omega
  have hd : 0 < 100 * a * b := Nat.mul_pos (Nat.mul_pos (by decide) ha) hb
  have hd2 : 100 * a * b ≤ 6400 := Nat.mul_le_mul (Nat.mul_le_mul (Nat.le_refl 100) ha8) hb8
  have l1 := qp_lt (a := a) (b := b) hc how (show (10 - s) * k0 ≤ 100 by omega)
  have l2 := qp_lt (a := a) (b := b) hc htw (show (10 - s) * k0 ≤ 100 by omega)
  have l3 := qp_lt (a := a) (b := b) hc how (show s * k1 ≤ 100 by omega)
  have l4 := qp_lt (a := a) (b := b) hc htw (show s * k1 ≤ 100 by omega)
  unfold sc
  rw [b_X10_meet_46]
  simp only [nm_s]
  rw [if_neg (nI_nlt hy (by omega)), pk_mul, nI_add, ck_n hz (by decide), nI_clamp (by omega), hn _ hz, pk_sub hx, pk_sub hy, pk_mul, pk_mul, pk_sub hs, nI_l (by omega), nI_l (by omega), nI_l (by omega), nI_l (by omega), nI_l (by omega), nI_l (by omega), nI_l (by omega), nI_l (by omega)]
  simp only [lN_mul]
  rw [dzl_n hd (by omega), dzl_n hd (by omega), dzl_n hd (by omega), dzl_n hd (by omega), mul4, mul4, mul4, mul4, pk_lDiv (by omega) hd (by omega), pk_lDiv (by omega) hd (by omega), pk_lDiv (by omega) hd (by omega), pk_lDiv (by omega) hd (by omega)]
  have q1 : N (9 * x + y) * ((a - x) * (b - y)) * ((10 - s) * k0) / (100 * a * b) = qp a b (N (9 * x + y)) ((a - x) * (b - y)) ((10 - s) * k0) := rfl
  have q2 : N (9 * x + y) * (x * y) * ((10 - s) * k0) / (100 * a * b) = qp a b (N (9 * x + y)) (x * y) ((10 - s) * k0) := rfl
  have q3 : N (9 * x + y) * ((a - x) * (b - y)) * (s * k1) / (100 * a * b) = qp a b (N (9 * x + y)) ((a - x) * (b - y)) (s * k1) := rfl
  have q4 : N (9 * x + y) * (x * y) * (s * k1) / (100 * a * b) = qp a b (N (9 * x + y)) (x * y) (s * k1) := rfl
  rw [q1, q2, q3, q4]
  have e0 : ∀ g, (a - x) * (b - y) = 0 → qp a b (N (9 * x + y)) ((a - x) * (b - y)) g = 0 := fun g h => by rw [h, qp_0]
  have e1 : ∀ g, x * y = 0 → qp a b (N (9 * x + y)) (x * y) g = 0 := fun g h => by rw [h, qp_0]
  have po : 0 < (a - x) * (b - y) → x < a ∧ y < b := fun q => by
    have := Nat.pos_of_mul_pos_right q
    have := Nat.pos_of_mul_pos_left q
    omega
  have pt : 0 < x * y → 0 < x ∧ 0 < y := fun q => ⟨Nat.pos_of_mul_pos_right q, Nat.pos_of_mul_pos_left q⟩
  generalize hcc : N (9 * x + y) = c at *
  generalize hoo : (a - x) * (b - y) = o at *
  generalize htt : x * y = t at *
  generalize hA : qp a b c o ((10 - s) * k0) = A at *
  generalize hB : qp a b c t ((10 - s) * k0) = B at *
  generalize hC : qp a b c o (s * k1) = C at *
  generalize hDD : qp a b c t (s * k1) = DD at *
  have hAo : o = 0 → A = 0 := fun h => by rw [← hA]; exact e0 _ h
  have hCo : o = 0 → C = 0 := fun h => by rw [← hC]; exact e0 _ h
  have hBt : t = 0 → B = 0 := fun h => by rw [← hB]; exact e1 _ h
  have hDt : t = 0 → DD = 0 := fun h => by rw [← hDD]; exact e1 _ h
  rw [lN_sub (by omega), lN_sub (by omega), lN_sub (by omega), lN_sub (by omega), ck_n hz (by decide), ck_n hz (by decide)]
  have u0 := updA ht hz (c - A - B - C - DD)
  generalize vp_updL th (9 * x + y) (th (9 * x + y) + lN (c - A - B - C - DD)) = th0 at u0 ⊢
  generalize ad T (9 * x + y) (c - A - B - C - DD) = T0 at u0 ⊢
  -- behind the first two
  have second : ∀ (V : Nat → Nat) (tv : Nat → Int64), holdL V tv → ∃ th', j_X10_meet_268 (nI x) (nI y) rec (nI t) (lN B) (lN DD) tv = rec (nI (y + 1)) th' ∧ holdL (ad (ad V (9 * (x - 1) + y) B) (9 * x + y - 1) DD) th' := by
    intro V tv hV
    rw [j_X10_meet_268]
    simp only [nm_s]
    by_cases e : t = 0
    · rw [if_pos ((le0_n (by omega)).mpr e), hBt e, hDt e, ad_0, ad_0, nI_add]
      exact ⟨tv, rfl, hV⟩
    · obtain ⟨px, py⟩ := pt (by omega)
      rw [if_neg (fun q => e ((le0_n (by omega)).mp q)), pk_sub px, pk_mul, nI_add, ck_n (by omega) (by decide), ck_n (by omega) (by decide), pk_mul, nI_add, pk_sub (by omega), ck_n (by omega) (by decide), ck_n (by omega) (by decide), nI_clamp (by omega), nI_clamp (by omega), nI_add]
      exact ⟨_, rfl, updA (updA hV (by omega) B) (by omega) DD⟩
  by_cases e : o = 0
  · rw [if_pos ((le0_n (by omega)).mpr e), hAo e, hCo e, ad_0, ad_0]
    exact second T0 th0 u0
  · obtain ⟨px, py⟩ := po (by omega)
    rw [if_neg (fun q => e ((le0_n (by omega)).mp q)), nI_add, pk_mul, nI_add, ck_n (by omega) (by decide), ck_n (by omega) (by decide), nI_add, ck_n (by omega) (by decide), ck_n (by omega) (by decide), nI_clamp (by omega), nI_clamp (by omega)]
    exact second _ _ (updA (updA u0 (by omega) A) (by omega) C)
