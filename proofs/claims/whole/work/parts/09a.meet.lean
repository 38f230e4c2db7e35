/-! PURE: a meeting, a million parted over all stands -/
def ad (T : Nat → Nat) (k v : Nat) : Nat → Nat := fun j => T j + (if j = k then v else 0)
def tr (U : Nat → Nat) (f t v : Nat) : Nat → Nat := fun j => (U j - (if j = f then v else 0)) + (if j = t then v else 0)
def sumN (f : Nat → Nat) : Nat → Nat
  | 0 => 0
  | n + 1 => sumN f n + f n
theorem sum_congr {f g : Nat → Nat} : ∀ n, (∀ k, k < n → f k = g k) → sumN f n = sumN g n := by
  intro n
  induction n with
  | zero => intro _; rfl
  | succ n ih => intro h; unfold sumN; rw [ih fun k hk => h k (by omega), h n (by omega)]
theorem sum_ge {f : Nat → Nat} : ∀ n k, k < n → f k ≤ sumN f n := by
  intro n
  induction n with
  | zero => intro k h; omega
  | succ n ih =>
    intro k h
    unfold sumN
    by_cases e : k = n
    · subst e; omega
    · have := ih k (by omega); omega
theorem sum_ad {f : Nat → Nat} {k v : Nat} : ∀ n, sumN (ad f k v) n = sumN f n + (if k < n then v else 0) := by
  intro n
  induction n with
  | zero => simp [sumN]
  | succ n ih =>
    unfold sumN
    rw [ih]
    unfold ad
    by_cases e : n = k
    · rw [if_pos e, if_neg (by omega), if_pos (by omega)]; omega
    · rw [if_neg e]
      by_cases c : k < n
      · rw [if_pos c, if_pos (by omega)]; omega
      · rw [if_neg c, if_neg (by omega)]; omega
theorem sum_sb {f : Nat → Nat} {k v : Nat} (hv : v ≤ f k) : ∀ n, sumN (fun j => f j - (if j = k then v else 0)) n + (if k < n then v else 0) = sumN f n := by
  intro n
  induction n with
  | zero => simp [sumN]
  | succ n ih =>
    unfold sumN
    by_cases e : n = k
    · subst e
      rw [if_pos rfl, if_pos (Nat.lt_succ_self n)]
      rw [if_neg (Nat.lt_irrefl n)] at ih
      omega
    · rw [if_neg e]
      by_cases c : k < n
      · rw [if_pos c] at ih; rw [if_pos (by omega)]; omega
      · rw [if_neg c] at ih; rw [if_neg (by omega)]; omega
theorem sum_tr {U : Nat → Nat} {f t v : Nat} (hv : v ≤ U f) (hf : f < 81) (ht : t < 81) : sumN (tr U f t v) 81 = sumN U 81 := by
  have h1 := sum_ad (f := fun j => U j - (if j = f then v else 0)) (k := t) (v := v) 81
  have h2 := sum_sb hv 81
  rw [if_pos ht] at h1
  rw [if_pos hf] at h2
  show sumN (ad (fun j => U j - (if j = f then v else 0)) t v) 81 = _
  rw [h1]; exact h2
/-- the part that goes on: of c, w of the pairs, h of a hundred -/
def qp (a b c w h : Nat) : Nat := c * w * h / (100 * a * b)
theorem div4 {d p q r s t : Nat} (h : p + q + r + s ≤ t * d) (hd : 0 < d) : p / d + q / d + r / d + s / d ≤ t := by
  have h1 := Nat.div_mul_le_self p d
  have h2 := Nat.div_mul_le_self q d
  have h3 := Nat.div_mul_le_self r d
  have h4 := Nat.div_mul_le_self s d
  refine Nat.le_of_mul_le_mul_right (c := d) ?_ hd
  rw [Nat.add_mul, Nat.add_mul, Nat.add_mul]
  omega
theorem pairs_le {a b x y : Nat} (hx : x ≤ a) (hy : y ≤ b) : (a - x) * (b - y) + x * y ≤ a * b := by
  obtain ⟨u, rfl⟩ : ∃ u, a = x + u := ⟨a - x, by omega⟩
  obtain ⟨v, rfl⟩ : ∃ v, b = y + v := ⟨b - y, by omega⟩
  rw [Nat.add_sub_cancel_left, Nat.add_sub_cancel_left, Nat.add_mul, Nat.mul_add, Nat.mul_add]
  omega
theorem parts_le {a b c x y zh oh : Nat} (ha : 1 ≤ a) (hb : 1 ≤ b) (hx : x ≤ a) (hy : y ≤ b) (hh : zh + oh ≤ 100) : qp a b c ((a - x) * (b - y)) zh + qp a b c (x * y) zh + qp a b c ((a - x) * (b - y)) oh + qp a b c (x * y) oh ≤ c := by
  unfold qp
  have hd : 0 < 100 * a * b := Nat.mul_pos (Nat.mul_pos (by decide) ha) hb
  refine div4 ?_ hd
  have hp := pairs_le hx hy
  generalize (a - x) * (b - y) = o at hp ⊢
  generalize x * y = t at hp ⊢
  have e1 : c * o * zh + c * t * zh = c * (o + t) * zh := by rw [Nat.mul_add, Nat.add_mul]
  have e2 : c * o * oh + c * t * oh = c * (o + t) * oh := by rw [Nat.mul_add, Nat.add_mul]
  have e3 : c * (o + t) * zh + c * (o + t) * oh = c * (o + t) * (zh + oh) := (Nat.mul_add _ _ _).symm
  have e4 : c * (o + t) * (zh + oh) ≤ c * (a * b) * 100 := Nat.mul_le_mul (Nat.mul_le_mul (Nat.le_refl c) hp) hh
  have e5 : c * (a * b) * 100 = c * (100 * a * b) := by
    rw [Nat.mul_assoc, Nat.mul_comm (a * b) 100, Nat.mul_assoc 100]
  omega
theorem qp_lt {a b c w h : Nat} (hc : c ≤ 1000000) (hw : w ≤ 64) (hh : h ≤ 100) : c * w * h ≤ 6400000000 := by
  have : c * w * h ≤ 1000000 * 64 * 100 := Nat.mul_le_mul (Nat.mul_le_mul hc hw) hh
  omega
theorem qp_0 {a b c h : Nat} : qp a b c 0 h = 0 := by unfold qp; rw [Nat.mul_zero, Nat.zero_mul, Nat.zero_div]
/-- what a stand (x, y) gives -/
def sc (a b zh oh : Nat) (N : Nat → Nat) (x y : Nat) (T : Nat → Nat) : Nat → Nat :=
  ad (ad (ad (ad (ad T (9 * x + y) (N (9 * x + y) - qp a b (N (9 * x + y)) ((a - x) * (b - y)) zh - qp a b (N (9 * x + y)) (x * y) zh - qp a b (N (9 * x + y)) ((a - x) * (b - y)) oh - qp a b (N (9 * x + y)) (x * y) oh)) (9 * (x + 1) + y) (qp a b (N (9 * x + y)) ((a - x) * (b - y)) zh)) (9 * x + y + 1) (qp a b (N (9 * x + y)) ((a - x) * (b - y)) oh)) (9 * (x - 1) + y) (qp a b (N (9 * x + y)) (x * y) zh)) (9 * x + y - 1) (qp a b (N (9 * x + y)) (x * y) oh)
def sr (a b zh oh : Nat) (N : Nat → Nat) (x : Nat) : Nat → (Nat → Nat) → (Nat → Nat)
  | 0, T => T
  | y + 1, T => sc a b zh oh N x y (sr a b zh oh N x y T)
def sg (a b zh oh : Nat) (N : Nat → Nat) : Nat → (Nat → Nat)
  | 0 => fun _ => 0
  | x + 1 => sr a b zh oh N x (b + 1) (sg a b zh oh N x)
def stp (a b zh oh : Nat) (N : Nat → Nat) : Nat → Nat := sg a b zh oh N (a + 1)
/-- nothing outside -/
def zo (a b : Nat) (N : Nat → Nat) : Prop := ∀ k, (a < k / 9 ∨ b < k % 9) → N k = 0
def rm_ (N : Nat → Nat) (x y k : Nat) : Nat := if k / 9 < x ∨ (k / 9 = x ∧ k % 9 < y) then 0 else N k
def holdL (N : Nat → Nat) (f : Nat → Int64) : Prop := ∀ k, k < 81 → f k = lN (N k)
theorem lc0 {n : Nat} (h : n < 2 ^ 63) : lg_cmp (lN n) (lN 0) ≤ 0 ↔ n = 0 := by
  rw [lg_cmp_le, pk_lLE h (by decide)]; omega
theorem updL_hold {U : Nat → Nat} {f : Nat → Int64} (h : holdL U f) (k v : Nat) : holdL (fun j => if j = k then v else U j) (vp_updL f k (lN v)) := by
  intro j hj
  dsimp only
  by_cases e : j = k
  · rw [if_pos e, e, pk_uLs]
  · rw [if_neg e, pk_uLn e]; exact h j hj
theorem go_of {a b : Nat} (ha : 1 ≤ a) (ha8 : a ≤ 8) (hb : 1 ≤ b) (hb8 : b ≤ 8) {U : Nat → Nat} {nx : Nat → Int64} (h : holdL U nx) {f t : Nat} (hf : f < 81) (hft : f ≠ t) {c w g : Nat} (hc : c ≤ 1000000) (hw : w ≤ 64) (hg : g ≤ 100) (ht : 0 < qp a b c w g → t < 81) (hv : qp a b c w g ≤ U f) (mv : Int32) : ∃ mv' nx', D_X1_go (nI f) (nI t) (lN (c * w) * lN g) (nI a) (nI b) mv nx = some (mv', nx') ∧ holdL (tr U f t (qp a b c w g)) nx' ∧ ((mv' = mv ∧ qp a b c w g = 0) ∨ (mv' = nI 1 ∧ 0 < qp a b c w g)) := by
  have hl := qp_lt hc hw hg (a := a) (b := b)
  have hd : 0 < 100 * a * b := Nat.mul_pos (Nat.mul_pos (by decide) ha) hb
  have hd2 : 100 * a * b ≤ 6400 := Nat.mul_le_mul (Nat.mul_le_mul (Nat.le_refl 100) ha8) hb8
  unfold D_X1_go
  simp only [nm_s]
  rw [nI_l (by omega), nI_l (by omega), lN_mul, lN_mul, lN_mul, if_neg (fun z => Nat.ne_of_gt hd ((lc0 (by omega)).mp z)), dzl_n hd (by omega), pk_lDiv (by omega) hd (by omega)]
  have hq : c * w * g / (100 * a * b) = qp a b c w g := rfl
  rw [hq]
  have hq2 : qp a b c w g ≤ 6400000000 := Nat.le_trans (Nat.div_le_self _ _) hl
  unfold j_X1_go_32
  by_cases e : qp a b c w g = 0
  · rw [if_pos ((lc0 (by omega)).mpr e)]
    refine ⟨_, _, rfl, ?_, Or.inl ⟨rfl, e⟩⟩
    intro k hk
    unfold tr
    rw [e]
    simp only [ite_self, Nat.sub_zero, Nat.add_zero]
    exact h k hk
  · have ht := ht (by omega)
    rw [if_neg (fun z => e ((lc0 (by omega)).mp z)), row_add hf (by decide), bd1_s, row_add ht (by decide), bd1_s, h f hf, lN_neg hv, pk_uLn (fun q => hft q.symm), h t ht, lN_add]
    refine ⟨_, _, rfl, ?_, Or.inr ⟨rfl, by omega⟩⟩
    intro k hk
    have := updL_hold (updL_hold h f (U f - qp a b c w g)) t (U t + qp a b c w g) k hk
    rw [this]
    dsimp only
    unfold tr
    by_cases e1 : k = t
    · subst e1; rw [if_pos rfl, if_pos rfl, if_neg (fun q => hft q.symm), Nat.sub_zero]
    · rw [if_neg e1, if_neg e1]
      by_cases e2 : k = f
      · subst e2; rw [if_pos rfl, if_pos rfl, Nat.add_zero]
      · rw [if_neg e2, if_neg e2, Nat.sub_zero, Nat.add_zero]
theorem place_of (x y : Nat) : D_X1_place (nI x) (nI y) = some (nI (9 * x + y)) := by
  unfold D_X1_place
  rw [pk_mul, nI_add, Nat.mul_comm x 9]
