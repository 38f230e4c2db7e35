/-! PURE: two loops in step; children, kept stands, counts, sounds lost, the tongue -/
theorem lpg_sim {T1 σ1 R1 T2 σ2 R2 : Type} {bot1 : T1} {body1 : T1 → T1} {bot2 : T2} {body2 : T2 → T2} (ap1 : T1 → σ1 → Option R1) (ap2 : T2 → σ2 → Option R2) (I : Nat → σ1 → σ2 → Prop) (Q : R1 → R2 → Prop)
    (hs : ∀ (rec1 : T1) (rec2 : T2) (d : Nat) (s1 : σ1) (s2 : σ2), I d s1 s2 → (∃ r1 r2, Q r1 r2 ∧ ap1 (body1 rec1) s1 = some r1 ∧ ap2 (body2 rec2) s2 = some r2) ∨ (∃ (d' : Nat) (s1' : σ1) (s2' : σ2), d' < d ∧ I d' s1' s2' ∧ ap1 (body1 rec1) s1 = ap1 rec1 s1' ∧ ap2 (body2 rec2) s2 = ap2 rec2 s2')) :
    ∀ (d F : Nat) (s1 : σ1) (s2 : σ2), d < F → I d s1 s2 → ∃ r1 r2, Q r1 r2 ∧ ap1 (lpg bot1 body1 F) s1 = some r1 ∧ ap2 (lpg bot2 body2 F) s2 = some r2 := by
  intro d
  induction d using Nat.strongRecOn with
  | ind d ih =>
    intro F s1 s2 hF hI
    cases F with
    | zero => omega
    | succ F =>
      rw [lpg_succ, lpg_succ]
      rcases hs (lpg bot1 body1 F) (lpg bot2 body2 F) d s1 s2 hI with h | ⟨d', s1', s2', h1, h2, h3, h4⟩
      · exact h
      · rw [h3, h4]; exact ih d' h1 F s1' s2' (by omega) h2
-- children
def hr (s k : Nat) : Nat := s ^ k * 1000 / (s ^ k + (1000 - s) ^ k)
theorem pow3 {s k : Nat} (hs : s ≤ 1000) (hk : k ≤ 3) : s ^ k ≤ 1000000000 := by
  have h1 : s ^ k ≤ 1000 ^ k := Nat.pow_le_pow_left hs k
  have h2 : 1000 ^ k ≤ 1000 ^ 3 := Nat.pow_le_pow_right (by decide) hk
  omega
theorem hr_pos {s k : Nat} (hs : s ≤ 1000) (hk : 1 ≤ k) : 0 < s ^ k + (1000 - s) ^ k := by
  by_cases c : s = 0
  · have : 0 < (1000 - s) ^ k := Nat.pow_pos (by omega)
    omega
  · have : 0 < s ^ k := Nat.pow_pos (by omega)
    omega
theorem hr_le (s k : Nat) : hr s k ≤ 1000 := by
  unfold hr
  refine Nat.div_le_of_le_mul ?_
  exact Nat.mul_le_mul (by omega) (Nat.le_refl _)
theorem hear_of {F : Nat} (hF : 600 ≤ F) {s k : Nat} (hs : s ≤ 1000) (hk1 : 1 ≤ k) (hk : k ≤ 3) : D_X10_hear F (nI s) (nI k) = some (nI (hr s k)) := by
  unfold D_X10_hear
  obtain ⟨⟨o1, o2⟩, hr1, hr2⟩ := lpg_ind (bot := fun _ _ _ => none) (body := b_X10_hear_8 (nI s) (nI k)) (fun f (t : Int64 × Int64 × Int32) => f t.1 t.2.1 t.2.2)
    (fun d t => ∃ i, i + d = k ∧ t = (lN (s ^ i), lN ((1000 - s) ^ i), nI i)) (fun r => r = (lN (s ^ k), lN ((1000 - s) ^ k)))
    (by
      rintro rec d t ⟨i, hi, rfl⟩
      dsimp only
      rw [b_X10_hear_8]
      by_cases hd : d = 0
      · left
        rw [if_pos (nI_le (by omega) (by omega))]
        exact ⟨_, by rw [show i = k by omega], rfl⟩
      · right
        rw [if_neg (nI_leN (by omega) (by omega) (by omega)), pk_sub hs, nI_l (by omega), nI_l (by omega), lN_mul, lN_mul, nm_s, nm_s, nm_s, nI_add]
        exact ⟨d - 1, (lN (s ^ (i + 1)), lN ((1000 - s) ^ (i + 1)), nI (i + 1)), by omega, ⟨i + 1, by omega, rfl⟩, by rw [Nat.pow_succ, Nat.pow_succ]⟩)
    k F (lN 1, lN 1, nI 0) (by omega) ⟨0, by omega, rfl⟩
  dsimp only at hr2
  have h1 := pow3 hs hk
  have h2 := pow3 (s := 1000 - s) (k := k) (by omega) hk
  have h3 := hr_pos hs hk1
  have h4 := hr_le s k
  cases hr1
  rw [hr2, bd2_s, lN_add, dzl_n h3 (by omega), lN_mul, pk_lDiv (by omega) h3 (by omega), lN_i]
  rfl
theorem gen_of {F : Nat} (hF : 600 ≤ F) {s k : Nat} (hs : s ≤ 1000) (hk1 : 1 ≤ k) (hk : k ≤ 3) : D_X9_nextGeneration F (nI s) (nI k) = some (nI (hr s k)) := by
  unfold D_X9_nextGeneration
  obtain ⟨⟨o1, o2⟩, hr1, hr2⟩ := lpg_ind (bot := fun _ _ _ => none) (body := b_X9_nextGeneration_8 (nI s) (nI k)) (fun f (t : Int64 × Int64 × Int32) => f t.1 t.2.1 t.2.2)
    (fun d t => ∃ i, i + d = k ∧ t = (lN (s ^ i), lN ((1000 - s) ^ i), nI i)) (fun r => r = (lN (s ^ k), lN ((1000 - s) ^ k)))
    (by
      rintro rec d t ⟨i, hi, rfl⟩
      dsimp only
      rw [b_X9_nextGeneration_8]
      by_cases hd : d = 0
      · left
        rw [if_pos (nI_le (by omega) (by omega))]
        exact ⟨_, by rw [show i = k by omega], rfl⟩
      · right
        rw [if_neg (nI_leN (by omega) (by omega) (by omega)), pk_sub hs, nI_l (by omega), nI_l (by omega), lN_mul, lN_mul, nm_s, nm_s, nm_s, nI_add]
        exact ⟨d - 1, (lN (s ^ (i + 1)), lN ((1000 - s) ^ (i + 1)), nI (i + 1)), by omega, ⟨i + 1, by omega, rfl⟩, by rw [Nat.pow_succ, Nat.pow_succ]⟩)
    k F (lN 1, lN 1, nI 0) (by omega) ⟨0, by omega, rfl⟩
  dsimp only at hr2
  have h1 := pow3 hs hk
  have h2 := pow3 (s := 1000 - s) (k := k) (by omega) hk
  have h3 := hr_pos hs hk1
  have h4 := hr_le s k
  cases hr1
  have h5 : ¬ lg_cmp (lN (s ^ k + (1000 - s) ^ k)) (lN 0) ≤ 0 := by
    rw [lg_cmp_le, pk_lLE (by omega) (by decide)]; omega
  rw [hr2, bd2_s, lN_add, nm_s, if_neg h5, dzl_n h3 (by omega), lN_mul, pk_lDiv (by omega) h3 (by omega), lN_i]
  rfl
theorem isOfThousand_of (x : Int32) : D_X9_isOfThousand x = some (zb (0 ≤ x.toInt ∧ x.toInt < 1001)) := by
  unfold D_X9_isOfThousand
  by_cases h1 : x < 0
  · rw [if_pos h1, zb_f]; rw [lt0_iff] at h1; omega
  · rw [if_neg h1]; rw [lt0_iff] at h1
    first
    | (by_cases h2 : nI 1000 < x
       · rw [if_pos h2, zb_f]; rw [ti_lt' (by decide)] at h2; omega
       · rw [if_neg h2, zb_t]; rw [ti_lt' (by decide)] at h2; omega)
    | (by_cases h2 : x ≤ nI 1000
       · rw [if_pos h2, zb_t]; rw [ti_le' (by decide)] at h2; omega
       · rw [if_neg h2, zb_f]; rw [ti_le' (by decide)] at h2; omega)
theorem isBent_of (x : Int32) : D_X9_isBent x = some (zb (1 ≤ x.toInt ∧ x.toInt < 4)) := by
  unfold D_X9_isBent
  by_cases h1 : x < nI 1
  · rw [if_pos h1, zb_f]; rw [ti_lt (by decide)] at h1; omega
  · rw [if_neg h1]; rw [ti_lt (by decide)] at h1
    first
    | (by_cases h2 : nI 3 < x
       · rw [if_pos h2, zb_f]; rw [ti_lt' (by decide)] at h2; omega
       · rw [if_neg h2, zb_t]; rw [ti_lt' (by decide)] at h2; omega)
    | (by_cases h2 : x ≤ nI 3
       · rw [if_pos h2, zb_t]; rw [ti_le' (by decide)] at h2; omega
       · rw [if_neg h2, zb_f]; rw [ti_le' (by decide)] at h2; omega)
theorem in13 (x : Int32) : D_X10_in x.toInt64 (lN 1) (lN 3) = some (zb (1 ≤ x.toInt ∧ x.toInt < 4)) := by
  rw [in_of x (by decide) (by decide)]
  exact congrArg some (zb_congr (by omega))
theorem in1000 (x : Int32) : D_X10_in x.toInt64 (lN 0) (lN 1000) = some (zb (0 ≤ x.toInt ∧ x.toInt < 1001)) := in_rng x (by decide)
theorem e_children {F : Nat} (hF : 600 ≤ F) (p1 p2 p3 : Int32) : ∃ r, D_X9_children F p1 p2 p3 = some r ∧ D_X10_children F p1 p2 p3 = some r := by
  unfold D_X9_children D_X10_children
  rw [isOfThousand_of, bd1_s, zb_if, in1000, bd1_s, zb_if]
  by_cases h1 : 0 ≤ p1.toInt ∧ p1.toInt < 1001
  case neg => rw [if_neg h1, if_neg h1]; exact ⟨_, rfl, rfl⟩
  rw [if_pos h1, if_pos h1, isBent_of, bd1_s, zb_if, in13, bd1_s, zb_if]
  by_cases h2 : 1 ≤ p2.toInt ∧ p2.toInt < 4
  case neg => rw [if_neg h2, if_neg h2]; exact ⟨_, rfl, rfl⟩
  rw [if_pos h2, if_pos h2, in_rng p3 (n := 20) (by decide), bd1_s, zb_if]
  by_cases h3 : 0 ≤ p3.toInt ∧ p3.toInt < (20 + 1 : Nat)
  case neg =>
    rw [if_neg h3]
    refine ⟨(-1 : Int32), ?_, rfl⟩
    by_cases c : p3 < 0
    · rw [if_pos c]
    · rw [if_neg c, if_neg]
      rw [ti_le' (by decide)]; rw [lt0_iff] at c; omega
  rw [if_pos h3, if_neg (by rw [lt0_iff]; omega), if_pos (by rw [ti_le' (by decide)]; omega)]
  obtain ⟨s, hs, rfl⟩ := ti_in h1.1 (n := 1001) h1.2
  obtain ⟨k, hk, rfl⟩ := ti_in (x := p2) (by omega) (n := 4) h2.2
  obtain ⟨g, hg, rfl⟩ := ti_in h3.1 (n := 21) h3.2
  rw [nI_toInt (by omega)] at h2
  obtain ⟨r1, r2, hq, e1, e2⟩ := lpg_sim (bot1 := fun _ _ => none) (body1 := b_X9_children_32 (nI k) (nI g) F) (bot2 := fun _ _ => none) (body2 := b_X10_children_44 (nI k) (nI g) F) (fun f (t : Int32 × Int32) => f t.1 t.2) (fun f (t : Int32 × Int32) => f t.1 t.2)
    (fun d t1 t2 => ∃ v i, i + d = g ∧ v ≤ 1000 ∧ t1 = (nI v, nI i) ∧ t2 = (nI v, nI i)) (fun r1 r2 => r1 = r2)
    (by
      rintro rec1 rec2 d t1 t2 ⟨v, i, hi, hv, rfl, rfl⟩
      dsimp only
      rw [b_X9_children_32, b_X10_children_44]
      by_cases hd : d = 0
      · left
        rw [if_pos (nI_le (by omega) (by omega)), if_pos (nI_le (by omega) (by omega))]
        exact ⟨_, _, rfl, rfl, rfl⟩
      · right
        rw [if_neg (nI_leN (by omega) (by omega) (by omega)), if_neg (nI_leN (by omega) (by omega) (by omega)), gen_of hF hv (by omega) (by omega), hear_of hF hv (by omega) (by omega), bd1_s, bd1_s, nm_s, nm_s, nI_add]
        exact ⟨d - 1, (nI (hr v k), nI (i + 1)), (nI (hr v k), nI (i + 1)), by omega, ⟨hr v k, i + 1, by omega, hr_le v k, rfl, rfl⟩, rfl, rfl⟩)
    g F (nI s, nI 0) (nI s, nI 0) (by omega) ⟨s, 0, by omega, by omega, rfl, rfl⟩
  dsimp only at e1 e2
  rw [e1, e2, bd1_s, bd1_s, hq]
  exact ⟨_, rfl, rfl⟩
theorem e_even {F : Nat} (hF : 600 ≤ F) (p1 p2 : Int32) : ∃ r, D_X9_even F p1 p2 = some r ∧ D_X10_even F p1 p2 = some r := by
  unfold D_X9_even D_X10_even
  rw [isOfThousand_of, bd1_s, zb_if, in1000, bd1_s, zb_if]
  by_cases h1 : 0 ≤ p1.toInt ∧ p1.toInt < 1001
  case neg => rw [if_neg h1, if_neg h1]; exact ⟨_, rfl, rfl⟩
  rw [if_pos h1, if_pos h1, isBent_of, bd1_s, zb_if, in13, bd1_s, zb_if]
  by_cases h2 : 1 ≤ p2.toInt ∧ p2.toInt < 4
  case neg => rw [if_neg h2, if_neg h2]; exact ⟨_, rfl, rfl⟩
  rw [if_pos h2, if_pos h2]
  obtain ⟨s, hs, rfl⟩ := ti_in h1.1 (n := 1001) h1.2
  obtain ⟨k, hk, rfl⟩ := ti_in (x := p2) (by omega) (n := 4) h2.2
  rw [nI_toInt (by omega)] at h2
  obtain ⟨r1, r2, hq, e1, e2⟩ := lpg_sim (bot1 := fun _ _ => none) (body1 := b_X9_even_21 (nI k) F) (bot2 := fun _ _ => none) (body2 := b_X10_even_31 (nI k) F) (fun f (t : Int32 × Int32) => f t.1 t.2) (fun f (t : Int32 × Int32) => f t.1 t.2)
    (fun d t1 t2 => ∃ v i, i + d = 21 ∧ v ≤ 1000 ∧ t1 = (nI v, nI i) ∧ t2 = (nI v, nI i)) (fun r1 r2 => r1 = r2)
    (by
      rintro rec1 rec2 d t1 t2 ⟨v, i, hi, hv, rfl, rfl⟩
      dsimp only
      rw [b_X9_even_21, b_X10_even_31]
      by_cases hd : d = 0
      · left
        rw [if_pos (nI_lt (by omega) (by omega)), if_pos (nI_lt (by omega) (by omega))]
        exact ⟨_, _, rfl, rfl, rfl⟩
      · rw [if_neg (nI_nlt (a := 20) (b := i) (by omega) (by omega)), if_neg (nI_nlt (a := 20) (b := i) (by omega) (by omega))]
        by_cases c1 : nI 950 ≤ nI v
        · left; rw [if_pos c1, if_pos c1]; exact ⟨_, _, rfl, rfl, rfl⟩
        · rw [if_neg c1, if_neg c1]
          by_cases c2 : nI 50 < nI v
          · right
            rw [if_pos c2, if_pos c2, gen_of hF hv (by omega) (by omega), hear_of hF hv (by omega) (by omega), bd1_s, bd1_s, nm_s, nm_s, nI_add]
            exact ⟨d - 1, (nI (hr v k), nI (i + 1)), (nI (hr v k), nI (i + 1)), by omega, ⟨hr v k, i + 1, by omega, hr_le v k, rfl, rfl⟩, rfl, rfl⟩
          · left; rw [if_neg c2, if_neg c2]; exact ⟨_, _, rfl, rfl, rfl⟩)
    21 F (nI s, nI 0) (nI s, nI 0) (by omega) ⟨s, 0, by omega, by omega, rfl, rfl⟩
  dsimp only at e1 e2
  rw [e1, e2, hq]
  exact ⟨_, rfl, rfl⟩
-- kept stands: n of them, one behind the other
def okKp (b : BT) (n : Nat) (g : Nat → Nat) : Prop := n ≤ 2 ∧ ∀ k, k < n → okS b (fun j => g (16 * k + j))
def holdK (n : Nat) (g : Nat → Nat) (a : Nat → Int32) : Prop := ∀ k, k < 16 * n → a k = nI (g k)
theorem cpk_n {α : Type} {sp dp n n0 n1 : Nat} {r : Option α} (h0 : sp + n ≤ n0) (h1 : dp + n ≤ n1) (hn0 : n0 < 2 ^ 31) (hn1 : n1 < 2 ^ 31) : cpk (nI sp) (nI dp) (nI n) n0 n1 r = r := by
  unfold cpk
  rw [nI_clamp (by omega), nI_clamp (by omega), nI_clamp (by omega)]
  exact if_neg (by
    rintro (h | h | h | h | h)
    · exact nlt0 (by omega) h
    · exact nlt0 (by omega) h
    · exact nlt0 (by omega) h
    · omega
    · omega)
theorem e_keep {F : Nat} (hF : 600 ≤ F) {b : BT} {f : Nat → Nat} (okf : okS b f) {oth sta : Nat → Int32} (ho : holdS f oth) (hs : holdS f sta) {n : Nat} {g : Nat → Nat} (okg : okKp b n g) {kO kM : Nat → Int32} (hkO : holdK n g kO) (hkM : holdK n g kM) : ∃ r n' g' kO' kM', okKp b n' g' ∧ holdK n' g' kO' ∧ holdK n' g' kM' ∧ D_X9_keep (nI n) oth kO = some (r, nI n', kO') ∧ D_X10_keep F (nI n) sta kM = some (r, nI n', kM') := by
  unfold D_X9_keep D_X10_keep D_X6_push D_X6_kept
  have hn := okg.1
  by_cases c : n = 2
  · subst c
    rw [if_neg (by decide), bd3_s, if_n0, if_pos rfl]
    exact ⟨_, 2, g, kO, kM, okg, hkO, hkM, rfl, rfl⟩
  · rw [if_pos (nI_lt (by omega) (by decide)), pk_mul, cpk_n (by omega) (by omega) (by decide) (by decide), nm_s, bd3_s, if_n1, bd1_s, if_neg (fun q => c ((nI_eq (by omega) (by decide)).mp q)), nI_add]
    obtain ⟨r, hr1, hr2⟩ := lpg_ind (bot := fun _ _ => none) (body := b_X10_keep_13 (nI n) sta) (fun f (s : Int32 × (Nat → Int32)) => f s.1 s.2)
      (fun d s => ∃ k y, k + d = 16 ∧ s = (nI k, y) ∧ (∀ j, j < 16 * n → y j = nI (g j)) ∧ ∀ j, j < k → y (16 * n + j) = nI (f j)) (fun r => (∀ j, j < 16 * n → r j = nI (g j)) ∧ ∀ j, j < 16 → r (16 * n + j) = nI (f j))
      (by
        rintro rec d s ⟨k, y, hk, rfl, h1, h2⟩
        dsimp only
        rw [b_X10_keep_13]
        by_cases hd : d = 0
        · left
          have e : k = 16 := by omega
          subst e
          exact ⟨y, ⟨h1, h2⟩, if_pos (nI_le (by omega) (by omega))⟩
        · right
          rw [if_neg (nI_leN (by omega) (by omega) (by omega)), ck_n (by omega) (by decide), nm_s, nI_clamp (by omega), hs k (by omega), pk_mul, nI_add, ck_n (by omega) (by decide), nm_s, nI_add, nI_clamp (by omega)]
          refine ⟨d - 1, (nI (k + 1), upd y (16 * n + k) (nI (f k))), by omega, ⟨k + 1, upd y (16 * n + k) (nI (f k)), by omega, rfl, fun j hj => ?_, fun j hj => ?_⟩, rfl⟩
          · rw [pk_un (by omega)]; exact h1 j hj
          · by_cases e : j = k
            · rw [e, pk_us]
            · rw [pk_un (by omega)]; exact h2 j (by omega))
      16 F (nI 0, kM) (by omega) ⟨0, kM, by omega, rfl, hkM, fun j hj => absurd hj (Nat.not_lt_zero j)⟩
    dsimp only at hr2
    rw [hr2, bd1_s, nm_s, nI_clamp (by decide), nI_clamp (by omega), nI_clamp (by decide)]
    refine ⟨_, n + 1, fun j => if j < 16 * n then g j else f (j - 16 * n), _, r, ⟨by omega, fun k hk => ?_⟩, ?_, ?_, rfl, rfl⟩
    · intro m hm
      dsimp only
      by_cases e : k = n
      · subst e
        have := okf m hm
        rw [if_neg (by omega), if_neg (by omega), show 16 * k + 2 * m - 16 * k = 2 * m by omega, show 16 * k + (2 * m + 1) - 16 * k = 2 * m + 1 by omega]; exact this
      · have := okg.2 k (by omega) m hm
        rw [if_pos (by omega), if_pos (by omega)]; exact this
    · intro k hk
      dsimp only
      by_cases e : k < 16 * n
      · rw [if_pos e, pk_cpy_out (by omega)]; exact hkO k e
      · rw [if_neg e, pk_cpy_in (by omega) (by omega), show 0 + (k - n * 16) = k - 16 * n by omega]; exact ho _ (by omega)
    · intro k hk
      dsimp only
      by_cases e : k < 16 * n
      · rw [if_pos e]; exact hr1.1 k e
      · rw [if_neg e]
        have := hr1.2 (k - 16 * n) (by omega)
        rw [show 16 * n + (k - 16 * n) = k by omega] at this; exact this
theorem e_back {F : Nat} (hF : 600 ≤ F) {b : BT} {f : Nat → Nat} (okf : okS b f) {oth sta : Nat → Int32} (ho : holdS f oth) (hs : holdS f sta) {n : Nat} {g : Nat → Nat} (okg : okKp b n g) {kO kM : Nat → Int32} (hkO : holdK n g kO) (hkM : holdK n g kM) : ∃ r n' f' oth' sta', n' ≤ n ∧ okS b f' ∧ holdS f' oth' ∧ holdS f' sta' ∧ D_X9_back (nI n) oth kO = some (r, nI n', oth') ∧ D_X10_back F (nI n) sta kM = some (r, nI n', sta') := by
  unfold D_X9_back D_X10_back D_X6_pop D_X6_kept
  have hn := okg.1
  by_cases c : n = 0
  · subst c
    rw [if_neg (by decide), bd3_s, if_n0, if_n0]
    exact ⟨_, 0, f, oth, sta, Nat.le_refl _, okf, ho, hs, rfl, rfl⟩
  · rw [if_pos (by rw [zl0]; exact nI_lt (by omega) (by omega)), pk_sub (by omega), nm_s, pk_mul, cpk_n (by omega) (by omega) (by decide) (by decide), bd3_s, if_n1, bd1_s, if_neg (nI_ne0 (by omega) (by omega)), nm_s]
    obtain ⟨r, hr1, hr2⟩ := lpg_ind (bot := fun _ _ => none) (body := b_X10_back_22 kM (nI (n - 1))) (fun f (s : Int32 × (Nat → Int32)) => f s.1 s.2)
      (fun d s => ∃ k y, k + d = 16 ∧ s = (nI k, y) ∧ ∀ j, j < k → y j = nI (g (16 * (n - 1) + j))) (fun r => ∀ j, j < 16 → r j = nI (g (16 * (n - 1) + j)))
      (by
        rintro rec d s ⟨k, y, hk, rfl, h2⟩
        dsimp only
        rw [b_X10_back_22]
        by_cases hd : d = 0
        · left
          have e : k = 16 := by omega
          subst e
          exact ⟨y, h2, if_pos (nI_le (by omega) (by omega))⟩
        · right
          rw [if_neg (nI_leN (by omega) (by omega) (by omega)), pk_mul, nI_add, ck_n (by omega) (by decide), nm_s, nI_clamp (by omega), nI_clamp (by omega), hkM (16 * (n - 1) + k) (by omega), ck_n (by omega) (by decide), nm_s, nI_add]
          refine ⟨d - 1, (nI (k + 1), upd y k (nI (g (16 * (n - 1) + k)))), by omega, ⟨k + 1, upd y k (nI (g (16 * (n - 1) + k))), by omega, rfl, fun j hj => ?_⟩, rfl⟩
          by_cases e : j = k
          · rw [e, pk_us]
          · rw [pk_un e]; exact h2 j (by omega))
      16 F (nI 0, sta) (by omega) ⟨0, sta, by omega, rfl, fun j hj => absurd hj (Nat.not_lt_zero j)⟩
    dsimp only at hr2
    rw [hr2, bd1_s, nI_clamp (by omega), nI_clamp (by decide), nI_clamp (by decide)]
    refine ⟨_, n - 1, fun j => g (16 * (n - 1) + j), _, r, by omega, okg.2 (n - 1) (by omega), fun k hk => ?_, hr1, rfl, rfl⟩
    rw [pk_cpy_in (by omega) (by omega), show (n - 1) * 16 + (k - 0) = 16 * (n - 1) + k by omega]; exact hkO _ (by omega)
