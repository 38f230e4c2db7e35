/-! PURE: calls that ask, one by one: class and reference answer alike -/
theorem in_rng (x : Int32) {n : Nat} (hn : n + 1 < 2 ^ 31) : D_X10_in x.toInt64 (lN 0) (lN n) = some (zb (0 ≤ x.toInt ∧ x.toInt < (n + 1 : Nat))) := by
  rw [in_of x (by decide) (by omega)]
  exact congrArg some (zb_congr (by omega))
theorem in01 (x : Int32) : D_X10_in x.toInt64 (lN 0) (lN 1) = some (zb (0 ≤ x.toInt ∧ x.toInt < 2)) := in_rng x (by decide)
theorem in02 (x : Int32) : D_X10_in x.toInt64 (lN 0) (lN 2) = some (zb (0 ≤ x.toInt ∧ x.toInt < 3)) := in_rng x (by decide)
theorem m1_wide : (-1 : Int64) = (-1 : Int32).toInt64 := by decide
theorem inM1 (x : Int32) : D_X10_in x.toInt64 (-1 : Int64) (lN 5) = some (zb (-1 ≤ x.toInt ∧ x.toInt < 6)) := by
  unfold D_X10_in
  have hm : (-1 : Int32).toInt = -1 := by decide
  rw [m1_wide, ← nI_l (n := 5) (by decide)]
  by_cases h1 : lg_cmp x.toInt64 (-1 : Int32).toInt64 < 0
  · rw [if_pos h1, zb_f]
    rw [lg_cmp_lt, fa_wide_lt, fa_lt, hm] at h1
    omega
  · rw [if_neg h1]
    rw [lg_cmp_lt, fa_wide_lt, fa_lt, hm] at h1
    by_cases h2 : 0 < lg_cmp x.toInt64 (nI 5).toInt64
    · rw [if_pos h2, zb_f]
      rw [lg_cmp_gt, fa_wide_lt, ti_lt' (by decide)] at h2
      omega
    · rw [if_neg h2, zb_t]
      rw [lg_cmp_gt, fa_wide_lt, ti_lt' (by decide)] at h2
      omega
theorem rp_n {a b : Nat} (ha : a < 2 ^ 31) (hb : b < 2 ^ 31) : nI a = nI b ↔ a = b := nI_eq ha hb
theorem e_word {F : Nat} (hF : 600 ≤ F) {b : BT} (ok : okB b) {words heard can ins trad tak jM jP : Nat → Int32} {jT uT need spk gd : Int32} (hc : clB b words heard can ins trad tak jM jP jT uT need spk gd) {l : Nat → Int32} (hm : moB b l) (p1 p2 p3 p4 : Int32) (one : Nat → Int32) : ∃ r one', D_X9_word F p1 p2 p3 p4 words can ins = some r ∧ D_X10_word_ F p1 p2 p3 p4 l one = some (r, one') := by
  unfold D_X9_word D_X10_word_
  rw [isPeople_of, bd1_s, zb_if, in01, bd1_s, zb_if]
  by_cases h1 : 0 ≤ p1.toInt ∧ p1.toInt < 2
  case neg => rw [if_neg h1, if_neg h1]; exact ⟨_, _, rfl, rfl⟩
  rw [if_pos h1, if_pos h1, isMeaning_of, bd1_s, zb_if, isMeaningM_of, bd1_s, zb_if]
  by_cases h2 : 0 ≤ p2.toInt ∧ p2.toInt < 8
  case neg => rw [if_neg h2, if_neg h2]; exact ⟨_, _, rfl, rfl⟩
  rw [if_pos h2, if_pos h2, isPeople_of, bd1_s, zb_if, in01, bd1_s, zb_if]
  by_cases h3 : 0 ≤ p3.toInt ∧ p3.toInt < 2
  case neg => rw [if_neg h3, if_neg h3]; exact ⟨_, _, rfl, rfl⟩
  rw [if_pos h3, if_pos h3, inM1, bd1_s, zb_if]
  have hm1 : (-1 : Int32).toInt = -1 := by decide
  have l1 : p4 < (-1 : Int32) ↔ p4.toInt < -1 := by rw [fa_lt, hm1]
  by_cases h4 : -1 ≤ p4.toInt ∧ p4.toInt < 6
  case neg =>
    rw [if_neg h4]
    refine ⟨(-1 : Int32), one, ?_, rfl⟩
    by_cases c : p4 < (-1 : Int32)
    · rw [if_pos c]
    · rw [if_neg c, if_neg]
      rw [ti_lt (by decide)]; rw [l1] at c; omega
  rw [if_pos h4, if_neg (by rw [l1]; omega), if_pos (by rw [ti_lt (by decide)]; omega)]
  obtain ⟨p, hp, rfl⟩ := ti_in h1.1 (n := 2) h1.2
  obtain ⟨m, hmm, rfl⟩ := ti_in h2.1 (n := 8) h2.2
  obtain ⟨q, hq, rfl⟩ := ti_in h3.1 (n := 2) h3.2
  obtain ⟨hc1, hc2, hc3, hc4, -⟩ := hc
  obtain ⟨hm1, hm2, hm3, -⟩ := hm
  rw [wordOf_of hc1 hp hmm, bd1_s, wordAt_of, bd1_s]
  -- what is asked of a word that both hold
  have fin : ∀ (w : List Nat) (z : Int32) (a1 : Nat → Int32), okw w → D_X10_say F 7 (nI (7 * (8 * p + m))) z l one = some a1 → isW a1 0 w → ∃ r one', j_X9_word_64 p4 (nI (enc w)) = some r ∧ j_X10_word__60 p4 l one F (nI (7 * (8 * p + m))) z = some (r, one') := by
    intro w z a1 hw e1 w1
    have hw1 := hw.1
    unfold j_X9_word_64 j_X10_word__60
    rw [e1, bd1_s]
    by_cases c : 0 ≤ p4
    · rw [if_pos c, if_pos c]
      have c2 : 0 ≤ p4.toInt := by rw [zl0, ti_le (by decide)] at c; omega
      obtain ⟨k, hk, rfl⟩ := ti_in c2 (n := 6) h4.2
      rw [length_enc hw, bd1_s, ck_n (by decide) (by decide), nI_clamp (by decide), w1.2.1]
      by_cases d : w.length ≤ k
      · rw [if_pos (nI_le d (by omega)), if_pos (nI_le d (by omega))]; exact ⟨_, _, rfl, rfl⟩
      · have d2 : k < w.length := by omega
        have e2 := w1.2.2 k d2
        rw [if_neg (nI_leN (by omega) (by omega) d2), if_neg (nI_leN (by omega) (by omega) d2), soundAt_enc hw hk, bd1_s, nI_add, ck_n (by omega) (by decide), nI_clamp (by omega)]
        rw [show 1 + k = 0 + 1 + k by omega, e2]; exact ⟨_, _, rfl, rfl⟩
    · rw [if_neg c, if_neg c, length_enc hw, bd1_s, ck_n (by decide) (by decide), nI_clamp (by decide), w1.2.1]; exact ⟨_, _, rfl, rfl⟩
  have hi : 8 * p + m < 40 := by omega
  by_cases c : nI q = nI p
  · rw [if_pos c, if_pos c]
    obtain ⟨a1, e1, w1⟩ := say_plain hF one (hm1 (8 * p + m) hi) (by omega)
    exact fin _ _ a1 (ok.1 _ hi) e1 w1
  · rw [if_neg c, if_neg c, saidBy_of hF ok.2.1 hc3 ok.2.2.1 hc4 hq (ok.1 _ hi), bd1_s]
    obtain ⟨a1, e1, w1⟩ := say_said hF one ok.2.1 hm2 ok.2.2.1 hm3 hq (hm1 (8 * p + m) hi) (by omega)
    exact fin _ _ a1 w1.1 e1 w1
theorem e_far {F : Nat} (hF : 600 ≤ F) {b : BT} (ok : okB b) {words : Nat → Int32} (hc1 : ∀ i, i < 16 → words i = nI (enc (bW b i))) {l : Nat → Int32} (hm1 : ∀ i, i < 40 → isW l (7 * i) (bW b i)) (p1 p2 p3 p4 : Int32) (row one two ways : Nat → Int32) : ∃ r row' one' two' ways', D_X9_far F p1 p2 p3 p4 row words = some (r, row') ∧ D_X10_far F p1 p2 p3 p4 l one two ways = some (r, one', two', ways') := by
  unfold D_X9_far D_X10_far
  rw [isPeople_of, bd1_s, zb_if, in01, bd1_s, zb_if]
  by_cases h1 : 0 ≤ p1.toInt ∧ p1.toInt < 2
  case neg => rw [if_neg h1, if_neg h1]; exact ⟨_, _, _, _, _, rfl, rfl⟩
  rw [if_pos h1, if_pos h1, isMeaning_of, bd1_s, zb_if, isMeaningM_of, bd1_s, zb_if]
  by_cases h2 : 0 ≤ p2.toInt ∧ p2.toInt < 8
  case neg => rw [if_neg h2, if_neg h2]; exact ⟨_, _, _, _, _, rfl, rfl⟩
  rw [if_pos h2, if_pos h2, isPeople_of, bd1_s, zb_if, in01, bd1_s, zb_if]
  by_cases h3 : 0 ≤ p3.toInt ∧ p3.toInt < 2
  case neg => rw [if_neg h3, if_neg h3]; exact ⟨_, _, _, _, _, rfl, rfl⟩
  rw [if_pos h3, if_pos h3, isMeaning_of, bd1_s, zb_if, isMeaningM_of, bd1_s, zb_if]
  by_cases h4 : 0 ≤ p4.toInt ∧ p4.toInt < 8
  case neg => rw [if_neg h4, if_neg h4]; exact ⟨_, _, _, _, _, rfl, rfl⟩
  rw [if_pos h4, if_pos h4]
  obtain ⟨p, hp, rfl⟩ := ti_in h1.1 (n := 2) h1.2
  obtain ⟨m, hmm, rfl⟩ := ti_in h2.1 (n := 8) h2.2
  obtain ⟨q, hq, rfl⟩ := ti_in h3.1 (n := 2) h3.2
  obtain ⟨n, hn, rfl⟩ := ti_in h4.1 (n := 8) h4.2
  have hi : 8 * p + m < 40 := by omega
  have hj : 8 * q + n < 40 := by omega
  have o1 := (ok.1 _ hi).1
  have o2 := (ok.1 _ hj).1
  obtain ⟨a1, e1, w1⟩ := say_plain hF one (hm1 (8 * p + m) hi) (by omega)
  obtain ⟨a2, e2, w2⟩ := say_plain hF two (hm1 (8 * q + n) hj) (by omega)
  rw [wordOf_of hc1 hp hmm, bd1_s, wordOf_of hc1 hq hn, bd1_s, wordAt_of, bd1_s, e1, bd1_s, wordAt_of, bd1_s, e2, bd1_s, ck_n (by decide) (by decide), nI_clamp (by decide), ck_n (by decide) (by decide), w1.2.1, w2.2.1]
  by_cases c1 : (bW b (8 * p + m)).length = 0
  · rw [if_pos ((enc_zero (ok.1 _ hi)).mpr c1), if_pos (by rw [c1]; rfl)]; exact ⟨_, _, _, _, _, rfl, rfl⟩
  · rw [if_neg (fun z => c1 ((enc_zero (ok.1 _ hi)).mp z)), if_neg (nI_ne0 (n := (bW b (8 * p + m)).length) (by omega) (by omega))]
    by_cases c2 : (bW b (8 * q + n)).length = 0
    · rw [if_pos ((enc_zero (ok.1 _ hj)).mpr c2), if_pos (by rw [c2]; rfl)]; exact ⟨_, _, _, _, _, rfl, rfl⟩
    · rw [if_neg (fun z => c2 ((enc_zero (ok.1 _ hj)).mp z)), if_neg (nI_ne0 (n := (bW b (8 * q + n)).length) (by omega) (by omega))]
      obtain ⟨r1, f1⟩ := apart_of hF (ok.1 _ hi) (ok.1 _ hj) row
      obtain ⟨r2, f2⟩ := farOf_of hF w1 w2 ways
      rw [f1, bd2_s, f2, bd2_s]; exact ⟨_, _, _, _, _, rfl, rfl⟩
theorem e_like {F : Nat} (hF : 600 ≤ F) {b : BT} (ok : okB b) {words heard can ins trad tak jM jP : Nat → Int32} {jT uT need spk gd : Int32} (hc : clB b words heard can ins trad tak jM jP jT uT need spk gd) {l : Nat → Int32} (hm : moB b l) (p1 : Int32) (row one two ways : Nat → Int32) : ∃ r row' one' two' ways', D_X9_like F p1 row words can ins = some (r, row') ∧ D_X10_like F p1 l one two ways = some (r, one', two', ways') := by
  unfold D_X9_like D_X10_like
  obtain ⟨hc1, hc2, hc3, hc4, -⟩ := hc
  obtain ⟨hm1, hm2, hm3, -⟩ := hm
  rw [isMeaning_of, bd1_s, zb_if, isMeaningM_of, bd1_s, zb_if]
  by_cases h2 : 0 ≤ p1.toInt ∧ p1.toInt < 8
  case neg => rw [if_neg h2, if_neg h2]; exact ⟨_, _, _, _, _, rfl, rfl⟩
  rw [if_pos h2, if_pos h2]
  obtain ⟨m, hmm, rfl⟩ := ti_in h2.1 (n := 8) h2.2
  by_cases t : told b m
  · rw [(isTold_of ok hc1 hmm).1 t, bd1_s, if_n1, (isToldM_of ok hm1 hmm).1 t, bd1_s, if_n1]
    obtain ⟨r1, f1⟩ := likeOfMeaning_of hF ok hc1 hc3 hc4 hmm row
    obtain ⟨o1, o2, o3, f2⟩ := likeFor_of hF ok hm1 hm2 hm3 hmm one two ways
    rw [f1, bd2_s, f2, bd4_s]; exact ⟨_, _, _, _, _, rfl, rfl⟩
  · rw [(isTold_of ok hc1 hmm).2 t, bd1_s, if_n0, (isToldM_of ok hm1 hmm).2 t, bd1_s, if_n0]; exact ⟨_, _, _, _, _, rfl, rfl⟩
/-- the stands: x of a meaning at 2 m, y at 2 m + 1 -/
def okS (b : BT) (f : Nat → Nat) : Prop := ∀ m, m < 8 → f (2 * m) ≤ bM b 0 ∧ f (2 * m + 1) ≤ bM b 1
def holdS (f : Nat → Nat) (a : Nat → Int32) : Prop := ∀ k, k < 16 → a k = nI (f k)
theorem of_of {f : Nat → Nat} {a : Nat → Int32} (h : holdS f a) {m p : Nat} (hm : m < 8) (hp : p < 2) : D_X6_of (nI m) (nI p) a = some (nI (f (2 * m + p))) := by
  unfold D_X6_of
  rw [pk_mul, nI_add, row_at (by omega) (by decide), bd1_s, h _ (by omega)]
theorem e_stand {b : BT} (ok : okB b) {words : Nat → Int32} (hc1 : ∀ i, i < 16 → words i = nI (enc (bW b i))) {l : Nat → Int32} (hm1 : ∀ i, i < 40 → isW l (7 * i) (bW b i)) {f : Nat → Nat} {oth sta : Nat → Int32} (ho : holdS f oth) (hs : holdS f sta) (p1 p2 : Int32) : ∃ r, D_X9_stand p1 p2 oth words = some r ∧ D_X10_stand p1 p2 l sta = some r := by
  unfold D_X9_stand D_X10_stand
  rw [isMeaning_of, bd1_s, zb_if, isMeaningM_of, bd1_s, zb_if]
  by_cases h2 : 0 ≤ p1.toInt ∧ p1.toInt < 8
  case neg => rw [if_neg h2, if_neg h2]; exact ⟨_, rfl, rfl⟩
  rw [if_pos h2, if_pos h2, isPeople_of, bd1_s, zb_if, in01, bd1_s, zb_if]
  by_cases h3 : 0 ≤ p2.toInt ∧ p2.toInt < 2
  case neg => rw [if_neg h3, if_neg h3]; exact ⟨_, rfl, rfl⟩
  rw [if_pos h3, if_pos h3]
  obtain ⟨m, hmm, rfl⟩ := ti_in h2.1 (n := 8) h2.2
  obtain ⟨q, hq, rfl⟩ := ti_in h3.1 (n := 2) h3.2
  by_cases t : told b m
  · rw [(isTold_of ok hc1 hmm).1 t, bd1_s, if_n1, (isToldM_of ok hm1 hmm).1 t, bd1_s, if_n1, of_of ho hmm hq, bd1_s, pk_mul, nI_add, ck_n (by omega) (by decide), nI_clamp (by omega), hs _ (by omega)]; exact ⟨_, rfl, rfl⟩
  · rw [(isTold_of ok hc1 hmm).2 t, bd1_s, if_n0, (isToldM_of ok hm1 hmm).2 t, bd1_s, if_n0]; exact ⟨_, rfl, rfl⟩
theorem tradersOf_of {b : BT} {trad : Nat → Int32} (h : ∀ p, p < 2 → trad p = nI (bM b p)) {p : Nat} (hp : p < 2) : D_X0_tradersOf (nI p) trad = some (nI (bM b p)) := by
  unfold D_X0_tradersOf
  rw [row_at hp (by decide), bd1_s, h p hp]
theorem takesTen_of {b : BT} {tak : Nat → Int32} (h : ∀ p, p < 2 → tak p = nI (bT b p)) {p : Nat} (hp : p < 2) : D_X0_takesOfTen (nI p) tak = some (nI (bT b p)) := by
  unfold D_X0_takesOfTen
  rw [row_at hp (by decide), bd1_s, h p hp]
theorem speaks_of (x : Int32) : D_X0_speaksOfTen x = some x := rfl
theorem isStand_of {b : BT} (ok : okB b) {trad : Nat → Int32} (h : ∀ p, p < 2 → trad p = nI (bM b p)) (x y : Int32) : D_X9_isStand x y trad = some (zb ((0 ≤ x.toInt ∧ x.toInt ≤ bM b 0) ∧ 0 ≤ y.toInt ∧ y.toInt ≤ bM b 1)) := by
  have h0 := ok.2.2.2.1 0 (by decide)
  have h1 := ok.2.2.2.1 1 (by decide)
  unfold D_X9_isStand
  rw [tradersOf_of h (by decide), bd1_s, tradersOf_of h (by decide), bd1_s]
  by_cases c1 : x < 0
  · rw [if_pos c1, zb_f]; rw [lt0_iff] at c1; omega
  · rw [if_neg c1]; rw [lt0_iff] at c1
    by_cases c2 : nI (bM b 0) < x
    · rw [if_pos c2, zb_f]; rw [ti_lt' (by omega)] at c2; omega
    · rw [if_neg c2]; rw [ti_lt' (by omega)] at c2
      by_cases c3 : y < 0
      · rw [if_pos c3, zb_f]; rw [lt0_iff] at c3; omega
      · rw [if_neg c3]; rw [lt0_iff] at c3
        by_cases c4 : nI (bM b 1) < y
        · rw [if_pos c4, zb_f]; rw [ti_lt' (by omega)] at c4; omega
        · rw [if_neg c4, zb_t]; rw [ti_lt' (by omega)] at c4; omega
theorem isStandM_of {b : BT} (ok : okB b) {l : Nat → Int32} (h : ∀ p, p < 2 → l (298 + p) = nI (bM b p)) (x y : Int32) : D_X10_isStand x y l = some (zb ((0 ≤ x.toInt ∧ x.toInt ≤ bM b 0) ∧ 0 ≤ y.toInt ∧ y.toInt ≤ bM b 1)) := by
  have h0 := ok.2.2.2.1 0 (by decide)
  have h1 := ok.2.2.2.1 1 (by decide)
  unfold D_X10_isStand
  rw [ck_n (by decide) (by decide), nI_clamp (by decide), show l 298 = nI (bM b 0) from h 0 (by decide), nI_l (by omega), in_of x (by decide) (by omega), bd1_s, zb_if, ck_n (by decide) (by decide), nI_clamp (by decide), show l 299 = nI (bM b 1) from h 1 (by decide), nI_l (by omega), in_of y (by decide) (by omega), bd1_s, zb_if]
  by_cases c1 : ((0 : Nat) : Int) ≤ x.toInt ∧ x.toInt ≤ bM b 0
  · rw [if_pos c1]
    by_cases c2 : ((0 : Nat) : Int) ≤ y.toInt ∧ y.toInt ≤ bM b 1
    · rw [if_pos c2, zb_t]; omega
    · rw [if_neg c2, zb_f]; omega
  · rw [if_neg c1, zb_f]; omega
theorem e_set {b : BT} (ok : okB b) {words trad : Nat → Int32} (hc1 : ∀ i, i < 16 → words i = nI (enc (bW b i))) (hc5 : ∀ p, p < 2 → trad p = nI (bM b p)) {l : Nat → Int32} (hm1 : ∀ i, i < 40 → isW l (7 * i) (bW b i)) (hm4 : ∀ p, p < 2 → l (298 + p) = nI (bM b p)) {f : Nat → Nat} (okf : okS b f) {oth sta : Nat → Int32} (ho : holdS f oth) (hs : holdS f sta) (p1 p2 p3 : Int32) : ∃ r oth' sta' f', okS b f' ∧ holdS f' oth' ∧ holdS f' sta' ∧ D_X9_set p1 p2 p3 oth words trad = some (r, oth') ∧ D_X10_set p1 p2 p3 l sta = some (r, sta') := by
  unfold D_X9_set D_X10_set
  rw [isMeaning_of, bd1_s, zb_if, isMeaningM_of, bd1_s, zb_if]
  by_cases h2 : 0 ≤ p1.toInt ∧ p1.toInt < 8
  case neg => rw [if_neg h2, if_neg h2]; exact ⟨_, _, _, f, okf, ho, hs, rfl, rfl⟩
  rw [if_pos h2, if_pos h2, isStand_of ok hc5, bd1_s, zb_if, isStandM_of ok hm4, bd1_s, zb_if]
  by_cases h3 : (0 ≤ p2.toInt ∧ p2.toInt ≤ bM b 0) ∧ 0 ≤ p3.toInt ∧ p3.toInt ≤ bM b 1
  case neg => rw [if_neg h3, if_neg h3]; exact ⟨_, _, _, f, okf, ho, hs, rfl, rfl⟩
  rw [if_pos h3, if_pos h3]
  obtain ⟨m, hmm, rfl⟩ := ti_in h2.1 (n := 8) h2.2
  obtain ⟨x, hx, rfl⟩ := ti_in h3.1.1 (n := bM b 0 + 1) (by omega)
  obtain ⟨y, hy, rfl⟩ := ti_in h3.2.1 (n := bM b 1 + 1) (by omega)
  by_cases t : told b m
  · rw [(isTold_of ok hc1 hmm).1 t, bd1_s, if_n1, (isToldM_of ok hm1 hmm).1 t, bd1_s, if_n1]
    unfold D_X6_put
    rw [pk_mul, nI_add, row_put (by omega) (by decide), bd1_s, row_put (by omega) (by decide), bd1_s, bd1_s, ck_n (by omega) (by decide), ck_n (by omega) (by decide), nI_clamp (by omega), nI_clamp (by omega)]
    refine ⟨_, _, _, fun k => if k = 2 * m + 1 then y else if k = 2 * m then x else f k, ?_, ?_, ?_, rfl, rfl⟩
    · intro n hn
      have := okf n hn
      dsimp only
      by_cases e : n = m
      · subst e
        rw [if_neg (by omega), if_pos rfl, if_pos rfl]; omega
      · rw [if_neg (by omega), if_neg (by omega), if_neg (by omega), if_neg (by omega)]; exact this
    · intro k hk
      dsimp only
      by_cases e1 : k = 2 * m + 1
      · rw [if_pos e1, e1, pk_us]
      · rw [if_neg e1, pk_un e1]
        by_cases e2 : k = 2 * m
        · rw [if_pos e2, e2, pk_us]
        · rw [if_neg e2, pk_un e2]; exact ho k hk
    · intro k hk
      dsimp only
      by_cases e1 : k = 2 * m + 1
      · rw [if_pos e1, e1, pk_us]
      · rw [if_neg e1, pk_un e1]
        by_cases e2 : k = 2 * m
        · rw [if_pos e2, e2, pk_us]
        · rw [if_neg e2, pk_un e2]; exact hs k hk
  · rw [(isTold_of ok hc1 hmm).2 t, bd1_s, if_n0, (isToldM_of ok hm1 hmm).2 t, bd1_s, if_n0]; exact ⟨_, _, _, f, okf, ho, hs, rfl, rfl⟩
theorem e_both {b : BT} {can : Nat → Int32} (h : ∀ p, p < 2 → can p = nI (bC b p)) {l : Nat → Int32} (h2 : ∀ p, p < 2 → l (280 + p) = nI (bC b p)) : ∃ r, D_X9_both can = some r ∧ D_X10_both l = some r := by
  unfold D_X9_both D_X10_both D_X0_soundsOf
  rw [row_at (by decide) (by decide), bd1_s, bd1_s, row_at (by decide) (by decide), bd1_s, bd1_s, ck_n (by decide) (by decide), ck_n (by decide) (by decide), nI_clamp (by decide), nI_clamp (by decide), h 0 (by decide), h 1 (by decide), show l 280 = nI (bC b 0) from h2 0 (by decide), show l 281 = nI (bC b 1) from h2 1 (by decide)]
  exact ⟨_, rfl, rfl⟩
