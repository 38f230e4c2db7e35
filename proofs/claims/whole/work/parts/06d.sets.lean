/-! PURE: sets of meanings as bits; counts, the tongue, sounds lost -/
def bset (P : Nat → Bool) : Nat → Nat
  | 0 => 0
  | m + 1 => bset P m ||| (if P m then 2 ^ m else 0)
def bcnt (P : Nat → Bool) : Nat → Nat
  | 0 => 0
  | m + 1 => bcnt P m + (if P m then 1 else 0)
def pc8 (n : Nat) : Nat := n % 2 + n / 2 % 2 + n / 4 % 2 + n / 8 % 2 + n / 16 % 2 + n / 32 % 2 + n / 64 % 2 + n / 128 % 2
theorem or_lt {a b k : Nat} (ha : a < 2 ^ k) (hb : b < 2 ^ k) : a ||| b < 2 ^ k := Nat.or_lt_two_pow ha hb
theorem bset_lt (P : Nat → Bool) : ∀ k, bset P k < 2 ^ k := by
  intro k
  induction k with
  | zero => exact Nat.one_pos
  | succ k ih =>
    have h2 : 2 ^ k < 2 ^ (k + 1) := Nat.pow_lt_pow_right (by decide) (by omega)
    refine or_lt (Nat.lt_trans ih h2) ?_
    split
    · exact h2
    · exact Nat.pow_pos (by decide)
theorem bset8 (P : Nat → Bool) : bset P 8 < 256 := bset_lt P 8
theorem pc_tab : ∀ a0 a1 a2 a3 a4 a5 a6 a7 : Bool, pc8 ((((((((0 ||| (if a0 then 2 ^ 0 else 0)) ||| (if a1 then 2 ^ 1 else 0)) ||| (if a2 then 2 ^ 2 else 0)) ||| (if a3 then 2 ^ 3 else 0)) ||| (if a4 then 2 ^ 4 else 0)) ||| (if a5 then 2 ^ 5 else 0)) ||| (if a6 then 2 ^ 6 else 0)) ||| (if a7 then 2 ^ 7 else 0)) = 0 + (if a0 then 1 else 0) + (if a1 then 1 else 0) + (if a2 then 1 else 0) + (if a3 then 1 else 0) + (if a4 then 1 else 0) + (if a5 then 1 else 0) + (if a6 then 1 else 0) + (if a7 then 1 else 0) := by decide +kernel
theorem pc_bset (P : Nat → Bool) : pc8 (bset P 8) = bcnt P 8 := pc_tab (P 0) (P 1) (P 2) (P 3) (P 4) (P 5) (P 6) (P 7)
theorem pc_step : ∀ n, n < 256 → n ≠ 0 → n &&& (n - 1) < n ∧ pc8 (n &&& (n - 1)) + 1 = pc8 n := by decide +kernel
theorem pc_le : ∀ n, n < 256 → pc8 n ≤ 8 := by decide +kernel
theorem bitCount_of : ∀ n, n < 256 → D_J6_bitCount_0f7a4 (nI n) = some (nI (pc8 n)) := by decide +kernel
theorem ones_of {F : Nat} (hF : 600 ≤ F) {n : Nat} (hn : n < 256) : D_X10_ones F (nI n) = some (nI (pc8 n)) := by
  unfold D_X10_ones
  obtain ⟨r, hr1, hr2⟩ := lpg_ind (bot := fun _ _ => none) (body := b_X10_ones_4) (fun f (s : Int32 × Int32) => f s.1 s.2)
    (fun d s => ∃ c k, k ≤ d ∧ k < 256 ∧ c + pc8 k = pc8 n ∧ s = (nI c, nI k)) (fun r => r = nI (pc8 n))
    (by
      rintro rec d s ⟨c, k, h1, h2, h3, rfl⟩
      dsimp only
      rw [b_X10_ones_4]
      by_cases e : k = 0
      · left
        refine ⟨_, ?_, if_pos (by rw [e]; rfl)⟩
        rw [← h3, e]; rfl
      · right
        obtain ⟨q1, q2⟩ := pc_step k h2 e
        rw [if_neg (nI_ne0 (by omega) (by omega)), nm_s, nm_s, nI_add, pk_sub (by omega), fa_and]
        exact ⟨k &&& (k - 1), (nI (c + 1), nI (k &&& (k - 1))), by omega, ⟨c + 1, k &&& (k - 1), Nat.le_refl _, by omega, by omega, rfl⟩, rfl⟩)
    n F (nI 0, nI n) (by omega) ⟨0, n, Nat.le_refl _, hn, by omega, rfl⟩
  dsimp only at hr2
  rw [hr2, bd1_s, hr1]
theorem shl1 {c : Nat} (h : c < 31) : nI 1 <<< (nI c &&& 31) = nI (2 ^ c) := by
  have h2 : 2 ^ c < 2 ^ 31 := Nat.pow_lt_pow_right (by decide) h
  rw [shl_n (by omega) (by omega), Nat.one_mul]
theorem or_zero_n (a : Nat) : nI a ||| nI 0 = nI a := by rw [fa_or, Nat.or_zero]
theorem toldMeanings_of {F : Nat} (hF : 600 ≤ F) {b : BT} (ok : okB b) {words : Nat → Int32} (h : ∀ i, i < 16 → words i = nI (enc (bW b i))) : D_X9_toldMeanings F words = some (nI (bcnt (fun m => decide (told b m)) 8)) := by
  unfold D_X9_toldMeanings
  obtain ⟨r, hr1, hr2⟩ := lpg_ind (bot := fun _ _ => none) (body := b_X9_toldMeanings_4 words) (fun f (s : Int32 × Int32) => f s.1 s.2)
    (fun d s => ∃ m, m + d = 8 ∧ s = (nI (bcnt (fun m => decide (told b m)) m), nI m)) (fun r => r = nI (bcnt (fun m => decide (told b m)) 8))
    (by
      rintro rec d s ⟨m, hm, rfl⟩
      dsimp only
      rw [b_X9_toldMeanings_4]
      by_cases hd : d = 0
      · left
        exact ⟨_, by rw [show m = 8 by omega], if_pos (nI_le (by omega) (by omega))⟩
      · right
        rw [if_neg (nI_leN (by omega) (by omega) (by omega))]
        refine ⟨d - 1, (nI (bcnt (fun m => decide (told b m)) (m + 1)), nI (m + 1)), by omega, ⟨m + 1, by omega, rfl⟩, ?_⟩
        by_cases t : told b m
        · rw [(isTold_of ok h (by omega)).1 t, bd1_s, if_n1, nm_s, nm_s, nI_add, nI_add, bcnt, if_pos (decide_eq_true t)]
        · rw [(isTold_of ok h (by omega)).2 t, bd1_s, if_n0, nm_s, nI_add, bcnt, if_neg (by simpa using t)]; rfl)
    8 F (nI 0, nI 0) (by omega) ⟨0, by omega, rfl⟩
  dsimp only at hr2
  rw [hr2, bd1_s, hr1]
theorem toldSet_of {F : Nat} (hF : 600 ≤ F) {b : BT} (ok : okB b) {l : Nat → Int32} (h : ∀ i, i < 40 → isW l (7 * i) (bW b i)) : D_X10_toldSet F l = some (nI (bset (fun m => decide (told b m)) 8)) := by
  unfold D_X10_toldSet
  obtain ⟨r, hr1, hr2⟩ := lpg_ind (bot := fun _ _ => none) (body := b_X10_toldSet_4 l) (fun f (s : Int32 × Int32) => f s.1 s.2)
    (fun d s => ∃ m, m + d = 8 ∧ s = (nI (bset (fun m => decide (told b m)) m), nI m)) (fun r => r = nI (bset (fun m => decide (told b m)) 8))
    (by
      rintro rec d s ⟨m, hm, rfl⟩
      dsimp only
      rw [b_X10_toldSet_4]
      by_cases hd : d = 0
      · left
        exact ⟨_, by rw [show m = 8 by omega], if_pos (nI_le (by omega) (by omega))⟩
      · right
        rw [if_neg (nI_leN (by omega) (by omega) (by omega))]
        refine ⟨d - 1, (nI (bset (fun m => decide (told b m)) (m + 1)), nI (m + 1)), by omega, ⟨m + 1, by omega, rfl⟩, ?_⟩
        by_cases t : told b m
        · rw [(isToldM_of ok h (by omega)).1 t, bd1_s, if_n1, shl1 (by omega), fa_or, nm_s, nm_s, nI_add, bset, if_pos (decide_eq_true t)]
        · rw [(isToldM_of ok h (by omega)).2 t, bd1_s, if_n0, nm_s, nm_s, nI_add, fa_or, bset, if_neg (by simpa using t)])
    8 F (nI 0, nI 0) (by omega) ⟨0, by omega, rfl⟩
  dsimp only at hr2
  rw [hr2, bd1_s, hr1]
theorem e_told {F : Nat} (hF : 600 ≤ F) {b : BT} (ok : okB b) {words : Nat → Int32} (h : ∀ i, i < 16 → words i = nI (enc (bW b i))) {l : Nat → Int32} (h2 : ∀ i, i < 40 → isW l (7 * i) (bW b i)) : ∃ r s, D_X9_toldMeanings F words = some r ∧ D_X10_toldSet F l = some s ∧ D_X10_ones F s = some r :=
  ⟨_, _, toldMeanings_of hF ok h, toldSet_of hF ok h2, by rw [ones_of hF (bset8 _), pc_bset]⟩
theorem e_count {F : Nat} (hF : 600 ≤ F) {b : BT} (ok : okB b) {words heard can ins trad tak jM jP : Nat → Int32} {jT uT need spk gd : Int32} (hc : clB b words heard can ins trad tak jM jP jT uT need spk gd) {l : Nat → Int32} (hm : moB b l) (p1 len kp : Int32) : ∃ r, D_X9_count F p1 len kp words trad jT uT = some r ∧ D_X10_count F p1 len kp l = some r := by
  obtain ⟨hc1, -, -, -, hc5, -, -, hjT, huT, -⟩ := hc
  obtain ⟨hm1, -, -, hm4, -, -, -, hm8, -, hm10, -⟩ := hm
  obtain ⟨r0, s0, t1, t2, t3⟩ := e_told hF ok hc1 hm1
  unfold D_X9_count D_X10_count D_X0_needs D_X4_needsTold D_X4_joinedTold D_X6_kept D_X7_length
  by_cases c0 : p1 = nI 0
  · rw [if_pos c0, if_pos c0, t1, bd1_s, t2, bd1_s, t3, bd1_s]; exact ⟨_, rfl, rfl⟩
  rw [if_neg c0, if_neg c0]
  by_cases c1 : p1 = nI 1
  · rw [if_pos c1, if_pos c1]; exact ⟨_, rfl, rfl⟩
  rw [if_neg c1, if_neg c1]
  by_cases c2 : p1 = nI 2
  · rw [if_pos c2, if_pos c2, ck_n (by decide) (by decide), nI_clamp (by decide), hm10, huT]; exact ⟨_, rfl, rfl⟩
  rw [if_neg c2, if_neg c2]
  by_cases c3 : p1 = nI 3
  · rw [if_pos c3, if_pos c3, ck_n (by decide) (by decide), nI_clamp (by decide), hm8, hjT]; exact ⟨_, rfl, rfl⟩
  rw [if_neg c3, if_neg c3]
  by_cases c4 : p1 = nI 4
  · rw [if_pos c4, if_pos c4]; exact ⟨_, rfl, rfl⟩
  rw [if_neg c4, if_neg c4]
  by_cases c5 : p1 = nI 5
  · rw [if_pos c5, if_pos c5, ck_n (by decide) (by decide), nI_clamp (by decide), show l 298 = nI (bM b 0) from hm4 0 (by decide), tradersOf_of hc5 (by decide)]; exact ⟨_, rfl, rfl⟩
  rw [if_neg c5, if_neg c5]
  by_cases c6 : p1 = nI 6
  · rw [if_pos c6, if_pos c6, ck_n (by decide) (by decide), nI_clamp (by decide), show l 299 = nI (bM b 1) from hm4 1 (by decide), tradersOf_of hc5 (by decide)]; exact ⟨_, rfl, rfl⟩
  rw [if_neg c6, if_neg c6]; exact ⟨_, rfl, rfl⟩
/-- of the tongue by word p -/
def tngP (b : BT) (f : Nat → Nat) (p m : Nat) : Bool := decide (told b m) && (decide (f (2 * m) = (if p = 0 then 0 else bM b 0) ∧ f (2 * m + 1) = (if p = 0 then bM b 1 else 0)) || decide (bG b ≤ lkM b m))
theorem tongueBits_of {F : Nat} (hF : 600 ≤ F) {b : BT} (ok : okB b) {words heard can ins trad tak jM jP : Nat → Int32} {jT uT need spk gd : Int32} (hc : clB b words heard can ins trad tak jM jP jT uT need spk gd) {f : Nat → Nat} (okf : okS b f) {oth : Nat → Int32} (ho : holdS f oth) {p : Nat} (hp : p < 2) (row : Nat → Int32) : ∃ row', D_X9_tongueBits F (nI p) oth row gd words can ins trad = some (nI (bset (tngP b f p) 8), row') := by
  obtain ⟨hc1, -, hc3, hc4, hc5, -, -, -, -, -, -, hgd⟩ := hc
  subst hgd
  have hM0 := ok.2.2.2.1 0 (by decide)
  have hM1 := ok.2.2.2.1 1 (by decide)
  have key : ∀ x y, x = (if p = 0 then 0 else bM b 0) → y = (if p = 0 then bM b 1 else 0) → ∃ row', j_X9_tongueBits_33 oth row (nI (bG b)) words can ins F (nI x) (nI y) = some (nI (bset (tngP b f p) 8), row') := by
    intro x y ex ey
    have hx8 : x ≤ 8 := by rw [ex]; split <;> omega
    have hy8 : y ≤ 8 := by rw [ey]; split <;> omega
    unfold j_X9_tongueBits_33
    obtain ⟨⟨r, row'⟩, hr1, hr2⟩ := lpg_ind (bot := fun _ _ _ => none) (body := b_X9_tongueBits_40 oth (nI (bG b)) words can ins F (nI x) (nI y)) (fun f (s : Int32 × Int32 × (Nat → Int32)) => f s.1 s.2.1 s.2.2)
      (fun d s => ∃ m rw, m + d = 8 ∧ s = (nI (bset (tngP b f p) m), nI m, rw)) (fun r => r.1 = nI (bset (tngP b f p) 8))
      (by
        rintro rec d s ⟨m, rw', hm, rfl⟩
        dsimp only
        rw [b_X9_tongueBits_40]
        by_cases hd : d = 0
        · left
          exact ⟨_, by rw [show m = 8 by omega], if_pos (nI_le (by omega) (by omega))⟩
        · right
          have hm8 : m < 8 := by omega
          have hf := okf m hm8
          rw [if_neg (nI_leN (by omega) (by omega) (by omega))]
          have yes : ∀ rw2, tngP b f p m = true → j_X9_tongueBits_96 (nI (bset (tngP b f p) m)) (nI m) rec rw2 = rec (nI (bset (tngP b f p) (m + 1))) (nI (m + 1)) rw2 := by
            intro rw2 h
            rw [j_X9_tongueBits_96, shl1 (by omega), fa_or, nm_s, nm_s, nI_add, bset, if_pos h]
          have no : tngP b f p m = false → nI (bset (tngP b f p) m) = nI (bset (tngP b f p) (m + 1)) := by
            intro h; rw [bset, h]; simp
          by_cases t : told b m
          · rw [(isTold_of ok hc1 hm8).1 t, bd1_s, if_n1, of_of ho hm8 (by decide), bd1_s, of_of ho hm8 (by decide), bd1_s, Nat.add_zero]
            have al : ∃ rw2, j_X9_tongueBits_87 (nI (bG b)) words can ins F (nI (bset (tngP b f p) m)) (nI m) rw' rec = (if bG b ≤ lkM b m then j_X9_tongueBits_96 (nI (bset (tngP b f p) m)) (nI m) rec rw2 else rec (nI (bset (tngP b f p) m)) (nI (m + 1)) rw2) := by
              obtain ⟨rw2, e⟩ := isAlike_of hF ok hc1 hc3 hc4 hm8 rw'
              refine ⟨rw2, ?_⟩
              rw [j_X9_tongueBits_87, e, bd2_s]
              by_cases c : bG b ≤ lkM b m
              · rw [if_pos c, if_pos c, if_n1]
              · rw [if_neg c, if_neg c, if_n0, nm_s, nI_add]
            obtain ⟨rw2, al⟩ := al
            by_cases q : f (2 * m) = x ∧ f (2 * m + 1) = y
            · have hT : tngP b f p m = true := by
                unfold tngP; rw [← ex, ← ey]; simp [t, q]
              rw [if_pos (by rw [q.1]), if_pos (by rw [q.2]), yes rw' hT]
              exact ⟨d - 1, (nI (bset (tngP b f p) (m + 1)), nI (m + 1), rw'), by omega, ⟨m + 1, rw', by omega, rfl⟩, rfl⟩
            · have two : (if nI (f (2 * m)) = nI x then (if nI (f (2 * m + 1)) = nI y then j_X9_tongueBits_96 (nI (bset (tngP b f p) m)) (nI m) rec rw' else j_X9_tongueBits_87 (nI (bG b)) words can ins F (nI (bset (tngP b f p) m)) (nI m) rw' rec) else j_X9_tongueBits_87 (nI (bG b)) words can ins F (nI (bset (tngP b f p) m)) (nI m) rw' rec) = j_X9_tongueBits_87 (nI (bG b)) words can ins F (nI (bset (tngP b f p) m)) (nI m) rw' rec := by
                by_cases q1 : f (2 * m) = x
                · rw [if_pos (by rw [q1]), if_neg (fun z => q ⟨q1, (nI_eq (by omega) (by omega)).mp z⟩)]
                · rw [if_neg (fun z => q1 ((nI_eq (by omega) (by omega)).mp z))]
              rw [two, al]
              by_cases c : bG b ≤ lkM b m
              · have hT : tngP b f p m = true := by unfold tngP; simp [t, c]
                rw [if_pos c, yes rw2 hT]
                exact ⟨d - 1, (nI (bset (tngP b f p) (m + 1)), nI (m + 1), rw2), by omega, ⟨m + 1, rw2, by omega, rfl⟩, rfl⟩
              · have hT : tngP b f p m = false := by
                  unfold tngP; rw [← ex, ← ey]; simp [q, c]
                rw [if_neg c, no hT]
                exact ⟨d - 1, (nI (bset (tngP b f p) (m + 1)), nI (m + 1), rw2), by omega, ⟨m + 1, rw2, by omega, rfl⟩, rfl⟩
          · have hT : tngP b f p m = false := by unfold tngP; simp [t]
            rw [(isTold_of ok hc1 hm8).2 t, bd1_s, if_n0, nm_s, nI_add, no hT]
            exact ⟨d - 1, (nI (bset (tngP b f p) (m + 1)), nI (m + 1), rw'), by omega, ⟨m + 1, rw', by omega, rfl⟩, rfl⟩)
      8 F (nI 0, nI 0, row) (by omega) ⟨0, row, by omega, rfl⟩
    dsimp only at hr1 hr2
    rw [hr2, bd2_s, hr1]
    exact ⟨row', rfl⟩
  unfold D_X9_tongueBits j_X9_tongueBits_16
  rw [tradersOf_of hc5 (by decide), bd1_s, tradersOf_of hc5 (by decide), bd1_s]
  by_cases c : p = 0
  · subst c
    rw [if_n0, if_n0]
    exact key 0 (bM b 1) rfl rfl
  · have e : p = 1 := by omega
    subst e
    rw [if_n1, if_n1]
    exact key (bM b 0) 0 rfl rfl
theorem tongueBy_of {F : Nat} (hF : 600 ≤ F) {b : BT} (ok : okB b) {l : Nat → Int32} (hm : moB b l) {f : Nat → Nat} (okf : okS b f) {sta : Nat → Int32} (hs : holdS f sta) {p : Nat} (hp : p < 2) (one two ways : Nat → Int32) : ∃ one' two' ways', D_X10_tongueBy F (nI p) l sta one two ways = some (nI (bset (tngP b f p) 8), one', two', ways') := by
  obtain ⟨hm1, hm2, hm3, hm4, -, -, hm7, -⟩ := hm
  have hM0 := ok.2.2.2.1 0 (by decide)
  have hM1 := ok.2.2.2.1 1 (by decide)
  unfold D_X10_tongueBy
  obtain ⟨⟨r, o1, o2, o3⟩, hr1, hr2⟩ := lpg_ind (bot := fun _ _ _ _ _ => none) (body := b_X10_tongueBy_4 (nI p) l sta F) (fun f (s : Int32 × Int32 × (Nat → Int32) × (Nat → Int32) × (Nat → Int32)) => f s.1 s.2.1 s.2.2.1 s.2.2.2.1 s.2.2.2.2)
    (fun d s => ∃ m q1 q2 q3, m + d = 8 ∧ s = (nI (bset (tngP b f p) m), nI m, q1, q2, q3)) (fun r => r.1 = nI (bset (tngP b f p) 8))
    (by
      rintro rec d s ⟨m, q1, q2, q3, hm, rfl⟩
      dsimp only
      rw [b_X10_tongueBy_4]
      by_cases hd : d = 0
      · left
        exact ⟨_, by rw [show m = 8 by omega], if_pos (nI_le (by omega) (by omega))⟩
      · right
        have hm8 : m < 8 := by omega
        have hf := okf m hm8
        rw [if_neg (nI_leN (by omega) (by omega) (by omega)), pk_mul, nI_add, ck_n (by omega) (by decide), nm_s, ck_n (by omega) (by decide), nm_s, nI_clamp (by omega), nI_clamp (by omega), nI_clamp (by decide), nI_clamp (by decide), hs _ (by omega), hs _ (by omega), ck_n (by decide) (by decide), ck_n (by decide) (by decide), show l 298 = nI (bM b 0) from hm4 0 (by decide), show l 299 = nI (bM b 1) from hm4 1 (by decide)]
        have yes : ∀ r1 r2 r3, tngP b f p m = true → j_X10_tongueBy_109 (nI m) rec (nI (bset (tngP b f p) m)) r1 r2 r3 = rec (nI (bset (tngP b f p) (m + 1))) (nI (m + 1)) r1 r2 r3 := by
          intro r1 r2 r3 h
          rw [j_X10_tongueBy_109, shl1 (by omega), fa_or, nm_s, nm_s, nI_add, bset, if_pos h]
        have no : tngP b f p m = false → nI (bset (tngP b f p) m) = nI (bset (tngP b f p) (m + 1)) := by
          intro h; rw [bset, h]; simp
        -- with the answer of 'all say it' as z
        have step : ∀ (z : Prop) [Decidable z], (z ↔ (f (2 * m) = (if p = 0 then 0 else bM b 0) ∧ f (2 * m + 1) = (if p = 0 then bM b 1 else 0))) → ∃ r1 r2 r3, j_X10_tongueBy_85 l F (nI (bset (tngP b f p) m)) (nI m) q1 q2 q3 rec (zb z) = rec (nI (bset (tngP b f p) (m + 1))) (nI (m + 1)) r1 r2 r3 := by
          intro z _ hz
          rw [j_X10_tongueBy_85]
          by_cases t : told b m
          · rw [(isToldM_of ok hm1 hm8).1 t, bd1_s, if_n1, zb_if]
            by_cases c : z
            · have hT : tngP b f p m = true := by unfold tngP; simp [t, hz.mp c]
              rw [if_pos c, yes _ _ _ hT]; exact ⟨_, _, _, rfl⟩
            · rw [if_neg c]
              obtain ⟨r1, r2, r3, e⟩ := isAlikeM_of hF ok hm1 hm2 hm3 hm7 hm8 q1 q2 q3
              rw [e, bd4_s]
              by_cases g : bG b ≤ lkM b m
              · have hT : tngP b f p m = true := by unfold tngP; simp [t, g]
                rw [if_pos g, if_n1, yes _ _ _ hT]; exact ⟨_, _, _, rfl⟩
              · have hT : tngP b f p m = false := by
                  unfold tngP
                  have : ¬ (f (2 * m) = (if p = 0 then 0 else bM b 0) ∧ f (2 * m + 1) = (if p = 0 then bM b 1 else 0)) := fun w => c (hz.mpr w)
                  rw [decide_eq_false this, decide_eq_false g]; simp
                rw [if_neg g, if_n0, nm_s, nm_s, or_zero_n, nI_add, no hT]; exact ⟨_, _, _, rfl⟩
          · have hT : tngP b f p m = false := by unfold tngP; simp [t]
            rw [(isToldM_of ok hm1 hm8).2 t, bd1_s, if_n0, nm_s, nm_s, or_zero_n, nI_add, no hT]; exact ⟨_, _, _, rfl⟩
        have all : ∃ r1 r2 r3, (if nI p = 0 then (if nI (f (2 * m)) = 0 then (if nI (f (2 * m + 1)) = nI (bM b 1) then j_X10_tongueBy_85 l F (nI (bset (tngP b f p) m)) (nI m) q1 q2 q3 rec (nI 1) else j_X10_tongueBy_58 l F (nI (bset (tngP b f p) m)) (nI m) q1 q2 q3 rec) else j_X10_tongueBy_58 l F (nI (bset (tngP b f p) m)) (nI m) q1 q2 q3 rec) else (if nI (f (2 * m)) = nI (bM b 0) then (if nI (f (2 * m + 1)) = 0 then j_X10_tongueBy_85 l F (nI (bset (tngP b f p) m)) (nI m) q1 q2 q3 rec (nI 1) else j_X10_tongueBy_84 l F (nI (bset (tngP b f p) m)) (nI m) q1 q2 q3 rec) else j_X10_tongueBy_84 l F (nI (bset (tngP b f p) m)) (nI m) q1 q2 q3 rec)) = rec (nI (bset (tngP b f p) (m + 1))) (nI (m + 1)) r1 r2 r3 := by
          unfold j_X10_tongueBy_58 j_X10_tongueBy_84
          by_cases c : p = 0
          · subst c
            rw [if_n0]
            by_cases c1 : f (2 * m) = 0
            · rw [if_pos (by rw [c1]; rfl)]
              by_cases c2 : f (2 * m + 1) = bM b 1
              · rw [if_pos (by rw [c2])]
                have := step True (by simp [c1, c2])
                rw [zb_t trivial] at this; exact this
              · rw [if_neg (fun z => c2 ((nI_eq (by omega) (by omega)).mp z))]
                have := step False (by simp [c2])
                rw [zb_f id] at this; exact this
            · rw [if_neg (nI_ne0 (by omega) (by omega))]
              have := step False (by simp [c1])
              rw [zb_f id] at this; exact this
          · have e : p = 1 := by omega
            subst e
            rw [if_n1]
            by_cases c1 : f (2 * m) = bM b 0
            · rw [if_pos (by rw [c1])]
              by_cases c2 : f (2 * m + 1) = 0
              · rw [if_pos (by rw [c2]; rfl)]
                have := step True (by simp [c1, c2])
                rw [zb_t trivial] at this; exact this
              · rw [if_neg (nI_ne0 (by omega) (by omega))]
                have := step False (by simp [c2])
                rw [zb_f id] at this; exact this
            · rw [if_neg (fun z => c1 ((nI_eq (by omega) (by omega)).mp z))]
              have := step False (by simp [c1])
              rw [zb_f id] at this; exact this
        obtain ⟨r1, r2, r3, e⟩ := all
        rw [e]
        exact ⟨d - 1, (nI (bset (tngP b f p) (m + 1)), nI (m + 1), r1, r2, r3), by omega, ⟨m + 1, r1, r2, r3, by omega, rfl⟩, rfl⟩)
    8 F (nI 0, nI 0, one, two, ways) (by omega) ⟨0, one, two, ways, by omega, rfl⟩
  dsimp only at hr1 hr2
  rw [hr2, bd4_s, hr1]
  exact ⟨_, _, _, rfl⟩
theorem e_tongue {F : Nat} (hF : 600 ≤ F) {b : BT} (ok : okB b) {words heard can ins trad tak jM jP : Nat → Int32} {jT uT need spk gd : Int32} (hc : clB b words heard can ins trad tak jM jP jT uT need spk gd) {l : Nat → Int32} (hm : moB b l) {f : Nat → Nat} (okf : okS b f) {oth sta : Nat → Int32} (ho : holdS f oth) (hs : holdS f sta) (p1 : Int32) (row one two ways : Nat → Int32) : ∃ r row' one' two' ways', D_X9_tongue F p1 oth row gd words can ins trad = some (r, row') ∧ D_X10_tongue F p1 l sta one two ways = some (r, one', two', ways') := by
  unfold D_X9_tongue D_X10_tongue
  rw [isPeople_of, bd1_s, zb_if, in01, bd1_s, zb_if]
  by_cases h1 : 0 ≤ p1.toInt ∧ p1.toInt < 2
  case neg => rw [if_neg h1, if_neg h1]; exact ⟨_, _, _, _, _, rfl, rfl⟩
  rw [if_pos h1, if_pos h1]
  obtain ⟨p, hp, rfl⟩ := ti_in h1.1 (n := 2) h1.2
  obtain ⟨r1, e1⟩ := tongueBits_of hF ok hc okf ho hp row
  obtain ⟨o1, o2, o3, e2⟩ := tongueBy_of hF ok hm okf hs hp one two ways
  rw [e1, e2, bd2_s, bd4_s]; exact ⟨_, _, _, _, _, rfl, rfl⟩
theorem e_lost {F : Nat} (hF : 600 ≤ F) {b : BT} (ok : okB b) {words heard can ins trad tak jM jP : Nat → Int32} {jT uT need spk gd : Int32} (hc : clB b words heard can ins trad tak jM jP jT uT need spk gd) {l : Nat → Int32} (hm : moB b l) (p1 : Int32) : ∃ r, D_X9_lost F p1 words can ins = some r ∧ D_X10_lost F p1 l = some r := by
  obtain ⟨hc1, -, hc3, hc4, -⟩ := hc
  obtain ⟨hm1, hm2, hm3, -⟩ := hm
  unfold D_X9_lost D_X10_lost
  rw [isPeople_of, bd1_s, zb_if, in01, bd1_s, zb_if]
  by_cases h1 : 0 ≤ p1.toInt ∧ p1.toInt < 2
  case neg => rw [if_neg h1, if_neg h1]; exact ⟨_, rfl, rfl⟩
  rw [if_pos h1, if_pos h1]
  obtain ⟨p, hp, rfl⟩ := ti_in h1.1 (n := 2) h1.2
  obtain ⟨r1, r2, hq, e1, e2⟩ := lpg_sim (bot1 := fun _ _ => none) (body1 := b_X9_lost_13 (nI p) words can ins F) (bot2 := fun _ _ => none) (body2 := b_X10_lost_16 (nI p) l F) (fun f (t : Int32 × Int32) => f t.1 t.2) (fun f (t : Int32 × Int32) => f t.1 t.2)
    (fun d t1 t2 => ∃ (x : Int32) (m : Nat), m + d = 8 ∧ t1 = (x, nI m) ∧ t2 = (x, nI m)) (fun r1 r2 => r1 = r2)
    (by
      rintro rec1 rec2 d t1 t2 ⟨x, m, hmd, rfl, rfl⟩
      dsimp only
      rw [b_X9_lost_13, b_X10_lost_16]
      by_cases hd : d = 0
      · left
        rw [if_pos (nI_le (by omega) (by omega)), if_pos (nI_le (by omega) (by omega))]; exact ⟨_, _, rfl, rfl, rfl⟩
      · right
        rw [if_neg (nI_leN (by omega) (by omega) (by omega)), if_neg (nI_leN (by omega) (by omega) (by omega)), wordOf_of hc1 hp (by omega), bd1_s, wordAt_of, bd1_s]
        have hi : 8 * p + m < 40 := by omega
        have hw := ok.1 _ hi
        have hw1 := hw.1
        obtain ⟨-, hl0, hlk⟩ := hm1 _ hi
        obtain ⟨r1, r2, hq, e1, e2⟩ := lpg_sim (bot1 := fun _ _ => none) (body1 := b_X9_lost_33 (nI p) can ins (nI (enc (bW b (8 * p + m))))) (bot2 := fun _ _ => none) (body2 := b_X10_lost_32 (nI p) l (nI (7 * (8 * p + m)))) (fun f (t : Int32 × Int32) => f t.1 t.2) (fun f (t : Int32 × Int32) => f t.1 t.2)
          (fun d t1 t2 => ∃ (x : Int32) (k : Nat), k + d = (bW b (8 * p + m)).length ∧ t1 = (x, nI k) ∧ t2 = (x, nI k)) (fun r1 r2 => r1 = r2)
          (by
            rintro rec1 rec2 d t1 t2 ⟨x, k, hk, rfl, rfl⟩
            dsimp only
            rw [b_X9_lost_33, b_X10_lost_32, length_enc hw, bd1_s, ck_n (by omega) (by decide), nI_clamp (by omega), hl0]
            by_cases hd : d = 0
            · left
              rw [if_pos (nI_le (by omega) (by omega)), if_pos (nI_le (by omega) (by omega))]; exact ⟨_, _, rfl, rfl, rfl⟩
            · right
              have hkl : k < (bW b (8 * p + m)).length := by omega
              have hg := hw.2 _ (getD_mem hkl)
              simp only [nm_s]
              rw [if_neg (nI_leN (by omega) (by omega) hkl), if_neg (nI_leN (by omega) (by omega) hkl), soundAt_enc hw (by omega), bd1_s, nI_add, nI_add, nI_add, ck_n (by omega) (by decide), nI_clamp (by omega), hlk k hkl, pk_sub (by omega), soundSaidBy_of ok.2.1 hc3 ok.2.2.1 hc4 (by omega) hg, bd1_s, said_of ok.2.1 hm2 ok.2.2.1 hm3 (by omega) hg, bd1_s]
              cases hz : sd (bC b (1 - p)) (bR b) ((bW b (8 * p + m)).getD k 0) with
              | none =>
                rw [show ec none = (-4 : Int32) from rfl, show em none = (-1 : Int32) from rfl, if_pos rfl, if_neg m1_nle]
                exact ⟨d - 1, (_, nI (k + 1)), (_, nI (k + 1)), by omega, ⟨_, k + 1, by omega, rfl, rfl⟩, rfl, rfl⟩
              | some y =>
                have hy := sd_lt ok.2.2.1 hg hz
                rw [show ec (some y) = nI y from rfl, show em (some y) = nI y from rfl, if_neg (ne_m4 (by omega)), if_pos (n0_le (by omega))]
                refine ⟨d - 1, (x, nI (k + 1)), (x, nI (k + 1)), by omega, ⟨x, k + 1, by omega, rfl, rfl⟩, rfl, ?_⟩
                rw [show x ||| nI 0 = x by rw [show nI 0 = (0 : Int32) from rfl]; simp])
          (bW b (8 * p + m)).length F (x, nI 0) (x, nI 0) (by omega) ⟨x, 0, by omega, rfl, rfl⟩
        dsimp only at e1 e2
        subst hq
        rw [e1, e2, bd1_s, bd1_s, nm_s, nm_s, nI_add]
        exact ⟨d - 1, (r1, nI (m + 1)), (r1, nI (m + 1)), by omega, ⟨r1, m + 1, by omega, rfl, rfl⟩, rfl, rfl⟩)
    8 F (nI 0, nI 0) (nI 0, nI 0) (by omega) ⟨nI 0, 0, by omega, rfl, rfl⟩
  dsimp only at e1 e2
  rw [e1, e2, bd1_s, bd1_s, hq]; exact ⟨_, rfl, rfl⟩
