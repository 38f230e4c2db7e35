/-! PURE: a summer by draws -/
def drX (z t k m : Nat) : Nat := 7919 * z + 6151 * t + 3571 * k + 2011 * m + 1
def dr (z t k m : Nat) : Nat := drX z t k m * drX z t k m % 65521
theorem drX_lt {z t k m : Nat} (hz : z ≤ 9999) (ht : t < 99) (hk : k ≤ 4) (hm : m < 8) : drX z t k m < 100000000 := by unfold drX; omega
theorem dr_lt (z t k m : Nat) : dr z t k m < 65521 := Nat.mod_lt _ (by decide)
theorem lrem {a b : Nat} (ha : a < 2 ^ 63) (h0 : 0 < b) (hb : b < 2 ^ 63) : lN a - lN a / lN b * lN b = lN (a % b) := pk_lRem ha h0 hb
theorem draw_of {z t k m : Nat} (hz : z ≤ 9999) (ht : t < 99) (hk : k ≤ 4) (hm : m < 8) : D_X9_draw (nI z) (nI t) (nI k) (nI m) = some (nI (dr z t k m)) := by
  unfold D_X9_draw
  have hx := drX_lt hz ht hk hm
  have hxx : drX z t k m * drX z t k m < 10000000000000000 := by
    have := Nat.mul_lt_mul'' hx hx
    omega
  rw [nI_l (by omega), nI_l (by omega), nI_l (by omega), nI_l (by omega), lN_mul, lN_mul, lN_mul, lN_mul, lN_add, lN_add, lN_add, lN_add, nm_s, lN_mul]
  show some ((lN (drX z t k m * drX z t k m) - lN (drX z t k m * drX z t k m) / lN 65521 * lN 65521).toInt32) = _
  rw [lrem (by omega) (by decide) (by decide), lN_i]
  rfl
theorem drawM_of {z t k m : Nat} (hz : z ≤ 9999) (ht : t < 99) (hk : k ≤ 4) (hm : m < 8) : D_X10_draw (nI z) (nI m) (nI t) (nI k) = some (nI (dr z t k m)) := draw_of hz ht hk hm
def xoP (b : BT) (f : Nat → Nat) (z t m : Nat) : Prop := dr z t 2 m % bM b 0 < f (2 * m)
def yoP (b : BT) (f : Nat → Nat) (z t m : Nat) : Prop := dr z t 3 m % bM b 1 < f (2 * m + 1)
theorem saysOther_of {d t o : Nat} (ht : 1 ≤ t) (ht8 : t ≤ 8) (hd : d < 65521) (ho : o ≤ 8) : D_X9_saysOther (nI d) (nI t) (nI o) = some (if o ≤ d % t then nI 0 else nI 1) := by
  unfold D_X9_saysOther
  have hz : ¬ nI t ≤ 0 := by rw [zl0, ti_le' (by decide), nI_toInt (by omega)]; omega
  have hr : d % t < t := Nat.mod_lt _ (by omega)
  rw [if_neg hz, dz_n (by omega) (by omega), pk_rem (by omega) (by omega) (by omega)]
  by_cases c : o ≤ d % t
  · rw [if_pos c, if_pos (nI_le c (by omega))]
  · rw [if_neg c, if_neg (nI_leN (by omega) (by omega) (by omega))]
/-- one meeting of a summer -/
theorem meetBy_of {b : BT} (ok : okB b) {words heard can ins trad tak jM jP : Nat → Int32} {jT uT need spk gd : Int32} (hc : clB b words heard can ins trad tak jM jP jT uT need spk gd) {l : Nat → Int32} (hm : moB b l) {f : Nat → Nat} (okf : okS b f) {oth sta : Nat → Int32} (ho : holdS f oth) (hs : holdS f sta) {z t m : Nat} (hz : z ≤ 9999) (ht : t < 99) (hm8 : m < 8) : ∃ f' oth' sta', okS b f' ∧ holdS f' oth' ∧ holdS f' sta' ∧ D_X9_meetByDraw (nI z) (nI t) (nI m) oth spk trad tak = some oth' ∧ D_X10_meetBy (nI z) (nI m) (nI t) l sta = some sta' := by
  obtain ⟨-, -, -, -, hc5, hc6, -, -, -, -, hsp, -⟩ := hc
  obtain ⟨-, -, -, hm4, hm5, hm6, -⟩ := hm
  subst hsp
  have hM0 := ok.2.2.2.1 0 (by decide)
  have hM1 := ok.2.2.2.1 1 (by decide)
  have hT0 := ok.2.2.2.2.1 0 (by decide)
  have hT1 := ok.2.2.2.2.1 1 (by decide)
  have hS := ok.2.2.2.2.2.1
  obtain ⟨f0, f1⟩ := okf m hm8
  have d1 := dr_lt z t 1 m
  have d2 := dr_lt z t 2 m
  have d3 := dr_lt z t 3 m
  have d4 := dr_lt z t 4 m
  have r2 : dr z t 2 m % bM b 0 < bM b 0 := Nat.mod_lt _ (by omega)
  have r3 : dr z t 3 m % bM b 1 < bM b 1 := Nat.mod_lt _ (by omega)
  -- a change on both sides
  have chg : ∀ (p v : Nat), p < 2 → (p = 0 → v ≤ bM b 0) → (p = 1 → v ≤ bM b 1) → okS b (fun k => if k = 2 * m + p then v else f k) ∧ holdS (fun k => if k = 2 * m + p then v else f k) (upd oth (2 * m + p) (nI v)) ∧ holdS (fun k => if k = 2 * m + p then v else f k) (upd sta (2 * m + p) (nI v)) := by
    intro p v hp h0 h1
    refine ⟨fun n hn => ?_, fun k hk => ?_, fun k hk => ?_⟩
    · have := okf n hn
      dsimp only
      refine ⟨?_, ?_⟩
      · by_cases e : 2 * n = 2 * m + p
        · rw [if_pos e]; exact h0 (by omega)
        · rw [if_neg e]; exact this.1
      · by_cases e : 2 * n + 1 = 2 * m + p
        · rw [if_pos e]; exact h1 (by omega)
        · rw [if_neg e]; exact this.2
    · dsimp only
      by_cases e : k = 2 * m + p
      · rw [if_pos e, e, pk_us]
      · rw [if_neg e, pk_un e]; exact ho k hk
    · dsimp only
      by_cases e : k = 2 * m + p
      · rw [if_pos e, e, pk_us]
      · rw [if_neg e, pk_un e]; exact hs k hk
  -- the class
  have cchg : ∀ (p : Nat) (w : Int32), p < 2 → j_X9_meetByDraw_132 oth (nI m) (nI p) w = some (upd oth (2 * m + p) (nI (f (2 * m + p)) + w)) := by
    intro p w hp
    unfold j_X9_meetByDraw_132 D_X6_change
    rw [of_of ho hm8 hp, bd1_s, pk_mul, nI_add, row_put (by omega) (by decide), bd1_s, bd1_s]
  have c91 : ∀ (xo : Int32) (p : Nat), p < 2 → j_X9_meetByDraw_91 (nI z) (nI t) (nI m) oth tak xo (nI p) = if bT b p ≤ dr z t 4 m % 10 then some oth else if xo = 0 then some (upd oth (2 * m + p) (nI (f (2 * m + p)) + nI 1)) else some (upd oth (2 * m + p) (nI (f (2 * m + p)) + (-1 : Int32))) := by
    intro xo p hp
    have hT := ok.2.2.2.2.1 p hp
    unfold j_X9_meetByDraw_91
    rw [draw_of hz ht (by decide) hm8, bd1_s, takesTen_of hc6 hp, bd1_s, pk_rem (by omega) (by decide) (by decide), cchg p _ hp, cchg p _ hp]
    by_cases c : bT b p ≤ dr z t 4 m % 10
    · rw [if_pos c, if_pos (nI_le c (by omega))]
    · rw [if_neg c, if_neg (nI_leN (by omega) (by omega) (by omega))]
  have cD : D_X9_meetByDraw (nI z) (nI t) (nI m) oth (nI (bS b)) trad tak = (if f (2 * m) ≤ dr z t 2 m % bM b 0 then (if f (2 * m + 1) ≤ dr z t 3 m % bM b 1 then (if bS b ≤ dr z t 1 m % 10 then j_X9_meetByDraw_91 (nI z) (nI t) (nI m) oth tak (nI 0) (nI 0) else j_X9_meetByDraw_91 (nI z) (nI t) (nI m) oth tak (nI 0) (nI 1)) else some oth) else (if f (2 * m + 1) ≤ dr z t 3 m % bM b 1 then some oth else (if bS b ≤ dr z t 1 m % 10 then j_X9_meetByDraw_91 (nI z) (nI t) (nI m) oth tak (nI 1) (nI 0) else j_X9_meetByDraw_91 (nI z) (nI t) (nI m) oth tak (nI 1) (nI 1)))) := by
    unfold D_X9_meetByDraw
    rw [draw_of hz ht (by decide) hm8, bd1_s, tradersOf_of hc5 (by decide), bd1_s, of_of ho hm8 (by decide), bd1_s, Nat.add_zero, saysOther_of hM0.1 hM0.2 d2 (by omega), bd1_s, draw_of hz ht (by decide) hm8, bd1_s, tradersOf_of hc5 (by decide), bd1_s, of_of ho hm8 (by decide), bd1_s, saysOther_of hM1.1 hM1.2 d3 (by omega), bd1_s]
    by_cases cx : f (2 * m) ≤ dr z t 2 m % bM b 0
    · by_cases cy : f (2 * m + 1) ≤ dr z t 3 m % bM b 1
      · rw [if_pos cx, if_pos cx, if_pos cy, if_pos cy, if_pos rfl, draw_of hz ht (by decide) hm8, bd1_s, speaks_of, bd1_s, pk_rem (by omega) (by decide) (by decide)]
        by_cases c : bS b ≤ dr z t 1 m % 10
        · rw [if_pos c, if_pos (nI_le c (by omega))]
        · rw [if_neg c, if_neg (nI_leN (by omega) (by omega) (by omega))]
      · rw [if_pos cx, if_pos cx, if_neg cy, if_neg cy, if_neg (by decide)]
    · by_cases cy : f (2 * m + 1) ≤ dr z t 3 m % bM b 1
      · rw [if_neg cx, if_neg cx, if_pos cy, if_pos cy, if_neg (by decide)]
      · rw [if_neg cx, if_neg cx, if_neg cy, if_neg cy, if_pos rfl, draw_of hz ht (by decide) hm8, bd1_s, speaks_of, bd1_s, pk_rem (by omega) (by decide) (by decide)]
        by_cases c : bS b ≤ dr z t 1 m % 10
        · rw [if_pos c, if_pos (nI_le c (by omega))]
        · rw [if_neg c, if_neg (nI_leN (by omega) (by omega) (by omega))]
  -- the reference
  have m185 : ∀ (sp q : Int32), j_X10_meetBy_185 (nI m) (nI (f (2 * m))) sp q (nI 0) sta = some sta := by
    intro sp q; unfold j_X10_meetBy_185; rw [if_n0]
  have m149 : ∀ (sp a c : Int32), j_X10_meetBy_149 (nI m) sta (nI (f (2 * m))) (nI (f (2 * m + 1))) sp a c = some sta := by
    intro sp a c
    unfold j_X10_meetBy_149 j_X10_meetBy_150
    rw [if_n0, m185]
  have m150a : ∀ (a c : Int32), j_X10_meetBy_150 (nI m) sta (nI (f (2 * m))) (nI (f (2 * m + 1))) (nI 1) a c (nI 1) = if a = 0 then some (upd sta (2 * m + 1) (nI (f (2 * m + 1)) + nI 1)) else some (upd sta (2 * m + 1) (nI (f (2 * m + 1)) + (-1 : Int32))) := by
    intro a c
    unfold j_X10_meetBy_150 j_X10_meetBy_183 j_X10_meetBy_185
    simp only [nm_s]
    rw [if_n1, if_n1, pk_mul, nI_add, ck_n (by omega) (by decide), nI_clamp (by omega), if_n1, if_n1, if_n1, if_n1, ck_n (by omega) (by decide)]
  have m150b : ∀ (a : Int32) (c : Nat), c < 2 → j_X10_meetBy_150 (nI m) sta (nI (f (2 * m))) (nI (f (2 * m + 1))) (nI 0) a (nI c) (nI 1) = if c = 1 then some (upd sta (2 * m) (nI (f (2 * m)) + nI 1)) else some (upd sta (2 * m) (nI (f (2 * m)) + (-1 : Int32))) := by
    intro a c hc2
    unfold j_X10_meetBy_150 j_X10_meetBy_185
    simp only [nm_s]
    rw [if_n1, if_n0, if_n1, if_n0, pk_mul, ck_n (by omega) (by decide), ck_n (by omega) (by decide), nI_clamp (by omega)]
    by_cases e : c = 1
    · rw [if_pos e, if_pos (by rw [e])]
    · rw [if_neg e, if_neg (fun q => e ((nI_eq (by omega) (by decide)).mp q))]
  have m140 : ∀ (sp a c : Int32) (p : Nat), p < 2 → j_X10_meetBy_140 (nI m) l sta (nI (f (2 * m))) (nI (f (2 * m + 1))) sp a c (nI (dr z t 4 m % 10)) (nI 300) (nI p) = if bT b p ≤ dr z t 4 m % 10 then some sta else j_X10_meetBy_150 (nI m) sta (nI (f (2 * m))) (nI (f (2 * m + 1))) sp a c (nI 1) := by
    intro sp a c p hp
    have hT := ok.2.2.2.2.1 p hp
    unfold j_X10_meetBy_140
    rw [nI_add, ck_n (by omega) (by decide), nI_clamp (by omega), hm5 p hp, m149]
    by_cases q : bT b p ≤ dr z t 4 m % 10
    · rw [if_pos q, if_pos (nI_le q (by omega))]
    · rw [if_neg q, if_neg (nI_leN (by omega) (by omega) (by omega))]
  have m104 : ∀ (p : Nat) (a c : Nat), p < 2 → a < 2 → c < 2 → j_X10_meetBy_104 (nI z) (nI m) (nI t) l sta (nI (f (2 * m))) (nI (f (2 * m + 1))) (nI p) (nI a) (nI c) = if a = c then some sta else if bT b p ≤ dr z t 4 m % 10 then some sta else j_X10_meetBy_150 (nI m) sta (nI (f (2 * m))) (nI (f (2 * m + 1))) (nI p) (nI a) (nI c) (nI 1) := by
    intro p a c hp ha hc2
    unfold j_X10_meetBy_104
    rw [m149, drawM_of hz ht (by decide) hm8, bd1_s, pk_rem (by omega) (by decide) (by decide), m140 _ _ _ 0 (by decide), m140 _ _ _ 1 (by decide)]
    by_cases e : a = c
    · rw [if_pos e, if_pos (by rw [e])]
    · rw [if_neg e, if_neg (fun q => e ((nI_eq (by omega) (by omega)).mp q))]
      by_cases e2 : p = 0
      · subst e2; rw [if_n0]
      · have : p = 1 := by omega
        subst this; rw [if_n1]
  have m48 : ∀ (p : Nat), p < 2 → j_X10_meetBy_48 (nI z) (nI m) (nI t) l sta (nI (f (2 * m))) (nI (f (2 * m + 1))) (nI p) = (if f (2 * m) ≤ dr z t 2 m % bM b 0 then (if f (2 * m + 1) ≤ dr z t 3 m % bM b 1 then j_X10_meetBy_104 (nI z) (nI m) (nI t) l sta (nI (f (2 * m))) (nI (f (2 * m + 1))) (nI p) (nI 0) (nI 1) else some sta) else (if f (2 * m + 1) ≤ dr z t 3 m % bM b 1 then some sta else j_X10_meetBy_104 (nI z) (nI m) (nI t) l sta (nI (f (2 * m))) (nI (f (2 * m + 1))) (nI p) (nI 1) (nI 0))) := by
    intro p hp
    have h76 : ∀ a, a < 2 → j_X10_meetBy_76 (nI z) (nI m) (nI t) l sta (nI (f (2 * m))) (nI (f (2 * m + 1))) (nI p) (nI a) = if f (2 * m + 1) ≤ dr z t 3 m % bM b 1 then j_X10_meetBy_104 (nI z) (nI m) (nI t) l sta (nI (f (2 * m))) (nI (f (2 * m + 1))) (nI p) (nI a) (nI 1) else j_X10_meetBy_104 (nI z) (nI m) (nI t) l sta (nI (f (2 * m))) (nI (f (2 * m + 1))) (nI p) (nI a) (nI 0) := by
      intro a ha
      unfold j_X10_meetBy_76
      rw [drawM_of hz ht (by decide) hm8, bd1_s, ck_n (by decide) (by decide), nI_clamp (by decide), show l 299 = nI (bM b 1) from hm4 1 (by decide), dz_n (by omega) (by omega), pk_rem (by omega) (by omega) (by omega)]
      by_cases c : f (2 * m + 1) ≤ dr z t 3 m % bM b 1
      · rw [if_pos c, if_pos (nI_le c (by omega))]
      · rw [if_neg c, if_neg (nI_leN (by omega) (by omega) (by omega))]
    unfold j_X10_meetBy_48
    rw [drawM_of hz ht (by decide) hm8, bd1_s, ck_n (by decide) (by decide), nI_clamp (by decide), show l 298 = nI (bM b 0) from hm4 0 (by decide), dz_n (by omega) (by omega), pk_rem (by omega) (by omega) (by omega), h76 0 (by decide), h76 1 (by decide), m104 p 0 0 hp (by decide) (by decide), m104 p 1 1 hp (by decide) (by decide), if_pos rfl, if_pos rfl]
    by_cases c : f (2 * m) ≤ dr z t 2 m % bM b 0
    · rw [if_pos c, if_pos (nI_le c (by omega))]
    · rw [if_neg c, if_neg (nI_leN (by omega) (by omega) (by omega))]
  have mD : D_X10_meetBy (nI z) (nI m) (nI t) l sta = if bS b ≤ dr z t 1 m % 10 then j_X10_meetBy_48 (nI z) (nI m) (nI t) l sta (nI (f (2 * m))) (nI (f (2 * m + 1))) (nI 0) else j_X10_meetBy_48 (nI z) (nI m) (nI t) l sta (nI (f (2 * m))) (nI (f (2 * m + 1))) (nI 1) := by
    unfold D_X10_meetBy
    rw [pk_mul, nI_add, ck_n (by omega) (by decide), nm_s, ck_n (by omega) (by decide), nm_s, nI_clamp (n := 2 * m) (by omega), nI_clamp (n := 2 * m + 1) (by omega), hs (2 * m) (by omega), hs (2 * m + 1) (by omega), drawM_of hz ht (by decide) hm8, bd1_s, ck_n (by decide) (by decide), nI_clamp (n := 302) (by decide), hm6, pk_rem (by omega) (by decide) (by decide)]
    by_cases c : bS b ≤ dr z t 1 m % 10
    · rw [if_pos c, if_pos (nI_le c (by omega))]
    · rw [if_neg c, if_neg (nI_leN (by omega) (by omega) (by omega))]
  rw [cD, mD, m48 0 (by decide), m48 1 (by decide), c91 _ 0 (by decide), c91 _ 1 (by decide), c91 _ 0 (by decide), c91 _ 1 (by decide), if_n0, if_n0, if_n1, if_n1, m104 0 0 1 (by decide) (by decide) (by decide), m104 0 1 0 (by decide) (by decide) (by decide), m104 1 0 1 (by decide) (by decide) (by decide), m104 1 1 0 (by decide) (by decide) (by decide), if_neg (by decide : ¬ (0 = 1)), if_neg (by decide : ¬ (1 = 0)), if_neg (by decide : ¬ (0 = 1)), if_neg (by decide : ¬ (1 = 0)), m150b _ 1 (by decide), m150b _ 0 (by decide), m150a, m150a, if_pos rfl, if_neg (by decide : ¬ (0 = 1)), if_n0, if_n1]
  have same : ∃ f' oth' sta', okS b f' ∧ holdS f' oth' ∧ holdS f' sta' ∧ some oth = some oth' ∧ some sta = some sta' := ⟨f, oth, sta, okf, ho, hs, rfl, rfl⟩
  by_cases cx : f (2 * m) ≤ dr z t 2 m % bM b 0
  · by_cases cy : f (2 * m + 1) ≤ dr z t 3 m % bM b 1
    · by_cases cs : bS b ≤ dr z t 1 m % 10
      · by_cases ct : bT b 0 ≤ dr z t 4 m % 10
        · simp only [cx, cy, cs, ct, if_true, if_pos]; exact same
        · simp only [cx, cy, cs, ct, if_true, if_false, nI_add, Nat.add_zero]
          obtain ⟨g1, g2, g3⟩ := chg 0 (f (2 * m) + 1) (by decide) (fun _ => by omega) (fun h => by omega)
          exact ⟨_, _, _, g1, g2, g3, rfl, rfl⟩
      · by_cases ct : bT b 1 ≤ dr z t 4 m % 10
        · simp only [cx, cy, cs, ct, if_true, if_false]; exact same
        · simp only [cx, cy, cs, ct, if_true, if_false, nI_add]
          obtain ⟨g1, g2, g3⟩ := chg 1 (f (2 * m + 1) + 1) (by decide) (fun h => by omega) (fun _ => by omega)
          exact ⟨_, _, _, g1, g2, g3, rfl, rfl⟩
    · simp only [cx, cy, if_true, if_false, ite_self]; exact same
  · by_cases cy : f (2 * m + 1) ≤ dr z t 3 m % bM b 1
    · simp only [cx, cy, if_true, if_false, ite_self]; exact same
    · by_cases cs : bS b ≤ dr z t 1 m % 10
      · by_cases ct : bT b 0 ≤ dr z t 4 m % 10
        · simp only [cx, cy, cs, ct, if_true, if_false]; exact same
        · simp only [cx, cy, cs, ct, if_true, if_false, Nat.add_zero]
          rw [dec_n (by omega)]
          obtain ⟨g1, g2, g3⟩ := chg 0 (f (2 * m) - 1) (by decide) (fun _ => by omega) (fun h => by omega)
          exact ⟨_, _, _, g1, g2, g3, rfl, rfl⟩
      · by_cases ct : bT b 1 ≤ dr z t 4 m % 10
        · simp only [cx, cy, cs, ct, if_true, if_false]; exact same
        · simp only [cx, cy, cs, ct, if_true, if_false]
          rw [dec_n (by omega)]
          obtain ⟨g1, g2, g3⟩ := chg 1 (f (2 * m + 1) - 1) (by decide) (fun h => by omega) (fun _ => by omega)
          exact ⟨_, _, _, g1, g2, g3, rfl, rfl⟩
theorem e_summer {F : Nat} (hF : 600 ≤ F) {b : BT} (ok : okB b) {words heard can ins trad tak jM jP : Nat → Int32} {jT uT need spk gd : Int32} (hc : clB b words heard can ins trad tak jM jP jT uT need spk gd) {l : Nat → Int32} (hm : moB b l) {f : Nat → Nat} (okf : okS b f) {oth sta : Nat → Int32} (ho : holdS f oth) (hs : holdS f sta) (p1 p2 : Int32) (row one two ways : Nat → Int32) : ∃ r f' oth' sta' row' one' two' ways', okS b f' ∧ holdS f' oth' ∧ holdS f' sta' ∧ D_X9_summer F p1 p2 oth row spk gd words can ins trad tak = some (r, oth', row') ∧ D_X10_summer F p1 p2 l sta one two ways = some (r, sta', one', two', ways') := by
  unfold D_X9_summer D_X10_summer
  rw [in_rng p1 (n := 9999) (by decide), bd1_s, zb_if, in_of p2 (by decide) (by decide), bd1_s, zb_if]
  by_cases h1 : 0 ≤ p1.toInt ∧ p1.toInt < (9999 + 1 : Nat)
  case neg =>
    rw [if_neg h1]
    refine ⟨(-1 : Int32), f, oth, sta, row, one, two, ways, okf, ho, hs, ?_, rfl⟩
    by_cases c : p1 < 0
    · rw [if_pos c]
    · rw [if_neg c, if_pos]
      rw [ti_lt' (by decide)]; rw [lt0_iff] at c; omega
  rw [if_pos h1, if_neg (by rw [lt0_iff]; omega), if_neg (by rw [ti_lt' (by decide)]; omega)]
  by_cases h2 : ((1 : Nat) : Int) ≤ p2.toInt ∧ p2.toInt ≤ (99 : Nat)
  case neg =>
    rw [if_neg h2]
    refine ⟨(-1 : Int32), f, oth, sta, row, one, two, ways, okf, ho, hs, ?_, rfl⟩
    by_cases c : p2 < nI 1
    · rw [if_pos c]
    · rw [if_neg c, if_neg]
      rw [ti_le' (by decide)]; rw [ti_lt (by decide)] at c; omega
  rw [if_pos h2, if_neg (by rw [ti_lt (by decide)]; omega), if_pos (by rw [ti_le' (by decide)]; omega)]
  obtain ⟨z, hz, rfl⟩ := ti_in h1.1 (n := 10000) h1.2
  obtain ⟨n, hn, rfl⟩ := ti_in (x := p2) (by omega) (n := 100) (by omega)
  obtain ⟨hc1, hc2', hc3, hc4, hc5, hc6, hc7, hc8, hc9, hc10, hsp, hgd⟩ := id hc
  obtain ⟨hm1, hm2, hm3, hm4, hm5, hm6, hm7, -⟩ := id hm
  subst hsp hgd
  -- the loop over the meetings of one meaning
  have inner : ∀ (m : Nat), m < 8 → ∀ (g : Nat → Nat) (o s : Nat → Int32), okS b g → holdS g o → holdS g s → ∃ g' o' s', okS b g' ∧ holdS g' o' ∧ holdS g' s' ∧ lpg (T := Int32 → (Nat → Int32) → Option ((Nat → Int32))) (fun _ _ => none) (b_X9_summer_54 (nI z) (nI n) (nI (bS b)) trad tak (nI m)) F (nI 0) o = some o' ∧ lpg (T := Int32 → (Nat → Int32) → Option ((Nat → Int32))) (fun _ _ => none) (b_X10_summer_60 (nI z) (nI n) l (nI m) (nI 1)) F (nI 0) s = some s' := by
    intro m hm8 g o s okg hgo hgs
    obtain ⟨r1, r2, ⟨g', k1, k2, k3⟩, e1, e2⟩ := lpg_sim (bot1 := fun _ _ => none) (body1 := b_X9_summer_54 (nI z) (nI n) (nI (bS b)) trad tak (nI m)) (bot2 := fun _ _ => none) (body2 := b_X10_summer_60 (nI z) (nI n) l (nI m) (nI 1)) (fun f (t : Int32 × (Nat → Int32)) => f t.1 t.2) (fun f (t : Int32 × (Nat → Int32)) => f t.1 t.2)
      (fun d t1 t2 => ∃ (t : Nat) (g : Nat → Nat) (o s : Nat → Int32), t + d = n ∧ okS b g ∧ holdS g o ∧ holdS g s ∧ t1 = (nI t, o) ∧ t2 = (nI t, s)) (fun r1 r2 => ∃ g, okS b g ∧ holdS g r1 ∧ holdS g r2)
      (by
        rintro rec1 rec2 d t1 t2 ⟨t, g, o, s, htd, i1, i2, i3, rfl, rfl⟩
        dsimp only
        rw [b_X9_summer_54, b_X10_summer_60]
        by_cases hd : d = 0
        · left
          rw [if_pos (nI_le (by omega) (by omega)), if_pos (nI_le (by omega) (by omega))]; exact ⟨_, _, ⟨g, i1, i2, i3⟩, rfl, rfl⟩
        · right
          obtain ⟨g', o', s', j1, j2, j3, f1, f2⟩ := meetBy_of ok hc hm i1 i2 i3 (z := z) (t := t) (m := m) (by omega) (by omega) hm8
          rw [if_neg (nI_leN (by omega) (by omega) (by omega)), if_neg (nI_leN (by omega) (by omega) (by omega)), if_n1, f1, bd1_s, f2, bd1_s, nm_s, nm_s, nI_add]
          exact ⟨d - 1, (nI (t + 1), o'), (nI (t + 1), s'), by omega, ⟨t + 1, g', o', s', by omega, j1, j2, j3, rfl, rfl⟩, rfl, rfl⟩)
      n F (nI 0, o) (nI 0, s) (by omega) ⟨0, g, o, s, by omega, okg, hgo, hgs, rfl, rfl⟩
    dsimp only at e1 e2
    exact ⟨g', r1, r2, k1, k2, k3, e1, e2⟩
  have none0 : ∀ (m : Nat) (s : Nat → Int32), lpg (T := Int32 → (Nat → Int32) → Option ((Nat → Int32))) (fun _ _ => none) (b_X10_summer_60 (nI z) (nI n) l (nI m) (nI 0)) F (nI 0) s = some s := by
    intro m s
    obtain ⟨F', rfl⟩ : ∃ F', F = F' + 1 := ⟨F - 1, by omega⟩
    rw [lpg_succ, b_X10_summer_60, if_n0]
    split <;> rfl
  obtain ⟨⟨a1, a2⟩, ⟨b1, b2, b3, b4⟩, ⟨g, k1, k2, k3⟩, e1, e2⟩ := lpg_sim (bot1 := fun _ _ _ => none) (body1 := b_X9_summer_26 (nI z) (nI n) (nI (bS b)) (nI (bG b)) words can ins trad tak F) (bot2 := fun _ _ _ _ _ => none) (body2 := b_X10_summer_28 (nI z) (nI n) l F) (fun f (t : Int32 × (Nat → Int32) × (Nat → Int32)) => f t.1 t.2.1 t.2.2) (fun f (t : Int32 × (Nat → Int32) × (Nat → Int32) × (Nat → Int32) × (Nat → Int32)) => f t.1 t.2.1 t.2.2.1 t.2.2.2.1 t.2.2.2.2)
    (fun d t1 t2 => ∃ (m : Nat) (g : Nat → Nat) (o s q0 q1 q2 q3 : Nat → Int32), m + d = 8 ∧ okS b g ∧ holdS g o ∧ holdS g s ∧ t1 = (nI m, o, q0) ∧ t2 = (nI m, s, q1, q2, q3)) (fun r1 r2 => ∃ g, okS b g ∧ holdS g r1.1 ∧ holdS g r2.1)
    (by
      rintro rec1 rec2 d t1 t2 ⟨m, g, o, s, q0, q1, q2, q3, hmd, i1, i2, i3, rfl, rfl⟩
      dsimp only
      rw [b_X9_summer_26, b_X10_summer_28]
      by_cases hd : d = 0
      · left
        rw [if_pos (nI_le (by omega) (by omega)), if_pos (nI_le (by omega) (by omega))]; exact ⟨_, _, ⟨g, i1, i2, i3⟩, rfl, rfl⟩
      · right
        have hm8 : m < 8 := by omega
        rw [if_neg (nI_leN (by omega) (by omega) (by omega)), if_neg (nI_leN (by omega) (by omega) (by omega))]
        have off : ∀ x y w, j_X10_summer_54 (nI z) (nI n) l F (nI m) s rec2 x y w = rec2 (nI (m + 1)) s x y w := by
          intro x y w
          unfold j_X10_summer_54 j_X10_summer_55
          rw [none0, bd1_s, nm_s, nI_add]
        simp only [nm_s]
        by_cases t : told b m
        · rw [(isTold_of ok hc1 hm8).1 t, bd1_s, if_n1, (isToldM_of ok hm1 hm8).1 t, bd1_s, if_n1]
          obtain ⟨q0', f0⟩ := isAlike_of hF ok hc1 hc3 hc4 hm8 q0
          obtain ⟨q1', q2', q3', f1⟩ := isAlikeM_of hF ok hm1 hm2 hm3 hm7 hm8 q1 q2 q3
          rw [f0, bd2_s, f1, bd4_s]
          by_cases c : bG b ≤ lkM b m
          · rw [if_pos c, if_n1, if_n1, off, nI_add]
            exact ⟨d - 1, (nI (m + 1), o, q0'), (nI (m + 1), s, q1', q2', q3'), by omega, ⟨m + 1, g, o, s, q0', q1', q2', q3', by omega, i1, i2, i3, rfl, rfl⟩, rfl, rfl⟩
          · rw [if_neg c, if_n0, if_n0]
            obtain ⟨g', o', s', j1, j2, j3, f3, f4⟩ := inner m hm8 g o s i1 i2 i3
            unfold j_X10_summer_55
            rw [f3, bd1_s, f4, bd1_s, nm_s, nI_add]
            exact ⟨d - 1, (nI (m + 1), o', q0'), (nI (m + 1), s', q1', q2', q3'), by omega, ⟨m + 1, g', o', s', q0', q1', q2', q3', by omega, j1, j2, j3, rfl, rfl⟩, rfl, rfl⟩
        · rw [(isTold_of ok hc1 hm8).2 t, bd1_s, if_n0, (isToldM_of ok hm1 hm8).2 t, bd1_s, if_n0, off, nI_add]
          exact ⟨d - 1, (nI (m + 1), o, q0), (nI (m + 1), s, q1, q2, q3), by omega, ⟨m + 1, g, o, s, q0, q1, q2, q3, by omega, i1, i2, i3, rfl, rfl⟩, rfl, rfl⟩)
    8 F (nI 0, oth, row) (nI 0, sta, one, two, ways) (by omega) ⟨0, f, oth, sta, row, one, two, ways, by omega, okf, ho, hs, rfl, rfl⟩
  dsimp only at e1 e2 k2 k3
  rw [e1, e2, bd2_s, bd4_s]
  obtain ⟨t1, u1⟩ := tongueBits_of hF ok hc k1 k2 (p := 0) (by decide) a2
  obtain ⟨t2, u2⟩ := tongueBits_of hF ok hc k1 k2 (p := 1) (by decide) t1
  obtain ⟨v1, v2, v3, u3⟩ := tongueBy_of hF ok hm k1 k3 (p := 0) (by decide) b2 b3 b4
  obtain ⟨v4, v5, v6, u4⟩ := tongueBy_of hF ok hm k1 k3 (p := 1) (by decide) v1 v2 v3
  have hlt : bset (tngP b g 0) 8 ||| bset (tngP b g 1) 8 < 256 := or_lt (k := 8) (bset8 _) (bset8 _)
  rw [u1, bd2_s, u2, bd2_s, u3, bd4_s, u4, bd4_s, fa_or, bitCount_of _ hlt, bd1_s, ones_of hF hlt, bd1_s]
  exact ⟨_, g, _, _, _, _, _, _, k1, k2, k3, rfl, rfl⟩
