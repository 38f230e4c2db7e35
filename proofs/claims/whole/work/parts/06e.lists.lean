/-! PURE: lists by ears: from, by chance, joined -/
/-- like of a word of an ear and a word that may be wanting -/
def lkE (u v : List Nat) : Int32 := if v.length = 0 then (-1 : Int32) else nI (lk u v)
theorem lkE_lt {u v : List Nat} : lkE u v = (-1 : Int32) ∨ ∃ n, n ≤ 100 ∧ lkE u v = nI n := by
  unfold lkE
  by_cases c : v.length = 0
  · exact Or.inl (if_pos c)
  · exact Or.inr ⟨lk u v, lk_le u v, if_neg c⟩
theorem likeThere_of {F : Nat} (hF : 600 ≤ F) {u v : List Nat} (hu : okw u) (hv : okw v) (row : Nat → Int32) : ∃ row', D_X9_likeOfWordThere F (nI (enc u)) (nI (enc v)) row = some (lkE u v, row') := by
  unfold D_X9_likeOfWordThere lkE
  by_cases c : v.length = 0
  · rw [if_pos ((enc_zero hv).mpr c), if_pos c]; exact ⟨_, rfl⟩
  · rw [if_neg (fun z => c ((enc_zero hv).mp z)), if_neg c]
    obtain ⟨r, e⟩ := likeness_of hF hu hv row
    rw [e, bd2_s]; exact ⟨_, rfl⟩
theorem e_from {F : Nat} (hF : 600 ≤ F) {b : BT} (ok : okB b) {words heard can ins trad tak jM jP : Nat → Int32} {jT uT need spk gd : Int32} (hc : clB b words heard can ins trad tak jM jP jT uT need spk gd) {l : Nat → Int32} (hm : moB b l) (p1 p2 : Int32) (row one two ways : Nat → Int32) : ∃ r row' one' two' ways', D_X9_from F p1 p2 row gd words heard = some (r, row') ∧ D_X10_from F p1 p2 l one two ways = some (r, one', two', ways') := by
  obtain ⟨hc1, hc2, -, -, -, -, -, -, -, -, -, hgd⟩ := hc
  obtain ⟨hm1, -, -, -, -, -, hm7, -⟩ := hm
  subst hgd
  have hG := ok.2.2.2.2.2.2.1
  unfold D_X9_from D_X10_from
  rw [isEar_of, bd1_s, zb_if, in02, bd1_s, zb_if]
  by_cases h1 : 0 ≤ p1.toInt ∧ p1.toInt < 3
  case neg => rw [if_neg h1, if_neg h1]; exact ⟨_, _, _, _, _, rfl, rfl⟩
  rw [if_pos h1, if_pos h1, isMeaning_of, bd1_s, zb_if, isMeaningM_of, bd1_s, zb_if]
  by_cases h2 : 0 ≤ p2.toInt ∧ p2.toInt < 8
  case neg => rw [if_neg h2, if_neg h2]; exact ⟨_, _, _, _, _, rfl, rfl⟩
  rw [if_pos h2, if_pos h2]
  obtain ⟨e, he, rfl⟩ := ti_in h1.1 (n := 3) h1.2
  obtain ⟨m, hmm, rfl⟩ := ti_in h2.1 (n := 8) h2.2
  have hi : 16 + (8 * e + m) < 40 := by omega
  have hH := ok.1 _ hi
  have hH1 := hH.1
  rw [heardBy_of hc2 he hmm, bd1_s, earAt_of, bd1_s, ck_n (by omega) (by decide), nI_clamp (by omega), (hm1 _ hi).2.1]
  by_cases c0 : (bW b (16 + (8 * e + m))).length = 0
  · rw [if_pos ((enc_zero hH).mpr c0), if_pos (by rw [c0]; rfl)]; exact ⟨_, _, _, _, _, rfl, rfl⟩
  rw [if_neg (fun z => c0 ((enc_zero hH).mp z)), if_neg (nI_ne0 (n := (bW b (16 + (8 * e + m))).length) (by omega) (by omega))]
  generalize hh : bW b (16 + (8 * e + m)) = h at *
  obtain ⟨r1, e1⟩ := likeThere_of hF hH (ok.1 (8 * 0 + m) (by omega)) row
  obtain ⟨r2, e2⟩ := likeThere_of hF hH (ok.1 (8 * 1 + m) (by omega)) r1
  rw [wordOf_of hc1 (by decide) hmm, bd1_s, e1, bd2_s, wordOf_of hc1 (by decide) hmm, bd1_s, e2, bd2_s]
  unfold D_X0_alikeFrom
  rw [bd1_s]
  -- one round of the reference
  have round : ∀ (p : Nat) (best most : Int32) (rec : Int32 → Int32 → Int32 → (Nat → Int32) → (Nat → Int32) → (Nat → Int32) → Option (Int32 × (Nat → Int32) × (Nat → Int32) × (Nat → Int32))) (o t w : Nat → Int32), p < 2 → ∃ o' t' w', b_X10_from_46 (nI e) (nI m) l F rec best most (nI p) o t w = j_X10_from_98 l best most (nI p) rec o' t' (lkE h (bW b (8 * p + m))) w' := by
    intro p best most rec o t w hp
    rw [b_X10_from_46, if_neg (nI_leN (by omega) (by omega) hp), earAt_of, bd1_s, wordAt_of]
    obtain ⟨a1, f1, w1⟩ := say_plain hF o (hm1 _ hi) (by omega)
    obtain ⟨a2, f2, w2⟩ := say_plain hF t (hm1 (8 * p + m) (by omega)) (by omega)
    rw [f1, bd1_s, bd1_s, f2, bd1_s, ck_n (by decide) (by decide), nI_clamp (by decide), w2.2.1]
    have ho := (ok.1 (8 * p + m) (by omega)).1
    rw [hh] at w1
    unfold lkE
    by_cases c : (bW b (8 * p + m)).length = 0
    · rw [if_pos (by rw [c]; rfl), if_pos c]; exact ⟨_, _, _, rfl⟩
    · rw [if_neg (nI_ne0 (by omega) (by omega)), if_neg c]
      obtain ⟨w3, f3⟩ := likeOf_of hF w1 w2 w
      rw [f3, bd2_s]; exact ⟨_, _, _, rfl⟩
  generalize hz0 : lkE h (bW b (8 * 0 + m)) = z0
  generalize hz1 : lkE h (bW b (8 * 1 + m)) = z1
  obtain ⟨G, hGe⟩ : ∃ G, G = nI (bG b) := ⟨_, rfl⟩
  rw [← hGe]
  have hlG : l 303 = G := by rw [hGe]; exact hm7
  have step : ∀ (best most z : Int32) (p : Nat) (rec : Int32 → Int32 → Int32 → (Nat → Int32) → (Nat → Int32) → (Nat → Int32) → Option (Int32 × (Nat → Int32) × (Nat → Int32) × (Nat → Int32))) (o t w : Nat → Int32), p < 2 → ¬ best = nI p → j_X10_from_98 l best most (nI p) rec o t z w = if z < G then rec best most (nI (p + 1)) o t w else if best < 0 then rec (nI p) z (nI (p + 1)) o t w else if z ≤ most then rec best most (nI (p + 1)) o t w else rec (nI p) z (nI (p + 1)) o t w := by
    intro best most z p rec o t w hp hb
    have a1 : j_X10_from_129 best most (nI p) rec o t z w = rec best most (nI (p + 1)) o t w := by
      rw [j_X10_from_129, j_X10_from_130, if_neg hb, nm_s, nI_add]
    have a2 : j_X10_from_124 most (nI p) rec o t z w = rec (nI p) z (nI (p + 1)) o t w := by
      rw [j_X10_from_124, j_X10_from_130, if_pos rfl, nm_s, nI_add]
    rw [j_X10_from_98, ck_n (by decide) (by decide), nI_clamp (by decide), hlG, a1, a2]
  obtain ⟨F', rfl⟩ : ∃ F', F = F' + 3 := ⟨F - 3, by omega⟩
  have done : ∀ (rec : Int32 → Int32 → Int32 → (Nat → Int32) → (Nat → Int32) → (Nat → Int32) → Option (Int32 × (Nat → Int32) × (Nat → Int32) × (Nat → Int32))) (best most : Int32) (o t w : Nat → Int32), b_X10_from_46 (nI e) (nI m) l (F' + 3) rec best most (nI 2) o t w = some (best, o, t, w) := by
    intro rec best most o t w
    rw [b_X10_from_46, if_pos (nI_le (by decide) (by decide))]
  have second : ∀ (best most : Int32) (o t w : Nat → Int32), ¬ best = nI 1 → ∃ o' t' w', lpg (T := Int32 → Int32 → Int32 → (Nat → Int32) → (Nat → Int32) → (Nat → Int32) → Option (Int32 × (Nat → Int32) × (Nat → Int32) × (Nat → Int32))) (fun _ _ _ _ _ _ => none) (b_X10_from_46 (nI e) (nI m) l (F' + 3)) (F' + 2) best most (nI 1) o t w = some (if z1 < G then best else if best < 0 then nI 1 else if z1 ≤ most then best else nI 1, o', t', w') := by
    intro best most o t w hb
    rw [lpg_succ]
    obtain ⟨o', t', w', f⟩ := round 1 best most (lpg (T := Int32 → Int32 → Int32 → (Nat → Int32) → (Nat → Int32) → (Nat → Int32) → Option (Int32 × (Nat → Int32) × (Nat → Int32) × (Nat → Int32))) (fun _ _ _ _ _ _ => none) (b_X10_from_46 (nI e) (nI m) l (F' + 3)) (F' + 1)) o t w (by decide)
    rw [f, step _ _ _ _ _ _ _ _ (by decide) hb, lpg_succ, hz1]
    refine ⟨o', t', w', ?_⟩
    rw [done, done]
    by_cases c1 : z1 < G
    · rw [if_pos c1, if_pos c1]
    · rw [if_neg c1, if_neg c1]
      by_cases c2 : best < 0
      · rw [if_pos c2, if_pos c2]
      · rw [if_neg c2, if_neg c2]
        by_cases c3 : z1 ≤ most
        · rw [if_pos c3, if_pos c3]
        · rw [if_neg c3, if_neg c3]
  rw [lpg_succ]
  obtain ⟨o', t', w', f⟩ := round 0 (-4 : Int32) (nI 0) (lpg (T := Int32 → Int32 → Int32 → (Nat → Int32) → (Nat → Int32) → (Nat → Int32) → Option (Int32 × (Nat → Int32) × (Nat → Int32) × (Nat → Int32))) (fun _ _ _ _ _ _ => none) (b_X10_from_46 (nI e) (nI m) l (F' + 3)) (F' + 2)) one two ways (by decide)
  rw [f, step _ _ _ _ _ _ _ _ (by decide) (by decide), hz0]
  by_cases c1 : z0 < G
  · rw [if_pos c1]
    obtain ⟨o2, t2, w2, f2⟩ := second (-4 : Int32) (nI 0) o' t' w' (by decide)
    rw [f2, bd4_s]
    by_cases c2 : z1 < G
    · rw [if_pos c2, if_neg]
      · exact ⟨_, _, _, _, _, rfl, rfl⟩
      · rw [fa_lt] at c1 c2
        split <;> rw [fa_le] <;> omega
    · have c3 : z0 < z1 := by rw [fa_lt] at *; omega
      rw [if_neg c2, if_pos (by decide : (-4 : Int32) < 0), if_pos c3, if_pos c3, if_pos (by rw [fa_le]; rw [fa_lt] at c2; omega)]
      exact ⟨_, _, _, _, _, rfl, rfl⟩
  · rw [if_neg c1, if_pos (by decide : (-4 : Int32) < 0)]
    obtain ⟨o2, t2, w2, f2⟩ := second (nI 0) z0 o' t' w' (by decide)
    rw [f2, bd4_s]
    rw [if_pos (by rw [fa_lt] at c1; split <;> rename_i q <;> rw [fa_lt] at q <;> rw [fa_le] <;> omega)]
    by_cases c2 : z0 < z1
    · rw [if_pos c2, if_neg (by rw [fa_lt] at *; omega), if_neg (by decide : ¬ nI 0 < 0), if_neg (by rw [fa_le]; rw [fa_lt] at c2; omega)]
      exact ⟨_, _, _, _, _, rfl, rfl⟩
    · rw [if_neg c2]
      by_cases c3 : z1 < G
      · rw [if_pos c3]; exact ⟨_, _, _, _, _, rfl, rfl⟩
      · rw [if_neg c3, if_neg (by decide : ¬ nI 0 < 0), if_pos (by rw [fa_le]; rw [fa_lt] at c2; omega)]
        exact ⟨_, _, _, _, _, rfl, rfl⟩
theorem e_chance {F : Nat} (hF : 600 ≤ F) {b : BT} (ok : okB b) {words heard can ins trad tak jM jP : Nat → Int32} {jT uT need spk gd : Int32} (hc : clB b words heard can ins trad tak jM jP jT uT need spk gd) {l : Nat → Int32} (hm : moB b l) (p1 p2 p3 : Int32) (row one two ways : Nat → Int32) : ∃ r row' one' two' ways', D_X9_chance F p1 p2 p3 row gd words heard = some (r, row') ∧ D_X10_chance F p1 p2 p3 l one two ways = some (r, one', two', ways') := by
  obtain ⟨hc1, hc2, -, -, -, -, -, -, -, -, -, hgd⟩ := hc
  obtain ⟨hm1, -, -, -, -, -, hm7, -⟩ := hm
  subst hgd
  have hG := ok.2.2.2.2.2.2.1
  unfold D_X9_chance D_X10_chance
  rw [isEar_of, bd1_s, zb_if, in02, bd1_s, zb_if]
  by_cases h1 : 0 ≤ p1.toInt ∧ p1.toInt < 3
  case neg => rw [if_neg h1, if_neg h1]; exact ⟨_, _, _, _, _, rfl, rfl⟩
  rw [if_pos h1, if_pos h1, isPeople_of, bd1_s, zb_if, in01, bd1_s, zb_if]
  by_cases h2 : 0 ≤ p2.toInt ∧ p2.toInt < 2
  case neg => rw [if_neg h2, if_neg h2]; exact ⟨_, _, _, _, _, rfl, rfl⟩
  rw [if_pos h2, if_pos h2, in01, bd1_s, zb_if]
  by_cases h3 : 0 ≤ p3.toInt ∧ p3.toInt < 2
  case neg =>
    rw [if_neg h3]
    refine ⟨(-1 : Int32), row, one, two, ways, ?_, rfl⟩
    by_cases c : p3 < 0
    · rw [if_pos c]
    · rw [if_neg c, if_neg]
      rw [ti_le' (by decide)]; rw [lt0_iff] at c; omega
  rw [if_pos h3, if_neg (by rw [lt0_iff]; omega), if_pos (by rw [ti_le' (by decide)]; omega)]
  obtain ⟨e, he, rfl⟩ := ti_in h1.1 (n := 3) h1.2
  obtain ⟨p, hp, rfl⟩ := ti_in h2.1 (n := 2) h2.2
  obtain ⟨⟨a1, a2, a3⟩, ⟨b1, b2, b3, b4, b5⟩, hq, e1, e2⟩ := lpg_sim (bot1 := fun _ _ _ _ => none) (body1 := b_X9_chance_34 (nI e) (nI p) (nI (bG b)) words heard F) (bot2 := fun _ _ _ _ _ _ => none) (body2 := b_X10_chance_43 (nI e) (nI p) l F) (fun f (t : Int32 × Int32 × Int32 × (Nat → Int32)) => f t.1 t.2.1 t.2.2.1 t.2.2.2) (fun f (t : Int32 × Int32 × Int32 × (Nat → Int32) × (Nat → Int32) × (Nat → Int32)) => f t.1 t.2.1 t.2.2.1 t.2.2.2.1 t.2.2.2.2.1 t.2.2.2.2.2)
    (fun d t1 t2 => ∃ (x y : Int32) (m : Nat) (q0 q1 q2 q3 : Nat → Int32), m + d = 8 ∧ t1 = (x, y, nI m, q0) ∧ t2 = (x, y, nI m, q1, q2, q3)) (fun r1 r2 => r1.1 = r2.1 ∧ r1.2.1 = r2.2.1)
    (by
      rintro rec1 rec2 d t1 t2 ⟨x, y, m, q0, q1, q2, q3, hmd, rfl, rfl⟩
      dsimp only
      rw [b_X9_chance_34, b_X10_chance_43]
      by_cases hd : d = 0
      · left
        rw [if_pos (nI_le (by omega) (by omega)), if_pos (nI_le (by omega) (by omega))]; exact ⟨_, _, ⟨rfl, rfl⟩, rfl, rfl⟩
      · right
        have hm8 : m < 8 := by omega
        rw [if_neg (nI_leN (by omega) (by omega) (by omega)), if_neg (nI_leN (by omega) (by omega) (by omega))]
        have hi : 16 + (8 * e + m) < 40 := by omega
        have hH := ok.1 _ hi
        have hH1 := hH.1
        obtain ⟨⟨a1, a2, a3⟩, ⟨b1, b2, b3, b4, b5⟩, hq, e1, e2⟩ := lpg_sim (bot1 := fun _ _ _ _ => none) (body1 := b_X9_chance_44 (nI e) (nI p) (nI (bG b)) words heard F (nI m)) (bot2 := fun _ _ _ _ _ _ => none) (body2 := b_X10_chance_53 (nI e) (nI p) l F (nI m)) (fun f (t : Int32 × Int32 × Int32 × (Nat → Int32)) => f t.1 t.2.1 t.2.2.1 t.2.2.2) (fun f (t : Int32 × Int32 × Int32 × (Nat → Int32) × (Nat → Int32) × (Nat → Int32)) => f t.1 t.2.1 t.2.2.1 t.2.2.2.1 t.2.2.2.2.1 t.2.2.2.2.2)
          (fun d t1 t2 => ∃ (x y : Int32) (n : Nat) (q0 q1 q2 q3 : Nat → Int32), n + d = 8 ∧ t1 = (x, y, nI n, q0) ∧ t2 = (x, y, nI n, q1, q2, q3)) (fun r1 r2 => r1.1 = r2.1 ∧ r1.2.1 = r2.2.1)
          (by
            rintro rec1 rec2 d t1 t2 ⟨x, y, n, q0, q1, q2, q3, hnd, rfl, rfl⟩
            dsimp only
            rw [b_X9_chance_44, b_X10_chance_53]
            simp only [nm_s]
            by_cases hd : d = 0
            · left
              rw [if_pos (nI_le (by omega) (by omega)), if_pos (nI_le (by omega) (by omega))]; exact ⟨_, _, ⟨rfl, rfl⟩, rfl, rfl⟩
            · right
              have hn8 : n < 8 := by omega
              have hj : 8 * p + n < 40 := by omega
              have hV := ok.1 _ hj
              have hV1 := hV.1
              rw [if_neg (nI_leN (by omega) (by omega) (by omega)), if_neg (nI_leN (by omega) (by omega) (by omega)), heardBy_of hc2 he hm8, bd1_s, wordOf_of hc1 hp hn8, bd1_s, nI_add]
              by_cases c : nI m = nI n
              · rw [if_pos c, if_pos c]
                exact ⟨d - 1, (x, y, nI (n + 1), q0), (x, y, nI (n + 1), q1, q2, q3), by omega, ⟨x, y, n + 1, q0, q1, q2, q3, by omega, rfl, rfl⟩, rfl, rfl⟩
              rw [if_neg c, if_neg c, earAt_of, bd1_s, ck_n (by omega) (by decide), nI_clamp (by omega), (hm1 _ hi).2.1]
              by_cases c1 : (bW b (16 + (8 * e + m))).length = 0
              · rw [if_pos ((enc_zero hH).mpr c1), if_pos ((le0_n (by omega)).mpr c1)]
                exact ⟨d - 1, (x, y, nI (n + 1), q0), (x, y, nI (n + 1), q1, q2, q3), by omega, ⟨x, y, n + 1, q0, q1, q2, q3, by omega, rfl, rfl⟩, rfl, rfl⟩
              rw [if_neg (fun z => c1 ((enc_zero hH).mp z)), if_neg (fun z => c1 ((le0_n (by omega)).mp z)), wordAt_of, bd1_s, ck_n (by omega) (by decide), nI_clamp (by omega), (hm1 _ hj).2.1]
              by_cases c2 : (bW b (8 * p + n)).length = 0
              · rw [if_pos ((enc_zero hV).mpr c2), if_pos ((le0_n (by omega)).mpr c2)]
                exact ⟨d - 1, (x, y, nI (n + 1), q0), (x, y, nI (n + 1), q1, q2, q3), by omega, ⟨x, y, n + 1, q0, q1, q2, q3, by omega, rfl, rfl⟩, rfl, rfl⟩
              obtain ⟨a1, f1, w1⟩ := say_plain hF q1 (hm1 _ hi) (by omega)
              obtain ⟨a2, f2, w2⟩ := say_plain hF q2 (hm1 _ hj) (by omega)
              obtain ⟨a3, f3⟩ := likeOf_of hF w1 w2 q3
              obtain ⟨a4, f4⟩ := likeness_of hF hH hV q0
              have hlk := lk_le (bW b (16 + (8 * e + m))) (bW b (8 * p + n))
              rw [if_neg (fun z => c2 ((enc_zero hV).mp z)), if_neg (fun z => c2 ((le0_n (by omega)).mp z)), f4, bd2_s, bd1_s, f1, bd1_s, bd1_s, f2, bd1_s, f3, bd2_s, ck_n (by decide) (by decide), nI_clamp (by decide), hm7]
              unfold D_X0_alikeFrom
              rw [bd1_s]
              by_cases c3 : nI (lk (bW b (16 + (8 * e + m))) (bW b (8 * p + n))) < nI (bG b)
              · rw [if_pos c3, if_pos c3]
                refine ⟨d - 1, (x, y + nI 1, nI (n + 1), a4), (x, y + nI 1, nI (n + 1), a1, a2, a3), by omega, ⟨x, y + nI 1, n + 1, a4, a1, a2, a3, by omega, rfl, rfl⟩, rfl, ?_⟩
                rw [show x + nI 0 = x by rw [show nI 0 = (0 : Int32) from rfl]; simp]
              · rw [if_neg c3, if_neg c3]
                exact ⟨d - 1, (x + nI 1, y + nI 1, nI (n + 1), a4), (x + nI 1, y + nI 1, nI (n + 1), a1, a2, a3), by omega, ⟨x + nI 1, y + nI 1, n + 1, a4, a1, a2, a3, by omega, rfl, rfl⟩, rfl, rfl⟩)
          8 F (x, y, nI 0, q0) (x, y, nI 0, q1, q2, q3) (by omega) ⟨x, y, 0, q0, q1, q2, q3, by omega, rfl, rfl⟩
        dsimp only at e1 e2 hq
        obtain ⟨g1, g2⟩ := hq
        subst g1 g2
        rw [e1, e2, bd3_s, bd5_s, nm_s, nm_s, nI_add]
        exact ⟨d - 1, (a1, a2, nI (m + 1), a3), (a1, a2, nI (m + 1), b3, b4, b5), by omega, ⟨a1, a2, m + 1, a3, b3, b4, b5, by omega, rfl, rfl⟩, rfl, rfl⟩)
    8 F (nI 0, nI 0, nI 0, row) (nI 0, nI 0, nI 0, one, two, ways) (by omega) ⟨nI 0, nI 0, 0, row, one, two, ways, by omega, rfl, rfl⟩
  dsimp only at e1 e2 hq
  obtain ⟨g1, g2⟩ := hq
  subst g1 g2
  rw [e1, e2, bd3_s, bd5_s]
  by_cases c : p3 = 0
  · rw [if_pos c, if_pos c]; exact ⟨_, _, _, _, _, rfl, rfl⟩
  · rw [if_neg c, if_neg c]; exact ⟨_, _, _, _, _, rfl, rfl⟩
/-- how far ear e's word for m is from the others' below k, together -/
def smE (b : BT) (e m : Nat) : Nat → Nat
  | 0 => 0
  | o + 1 => smE b e m o + (if (bW b (16 + (8 * o + m))).length = 0 then 0 else dist (bW b (16 + (8 * e + m))) (bW b (16 + (8 * o + m))))
/-- a word is no farther from another than the longer one is long, and not at all from itself -/
theorem smE_lt {b : BT} (ok : okB b) {e m : Nat} (he : e < 3) (hm : m < 8) : ∀ k, k ≤ 3 → smE b e m k + (if e < k then 6 else 0) ≤ 6 * k := by
  intro k
  induction k with
  | zero => intro _; rw [if_neg (by omega)]; exact Nat.le_refl _
  | succ k ih =>
    intro hk
    have h1 := ih (by omega)
    have h3 := (ok.1 (16 + (8 * e + m)) (by omega)).1
    have h4 := (ok.1 (16 + (8 * k + m)) (by omega)).1
    by_cases c : k = e
    · subst c
      rw [if_neg (Nat.lt_irrefl k)] at h1
      rw [if_pos (Nat.lt_succ_self k), smE, dist_self, show (if (bW b (16 + (8 * k + m))).length = 0 then 0 else 0) = 0 by split <;> rfl]
      omega
    · have h2 := dist_max (bW b (16 + (8 * e + m))) (bW b (16 + (8 * k + m)))
      have h5 : (if e < k + 1 then 6 else 0) = (if e < k then 6 else 0) := by
        by_cases d : e < k
        · rw [if_pos d, if_pos (by omega)]
        · rw [if_neg d, if_neg (by omega)]
      have h6 : (if (bW b (16 + (8 * k + m))).length = 0 then 0 else dist (bW b (16 + (8 * e + m))) (bW b (16 + (8 * k + m)))) ≤ 6 := by
        split
        · omega
        · exact Nat.le_trans h2 (Nat.max_le.mpr ⟨h3, h4⟩)
      rw [h5, smE]
      generalize (if (bW b (16 + (8 * k + m))).length = 0 then 0 else dist (bW b (16 + (8 * e + m))) (bW b (16 + (8 * k + m)))) = w at h6 ⊢
      generalize (if e < k then 6 else 0) = v at h1 ⊢
      omega
theorem apartEars_of {F : Nat} (hF : 600 ≤ F) {b : BT} (ok : okB b) {heard : Nat → Int32} (hc2 : ∀ i, i < 24 → heard i = nI (enc (bW b (16 + i)))) {e m : Nat} (he : e < 3) (hm : m < 8) (row : Nat → Int32) : ∃ row', D_X9_apartFromOtherEars F (nI e) (nI m) row heard = some (nI (smE b e m 3), row') := by
  unfold D_X9_apartFromOtherEars
  have hi : 16 + (8 * e + m) < 40 := by omega
  obtain ⟨⟨r, r'⟩, hr1, hr2⟩ := lpg_ind (bot := fun _ _ _ => none) (body := b_X9_apartFromOtherEars_5 (nI e) (nI m) heard F) (fun f (s : Int32 × Int32 × (Nat → Int32)) => f s.1 s.2.1 s.2.2)
    (fun d s => ∃ o rw', o + d = 3 ∧ s = (nI (smE b e m o), nI o, rw')) (fun r => r.1 = nI (smE b e m 3))
    (by
      rintro rec d s ⟨o, rw', hod, rfl⟩
      dsimp only
      rw [b_X9_apartFromOtherEars_5]
      by_cases hd : d = 0
      · left
        exact ⟨_, by rw [show o = 3 by omega], if_pos (nI_le (by omega) (by omega))⟩
      · right
        have ho : o < 3 := by omega
        have hj : 16 + (8 * o + m) < 40 := by omega
        simp only [nm_s]
        rw [if_neg (nI_leN (by omega) (by omega) (by omega)), heardBy_of hc2 ho hm, bd1_s, nI_add]
        by_cases c : o = e
        · subst c
          rw [if_pos rfl]
          refine ⟨d - 1, (nI (smE b o m (o + 1)), nI (o + 1), rw'), by omega, ⟨o + 1, rw', by omega, rfl⟩, ?_⟩
          rw [smE, dist_self, show (if (bW b (16 + (8 * o + m))).length = 0 then 0 else 0) = 0 by split <;> rfl]; rfl
        · rw [if_neg (fun z => c ((nI_eq (by omega) (by omega)).mp z))]
          by_cases c1 : (bW b (16 + (8 * o + m))).length = 0
          · rw [if_pos ((enc_zero (ok.1 _ hj)).mpr c1)]
            refine ⟨d - 1, (nI (smE b e m (o + 1)), nI (o + 1), rw'), by omega, ⟨o + 1, rw', by omega, rfl⟩, ?_⟩
            rw [smE, if_pos c1]; rfl
          · rw [if_neg (fun z => c1 ((enc_zero (ok.1 _ hj)).mp z)), heardBy_of hc2 he hm, bd1_s]
            obtain ⟨r2, f2⟩ := apart_of hF (ok.1 _ hi) (ok.1 _ hj) rw'
            rw [f2, bd2_s, nI_add]
            refine ⟨d - 1, (nI (smE b e m (o + 1)), nI (o + 1), r2), by omega, ⟨o + 1, r2, by omega, rfl⟩, ?_⟩
            rw [smE, if_neg c1])
    3 F (nI 0, nI 0, row) (by omega) ⟨0, row, by omega, rfl⟩
  dsimp only at hr1 hr2
  rw [hr2, bd2_s, hr1]
  exact ⟨_, rfl⟩
theorem e_joined {F : Nat} (hF : 600 ≤ F) {b : BT} (ok : okB b) {heard : Nat → Int32} (hc2 : ∀ i, i < 24 → heard i = nI (enc (bW b (16 + i)))) {l : Nat → Int32} (hm1 : ∀ i, i < 40 → isW l (7 * i) (bW b i)) (p1 : Int32) (row one two ways : Nat → Int32) : ∃ r row' one' two' ways', D_X9_joined F p1 row heard = some (r, row') ∧ D_X10_joined F p1 l one two ways = some (r, one', two', ways') := by
  unfold D_X9_joined D_X10_joined
  rw [isMeaning_of, bd1_s, zb_if, isMeaningM_of, bd1_s, zb_if]
  by_cases h2 : 0 ≤ p1.toInt ∧ p1.toInt < 8
  case neg => rw [if_neg h2, if_neg h2]; exact ⟨_, _, _, _, _, rfl, rfl⟩
  rw [if_pos h2, if_pos h2]
  obtain ⟨m, hm8, rfl⟩ := ti_in h2.1 (n := 8) h2.2
  obtain ⟨⟨a1, a2⟩, ⟨b1, b2, b3, b4⟩, hq, e1, e2⟩ := lpg_sim (bot1 := fun _ _ _ _ => none) (body1 := b_X9_joined_18 (nI m) heard F) (bot2 := fun _ _ _ _ _ _ => none) (body2 := b_X10_joined_17 (nI m) l F) (fun f (t : Int32 × Int32 × Int32 × (Nat → Int32)) => f t.1 t.2.1 t.2.2.1 t.2.2.2) (fun f (t : Int32 × Int32 × Int32 × (Nat → Int32) × (Nat → Int32) × (Nat → Int32)) => f t.1 t.2.1 t.2.2.1 t.2.2.2.1 t.2.2.2.2.1 t.2.2.2.2.2)
    (fun d t1 t2 => ∃ (x y z : Int32) (e : Nat) (q0 q1 q2 q3 : Nat → Int32), e + d = 3 ∧ ((x = (-4 : Int32) ∧ y = nI 18) ∨ ∃ k s, k < 3 ∧ s ≤ 36 ∧ x = nI k ∧ y = nI s ∧ z = nI s) ∧ t1 = (x, y, nI e, q0) ∧ t2 = (x, z, nI e, q1, q2, q3)) (fun r1 r2 => r1.1 = r2.1)
    (by
      rintro rec1 rec2 d t1 t2 ⟨x, y, z, e, q0, q1, q2, q3, hed, hxy, rfl, rfl⟩
      dsimp only
      rw [b_X9_joined_18, b_X10_joined_17]
      by_cases hd : d = 0
      · left
        rw [if_pos (nI_le (by omega) (by omega)), if_pos (nI_le (by omega) (by omega))]; exact ⟨_, _, rfl, rfl, rfl⟩
      · right
        have he : e < 3 := by omega
        have hi : 16 + (8 * e + m) < 40 := by omega
        have hH := ok.1 _ hi
        have hH1 := hH.1
        have hsm : smE b e m 3 ≤ 12 := by have := smE_lt ok he hm8 3 (by decide); rw [if_pos he] at this; omega
        rw [if_neg (nI_leN (by omega) (by omega) (by omega)), if_neg (nI_leN (by omega) (by omega) (by omega)), heardBy_of hc2 he hm8, bd1_s]
        -- the reference's sum
        have hin : ∃ o1 o2 o3, lpg (T := Int32 → Int32 → (Nat → Int32) → (Nat → Int32) → (Nat → Int32) → Option (Int32 × (Nat → Int32) × (Nat → Int32) × (Nat → Int32))) (fun _ _ _ _ _ => none) (b_X10_joined_29 (nI m) l F (nI e)) F (nI 0) (nI 0) q1 q2 q3 = some (if (bW b (16 + (8 * e + m))).length = 0 then nI 0 else nI (smE b e m 3), o1, o2, o3) := by
          by_cases c1 : (bW b (16 + (8 * e + m))).length = 0
          · obtain ⟨F', rfl⟩ : ∃ F', F = F' + 1 := ⟨F - 1, by omega⟩
            rw [lpg_succ, b_X10_joined_29, if_neg (nI_leN (by decide) (by decide) (by decide)), earAt_of, bd1_s, ck_n (by omega) (by decide), nI_clamp (by omega), (hm1 _ hi).2.1, if_pos ((le0_n (by omega)).mpr c1), if_pos c1]
            exact ⟨_, _, _, rfl⟩
          · rw [if_neg c1]
            obtain ⟨⟨r, o1, o2, o3⟩, hr1, hr2⟩ := lpg_ind (bot := fun _ _ _ _ _ => none) (body := b_X10_joined_29 (nI m) l F (nI e)) (fun f (s : Int32 × Int32 × (Nat → Int32) × (Nat → Int32) × (Nat → Int32)) => f s.1 s.2.1 s.2.2.1 s.2.2.2.1 s.2.2.2.2)
              (fun d s => ∃ o q1 q2 q3, o + d = 3 ∧ s = (nI (smE b e m o), nI o, q1, q2, q3)) (fun r => r.1 = nI (smE b e m 3))
              (by
                rintro rec d s ⟨o, q1, q2, q3, hod, rfl⟩
                dsimp only
                rw [b_X10_joined_29]
                by_cases hd : d = 0
                · left
                  exact ⟨_, by rw [show o = 3 by omega], if_pos (nI_le (by omega) (by omega))⟩
                · right
                  have ho : o < 3 := by omega
                  have hj : 16 + (8 * o + m) < 40 := by omega
                  have hj1 := (ok.1 _ hj).1
                  obtain ⟨a1, f1, w1⟩ := say_plain hF q1 (hm1 _ hi) (by omega)
                  obtain ⟨a2, f2, w2⟩ := say_plain hF q2 (hm1 _ hj) (by omega)
                  simp only [nm_s]
                  rw [if_neg (nI_leN (by omega) (by omega) (by omega)), earAt_of, bd1_s, ck_n (by omega) (by decide), nI_clamp (by omega), (hm1 _ hi).2.1, if_neg (fun z => c1 ((le0_n (by omega)).mp z)), bd1_s, f1, bd1_s, earAt_of, bd1_s, f2, bd1_s, ck_n (by decide) (by decide), nI_clamp (by decide), w2.2.1, nI_add, nI_add]
                  by_cases c2 : (bW b (16 + (8 * o + m))).length = 0
                  · rw [if_pos (by rw [c2]; rfl)]
                    refine ⟨d - 1, (nI (smE b e m (o + 1)), nI (o + 1), a1, a2, q3), by omega, ⟨o + 1, a1, a2, q3, by omega, rfl⟩, ?_⟩
                    rw [smE, if_pos c2]
                  · rw [if_neg (nI_ne0 (by omega) (by omega))]
                    obtain ⟨a3, f3⟩ := farOf_of hF w1 w2 q3
                    rw [f3, bd2_s, nI_add]
                    refine ⟨d - 1, (nI (smE b e m (o + 1)), nI (o + 1), a1, a2, a3), by omega, ⟨o + 1, a1, a2, a3, by omega, rfl⟩, ?_⟩
                    rw [smE, if_neg c2])
              3 F (nI 0, nI 0, q1, q2, q3) (by omega) ⟨0, q1, q2, q3, by omega, rfl⟩
            dsimp only at hr1 hr2
            rw [hr2, hr1]
            exact ⟨_, _, _, rfl⟩
        obtain ⟨o1, o2, o3, hin⟩ := hin
        rw [hin, bd4_s, earAt_of, bd1_s, ck_n (by omega) (by decide), nI_clamp (by omega), (hm1 _ hi).2.1]
        simp only [nm_s]
        rw [nI_add]
        by_cases c1 : (bW b (16 + (8 * e + m))).length = 0
        · rw [if_pos ((enc_zero hH).mpr c1), if_pos ((le0_n (by omega)).mpr c1)]
          exact ⟨d - 1, (x, y, nI (e + 1), q0), (x, z, nI (e + 1), o1, o2, o3), by omega, ⟨x, y, z, e + 1, q0, o1, o2, o3, by omega, hxy, rfl, rfl⟩, rfl, rfl⟩
        · rw [if_neg (fun z => c1 ((enc_zero hH).mp z)), if_neg (fun z => c1 ((le0_n (by omega)).mp z)), if_neg c1]
          obtain ⟨r3, f3⟩ := apartEars_of hF ok hc2 he hm8 q0
          rw [f3, bd2_s]
          rcases hxy with ⟨rfl, rfl⟩ | ⟨k, s, hk, hs, rfl, rfl, rfl⟩
          · rw [if_neg (nI_leN (by omega) (by omega) (by omega)), if_pos (by decide : (-4 : Int32) < 0)]
            exact ⟨d - 1, (nI e, nI (smE b e m 3), nI (e + 1), r3), (nI e, nI (smE b e m 3), nI (e + 1), o1, o2, o3), by omega, ⟨_, _, _, e + 1, r3, o1, o2, o3, by omega, Or.inr ⟨e, smE b e m 3, he, by omega, rfl, rfl, rfl⟩, rfl, rfl⟩, rfl, rfl⟩
          · rw [if_neg (nlt0 (by omega))]
            by_cases c2 : nI s ≤ nI (smE b e m 3)
            · rw [if_pos c2, if_pos c2]
              exact ⟨d - 1, (nI k, nI s, nI (e + 1), r3), (nI k, nI s, nI (e + 1), o1, o2, o3), by omega, ⟨_, _, _, e + 1, r3, o1, o2, o3, by omega, Or.inr ⟨k, s, hk, hs, rfl, rfl, rfl⟩, rfl, rfl⟩, rfl, rfl⟩
            · rw [if_neg c2, if_neg c2]
              exact ⟨d - 1, (nI e, nI (smE b e m 3), nI (e + 1), r3), (nI e, nI (smE b e m 3), nI (e + 1), o1, o2, o3), by omega, ⟨_, _, _, e + 1, r3, o1, o2, o3, by omega, Or.inr ⟨e, smE b e m 3, he, by omega, rfl, rfl, rfl⟩, rfl, rfl⟩, rfl, rfl⟩)
    3 F ((-4 : Int32), nI 18, nI 0, row) ((-4 : Int32), nI 0, nI 0, one, two, ways) (by omega) ⟨_, _, _, 0, row, one, two, ways, by omega, Or.inl ⟨rfl, rfl⟩, rfl, rfl⟩
  dsimp only at e1 e2 hq
  subst hq
  rw [e1, e2, bd2_s, bd4_s]
  exact ⟨_, _, _, _, _, rfl, rfl⟩
