/-! PURE: an item as the class reads and takes it -/
theorem tk_nx {S : Nat → Nat} {q : Nat} (h : S (nuP S q) = 44) : tkP S 44 (nuP S q) = nx S q := if_pos h
theorem nx_le {S : Nat → Nat} (hb : sB S) {q : Nat} (h : S (nuP S q) = 44) : nx S q ≤ 500 := by
  have := sB_in hb (p := nuP S q) (by omega); unfold nx; omega
theorem pair_of {S : Nat → Nat} (hb : sB S) {len : Int32} {bys : Nat → Int32} (hA : cA S len bys) {a m1 m2 q : Nat} (ha : a < 2 ^ 31) (h1 : m1 < 2 ^ 31) (h2 : m2 < 2 ^ 31) (hq : q ≤ 500) (nb : Nat → Int32) {δ : Type} (kn : Int32 → (Nat → Int32) → Option δ) (ky : Int32 → (Nat → Int32) → Option δ) :
    (¬ ok2 S a m1 m2 q ∧ ∃ pl nb', bd3 (D_X2_readNumber (nI 0) (nI a) (nI m1) (nI q) len bys nb) (fun r1 pl1 nb1 => if r1 = 0 then kn pl1 nb1 else bd2 (D_X2_passes (nI 44) pl1 len bys) (fun r2 pl2 => if r2 = 0 then kn pl2 nb1 else bd3 (D_X2_readNumber (nI 1) (nI a) (nI m2) pl2 len bys nb1) (fun r3 pl3 nb3 => if r3 = 0 then kn pl3 nb3 else ky pl3 nb3))) = kn pl nb') ∨
    (ok2 S a m1 m2 q ∧ bd3 (D_X2_readNumber (nI 0) (nI a) (nI m1) (nI q) len bys nb) (fun r1 pl1 nb1 => if r1 = 0 then kn pl1 nb1 else bd2 (D_X2_passes (nI 44) pl1 len bys) (fun r2 pl2 => if r2 = 0 then kn pl2 nb1 else bd3 (D_X2_readNumber (nI 1) (nI a) (nI m2) pl2 len bys nb1) (fun r3 pl3 nb3 => if r3 = 0 then kn pl3 nb3 else ky pl3 nb3))) = ky (nI (nuP S (nx S q))) (upd (upd nb 0 (nI (nuV S q))) 1 (nI (nuV S (nx S q))))) := by
  rw [readNumber_of hb hA (by decide) ha h1 hq, bd3_s, zb_if]
  by_cases c : nuO S q a m1
  · rw [if_pos c, if_pos c.1, passes_of hb hA (by decide) (nuP_le hb hq).2, bd2_s, zb_if]
    by_cases d : S (nuP S q) = 44
    · rw [if_pos d, tk_nx d, readNumber_of hb hA (by decide) ha h2 (nx_le hb d), bd3_s, zb_if]
      by_cases e : nuO S (nx S q) a m2
      · rw [if_pos e, if_pos e.1]
        exact Or.inr ⟨⟨c, d, e⟩, rfl⟩
      · rw [if_neg e]
        exact Or.inl ⟨fun z => e z.2.2, _, _, rfl⟩
    · rw [if_neg d]
      exact Or.inl ⟨fun z => d z.2.1, _, _, rfl⟩
  · rw [if_neg c]
    exact Or.inl ⟨fun z => c z.1, _, _, rfl⟩
theorem readNumbers_of {S : Nat → Nat} (hb : sB S) {len : Int32} {bys : Nat → Int32} (hA : cA S len bys) {m1 m2 q : Nat} (h1 : m1 < 2 ^ 31) (h2 : m2 < 2 ^ 31) (hq : q ≤ 500) (nb : Nat → Int32) :
    (¬ ok2 S 0 m1 m2 q ∧ ∃ pl nb', D_X2_readNumbers (nI m1) (nI m2) (nI q) len bys nb = some (nI 0, pl, nb')) ∨ (ok2 S 0 m1 m2 q ∧ D_X2_readNumbers (nI m1) (nI m2) (nI q) len bys nb = some (nI 1, nI (nuP S (nx S q)), upd (upd nb 0 (nI (nuV S q))) 1 (nI (nuV S (nx S q))))) :=
  pair_of hb hA (by decide) h1 h2 hq nb (fun pl nb => some (nI 0, pl, nb)) (fun pl nb => some (nI 1, pl, nb))
/-- what reading gives; ok: it goes well so far, e: the place behind -/
def rdT (ok : Prop) (e : Nat) (wd bt : Int32) (nb : Nat → Int32) (x : Option (Int32 × Int32 × Int32 × Int32 × (Nat → Int32))) : Prop :=
  (¬ ok ∧ ∃ pl wd' bt' nb', x = some (nI 0, pl, wd', bt', nb')) ∨ (ok ∧ x = some (nI 1, nI e, wd, bt, nb))
theorem rt_word {F : Nat} (hF : 600 ≤ F) {S : Nat → Nat} (hb : sB S) {len : Int32} {bys : Nat → Int32} (hA : cA S len bys) {most q : Nat} (h1 : most < 2 ^ 31) (hq : q ≤ 500) (wd bt : Int32) (nb : Nat → Int32) :
    rdT (okW S most q) (eW S q) (nI (enc (wl S (nx S (nx S q)) 6))) bt (upd (upd nb 0 (nI (nuV S q))) 1 (nI (nuV S (nx S q)))) (bd3 (D_X2_readNumbers (nI most) (nI 7) (nI q) len bys nb) (fun r_2 y_place_3 y_numbers_4 => (if r_2 = 0 then some ((nI 0), y_place_3, wd, bt, y_numbers_4) else bd2 (D_X2_passes (nI 44) y_place_3 len bys) (fun r_7 y_place_8 => (if r_7 = 0 then some ((nI 0), y_place_8, wd, bt, y_numbers_4) else bd3 (D_X2_readWord F y_place_8 wd len bys) (fun r_11 y_place_12 y_word_13 => (if r_11 = 0 then some ((nI 0), y_place_12, y_word_13, bt, y_numbers_4) else some ((nI 1), y_place_12, y_word_13, bt, y_numbers_4)))))))) := by
  rcases readNumbers_of hb hA h1 (m2 := 7) (by decide) hq nb with ⟨n, pl, nb', e⟩ | ⟨y, e⟩
  · rw [e, bd3_s, if_n0]
    exact Or.inl ⟨fun z => n z.1, _, _, _, _, rfl⟩
  · rw [e, bd3_s, if_n1, passes_of hb hA (by decide) (nuP_le hb (nx_le hb y.2.1)).2, bd2_s, zb_if]
    by_cases d : S (nuP S (nx S q)) = 44
    · rw [if_pos d, tk_nx d, readWord_of hF hb hA (nx_le hb d), bd3_s, zb_if]
      by_cases g : wl S (nx S (nx S q)) 6 ≠ []
      · rw [if_pos g]
        exact Or.inr ⟨⟨y, d, g⟩, rfl⟩
      · rw [if_neg g]
        exact Or.inl ⟨fun z => g z.2.2, _, _, _, _, rfl⟩
    · rw [if_neg d]
      exact Or.inl ⟨fun z => d z.2.1, _, _, _, _, rfl⟩
theorem eqs {a b : Nat} (ha : a < 2 ^ 31) (hb : b < 2 ^ 31) (h : a ≠ b) : ¬ nI a = nI b := by rw [nI_eq ha hb]; exact h
theorem rt101 {F : Nat} (hF : 600 ≤ F) {S : Nat → Nat} (hb : sB S) {len : Int32} {bys : Nat → Int32} (hA : cA S len bys) {q : Nat} (hq : q ≤ 500) (wd bt : Int32) (nb : Nat → Int32) : rdT (okW S 2 q) (eW S q) (nI (enc (wl S (nx S (nx S q)) 6))) bt (upd (upd nb 0 (nI (nuV S q))) 1 (nI (nuV S (nx S q)))) (D_X2_readTold F (nI q) (nI 101) wd bt len bys nb) :=
  rt_word hF hb hA (by decide) hq wd bt nb
theorem rt119 {F : Nat} (hF : 600 ≤ F) {S : Nat → Nat} (hb : sB S) {len : Int32} {bys : Nat → Int32} (hA : cA S len bys) {q : Nat} (hq : q ≤ 500) (wd bt : Int32) (nb : Nat → Int32) : rdT (okW S 1 q) (eW S q) (nI (enc (wl S (nx S (nx S q)) 6))) bt (upd (upd nb 0 (nI (nuV S q))) 1 (nI (nuV S (nx S q)))) (D_X2_readTold F (nI q) (nI 119) wd bt len bys nb) := by
  unfold D_X2_readTold
  rw [if_neg (by decide), if_neg (by decide), if_neg (by decide), if_neg (by decide), if_neg (by decide), if_neg (by decide), if_neg (by decide), if_neg (by decide), if_neg (by decide), if_pos rfl]
  exact rt_word hF hb hA (by decide) hq wd bt nb
theorem rt103 {F : Nat} {S : Nat → Nat} (hb : sB S) {len : Int32} {bys : Nat → Int32} (hA : cA S len bys) {q : Nat} (hq : q ≤ 500) (wd bt : Int32) (nb : Nat → Int32) : rdT (nuO S q 1 99) (nuP S q) wd bt (upd nb 0 (nI (nuV S q))) (D_X2_readTold F (nI q) (nI 103) wd bt len bys nb) := by
  unfold D_X2_readTold
  rw [if_neg (by decide), if_pos rfl, readNumber_of hb hA (by decide) (by decide) (by decide) hq, bd3_s, cz_zb]
  by_cases c : nuO S q 1 99
  · rw [zb_t c, if_pos c.1]; exact Or.inr ⟨c, rfl⟩
  · rw [zb_f c]; exact Or.inl ⟨c, _, _, _, _, rfl⟩
theorem rt111 {F : Nat} {S : Nat → Nat} (hb : sB S) {len : Int32} {bys : Nat → Int32} (hA : cA S len bys) {q : Nat} (hq : q ≤ 500) (wd bt : Int32) (nb : Nat → Int32) : rdT (nuO S q 0 10) (nuP S q) wd bt (upd nb 0 (nI (nuV S q))) (D_X2_readTold F (nI q) (nI 111) wd bt len bys nb) := by
  unfold D_X2_readTold
  rw [if_neg (by decide), if_neg (by decide), if_neg (by decide), if_neg (by decide), if_neg (by decide), if_pos rfl, readNumber_of hb hA (by decide) (by decide) (by decide) hq, bd3_s, cz_zb]
  by_cases c : nuO S q 0 10
  · rw [zb_t c, if_pos c.1]; exact Or.inr ⟨c, rfl⟩
  · rw [zb_f c]; exact Or.inl ⟨c, _, _, _, _, rfl⟩
theorem rt107 {F : Nat} {S : Nat → Nat} (hb : sB S) {len : Int32} {bys : Nat → Int32} (hA : cA S len bys) {q : Nat} (hq : q ≤ 500) (wd bt : Int32) (nb : Nat → Int32) : rdT (ok2 S 0 10 10 q) (nuP S (nx S q)) wd bt (upd (upd nb 0 (nI (nuV S q))) 1 (nI (nuV S (nx S q)))) (D_X2_readTold F (nI q) (nI 107) wd bt len bys nb) := by
  unfold D_X2_readTold
  rw [if_neg (by decide), if_neg (by decide), if_neg (by decide), if_pos rfl]
  rcases readNumbers_of hb hA (m1 := 10) (m2 := 10) (by decide) (by decide) hq nb with ⟨n, pl, nb', e⟩ | ⟨y, e⟩
  · rw [e, bd3_s, cz_0]; exact Or.inl ⟨n, _, _, _, _, rfl⟩
  · rw [e, bd3_s, cz_1]; exact Or.inr ⟨y, rfl⟩
theorem rt110 {F : Nat} {S : Nat → Nat} (hb : sB S) {len : Int32} {bys : Nat → Int32} (hA : cA S len bys) {q : Nat} (hq : q ≤ 500) (wd bt : Int32) (nb : Nat → Int32) : rdT (ok2 S 1 8 8 q) (nuP S (nx S q)) wd bt (upd (upd nb 0 (nI (nuV S q))) 1 (nI (nuV S (nx S q)))) (D_X2_readTold F (nI q) (nI 110) wd bt len bys nb) := by
  unfold D_X2_readTold
  rw [if_neg (by decide), if_neg (by decide), if_neg (by decide), if_neg (by decide), if_pos rfl]
  rcases pair_of hb hA (a := 1) (m1 := 8) (m2 := 8) (by decide) (by decide) (by decide) hq nb (fun pl nb => some (nI 0, pl, wd, bt, nb)) (fun pl nb => some (nI 1, pl, wd, bt, nb)) with ⟨n, pl, nb', e⟩ | ⟨y, e⟩
  · rw [e]; exact Or.inl ⟨n, _, _, _, _, rfl⟩
  · rw [e]; exact Or.inr ⟨y, rfl⟩
theorem rt106 {F : Nat} {S : Nat → Nat} (hb : sB S) {len : Int32} {bys : Nat → Int32} (hA : cA S len bys) {q : Nat} (hq : q ≤ 500) (wd bt : Int32) (nb : Nat → Int32) : rdT (okJ S q) (nuP S (nx S (nx S q))) wd bt (upd (upd (upd nb 0 (nI (nuV S q))) 1 (nI (nuV S (nx S q)))) 2 (nI (nuV S (nx S (nx S q))))) (D_X2_readTold F (nI q) (nI 106) wd bt len bys nb) := by
  unfold D_X2_readTold
  rw [if_neg (by decide), if_neg (by decide), if_pos rfl]
  unfold D_X2_readJoined
  rcases pair_of hb hA (a := 0) (m1 := 7) (m2 := 7) (by decide) (by decide) (by decide) hq nb (fun pl nb => some (nI 0, pl, nb)) (fun pl nb => bd2 (D_X2_passes (nI 44) pl len bys) (fun r_15 y_place_16 => (if r_15 = 0 then some ((nI 0), y_place_16, nb) else bd3 (D_X2_readNumber (nI 2) (nI 0) (nI 7) y_place_16 len bys nb) (fun r_19 y_place_20 y_numbers_21 => (if r_19 = 0 then some ((nI 0), y_place_20, y_numbers_21) else bd1 (D_X2_number (nI 0) y_numbers_21) (fun r_24 => bd1 (D_X2_number (nI 1) y_numbers_21) (fun r_26 => (if r_24 = r_26 then some ((nI 0), y_place_20, y_numbers_21) else bd1 (D_X2_number (nI 0) y_numbers_21) (fun r_29 => bd1 (D_X2_number (nI 2) y_numbers_21) (fun r_31 => (if r_29 = r_31 then some ((nI 0), y_place_20, y_numbers_21) else bd1 (D_X2_number (nI 1) y_numbers_21) (fun r_34 => bd1 (D_X2_number (nI 2) y_numbers_21) (fun r_36 => (if r_34 = r_36 then some ((nI 0), y_place_20, y_numbers_21) else some ((nI 1), y_place_20, y_numbers_21))))))))))))))) with ⟨n, pl, nb', e⟩ | ⟨y, e⟩
  · rw [e, bd3_s, cz_0]; exact Or.inl ⟨fun z => n z.1, _, _, _, _, rfl⟩
  · rw [e, passes_of hb hA (by decide) (nuP_le hb (nx_le hb y.2.1)).2, bd2_s, zb_if]
    by_cases d : S (nuP S (nx S q)) = 44
    · rw [if_pos d, tk_nx d, readNumber_of hb hA (by decide) (by decide) (by decide) (nx_le hb d), bd3_s, zb_if]
      by_cases g : nuO S (nx S (nx S q)) 0 7
      · have v1 := nuV_lt hb _ y.1.1
        have v2 := nuV_lt hb _ y.2.2.1
        have v3 := nuV_lt hb _ g.1
        rw [if_pos g, if_pos g.1]
        simp only [num_k (show 0 < 3 by decide), num_k (show 1 < 3 by decide), num_k (show 2 < 3 by decide), bd1_s]
        have u0 : upd (upd (upd nb 0 (nI (nuV S q))) 1 (nI (nuV S (nx S q)))) 2 (nI (nuV S (nx S (nx S q)))) 0 = nI (nuV S q) := by rw [pk_un (by decide), pk_un (by decide), pk_us]
        have u1 : upd (upd (upd nb 0 (nI (nuV S q))) 1 (nI (nuV S (nx S q)))) 2 (nI (nuV S (nx S (nx S q)))) 1 = nI (nuV S (nx S q)) := by rw [pk_un (by decide), pk_us]
        have u2 : upd (upd (upd nb 0 (nI (nuV S q))) 1 (nI (nuV S (nx S q)))) 2 (nI (nuV S (nx S (nx S q)))) 2 = nI (nuV S (nx S (nx S q))) := pk_us
        rw [u0, u1, u2]
        by_cases z1 : nuV S q = nuV S (nx S q)
        · rw [if_pos (by rw [z1]), bd3_s, cz_0]; exact Or.inl ⟨fun z => z.2.2.2.1 z1, _, _, _, _, rfl⟩
        · rw [if_neg (eqs (by omega) (by omega) z1)]
          by_cases z2 : nuV S q = nuV S (nx S (nx S q))
          · rw [if_pos (by rw [z2]), bd3_s, cz_0]; exact Or.inl ⟨fun z => z.2.2.2.2.1 z2, _, _, _, _, rfl⟩
          · rw [if_neg (eqs (by omega) (by omega) z2)]
            by_cases z3 : nuV S (nx S q) = nuV S (nx S (nx S q))
            · rw [if_pos (by rw [z3]), bd3_s, cz_0]; exact Or.inl ⟨fun z => z.2.2.2.2.2 z3, _, _, _, _, rfl⟩
            · rw [if_neg (eqs (by omega) (by omega) z3), bd3_s, cz_1]; exact Or.inr ⟨⟨y, d, g, z1, z2, z3⟩, rfl⟩
      · rw [if_neg g, bd3_s, cz_0]
        exact Or.inl ⟨fun z => g z.2.2.1, _, _, _, _, rfl⟩
    · rw [if_neg d, bd3_s, cz_0]
      exact Or.inl ⟨fun z => d z.2.1, _, _, _, _, rfl⟩
theorem rt114 {F : Nat} (hF : 600 ≤ F) {S : Nat → Nat} (hb : sB S) {len : Int32} {bys : Nat → Int32} (hA : cA S len bys) {q : Nat} (hq : q ≤ 500) (wd bt : Int32) (nb : Nat → Int32) : rdT (okR S q) (q + (wl S q 6).length) (nI (enc (wl S q 6))) bt nb (D_X2_readTold F (nI q) (nI 114) wd bt len bys nb) := by
  unfold D_X2_readTold
  have ok := okw_wl S q
  have hl := ok.1
  rw [if_neg (by decide), if_neg (by decide), if_neg (by decide), if_neg (by decide), if_neg (by decide), if_neg (by decide), if_pos rfl, readWord_of hF hb hA hq, bd3_s, zb_if]
  by_cases c : wl S q 6 ≠ []
  · rw [if_pos c, length_enc ok, bd1_s]
    by_cases d : (wl S q 6).length = 2
    · rw [if_pos (by rw [d]), soundAt_enc ok (by decide), bd1_s, soundAt_enc ok (by decide), bd1_s]
      have s0 := ok.2 _ (getD_mem (w := wl S q 6) (k := 0) (by omega))
      have s1 := ok.2 _ (getD_mem (w := wl S q 6) (k := 1) (by omega))
      by_cases e : (wl S q 6).getD 0 0 = (wl S q 6).getD 1 0
      · rw [if_pos (by rw [e])]; exact Or.inl ⟨fun z => z.2 e, _, _, _, _, rfl⟩
      · rw [if_neg (eqs (by omega) (by omega) e)]; exact Or.inr ⟨⟨d, e⟩, rfl⟩
    · rw [if_neg (eqs (by omega) (by decide) d)]; exact Or.inl ⟨fun z => d z.1, _, _, _, _, rfl⟩
  · rw [if_neg c]
    exact Or.inl ⟨fun z => c (fun n => by have z1 := z.1; rw [n] at z1; exact absurd z1 (by decide)), _, _, _, _, rfl⟩
theorem rt115 {F : Nat} (hF : 600 ≤ F) {S : Nat → Nat} (hb : sB S) {len : Int32} {bys : Nat → Int32} (hA : cA S len bys) {q : Nat} (hq : q ≤ 500) (wd bt : Int32) (nb : Nat → Int32) : rdT (okSn S q) (rs S 97 16 16 (nx S q) 0 0).2 wd (nI (rs S 97 16 16 (nx S q) 0 0).1) (upd nb 0 (nI (nuV S q))) (D_X2_readTold F (nI q) (nI 115) wd bt len bys nb) := by
  unfold D_X2_readTold
  rw [if_neg (by decide), if_neg (by decide), if_neg (by decide), if_neg (by decide), if_neg (by decide), if_neg (by decide), if_neg (by decide), if_pos rfl, readNumber_of hb hA (by decide) (by decide) (by decide) hq, bd3_s, zb_if]
  by_cases c : nuO S q 0 1
  · rw [if_pos c, if_pos c.1, passes_of hb hA (by decide) (nuP_le hb hq).2, bd2_s, zb_if]
    by_cases d : S (nuP S q) = 44
    · rw [if_pos d, tk_nx d, readRising_of hF hb hA (by decide) (by decide) (by decide) (nx_le hb d), bd3_s, zb_if]
      by_cases e : (rs S 97 16 16 (nx S q) 0 0).1 ≠ 0
      · rw [if_pos e]; exact Or.inr ⟨⟨c, d, e⟩, rfl⟩
      · rw [if_neg e]; exact Or.inl ⟨fun z => e z.2.2, _, _, _, _, rfl⟩
    · rw [if_neg d]; exact Or.inl ⟨fun z => d z.2.1, _, _, _, _, rfl⟩
  · rw [if_neg c]; exact Or.inl ⟨fun z => c z.1, _, _, _, _, rfl⟩
theorem rt117 {F : Nat} (hF : 600 ≤ F) {S : Nat → Nat} (hb : sB S) {len : Int32} {bys : Nat → Int32} (hA : cA S len bys) {q : Nat} (hq : q ≤ 500) (wd bt : Int32) (nb : Nat → Int32) : rdT ((rs S 48 8 8 q 0 0).1 ≠ 0) (rs S 48 8 8 q 0 0).2 wd (nI (rs S 48 8 8 q 0 0).1) nb (D_X2_readTold F (nI q) (nI 117) wd bt len bys nb) := by
  unfold D_X2_readTold
  rw [if_neg (by decide), if_neg (by decide), if_neg (by decide), if_neg (by decide), if_neg (by decide), if_neg (by decide), if_neg (by decide), if_neg (by decide), if_pos rfl, readRising_of hF hb hA (by decide) (by decide) (by decide) hq, bd3_s, cz_zb]
  by_cases e : (rs S 48 8 8 q 0 0).1 ≠ 0
  · rw [zb_t e]; exact Or.inr ⟨e, rfl⟩
  · rw [zb_f e]; exact Or.inl ⟨e, _, _, _, _, rfl⟩
theorem rtno {F : Nat} {c : Nat} (hc : c < 256) (h : c ≠ 101 ∧ c ≠ 103 ∧ c ≠ 106 ∧ c ≠ 107 ∧ c ≠ 110 ∧ c ≠ 111 ∧ c ≠ 114 ∧ c ≠ 115 ∧ c ≠ 117 ∧ c ≠ 119) (pl wd bt len : Int32) (bys nb : Nat → Int32) : D_X2_readTold F pl (nI c) wd bt len bys nb = some (nI 0, pl, wd, bt, nb) := by
  obtain ⟨h1, h2, h3, h4, h5, h6, h7, h8, h9, h10⟩ := h
  unfold D_X2_readTold
  rw [if_neg (eqs (by omega) (by decide) h1), if_neg (eqs (by omega) (by decide) h2), if_neg (eqs (by omega) (by decide) h3), if_neg (eqs (by omega) (by decide) h4), if_neg (eqs (by omega) (by decide) h5), if_neg (eqs (by omega) (by decide) h6), if_neg (eqs (by omega) (by decide) h7), if_neg (eqs (by omega) (by decide) h8), if_neg (eqs (by omega) (by decide) h9), if_neg (eqs (by omega) (by decide) h10)]
/-- the whole item read, with its end sign -/
theorem readAt_of {F : Nat} {S : Nat → Nat} (hb : sB S) {len : Int32} {bys : Nat → Int32} (hA : cA S len bys) {p : Nat} (hp : p < 500) {ok : Prop} {e : Nat} (he : ok → e ≤ 500) {wd bt : Int32} {nb : Nat → Int32} {wd0 bt0 : Int32} {nb0 : Nat → Int32} (v1 v2 : Int32) (h : rdT ok e wd bt nb (D_X2_readTold F (nI (p + 1)) (nI (S p)) wd0 bt0 len bys nb0)) :
    (¬ (ok ∧ S e = 59) ∧ ∃ pl wd' bt' nb', D_X2_readAt F (nI p) v1 v2 wd0 bt0 len bys nb0 = some (nI 0, pl, nI (S p), wd', bt', nb')) ∨ ((ok ∧ S e = 59) ∧ D_X2_readAt F (nI p) v1 v2 wd0 bt0 len bys nb0 = some (nI 1, nI (e + 1), nI (S p), wd, bt, nb)) := by
  unfold D_X2_readAt
  rw [hA p (by omega), bd1_s, nI_add, nm_s]
  rcases h with ⟨n, pl, wd', bt', nb', x⟩ | ⟨y, x⟩
  · rw [x, bd5_s, if_n0]
    exact Or.inl ⟨fun z => n z.1, _, _, _, _, rfl⟩
  · rw [x, bd5_s, if_n1, passes_of hb hA (by decide) (he y), bd2_s, zb_if]
    by_cases d : S e = 59
    · rw [if_pos d]
      have : tkP S 59 e = e + 1 := if_pos d
      rw [this]
      exact Or.inr ⟨⟨y, d⟩, rfl⟩
    · rw [if_neg d]
      exact Or.inl ⟨fun z => d z.2, _, _, _, _, rfl⟩
