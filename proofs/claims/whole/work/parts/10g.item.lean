/-! PURE: an item as the reference reads it, the rest -/
theorem mo_joinItem {F : Nat} (hF : 600 ≤ F) {S : Nat → Nat} (hb : sB S) {size : Int32} {text : Nat → Int32} (hM : mA S size text) {q : Nat} (hq : q ≤ 500) {b : BT} (ok : okB b) {read : Nat → Int32} (h : moB b read) :
    ∃ r at' read', D_X10_joinItem F size (nI q) text read = some (r, at', read') ∧ cz r (some (r, at', read')) = some (r, at', read') ∧ mS S (if bJ b < 8 ∧ okJ S q ∧ S (nuP S (nx S (nx S q))) = 59 then some (nuP S (nx S (nx S q)) + 1, setJ b (nuV S q) (nuV S (nx S q)) (nuV S (nx S (nx S q)))) else none) r at' read' := by
  unfold D_X10_joinItem
  obtain ⟨m1, m2, m3, m4, m5, m6, m7, m8, m9, m10, m11⟩ := h
  have hJ := ok.2.2.2.2.2.2.2.1.1
  rw [ck_n (by decide) (by decide), nI_clamp (by decide), m8]
  by_cases c8 : bJ b = 8
  · rw [if_pos (by rw [c8])]; exact ⟨_, _, _, rfl, cz_0, mS_no (fun z => by omega)⟩
  · rw [if_neg (eqs (by omega) (by decide) c8), ck_n (by decide) (by decide), pk_mul, nI_add, nm_s]
    rw [lpg_s _ _ (by omega : 0 < F), b_X10_joinItem_32, if_neg (by decide), number_of hF hb hM (by decide) (by decide) hq, bd2_s, nI_add, ck_n (by omega) (by decide), ck_n (by omega) (by decide), nI_clamp (by omega), pk_us]
    by_cases c : nuO S q 0 7
    · have v1 := nuV_lt hb _ c.1
      rw [if_pos c, if_neg (nlt0 (by omega)), if_neg (by decide), takes_of hb hM (by decide) (by decide) (nuP_le hb hq).2, bd2_s, zb_if]
      by_cases d : S (nuP S q) = 44
      · rw [if_pos d, show tkP S 44 (nuP S q) = nx S q from tk_nx d, nI_add, nm_s]
        rw [lpg_s _ _ (by omega : 0 < F - 1), b_X10_joinItem_32, if_neg (by decide), number_of hF hb hM (by decide) (by decide) (nx_le hb d), bd2_s, nI_add, ck_n (by omega) (by decide), ck_n (by omega) (by decide), nI_clamp (by omega), pk_us]
        by_cases e : nuO S (nx S q) 0 7
        · have v2 := nuV_lt hb _ e.1
          rw [if_pos e, if_neg (nlt0 (by omega)), if_neg (by decide), takes_of hb hM (by decide) (by decide) (nuP_le hb (nx_le hb d)).2, bd2_s, zb_if]
          by_cases g : S (nuP S (nx S q)) = 44
          · rw [if_pos g, show tkP S 44 (nuP S (nx S q)) = nx S (nx S q) from tk_nx g, nI_add, nm_s]
            rw [lpg_s _ _ (by omega : 0 < F - 1 - 1), b_X10_joinItem_32, if_neg (by decide), number_of hF hb hM (by decide) (by decide) (nx_le hb g), bd2_s, nI_add, ck_n (by omega) (by decide), ck_n (by omega) (by decide), nI_clamp (by omega), pk_us]
            by_cases t : nuO S (nx S (nx S q)) 0 7
            · have v3 := nuV_lt hb _ t.1
              rw [if_pos t, if_neg (nlt0 (by omega)), if_pos (by decide), nI_add, nm_s]
              rw [lpg_s _ _ (by omega : 0 < F - 1 - 1 - 1), b_X10_joinItem_32, if_pos (by decide), ck_n (by decide) (by decide), nI_clamp (by decide), pk_un (by omega), pk_un (by omega), pk_un (by omega), m8, nI_add, nm_s, ck_n (by decide) (by decide), ck_n (by omega) (by decide), nI_add, ck_n (by omega) (by decide), nI_clamp (by omega), nI_clamp (by omega), ck_n (by omega) (by decide), nI_add, ck_n (by omega) (by decide), nI_clamp (by omega), ck_n (by omega) (by decide), ck_n (by omega) (by decide)]
              have key : ∀ f : Nat → Int32, f = upd (upd (upd (upd read (305 + 3 * bJ b + 0) (nI (nuV S q))) (305 + 3 * bJ b + (0 + 1)) (nI (nuV S (nx S q)))) (305 + 3 * bJ b + (0 + 1 + 1)) (nI (nuV S (nx S (nx S q))))) 304 (nI (bJ b + 1)) → f (305 + 3 * bJ b) = nI (nuV S q) ∧ f (305 + 3 * bJ b + 1) = nI (nuV S (nx S q)) ∧ f (305 + 3 * bJ b + 2) = nI (nuV S (nx S (nx S q))) ∧ f 304 = nI (bJ b + 1) ∧ ∀ j, (j < 304 ∨ (305 ≤ j ∧ j < 305 + 3 * bJ b) ∨ 308 + 3 * bJ b ≤ j) → f j = read j := by
                rintro f rfl
                refine ⟨?_, ?_, ?_, pk_us, fun j hj => ?_⟩
                · rw [pk_un (by omega), pk_un (by omega), pk_un (by omega), Nat.add_zero, pk_us]
                · rw [pk_un (by omega), pk_un (by omega), show 305 + 3 * bJ b + 1 = 305 + 3 * bJ b + (0 + 1) from rfl, pk_us]
                · rw [pk_un (by omega), show 305 + 3 * bJ b + 2 = 305 + 3 * bJ b + (0 + 1 + 1) from rfl, pk_us]
                · rw [pk_un (by omega), pk_un (by omega), pk_un (by omega), pk_un (by omega)]
              obtain ⟨f0, f1, f2, f3, f4⟩ := key _ rfl
              generalize upd (upd (upd (upd read (305 + 3 * bJ b + 0) (nI (nuV S q))) (305 + 3 * bJ b + (0 + 1)) (nI (nuV S (nx S q)))) (305 + 3 * bJ b + (0 + 1 + 1)) (nI (nuV S (nx S (nx S q))))) 304 (nI (bJ b + 1)) = f at f0 f1 f2 f3 f4 ⊢
              rw [f0, f1, f2]
              by_cases z1 : nuV S q = nuV S (nx S q)
              · rw [if_pos (by rw [z1])]; exact ⟨_, _, _, rfl, cz_0, mS_no (fun z => z.2.1.2.2.2.1 z1)⟩
              · rw [if_neg (eqs (by omega) (by omega) z1)]
                by_cases z2 : nuV S q = nuV S (nx S (nx S q))
                · rw [if_pos (by rw [z2])]; exact ⟨_, _, _, rfl, cz_0, mS_no (fun z => z.2.1.2.2.2.2.1 z2)⟩
                · rw [if_neg (eqs (by omega) (by omega) z2)]
                  by_cases z3 : nuV S (nx S q) = nuV S (nx S (nx S q))
                  · rw [if_pos (by rw [z3])]; exact ⟨_, _, _, rfl, cz_0, mS_no (fun z => z.2.1.2.2.2.2.2 z3)⟩
                  · rw [if_neg (eqs (by omega) (by omega) z3)]
                    refine ⟨_, _, _, rfl, cz_1, ?_⟩
                    have hm : moB (setJ b (nuV S q) (nuV S (nx S q)) (nuV S (nx S (nx S q)))) f := by
                      refine ⟨fun j hj => isW_cong (m1 j hj) (fun k hk => f4 _ (by omega)), fun p hp => ?_, fun x hx => ?_, fun p hp => ?_, fun p hp => ?_, ?_, ?_, ?_, fun k hk => ?_, ?_, fun k hk => ?_⟩
                      · rw [f4 _ (by omega)]; exact m2 p hp
                      · rw [f4 _ (by omega)]; exact m3 x hx
                      · rw [f4 _ (by omega)]; exact m4 p hp
                      · rw [f4 _ (by omega)]; exact m5 p hp
                      · rw [f4 _ (by omega)]; exact m6
                      · rw [f4 _ (by omega)]; exact m7
                      · exact f3
                      · have hk : k < bJ b + 1 := hk
                        show f (305 + 3 * k) = nI (fu (bJm b) _ _ k) ∧ f (306 + 3 * k) = nI (fu (bJa b) _ _ k) ∧ f (307 + 3 * k) = nI (fu (bJb b) _ _ k)
                        by_cases z : k = bJ b
                        · rw [z, fu_s, fu_s, fu_s, f0, show 306 + 3 * bJ b = 305 + 3 * bJ b + 1 by omega, f1, show 307 + 3 * bJ b = 305 + 3 * bJ b + 2 by omega, f2]
                          exact ⟨rfl, rfl, rfl⟩
                        · rw [fu_n z, fu_n z, fu_n z, f4 _ (by omega), f4 _ (by omega), f4 _ (by omega)]; exact m9 k (by omega)
                      · rw [f4 _ (by omega)]; exact m10
                      · rw [f4 _ (by omega)]; exact m11 k hk
                    have le := (nuP_le hb (nx_le hb g)).2
                    have hok : okJ S q := ⟨⟨c, d, e⟩, g, t, z1, z2, z3⟩
                    by_cases x : S (nuP S (nx S (nx S q))) = 59
                    · rw [if_pos ⟨by omega, hok, x⟩]; exact Or.inr ⟨_, _, rfl, rfl, rfl, le, x, hm⟩
                    · rw [if_neg (fun z => x z.2.2)]; exact Or.inl ⟨rfl, Or.inr ⟨rfl, _, rfl, le, x⟩⟩
            · rw [if_neg t, if_pos m1_lt0]; exact ⟨_, _, _, rfl, cz_0, mS_no (fun z => t z.2.1.2.2.1)⟩
          · rw [if_neg g]; exact ⟨_, _, _, rfl, cz_0, mS_no (fun z => g z.2.1.2.1)⟩
        · rw [if_neg e, if_pos m1_lt0]; exact ⟨_, _, _, rfl, cz_0, mS_no (fun z => e z.2.1.1.2.2)⟩
      · rw [if_neg d]; exact ⟨_, _, _, rfl, cz_0, mS_no (fun z => d z.2.1.1.2.1)⟩
    · rw [if_neg c, if_pos m1_lt0]; exact ⟨_, _, _, rfl, cz_0, mS_no (fun z => c z.2.1.1.1)⟩
/-- one value of the array is set anew -/
theorem moB_pair {b b' : BT} {l : Nat → Int32} (h : moB b l) {to x y : Nat} (hto : to = 298 ∨ to = 300) (hb' : b' = if to = 298 then setM b x y else setT b x y) : moB b' (upd (upd l to (nI x)) (to + 1) (nI y)) := by
  have key : ∀ j, j ≠ to → j ≠ to + 1 → upd (upd l to (nI x)) (to + 1) (nI y) j = l j := fun j h1 h2 => by rw [pk_un h2, pk_un h1]
  obtain ⟨m1, m2, m3, m4, m5, m6, m7, m8, m9, m10, m11⟩ := h
  rcases hto with rfl | rfl
  · rw [if_pos rfl] at hb'
    subst hb'
    refine ⟨fun j hj => isW_cong (m1 j hj) (fun k hk => key _ (by omega) (by omega)), fun p hp => ?_, fun x hx => ?_, fun p hp => ?_, fun p hp => ?_, ?_, ?_, ?_, fun k hk => ?_, ?_, fun k hk => ?_⟩
    · rw [key _ (by omega) (by omega)]; exact m2 p hp
    · rw [key _ (by omega) (by omega)]; exact m3 x hx
    · show _ = nI (fu (fu (bM b) 0 x) 1 y p)
      by_cases z : p = 1
      · rw [z, fu_s, pk_us]
      · rw [fu_n z, show p = 0 by omega, fu_s, pk_un (by decide), Nat.add_zero, pk_us]
    · rw [key _ (by omega) (by omega)]; exact m5 p hp
    · rw [key _ (by omega) (by omega)]; exact m6
    · rw [key _ (by omega) (by omega)]; exact m7
    · rw [key _ (by omega) (by omega)]; exact m8
    · rw [key _ (by omega) (by omega), key _ (by omega) (by omega), key _ (by omega) (by omega)]; exact m9 k hk
    · rw [key _ (by omega) (by omega)]; exact m10
    · rw [key _ (by omega) (by omega)]; exact m11 k hk
  · rw [if_neg (by decide)] at hb'
    subst hb'
    refine ⟨fun j hj => isW_cong (m1 j hj) (fun k hk => key _ (by omega) (by omega)), fun p hp => ?_, fun x hx => ?_, fun p hp => ?_, fun p hp => ?_, ?_, ?_, ?_, fun k hk => ?_, ?_, fun k hk => ?_⟩
    · rw [key _ (by omega) (by omega)]; exact m2 p hp
    · rw [key _ (by omega) (by omega)]; exact m3 x hx
    · rw [key _ (by omega) (by omega)]; exact m4 p hp
    · show _ = nI (fu (fu (bT b) 0 x) 1 y p)
      by_cases z : p = 1
      · rw [z, fu_s, pk_us]
      · rw [fu_n z, show p = 0 by omega, fu_s, pk_un (by decide), Nat.add_zero, pk_us]
    · rw [key _ (by omega) (by omega)]; exact m6
    · rw [key _ (by omega) (by omega)]; exact m7
    · rw [key _ (by omega) (by omega)]; exact m8
    · rw [key _ (by omega) (by omega), key _ (by omega) (by omega), key _ (by omega) (by omega)]; exact m9 k hk
    · rw [key _ (by omega) (by omega)]; exact m10
    · rw [key _ (by omega) (by omega)]; exact m11 k hk
theorem moB_one {b b' : BT} {l : Nat → Int32} (h : moB b l) {to x : Nat} (hto : to = 302 ∨ to = 303) (hb' : b' = if to = 302 then setS b x else setG b x) : moB b' (upd l to (nI x)) := by
  obtain ⟨m1, m2, m3, m4, m5, m6, m7, m8, m9, m10, m11⟩ := h
  rcases hto with rfl | rfl
  · rw [if_pos rfl] at hb'
    subst hb'
    refine ⟨fun j hj => isW_cong (m1 j hj) (fun k hk => pk_un (by omega)), fun p hp => ?_, fun x hx => ?_, fun p hp => ?_, fun p hp => ?_, pk_us, ?_, ?_, fun k hk => ?_, ?_, fun k hk => ?_⟩
    · rw [pk_un (by omega)]; exact m2 p hp
    · rw [pk_un (by omega)]; exact m3 x hx
    · rw [pk_un (by omega)]; exact m4 p hp
    · rw [pk_un (by omega)]; exact m5 p hp
    · rw [pk_un (by omega)]; exact m7
    · rw [pk_un (by omega)]; exact m8
    · rw [pk_un (by omega), pk_un (by omega), pk_un (by omega)]; exact m9 k hk
    · rw [pk_un (by omega)]; exact m10
    · rw [pk_un (by omega)]; exact m11 k hk
  · rw [if_neg (by decide)] at hb'
    subst hb'
    refine ⟨fun j hj => isW_cong (m1 j hj) (fun k hk => pk_un (by omega)), fun p hp => ?_, fun x hx => ?_, fun p hp => ?_, fun p hp => ?_, ?_, pk_us, ?_, fun k hk => ?_, ?_, fun k hk => ?_⟩
    · rw [pk_un (by omega)]; exact m2 p hp
    · rw [pk_un (by omega)]; exact m3 x hx
    · rw [pk_un (by omega)]; exact m4 p hp
    · rw [pk_un (by omega)]; exact m5 p hp
    · rw [pk_un (by omega)]; exact m6
    · rw [pk_un (by omega)]; exact m8
    · rw [pk_un (by omega), pk_un (by omega), pk_un (by omega)]; exact m9 k hk
    · rw [pk_un (by omega)]; exact m10
    · rw [pk_un (by omega)]; exact m11 k hk
theorem mo_step {F : Nat} (hF : 600 ≤ F) {S : Nat → Nat} (hb : sB S) {size : Int32} {text : Nat → Int32} (hM : mA S size text) {p : Nat} (hp : p < 500) {b : BT} (ok : okB b) {read : Nat → Int32} (h : moB b read) :
    ∃ r at' read', D_X10_item F size (nI p) text read = some (r, at', read') ∧ mS S (step S b p) r at' read' := by
  have hq : p + 1 ≤ 500 := by omega
  obtain ⟨x, ex, hx⟩ := hM p (by omega)
  unfold D_X10_item
  rw [ex, bd1_s, nI_add, nm_s]
  by_cases c101 : S p = 101
  · rw [sm_nI hx (by omega), c101, if_pos rfl, st101 c101]
    obtain ⟨r, a, rd, e, z, m⟩ := mo_wordItem hF hb hM hq h (i0 := 16) (most := 2) (by decide)
    rw [show nI 112 = nI (7 * 16) from rfl, e, bd3_s, z]
    exact ⟨_, _, _, rfl, m⟩
  by_cases c103 : S p = 103
  · rw [sm_nI hx (by omega), c103, if_neg (by decide), if_pos rfl, st103 c103]
    obtain ⟨r, a, rd, e, z, m⟩ := mo_oneItem hF hb hM hq (read := read) (to := 303) (a := 1) (m := 99) (by decide) (by decide) (by decide) (b' := setG b (nuV S (p + 1))) (fun _ => moB_one h (Or.inr rfl) rfl)
    rw [e, bd3_s, z]
    exact ⟨_, _, _, rfl, m⟩
  by_cases c106 : S p = 106
  · rw [sm_nI hx (by omega), c106, if_neg (by decide), if_neg (by decide), if_pos rfl, st106 c106]
    obtain ⟨r, a, rd, e, z, m⟩ := mo_joinItem hF hb hM hq ok h
    rw [e, bd3_s, z]
    exact ⟨_, _, _, rfl, m⟩
  by_cases c107 : S p = 107
  · rw [sm_nI hx (by omega), c107, if_neg (by decide), if_neg (by decide), if_neg (by decide), if_pos rfl, st107 c107]
    obtain ⟨r, a, rd, e, z, m⟩ := mo_pairItem hF hb hM hq (read := read) (to := 300) (a := 0) (m := 10) (by decide) (by decide) (by decide) (b' := setT b (nuV S (p + 1)) (nuV S (nx S (p + 1)))) (fun _ => moB_pair h (Or.inr rfl) rfl)
    rw [e, bd3_s, z]
    exact ⟨_, _, _, rfl, m⟩
  by_cases c110 : S p = 110
  · rw [sm_nI hx (by omega), c110, if_neg (by decide), if_neg (by decide), if_neg (by decide), if_neg (by decide), if_pos rfl, st110 c110]
    obtain ⟨r, a, rd, e, z, m⟩ := mo_pairItem hF hb hM hq (read := read) (to := 298) (a := 1) (m := 8) (by decide) (by decide) (by decide) (b' := setM b (nuV S (p + 1)) (nuV S (nx S (p + 1)))) (fun _ => moB_pair h (Or.inl rfl) rfl)
    rw [e, bd3_s, z]
    exact ⟨_, _, _, rfl, m⟩
  by_cases c111 : S p = 111
  · rw [sm_nI hx (by omega), c111, if_neg (by decide), if_neg (by decide), if_neg (by decide), if_neg (by decide), if_neg (by decide), if_pos rfl, st111 c111]
    obtain ⟨r, a, rd, e, z, m⟩ := mo_oneItem hF hb hM hq (read := read) (to := 302) (a := 0) (m := 10) (by decide) (by decide) (by decide) (b' := setS b (nuV S (p + 1))) (fun _ => moB_one h (Or.inl rfl) rfl)
    rw [e, bd3_s, z]
    exact ⟨_, _, _, rfl, m⟩
  by_cases c114 : S p = 114
  · rw [sm_nI hx (by omega), c114, if_neg (by decide), if_neg (by decide), if_neg (by decide), if_neg (by decide), if_neg (by decide), if_neg (by decide), if_pos rfl, st114 c114]
    obtain ⟨r, a, rd, e, z, m⟩ := mo_placeItem hb hM hq h
    rw [e, bd3_s, z]
    exact ⟨_, _, _, rfl, m⟩
  by_cases c115 : S p = 115
  · rw [sm_nI hx (by omega), c115, if_neg (by decide), if_neg (by decide), if_neg (by decide), if_neg (by decide), if_neg (by decide), if_neg (by decide), if_neg (by decide), if_pos rfl, st115 c115]
    obtain ⟨r, a, rd, e, z, m⟩ := mo_soundsItem hF hb hM hq h
    rw [e, bd3_s, z]
    exact ⟨_, _, _, rfl, m⟩
  by_cases c117 : S p = 117
  · rw [sm_nI hx (by omega), c117, if_neg (by decide), if_neg (by decide), if_neg (by decide), if_neg (by decide), if_neg (by decide), if_neg (by decide), if_neg (by decide), if_neg (by decide), if_pos rfl, st117 c117]
    obtain ⟨r, a, rd, e, z, m⟩ := mo_needItem hF hb hM hq ok h
    rw [e, bd3_s, z]
    exact ⟨_, _, _, rfl, m⟩
  by_cases c119 : S p = 119
  · rw [sm_nI hx (by omega), c119, if_neg (by decide), if_neg (by decide), if_neg (by decide), if_neg (by decide), if_neg (by decide), if_neg (by decide), if_neg (by decide), if_neg (by decide), if_neg (by decide), if_pos rfl, st119 c119]
    obtain ⟨r, a, rd, e, z, m⟩ := mo_wordItem hF hb hM hq h (i0 := 0) (most := 1) (by decide)
    rw [show nI 0 = nI (7 * 0) from rfl] at *
    rw [e, bd3_s, z]
    rw [Nat.zero_add] at m
    exact ⟨_, _, _, rfl, m⟩
  have h6 := hb.1 p
  have ne : ∀ k, 0 < k → k < 256 → S p ≠ k → ¬ x = nI k := by
    intro k h0 h1 h2 h3
    rcases hx with hx | ⟨hx, _⟩
    · exact eqs (by omega) (by omega) h2 (hx.symm.trans h3)
    · exact ne_m1 (n := k) (by omega) (h3.symm.trans hx)
  rw [if_neg (ne _ (by decide) (by decide) c101), if_neg (ne _ (by decide) (by decide) c103), if_neg (ne _ (by decide) (by decide) c106), if_neg (ne _ (by decide) (by decide) c107), if_neg (ne _ (by decide) (by decide) c110), if_neg (ne _ (by decide) (by decide) c111), if_neg (ne _ (by decide) (by decide) c114), if_neg (ne _ (by decide) (by decide) c115), if_neg (ne _ (by decide) (by decide) c117), if_neg (ne _ (by decide) (by decide) c119)]
  exact ⟨_, _, _, rfl, Or.inl ⟨stno ⟨c101, c103, c106, c107, c110, c111, c114, c115, c117, c119⟩, Or.inl rfl⟩⟩
