/-! PURE: an item as the reference reads it -/
theorem lpg_s {T : Type} (bot : T) (body : T → T) {F : Nat} (h : 0 < F) : lpg bot body F = body (lpg bot body (F - 1)) := by
  obtain ⟨G, rfl⟩ : ∃ G, F = G + 1 := ⟨F - 1, by omega⟩
  rfl
def mS (S : Nat → Nat) (st : Option (Nat × BT)) (r a : Int32) (read' : Nat → Int32) : Prop :=
  (st = none ∧ (r = nI 0 ∨ (r = nI 1 ∧ ∃ e, a = nI e ∧ e ≤ 500 ∧ S e ≠ 59))) ∨ ∃ e b', st = some (e + 1, b') ∧ r = nI 1 ∧ a = nI e ∧ e ≤ 500 ∧ S e = 59 ∧ moB b' read'
/-- the item's last sign is still to be read -/
theorem mS_end {S : Nat → Nat} {ok : Prop} [Decidable ok] {e : Nat} (he : e ≤ 500) {b' : BT} {read' : Nat → Int32} (hok : ok) (h : moB b' read') : mS S (if ok ∧ S e = 59 then some (e + 1, b') else none) (nI 1) (nI e) read' := by
  by_cases d : S e = 59
  · rw [if_pos ⟨hok, d⟩]; exact Or.inr ⟨e, b', rfl, rfl, rfl, he, d, h⟩
  · rw [if_neg (fun z => d z.2)]; exact Or.inl ⟨rfl, Or.inr ⟨rfl, e, rfl, he, d⟩⟩
theorem mS_no {S : Nat → Nat} {c : Prop} [Decidable c] {x : Nat × BT} {a : Int32} {read' : Nat → Int32} (h : ¬ c) : mS S (if c then some x else none) (nI 0) a read' := by
  rw [if_neg h]; exact Or.inl ⟨rfl, Or.inl rfl⟩
theorem isW_cong {f g : Nat → Int32} {pos : Nat} {w : List Nat} (h : isW f pos w) (hc : ∀ k, k < 7 → g (pos + k) = f (pos + k)) : isW g pos w := by
  obtain ⟨h1, h2, h3⟩ := h
  have := h1.1
  refine ⟨h1, by have := hc 0 (by decide); rw [Nat.add_zero] at this; rw [this, h2], fun k hk => ?_⟩
  have := hc (1 + k) (by omega)
  rw [show pos + 1 + k = pos + (1 + k) by omega, this, ← show pos + 1 + k = pos + (1 + k) by omega, h3 k hk]
theorem moB_W {b : BT} {l l' : Nat → Int32} (h : moB b l) {i : Nat} (hi : i < 40) {w : List Nat} (hw : isW l' (7 * i) w) (ho : ∀ j, (j < 7 * i ∨ 7 * i + 7 ≤ j) → l' j = l j) : moB (setW b i w) l' := by
  obtain ⟨m1, m2, m3, m4, m5, m6, m7, m8, m9, m10, m11⟩ := h
  refine ⟨fun j hj => ?_, fun p hp => ?_, fun c hc => ?_, fun p hp => ?_, fun p hp => ?_, ?_, ?_, ?_, fun k hk => ?_, ?_, fun k hk => ?_⟩
  · show isW l' (7 * j) (fu (bW b) i w j)
    by_cases z : j = i
    · rw [z, fu_s]; exact hw
    · rw [fu_n z]; exact isW_cong (m1 j hj) (fun k hk => ho _ (by omega))
  · rw [ho _ (by omega)]; exact m2 p hp
  · rw [ho _ (by omega)]; exact m3 c hc
  · rw [ho _ (by omega)]; exact m4 p hp
  · rw [ho _ (by omega)]; exact m5 p hp
  · rw [ho _ (by omega)]; exact m6
  · rw [ho _ (by omega)]; exact m7
  · rw [ho _ (by omega)]; exact m8
  · rw [ho _ (by omega), ho _ (by omega), ho _ (by omega)]; exact m9 k hk
  · rw [ho _ (by omega)]; exact m10
  · rw [ho _ (by omega)]; exact m11 k hk
theorem mo_wordItem {F : Nat} (hF : 600 ≤ F) {S : Nat → Nat} (hb : sB S) {size : Int32} {text : Nat → Int32} (hM : mA S size text) {q : Nat} (hq : q ≤ 500) {b : BT} {read : Nat → Int32} (h : moB b read) {i0 most : Nat} (hm : i0 + 8 * most + 7 < 40) :
    ∃ r a read', D_X10_wordItem F (nI (7 * i0)) (nI most) size (nI q) text read = some (r, a, read') ∧ cz r (some (r, a, read')) = some (r, a, read') ∧ mS S (if okW S most q ∧ S (eW S q) = 59 then some (eW S q + 1, setW b (i0 + (8 * nuV S q + nuV S (nx S q))) (wl S (nx S (nx S q)) 6)) else none) r a read' := by
  unfold D_X10_wordItem
  rw [number_of hF hb hM (by decide) (by omega) hq, bd2_s]
  by_cases c : nuO S q 0 most
  · have v1 := nuV_lt hb _ c.1
    rw [if_pos c, if_neg (nlt0 (by omega)), takes_of hb hM (by decide) (by decide) (nuP_le hb hq).2, bd2_s, zb_if]
    by_cases d : S (nuP S q) = 44
    · rw [if_pos d, show tkP S 44 (nuP S q) = nx S q from tk_nx d, number_of hF hb hM (by decide) (by decide) (nx_le hb d), bd2_s]
      by_cases e : nuO S (nx S q) 0 7
      · have v2 := nuV_lt hb _ e.1
        rw [if_pos e, if_neg (nlt0 (by omega)), takes_of hb hM (by decide) (by decide) (nuP_le hb (nx_le hb d)).2, bd2_s, zb_if]
        by_cases g : S (nuP S (nx S q)) = 44
        · rw [if_pos g, show tkP S 44 (nuP S (nx S q)) = nx S (nx S q) from tk_nx g, pk_mul, nI_add, pk_mul, nI_add, ← Nat.mul_add]
          have c2 := c.2.2
          have e2 := e.2.2
          obtain ⟨r, a, rd, x, ho, hr⟩ := word_of hF hb hM (to := 7 * (i0 + (8 * nuV S q + nuV S (nx S q)))) (by omega) (nx_le hb g) read
          rw [x, bd3_s]
          rcases hr with ⟨rfl, hr⟩ | ⟨rfl, h1, rfl, h2⟩
          · rw [if_n0]
            refine ⟨_, _, _, rfl, cz_0, mS_no (fun z => ?_)⟩
            rcases hr with hr | hr
            · exact z.1.2.2 hr
            · have := z.2
              unfold eW at this
              omega
          · rw [if_n1]
            exact ⟨_, _, _, rfl, cz_1, mS_end (wl_le hb 6 _ (nx_le hb g)) ⟨⟨c, d, e⟩, g, h1⟩ (moB_W h (by omega) h2 ho)⟩
        · rw [if_neg g]; exact ⟨_, _, _, rfl, cz_0, mS_no (fun z => g z.1.2.1)⟩
      · rw [if_neg e, if_pos m1_lt0]; exact ⟨_, _, _, rfl, cz_0, mS_no (fun z => e z.1.1.2.2)⟩
    · rw [if_neg d]; exact ⟨_, _, _, rfl, cz_0, mS_no (fun z => d z.1.1.2.1)⟩
  · rw [if_neg c, if_pos m1_lt0]; exact ⟨_, _, _, rfl, cz_0, mS_no (fun z => c z.1.1.1)⟩
theorem mo_pairItem {F : Nat} (hF : 600 ≤ F) {S : Nat → Nat} (hb : sB S) {size : Int32} {text : Nat → Int32} (hM : mA S size text) {q : Nat} (hq : q ≤ 500) {read : Nat → Int32} {to a m : Nat} (ha : a < 2 ^ 31) (hm : m < 2 ^ 31) (hto : to + 1 < 336) {b' : BT} (hb' : ok2 S a m m q → moB b' (upd (upd read to (nI (nuV S q))) (to + 1) (nI (nuV S (nx S q))))) :
    ∃ r at' read', D_X10_pairItem F (nI to) (nI a) (nI m) size (nI q) text read = some (r, at', read') ∧ cz r (some (r, at', read')) = some (r, at', read') ∧ mS S (if ok2 S a m m q ∧ S (nuP S (nx S q)) = 59 then some (nuP S (nx S q) + 1, b') else none) r at' read' := by
  unfold D_X10_pairItem
  rw [number_of hF hb hM ha hm hq, bd2_s, ck_n (by omega) (by decide), ck_n (by omega) (by decide), nI_clamp (by omega), pk_us]
  by_cases c : nuO S q a m
  · have v1 := nuV_lt hb _ c.1
    rw [if_pos c, if_neg (nlt0 (by omega)), takes_of hb hM (by decide) (by decide) (nuP_le hb hq).2, bd2_s, zb_if]
    by_cases d : S (nuP S q) = 44
    · rw [if_pos d, show tkP S 44 (nuP S q) = nx S q from tk_nx d, number_of hF hb hM ha hm (nx_le hb d), bd2_s, nI_add, ck_n (by omega) (by decide), ck_n (by omega) (by decide), nI_clamp (by omega), pk_us]
      by_cases e : nuO S (nx S q) a m
      · have v2 := nuV_lt hb _ e.1
        rw [if_pos e, if_neg (nlt0 (by omega))]
        exact ⟨_, _, _, rfl, cz_1, mS_end (nuP_le hb (nx_le hb d)).2 ⟨c, d, e⟩ (hb' ⟨c, d, e⟩)⟩
      · rw [if_neg e, if_pos m1_lt0]; exact ⟨_, _, _, rfl, cz_0, mS_no (fun z => e z.1.2.2)⟩
    · rw [if_neg d]; exact ⟨_, _, _, rfl, cz_0, mS_no (fun z => d z.1.2.1)⟩
  · rw [if_neg c, if_pos m1_lt0]; exact ⟨_, _, _, rfl, cz_0, mS_no (fun z => c z.1.1)⟩
theorem mo_oneItem {F : Nat} (hF : 600 ≤ F) {S : Nat → Nat} (hb : sB S) {size : Int32} {text : Nat → Int32} (hM : mA S size text) {q : Nat} (hq : q ≤ 500) {read : Nat → Int32} {to a m : Nat} (ha : a < 2 ^ 31) (hm : m < 2 ^ 31) (hto : to < 336) {b' : BT} (hb' : nuO S q a m → moB b' (upd read to (nI (nuV S q)))) :
    ∃ r at' read', D_X10_oneItem F (nI to) (nI a) (nI m) size (nI q) text read = some (r, at', read') ∧ cz r (some (r, at', read')) = some (r, at', read') ∧ mS S (if nuO S q a m ∧ S (nuP S q) = 59 then some (nuP S q + 1, b') else none) r at' read' := by
  unfold D_X10_oneItem
  rw [number_of hF hb hM ha hm hq, bd2_s, ck_n (by omega) (by decide), ck_n (by omega) (by decide), nI_clamp (by omega), pk_us]
  by_cases c : nuO S q a m
  · have v1 := nuV_lt hb _ c.1
    rw [if_pos c, if_neg (nlt0 (by omega))]
    exact ⟨_, _, _, rfl, cz_1, mS_end (nuP_le hb hq).2 c (hb' c)⟩
  · rw [if_neg c, if_pos m1_lt0]; exact ⟨_, _, _, rfl, cz_0, mS_no (fun z => c z.1)⟩
theorem mo_placeItem {S : Nat → Nat} (hb : sB S) {size : Int32} {text : Nat → Int32} (hM : mA S size text) {q : Nat} (hq : q ≤ 500) {b : BT} {read : Nat → Int32} (h : moB b read) :
    ∃ r at' read', D_X10_placeItem size (nI q) text read = some (r, at', read') ∧ cz r (some (r, at', read')) = some (r, at', read') ∧ mS S (if okR S q ∧ S (q + (wl S q 6).length) = 59 then some (q + (wl S q 6).length + 1, setR b ((wl S q 6).getD 0 0) ((wl S q 6).getD 1 0)) else none) r at' read' := by
  unfold D_X10_placeItem
  rw [sound_of hb hM hq, bd2_s]
  by_cases c : ltr (S q)
  · have e1 : sdV S q = nI (S q - 97) := if_pos c
    have e2 : sdP S q = q + 1 := if_pos c
    have hq2 := sB_in hb (p := q) (by omega)
    rw [e1, e2, if_pos (n0_le (by omega)), sound_of hb hM (by omega), bd2_s]
    unfold j_X10_placeItem_17
    by_cases d : ltr (S (q + 1))
    · have f1 : sdV S (q + 1) = nI (S (q + 1) - 97) := if_pos d
      have f2 : sdP S (q + 1) = q + 1 + 1 := if_pos d
      have hq3 := sB_in hb (p := q + 1) (by omega)
      have hw : wl S q 6 = (S q - 97) :: (S (q + 1) - 97) :: wl S (q + 1 + 1) 4 := by rw [wl_cons c, wl_cons d]
      rw [f1, f2, if_neg (nlt0 (by omega))]
      by_cases g : S q - 97 = S (q + 1) - 97
      · rw [if_pos (by rw [g])]
        refine ⟨_, _, _, rfl, cz_0, mS_no (fun z => z.1.2 ?_)⟩
        rw [hw]; exact g
      · rw [if_neg (eqs (by omega) (by omega) g), nI_add, ck_n (by omega) (by decide), nI_clamp (by omega)]
        refine ⟨_, _, _, rfl, cz_1, ?_⟩
        by_cases t : ltr (S (q + 1 + 1))
        · rw [if_neg]
          · exact Or.inl ⟨rfl, Or.inr ⟨rfl, q + 1 + 1, rfl, by omega, by omega⟩⟩
          · intro z
            have := z.1.1
            rw [hw, wl_cons t] at this
            simp only [List.length_cons] at this
            omega
        · have hl : (wl S q 6).length = 2 := by rw [hw, wl_nil t]; rfl
          have g0 : (wl S q 6).getD 0 0 = S q - 97 := by rw [hw]; rfl
          have g1 : (wl S q 6).getD 1 0 = S (q + 1) - 97 := by rw [hw]; rfl
          have hm : moB (setR b ((wl S q 6).getD 0 0) ((wl S q 6).getD 1 0)) (upd read (282 + (S q - 97)) (nI (S (q + 1) - 97))) := by
            obtain ⟨m1, m2, m3, m4, m5, m6, m7, m8, m9, m10, m11⟩ := h
            rw [g0, g1]
            refine ⟨fun j hj => isW_cong (m1 j hj) (fun k hk => pk_un (by omega)), fun p hp => ?_, fun x hx => ?_, fun p hp => ?_, fun p hp => ?_, ?_, ?_, ?_, fun k hk => ?_, ?_, fun k hk => ?_⟩
            · rw [pk_un (by omega)]; exact m2 p hp
            · show upd read _ _ (282 + x) = em (fu (bR b) _ _ x)
              by_cases z : x = S q - 97
              · rw [z, pk_us, fu_s]; rfl
              · rw [pk_un (by omega), fu_n z]; exact m3 x hx
            · rw [pk_un (by omega)]; exact m4 p hp
            · rw [pk_un (by omega)]; exact m5 p hp
            · rw [pk_un (by omega)]; exact m6
            · rw [pk_un (by omega)]; exact m7
            · rw [pk_un (by omega)]; exact m8
            · rw [pk_un (by omega), pk_un (by omega), pk_un (by omega)]; exact m9 k hk
            · rw [pk_un (by omega)]; exact m10
            · rw [pk_un (by omega)]; exact m11 k hk
          have hok : okR S q := ⟨hl, by rw [g0, g1]; exact g⟩
          have := mS_end (S := S) (ok := okR S q) (e := q + (wl S q 6).length) (by omega) hok hm
          rw [show q + 1 + 1 = q + (wl S q 6).length by omega]
          exact this
    · have f1 : sdV S (q + 1) = (-1 : Int32) := if_neg d
      rw [f1, if_pos m1_lt0]
      refine ⟨_, _, _, rfl, cz_0, mS_no (fun z => ?_)⟩
      have := z.1.1
      rw [wl_cons c, wl_nil d] at this
      exact absurd this (fun z => by rw [List.length_cons, List.length_nil] at z; omega)
  · have e1 : sdV S q = (-1 : Int32) := if_neg c
    rw [e1, if_neg m1_nle]
    unfold j_X10_placeItem_17
    rw [if_pos m1_lt0]
    refine ⟨_, _, _, rfl, cz_0, mS_no (fun z => ?_)⟩
    have := z.1.1
    rw [wl_nil c] at this
    exact absurd this (by decide)
theorem mo_soundsItem {F : Nat} (hF : 600 ≤ F) {S : Nat → Nat} (hb : sB S) {size : Int32} {text : Nat → Int32} (hM : mA S size text) {q : Nat} (hq : q ≤ 500) {b : BT} {read : Nat → Int32} (h : moB b read) :
    ∃ r at' read', D_X10_soundsItem F size (nI q) text read = some (r, at', read') ∧ cz r (some (r, at', read')) = some (r, at', read') ∧ mS S (if okSn S q ∧ S (rs S 97 16 16 (nx S q) 0 0).2 = 59 then some ((rs S 97 16 16 (nx S q) 0 0).2 + 1, setC b (nuV S q) (rs S 97 16 16 (nx S q) 0 0).1) else none) r at' read' := by
  unfold D_X10_soundsItem
  rw [number_of hF hb hM (by decide) (by decide) hq, bd2_s]
  by_cases c : nuO S q 0 1
  · have v1 := c.2.2
    rw [if_pos c, if_neg (nlt0 (by omega)), takes_of hb hM (by decide) (by decide) (nuP_le hb hq).2, bd2_s, zb_if]
    by_cases d : S (nuP S q) = 44
    · rw [if_pos d, show tkP S 44 (nuP S q) = nx S q from tk_nx d, sound_of hb hM (nx_le hb d), bd2_s]
      obtain ⟨r, a, rd, x, hr⟩ := soundsItem_loop hb hM (p := nuV S q) (by omega) read 16 (nx S q) 0 0 F (by decide) (by decide) (by decide) (Or.inl rfl) (nx_le hb d) (by omega)
      rw [x]
      rcases hr with ⟨rfl, hr⟩ | ⟨rfl, h1, rfl, rfl⟩
      · refine ⟨_, _, _, rfl, cz_0, mS_no (fun z => ?_)⟩
        rcases hr with hr | hr
        · have := z.2; omega
        · exact z.1.2.2 hr
      · refine ⟨_, _, _, rfl, cz_1, mS_end (rs_lt hb (by decide) 16 _ 0 0 (by decide) (nx_le hb d)).2 ⟨c, d, h1⟩ ?_⟩
        obtain ⟨m1, m2, m3, m4, m5, m6, m7, m8, m9, m10, m11⟩ := h
        refine ⟨fun j hj => isW_cong (m1 j hj) (fun k hk => pk_un (by omega)), fun p hp => ?_, fun x hx => ?_, fun p hp => ?_, fun p hp => ?_, ?_, ?_, ?_, fun k hk => ?_, ?_, fun k hk => ?_⟩
        · show upd read _ _ (280 + p) = nI (fu (bC b) _ _ p)
          by_cases z : p = nuV S q
          · rw [z, pk_us, fu_s]
          · rw [pk_un (by omega), fu_n z]; exact m2 p hp
        · rw [pk_un (by omega)]; exact m3 x hx
        · rw [pk_un (by omega)]; exact m4 p hp
        · rw [pk_un (by omega)]; exact m5 p hp
        · rw [pk_un (by omega)]; exact m6
        · rw [pk_un (by omega)]; exact m7
        · rw [pk_un (by omega)]; exact m8
        · rw [pk_un (by omega), pk_un (by omega), pk_un (by omega)]; exact m9 k hk
        · rw [pk_un (by omega)]; exact m10
        · rw [pk_un (by omega)]; exact m11 k hk
    · rw [if_neg d]; exact ⟨_, _, _, rfl, cz_0, mS_no (fun z => d z.1.2.1)⟩
  · rw [if_neg c, if_pos m1_lt0]; exact ⟨_, _, _, rfl, cz_0, mS_no (fun z => c z.1.1)⟩
theorem mo_needItem {F : Nat} (hF : 600 ≤ F) {S : Nat → Nat} (hb : sB S) {size : Int32} {text : Nat → Int32} (hM : mA S size text) {q : Nat} (hq : q ≤ 500) {b : BT} (ok : okB b) {read : Nat → Int32} (h : moB b read) :
    ∃ r at' read', D_X10_needItem F size (nI q) text read = some (r, at', read') ∧ cz r (some (r, at', read')) = some (r, at', read') ∧ mS S (if bU b < 6 ∧ (rs S 48 8 8 q 0 0).1 ≠ 0 ∧ S (rs S 48 8 8 q 0 0).2 = 59 then some ((rs S 48 8 8 q 0 0).2 + 1, setU b (rs S 48 8 8 q 0 0).1) else none) r at' read' := by
  unfold D_X10_needItem
  obtain ⟨m1, m2, m3, m4, m5, m6, m7, m8, m9, m10, m11⟩ := h
  have hu := ok.2.2.2.2.2.2.2.2.1
  rw [ck_n (by decide) (by decide), nI_clamp (by decide), m10]
  by_cases c : bU b = 6
  · rw [if_pos (by rw [c])]; exact ⟨_, _, _, rfl, cz_0, mS_no (fun z => by omega)⟩
  · rw [if_neg (eqs (by omega) (by decide) c)]
    obtain ⟨r, a, rd, x, hr⟩ := needItem_loop hb hM (u := bU b) (by omega) m10 8 q 0 0 F (by decide) (by decide) (by decide) (Or.inl rfl) hq (by omega)
    rw [x]
    rcases hr with ⟨rfl, hr⟩ | ⟨rfl, h1, rfl, rfl⟩
    · refine ⟨_, _, _, rfl, cz_0, mS_no (fun z => ?_)⟩
      rcases hr with hr | hr
      · have := z.2.2; omega
      · exact z.2.1 hr
    · refine ⟨_, _, _, rfl, cz_1, ?_⟩
      have hm : moB (setU b (rs S 48 8 8 q 0 0).1) (upd (upd read (330 + bU b) (nI (rs S 48 8 8 q 0 0).1)) 329 (nI (bU b + 1))) := by
        have key : ∀ j, (j < 329 ∨ (330 ≤ j ∧ j ≠ 330 + bU b)) → upd (upd read (330 + bU b) (nI (rs S 48 8 8 q 0 0).1)) 329 (nI (bU b + 1)) j = read j := fun j hj => by rw [pk_un (by omega), pk_un (by omega)]
        have hJ := ok.2.2.2.2.2.2.2.1.1
        refine ⟨fun j hj => isW_cong (m1 j hj) (fun k hk => key _ (by omega)), fun p hp => ?_, fun x hx => ?_, fun p hp => ?_, fun p hp => ?_, ?_, ?_, ?_, fun k hk => ?_, ?_, fun k hk => ?_⟩
        · rw [key _ (by omega)]; exact m2 p hp
        · rw [key _ (by omega)]; exact m3 x hx
        · rw [key _ (by omega)]; exact m4 p hp
        · rw [key _ (by omega)]; exact m5 p hp
        · rw [key _ (by omega)]; exact m6
        · rw [key _ (by omega)]; exact m7
        · rw [key _ (by omega)]; exact m8
        · have hk : k < bJ b := hk
          rw [key _ (by omega), key _ (by omega), key _ (by omega)]; exact m9 k hk
        · exact pk_us
        · have hk : k < bU b + 1 := hk
          show _ = nI (fu (bN b) _ _ k)
          by_cases z : k = bU b
          · rw [z, fu_s, pk_un (by omega), pk_us]
          · rw [fu_n z, key _ (by omega)]; exact m11 k (by omega)
      have le := (rs_lt hb (first := 48) (many := 8) (by decide) 8 q 0 0 (by decide) hq).2
      by_cases d : S (rs S 48 8 8 q 0 0).2 = 59
      · rw [if_pos ⟨by omega, h1, d⟩]; exact Or.inr ⟨_, _, rfl, rfl, rfl, le, d, hm⟩
      · rw [if_neg (fun z => d z.2.2)]; exact Or.inl ⟨rfl, Or.inr ⟨rfl, _, rfl, le, d⟩⟩
