/-! PURE: million, won, use, soon -/
theorem habits_of {b : BT} (hs : bS b ≤ 10) {m k0 k1 : Nat} (x y : Int32) : D_X1_habits (if bG b ≤ lkM b m then nI 1 else nI 0) (nI (bS b)) (nI k0) (nI k1) x y = some (nI (zhB b m k0), nI (ohB b m k1)) := by
  unfold D_X1_habits j_X1_habits_15 zhB ohB
  simp only [nm_s]
  rw [pk_sub hs, pk_mul, pk_mul]
  by_cases h : bG b ≤ lkM b m
  · rw [if_pos h, if_pos h, if_pos h, if_n1, if_n1]
  · rw [if_neg h, if_neg h, if_neg h, if_n0, if_n0]
theorem gather_of {a b : Nat} (ha : 1 ≤ a) (ha8 : a ≤ 8) (hb : 1 ≤ b) (hb8 : b ≤ 8) (x y : Int32) : D_X1_gather (nI a) (nI b) x y = some (nI a, nI b) := by
  unfold D_X1_gather
  simp only [nm_s]
  have g : ∀ c : Nat, 1 ≤ c → c ≤ 8 → (if nI 1 < (if nI 8 < nI c then nI 8 else nI c) then (if nI 8 < nI c then nI 8 else nI c) else nI 1) = nI c := by
    intro c h1 h2
    rw [if_neg (nI_nlt h2 (by omega))]
    by_cases e : c = 1
    · subst e; exact if_neg (by decide)
    · exact if_pos (nI_lt (by omega) (by omega))
  rw [g a ha ha8, g b hb hb8]
theorem start_of {F : Nat} (hF : 600 ≤ F) {b : BT} (ok : okB b) {words heard can ins trad tak jM jP : Nat → Int32} {jT uT need spk gd : Int32} (hc : clB b words heard can ins trad tak jM jP jT uT need spk gd) {f : Nat → Nat} (okf : okS b f) {oth : Nat → Int32} (ho : holdS f oth) {m : Nat} (hm8 : m < 8) (a0 b0 x y : Int32) (now : Nat → Int64) (row : Nat → Int32) : ∃ now' row', D_X9_startCrowdAsNow F (nI m) oth a0 b0 x y now row spk gd words can ins trad tak = some (nI (bM b 0), nI (bM b 1), nI (zhB b m (bT b 0)), nI (ohB b m (bT b 1)), now', row') ∧ holdL (at0 (f (2 * m)) (f (2 * m + 1))) now' := by
  have hM0 := ok.2.2.2.1 0 (by decide)
  have hM1 := ok.2.2.2.1 1 (by decide)
  obtain ⟨f0, f1⟩ := okf m hm8
  have hS := ok.2.2.2.2.2.1
  obtain ⟨hc1, -, hc3, hc4, hc5, hc6, -, -, -, -, hsp, hgd⟩ := hc
  subst hsp hgd
  obtain ⟨row', e⟩ := isAlike_of hF ok hc1 hc3 hc4 hm8 row
  obtain ⟨now', e2, h2⟩ := begin_of hF (x := f (2 * m)) (y := f (2 * m + 1)) (by omega) (by omega) now
  unfold D_X9_startCrowdAsNow
  rw [e, bd2_s, speaks_of, bd1_s, takesTen_of hc6 (by decide), bd1_s, takesTen_of hc6 (by decide), bd1_s, habits_of hS, bd2_s, tradersOf_of hc5 (by decide), bd1_s, tradersOf_of hc5 (by decide), bd1_s, gather_of hM0.1 hM0.2 hM1.1 hM1.2, bd2_s, of_of ho hm8 (by decide), bd1_s, of_of ho hm8 (by decide), bd1_s, Nat.add_zero, e2, bd1_s]
  exact ⟨_, _, rfl, h2⟩
theorem asTold_of {F : Nat} (hF : 600 ≤ F) {b : BT} (ok : okB b) {l : Nat → Int32} (hm : moB b l) {f : Nat → Nat} (okf : okS b f) {sta : Nat → Int32} (hs : holdS f sta) {m : Nat} (hm8 : m < 8) {n : Nat} (hn : n ≤ 200) (one two ways : Nat → Int32) (now th : Nat → Int64) : ∃ one' two' ways' now' th', D_X10_goAsTold F (nI m) (nI n) l sta one two ways now th = some (one', two', ways', now', th') ∧ holdL (itn (stp (bM b 0) (bM b 1) (zhB b m (bT b 0)) (ohB b m (bT b 1))) n (at0 (f (2 * m)) (f (2 * m + 1)))) now' := by
  have hM0 := ok.2.2.2.1 0 (by decide)
  have hM1 := ok.2.2.2.1 1 (by decide)
  have hT0 := ok.2.2.2.2.1 0 (by decide)
  have hT1 := ok.2.2.2.2.1 1 (by decide)
  obtain ⟨f0, f1⟩ := okf m hm8
  obtain ⟨now', e2, h2⟩ := beginAt_of hF (x := f (2 * m)) (y := f (2 * m + 1)) (by omega) (by omega) now
  obtain ⟨z1, z2⟩ := at0_ok hM0.2 hM1.2 f0 f1
  obtain ⟨o1, o2, o3, o4, o5, e3, h3⟩ := goOn_of hF ok hm hm8 hM0.1 hM0.2 hM1.1 hM1.2 hT0 hT1 h2 z1 z2 hn one two ways th
  obtain ⟨-, -, -, hm4, hm5, -⟩ := hm
  unfold D_X10_goAsTold
  rw [pk_mul, nI_add, ck_n (by omega) (by decide), ck_n (by omega) (by decide), nI_clamp (n := 2 * m) (by omega), nI_clamp (n := 2 * m + 1) (by omega), hs (2 * m) (by omega), hs (2 * m + 1) (by omega), e2, bd1_s, ck_n (by decide) (by decide), ck_n (by decide) (by decide), ck_n (by decide) (by decide), ck_n (by decide) (by decide), nI_clamp (by decide), nI_clamp (by decide), nI_clamp (by decide), nI_clamp (by decide), show l 298 = nI (bM b 0) from hm4 0 (by decide), show l 299 = nI (bM b 1) from hm4 1 (by decide), show l 300 = nI (bT b 0) from hm5 0 (by decide), show l 301 = nI (bT b 1) from hm5 1 (by decide), e3, bd5_s]
  exact ⟨_, _, _, _, _, rfl, h3⟩
theorem inStand_of {N : Nat → Nat} {now : Nat → Int64} (h : holdL N now) {x y : Nat} (hx : x ≤ 8) (hy : y ≤ 8) : D_X1_inStand (nI x) (nI y) now = some (lN (N (9 * x + y))) := by
  unfold D_X1_inStand
  rw [place_of, bd1_s, row_atL (by omega) (by decide), bd1_s, h _ (by omega)]
def wonN (N : Nat → Nat) (p a b : Nat) : Nat := if p = 0 then N b else N (9 * a)
theorem allSaying_of {N : Nat → Nat} {now : Nat → Int64} (h : holdL N now) {p a b : Nat} (hp : p < 2) (ha : a ≤ 8) (hb : b ≤ 8) : D_X1_allSaying (nI p) (nI a) (nI b) now = some (lN (wonN N p a b)) := by
  unfold D_X1_allSaying wonN
  rw [inStand_of h (by decide) hb, bd1_s, inStand_of h ha (by decide), bd1_s]
  by_cases e : p = 0
  · subst e; rw [if_n0, if_pos rfl]; congr 3; omega
  · have : p = 1 := by omega
    subst this; rw [if_n1, if_neg (by decide)]
    rfl
theorem wonBy_of {N : Nat → Nat} {now : Nat → Int64} (h : holdL N now) {p a b : Nat} (hp : p < 2) (ha : a ≤ 8) (hb : b ≤ 8) : D_X10_wonBy (nI p) (nI a) (nI b) now = some (lN (wonN N p a b)) := by
  unfold D_X10_wonBy wonN
  rw [ck_n (by omega) (by decide), nI_clamp (by omega), h _ (by omega), pk_mul, ck_n (by omega) (by decide), nI_clamp (by omega), h _ (by omega)]
  by_cases e : p = 0
  · subst e; rw [if_n0, if_pos rfl]
  · have : p = 1 := by omega
    subst this; rw [if_n1, if_neg (by decide)]
theorem isMeetings_of (x : Int32) : D_X9_isMeetings x = some (zb (0 ≤ x.toInt ∧ x.toInt < 201)) := by
  unfold D_X9_isMeetings
  by_cases h1 : x < 0
  · rw [if_pos h1, zb_f]; rw [lt0_iff] at h1; omega
  · rw [if_neg h1]; rw [lt0_iff] at h1
    by_cases h2 : nI 200 < x
    · rw [if_pos h2, zb_f]; rw [ti_lt' (by decide)] at h2; omega
    · rw [if_neg h2, zb_t]; rw [ti_lt' (by decide)] at h2; omega
theorem isHundredths_of (x : Int32) : D_X9_isHundredths x = some (zb (1 ≤ x.toInt ∧ x.toInt < 101)) := by
  unfold D_X9_isHundredths
  by_cases h1 : x < nI 1
  · rw [if_pos h1, zb_f]; rw [ti_lt (by decide)] at h1; omega
  · rw [if_neg h1]; rw [ti_lt (by decide)] at h1
    by_cases h2 : nI 100 < x
    · rw [if_pos h2, zb_f]; rw [ti_lt' (by decide)] at h2; omega
    · rw [if_neg h2, zb_t]; rw [ti_lt' (by decide)] at h2; omega
theorem in200 (x : Int32) : D_X10_in x.toInt64 (lN 0) (lN 200) = some (zb (0 ≤ x.toInt ∧ x.toInt < 201)) := in_rng x (by decide)
theorem in100 (x : Int32) : D_X10_in x.toInt64 (lN 1) (lN 100) = some (zb (1 ≤ x.toInt ∧ x.toInt < 101)) := by
  rw [in_of x (by decide) (by decide)]
  exact congrArg some (zb_congr (by omega))
section MC
variable {F : Nat} {b : BT} {words heard can ins trad tak jM jP : Nat → Int32} {jT uT need spk gd : Int32} {l : Nat → Int32} {f : Nat → Nat} {oth sta : Nat → Int32}
theorem e_million (hF : 600 ≤ F) (ok : okB b) (hc : clB b words heard can ins trad tak jM jP jT uT need spk gd) (hm : moB b l) (okf : okS b f) (ho : holdS f oth) (hs : holdS f sta) (p1 p2 p3 p4 ca cb cz' co cm : Int32) (now nx : Nat → Int64) (row one two ways : Nat → Int32) (nowM th : Nat → Int64) : ∃ r a1 a2 a3 a4 a5 a6 a7 a8 b1 b2 b3 b4 b5, D_X9_million F p1 p2 p3 p4 oth ca cb cz' co cm now nx row spk gd words can ins trad tak = some (r, a1, a2, a3, a4, a5, a6, a7, a8) ∧ D_X10_million F p1 p2 p3 p4 l sta one two ways nowM th = some (r, b1, b2, b3, b4, b5) := by
  have hM0 := ok.2.2.2.1 0 (by decide)
  have hM1 := ok.2.2.2.1 1 (by decide)
  have hT0 := ok.2.2.2.2.1 0 (by decide)
  have hT1 := ok.2.2.2.2.1 1 (by decide)
  obtain ⟨hc1, -, -, -, hc5, -⟩ := id hc
  obtain ⟨hm1, -, -, hm4, -⟩ := id hm
  unfold D_X9_million D_X10_million
  rw [isMeaning_of, bd1_s, zb_if, isMeaningM_of, bd1_s, zb_if]
  by_cases h1 : 0 ≤ p1.toInt ∧ p1.toInt < 8
  case neg => rw [if_neg h1, if_neg h1]; exact ⟨_, _, _, _, _, _, _, _, _, _, _, _, _, _, rfl, rfl⟩
  rw [if_pos h1, if_pos h1, isMeetings_of, bd1_s, zb_if, in200, bd1_s, zb_if]
  by_cases h2 : 0 ≤ p2.toInt ∧ p2.toInt < 201
  case neg => rw [if_neg h2, if_neg h2]; exact ⟨_, _, _, _, _, _, _, _, _, _, _, _, _, _, rfl, rfl⟩
  rw [if_pos h2, if_pos h2, isStand_of ok hc5, bd1_s, zb_if, isStandM_of ok hm4, bd1_s, zb_if]
  by_cases h3 : (0 ≤ p3.toInt ∧ p3.toInt ≤ bM b 0) ∧ 0 ≤ p4.toInt ∧ p4.toInt ≤ bM b 1
  case neg => rw [if_neg h3, if_neg h3]; exact ⟨_, _, _, _, _, _, _, _, _, _, _, _, _, _, rfl, rfl⟩
  rw [if_pos h3, if_pos h3]
  obtain ⟨m, hm8, rfl⟩ := ti_in h1.1 (n := 8) h1.2
  obtain ⟨n, hn, rfl⟩ := ti_in h2.1 (n := 201) h2.2
  obtain ⟨x, hx, rfl⟩ := ti_in h3.1.1 (n := bM b 0 + 1) (by omega)
  obtain ⟨y, hy, rfl⟩ := ti_in h3.2.1 (n := bM b 1 + 1) (by omega)
  by_cases t : told b m
  · rw [(isTold_of ok hc1 hm8).1 t, bd1_s, if_n1, (isToldM_of ok hm1 hm8).1 t, bd1_s, if_n1]
    obtain ⟨q1, q2, e1, k1⟩ := start_of hF ok hc okf ho hm8 ca cb cz' co now row
    obtain ⟨z1, z2⟩ := at0_ok hM0.2 hM1.2 (okf m hm8).1 (okf m hm8).2
    obtain ⟨r1, r2, r3, e2, k2⟩ := meet_of hF hM0.1 hM0.2 hM1.1 hM1.2 (hab_le ok (m := m) hT0 hT1) k1 z1 z2 (n := n) (by omega) cm nx
    obtain ⟨s1, s2, s3, s4, s5, e3, k3⟩ := asTold_of hF ok hm okf hs hm8 (n := n) (by omega) one two ways nowM th
    rw [e1, bd6_s, e2, bd3_s, inStand_of k2 (by omega) (by omega), bd1_s, e3, bd5_s, pk_mul, nI_add, ck_n (by omega) (by decide), nI_clamp (by omega), k3 _ (by omega)]
    exact ⟨_, _, _, _, _, _, _, _, _, _, _, _, _, _, rfl, rfl⟩
  · rw [(isTold_of ok hc1 hm8).2 t, bd1_s, if_n0, (isToldM_of ok hm1 hm8).2 t, bd1_s, if_n0]; exact ⟨_, _, _, _, _, _, _, _, _, _, _, _, _, _, rfl, rfl⟩
theorem e_won (hF : 600 ≤ F) (ok : okB b) (hc : clB b words heard can ins trad tak jM jP jT uT need spk gd) (hm : moB b l) (okf : okS b f) (ho : holdS f oth) (hs : holdS f sta) (p1 p2 p3 ca cb cz' co cm : Int32) (now nx : Nat → Int64) (row one two ways : Nat → Int32) (nowM th : Nat → Int64) : ∃ r a1 a2 a3 a4 a5 a6 a7 a8 b1 b2 b3 b4 b5, D_X9_won F p1 p2 p3 oth ca cb cz' co cm now nx row spk gd words can ins trad tak = some (r, a1, a2, a3, a4, a5, a6, a7, a8) ∧ D_X10_won F p1 p2 p3 l sta one two ways nowM th = some (r, b1, b2, b3, b4, b5) := by
  have hM0 := ok.2.2.2.1 0 (by decide)
  have hM1 := ok.2.2.2.1 1 (by decide)
  have hT0 := ok.2.2.2.2.1 0 (by decide)
  have hT1 := ok.2.2.2.2.1 1 (by decide)
  obtain ⟨hc1, -, -, -, hc5, -⟩ := id hc
  obtain ⟨hm1, -, -, hm4, -⟩ := id hm
  unfold D_X9_won D_X10_won
  rw [isMeaning_of, bd1_s, zb_if, isMeaningM_of, bd1_s, zb_if]
  by_cases h1 : 0 ≤ p1.toInt ∧ p1.toInt < 8
  case neg => rw [if_neg h1, if_neg h1]; exact ⟨_, _, _, _, _, _, _, _, _, _, _, _, _, _, rfl, rfl⟩
  rw [if_pos h1, if_pos h1, isMeetings_of, bd1_s, zb_if, in200, bd1_s, zb_if]
  by_cases h2 : 0 ≤ p2.toInt ∧ p2.toInt < 201
  case neg => rw [if_neg h2, if_neg h2]; exact ⟨_, _, _, _, _, _, _, _, _, _, _, _, _, _, rfl, rfl⟩
  rw [if_pos h2, if_pos h2, isPeople_of, bd1_s, zb_if, in01, bd1_s, zb_if]
  by_cases h3 : 0 ≤ p3.toInt ∧ p3.toInt < 2
  case neg => rw [if_neg h3, if_neg h3]; exact ⟨_, _, _, _, _, _, _, _, _, _, _, _, _, _, rfl, rfl⟩
  rw [if_pos h3, if_pos h3]
  obtain ⟨m, hm8, rfl⟩ := ti_in h1.1 (n := 8) h1.2
  obtain ⟨n, hn, rfl⟩ := ti_in h2.1 (n := 201) h2.2
  obtain ⟨p, hp, rfl⟩ := ti_in h3.1 (n := 2) h3.2
  by_cases t : told b m
  · rw [(isTold_of ok hc1 hm8).1 t, bd1_s, if_n1, (isToldM_of ok hm1 hm8).1 t, bd1_s, if_n1]
    obtain ⟨q1, q2, e1, k1⟩ := start_of hF ok hc okf ho hm8 ca cb cz' co now row
    obtain ⟨z1, z2⟩ := at0_ok hM0.2 hM1.2 (okf m hm8).1 (okf m hm8).2
    obtain ⟨r1, r2, r3, e2, k2⟩ := meet_of hF hM0.1 hM0.2 hM1.1 hM1.2 (hab_le ok (m := m) hT0 hT1) k1 z1 z2 (n := n) (by omega) cm nx
    obtain ⟨s1, s2, s3, s4, s5, e3, k3⟩ := asTold_of hF ok hm okf hs hm8 (n := n) (by omega) one two ways nowM th
    rw [e1, bd6_s, e2, bd3_s, allSaying_of k2 hp hM0.2 hM1.2, bd1_s, e3, bd5_s, ck_n (by decide) (by decide), ck_n (by decide) (by decide), nI_clamp (by decide), nI_clamp (by decide), show l 298 = nI (bM b 0) from hm4 0 (by decide), show l 299 = nI (bM b 1) from hm4 1 (by decide), wonBy_of k3 hp hM0.2 hM1.2, bd1_s]
    exact ⟨_, _, _, _, _, _, _, _, _, _, _, _, _, _, rfl, rfl⟩
  · rw [(isTold_of ok hc1 hm8).2 t, bd1_s, if_n0, (isToldM_of ok hm1 hm8).2 t, bd1_s, if_n0]; exact ⟨_, _, _, _, _, _, _, _, _, _, _, _, _, _, rfl, rfl⟩
theorem e_use (hF : 600 ≤ F) (ok : okB b) (hc : clB b words heard can ins trad tak jM jP jT uT need spk gd) (hm : moB b l) (okf : okS b f) (ho : holdS f oth) (hs : holdS f sta) (p1 p2 ca cb cz' co cm : Int32) (now nx : Nat → Int64) (row one two ways : Nat → Int32) (nowM th : Nat → Int64) : ∃ r a1 a2 a3 a4 a5 a6 a7 a8 b1 b2 b3 b4 b5, D_X9_use F p1 p2 oth ca cb cz' co cm now nx row spk gd words can ins trad tak = some (r, a1, a2, a3, a4, a5, a6, a7, a8) ∧ D_X10_use F p1 p2 l sta one two ways nowM th = some (r, b1, b2, b3, b4, b5) := by
  have hM0 := ok.2.2.2.1 0 (by decide)
  have hM1 := ok.2.2.2.1 1 (by decide)
  have hT0 := ok.2.2.2.2.1 0 (by decide)
  have hT1 := ok.2.2.2.2.1 1 (by decide)
  obtain ⟨hc1, -, -, -, hc5, -⟩ := id hc
  obtain ⟨hm1, -, -, hm4, -⟩ := id hm
  unfold D_X9_use D_X10_use
  rw [isMeaning_of, bd1_s, zb_if, isMeaningM_of, bd1_s, zb_if]
  by_cases h1 : 0 ≤ p1.toInt ∧ p1.toInt < 8
  case neg => rw [if_neg h1, if_neg h1]; exact ⟨_, _, _, _, _, _, _, _, _, _, _, _, _, _, rfl, rfl⟩
  rw [if_pos h1, if_pos h1, isMeetings_of, bd1_s, zb_if, in200, bd1_s, zb_if]
  by_cases h2 : 0 ≤ p2.toInt ∧ p2.toInt < 201
  case neg => rw [if_neg h2, if_neg h2]; exact ⟨_, _, _, _, _, _, _, _, _, _, _, _, _, _, rfl, rfl⟩
  rw [if_pos h2, if_pos h2]
  obtain ⟨m, hm8, rfl⟩ := ti_in h1.1 (n := 8) h1.2
  obtain ⟨n, hn, rfl⟩ := ti_in h2.1 (n := 201) h2.2
  by_cases t : told b m
  · rw [(isTold_of ok hc1 hm8).1 t, bd1_s, if_n1, (isToldM_of ok hm1 hm8).1 t, bd1_s, if_n1]
    obtain ⟨q1, q2, e1, k1⟩ := start_of hF ok hc okf ho hm8 ca cb cz' co now row
    obtain ⟨z1, z2⟩ := at0_ok hM0.2 hM1.2 (okf m hm8).1 (okf m hm8).2
    obtain ⟨r1, r2, r3, e2, k2⟩ := meet_of hF hM0.1 hM0.2 hM1.1 hM1.2 (hab_le ok (m := m) hT0 hT1) k1 z1 z2 (n := n) (by omega) cm nx
    obtain ⟨s1, s2, s3, s4, s5, e3, k3⟩ := asTold_of hF ok hm okf hs hm8 (n := n) (by omega) one two ways nowM th
    have a298 : l 298 = nI (bM b 0) := hm4 0 (by decide)
    have a299 : l 299 = nI (bM b 1) := hm4 1 (by decide)
    rw [e1, bd6_s, e2, bd3_s, e3, bd5_s]
    unfold D_X1_sayingWordZero
    generalize itn (stp (bM b 0) (bM b 1) (zhB b m (bT b 0)) (ohB b m (bT b 1))) n (at0 (f (2 * m)) (f (2 * m + 1))) = N at k2 k3
    obtain ⟨v1, v2, hq, g1, g2⟩ := lpg_sim (bot1 := fun _ _ => none) (body1 := b_X1_sayingWordZero_4 (nI (bM b 0)) (nI (bM b 1)) r2 F) (bot2 := fun _ _ => none) (body2 := b_X10_use_43 l F s4) (fun f (t : Int64 × Int32) => f t.1 t.2) (fun f (t : Int64 × Int32) => f t.1 t.2)
      (fun d t1 t2 => ∃ (v : Int64) (x : Nat), x + d = bM b 0 + 1 ∧ t1 = (v, nI x) ∧ t2 = (v, nI x)) (fun r1 r2 => r1 = r2)
      (by
        rintro rec1 rec2 d t1 t2 ⟨v, x, hxd, rfl, rfl⟩
        dsimp only
        rw [b_X1_sayingWordZero_4, b_X10_use_43, ck_n (by decide) (by decide), nI_clamp (by decide), a298]
        by_cases hd : d = 0
        · left
          rw [if_pos (nI_lt (by omega) (by omega)), if_pos (nI_lt (by omega) (by omega))]; exact ⟨_, _, rfl, rfl, rfl⟩
        · right
          rw [if_neg (nI_nlt (by omega) (by omega)), if_neg (nI_nlt (by omega) (by omega))]
          obtain ⟨v1, v2, hq, g1, g2⟩ := lpg_sim (bot1 := fun _ _ => none) (body1 := b_X1_sayingWordZero_15 (nI (bM b 0)) (nI (bM b 1)) r2 (nI x)) (bot2 := fun _ _ => none) (body2 := b_X10_use_59 l s4 (nI x)) (fun f (t : Int64 × Int32) => f t.1 t.2) (fun f (t : Int64 × Int32) => f t.1 t.2)
            (fun d t1 t2 => ∃ (v : Int64) (y : Nat), y + d = bM b 1 + 1 ∧ t1 = (v, nI y) ∧ t2 = (v, nI y)) (fun r1 r2 => r1 = r2)
            (by
              rintro rec1 rec2 d t1 t2 ⟨v, y, hyd, rfl, rfl⟩
              dsimp only
              rw [b_X1_sayingWordZero_15, b_X10_use_59, ck_n (by decide) (by decide), nI_clamp (n := 299) (by decide), a299]
              simp only [nm_s]
              by_cases hd : d = 0
              · left
                rw [if_pos (nI_lt (by omega) (by omega)), if_pos (nI_lt (by omega) (by omega))]; exact ⟨_, _, rfl, rfl, rfl⟩
              · right
                rw [if_neg (nI_nlt (by omega) (by omega)), if_neg (nI_nlt (by omega) (by omega)), inStand_of k2 (by omega) (by omega), bd1_s, ck_n (by decide) (by decide), nI_clamp (n := 298) (by decide), a298, pk_mul, nI_add, nI_add, ck_n (by omega) (by decide), nI_clamp (by omega), k3 _ (by omega)]
                exact ⟨d - 1, (_, nI (y + 1)), (_, nI (y + 1)), by omega, ⟨_, y + 1, by omega, rfl, rfl⟩, rfl, rfl⟩)
            (bM b 1 + 1) F (v, nI 0) (v, nI 0) (by omega) ⟨v, 0, by omega, rfl, rfl⟩
          dsimp only at g1 g2
          subst hq
          rw [g1, g2, bd1_s, bd1_s, nm_s, nm_s, nI_add]
          exact ⟨d - 1, (v1, nI (x + 1)), (v1, nI (x + 1)), by omega, ⟨v1, x + 1, by omega, rfl, rfl⟩, rfl, rfl⟩)
      (bM b 0 + 1) F (lN 0, nI 0) (lN 0, nI 0) (by omega) ⟨lN 0, 0, by omega, rfl, rfl⟩
    dsimp only at g1 g2
    subst hq
    rw [g1, g2, bd1_s, bd1_s, bd1_s]
    exact ⟨_, _, _, _, _, _, _, _, _, _, _, _, _, _, rfl, rfl⟩
  · rw [(isTold_of ok hc1 hm8).2 t, bd1_s, if_n0, (isToldM_of ok hm1 hm8).2 t, bd1_s, if_n0]; exact ⟨_, _, _, _, _, _, _, _, _, _, _, _, _, _, rfl, rfl⟩
end MC
