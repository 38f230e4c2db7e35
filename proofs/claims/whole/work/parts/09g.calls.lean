/-! PURE: soon, traders, ready -/
theorem cmpC {w q : Nat} (hw : w ≤ 2000000) (hq : q ≤ 100) : lg_cmp (lN w) ((nI q).toInt64 * lN 10000) < 0 ↔ w < q * 10000 := by
  rw [nI_l (by omega), lN_mul, lg_cmp_lt, pk_lLT (by omega) (by omega)]
theorem enoughM {w q : Nat} (hw : w ≤ 2000000) (hq : q ≤ 100) : D_X10_isEnough (lN w) (nI q) = if w < q * 10000 then some (nI 0) else some (nI 1) := by
  unfold D_X10_isEnough
  have h : lg_cmp (lN w * lN 100) ((nI q).toInt64 * lN 1000000) < 0 ↔ w < q * 10000 := by
    rw [nI_l (by omega), lN_mul, lN_mul, lg_cmp_lt, pk_lLT (by omega) (by omega)]; omega
  by_cases c : w < q * 10000
  · rw [if_pos c, if_pos (h.mpr c)]
  · rw [if_neg c, if_neg (fun z => c (h.mp z))]
theorem wonN_le {N : Nat → Nat} (h : sumN N 81 ≤ 1000000) {p a b : Nat} (ha : a ≤ 8) (hb : b ≤ 8) : wonN N p a b ≤ 1000000 := by
  unfold wonN
  split
  · exact Nat.le_trans (sum_ge 81 b (by omega)) h
  · exact Nat.le_trans (sum_ge 81 (9 * a) (by omega)) h
def fnd (w : Nat → Nat) (q : Nat) : Nat → Nat → Int32
  | _, 0 => (-4 : Int32)
  | t, d + 1 => if w t < q then fnd w q (t + 1) d else nI t
theorem fnd_no {w : Nat → Nat} {q : Nat} : ∀ d t, (∀ u, t ≤ u → w u < q) → fnd w q t d = (-4 : Int32) := by
  intro d
  induction d with
  | zero => intro t _; rfl
  | succ d ih => intro t h; unfold fnd; rw [if_pos (h t (Nat.le_refl t))]; exact ih (t + 1) fun u hu => h u (by omega)
section MD
variable {F : Nat} {b : BT} {words heard can ins trad tak jM jP : Nat → Int32} {jT uT need spk gd : Int32} {l : Nat → Int32} {f : Nat → Nat} {oth sta : Nat → Int32}
theorem e_soon (hF : 600 ≤ F) (ok : okB b) (hc : clB b words heard can ins trad tak jM jP jT uT need spk gd) (hm : moB b l) (okf : okS b f) (ho : holdS f oth) (hs : holdS f sta) (p1 p2 ca cb cz' co cm : Int32) (now nx : Nat → Int64) (row one two ways : Nat → Int32) (nowM th : Nat → Int64) : ∃ r a1 a2 a3 a4 a5 a6 a7 a8 b1 b2 b3 b4 b5, D_X9_soon F p1 p2 oth ca cb cz' co cm now nx row spk gd words can ins trad tak = some (r, a1, a2, a3, a4, a5, a6, a7, a8) ∧ D_X10_soon F p1 p2 l sta one two ways nowM th = some (r, b1, b2, b3, b4, b5) := by
  have hM0 := ok.2.2.2.1 0 (by decide)
  have hM1 := ok.2.2.2.1 1 (by decide)
  have hT0 := ok.2.2.2.2.1 0 (by decide)
  have hT1 := ok.2.2.2.2.1 1 (by decide)
  obtain ⟨hc1, -, -, -, hc5, -⟩ := id hc
  obtain ⟨hm1, -, -, hm4, hm5, -⟩ := id hm
  unfold D_X9_soon D_X10_soon
  rw [isMeaning_of, bd1_s, zb_if, isMeaningM_of, bd1_s, zb_if]
  by_cases h1 : 0 ≤ p1.toInt ∧ p1.toInt < 8
  case neg => rw [if_neg h1, if_neg h1]; exact ⟨_, _, _, _, _, _, _, _, _, _, _, _, _, _, rfl, rfl⟩
  rw [if_pos h1, if_pos h1, isHundredths_of, bd1_s, zb_if, in100, bd1_s, zb_if]
  by_cases h2 : 1 ≤ p2.toInt ∧ p2.toInt < 101
  case neg => rw [if_neg h2, if_neg h2]; exact ⟨_, _, _, _, _, _, _, _, _, _, _, _, _, _, rfl, rfl⟩
  rw [if_pos h2, if_pos h2]
  obtain ⟨m, hm8, rfl⟩ := ti_in h1.1 (n := 8) h1.2
  obtain ⟨q, hq, rfl⟩ := ti_in (x := p2) (by omega) (n := 101) h2.2
  by_cases t : told b m
  case neg => rw [(isTold_of ok hc1 hm8).2 t, bd1_s, if_n0, (isToldM_of ok hm1 hm8).2 t, bd1_s, if_n0]; exact ⟨_, _, _, _, _, _, _, _, _, _, _, _, _, _, rfl, rfl⟩
  rw [(isTold_of ok hc1 hm8).1 t, bd1_s, if_n1, (isToldM_of ok hm1 hm8).1 t, bd1_s, if_n1]
  obtain ⟨q1, q2, e1, k1⟩ := start_of hF ok hc okf ho hm8 ca cb cz' co now row
  obtain ⟨z1, z2⟩ := at0_ok hM0.2 hM1.2 (okf m hm8).1 (okf m hm8).2
  obtain ⟨s1, s2, s3, s4, s5, e3, k3⟩ := asTold_of hF ok hm okf hs hm8 (n := 0) (by omega) one two ways nowM th
  rw [e1, bd6_s, e3, bd5_s]
  have hle := hab_le ok (m := m) hT0 hT1
  have k3b : holdL (at0 (f (2 * m)) (f (2 * m + 1))) s4 := k3
  clear k3
  generalize hN : at0 (f (2 * m)) (f (2 * m + 1)) = N at k1 k3b z1 z2
  generalize hS : stp (bM b 0) (bM b 1) (zhB b m (bT b 0)) (ohB b m (bT b 1)) = S at *
  have iok : ∀ t, zo (bM b 0) (bM b 1) (itn S t N) ∧ sumN (itn S t N) 81 ≤ 1000000 := by
    rw [← hS]; exact itn_ok hM0.1 hM0.2 hM1.1 hM1.2 hle z1 z2
  obtain ⟨W, hW⟩ : ∃ W : Nat → Nat, W = fun t => wonN (itn S t N) 0 (bM b 0) (bM b 1) + wonN (itn S t N) 1 (bM b 0) (bM b 1) := ⟨_, rfl⟩
  have hWt : ∀ t, W t = wonN (itn S t N) 0 (bM b 0) (bM b 1) + wonN (itn S t N) 1 (bM b 0) (bM b 1) := fun t => by rw [hW]
  have hW2 : ∀ t, W t ≤ 2000000 := fun t => by
    rw [hWt]
    have := wonN_le (p := 0) (iok t).2 hM0.2 hM1.2
    have := wonN_le (p := 1) (iok t).2 hM0.2 hM1.2
    omega
  obtain ⟨R, hR⟩ : ∃ R, R = fnd W (q * 10000) 0 201 := ⟨_, rfl⟩
  -- the class
  obtain ⟨⟨c0, c1, c2, c3, c4, c5, c6, c7, c8⟩, hr1, g1⟩ := lpg_ind (bot := fun _ _ _ _ => none) (body := b_X9_soon_37 (nI q) F (nI (bM b 0)) (nI (bM b 1)) (nI (zhB b m (bT b 0))) (nI (ohB b m (bT b 1))) q2) (fun f (s : Int32 × Int32 × (Nat → Int64) × (Nat → Int64)) => f s.1 s.2.1 s.2.2.1 s.2.2.2)
    (fun d s => ∃ t mv nw nx, t + d = 201 ∧ s = (nI t, mv, nw, nx) ∧ holdL (itn S t N) nw ∧ fnd W (q * 10000) t d = R) (fun r => r.1 = R)
    (by
      rintro rec d s ⟨t, mv, nw, nx, htd, rfl, i1, i2⟩
      dsimp only
      rw [b_X9_soon_37]
      by_cases hd : d = 0
      · left
        subst hd
        rw [if_pos (nI_lt (by omega) (by omega))]
        exact ⟨_, i2, rfl⟩
      · obtain ⟨d', rfl⟩ : ∃ d', d = d' + 1 := ⟨d - 1, by omega⟩
        rw [if_neg (nI_nlt (by omega) (by omega)), allSaying_of i1 (by decide) hM0.2 hM1.2, bd1_s, allSaying_of i1 (by decide) hM0.2 hM1.2, bd1_s, lN_add, ← hWt]
        unfold fnd at i2
        by_cases c : W t < q * 10000
        · rw [if_pos ((cmpC (hW2 t) (by omega)).mpr c)]
          rw [if_pos c] at i2
          obtain ⟨mv', nw', nx', f1, f2, f3, f4⟩ := meetOnce_of hF hM0.1 hM0.2 hM1.1 hM1.2 hle i1 (iok t).1 (iok t).2 mv nx
          rw [hS] at f2 f3 f4
          rw [f1, bd4_s]
          rcases f4 with ⟨w1, w2⟩ | ⟨w1, w2⟩
          · left
            rw [w1, if_n0]
            refine ⟨_, ?_, rfl⟩
            dsimp only
            rw [← i2]
            refine (fnd_no d' (t + 1) fun u hu => ?_).symm
            have : W u = W t := by rw [hWt, hWt, itn_fix w2 u (by omega)]
            omega
          · right
            rw [w1, if_n1, nm_s, nI_add]
            exact ⟨d', (nI (t + 1), nI 1, nw', nx'), by omega, ⟨t + 1, nI 1, nw', nx', by omega, rfl, f2, i2⟩, rfl⟩
        · left
          rw [if_neg (fun z => c ((cmpC (hW2 t) (by omega)).mp z))]
          rw [if_neg c] at i2
          exact ⟨_, i2, rfl⟩)
    201 F (nI 0, cm, q1, nx) (by omega) ⟨0, cm, q1, nx, by omega, rfl, k1, hR.symm⟩
  -- the reference
  obtain ⟨⟨d0, d1, d2, d3, d4, d5⟩, hr2, g2⟩ := lpg_ind (bot := fun _ _ _ _ _ _ => none) (body := b_X10_soon_40 (nI m) (nI q) l F) (fun f (s : Int32 × (Nat → Int32) × (Nat → Int32) × (Nat → Int32) × (Nat → Int64) × (Nat → Int64)) => f s.1 s.2.1 s.2.2.1 s.2.2.2.1 s.2.2.2.2.1 s.2.2.2.2.2)
    (fun d s => ∃ t o1 o2 o3 nw th, t + d = 201 ∧ s = (nI t, o1, o2, o3, nw, th) ∧ holdL (itn S t N) nw ∧ fnd W (q * 10000) t d = R) (fun r => r.1 = R)
    (by
      rintro rec d s ⟨t, o1, o2, o3, nw, th, htd, rfl, i1, i2⟩
      dsimp only
      rw [b_X10_soon_40]
      by_cases hd : d = 0
      · left
        subst hd
        rw [if_pos (nI_lt (by omega) (by omega))]
        exact ⟨_, i2, rfl⟩
      · obtain ⟨d', rfl⟩ : ∃ d', d = d' + 1 := ⟨d - 1, by omega⟩
        rw [if_neg (nI_nlt (by omega) (by omega))]
        simp only [ck_n (α := Int32 × (Nat → Int32) × (Nat → Int32) × (Nat → Int32) × (Nat → Int64) × (Nat → Int64)) (n := 336) (i := 298) (by decide) (by decide), ck_n (α := Int32 × (Nat → Int32) × (Nat → Int32) × (Nat → Int32) × (Nat → Int64) × (Nat → Int64)) (n := 336) (i := 299) (by decide) (by decide), ck_n (α := Int32 × (Nat → Int32) × (Nat → Int32) × (Nat → Int32) × (Nat → Int64) × (Nat → Int64)) (n := 336) (i := 300) (by decide) (by decide), ck_n (α := Int32 × (Nat → Int32) × (Nat → Int32) × (Nat → Int32) × (Nat → Int64) × (Nat → Int64)) (n := 336) (i := 301) (by decide) (by decide)]
        rw [nI_clamp (n := 298) (by decide), nI_clamp (n := 299) (by decide), nI_clamp (n := 300) (by decide), nI_clamp (n := 301) (by decide), show l 298 = nI (bM b 0) from hm4 0 (by decide), show l 299 = nI (bM b 1) from hm4 1 (by decide), show l 300 = nI (bT b 0) from hm5 0 (by decide), show l 301 = nI (bT b 1) from hm5 1 (by decide), wonBy_of i1 (by decide) hM0.2 hM1.2, bd1_s, wonBy_of i1 (by decide) hM0.2 hM1.2, bd1_s, lN_add, ← hWt, enoughM (hW2 t) (by omega)]
        unfold fnd at i2
        by_cases c : W t < q * 10000
        · right
          rw [if_pos c] at i2
          rw [if_pos c, bd1_s, if_n0]
          obtain ⟨u1, u2, u3, u4, u5, f1, f2⟩ := goOn_of hF ok hm hm8 hM0.1 hM0.2 hM1.1 hM1.2 hT0 hT1 i1 (iok t).1 (iok t).2 (n := 1) (by decide) o1 o2 o3 th
          rw [hS] at f2
          rw [f1, bd5_s, nm_s, nI_add]
          exact ⟨d', (nI (t + 1), u1, u2, u3, u4, u5), by omega, ⟨t + 1, u1, u2, u3, u4, u5, by omega, rfl, f2, i2⟩, rfl⟩
        · left
          rw [if_neg c] at i2
          rw [if_neg c, bd1_s, if_n1]
          exact ⟨_, i2, rfl⟩)
    201 F (nI 0, s1, s2, s3, s4, s5) (by omega) ⟨0, s1, s2, s3, s4, s5, by omega, rfl, k3b, hR.symm⟩
  dsimp only at hr1 g1 hr2 g2
  rw [g1, g2, hr1, hr2]
  exact ⟨_, _, _, _, _, _, _, _, _, _, _, _, _, _, rfl, rfl⟩
theorem e_traders (hF : 600 ≤ F) (ok : okB b) (hc : clB b words heard can ins trad tak jM jP jT uT need spk gd) (hm : moB b l) (p1 p2 p3 p4 ca cb cz' co cm : Int32) (now nx : Nat → Int64) (row one two ways : Nat → Int32) (nowM th : Nat → Int64) : ∃ r a1 a2 a3 a4 a5 a6 a7 a8 b1 b2 b3 b4 b5, D_X9_traders F p1 p2 p3 p4 ca cb cz' co cm now nx row spk gd words can ins tak = some (r, a1, a2, a3, a4, a5, a6, a7, a8) ∧ D_X10_traders F p1 p2 p3 p4 l one two ways nowM th = some (r, b1, b2, b3, b4, b5) := by
  have hT0 := ok.2.2.2.2.1 0 (by decide)
  have hT1 := ok.2.2.2.2.1 1 (by decide)
  have hS := ok.2.2.2.2.2.1
  obtain ⟨hc1, -, hc3, hc4, hc5, hc6, -, -, -, -, hsp, hgd⟩ := id hc
  obtain ⟨hm1, -, -, hm4, hm5, -⟩ := id hm
  subst hsp hgd
  unfold D_X9_traders D_X10_traders
  rw [isMeaning_of, bd1_s, zb_if, isMeaningM_of, bd1_s, zb_if]
  by_cases h1 : 0 ≤ p1.toInt ∧ p1.toInt < 8
  case neg => rw [if_neg h1, if_neg h1]; exact ⟨_, _, _, _, _, _, _, _, _, _, _, _, _, _, rfl, rfl⟩
  rw [if_pos h1, if_pos h1, isMeetings_of, bd1_s, zb_if, in200, bd1_s, zb_if]
  by_cases h2 : 0 ≤ p2.toInt ∧ p2.toInt < 201
  case neg => rw [if_neg h2, if_neg h2]; exact ⟨_, _, _, _, _, _, _, _, _, _, _, _, _, _, rfl, rfl⟩
  rw [if_pos h2, if_pos h2, isPeople_of, bd1_s, zb_if, in01, bd1_s, zb_if]
  by_cases h3 : 0 ≤ p3.toInt ∧ p3.toInt < 2
  case neg => rw [if_neg h3, if_neg h3]; exact ⟨_, _, _, _, _, _, _, _, _, _, _, _, _, _, rfl, rfl⟩
  rw [if_pos h3, if_pos h3, isHundredths_of, bd1_s, zb_if, in100, bd1_s, zb_if]
  by_cases h4 : 1 ≤ p4.toInt ∧ p4.toInt < 101
  case neg => rw [if_neg h4, if_neg h4]; exact ⟨_, _, _, _, _, _, _, _, _, _, _, _, _, _, rfl, rfl⟩
  rw [if_pos h4, if_pos h4]
  obtain ⟨m, hm8, rfl⟩ := ti_in h1.1 (n := 8) h1.2
  obtain ⟨n, hn, rfl⟩ := ti_in h2.1 (n := 201) h2.2
  obtain ⟨p, hp, rfl⟩ := ti_in h3.1 (n := 2) h3.2
  obtain ⟨q, hq, rfl⟩ := ti_in (x := p4) (by omega) (n := 101) h4.2
  by_cases t : told b m
  case neg => rw [(isTold_of ok hc1 hm8).2 t, bd1_s, if_n0, (isToldM_of ok hm1 hm8).2 t, bd1_s, if_n0]; exact ⟨_, _, _, _, _, _, _, _, _, _, _, _, _, _, rfl, rfl⟩
  rw [(isTold_of ok hc1 hm8).1 t, bd1_s, if_n1, (isToldM_of ok hm1 hm8).1 t, bd1_s, if_n1]
  obtain ⟨row', e1⟩ := isAlike_of hF ok hc1 hc3 hc4 hm8 row
  have hle := hab_le ok (m := m) hT0 hT1
  rw [e1, bd2_s, speaks_of, bd1_s, takesTen_of hc6 (by decide), bd1_s, takesTen_of hc6 (by decide), bd1_s, habits_of hS, bd2_s]
  obtain ⟨⟨c0, c1, c2, c3, c4, c5, c6, c7, c8⟩, ⟨d0, d1, d2, d3, d4, d5⟩, hqq, g1, g2⟩ := lpg_sim (bot1 := fun _ _ _ _ _ _ => none) (body1 := b_X9_traders_83 (nI n) (nI p) (nI q) F row' (nI (zhB b m (bT b 0))) (nI (ohB b m (bT b 1)))) (bot2 := fun _ _ _ _ _ _ => none) (body2 := b_X10_traders_58 (nI m) (nI n) (nI p) (nI q) l F) (fun f (s : Int32 × Int32 × Int32 × Int32 × (Nat → Int64) × (Nat → Int64)) => f s.1 s.2.1 s.2.2.1 s.2.2.2.1 s.2.2.2.2.1 s.2.2.2.2.2) (fun f (s : Int32 × (Nat → Int32) × (Nat → Int32) × (Nat → Int32) × (Nat → Int64) × (Nat → Int64)) => f s.1 s.2.1 s.2.2.1 s.2.2.2.1 s.2.2.2.2.1 s.2.2.2.2.2)
    (fun d s1 s2 => ∃ t xa xb mv nw nx o1 o2 o3 nM th, t + d = 9 ∧ 1 ≤ t ∧ s1 = (nI t, xa, xb, mv, nw, nx) ∧ s2 = (nI t, o1, o2, o3, nM, th)) (fun r1 r2 => r1.1 = r2.1)
    (by
      rintro rec1 rec2 d s1 s2 ⟨t, xa, xb, mv, nw, nx, o1, o2, o3, nM, th, htd, ht1, rfl, rfl⟩
      dsimp only
      rw [b_X9_traders_83, b_X10_traders_58]
      by_cases hd : d = 0
      · left
        rw [if_pos (nI_lt (by omega) (by omega)), if_pos (nI_lt (by omega) (by omega))]; exact ⟨_, _, rfl, rfl, rfl⟩
      · have ht8 : t ≤ 8 := by omega
        obtain ⟨v1, f1, j1⟩ := begin_of hF (x := 0) (y := 0) (by decide) (by decide) nw
        obtain ⟨v2, f2, j2⟩ := beginAt_of hF (x := 0) (y := 0) (by decide) (by decide) nM
        obtain ⟨z1, z2⟩ := at0_ok (a := t) (b := t) (x := 0) (y := 0) ht8 ht8 (by omega) (by omega)
        obtain ⟨r1, r2, r3, f3, j3⟩ := meet_of hF ht1 ht8 ht1 ht8 hle j1 z1 z2 (n := n) (by omega) mv nx
        obtain ⟨u1, u2, u3, u4, u5, f4, j4⟩ := goOn_of hF ok hm hm8 ht1 ht8 ht1 ht8 hT0 hT1 j2 z1 z2 (n := n) (by omega) o1 o2 o3 th
        have hw := wonN_le (p := p) (itn_ok ht1 ht8 ht1 ht8 hle z1 z2 n).2 ht8 ht8
        rw [if_neg (nI_nlt (by omega) (by omega)), if_neg (nI_nlt (by omega) (by omega)), gather_of ht1 ht8 ht1 ht8, bd2_s, f1, bd1_s, f3, bd3_s, allSaying_of j3 hp ht8 ht8, bd1_s, f2, bd1_s, ck_n (by decide) (by decide), ck_n (by decide) (by decide), nI_clamp (n := 300) (by decide), nI_clamp (n := 301) (by decide), show l 300 = nI (bT b 0) from hm5 0 (by decide), show l 301 = nI (bT b 1) from hm5 1 (by decide), f4, bd5_s, wonBy_of j4 hp ht8 ht8, bd1_s, enoughM (by omega) (by omega)]
        simp only [nm_s]
        by_cases c : wonN (itn (stp t t (zhB b m (bT b 0)) (ohB b m (bT b 1))) n (at0 0 0)) p t t < q * 10000
        · right
          rw [if_pos ((cmpC (by omega) (by omega)).mpr c), if_pos c, bd1_s, if_n0, nI_add]
          exact ⟨d - 1, (nI (t + 1), nI t, nI t, r1, r2, r3), (nI (t + 1), u1, u2, u3, u4, u5), by omega, ⟨t + 1, _, _, _, _, _, _, _, _, _, _, by omega, by omega, rfl, rfl⟩, rfl, rfl⟩
        · left
          rw [if_neg (fun z => c ((cmpC (by omega) (by omega)).mp z)), if_neg c, bd1_s, if_n1]
          exact ⟨_, _, rfl, rfl, rfl⟩)
    8 F (nI 1, ca, cb, cm, now, nx) (nI 1, one, two, ways, nowM, th) (by omega) ⟨1, ca, cb, cm, now, nx, one, two, ways, nowM, th, by omega, by omega, rfl, rfl⟩
  dsimp only at g1 g2 hqq
  subst hqq
  rw [g1, g2]
  exact ⟨_, _, _, _, _, _, _, _, _, _, _, _, _, _, rfl, rfl⟩
theorem e_ready (hF : 600 ≤ F) (ok : okB b) (hc : clB b words heard can ins trad tak jM jP jT uT need spk gd) (hm : moB b l) (okf : okS b f) (ho : holdS f oth) (hs : holdS f sta) (p1 p2 p3 p4 ca cb cz' co cm : Int32) (now nx : Nat → Int64) (row one two ways : Nat → Int32) (nowM th : Nat → Int64) : ∃ r a1 a2 a3 a4 a5 a6 a7 a8 b1 b2 b3 b4 b5, D_X9_ready F p1 p2 p3 p4 oth ca cb cz' co cm now nx row spk gd words can ins trad = some (r, a1, a2, a3, a4, a5, a6, a7, a8) ∧ D_X10_ready F p1 p2 p3 p4 l sta one two ways nowM th = some (r, b1, b2, b3, b4, b5) := by
  have hM0 := ok.2.2.2.1 0 (by decide)
  have hM1 := ok.2.2.2.1 1 (by decide)
  have hS := ok.2.2.2.2.2.1
  obtain ⟨hc1, -, hc3, hc4, hc5, -, -, -, -, -, hsp, hgd⟩ := id hc
  obtain ⟨hm1, -, -, hm4, hm5, -⟩ := id hm
  subst hsp hgd
  unfold D_X9_ready D_X10_ready
  rw [isMeaning_of, bd1_s, zb_if, isMeaningM_of, bd1_s, zb_if]
  by_cases h1 : 0 ≤ p1.toInt ∧ p1.toInt < 8
  case neg => rw [if_neg h1, if_neg h1]; exact ⟨_, _, _, _, _, _, _, _, _, _, _, _, _, _, rfl, rfl⟩
  rw [if_pos h1, if_pos h1, isMeetings_of, bd1_s, zb_if, in200, bd1_s, zb_if]
  by_cases h2 : 0 ≤ p2.toInt ∧ p2.toInt < 201
  case neg => rw [if_neg h2, if_neg h2]; exact ⟨_, _, _, _, _, _, _, _, _, _, _, _, _, _, rfl, rfl⟩
  rw [if_pos h2, if_pos h2, isPeople_of, bd1_s, zb_if, in01, bd1_s, zb_if]
  by_cases h3 : 0 ≤ p3.toInt ∧ p3.toInt < 2
  case neg => rw [if_neg h3, if_neg h3]; exact ⟨_, _, _, _, _, _, _, _, _, _, _, _, _, _, rfl, rfl⟩
  rw [if_pos h3, if_pos h3, isHundredths_of, bd1_s, zb_if, in100, bd1_s, zb_if]
  by_cases h4 : 1 ≤ p4.toInt ∧ p4.toInt < 101
  case neg => rw [if_neg h4, if_neg h4]; exact ⟨_, _, _, _, _, _, _, _, _, _, _, _, _, _, rfl, rfl⟩
  rw [if_pos h4, if_pos h4]
  obtain ⟨m, hm8, rfl⟩ := ti_in h1.1 (n := 8) h1.2
  obtain ⟨n, hn, rfl⟩ := ti_in h2.1 (n := 201) h2.2
  obtain ⟨p, hp, rfl⟩ := ti_in h3.1 (n := 2) h3.2
  obtain ⟨q, hq, rfl⟩ := ti_in (x := p4) (by omega) (n := 101) h4.2
  by_cases t : told b m
  case neg => rw [(isTold_of ok hc1 hm8).2 t, bd1_s, if_n0, (isToldM_of ok hm1 hm8).2 t, bd1_s, if_n0]; exact ⟨_, _, _, _, _, _, _, _, _, _, _, _, _, _, rfl, rfl⟩
  rw [(isTold_of ok hc1 hm8).1 t, bd1_s, if_n1, (isToldM_of ok hm1 hm8).1 t, bd1_s, if_n1]
  obtain ⟨row', e1⟩ := isAlike_of hF ok hc1 hc3 hc4 hm8 row
  obtain ⟨f0, f1⟩ := okf m hm8
  obtain ⟨z1, z2⟩ := at0_ok hM0.2 hM1.2 f0 f1
  rw [e1, bd2_s, tradersOf_of hc5 (by decide), bd1_s, tradersOf_of hc5 (by decide), bd1_s, gather_of hM0.1 hM0.2 hM1.1 hM1.2, bd2_s]
  obtain ⟨⟨c0, c1, c2, c3, c4, c5, c6, c7, c8⟩, ⟨d0, d1, d2, d3, d4, d5⟩, hqq, g1, g2⟩ := lpg_sim (bot1 := fun _ _ _ _ _ _ => none) (body1 := b_X9_ready_78 (nI m) (nI n) (nI p) (nI q) oth (nI (bS b)) F (if bG b ≤ lkM b m then nI 1 else nI 0) row' (nI (bM b 0)) (nI (bM b 1))) (bot2 := fun _ _ _ _ _ _ => none) (body2 := b_X10_ready_58 (nI m) (nI n) (nI p) (nI q) l sta F) (fun f (s : Int32 × Int32 × Int32 × Int32 × (Nat → Int64) × (Nat → Int64)) => f s.1 s.2.1 s.2.2.1 s.2.2.2.1 s.2.2.2.2.1 s.2.2.2.2.2) (fun f (s : Int32 × (Nat → Int32) × (Nat → Int32) × (Nat → Int32) × (Nat → Int64) × (Nat → Int64)) => f s.1 s.2.1 s.2.2.1 s.2.2.2.1 s.2.2.2.2.1 s.2.2.2.2.2)
    (fun d s1 s2 => ∃ t xa xb mv nw nx o1 o2 o3 nM th, t + d = 11 ∧ s1 = (nI t, xa, xb, mv, nw, nx) ∧ s2 = (nI t, o1, o2, o3, nM, th)) (fun r1 r2 => r1.1 = r2.1)
    (by
      rintro rec1 rec2 d s1 s2 ⟨t, xa, xb, mv, nw, nx, o1, o2, o3, nM, th, htd, rfl, rfl⟩
      dsimp only
      rw [b_X9_ready_78, b_X10_ready_58]
      by_cases hd : d = 0
      · left
        rw [if_pos (nI_lt (by omega) (by omega)), if_pos (nI_lt (by omega) (by omega))]; exact ⟨_, _, rfl, rfl, rfl⟩
      · have ht10 : t ≤ 10 := by omega
        have hle := hab_le ok (m := m) ht10 ht10
        obtain ⟨v1, w1, j1⟩ := begin_of hF (x := f (2 * m)) (y := f (2 * m + 1)) (by omega) (by omega) nw
        obtain ⟨v2, w2, j2⟩ := beginAt_of hF (x := f (2 * m)) (y := f (2 * m + 1)) (by omega) (by omega) nM
        obtain ⟨r1, r2, r3, w3, j3⟩ := meet_of hF hM0.1 hM0.2 hM1.1 hM1.2 hle j1 z1 z2 (n := n) (by omega) mv nx
        obtain ⟨u1, u2, u3, u4, u5, w4, j4⟩ := goOn_of hF ok hm hm8 hM0.1 hM0.2 hM1.1 hM1.2 ht10 ht10 j2 z1 z2 (n := n) (by omega) o1 o2 o3 th
        have hw := wonN_le (p := p) (itn_ok hM0.1 hM0.2 hM1.1 hM1.2 hle z1 z2 n).2 hM0.2 hM1.2
        rw [if_neg (nI_nlt (by omega) (by omega)), if_neg (nI_nlt (by omega) (by omega)), speaks_of, bd1_s, habits_of hS, bd2_s, of_of ho hm8 (by decide), bd1_s, of_of ho hm8 (by decide), bd1_s, Nat.add_zero, w1, bd1_s, w3, bd3_s, allSaying_of j3 hp hM0.2 hM1.2, bd1_s, pk_mul, nI_add (2 * m) 1, ck_n (by omega) (by decide), ck_n (by omega) (by decide), nI_clamp (n := 2 * m) (by omega), nI_clamp (n := 2 * m + 1) (by omega), hs (2 * m) (by omega), hs (2 * m + 1) (by omega), w2, bd1_s, ck_n (by decide) (by decide), ck_n (by decide) (by decide), nI_clamp (n := 298) (by decide), nI_clamp (n := 299) (by decide), show l 298 = nI (bM b 0) from hm4 0 (by decide), show l 299 = nI (bM b 1) from hm4 1 (by decide), w4, bd5_s, ck_n (by decide) (by decide), ck_n (by decide) (by decide), wonBy_of j4 hp hM0.2 hM1.2, bd1_s, enoughM (by omega) (by omega)]
        simp only [nm_s]
        by_cases c : wonN (itn (stp (bM b 0) (bM b 1) (zhB b m t) (ohB b m t)) n (at0 (f (2 * m)) (f (2 * m + 1)))) p (bM b 0) (bM b 1) < q * 10000
        · right
          rw [if_pos ((cmpC (by omega) (by omega)).mpr c), if_pos c, bd1_s, if_n0, nI_add]
          exact ⟨d - 1, (nI (t + 1), nI (zhB b m t), nI (ohB b m t), r1, r2, r3), (nI (t + 1), u1, u2, u3, u4, u5), by omega, ⟨t + 1, _, _, _, _, _, _, _, _, _, _, by omega, rfl, rfl⟩, rfl, rfl⟩
        · left
          rw [if_neg (fun z => c ((cmpC (by omega) (by omega)).mp z)), if_neg c, bd1_s, if_n1]
          exact ⟨_, _, rfl, rfl, rfl⟩)
    11 F (nI 0, cz', co, cm, now, nx) (nI 0, one, two, ways, nowM, th) (by omega) ⟨0, cz', co, cm, now, nx, one, two, ways, nowM, th, by omega, rfl, rfl⟩
  dsimp only at g1 g2 hqq
  subst hqq
  rw [g1, g2]
  exact ⟨_, _, _, _, _, _, _, _, _, _, _, _, _, _, rfl, rfl⟩
end MD
