/-! PURE: whole meetings -/
theorem zo_sc {a b zh oh : Nat} (ha8 : a ≤ 8) (hb8 : b ≤ 8) {N T : Nat → Nat} (h : zo a b T) {x y : Nat} (hx : x ≤ a) (hy : y ≤ b) : zo a b (sc a b zh oh N x y T) := by
  intro k hk
  have h0 := h k hk
  unfold sc ad
  have po : ∀ g, 0 < qp a b (N (9 * x + y)) ((a - x) * (b - y)) g → x < a ∧ y < b := by
    intro g hg
    rcases Nat.eq_zero_or_pos ((a - x) * (b - y)) with e | e
    · rw [e, qp_0] at hg; omega
    · have := Nat.pos_of_mul_pos_right e
      have := Nat.pos_of_mul_pos_left e
      omega
  have pt : ∀ g, 0 < qp a b (N (9 * x + y)) (x * y) g → 0 < x ∧ 0 < y := by
    intro g hg
    rcases Nat.eq_zero_or_pos (x * y) with e | e
    · rw [e, qp_0] at hg; omega
    · exact ⟨Nat.pos_of_mul_pos_right e, Nat.pos_of_mul_pos_left e⟩
  have a1 : (if k = 9 * x + y then N (9 * x + y) - qp a b (N (9 * x + y)) ((a - x) * (b - y)) zh - qp a b (N (9 * x + y)) (x * y) zh - qp a b (N (9 * x + y)) ((a - x) * (b - y)) oh - qp a b (N (9 * x + y)) (x * y) oh else 0) = 0 := if_neg (by omega)
  have a2 : (if k = 9 * (x + 1) + y then qp a b (N (9 * x + y)) ((a - x) * (b - y)) zh else 0) = 0 := by
    split
    · rcases Nat.eq_zero_or_pos (qp a b (N (9 * x + y)) ((a - x) * (b - y)) zh) with q | q
      · exact q
      · have := po _ q; omega
    · rfl
  have a3 : (if k = 9 * x + y + 1 then qp a b (N (9 * x + y)) ((a - x) * (b - y)) oh else 0) = 0 := by
    split
    · rcases Nat.eq_zero_or_pos (qp a b (N (9 * x + y)) ((a - x) * (b - y)) oh) with q | q
      · exact q
      · have := po _ q; omega
    · rfl
  have a4 : (if k = 9 * (x - 1) + y then qp a b (N (9 * x + y)) (x * y) zh else 0) = 0 := by
    split
    · rcases Nat.eq_zero_or_pos (qp a b (N (9 * x + y)) (x * y) zh) with q | q
      · exact q
      · have := pt _ q; omega
    · rfl
  have a5 : (if k = 9 * x + y - 1 then qp a b (N (9 * x + y)) (x * y) oh else 0) = 0 := by
    split
    · rcases Nat.eq_zero_or_pos (qp a b (N (9 * x + y)) (x * y) oh) with q | q
      · exact q
      · have := pt _ q; omega
    · rfl
  rw [a1, a2, a3, a4, a5, h0]
theorem zo_sr {a b zh oh : Nat} (ha8 : a ≤ 8) (hb8 : b ≤ 8) {N : Nat → Nat} {x : Nat} (hx : x ≤ a) : ∀ (y : Nat) (T : Nat → Nat), y ≤ b + 1 → zo a b T → zo a b (sr a b zh oh N x y T) := by
  intro y
  induction y with
  | zero => intro T _ h; exact h
  | succ y ih => intro T hy h; exact zo_sc ha8 hb8 (ih T (by omega) h) hx (by omega)
theorem zo_sg {a b zh oh : Nat} (ha8 : a ≤ 8) (hb8 : b ≤ 8) {N : Nat → Nat} : ∀ (x : Nat), x ≤ a + 1 → zo a b (sg a b zh oh N x) := by
  intro x
  induction x with
  | zero => intro _ k _; rfl
  | succ x ih => intro hx; exact zo_sr ha8 hb8 (by omega) (b + 1) _ (Nat.le_refl _) (ih (by omega))
theorem cell_eq {a b zh oh : Nat} (ha : 1 ≤ a) (hb : 1 ≤ b) (hb8 : b ≤ 8) (hh : zh + oh ≤ 100) {N T U : Nat → Nat} {x y : Nat} (hx : x ≤ a) (hy : y ≤ b) (hU : ∀ j, j < 81 → U j = T j + rm_ N x y j) {j : Nat} (hj : j < 81) : tr (tr (tr (tr U (9 * x + y) (9 * (x + 1) + y) (qp a b (N (9 * x + y)) ((a - x) * (b - y)) zh)) (9 * x + y) (9 * x + y + 1) (qp a b (N (9 * x + y)) ((a - x) * (b - y)) oh)) (9 * x + y) (9 * (x - 1) + y) (qp a b (N (9 * x + y)) (x * y) zh)) (9 * x + y) (9 * x + y - 1) (qp a b (N (9 * x + y)) (x * y) oh) j = sc a b zh oh N x y T j + rm_ N x (y + 1) j := by
  have hpl := parts_le (c := N (9 * x + y)) ha hb hx hy hh
  have hUj := hU j hj
  have bt0 : x = 0 → qp a b (N (9 * x + y)) (x * y) zh = 0 := fun h => by rw [h, Nat.zero_mul, qp_0]
  have dt0 : y = 0 → qp a b (N (9 * x + y)) (x * y) oh = 0 := fun h => by rw [h, Nat.mul_zero, qp_0]
  have dt1 : x = 0 → qp a b (N (9 * x + y)) (x * y) oh = 0 := fun h => by rw [h, Nat.zero_mul, qp_0]
  unfold tr sc ad
  by_cases e : j = 9 * x + y
  · have r1 : rm_ N x y j = N (9 * x + y) := by
      unfold rm_; rw [if_neg (by omega), e]
    have r2 : rm_ N x (y + 1) j = 0 := by
      unfold rm_; rw [if_pos (by omega)]
    rw [r2]
    rw [r1] at hUj
    generalize qp a b (N (9 * x + y)) ((a - x) * (b - y)) zh = A at *
    generalize qp a b (N (9 * x + y)) (x * y) zh = B at *
    generalize qp a b (N (9 * x + y)) ((a - x) * (b - y)) oh = C at *
    generalize qp a b (N (9 * x + y)) (x * y) oh = D at *
    rw [if_pos e, if_pos e, if_pos e, if_pos e, if_pos e, if_neg (by omega), if_neg (by omega)]
    have b4 : (if j = 9 * (x - 1) + y then B else 0) = 0 := by
      split
      · exact bt0 (by omega)
      · rfl
    have b5 : (if j = 9 * x + y - 1 then D else 0) = 0 := by
      split
      · exact dt1 (by omega)
      · rfl
    rw [b4, b5, hUj]
    omega
  · have r1 : rm_ N x (y + 1) j = rm_ N x y j := by
      unfold rm_
      by_cases q : j / 9 < x ∨ (j / 9 = x ∧ j % 9 < y)
      · rw [if_pos q, if_pos (by omega)]
      · rw [if_neg q, if_neg (by omega)]
    rw [r1]
    simp only [if_neg e]
    rw [hUj]
    omega
theorem meetOnce_of {F : Nat} (hF : 600 ≤ F) {a b : Nat} (ha : 1 ≤ a) (ha8 : a ≤ 8) (hb : 1 ≤ b) (hb8 : b ≤ 8) {zh oh : Nat} (hh : zh + oh ≤ 100) {N : Nat → Nat} {now : Nat → Int64} (hn : holdL N now) (hzo : zo a b N) (hsum : sumN N 81 ≤ 1000000) (mv0 : Int32) (nx : Nat → Int64) : ∃ mv now' nx', D_X1_meetOnce F (nI a) (nI b) (nI zh) (nI oh) mv0 now nx = some (mv, mv, now', nx') ∧ holdL (stp a b zh oh N) now' ∧ sumN (stp a b zh oh N) 81 ≤ 1000000 ∧ ((mv = nI 0 ∧ stp a b zh oh N = N) ∨ (mv = nI 1 ∧ ¬ (zh = 0 ∧ oh = 0))) := by
  have hN : ∀ k, k < 81 → N k ≤ 1000000 := fun k hk => Nat.le_trans (sum_ge 81 k hk) hsum
  unfold D_X1_meetOnce
  rw [cpk_n (by decide) (by decide) (by decide) (by decide)]
  obtain ⟨⟨mv, nx1⟩, ⟨g1, g2, g3⟩, e1⟩ := lpg_ind (bot := fun _ _ _ => none) (body := b_X1_meetOnce_25 (nI a) (nI b) (nI zh) (nI oh) now F) (fun f (s : Int32 × Int32 × (Nat → Int64)) => f s.1 s.2.1 s.2.2)
    (fun d s => ∃ x mv nx U, x + d = a + 1 ∧ s = (nI x, mv, nx) ∧ holdL U nx ∧ (∀ k, k < 81 → U k = sg a b zh oh N x k + rm_ N x 0 k) ∧ sumN U 81 ≤ 1000000 ∧ ((mv = nI 0 ∧ ∀ k, k < 81 → U k = N k) ∨ (mv = nI 1 ∧ ¬ (zh = 0 ∧ oh = 0)))) (fun r => holdL (stp a b zh oh N) r.2 ∧ sumN (stp a b zh oh N) 81 ≤ 1000000 ∧ ((r.1 = nI 0 ∧ stp a b zh oh N = N) ∨ (r.1 = nI 1 ∧ ¬ (zh = 0 ∧ oh = 0))))
    (by
      rintro rec d s ⟨x, mv, nx, U, hxd, rfl, h1, h2, h3, h4⟩
      dsimp only
      rw [b_X1_meetOnce_25]
      by_cases hd : d = 0
      · left
        have e : x = a + 1 := by omega
        subst e
        have hUT : ∀ k, k < 81 → U k = stp a b zh oh N k := by
          intro k hk
          rw [h2 k hk]
          have : rm_ N (a + 1) 0 k = 0 := by
            unfold rm_
            split
            · rfl
            · exact hzo k (by omega)
          rw [this]; rfl
        refine ⟨_, ⟨fun k hk => ?_, ?_, ?_⟩, if_pos (nI_lt (by omega) (by omega))⟩
        · rw [← hUT k hk]; exact h1 k hk
        · rw [← sum_congr 81 hUT]; exact h3
        · rcases h4 with ⟨q1, q2⟩ | q
          · refine Or.inl ⟨q1, funext fun k => ?_⟩
            by_cases hk : k < 81
            · rw [← hUT k hk]; exact q2 k hk
            · rw [hzo k (by omega)]; exact zo_sg ha8 hb8 (a + 1) (Nat.le_refl _) k (by omega)
          · exact Or.inr q
      · right
        have hx : x ≤ a := by omega
        rw [if_neg (nI_nlt hx (by omega))]
        obtain ⟨⟨mv2, nx2⟩, ⟨U2, k1, k2, k3, k4⟩, e2⟩ := lpg_ind (bot := fun _ _ _ => none) (body := b_X1_meetOnce_35 (nI a) (nI b) (nI zh) (nI oh) now (nI x)) (fun f (s : Int32 × Int32 × (Nat → Int64)) => f s.1 s.2.1 s.2.2)
          (fun d s => ∃ y mv nx U, y + d = b + 1 ∧ s = (nI y, mv, nx) ∧ holdL U nx ∧ (∀ k, k < 81 → U k = sr a b zh oh N x y (sg a b zh oh N x) k + rm_ N x y k) ∧ sumN U 81 ≤ 1000000 ∧ ((mv = nI 0 ∧ ∀ k, k < 81 → U k = N k) ∨ (mv = nI 1 ∧ ¬ (zh = 0 ∧ oh = 0)))) (fun r => ∃ U, holdL U r.2 ∧ (∀ k, k < 81 → U k = sr a b zh oh N x (b + 1) (sg a b zh oh N x) k + rm_ N x (b + 1) k) ∧ sumN U 81 ≤ 1000000 ∧ ((r.1 = nI 0 ∧ ∀ k, k < 81 → U k = N k) ∨ (r.1 = nI 1 ∧ ¬ (zh = 0 ∧ oh = 0))))
          (by
            rintro rec d s ⟨y, mv, nx, U, hyd, rfl, h1, h2, h3, h4⟩
            dsimp only
            rw [b_X1_meetOnce_35]
            by_cases hd : d = 0
            · left
              have e : y = b + 1 := by omega
              subst e
              exact ⟨_, ⟨U, h1, h2, h3, h4⟩, if_pos (nI_lt (by omega) (by omega))⟩
            · right
              have hy : y ≤ b := by omega
              have hz : 9 * x + y < 81 := by omega
              have hUz : N (9 * x + y) ≤ U (9 * x + y) := by
                rw [h2 _ hz]
                have : rm_ N x y (9 * x + y) = N (9 * x + y) := by unfold rm_; rw [if_neg (by omega)]
                omega
              rw [if_neg (nI_nlt hy (by omega))]
              obtain ⟨mv', nx', f1, q1, q2, q3⟩ := part_of ha ha8 hb hb8 hh hn h1 hx hy (hN _ hz) hUz mv
              rw [f1, bd2_s, nm_s, nI_add]
              refine ⟨d - 1, (nI (y + 1), mv', nx'), by omega, ⟨y + 1, mv', nx', _, by omega, rfl, q1, fun k hk => ?_, by rw [q3]; exact h3, ?_⟩, rfl⟩
              · exact cell_eq ha hb hb8 hh hx hy h2 hk
              · rcases q2 with ⟨g1, g2, g3, g4, g5⟩ | ⟨g1, g2⟩
                · rcases h4 with ⟨w1, w2⟩ | ⟨w1, w2⟩
                  · refine Or.inl ⟨by rw [g1, w1], fun k hk => ?_⟩
                    rw [g2, g3, g4, g5, tr_0, tr_0, tr_0, tr_0]; exact w2 k hk
                  · exact Or.inr ⟨by rw [g1, w1], w2⟩
                · refine Or.inr ⟨g1, fun w => ?_⟩
                  rw [w.1, w.2] at g2
                  have z0 : ∀ w, qp a b (N (9 * x + y)) w 0 = 0 := by intro w; unfold qp; rw [Nat.mul_zero, Nat.zero_div]
                  rw [z0, z0] at g2
                  omega)
          (b + 1) F (nI 0, mv, nx) (by omega) ⟨0, mv, nx, U, by omega, rfl, h1, h2, h3, h4⟩
        dsimp only at e2 k1 k4
        rw [e2, bd2_s, nm_s, nI_add]
        refine ⟨d - 1, (nI (x + 1), mv2, nx2), by omega, ⟨x + 1, mv2, nx2, U2, by omega, rfl, k1, fun k hk => ?_, k3, k4⟩, rfl⟩
        rw [k2 k hk]
        have : rm_ N x (b + 1) k = rm_ N (x + 1) 0 k := by
          unfold rm_
          by_cases q : k / 9 < x ∨ (k / 9 = x ∧ k % 9 < b + 1)
          · rw [if_pos q, if_pos (by omega)]
          · rw [if_neg q]
            split
            · exact hzo k (by omega)
            · rfl
        rw [this]; rfl)
    (a + 1) F (nI 0, nI 0, va_cpy now nx (nI 0).toNatClampNeg (nI 0).toNatClampNeg (nI 81).toNatClampNeg) (by omega) ⟨0, nI 0, _, N, by omega, rfl, fun k hk => by
      rw [nI_clamp (by decide), nI_clamp (by decide), pk_cpy_in (by omega) (by omega), show 0 + (k - 0) = k by omega]; exact hn k hk, fun k hk => by
      unfold rm_ sg; rw [if_neg (by omega), Nat.zero_add], hsum, Or.inl ⟨rfl, fun k _ => rfl⟩⟩
  dsimp only at e1 g1 g2 g3
  rw [e1, bd2_s, cpk_n (by decide) (by decide) (by decide) (by decide)]
  have hcz : ∀ {α : Type} {r : Option α}, cz mv r = r := by
    intro α r
    rcases g3 with q | q
    · rw [q.1]; exact cz_0
    · rw [q.1]; exact cz_1
  rw [hcz]
  refine ⟨mv, _, nx1, rfl, fun k hk => ?_, g2, g3⟩
  rw [nI_clamp (by decide), nI_clamp (by decide), pk_cpy_in (by omega) (by omega), show 0 + (k - 0) = k by omega]; exact g1 k hk
theorem meetM_of {F : Nat} (hF : 600 ≤ F) {a b : Nat} (ha : 1 ≤ a) (ha8 : a ≤ 8) (hb : 1 ≤ b) (hb8 : b ≤ 8) {s k0 k1 : Nat} (hs : s ≤ 10) (hk0 : k0 ≤ 10) (hk1 : k1 ≤ 10) {N : Nat → Nat} {now : Nat → Int64} (hn : holdL N now) (hsum : sumN N 81 ≤ 1000000) {l : Nat → Int32} (hl : l 302 = nI s) (th : Nat → Int64) : ∃ now' th', D_X10_meet F (nI a) (nI b) (nI k0) (nI k1) l now th = some (now', th') ∧ holdL (stp a b ((10 - s) * k0) (s * k1) N) now' := by
  have hN : ∀ k, k < 81 → N k ≤ 1000000 := fun k hk => Nat.le_trans (sum_ge 81 k hk) hsum
  unfold D_X10_meet
  obtain ⟨t0, g0, e0⟩ := lpg_ind (bot := fun _ _ => none) (body := b_X10_meet_3) (fun f (s : Int32 × (Nat → Int64)) => f s.1 s.2)
    (fun d s => ∃ k t, k + d = 81 ∧ s = (nI k, t) ∧ ∀ j, j < k → t j = lN 0) (fun r => holdL (fun _ => 0) r)
    (by
      rintro rec d s ⟨k, t, hk, rfl, h1⟩
      dsimp only
      rw [b_X10_meet_3]
      by_cases hd : d = 0
      · left
        exact ⟨_, fun j hj => h1 j (by omega), if_pos (nI_le (by omega) (by omega))⟩
      · right
        rw [if_neg (nI_leN (by omega) (by omega) (by omega)), ck_n (by omega) (by decide), nm_s, nI_add, nI_clamp (by omega)]
        refine ⟨d - 1, (nI (k + 1), vp_updL t k (lN 0)), by omega, ⟨k + 1, vp_updL t k (lN 0), by omega, rfl, fun j hj => ?_⟩, rfl⟩
        by_cases e : j = k
        · rw [e, pk_uLs]
        · rw [pk_uLn e]; exact h1 j (by omega))
    81 F (nI 0, th) (by omega) ⟨0, th, by omega, rfl, fun j hj => absurd hj (Nat.not_lt_zero j)⟩
  dsimp only at e0
  rw [e0, bd1_s, ck_n (by decide) (by decide), nm_s, nI_clamp (by decide), hl]
  obtain ⟨t1, g1, e1⟩ := lpg_ind (bot := fun _ _ => none) (body := b_X10_meet_37 (nI a) (nI b) (nI k0) (nI k1) now F (nI s)) (fun f (s : Int32 × (Nat → Int64)) => f s.1 s.2)
    (fun d r => ∃ x t, x + d = a + 1 ∧ r = (nI x, t) ∧ holdL (sg a b ((10 - s) * k0) (s * k1) N x) t) (fun r => holdL (stp a b ((10 - s) * k0) (s * k1) N) r)
    (by
      rintro rec d r ⟨x, t, hxd, rfl, h1⟩
      dsimp only
      rw [b_X10_meet_37]
      by_cases hd : d = 0
      · left
        have e : x = a + 1 := by omega
        subst e
        exact ⟨_, h1, if_pos (nI_lt (by omega) (by omega))⟩
      · right
        have hx : x ≤ a := by omega
        rw [if_neg (nI_nlt hx (by omega))]
        obtain ⟨t2, g2, e2⟩ := lpg_ind (bot := fun _ _ => none) (body := b_X10_meet_46 (nI a) (nI b) (nI k0) (nI k1) now (nI s) (nI x)) (fun f (s : Int32 × (Nat → Int64)) => f s.1 s.2)
          (fun d r => ∃ y t, y + d = b + 1 ∧ r = (nI y, t) ∧ holdL (sr a b ((10 - s) * k0) (s * k1) N x y (sg a b ((10 - s) * k0) (s * k1) N x)) t) (fun r => holdL (sg a b ((10 - s) * k0) (s * k1) N (x + 1)) r)
          (by
            rintro rec d r ⟨y, t, hyd, rfl, h1⟩
            dsimp only
            by_cases hd : d = 0
            · left
              have e : y = b + 1 := by omega
              subst e
              rw [b_X10_meet_46]
              exact ⟨_, h1, if_pos (nI_lt (by omega) (by omega))⟩
            · right
              have hy : y ≤ b := by omega
              obtain ⟨t', f1, f2⟩ := cellM ha ha8 hb hb8 hs hk0 hk1 hn h1 hx hy (hN _ (by omega)) rec
              rw [f1]
              exact ⟨d - 1, (nI (y + 1), t'), by omega, ⟨y + 1, t', by omega, rfl, f2⟩, rfl⟩)
          (b + 1) F (nI 0, t) (by omega) ⟨0, t, by omega, rfl, h1⟩
        dsimp only at e2
        rw [e2, bd1_s, nm_s, nI_add]
        exact ⟨d - 1, (nI (x + 1), t2), by omega, ⟨x + 1, t2, by omega, rfl, g2⟩, rfl⟩)
    (a + 1) F (nI 0, t0) (by omega) ⟨0, t0, by omega, rfl, g0⟩
  dsimp only at e1
  rw [e1, bd1_s]
  obtain ⟨t3, g3, e3⟩ := lpg_ind (bot := fun _ _ => none) (body := b_X10_meet_328 t1) (fun f (s : Int32 × (Nat → Int64)) => f s.1 s.2)
    (fun d r => ∃ k t, k + d = 81 ∧ r = (nI k, t) ∧ ∀ j, j < k → t j = lN (stp a b ((10 - s) * k0) (s * k1) N j)) (fun r => holdL (stp a b ((10 - s) * k0) (s * k1) N) r)
    (by
      rintro rec d r ⟨k, t, hk, rfl, h1⟩
      dsimp only
      rw [b_X10_meet_328]
      by_cases hd : d = 0
      · left
        exact ⟨_, fun j hj => h1 j (by omega), if_pos (nI_le (by omega) (by omega))⟩
      · right
        rw [if_neg (nI_leN (by omega) (by omega) (by omega)), ck_n (by omega) (by decide), nm_s, ck_n (by omega) (by decide), nm_s, nI_add, nI_clamp (by omega), g1 k (by omega)]
        refine ⟨d - 1, (nI (k + 1), vp_updL t k (lN (stp a b ((10 - s) * k0) (s * k1) N k))), by omega, ⟨k + 1, vp_updL t k (lN (stp a b ((10 - s) * k0) (s * k1) N k)), by omega, rfl, fun j hj => ?_⟩, rfl⟩
        by_cases e : j = k
        · rw [e, pk_uLs]
        · rw [pk_uLn e]; exact h1 j (by omega))
    81 F (nI 0, now) (by omega) ⟨0, now, by omega, rfl, fun j hj => absurd hj (Nat.not_lt_zero j)⟩
  dsimp only at e3
  rw [e3, bd1_s]
  exact ⟨_, _, rfl, g3⟩
