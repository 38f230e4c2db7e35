/-! PURE: many meetings; the calls that ask of them -/
def itn {α : Type} (f : α → α) : Nat → α → α
  | 0, x => x
  | n + 1, x => f (itn f n x)
theorem itn_fix {α : Type} {f : α → α} {x : α} {t : Nat} (h : f (itn f t x) = itn f t x) : ∀ n, t ≤ n → itn f n x = itn f t x := by
  intro n
  induction n with
  | zero => intro hn; rw [show t = 0 by omega]
  | succ n ih =>
    intro hn
    by_cases e : t = n + 1
    · rw [e]
    · show f (itn f n x) = _
      rw [ih (by omega)]; exact h
theorem zo_stp {a b zh oh : Nat} (ha8 : a ≤ 8) (hb8 : b ≤ 8) {N : Nat → Nat} : zo a b (stp a b zh oh N) := zo_sg ha8 hb8 (a + 1) (Nat.le_refl _)
theorem stp_sum {a b : Nat} (ha : 1 ≤ a) (ha8 : a ≤ 8) (hb : 1 ≤ b) (hb8 : b ≤ 8) {zh oh : Nat} (hh : zh + oh ≤ 100) {N : Nat → Nat} (hzo : zo a b N) (hsum : sumN N 81 ≤ 1000000) : sumN (stp a b zh oh N) 81 ≤ 1000000 ∧ (zh = 0 ∧ oh = 0 → stp a b zh oh N = N) := by
  obtain ⟨mv, n1, n2, -, -, h3, h4⟩ := meetOnce_of (F := 600) (Nat.le_refl _) ha ha8 hb hb8 hh (now := fun k => lN (N k)) (fun k _ => rfl) hzo hsum (nI 0) (fun _ => lN 0)
  refine ⟨h3, fun q => ?_⟩
  rcases h4 with w | w
  · exact w.2
  · exact absurd q w.2
theorem itn_ok {a b : Nat} (ha : 1 ≤ a) (ha8 : a ≤ 8) (hb : 1 ≤ b) (hb8 : b ≤ 8) {zh oh : Nat} (hh : zh + oh ≤ 100) {N : Nat → Nat} (hzo : zo a b N) (hsum : sumN N 81 ≤ 1000000) : ∀ t, zo a b (itn (stp a b zh oh) t N) ∧ sumN (itn (stp a b zh oh) t N) 81 ≤ 1000000 := by
  intro t
  induction t with
  | zero => exact ⟨hzo, hsum⟩
  | succ t ih => exact ⟨zo_stp ha8 hb8, (stp_sum ha ha8 hb hb8 hh ih.1 ih.2).1⟩
theorem itn_00 {a b : Nat} (ha : 1 ≤ a) (ha8 : a ≤ 8) (hb : 1 ≤ b) (hb8 : b ≤ 8) {N : Nat → Nat} (hzo : zo a b N) (hsum : sumN N 81 ≤ 1000000) (t : Nat) : itn (stp a b 0 0) t N = N :=
  itn_fix (t := 0) ((stp_sum ha ha8 hb hb8 (by decide) hzo hsum).2 ⟨rfl, rfl⟩) t (Nat.zero_le t)
theorem meet_of {F : Nat} (hF : 600 ≤ F) {a b : Nat} (ha : 1 ≤ a) (ha8 : a ≤ 8) (hb : 1 ≤ b) (hb8 : b ≤ 8) {zh oh : Nat} (hh : zh + oh ≤ 100) {N : Nat → Nat} {now : Nat → Int64} (hn : holdL N now) (hzo : zo a b N) (hsum : sumN N 81 ≤ 1000000) {n : Nat} (hn2 : n ≤ 200) (mv0 : Int32) (nx : Nat → Int64) : ∃ mv now' nx', D_X1_meet F (nI n) (nI a) (nI b) (nI zh) (nI oh) mv0 now nx = some (mv, now', nx') ∧ holdL (itn (stp a b zh oh) n N) now' := by
  unfold D_X1_meet
  obtain ⟨⟨r1, r2, r3⟩, hr, e⟩ := lpg_ind (bot := fun _ _ _ _ _ => none) (body := b_X1_meet_4 (nI n) (nI a) (nI b) (nI zh) (nI oh) F) (fun f (s : Int32 × Int32 × Int32 × (Nat → Int64) × (Nat → Int64)) => f s.1 s.2.1 s.2.2.1 s.2.2.2.1 s.2.2.2.2)
    (fun d s => ∃ t g mv nw nx, t + d = n ∧ s = (g, nI t, mv, nw, nx) ∧ holdL (itn (stp a b zh oh) t N) nw ∧ ((g = nI 0 ∧ stp a b zh oh (itn (stp a b zh oh) t N) = itn (stp a b zh oh) t N) ∨ g = nI 1)) (fun r => holdL (itn (stp a b zh oh) n N) r.2.1)
    (by
      rintro rec d s ⟨t, g, mv, nw, nx, htd, rfl, h1, h2⟩
      dsimp only
      rw [b_X1_meet_4]
      by_cases hd : d = 0
      · left
        have e : t = n := by omega
        subst e
        exact ⟨_, h1, if_pos (nI_le (by omega) (by omega))⟩
      · rw [if_neg (nI_leN (by omega) (by omega) (by omega))]
        rcases h2 with ⟨g1, g2⟩ | g1
        · left
          rw [g1, if_n0]
          exact ⟨_, by dsimp only; rw [itn_fix g2 n (by omega)]; exact h1, rfl⟩
        · right
          rw [g1, if_n1]
          obtain ⟨k1, k2⟩ := itn_ok ha ha8 hb hb8 hh hzo hsum t
          obtain ⟨mv', nw', nx', f1, f2, f3, f4⟩ := meetOnce_of hF ha ha8 hb hb8 hh h1 k1 k2 mv nx
          rw [f1, bd4_s, nm_s, nI_add]
          refine ⟨d - 1, (mv', nI (t + 1), mv', nw', nx'), by omega, ⟨t + 1, mv', mv', nw', nx', by omega, rfl, f2, ?_⟩, rfl⟩
          rcases f4 with ⟨q1, q2⟩ | q
          · refine Or.inl ⟨q1, ?_⟩
            show stp a b zh oh (stp a b zh oh (itn (stp a b zh oh) t N)) = stp a b zh oh (itn (stp a b zh oh) t N)
            rw [q2, q2]
          · exact Or.inr q.1)
    n F (nI 1, nI 0, mv0, now, nx) (by omega) ⟨0, nI 1, mv0, now, nx, by omega, rfl, hn, Or.inr rfl⟩
  dsimp only at hr e
  rw [e, bd3_s]
  exact ⟨_, _, _, rfl, hr⟩
/-- the habits of a meaning -/
def zhB (b : BT) (m k0 : Nat) : Nat := if bG b ≤ lkM b m then 0 else (10 - bS b) * k0
def ohB (b : BT) (m k1 : Nat) : Nat := if bG b ≤ lkM b m then 0 else bS b * k1
theorem hab_le {b : BT} (ok : okB b) {m k0 k1 : Nat} (h0 : k0 ≤ 10) (h1 : k1 ≤ 10) : zhB b m k0 + ohB b m k1 ≤ 100 := by
  have hS := ok.2.2.2.2.2.1
  have e1 : (10 - bS b) * k0 ≤ (10 - bS b) * 10 := Nat.mul_le_mul (Nat.le_refl _) h0
  have e2 : bS b * k1 ≤ bS b * 10 := Nat.mul_le_mul (Nat.le_refl _) h1
  unfold zhB ohB
  split <;> omega
theorem goOn_of {F : Nat} (hF : 600 ≤ F) {bb : BT} (ok : okB bb) {l : Nat → Int32} (hm : moB bb l) {m : Nat} (hm8 : m < 8) {a b : Nat} (ha : 1 ≤ a) (ha8 : a ≤ 8) (hb : 1 ≤ b) (hb8 : b ≤ 8) {k0 k1 : Nat} (hk0 : k0 ≤ 10) (hk1 : k1 ≤ 10) {N : Nat → Nat} {now : Nat → Int64} (hn : holdL N now) (hzo : zo a b N) (hsum : sumN N 81 ≤ 1000000) {n : Nat} (hn2 : n ≤ 200) (one two ways : Nat → Int32) (th : Nat → Int64) : ∃ one' two' ways' now' th', D_X10_goOn F (nI m) (nI n) (nI a) (nI b) (nI k0) (nI k1) l one two ways now th = some (one', two', ways', now', th') ∧ holdL (itn (stp a b (zhB bb m k0) (ohB bb m k1)) n N) now' := by
  obtain ⟨hm1, hm2, hm3, -, -, hm6, hm7, -⟩ := hm
  have hS := ok.2.2.2.2.2.1
  have hle := hab_le ok (m := m) hk0 hk1
  unfold D_X10_goOn
  obtain ⟨o1, o2, o3, f0⟩ := isAlikeM_of hF ok hm1 hm2 hm3 hm7 hm8 one two ways
  rw [f0, bd4_s]
  by_cases c : bG bb ≤ lkM bb m
  · rw [if_pos c]
    have e1 : zhB bb m k0 = 0 := if_pos c
    have e2 : ohB bb m k1 = 0 := if_pos c
    rw [e1, e2, itn_00 ha ha8 hb hb8 hzo hsum]
    have : lpg (T := Int32 → (Nat → Int64) → (Nat → Int64) → Option ((Nat → Int64) × (Nat → Int64))) (fun _ _ _ => none) (b_X10_goOn_10 (nI n) (nI a) (nI b) (nI k0) (nI k1) l F (nI 1)) F (nI 0) now th = some (now, th) := by
      obtain ⟨F', rfl⟩ : ∃ F', F = F' + 1 := ⟨F - 1, by omega⟩
      rw [lpg_succ, b_X10_goOn_10, if_n1]
      split <;> rfl
    rw [this, bd2_s]
    exact ⟨_, _, _, _, _, rfl, hn⟩
  · rw [if_neg c]
    have e1 : zhB bb m k0 = (10 - bS bb) * k0 := if_neg c
    have e2 : ohB bb m k1 = bS bb * k1 := if_neg c
    rw [e1, e2] at hle ⊢
    obtain ⟨⟨r1, r2⟩, hr, e⟩ := lpg_ind (bot := fun _ _ _ => none) (body := b_X10_goOn_10 (nI n) (nI a) (nI b) (nI k0) (nI k1) l F (nI 0)) (fun f (s : Int32 × (Nat → Int64) × (Nat → Int64)) => f s.1 s.2.1 s.2.2)
      (fun d s => ∃ t nw th, t + d = n ∧ s = (nI t, nw, th) ∧ holdL (itn (stp a b ((10 - bS bb) * k0) (bS bb * k1)) t N) nw) (fun r => holdL (itn (stp a b ((10 - bS bb) * k0) (bS bb * k1)) n N) r.1)
      (by
        rintro rec d s ⟨t, nw, th, htd, rfl, h1⟩
        dsimp only
        rw [b_X10_goOn_10]
        by_cases hd : d = 0
        · left
          have e : t = n := by omega
          subst e
          exact ⟨_, h1, if_pos (nI_le (by omega) (by omega))⟩
        · right
          obtain ⟨k1', k2'⟩ := itn_ok ha ha8 hb hb8 hle hzo hsum t
          obtain ⟨nw', th', f1, f2⟩ := meetM_of hF ha ha8 hb hb8 hS hk0 hk1 h1 k2' hm6 th
          rw [if_neg (nI_leN (by omega) (by omega) (by omega)), if_n0, f1, bd2_s, nm_s, nI_add]
          exact ⟨d - 1, (nI (t + 1), nw', th'), by omega, ⟨t + 1, nw', th', by omega, rfl, f2⟩, rfl⟩)
      n F (nI 0, now, th) (by omega) ⟨0, now, th, by omega, rfl, hn⟩
    dsimp only at hr e
    rw [e, bd2_s]
    exact ⟨_, _, _, _, _, rfl, hr⟩
/-- all in one stand -/
def at0 (x y : Nat) : Nat → Nat := ad (fun _ => 0) (9 * x + y) 1000000
theorem at0_ok {a b x y : Nat} (ha8 : a ≤ 8) (hb8 : b ≤ 8) (hx : x ≤ a) (hy : y ≤ b) : zo a b (at0 x y) ∧ sumN (at0 x y) 81 ≤ 1000000 := by
  refine ⟨fun k hk => ?_, ?_⟩
  · unfold at0 ad; rw [if_neg (by omega)]
  · unfold at0
    rw [sum_ad]
    have : sumN (fun _ => 0) 81 = 0 := by decide
    rw [this]; split <;> omega
theorem begin_of {F : Nat} (hF : 600 ≤ F) {x y : Nat} (hx : x ≤ 8) (hy : y ≤ 8) (now : Nat → Int64) : ∃ now', D_X1_begin F (nI x) (nI y) now = some now' ∧ holdL (at0 x y) now' := by
  unfold D_X1_begin D_J7_fill_d0a16
  rw [nm_s]
  obtain ⟨r, hr, e⟩ := lpg_ind (bot := fun _ _ => none) (body := b_J7_fill_d0a16_6 (lN 0) 81 (nI 81)) (fun f (s : Int32 × (Nat → Int64)) => f s.1 s.2)
    (fun d s => ∃ k t, k + d = 81 ∧ s = (nI k, t) ∧ ∀ j, j < k → t j = lN 0) (fun r => holdL (fun _ => 0) r)
    (by
      rintro rec d s ⟨k, t, hk, rfl, h1⟩
      dsimp only
      rw [b_J7_fill_d0a16_6]
      by_cases hd : d = 0
      · left
        exact ⟨_, fun j hj => h1 j (by omega), if_pos (nI_le (by omega) (by omega))⟩
      · right
        rw [if_neg (nI_leN (by omega) (by omega) (by omega)), ck_n (by omega) (by decide), nm_s, nI_add, nI_clamp (by omega)]
        refine ⟨d - 1, (nI (k + 1), vp_updL t k (lN 0)), by omega, ⟨k + 1, vp_updL t k (lN 0), by omega, rfl, fun j hj => ?_⟩, rfl⟩
        by_cases e : j = k
        · rw [e, pk_uLs]
        · rw [pk_uLn e]; exact h1 j (by omega))
    81 F (nI 0, now) (by omega) ⟨0, now, by omega, rfl, fun j hj => absurd hj (Nat.not_lt_zero j)⟩
  dsimp only at e
  have h0 : r (9 * x + y) = lN 0 := hr _ (by omega)
  rw [e, bd1_s, bd1_s, place_of, bd1_s, row_add (by omega) (by decide), bd1_s, h0, lN_add, Nat.zero_add]
  refine ⟨_, rfl, fun k hk => ?_⟩
  rw [updL_hold hr (9 * x + y) 1000000 k hk]
  unfold at0 ad
  dsimp only
  by_cases e : k = 9 * x + y
  · rw [if_pos e, Nat.zero_add]
  · rw [if_neg e]
theorem beginAt_of {F : Nat} (hF : 600 ≤ F) {x y : Nat} (hx : x ≤ 8) (hy : y ≤ 8) (now : Nat → Int64) : ∃ now', D_X10_beginAt F (nI x) (nI y) now = some now' ∧ holdL (at0 x y) now' := by
  unfold D_X10_beginAt
  obtain ⟨r, hr, e⟩ := lpg_ind (bot := fun _ _ => none) (body := b_X10_beginAt_2 (nI x) (nI y)) (fun f (s : Int32 × (Nat → Int64)) => f s.1 s.2)
    (fun d s => ∃ k t, k + d = 81 ∧ s = (nI k, t) ∧ ∀ j, j < k → t j = lN (at0 x y j)) (fun r => holdL (at0 x y) r)
    (by
      rintro rec d s ⟨k, t, hk, rfl, h1⟩
      dsimp only
      rw [b_X10_beginAt_2]
      by_cases hd : d = 0
      · left
        exact ⟨_, fun j hj => h1 j (by omega), if_pos (nI_le (by omega) (by omega))⟩
      · right
        simp only [nm_s]
        rw [if_neg (nI_leN (by omega) (by omega) (by omega)), pk_mul, nI_add, ck_n (by omega) (by decide), ck_n (by omega) (by decide), nI_add, nI_clamp (by omega)]
        have fin : ∀ v, v = at0 x y k → ∃ (d' : Nat) (s' : Int32 × (Nat → Int64)), d' < d ∧ (∃ k t, k + d' = 81 ∧ s' = (nI k, t) ∧ ∀ j, j < k → t j = lN (at0 x y j)) ∧ rec (nI (k + 1)) (vp_updL t k (lN v)) = rec s'.1 s'.2 := by
          intro v hv
          refine ⟨d - 1, (nI (k + 1), vp_updL t k (lN v)), by omega, ⟨k + 1, vp_updL t k (lN v), by omega, rfl, fun j hj => ?_⟩, rfl⟩
          by_cases e : j = k
          · rw [e, pk_uLs, hv]
          · rw [pk_uLn e]; exact h1 j (by omega)
        by_cases e : k = 9 * x + y
        · rw [if_pos (by rw [e])]
          have hv : at0 x y k = 1000000 := by unfold at0 ad; rw [if_pos e, Nat.zero_add]
          exact fin 1000000 hv.symm
        · rw [if_neg (fun q => e ((nI_eq (by omega) (by omega)).mp q))]
          have hv : at0 x y k = 0 := by unfold at0 ad; rw [if_neg e]
          exact fin 0 hv.symm)
    81 F (nI 0, now) (by omega) ⟨0, now, by omega, rfl, fun j hj => absurd hj (Nat.not_lt_zero j)⟩
  dsimp only at e
  rw [e, bd1_s]
  exact ⟨_, rfl, hr⟩
