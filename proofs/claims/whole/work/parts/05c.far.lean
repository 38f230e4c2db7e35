/-! PURE: how far two words are apart -/
def drow (prev : Nat → Nat) (ui : Nat) (v : Nat → Nat) (first : Nat) : Nat → Nat
  | 0 => first
  | j + 1 => min (prev j + if ui = v j then 0 else 1) (min (prev (j + 1)) (drow prev ui v first j) + 1)
def dd (u v : Nat → Nat) : Nat → Nat → Nat
  | 0 => fun j => j
  | i + 1 => drow (dd u v i) (u i) v (i + 1)
def dist (u v : List Nat) : Nat := dd (fun i => u.getD i 0) (fun j => v.getD j 0) u.length v.length
theorem dd_0 (u v : Nat → Nat) (j : Nat) : dd u v 0 j = j := rfl
theorem dd_s0 (u v : Nat → Nat) (i : Nat) : dd u v (i + 1) 0 = i + 1 := rfl
theorem dd_i0 (u v : Nat → Nat) (i : Nat) : dd u v i 0 = i := by cases i <;> rfl
theorem dd_ss (u v : Nat → Nat) (i j : Nat) : dd u v (i + 1) (j + 1) = min (dd u v i j + if u i = v j then 0 else 1) (min (dd u v i (j + 1)) (dd u v (i + 1) j) + 1) := rfl
theorem dd_le (u v : Nat → Nat) : ∀ i j, dd u v i j ≤ i + j := by
  intro i
  induction i with
  | zero => intro j; rw [dd_0]; omega
  | succ i ih =>
    intro j
    induction j with
    | zero => rw [dd_s0]; omega
    | succ j jh => rw [dd_ss]; omega
theorem dd_self (u : Nat → Nat) : ∀ i, dd u u i i = 0 := by
  intro i
  induction i with
  | zero => rfl
  | succ i ih => rw [dd_ss, ih, if_pos rfl]; omega
theorem dist_self (u : List Nat) : dist u u = 0 := dd_self _ _
theorem dist_le (u v : List Nat) : dist u v ≤ u.length + v.length := dd_le _ _ _ _
theorem min_n {a b : Nat} (ha : a < 2 ^ 31) (hb : b < 2 ^ 31) : (if nI b < nI a then nI b else nI a) = nI (min a b) := by
  by_cases h : b < a
  · rw [if_pos (nI_lt h ha), Nat.min_eq_right (by omega)]
  · rw [if_neg (nI_nlt (by omega) hb), Nat.min_eq_left (by omega)]
theorem max_n {a b : Nat} (ha : a < 2 ^ 31) (hb : b < 2 ^ 31) : (if nI a < nI b then nI b else nI a) = nI (max a b) := by
  by_cases h : a < b
  · rw [if_pos (nI_lt h hb), Nat.max_eq_right (by omega)]
  · rw [if_neg (nI_nlt (by omega) ha), Nat.max_eq_left (by omega)]
theorem least_n {a b : Nat} (ha : a < 2 ^ 31) (hb : b < 2 ^ 31) : D_X10_least (nI a) (nI b) = some (nI (min a b)) := by
  unfold D_X10_least
  by_cases h : b ≤ a
  · rw [if_pos (nI_le h ha), Nat.min_eq_right h]
  · rw [if_neg (nI_leN hb ha (by omega)), Nat.min_eq_left (by omega)]
theorem apart_of {F : Nat} (hF : 600 ≤ F) {u v : List Nat} (hu : okw u) (hv : okw v) (row : Nat → Int32) : ∃ row', D_X3_apart F (nI (enc u)) (nI (enc v)) row = some (nI (dist u v), row') := by
  have hu1 := hu.1
  have hv1 := hv.1
  generalize hU : (fun i => u.getD i 0) = U
  generalize hV : (fun j => v.getD j 0) = V
  have gU : ∀ i, u.getD i 0 = U i := fun i => by rw [← hU]
  have gV : ∀ j, v.getD j 0 = V j := fun j => by rw [← hV]
  have hdl := dd_le U V
  unfold D_X3_apart
  rw [length_enc hv, bd1_s, min_n (by omega) (by omega), nm_s, Nat.min_eq_left (by omega)]
  -- the first row
  obtain ⟨r0, hr0, e0⟩ := lpg_ind (bot := fun _ _ => none) (body := b_X3_apart_13 (nI v.length)) (fun f (s : Int32 × (Nat → Int32)) => f s.1 s.2)
    (fun d s => ∃ j y, j + d = v.length + 1 ∧ s = (nI j, y) ∧ ∀ i, i < j → y i = nI i) (fun r => ∀ i, i ≤ v.length → r i = nI i)
    (by
      rintro rec d s ⟨j, y, hj, rfl, hy⟩
      dsimp only
      rw [b_X3_apart_13]
      by_cases hd : d = 0
      · left
        exact ⟨y, fun i hi => hy i (by omega), if_pos (nI_lt (by omega) (by omega))⟩
      · right
        rw [if_neg (nI_nlt (by omega) (by omega)), ck_n (by omega) (by decide), nm_s, nI_add, nI_clamp (by omega)]
        refine ⟨d - 1, (nI (j + 1), upd y j (nI j)), by omega, ⟨j + 1, _, by omega, rfl, fun i hi => ?_⟩, rfl⟩
        by_cases e : i = j
        · rw [e, pk_us]
        · rw [pk_un e]; exact hy i (by omega))
    (v.length + 1) F (nI 0, row) (by omega) ⟨0, row, by omega, rfl, fun i hi => absurd hi (Nat.not_lt_zero i)⟩
  dsimp only at e0
  rw [e0, bd1_s]
  -- the rows
  obtain ⟨r1, hr1, e1⟩ := lpg_ind (bot := fun _ _ => none) (body := b_X3_apart_37 (nI (enc u)) (nI (enc v)) F (nI v.length)) (fun f (s : Int32 × (Nat → Int32)) => f s.1 s.2)
    (fun d s => ∃ i y, i + d = u.length ∧ s = (nI (i + 1), y) ∧ ∀ j, j ≤ v.length → y j = nI (dd U V i j)) (fun r => ∀ j, j ≤ v.length → r j = nI (dd U V u.length j))
    (by
      rintro rec d s ⟨i, y, hi, rfl, hy⟩
      dsimp only
      rw [b_X3_apart_37, length_enc hu, bd1_s]
      by_cases hd : d = 0
      · left
        have e : i = u.length := by omega
        subst e
        exact ⟨y, hy, if_pos (nI_lt (by omega) (by omega))⟩
      · right
        rw [if_neg (nI_nlt (by omega) (by omega)), ck_n (by omega) (by decide), nm_s, nI_clamp (by decide), ck_n (by omega) (by decide), hy 0 (by omega)]
        obtain ⟨r2, hr2, e2⟩ := lpg_ind (bot := fun _ _ _ => none) (body := b_X3_apart_65 (nI (enc u)) (nI (enc v)) (nI v.length) (nI (i + 1))) (fun f (s : Int32 × Int32 × (Nat → Int32)) => f s.1 s.2.1 s.2.2)
          (fun d s => ∃ j z, j + d = v.length ∧ s = (nI (dd U V i j), nI (j + 1), z) ∧ (∀ k, k ≤ j → z k = nI (dd U V (i + 1) k)) ∧ ∀ k, j < k → k ≤ v.length → z k = nI (dd U V i k)) (fun r => ∀ j, j ≤ v.length → r j = nI (dd U V (i + 1) j))
          (by
            rintro rec d s ⟨j, z, hj, rfl, hz1, hz2⟩
            dsimp only
            rw [b_X3_apart_65]
            by_cases hd : d = 0
            · left
              exact ⟨z, fun k hk => hz1 k (by omega), if_pos (nI_lt (by omega) (by omega))⟩
            · right
              have h1 := hdl i j
              have h2 := hdl i (j + 1)
              have h3 := hdl (i + 1) j
              have h4 := hdl (i + 1) (j + 1)
              rw [if_neg (nI_nlt (by omega) (by omega)), pk_sub (by omega), pk_sub (by omega), Nat.add_sub_cancel, Nat.add_sub_cancel, soundAt_enc hu (by omega), bd1_s, soundAt_enc hv (by omega), bd1_s, gU, gV]
              have hsu : U i < 16 := by rw [← gU]; exact hu.2 _ (getD_mem (by omega))
              have hsv : V j < 16 := by rw [← gV]; exact hv.2 _ (getD_mem (by omega))
              have hstep : ∀ (x : Nat), x < 100 → j_X3_apart_99 (nI (j + 1)) z rec (nI x) = rec (nI (dd U V i (j + 1))) (nI (j + 1 + 1)) (upd z (j + 1) (nI (min x (min (dd U V i (j + 1)) (dd U V (i + 1) j) + 1)))) := by
                intro x hx
                rw [j_X3_apart_99, ck_n (by omega) (by decide), nm_s, nI_clamp (by omega), ck_n (by omega) (by decide), pk_sub (by omega), ck_n (by omega) (by decide), nI_clamp (by omega), Nat.add_sub_cancel, hz2 (j + 1) (by omega) (by omega), hz1 j (Nat.le_refl j), nm_s, min_n (by omega) (by omega), nI_add, nI_add, min_n (by omega) (by omega), ck_n (by omega) (by decide), nm_s]
              have hfin : (if nI (U i) = nI (V j) then j_X3_apart_99 (nI (j + 1)) z rec (nI (dd U V i j)) else j_X3_apart_99 (nI (j + 1)) z rec (nI (dd U V i j) + nI 1)) = rec (nI (dd U V i (j + 1))) (nI (j + 1 + 1)) (upd z (j + 1) (nI (dd U V (i + 1) (j + 1)))) := by
                rw [dd_ss]
                by_cases e : U i = V j
                · rw [if_pos (by rw [e]), if_pos e, hstep _ (by omega)]; rfl
                · rw [if_neg (fun q => e ((nI_eq (by omega) (by omega)).mp q)), if_neg e, nI_add, hstep _ (by omega)]
              rw [hfin]
              refine ⟨d - 1, (nI (dd U V i (j + 1)), nI (j + 1 + 1), upd z (j + 1) (nI (dd U V (i + 1) (j + 1)))), by omega, ⟨j + 1, upd z (j + 1) (nI (dd U V (i + 1) (j + 1))), by omega, rfl, fun k hk => ?_, fun k hk hk2 => ?_⟩, rfl⟩
              · by_cases e : k = j + 1
                · rw [e, pk_us]
                · rw [pk_un e]; exact hz1 k (by omega)
              · rw [pk_un (by omega)]; exact hz2 k (by omega) hk2)
          v.length F (nI (dd U V i 0), nI 1, upd y 0 (nI (i + 1))) (by omega) ⟨0, _, by omega, rfl, fun k hk => by
            rw [show k = 0 by omega, pk_us, dd_s0], fun k hk hk2 => by rw [pk_un (by omega)]; exact hy k hk2⟩
        dsimp only at e2
        rw [e2, bd1_s, nm_s, nI_add]
        exact ⟨d - 1, (nI (i + 1 + 1), r2), by omega, ⟨i + 1, r2, by omega, rfl, hr2⟩, rfl⟩)
    u.length F (nI 1, r0) (by omega) ⟨0, r0, by omega, rfl, fun j hj => by rw [hr0 j hj, dd_0]⟩
  dsimp only at e1
  rw [e1, bd1_s, ck_n (by omega) (by decide), nI_clamp (by omega), hr1 v.length (Nat.le_refl _)]
  refine ⟨r1, ?_⟩
  unfold dist
  rw [hU, hV]
theorem farOf_of {F : Nat} (hF : 600 ≤ F) {u v : List Nat} {one two : Nat → Int32} (hu : isW one 0 u) (hv : isW two 0 v) (ways : Nat → Int32) : ∃ ways', D_X10_farOf F one two ways = some (nI (dist u v), ways') := by
  obtain ⟨hu, hu0, huk⟩ := hu
  obtain ⟨hv, hv0, hvk⟩ := hv
  have hu1 := hu.1
  have hv1 := hv.1
  generalize hU : (fun i => u.getD i 0) = U
  generalize hV : (fun j => v.getD j 0) = V
  have gU : ∀ i, u.getD i 0 = U i := fun i => by rw [← hU]
  have gV : ∀ j, v.getD j 0 = V j := fun j => by rw [← hV]
  have hdl := dd_le U V
  unfold D_X10_farOf
  obtain ⟨r1, hr1, e1⟩ := lpg_ind (bot := fun _ _ => none) (body := b_X10_farOf_2 one two F) (fun f (s : Int32 × (Nat → Int32)) => f s.1 s.2)
    (fun d s => ∃ i y, i + d = u.length + 1 ∧ s = (nI i, y) ∧ ∀ a b, a < i → b ≤ v.length → y (7 * a + b) = nI (dd U V a b)) (fun r => ∀ a b, a ≤ u.length → b ≤ v.length → r (7 * a + b) = nI (dd U V a b))
    (by
      rintro rec d s ⟨i, y, hi, rfl, hy⟩
      dsimp only
      rw [b_X10_farOf_2, ck_n (by decide) (by decide), nI_clamp (by decide), hu0]
      by_cases hd : d = 0
      · left
        exact ⟨y, fun a b ha hb => hy a b (by omega) hb, if_pos (nI_lt (by omega) (by omega))⟩
      · right
        rw [if_neg (nI_nlt (by omega) (by omega))]
        obtain ⟨r2, hr2, e2⟩ := lpg_ind (bot := fun _ _ => none) (body := b_X10_farOf_14 one two (nI i)) (fun f (s : Int32 × (Nat → Int32)) => f s.1 s.2)
          (fun d s => ∃ j z, j + d = v.length + 1 ∧ s = (nI j, z) ∧ (∀ a b, a < i → b ≤ v.length → z (7 * a + b) = nI (dd U V a b)) ∧ ∀ b, b < j → z (7 * i + b) = nI (dd U V i b)) (fun r => ∀ a b, a < i + 1 → b ≤ v.length → r (7 * a + b) = nI (dd U V a b))
          (by
            rintro rec d s ⟨j, z, hj, rfl, hz1, hz2⟩
            dsimp only
            rw [b_X10_farOf_14, ck_n (by decide) (by decide), nI_clamp (by decide), hv0]
            by_cases hd : d = 0
            · left
              refine ⟨z, fun a b ha hb => ?_, if_pos (nI_lt (by omega) (by omega))⟩
              by_cases e : a = i
              · rw [e]; exact hz2 b (by omega)
              · exact hz1 a b (by omega) hb
            · right
              have hj1 : j ≤ v.length := by omega
              have hi1 : i ≤ u.length := by omega
              have hput : ∀ (x : Nat), j_X10_farOf_126 (nI i) (nI j) z rec (nI x) = rec (nI (j + 1)) (upd z (7 * i + j) (nI x)) := by
                intro x
                rw [j_X10_farOf_126, pk_mul, nI_add, ck_n (by omega) (by decide), nm_s, nI_add, nI_clamp (by omega)]
              have hfin : ∀ (e0 : Nat), (i = 0 ∨ j = 0 → e0 = dd U V i j) → j_X10_farOf_42 one two (nI i) (nI j) z rec (nI e0) = rec (nI (j + 1)) (upd z (7 * i + j) (nI (dd U V i j))) := by
                intro e0 he0
                rw [j_X10_farOf_42]
                by_cases ci : i = 0
                · rw [ci, if_pos (by decide), ← ci, hput, he0 (Or.inl ci)]
                · rw [if_neg (by rw [zl0]; exact nI_leN (by omega) (by decide) (by omega))]
                  by_cases cj : j = 0
                  · rw [cj, if_pos (by decide), ← cj, hput, he0 (Or.inr cj)]
                  · obtain ⟨i', rfl⟩ : ∃ i', i = i' + 1 := ⟨i - 1, by omega⟩
                    obtain ⟨j', rfl⟩ : ∃ j', j = j' + 1 := ⟨j - 1, by omega⟩
                    have h1 := hdl i' j'
                    have h2 := hdl i' (j' + 1)
                    have h3 := hdl (i' + 1) j'
                    have h86 : ∀ (x : Nat), x ≤ 1 → j_X10_farOf_86 (nI (i' + 1)) (nI (j' + 1)) z rec (nI (dd U V i' j')) (nI x) = rec (nI (j' + 1 + 1)) (upd z (7 * (i' + 1) + (j' + 1)) (nI (min (dd U V i' j' + x) (min (dd U V i' (j' + 1)) (dd U V (i' + 1) j') + 1)))) := by
                      intro x hx
                      rw [j_X10_farOf_86, nI_add, nm_s, pk_sub (by omega), Nat.add_sub_cancel, pk_mul, nI_add, ck_n (by omega) (by decide), pk_mul, nI_add, pk_sub (by omega), ck_n (by omega) (by decide), nI_clamp (by omega), nI_clamp (by omega), hz1 i' (j' + 1) (by omega) (by omega), show 7 * (i' + 1) + (j' + 1) - 1 = 7 * (i' + 1) + j' by omega, hz2 j' (by omega), least_n (by omega) (by omega), bd1_s, nI_add, least_n (by omega) (by omega), bd1_s, hput, Nat.add_comm 1]
                    have hsu : U i' < 16 := by rw [← gU]; exact hu.2 _ (getD_mem (by omega))
                    have hsv : V j' < 16 := by rw [← gV]; exact hv.2 _ (getD_mem (by omega))
                    have ou : one (i' + 1) = nI (U i') := by rw [← gU, ← huk i' (by omega)]; congr 1; omega
                    have ov : two (j' + 1) = nI (V j') := by rw [← gV, ← hvk j' (by omega)]; congr 1; omega
                    rw [if_neg (by rw [zl0]; exact nI_leN (by omega) (by decide) (by omega)), pk_sub (by omega), Nat.add_sub_cancel, pk_mul, nI_add, pk_sub (by omega), ck_n (by omega) (by decide), ck_n (by omega) (by decide), ck_n (by omega) (by decide), nI_clamp (by omega), nI_clamp (by omega), nI_clamp (by omega), ou, ov, show 7 * i' + (j' + 1) - 1 = 7 * i' + j' by omega, hz1 i' j' (by omega) (by omega), dd_ss]
                    by_cases e : U i' = V j'
                    · rw [if_pos (by rw [e]), if_pos e, h86 0 (by omega)]
                    · rw [if_neg (fun q => e ((nI_eq (by omega) (by omega)).mp q)), if_neg e, h86 1 (by omega)]
              have hall : (if nI i = 0 then j_X10_farOf_42 one two (nI i) (nI j) z rec (nI j) else if nI j = 0 then j_X10_farOf_42 one two (nI i) (nI j) z rec (nI i) else j_X10_farOf_42 one two (nI i) (nI j) z rec (nI 99)) = rec (nI (j + 1)) (upd z (7 * i + j) (nI (dd U V i j))) := by
                by_cases ci : i = 0
                · rw [if_pos (by rw [ci]; rfl), hfin j (fun _ => by rw [ci, dd_0])]
                · rw [if_neg (nI_ne0 (by omega) (by omega))]
                  by_cases cj : j = 0
                  · rw [if_pos (by rw [cj]; rfl), hfin i (fun _ => by rw [cj, dd_i0])]
                  · rw [if_neg (nI_ne0 (by omega) (by omega)), hfin 99 (fun h => by omega)]
              rw [if_neg (nI_nlt (by omega) (by omega)), hall]
              refine ⟨d - 1, (nI (j + 1), upd z (7 * i + j) (nI (dd U V i j))), by omega, ⟨j + 1, upd z (7 * i + j) (nI (dd U V i j)), by omega, rfl, fun a b ha hb => ?_, fun b hb => ?_⟩, rfl⟩
              · rw [pk_un (by omega)]; exact hz1 a b ha hb
              · by_cases e : b = j
                · rw [e, pk_us]
                · rw [pk_un (by omega)]; exact hz2 b (by omega))
          (v.length + 1) F (nI 0, y) (by omega) ⟨0, y, by omega, rfl, hy, fun b hb => absurd hb (Nat.not_lt_zero b)⟩
        dsimp only at e2
        rw [e2, bd1_s, nm_s, nI_add]
        exact ⟨d - 1, (nI (i + 1), r2), by omega, ⟨i + 1, r2, by omega, rfl, hr2⟩, rfl⟩)
    (u.length + 1) F (nI 0, ways) (by omega) ⟨0, ways, by omega, rfl, fun a b ha hb => absurd ha (Nat.not_lt_zero a)⟩
  dsimp only at e1
  rw [e1, bd1_s, ck_n (by decide) (by decide), ck_n (by decide) (by decide), nI_clamp (by decide), hu0, hv0, pk_mul, nI_add, ck_n (by omega) (by decide), nI_clamp (by omega), hr1 u.length v.length (Nat.le_refl _) (Nat.le_refl _)]
  refine ⟨r1, ?_⟩
  unfold dist
  rw [hU, hV]
theorem dd_le_max (u v : Nat → Nat) : ∀ i j, dd u v i j ≤ max i j := by
  intro i
  induction i with
  | zero => intro j; rw [dd_0]; omega
  | succ i ih =>
    intro j
    cases j with
    | zero => rw [dd_s0]; omega
    | succ j =>
      rw [dd_ss]
      have := ih j
      have h2 : (if u i = v j then 0 else 1) ≤ 1 := by split <;> omega
      omega
theorem dist_max (u v : List Nat) : dist u v ≤ max u.length v.length := dd_le_max _ _ _ _
/-- how like two words are -/
def lk (u v : List Nat) : Nat := if max u.length v.length = 0 then 100 else 100 - 100 * dist u v / max u.length v.length
theorem lk_le (u v : List Nat) : lk u v ≤ 100 := by unfold lk; split; exact Nat.le_refl _; exact Nat.sub_le _ _
theorem likeness_of {F : Nat} (hF : 600 ≤ F) {u v : List Nat} (hu : okw u) (hv : okw v) (row : Nat → Int32) : ∃ row', D_X3_likeness F (nI (enc u)) (nI (enc v)) row = some (nI (lk u v), row') := by
  have hu1 := hu.1
  have hv1 := hv.1
  unfold D_X3_likeness
  rw [length_enc hu, bd1_s, length_enc hv, bd1_s, nm_s, max_n (by omega) (by omega)]
  unfold lk
  by_cases h : max u.length v.length = 0
  · rw [h, if_n0, if_pos rfl]; exact ⟨row, rfl⟩
  · obtain ⟨row', hr⟩ := apart_of hF hu hv row
    have hm := dist_max u v
    rw [if_neg (nI_ne0 (by omega) (by omega)), if_neg h, hr, bd2_s, dz_n (by omega) (by omega), pk_mul, pk_div (by omega) (by omega) (by omega), pk_sub]
    · exact ⟨row', rfl⟩
    · exact Nat.div_le_of_le_mul (by rw [Nat.mul_comm]; exact Nat.mul_le_mul_right _ hm)
theorem likeOf_of {F : Nat} (hF : 600 ≤ F) {u v : List Nat} {one two : Nat → Int32} (hu : isW one 0 u) (hv : isW two 0 v) (ways : Nat → Int32) : ∃ ways', D_X10_likeOf F one two ways = some (nI (lk u v), ways') := by
  obtain ⟨ways', hr⟩ := farOf_of hF hu hv ways
  have hu1 := hu.1.1
  have hv1 := hv.1.1
  have hm := dist_max u v
  have key : ∀ m, m = max u.length v.length → ∃ ways', j_X10_likeOf_30 one two ways F (nI m) = some (nI (lk u v), ways') := by
    intro m e
    unfold j_X10_likeOf_30 lk
    rw [← e]
    by_cases h : m = 0
    · rw [h, if_n0, if_pos rfl]; exact ⟨ways, rfl⟩
    · rw [if_neg (nI_ne0 (by omega) (by omega)), if_neg h, hr, bd2_s, dz_n (by omega) (by omega), pk_mul, pk_div (by omega) (by omega) (by omega), pk_sub]
      · exact ⟨ways', rfl⟩
      · exact Nat.div_le_of_le_mul (by rw [Nat.mul_comm]; exact Nat.mul_le_mul_right _ (by omega))
  unfold D_X10_likeOf
  rw [ck_n (by decide) (by decide), ck_n (by decide) (by decide), nI_clamp (by decide), hu.2.1, hv.2.1]
  by_cases h : u.length ≤ v.length
  · rw [if_pos (nI_le h (by omega)), ck_n (by decide) (by decide)]; exact key _ (by omega)
  · rw [if_neg (nI_leN (by omega) (by omega) (by omega)), ck_n (by decide) (by decide)]; exact key _ (by omega)
