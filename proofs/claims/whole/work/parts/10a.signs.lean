/-! PURE: the signs of the text, numbers, single signs, sounds -/
/-- class and reference hold the same text; S is 0 behind it -/
def tx (n : Nat) (S : Nat → Nat) (len : Int32) (bys : Nat → Int32) (size : Int32) (text : Nat → Int32) : Prop :=
  n ≤ 500 ∧ len = nI n ∧ size = nI n ∧ (∀ k, k < n → bys k &&& nI 255 = nI (S k) ∧ text k = nI (S k)) ∧ (∀ k, n ≤ k → S k = 0) ∧ ∀ k, S k < 256
/-- how the class sees the signs -/
def cA (S : Nat → Nat) (len : Int32) (bys : Nat → Int32) : Prop := ∀ p, p ≤ 600 → D_X7_at (nI p) len bys = some (nI (S p))
/-- how the reference sees the signs -/
def mA (S : Nat → Nat) (size : Int32) (text : Nat → Int32) : Prop := ∀ p, p ≤ 600 → ∃ x, D_X10_byteAt size (nI p) text = some x ∧ (x = nI (S p) ∨ (x = (-1 : Int32) ∧ S p = 0))
def sB (S : Nat → Nat) : Prop := (∀ p, S p < 256) ∧ ∀ p, 500 ≤ p → S p = 0
theorem tx_cA {n : Nat} {S : Nat → Nat} {len size : Int32} {bys text : Nat → Int32} (h : tx n S len bys size text) : cA S len bys := by
  obtain ⟨h1, h2, h3, h4, h5, h6⟩ := h
  intro p hp
  unfold D_X7_at
  rw [h2, if_neg (nlt0 (by omega))]
  by_cases c : n ≤ p
  · rw [if_pos (nI_le c (by omega)), h5 p c]
  · rw [if_neg (nI_leN (by omega) (by omega) (by omega)), ck_n (by omega) (by decide), nI_clamp (by omega), (h4 p (by omega)).1]
theorem tx_mA {n : Nat} {S : Nat → Nat} {len size : Int32} {bys text : Nat → Int32} (h : tx n S len bys size text) : mA S size text := by
  obtain ⟨h1, h2, h3, h4, h5, h6⟩ := h
  intro p hp
  unfold D_X10_byteAt
  rw [h3]
  by_cases c : n ≤ p
  · rw [if_pos (nI_le c (by omega))]
    exact ⟨_, rfl, Or.inr ⟨rfl, h5 p c⟩⟩
  · rw [if_neg (nI_leN (by omega) (by omega) (by omega)), ck_n (by omega) (by decide), nI_clamp (by omega), (h4 p (by omega)).2]
    exact ⟨_, rfl, Or.inl rfl⟩
theorem tx_sB {n : Nat} {S : Nat → Nat} {len size : Int32} {bys text : Nat → Int32} (h : tx n S len bys size text) : sB S := by
  obtain ⟨h1, h2, h3, h4, h5, h6⟩ := h
  exact ⟨h6, fun p hp => h5 p (by omega)⟩
theorem sB_in {S : Nat → Nat} (h : sB S) {p : Nat} (hp : S p ≠ 0) : p < 500 := Classical.byContradiction fun c => hp (h.2 p (by omega))
abbrev dg (c : Nat) : Prop := 48 ≤ c ∧ c ≤ 57
abbrev ltr (c : Nat) : Prop := 97 ≤ c ∧ c ≤ 112
def nuP (S : Nat → Nat) (p : Nat) : Nat := if dg (S p) then (if dg (S (p + 1)) then p + 2 else p + 1) else p
def nuV (S : Nat → Nat) (p : Nat) : Nat := if dg (S (p + 1)) then 10 * (S p - 48) + (S (p + 1) - 48) else S p - 48
abbrev nuO (S : Nat → Nat) (p a b : Nat) : Prop := dg (S p) ∧ a ≤ nuV S p ∧ nuV S p ≤ b
def tkP (S : Nat → Nat) (c p : Nat) : Nat := if S p = c then p + 1 else p
theorem nuV_lt {S : Nat → Nat} (h : sB S) (p : Nat) (hp : dg (S p)) : nuV S p ≤ 99 := by
  unfold nuV; split <;> omega
theorem nuP_le {S : Nat → Nat} (h : sB S) {p : Nat} (hp : p ≤ 500) : p ≤ nuP S p ∧ nuP S p ≤ 500 := by
  unfold nuP
  by_cases c : dg (S p)
  · have := sB_in h (p := p) (by omega)
    rw [if_pos c]
    by_cases d : dg (S (p + 1))
    · have := sB_in h (p := p + 1) (by omega)
      rw [if_pos d]; omega
    · rw [if_neg d]; omega
  · rw [if_neg c]; omega
theorem tkP_le {S : Nat → Nat} (h : sB S) {c p : Nat} (hc : c ≠ 0) (hp : p ≤ 500) : tkP S c p ≤ 500 := by
  unfold tkP
  by_cases d : S p = c
  · have := sB_in h (p := p) (by omega)
    rw [if_pos d]; omega
  · rw [if_neg d]; omega
theorem isFigure_of {c : Nat} (hc : c < 256) : D_X2_isFigure (nI c) = some (zb (dg c)) := by
  unfold D_X2_isFigure
  by_cases h1 : c < 48
  · rw [if_pos (nI_lt h1 (by omega)), zb_f (by omega)]
  · rw [if_neg (nI_nlt (by omega) (by omega))]
    by_cases h2 : 57 < c
    · rw [if_pos (nI_lt h2 (by omega)), zb_f (by omega)]
    · rw [if_neg (nI_nlt (by omega) (by omega)), zb_t (by omega)]
theorem j115_of {a b v : Nat} (ha : a < 2 ^ 31) (hb : b < 2 ^ 31) (hv : v < 2 ^ 31) (pl : Int32) (nb : Nat → Int32) : (if nI v < nI a then some (nI 0, pl, nb) else if nI b < nI v then some (nI 0, pl, nb) else some (nI 1, pl, nb)) = some (zb (a ≤ v ∧ v ≤ b), pl, nb) := by
  by_cases h1 : v < a
  · rw [if_pos (nI_lt h1 ha), zb_f (by omega)]
  · rw [if_neg (nI_nlt (by omega) hv)]
    by_cases h2 : b < v
    · rw [if_pos (nI_lt h2 hv), zb_f (by omega)]
    · rw [if_neg (nI_nlt (by omega) hb), zb_t (by omega)]
theorem j94_of {k a b v : Nat} (hk : k < 3) (ha : a < 2 ^ 31) (hb : b < 2 ^ 31) (hv : v < 2 ^ 31) (pl : Int32) (nb : Nat → Int32) : j_X2_readNumber_94 (nI k) (nI a) (nI b) nb (nI v) pl = some (zb (a ≤ v ∧ v ≤ b), pl, upd nb k (nI v)) := by
  unfold j_X2_readNumber_94
  rw [row_put hk (by decide), bd1_s, j115_of ha hb hv]
theorem num_k {k : Nat} (h : k < 3) (nb : Nat → Int32) : D_X2_number (nI k) nb = some (nb k) := by
  unfold D_X2_number
  rw [row_at h (by decide), bd1_s]
theorem readNumber_of {S : Nat → Nat} (hb : sB S) {len : Int32} {bys : Nat → Int32} (hA : cA S len bys) {k a b p : Nat} (hk : k < 3) (ha : a < 2 ^ 31) (hbb : b < 2 ^ 31) (hp : p ≤ 500) (nb : Nat → Int32) :
    D_X2_readNumber (nI k) (nI a) (nI b) (nI p) len bys nb = some (zb (nuO S p a b), nI (nuP S p), if dg (S p) then upd nb k (nI (nuV S p)) else nb) := by
  unfold D_X2_readNumber
  rw [hA p (by omega), bd1_s, isFigure_of (hb.1 p), bd1_s, zb_if]
  by_cases c : dg (S p)
  · rw [if_pos c, bd1_s, pk_sub c.1, nm_s, nI_add, nm_s, hA (p + 1) (by omega), bd1_s, isFigure_of (hb.1 _), bd1_s, zb_if, if_pos c]
    by_cases d : dg (S (p + 1))
    · rw [if_pos d, bd1_s, pk_mul, nI_add, pk_sub (by omega), nm_s, nI_add, nm_s]
      have e1 : nuP S p = p + 1 + 1 := by unfold nuP; rw [if_pos c, if_pos d]
      have e2 : nuV S p = (S p - 48) * 10 + S (p + 1) - 48 := by unfold nuV; rw [if_pos d]; omega
      rw [← e1, ← e2, j94_of hk ha hbb (by have := nuV_lt hb p c; omega)]
      exact congrArg some (congrArg (·, _) (zb_congr ⟨fun q => ⟨c, q⟩, fun q => q.2⟩))
    · rw [if_neg d]
      have e1 : nuP S p = p + 1 := by unfold nuP; rw [if_pos c, if_neg d]
      have e2 : nuV S p = S p - 48 := by unfold nuV; rw [if_neg d]
      rw [← e1, ← e2, j94_of hk ha hbb (by have := nuV_lt hb p c; omega)]
      exact congrArg some (congrArg (·, _) (zb_congr ⟨fun q => ⟨c, q⟩, fun q => q.2⟩))
  · rw [if_neg c, if_neg c, zb_f (fun q => c q.1)]
    unfold nuP
    rw [if_neg c]
theorem passes_of {S : Nat → Nat} (hb : sB S) {len : Int32} {bys : Nat → Int32} (hA : cA S len bys) {c p : Nat} (hc : c < 256) (hp : p ≤ 500) : D_X2_passes (nI c) (nI p) len bys = some (zb (S p = c), nI (tkP S c p)) := by
  unfold D_X2_passes tkP
  have := hb.1 p
  rw [hA p (by omega), bd1_s]
  by_cases d : S p = c
  · rw [if_pos (by rw [d]), nI_add, nm_s, if_pos d, zb_t d]
  · rw [if_neg (by rw [nI_eq (by omega) (by omega)]; exact d), if_neg d, zb_f d]
theorem takes_of {S : Nat → Nat} (hb : sB S) {size : Int32} {text : Nat → Int32} (hM : mA S size text) {c p : Nat} (hc : c < 256) (hc0 : c ≠ 0) (hp : p ≤ 500) : D_X10_takes (nI c) size (nI p) text = some (zb (S p = c), nI (tkP S c p)) := by
  unfold D_X10_takes tkP
  have := hb.1 p
  obtain ⟨x, e, hx⟩ := hM p (by omega)
  rw [e, bd1_s]
  have key : x = nI c ↔ S p = c := by
    rcases hx with rfl | ⟨rfl, q⟩
    · exact nI_eq (by omega) (by omega)
    · rw [q]
      exact ⟨fun z => absurd z.symm (ne_m1 (by omega)), fun z => absurd z.symm hc0⟩
  by_cases d : S p = c
  · rw [if_pos (key.mpr d), if_pos d, zb_t d]
    unfold j_X10_takes_13
    rw [if_n1, nI_add, nm_s, cz_1]
  · rw [if_neg (fun z => d (key.mp z)), if_neg d, zb_f d]
    unfold j_X10_takes_13
    rw [if_n0, nI_add, nm_s, cz_0, Nat.add_zero]
theorem sm_toInt {S : Nat → Nat} (hb : sB S) {p : Nat} {x : Int32} (hx : x = nI (S p) ∨ (x = (-1 : Int32) ∧ S p = 0)) : x.toInt = S p ∨ (x.toInt = -1 ∧ S p = 0) := by
  have := hb.1 p
  rcases hx with rfl | ⟨rfl, q⟩
  · exact Or.inl (nI_toInt (by omega))
  · exact Or.inr ⟨by decide, q⟩
theorem sm_nI {S : Nat → Nat} {p : Nat} {x : Int32} (hx : x = nI (S p) ∨ (x = (-1 : Int32) ∧ S p = 0)) (h : S p ≠ 0) : x = nI (S p) := by
  rcases hx with e | ⟨_, q⟩
  · exact e
  · exact absurd q h
theorem inS_of {S : Nat → Nat} (hb : sB S) {p : Nat} {x : Int32} (hx : x = nI (S p) ∨ (x = (-1 : Int32) ∧ S p = 0)) {a b : Nat} (ha : a < 2 ^ 31) (ha0 : 0 < a) (hbb : b < 2 ^ 31) : D_X10_in x.toInt64 (lN a) (lN b) = some (zb (a ≤ S p ∧ S p ≤ b)) := by
  rw [in_of x ha hbb]
  refine congrArg some (zb_congr ?_)
  rcases sm_toInt hb hx with e | ⟨e, q⟩ <;> rw [e] <;> omega
theorem number_of {F : Nat} (hF : 600 ≤ F) {S : Nat → Nat} (hb : sB S) {size : Int32} {text : Nat → Int32} (hM : mA S size text) {a b p : Nat} (ha : a < 2 ^ 31) (hbb : b < 2 ^ 31) (hp : p ≤ 500) :
    D_X10_number F (nI a) (nI b) size (nI p) text = some (if nuO S p a b then nI (nuV S p) else (-1 : Int32), nI (nuP S p)) := by
  obtain ⟨x, e, hx⟩ := hM p (by omega)
  obtain ⟨G, rfl⟩ : ∃ G, F = G + 3 := ⟨F - 3, by omega⟩
  unfold D_X10_number
  rw [show G + 3 = (G + 2) + 1 from rfl, lpg_succ]
  rw [b_X10_number_5]
  rw [if_neg (by decide : ¬ nI 2 ≤ nI 0), e, bd1_s, inS_of hb hx (by decide) (by decide) (by decide), bd1_s, zb_if]
  by_cases c : 48 ≤ S p ∧ S p ≤ 57
  · have hp1 := sB_in hb (p := p) (by omega)
    obtain ⟨x2, e2, hx2⟩ := hM (p + 1) (by omega)
    rw [if_pos c, bd1_s, sm_nI hx (by omega), pk_mul, nI_add, pk_sub (by omega), nm_s, nI_add, nm_s, nI_add, nm_s, show G + 2 = (G + 1) + 1 from rfl, lpg_succ]
    rw [b_X10_number_5]
    rw [if_neg (by decide : ¬ nI 2 ≤ nI (0 + 1)), e2, bd1_s, inS_of hb hx2 (by decide) (by decide) (by decide), bd1_s, zb_if]
    by_cases d : 48 ≤ S (p + 1) ∧ S (p + 1) ≤ 57
    · have hp2 := sB_in hb (p := p + 1) (by omega)
      rw [if_pos d, bd1_s, sm_nI hx2 (by omega), pk_mul, nI_add, pk_sub (by omega), nm_s, nI_add, nm_s, nI_add, nm_s, lpg_succ]
      rw [b_X10_number_5]
      rw [if_pos (by decide : nI 2 ≤ nI (0 + 1 + 1)), bd3_s, if_neg (by decide : ¬ nI (0 + 1 + 1) ≤ 0)]
      have e1 : nuP S p = p + 1 + 1 := by unfold nuP; rw [if_pos c, if_pos d]
      have e2 : nuV S p = 10 * (10 * 0 + S p - 48) + S (p + 1) - 48 := by unfold nuV; rw [if_pos d]; omega
      have hv := nuV_lt hb p c
      rw [← e1, ← e2, wi_n ha, wi_n hbb, in_of _ ha hbb, bd1_s, zb_if, nI_toInt (by omega)]
      by_cases g : nuO S p a b
      · rw [if_pos g, if_pos (by have := g.2; omega)]
      · rw [if_neg g, if_neg (fun z => g ⟨c, by omega⟩)]
    · rw [if_neg d, bd3_s, if_neg (by decide : ¬ nI (0 + 1) ≤ 0)]
      have e1 : nuP S p = p + 1 := by unfold nuP; rw [if_pos c, if_neg d]
      have e2 : nuV S p = 10 * 0 + S p - 48 := by unfold nuV; rw [if_neg d]; omega
      have hv := nuV_lt hb p c
      rw [← e1, ← e2, wi_n ha, wi_n hbb, in_of _ ha hbb, bd1_s, zb_if, nI_toInt (by omega)]
      by_cases g : nuO S p a b
      · rw [if_pos g, if_pos (by have := g.2; omega)]
      · rw [if_neg g, if_neg (fun z => g ⟨c, by omega⟩)]
  · rw [if_neg c, bd3_s, if_pos (by decide : nI 0 ≤ 0), if_neg (fun q : nuO S p a b => c q.1)]
    unfold nuP
    rw [if_neg c]
def sdV (S : Nat → Nat) (p : Nat) : Int32 := if ltr (S p) then nI (S p - 97) else (-1 : Int32)
def sdP (S : Nat → Nat) (p : Nat) : Nat := if ltr (S p) then p + 1 else p
theorem sound_of {S : Nat → Nat} (hb : sB S) {size : Int32} {text : Nat → Int32} (hM : mA S size text) {p : Nat} (hp : p ≤ 500) : D_X10_sound size (nI p) text = some (sdV S p, nI (sdP S p)) := by
  obtain ⟨x, e, hx⟩ := hM p (by omega)
  unfold D_X10_sound sdV sdP
  have h6 := hb.1 p
  rw [e, bd1_s, nm_s, in_of _ (by decide) (by decide), bd1_s, zb_if]
  have key : ((0 : Nat) : Int) ≤ (x - nI 97).toInt ∧ (x - nI 97).toInt ≤ (15 : Nat) ↔ ltr (S p) := by
    rcases hx with rfl | ⟨rfl, q⟩
    · rw [pk_sub_toInt (by omega) (by decide)]; omega
    · rw [q, show ((-1 : Int32) - nI 97).toInt = -98 from by decide]; omega
  by_cases c : ltr (S p)
  · rw [if_pos (key.mpr c), if_pos c, if_pos c, nI_add, nm_s, sm_nI hx (by omega), pk_sub c.1]
  · rw [if_neg (fun z => c (key.mp z)), if_neg c, if_neg c]
