abbrev vwCl : List vw_C := [(RX0, TX0, 9), (RX1, TX1, 7), (RX2, TX2, 6), (RX3, TX3, 1), (RX4, TX4, 5), (RX6, TX6, 3), (RX7, TX7, 2), (RX9, TX9, 7), (RX10, TX10, 13)]
/-! PRELUDE: pure combinators, and the rows that every contract uses -/
def ck {α : Type} (n : Nat) (i : Int32) (r : Option α) : Option α := if i < 0 ∨ n ≤ i.toNatClampNeg then none else r
theorem ck_el {α : Type} {n : Nat} {i : Int32} {r : Option α} {o : α} (h : ck n i r = some o) : vp_in i n ∧ r = some o := by
  unfold ck at h
  by_cases c : i < 0 ∨ n ≤ i.toNatClampNeg
  · rw [if_pos c] at h; cases h
  · rw [if_neg c] at h; exact ⟨c, h⟩
def dz {α : Type} (y : Int32) (r : Option α) : Option α := if y = 0 then none else r
theorem dz_el {α : Type} {y : Int32} {r : Option α} {o : α} (h : dz y r = some o) : ¬ y = 0 ∧ r = some o := by
  unfold dz at h
  by_cases c : y = 0
  · rw [if_pos c] at h; cases h
  · rw [if_neg c] at h; exact ⟨c, h⟩
def dzl {α : Type} (y : Int64) (r : Option α) : Option α := if y = 0 then none else r
theorem dzl_el {α : Type} {y : Int64} {r : Option α} {o : α} (h : dzl y r = some o) : ¬ y = 0 ∧ r = some o := by
  unfold dzl at h
  by_cases c : y = 0
  · rw [if_pos c] at h; cases h
  · rw [if_neg c] at h; exact ⟨c, h⟩
def cz {α : Type} (v : Int32) (r : Option α) : Option α := if v = 0 ∨ v = 1 then r else none
theorem cz_el {α : Type} {v : Int32} {r : Option α} {o : α} (h : cz v r = some o) : narrow .boolean (.int v) = .int v ∧ r = some o := by
  unfold cz at h
  by_cases c : v = 0 ∨ v = 1
  · rw [if_pos c] at h
    refine ⟨?_, h⟩
    rcases c with rfl | rfl <;> decide
  · rw [if_neg c] at h; cases h
def cpk {α : Type} (sp dp n : Int32) (n0 n1 : Nat) (r : Option α) : Option α := if sp < 0 ∨ dp < 0 ∨ n < 0 ∨ n0 < sp.toNatClampNeg + n.toNatClampNeg ∨ n1 < dp.toNatClampNeg + n.toNatClampNeg then none else r
theorem cpk_el {α : Type} {sp dp n : Int32} {n0 n1 : Nat} {r : Option α} {o : α} (h : cpk sp dp n n0 n1 r = some o) : (¬ sp < 0 ∧ ¬ dp < 0 ∧ ¬ n < 0 ∧ sp.toNatClampNeg + n.toNatClampNeg ≤ n0 ∧ dp.toNatClampNeg + n.toNatClampNeg ≤ n1) ∧ r = some o := by
  unfold cpk at h
  by_cases c : sp < 0 ∨ dp < 0 ∨ n < 0 ∨ n0 < sp.toNatClampNeg + n.toNatClampNeg ∨ n1 < dp.toNatClampNeg + n.toNatClampNeg
  · rw [if_pos c] at h; cases h
  · rw [if_neg c] at h
    refine ⟨⟨fun q => c (Or.inl q), fun q => c (Or.inr (Or.inl q)), fun q => c (Or.inr (Or.inr (Or.inl q))), ?_, ?_⟩, h⟩
    · exact Nat.not_lt.mp fun q => c (Or.inr (Or.inr (Or.inr (Or.inl q))))
    · exact Nat.not_lt.mp fun q => c (Or.inr (Or.inr (Or.inr (Or.inr q))))
def nm {α β : Type} (e : α) (k : α → β) : β := k e
theorem nm_el {α β : Type} {e : α} {k : α → Option β} {o : β} (h : nm e k = some o) : ∃ x, e = x ∧ k x = some o := ⟨e, rfl, h⟩
def lpg {T : Type} (bot : T) (body : T → T) : Nat → T
  | 0 => bot
  | n + 1 => body (lpg bot body n)
theorem lpg_succ {T : Type} (bot : T) (body : T → T) (n : Nat) : lpg bot body (n + 1) = body (lpg bot body n) := rfl
theorem lpg_zero {T : Type} (bot : T) (body : T → T) : lpg bot body 0 = bot := rfl
def bd1 {A0 δ : Type} (o : Option (A0)) (k : A0 → Option δ) : Option δ := match o with
  | none => none
  | some a0 => k a0
theorem bd1_el {A0 δ : Type} {o : Option (A0)} {k : A0 → Option δ} {r : δ} (h : bd1 o k = some r) : ∃ a0, o = some a0 ∧ k a0 = some r := by
  unfold bd1 at h
  split at h
  · cases h
  · exact ⟨_, rfl, h⟩
def bd2 {A0 A1 δ : Type} (o : Option (A0 × A1)) (k : A0 → A1 → Option δ) : Option δ := match o with
  | none => none
  | some (a0, a1) => k a0 a1
theorem bd2_el {A0 A1 δ : Type} {o : Option (A0 × A1)} {k : A0 → A1 → Option δ} {r : δ} (h : bd2 o k = some r) : ∃ a0 a1, o = some (a0, a1) ∧ k a0 a1 = some r := by
  unfold bd2 at h
  split at h
  · cases h
  · exact ⟨_, _, rfl, h⟩
def bd3 {A0 A1 A2 δ : Type} (o : Option (A0 × A1 × A2)) (k : A0 → A1 → A2 → Option δ) : Option δ := match o with
  | none => none
  | some (a0, a1, a2) => k a0 a1 a2
theorem bd3_el {A0 A1 A2 δ : Type} {o : Option (A0 × A1 × A2)} {k : A0 → A1 → A2 → Option δ} {r : δ} (h : bd3 o k = some r) : ∃ a0 a1 a2, o = some (a0, a1, a2) ∧ k a0 a1 a2 = some r := by
  unfold bd3 at h
  split at h
  · cases h
  · exact ⟨_, _, _, rfl, h⟩
def bd4 {A0 A1 A2 A3 δ : Type} (o : Option (A0 × A1 × A2 × A3)) (k : A0 → A1 → A2 → A3 → Option δ) : Option δ := match o with
  | none => none
  | some (a0, a1, a2, a3) => k a0 a1 a2 a3
theorem bd4_el {A0 A1 A2 A3 δ : Type} {o : Option (A0 × A1 × A2 × A3)} {k : A0 → A1 → A2 → A3 → Option δ} {r : δ} (h : bd4 o k = some r) : ∃ a0 a1 a2 a3, o = some (a0, a1, a2, a3) ∧ k a0 a1 a2 a3 = some r := by
  unfold bd4 at h
  split at h
  · cases h
  · exact ⟨_, _, _, _, rfl, h⟩
def bd5 {A0 A1 A2 A3 A4 δ : Type} (o : Option (A0 × A1 × A2 × A3 × A4)) (k : A0 → A1 → A2 → A3 → A4 → Option δ) : Option δ := match o with
  | none => none
  | some (a0, a1, a2, a3, a4) => k a0 a1 a2 a3 a4
theorem bd5_el {A0 A1 A2 A3 A4 δ : Type} {o : Option (A0 × A1 × A2 × A3 × A4)} {k : A0 → A1 → A2 → A3 → A4 → Option δ} {r : δ} (h : bd5 o k = some r) : ∃ a0 a1 a2 a3 a4, o = some (a0, a1, a2, a3, a4) ∧ k a0 a1 a2 a3 a4 = some r := by
  unfold bd5 at h
  split at h
  · cases h
  · exact ⟨_, _, _, _, _, rfl, h⟩
def bd6 {A0 A1 A2 A3 A4 A5 δ : Type} (o : Option (A0 × A1 × A2 × A3 × A4 × A5)) (k : A0 → A1 → A2 → A3 → A4 → A5 → Option δ) : Option δ := match o with
  | none => none
  | some (a0, a1, a2, a3, a4, a5) => k a0 a1 a2 a3 a4 a5
theorem bd6_el {A0 A1 A2 A3 A4 A5 δ : Type} {o : Option (A0 × A1 × A2 × A3 × A4 × A5)} {k : A0 → A1 → A2 → A3 → A4 → A5 → Option δ} {r : δ} (h : bd6 o k = some r) : ∃ a0 a1 a2 a3 a4 a5, o = some (a0, a1, a2, a3, a4, a5) ∧ k a0 a1 a2 a3 a4 a5 = some r := by
  unfold bd6 at h
  split at h
  · cases h
  · exact ⟨_, _, _, _, _, _, rfl, h⟩
def bd7 {A0 A1 A2 A3 A4 A5 A6 δ : Type} (o : Option (A0 × A1 × A2 × A3 × A4 × A5 × A6)) (k : A0 → A1 → A2 → A3 → A4 → A5 → A6 → Option δ) : Option δ := match o with
  | none => none
  | some (a0, a1, a2, a3, a4, a5, a6) => k a0 a1 a2 a3 a4 a5 a6
theorem bd7_el {A0 A1 A2 A3 A4 A5 A6 δ : Type} {o : Option (A0 × A1 × A2 × A3 × A4 × A5 × A6)} {k : A0 → A1 → A2 → A3 → A4 → A5 → A6 → Option δ} {r : δ} (h : bd7 o k = some r) : ∃ a0 a1 a2 a3 a4 a5 a6, o = some (a0, a1, a2, a3, a4, a5, a6) ∧ k a0 a1 a2 a3 a4 a5 a6 = some r := by
  unfold bd7 at h
  split at h
  · cases h
  · exact ⟨_, _, _, _, _, _, _, rfl, h⟩
def bd8 {A0 A1 A2 A3 A4 A5 A6 A7 δ : Type} (o : Option (A0 × A1 × A2 × A3 × A4 × A5 × A6 × A7)) (k : A0 → A1 → A2 → A3 → A4 → A5 → A6 → A7 → Option δ) : Option δ := match o with
  | none => none
  | some (a0, a1, a2, a3, a4, a5, a6, a7) => k a0 a1 a2 a3 a4 a5 a6 a7
theorem bd8_el {A0 A1 A2 A3 A4 A5 A6 A7 δ : Type} {o : Option (A0 × A1 × A2 × A3 × A4 × A5 × A6 × A7)} {k : A0 → A1 → A2 → A3 → A4 → A5 → A6 → A7 → Option δ} {r : δ} (h : bd8 o k = some r) : ∃ a0 a1 a2 a3 a4 a5 a6 a7, o = some (a0, a1, a2, a3, a4, a5, a6, a7) ∧ k a0 a1 a2 a3 a4 a5 a6 a7 = some r := by
  unfold bd8 at h
  split at h
  · cases h
  · exact ⟨_, _, _, _, _, _, _, _, rfl, h⟩
def bd9 {A0 A1 A2 A3 A4 A5 A6 A7 A8 δ : Type} (o : Option (A0 × A1 × A2 × A3 × A4 × A5 × A6 × A7 × A8)) (k : A0 → A1 → A2 → A3 → A4 → A5 → A6 → A7 → A8 → Option δ) : Option δ := match o with
  | none => none
  | some (a0, a1, a2, a3, a4, a5, a6, a7, a8) => k a0 a1 a2 a3 a4 a5 a6 a7 a8
theorem bd9_el {A0 A1 A2 A3 A4 A5 A6 A7 A8 δ : Type} {o : Option (A0 × A1 × A2 × A3 × A4 × A5 × A6 × A7 × A8)} {k : A0 → A1 → A2 → A3 → A4 → A5 → A6 → A7 → A8 → Option δ} {r : δ} (h : bd9 o k = some r) : ∃ a0 a1 a2 a3 a4 a5 a6 a7 a8, o = some (a0, a1, a2, a3, a4, a5, a6, a7, a8) ∧ k a0 a1 a2 a3 a4 a5 a6 a7 a8 = some r := by
  unfold bd9 at h
  split at h
  · cases h
  · exact ⟨_, _, _, _, _, _, _, _, _, rfl, h⟩
def bd10 {A0 A1 A2 A3 A4 A5 A6 A7 A8 A9 δ : Type} (o : Option (A0 × A1 × A2 × A3 × A4 × A5 × A6 × A7 × A8 × A9)) (k : A0 → A1 → A2 → A3 → A4 → A5 → A6 → A7 → A8 → A9 → Option δ) : Option δ := match o with
  | none => none
  | some (a0, a1, a2, a3, a4, a5, a6, a7, a8, a9) => k a0 a1 a2 a3 a4 a5 a6 a7 a8 a9
theorem bd10_el {A0 A1 A2 A3 A4 A5 A6 A7 A8 A9 δ : Type} {o : Option (A0 × A1 × A2 × A3 × A4 × A5 × A6 × A7 × A8 × A9)} {k : A0 → A1 → A2 → A3 → A4 → A5 → A6 → A7 → A8 → A9 → Option δ} {r : δ} (h : bd10 o k = some r) : ∃ a0 a1 a2 a3 a4 a5 a6 a7 a8 a9, o = some (a0, a1, a2, a3, a4, a5, a6, a7, a8, a9) ∧ k a0 a1 a2 a3 a4 a5 a6 a7 a8 a9 = some r := by
  unfold bd10 at h
  split at h
  · cases h
  · exact ⟨_, _, _, _, _, _, _, _, _, _, rfl, h⟩
def bd11 {A0 A1 A2 A3 A4 A5 A6 A7 A8 A9 A10 δ : Type} (o : Option (A0 × A1 × A2 × A3 × A4 × A5 × A6 × A7 × A8 × A9 × A10)) (k : A0 → A1 → A2 → A3 → A4 → A5 → A6 → A7 → A8 → A9 → A10 → Option δ) : Option δ := match o with
  | none => none
  | some (a0, a1, a2, a3, a4, a5, a6, a7, a8, a9, a10) => k a0 a1 a2 a3 a4 a5 a6 a7 a8 a9 a10
theorem bd11_el {A0 A1 A2 A3 A4 A5 A6 A7 A8 A9 A10 δ : Type} {o : Option (A0 × A1 × A2 × A3 × A4 × A5 × A6 × A7 × A8 × A9 × A10)} {k : A0 → A1 → A2 → A3 → A4 → A5 → A6 → A7 → A8 → A9 → A10 → Option δ} {r : δ} (h : bd11 o k = some r) : ∃ a0 a1 a2 a3 a4 a5 a6 a7 a8 a9 a10, o = some (a0, a1, a2, a3, a4, a5, a6, a7, a8, a9, a10) ∧ k a0 a1 a2 a3 a4 a5 a6 a7 a8 a9 a10 = some r := by
  unfold bd11 at h
  split at h
  · cases h
  · exact ⟨_, _, _, _, _, _, _, _, _, _, _, rfl, h⟩
def bd12 {A0 A1 A2 A3 A4 A5 A6 A7 A8 A9 A10 A11 δ : Type} (o : Option (A0 × A1 × A2 × A3 × A4 × A5 × A6 × A7 × A8 × A9 × A10 × A11)) (k : A0 → A1 → A2 → A3 → A4 → A5 → A6 → A7 → A8 → A9 → A10 → A11 → Option δ) : Option δ := match o with
  | none => none
  | some (a0, a1, a2, a3, a4, a5, a6, a7, a8, a9, a10, a11) => k a0 a1 a2 a3 a4 a5 a6 a7 a8 a9 a10 a11
theorem bd12_el {A0 A1 A2 A3 A4 A5 A6 A7 A8 A9 A10 A11 δ : Type} {o : Option (A0 × A1 × A2 × A3 × A4 × A5 × A6 × A7 × A8 × A9 × A10 × A11)} {k : A0 → A1 → A2 → A3 → A4 → A5 → A6 → A7 → A8 → A9 → A10 → A11 → Option δ} {r : δ} (h : bd12 o k = some r) : ∃ a0 a1 a2 a3 a4 a5 a6 a7 a8 a9 a10 a11, o = some (a0, a1, a2, a3, a4, a5, a6, a7, a8, a9, a10, a11) ∧ k a0 a1 a2 a3 a4 a5 a6 a7 a8 a9 a10 a11 = some r := by
  unfold bd12 at h
  split at h
  · cases h
  · exact ⟨_, _, _, _, _, _, _, _, _, _, _, _, rfl, h⟩
def bd13 {A0 A1 A2 A3 A4 A5 A6 A7 A8 A9 A10 A11 A12 δ : Type} (o : Option (A0 × A1 × A2 × A3 × A4 × A5 × A6 × A7 × A8 × A9 × A10 × A11 × A12)) (k : A0 → A1 → A2 → A3 → A4 → A5 → A6 → A7 → A8 → A9 → A10 → A11 → A12 → Option δ) : Option δ := match o with
  | none => none
  | some (a0, a1, a2, a3, a4, a5, a6, a7, a8, a9, a10, a11, a12) => k a0 a1 a2 a3 a4 a5 a6 a7 a8 a9 a10 a11 a12
theorem bd13_el {A0 A1 A2 A3 A4 A5 A6 A7 A8 A9 A10 A11 A12 δ : Type} {o : Option (A0 × A1 × A2 × A3 × A4 × A5 × A6 × A7 × A8 × A9 × A10 × A11 × A12)} {k : A0 → A1 → A2 → A3 → A4 → A5 → A6 → A7 → A8 → A9 → A10 → A11 → A12 → Option δ} {r : δ} (h : bd13 o k = some r) : ∃ a0 a1 a2 a3 a4 a5 a6 a7 a8 a9 a10 a11 a12, o = some (a0, a1, a2, a3, a4, a5, a6, a7, a8, a9, a10, a11, a12) ∧ k a0 a1 a2 a3 a4 a5 a6 a7 a8 a9 a10 a11 a12 = some r := by
  unfold bd13 at h
  split at h
  · cases h
  · exact ⟨_, _, _, _, _, _, _, _, _, _, _, _, _, rfl, h⟩
def bd14 {A0 A1 A2 A3 A4 A5 A6 A7 A8 A9 A10 A11 A12 A13 δ : Type} (o : Option (A0 × A1 × A2 × A3 × A4 × A5 × A6 × A7 × A8 × A9 × A10 × A11 × A12 × A13)) (k : A0 → A1 → A2 → A3 → A4 → A5 → A6 → A7 → A8 → A9 → A10 → A11 → A12 → A13 → Option δ) : Option δ := match o with
  | none => none
  | some (a0, a1, a2, a3, a4, a5, a6, a7, a8, a9, a10, a11, a12, a13) => k a0 a1 a2 a3 a4 a5 a6 a7 a8 a9 a10 a11 a12 a13
theorem bd14_el {A0 A1 A2 A3 A4 A5 A6 A7 A8 A9 A10 A11 A12 A13 δ : Type} {o : Option (A0 × A1 × A2 × A3 × A4 × A5 × A6 × A7 × A8 × A9 × A10 × A11 × A12 × A13)} {k : A0 → A1 → A2 → A3 → A4 → A5 → A6 → A7 → A8 → A9 → A10 → A11 → A12 → A13 → Option δ} {r : δ} (h : bd14 o k = some r) : ∃ a0 a1 a2 a3 a4 a5 a6 a7 a8 a9 a10 a11 a12 a13, o = some (a0, a1, a2, a3, a4, a5, a6, a7, a8, a9, a10, a11, a12, a13) ∧ k a0 a1 a2 a3 a4 a5 a6 a7 a8 a9 a10 a11 a12 a13 = some r := by
  unfold bd14 at h
  split at h
  · cases h
  · exact ⟨_, _, _, _, _, _, _, _, _, _, _, _, _, _, rfl, h⟩
def bd15 {A0 A1 A2 A3 A4 A5 A6 A7 A8 A9 A10 A11 A12 A13 A14 δ : Type} (o : Option (A0 × A1 × A2 × A3 × A4 × A5 × A6 × A7 × A8 × A9 × A10 × A11 × A12 × A13 × A14)) (k : A0 → A1 → A2 → A3 → A4 → A5 → A6 → A7 → A8 → A9 → A10 → A11 → A12 → A13 → A14 → Option δ) : Option δ := match o with
  | none => none
  | some (a0, a1, a2, a3, a4, a5, a6, a7, a8, a9, a10, a11, a12, a13, a14) => k a0 a1 a2 a3 a4 a5 a6 a7 a8 a9 a10 a11 a12 a13 a14
theorem bd15_el {A0 A1 A2 A3 A4 A5 A6 A7 A8 A9 A10 A11 A12 A13 A14 δ : Type} {o : Option (A0 × A1 × A2 × A3 × A4 × A5 × A6 × A7 × A8 × A9 × A10 × A11 × A12 × A13 × A14)} {k : A0 → A1 → A2 → A3 → A4 → A5 → A6 → A7 → A8 → A9 → A10 → A11 → A12 → A13 → A14 → Option δ} {r : δ} (h : bd15 o k = some r) : ∃ a0 a1 a2 a3 a4 a5 a6 a7 a8 a9 a10 a11 a12 a13 a14, o = some (a0, a1, a2, a3, a4, a5, a6, a7, a8, a9, a10, a11, a12, a13, a14) ∧ k a0 a1 a2 a3 a4 a5 a6 a7 a8 a9 a10 a11 a12 a13 a14 = some r := by
  unfold bd15 at h
  split at h
  · cases h
  · exact ⟨_, _, _, _, _, _, _, _, _, _, _, _, _, _, _, rfl, h⟩
def bd16 {A0 A1 A2 A3 A4 A5 A6 A7 A8 A9 A10 A11 A12 A13 A14 A15 δ : Type} (o : Option (A0 × A1 × A2 × A3 × A4 × A5 × A6 × A7 × A8 × A9 × A10 × A11 × A12 × A13 × A14 × A15)) (k : A0 → A1 → A2 → A3 → A4 → A5 → A6 → A7 → A8 → A9 → A10 → A11 → A12 → A13 → A14 → A15 → Option δ) : Option δ := match o with
  | none => none
  | some (a0, a1, a2, a3, a4, a5, a6, a7, a8, a9, a10, a11, a12, a13, a14, a15) => k a0 a1 a2 a3 a4 a5 a6 a7 a8 a9 a10 a11 a12 a13 a14 a15
theorem bd16_el {A0 A1 A2 A3 A4 A5 A6 A7 A8 A9 A10 A11 A12 A13 A14 A15 δ : Type} {o : Option (A0 × A1 × A2 × A3 × A4 × A5 × A6 × A7 × A8 × A9 × A10 × A11 × A12 × A13 × A14 × A15)} {k : A0 → A1 → A2 → A3 → A4 → A5 → A6 → A7 → A8 → A9 → A10 → A11 → A12 → A13 → A14 → A15 → Option δ} {r : δ} (h : bd16 o k = some r) : ∃ a0 a1 a2 a3 a4 a5 a6 a7 a8 a9 a10 a11 a12 a13 a14 a15, o = some (a0, a1, a2, a3, a4, a5, a6, a7, a8, a9, a10, a11, a12, a13, a14, a15) ∧ k a0 a1 a2 a3 a4 a5 a6 a7 a8 a9 a10 a11 a12 a13 a14 a15 = some r := by
  unfold bd16 at h
  split at h
  · cases h
  · exact ⟨_, _, _, _, _, _, _, _, _, _, _, _, _, _, _, _, rfl, h⟩
def bd17 {A0 A1 A2 A3 A4 A5 A6 A7 A8 A9 A10 A11 A12 A13 A14 A15 A16 δ : Type} (o : Option (A0 × A1 × A2 × A3 × A4 × A5 × A6 × A7 × A8 × A9 × A10 × A11 × A12 × A13 × A14 × A15 × A16)) (k : A0 → A1 → A2 → A3 → A4 → A5 → A6 → A7 → A8 → A9 → A10 → A11 → A12 → A13 → A14 → A15 → A16 → Option δ) : Option δ := match o with
  | none => none
  | some (a0, a1, a2, a3, a4, a5, a6, a7, a8, a9, a10, a11, a12, a13, a14, a15, a16) => k a0 a1 a2 a3 a4 a5 a6 a7 a8 a9 a10 a11 a12 a13 a14 a15 a16
theorem bd17_el {A0 A1 A2 A3 A4 A5 A6 A7 A8 A9 A10 A11 A12 A13 A14 A15 A16 δ : Type} {o : Option (A0 × A1 × A2 × A3 × A4 × A5 × A6 × A7 × A8 × A9 × A10 × A11 × A12 × A13 × A14 × A15 × A16)} {k : A0 → A1 → A2 → A3 → A4 → A5 → A6 → A7 → A8 → A9 → A10 → A11 → A12 → A13 → A14 → A15 → A16 → Option δ} {r : δ} (h : bd17 o k = some r) : ∃ a0 a1 a2 a3 a4 a5 a6 a7 a8 a9 a10 a11 a12 a13 a14 a15 a16, o = some (a0, a1, a2, a3, a4, a5, a6, a7, a8, a9, a10, a11, a12, a13, a14, a15, a16) ∧ k a0 a1 a2 a3 a4 a5 a6 a7 a8 a9 a10 a11 a12 a13 a14 a15 a16 = some r := by
  unfold bd17 at h
  split at h
  · cases h
  · exact ⟨_, _, _, _, _, _, _, _, _, _, _, _, _, _, _, _, _, rfl, h⟩
def bd18 {A0 A1 A2 A3 A4 A5 A6 A7 A8 A9 A10 A11 A12 A13 A14 A15 A16 A17 δ : Type} (o : Option (A0 × A1 × A2 × A3 × A4 × A5 × A6 × A7 × A8 × A9 × A10 × A11 × A12 × A13 × A14 × A15 × A16 × A17)) (k : A0 → A1 → A2 → A3 → A4 → A5 → A6 → A7 → A8 → A9 → A10 → A11 → A12 → A13 → A14 → A15 → A16 → A17 → Option δ) : Option δ := match o with
  | none => none
  | some (a0, a1, a2, a3, a4, a5, a6, a7, a8, a9, a10, a11, a12, a13, a14, a15, a16, a17) => k a0 a1 a2 a3 a4 a5 a6 a7 a8 a9 a10 a11 a12 a13 a14 a15 a16 a17
theorem bd18_el {A0 A1 A2 A3 A4 A5 A6 A7 A8 A9 A10 A11 A12 A13 A14 A15 A16 A17 δ : Type} {o : Option (A0 × A1 × A2 × A3 × A4 × A5 × A6 × A7 × A8 × A9 × A10 × A11 × A12 × A13 × A14 × A15 × A16 × A17)} {k : A0 → A1 → A2 → A3 → A4 → A5 → A6 → A7 → A8 → A9 → A10 → A11 → A12 → A13 → A14 → A15 → A16 → A17 → Option δ} {r : δ} (h : bd18 o k = some r) : ∃ a0 a1 a2 a3 a4 a5 a6 a7 a8 a9 a10 a11 a12 a13 a14 a15 a16 a17, o = some (a0, a1, a2, a3, a4, a5, a6, a7, a8, a9, a10, a11, a12, a13, a14, a15, a16, a17) ∧ k a0 a1 a2 a3 a4 a5 a6 a7 a8 a9 a10 a11 a12 a13 a14 a15 a16 a17 = some r := by
  unfold bd18 at h
  split at h
  · cases h
  · exact ⟨_, _, _, _, _, _, _, _, _, _, _, _, _, _, _, _, _, _, rfl, h⟩
def bd19 {A0 A1 A2 A3 A4 A5 A6 A7 A8 A9 A10 A11 A12 A13 A14 A15 A16 A17 A18 δ : Type} (o : Option (A0 × A1 × A2 × A3 × A4 × A5 × A6 × A7 × A8 × A9 × A10 × A11 × A12 × A13 × A14 × A15 × A16 × A17 × A18)) (k : A0 → A1 → A2 → A3 → A4 → A5 → A6 → A7 → A8 → A9 → A10 → A11 → A12 → A13 → A14 → A15 → A16 → A17 → A18 → Option δ) : Option δ := match o with
  | none => none
  | some (a0, a1, a2, a3, a4, a5, a6, a7, a8, a9, a10, a11, a12, a13, a14, a15, a16, a17, a18) => k a0 a1 a2 a3 a4 a5 a6 a7 a8 a9 a10 a11 a12 a13 a14 a15 a16 a17 a18
theorem bd19_el {A0 A1 A2 A3 A4 A5 A6 A7 A8 A9 A10 A11 A12 A13 A14 A15 A16 A17 A18 δ : Type} {o : Option (A0 × A1 × A2 × A3 × A4 × A5 × A6 × A7 × A8 × A9 × A10 × A11 × A12 × A13 × A14 × A15 × A16 × A17 × A18)} {k : A0 → A1 → A2 → A3 → A4 → A5 → A6 → A7 → A8 → A9 → A10 → A11 → A12 → A13 → A14 → A15 → A16 → A17 → A18 → Option δ} {r : δ} (h : bd19 o k = some r) : ∃ a0 a1 a2 a3 a4 a5 a6 a7 a8 a9 a10 a11 a12 a13 a14 a15 a16 a17 a18, o = some (a0, a1, a2, a3, a4, a5, a6, a7, a8, a9, a10, a11, a12, a13, a14, a15, a16, a17, a18) ∧ k a0 a1 a2 a3 a4 a5 a6 a7 a8 a9 a10 a11 a12 a13 a14 a15 a16 a17 a18 = some r := by
  unfold bd19 at h
  split at h
  · cases h
  · exact ⟨_, _, _, _, _, _, _, _, _, _, _, _, _, _, _, _, _, _, _, rfl, h⟩
def bd20 {A0 A1 A2 A3 A4 A5 A6 A7 A8 A9 A10 A11 A12 A13 A14 A15 A16 A17 A18 A19 δ : Type} (o : Option (A0 × A1 × A2 × A3 × A4 × A5 × A6 × A7 × A8 × A9 × A10 × A11 × A12 × A13 × A14 × A15 × A16 × A17 × A18 × A19)) (k : A0 → A1 → A2 → A3 → A4 → A5 → A6 → A7 → A8 → A9 → A10 → A11 → A12 → A13 → A14 → A15 → A16 → A17 → A18 → A19 → Option δ) : Option δ := match o with
  | none => none
  | some (a0, a1, a2, a3, a4, a5, a6, a7, a8, a9, a10, a11, a12, a13, a14, a15, a16, a17, a18, a19) => k a0 a1 a2 a3 a4 a5 a6 a7 a8 a9 a10 a11 a12 a13 a14 a15 a16 a17 a18 a19
theorem bd20_el {A0 A1 A2 A3 A4 A5 A6 A7 A8 A9 A10 A11 A12 A13 A14 A15 A16 A17 A18 A19 δ : Type} {o : Option (A0 × A1 × A2 × A3 × A4 × A5 × A6 × A7 × A8 × A9 × A10 × A11 × A12 × A13 × A14 × A15 × A16 × A17 × A18 × A19)} {k : A0 → A1 → A2 → A3 → A4 → A5 → A6 → A7 → A8 → A9 → A10 → A11 → A12 → A13 → A14 → A15 → A16 → A17 → A18 → A19 → Option δ} {r : δ} (h : bd20 o k = some r) : ∃ a0 a1 a2 a3 a4 a5 a6 a7 a8 a9 a10 a11 a12 a13 a14 a15 a16 a17 a18 a19, o = some (a0, a1, a2, a3, a4, a5, a6, a7, a8, a9, a10, a11, a12, a13, a14, a15, a16, a17, a18, a19) ∧ k a0 a1 a2 a3 a4 a5 a6 a7 a8 a9 a10 a11 a12 a13 a14 a15 a16 a17 a18 a19 = some r := by
  unfold bd20 at h
  split at h
  · cases h
  · exact ⟨_, _, _, _, _, _, _, _, _, _, _, _, _, _, _, _, _, _, _, _, rfl, h⟩
def bd21 {A0 A1 A2 A3 A4 A5 A6 A7 A8 A9 A10 A11 A12 A13 A14 A15 A16 A17 A18 A19 A20 δ : Type} (o : Option (A0 × A1 × A2 × A3 × A4 × A5 × A6 × A7 × A8 × A9 × A10 × A11 × A12 × A13 × A14 × A15 × A16 × A17 × A18 × A19 × A20)) (k : A0 → A1 → A2 → A3 → A4 → A5 → A6 → A7 → A8 → A9 → A10 → A11 → A12 → A13 → A14 → A15 → A16 → A17 → A18 → A19 → A20 → Option δ) : Option δ := match o with
  | none => none
  | some (a0, a1, a2, a3, a4, a5, a6, a7, a8, a9, a10, a11, a12, a13, a14, a15, a16, a17, a18, a19, a20) => k a0 a1 a2 a3 a4 a5 a6 a7 a8 a9 a10 a11 a12 a13 a14 a15 a16 a17 a18 a19 a20
theorem bd21_el {A0 A1 A2 A3 A4 A5 A6 A7 A8 A9 A10 A11 A12 A13 A14 A15 A16 A17 A18 A19 A20 δ : Type} {o : Option (A0 × A1 × A2 × A3 × A4 × A5 × A6 × A7 × A8 × A9 × A10 × A11 × A12 × A13 × A14 × A15 × A16 × A17 × A18 × A19 × A20)} {k : A0 → A1 → A2 → A3 → A4 → A5 → A6 → A7 → A8 → A9 → A10 → A11 → A12 → A13 → A14 → A15 → A16 → A17 → A18 → A19 → A20 → Option δ} {r : δ} (h : bd21 o k = some r) : ∃ a0 a1 a2 a3 a4 a5 a6 a7 a8 a9 a10 a11 a12 a13 a14 a15 a16 a17 a18 a19 a20, o = some (a0, a1, a2, a3, a4, a5, a6, a7, a8, a9, a10, a11, a12, a13, a14, a15, a16, a17, a18, a19, a20) ∧ k a0 a1 a2 a3 a4 a5 a6 a7 a8 a9 a10 a11 a12 a13 a14 a15 a16 a17 a18 a19 a20 = some r := by
  unfold bd21 at h
  split at h
  · cases h
  · exact ⟨_, _, _, _, _, _, _, _, _, _, _, _, _, _, _, _, _, _, _, _, _, rfl, h⟩
def bd22 {A0 A1 A2 A3 A4 A5 A6 A7 A8 A9 A10 A11 A12 A13 A14 A15 A16 A17 A18 A19 A20 A21 δ : Type} (o : Option (A0 × A1 × A2 × A3 × A4 × A5 × A6 × A7 × A8 × A9 × A10 × A11 × A12 × A13 × A14 × A15 × A16 × A17 × A18 × A19 × A20 × A21)) (k : A0 → A1 → A2 → A3 → A4 → A5 → A6 → A7 → A8 → A9 → A10 → A11 → A12 → A13 → A14 → A15 → A16 → A17 → A18 → A19 → A20 → A21 → Option δ) : Option δ := match o with
  | none => none
  | some (a0, a1, a2, a3, a4, a5, a6, a7, a8, a9, a10, a11, a12, a13, a14, a15, a16, a17, a18, a19, a20, a21) => k a0 a1 a2 a3 a4 a5 a6 a7 a8 a9 a10 a11 a12 a13 a14 a15 a16 a17 a18 a19 a20 a21
theorem bd22_el {A0 A1 A2 A3 A4 A5 A6 A7 A8 A9 A10 A11 A12 A13 A14 A15 A16 A17 A18 A19 A20 A21 δ : Type} {o : Option (A0 × A1 × A2 × A3 × A4 × A5 × A6 × A7 × A8 × A9 × A10 × A11 × A12 × A13 × A14 × A15 × A16 × A17 × A18 × A19 × A20 × A21)} {k : A0 → A1 → A2 → A3 → A4 → A5 → A6 → A7 → A8 → A9 → A10 → A11 → A12 → A13 → A14 → A15 → A16 → A17 → A18 → A19 → A20 → A21 → Option δ} {r : δ} (h : bd22 o k = some r) : ∃ a0 a1 a2 a3 a4 a5 a6 a7 a8 a9 a10 a11 a12 a13 a14 a15 a16 a17 a18 a19 a20 a21, o = some (a0, a1, a2, a3, a4, a5, a6, a7, a8, a9, a10, a11, a12, a13, a14, a15, a16, a17, a18, a19, a20, a21) ∧ k a0 a1 a2 a3 a4 a5 a6 a7 a8 a9 a10 a11 a12 a13 a14 a15 a16 a17 a18 a19 a20 a21 = some r := by
  unfold bd22 at h
  split at h
  · cases h
  · exact ⟨_, _, _, _, _, _, _, _, _, _, _, _, _, _, _, _, _, _, _, _, _, _, rfl, h⟩
def bd23 {A0 A1 A2 A3 A4 A5 A6 A7 A8 A9 A10 A11 A12 A13 A14 A15 A16 A17 A18 A19 A20 A21 A22 δ : Type} (o : Option (A0 × A1 × A2 × A3 × A4 × A5 × A6 × A7 × A8 × A9 × A10 × A11 × A12 × A13 × A14 × A15 × A16 × A17 × A18 × A19 × A20 × A21 × A22)) (k : A0 → A1 → A2 → A3 → A4 → A5 → A6 → A7 → A8 → A9 → A10 → A11 → A12 → A13 → A14 → A15 → A16 → A17 → A18 → A19 → A20 → A21 → A22 → Option δ) : Option δ := match o with
  | none => none
  | some (a0, a1, a2, a3, a4, a5, a6, a7, a8, a9, a10, a11, a12, a13, a14, a15, a16, a17, a18, a19, a20, a21, a22) => k a0 a1 a2 a3 a4 a5 a6 a7 a8 a9 a10 a11 a12 a13 a14 a15 a16 a17 a18 a19 a20 a21 a22
theorem bd23_el {A0 A1 A2 A3 A4 A5 A6 A7 A8 A9 A10 A11 A12 A13 A14 A15 A16 A17 A18 A19 A20 A21 A22 δ : Type} {o : Option (A0 × A1 × A2 × A3 × A4 × A5 × A6 × A7 × A8 × A9 × A10 × A11 × A12 × A13 × A14 × A15 × A16 × A17 × A18 × A19 × A20 × A21 × A22)} {k : A0 → A1 → A2 → A3 → A4 → A5 → A6 → A7 → A8 → A9 → A10 → A11 → A12 → A13 → A14 → A15 → A16 → A17 → A18 → A19 → A20 → A21 → A22 → Option δ} {r : δ} (h : bd23 o k = some r) : ∃ a0 a1 a2 a3 a4 a5 a6 a7 a8 a9 a10 a11 a12 a13 a14 a15 a16 a17 a18 a19 a20 a21 a22, o = some (a0, a1, a2, a3, a4, a5, a6, a7, a8, a9, a10, a11, a12, a13, a14, a15, a16, a17, a18, a19, a20, a21, a22) ∧ k a0 a1 a2 a3 a4 a5 a6 a7 a8 a9 a10 a11 a12 a13 a14 a15 a16 a17 a18 a19 a20 a21 a22 = some r := by
  unfold bd23 at h
  split at h
  · cases h
  · exact ⟨_, _, _, _, _, _, _, _, _, _, _, _, _, _, _, _, _, _, _, _, _, _, _, rfl, h⟩
def bd24 {A0 A1 A2 A3 A4 A5 A6 A7 A8 A9 A10 A11 A12 A13 A14 A15 A16 A17 A18 A19 A20 A21 A22 A23 δ : Type} (o : Option (A0 × A1 × A2 × A3 × A4 × A5 × A6 × A7 × A8 × A9 × A10 × A11 × A12 × A13 × A14 × A15 × A16 × A17 × A18 × A19 × A20 × A21 × A22 × A23)) (k : A0 → A1 → A2 → A3 → A4 → A5 → A6 → A7 → A8 → A9 → A10 → A11 → A12 → A13 → A14 → A15 → A16 → A17 → A18 → A19 → A20 → A21 → A22 → A23 → Option δ) : Option δ := match o with
  | none => none
  | some (a0, a1, a2, a3, a4, a5, a6, a7, a8, a9, a10, a11, a12, a13, a14, a15, a16, a17, a18, a19, a20, a21, a22, a23) => k a0 a1 a2 a3 a4 a5 a6 a7 a8 a9 a10 a11 a12 a13 a14 a15 a16 a17 a18 a19 a20 a21 a22 a23
theorem bd24_el {A0 A1 A2 A3 A4 A5 A6 A7 A8 A9 A10 A11 A12 A13 A14 A15 A16 A17 A18 A19 A20 A21 A22 A23 δ : Type} {o : Option (A0 × A1 × A2 × A3 × A4 × A5 × A6 × A7 × A8 × A9 × A10 × A11 × A12 × A13 × A14 × A15 × A16 × A17 × A18 × A19 × A20 × A21 × A22 × A23)} {k : A0 → A1 → A2 → A3 → A4 → A5 → A6 → A7 → A8 → A9 → A10 → A11 → A12 → A13 → A14 → A15 → A16 → A17 → A18 → A19 → A20 → A21 → A22 → A23 → Option δ} {r : δ} (h : bd24 o k = some r) : ∃ a0 a1 a2 a3 a4 a5 a6 a7 a8 a9 a10 a11 a12 a13 a14 a15 a16 a17 a18 a19 a20 a21 a22 a23, o = some (a0, a1, a2, a3, a4, a5, a6, a7, a8, a9, a10, a11, a12, a13, a14, a15, a16, a17, a18, a19, a20, a21, a22, a23) ∧ k a0 a1 a2 a3 a4 a5 a6 a7 a8 a9 a10 a11 a12 a13 a14 a15 a16 a17 a18 a19 a20 a21 a22 a23 = some r := by
  unfold bd24 at h
  split at h
  · cases h
  · exact ⟨_, _, _, _, _, _, _, _, _, _, _, _, _, _, _, _, _, _, _, _, _, _, _, _, rfl, h⟩
def bd25 {A0 A1 A2 A3 A4 A5 A6 A7 A8 A9 A10 A11 A12 A13 A14 A15 A16 A17 A18 A19 A20 A21 A22 A23 A24 δ : Type} (o : Option (A0 × A1 × A2 × A3 × A4 × A5 × A6 × A7 × A8 × A9 × A10 × A11 × A12 × A13 × A14 × A15 × A16 × A17 × A18 × A19 × A20 × A21 × A22 × A23 × A24)) (k : A0 → A1 → A2 → A3 → A4 → A5 → A6 → A7 → A8 → A9 → A10 → A11 → A12 → A13 → A14 → A15 → A16 → A17 → A18 → A19 → A20 → A21 → A22 → A23 → A24 → Option δ) : Option δ := match o with
  | none => none
  | some (a0, a1, a2, a3, a4, a5, a6, a7, a8, a9, a10, a11, a12, a13, a14, a15, a16, a17, a18, a19, a20, a21, a22, a23, a24) => k a0 a1 a2 a3 a4 a5 a6 a7 a8 a9 a10 a11 a12 a13 a14 a15 a16 a17 a18 a19 a20 a21 a22 a23 a24
theorem bd25_el {A0 A1 A2 A3 A4 A5 A6 A7 A8 A9 A10 A11 A12 A13 A14 A15 A16 A17 A18 A19 A20 A21 A22 A23 A24 δ : Type} {o : Option (A0 × A1 × A2 × A3 × A4 × A5 × A6 × A7 × A8 × A9 × A10 × A11 × A12 × A13 × A14 × A15 × A16 × A17 × A18 × A19 × A20 × A21 × A22 × A23 × A24)} {k : A0 → A1 → A2 → A3 → A4 → A5 → A6 → A7 → A8 → A9 → A10 → A11 → A12 → A13 → A14 → A15 → A16 → A17 → A18 → A19 → A20 → A21 → A22 → A23 → A24 → Option δ} {r : δ} (h : bd25 o k = some r) : ∃ a0 a1 a2 a3 a4 a5 a6 a7 a8 a9 a10 a11 a12 a13 a14 a15 a16 a17 a18 a19 a20 a21 a22 a23 a24, o = some (a0, a1, a2, a3, a4, a5, a6, a7, a8, a9, a10, a11, a12, a13, a14, a15, a16, a17, a18, a19, a20, a21, a22, a23, a24) ∧ k a0 a1 a2 a3 a4 a5 a6 a7 a8 a9 a10 a11 a12 a13 a14 a15 a16 a17 a18 a19 a20 a21 a22 a23 a24 = some r := by
  unfold bd25 at h
  split at h
  · cases h
  · exact ⟨_, _, _, _, _, _, _, _, _, _, _, _, _, _, _, _, _, _, _, _, _, _, _, _, _, rfl, h⟩
def bd26 {A0 A1 A2 A3 A4 A5 A6 A7 A8 A9 A10 A11 A12 A13 A14 A15 A16 A17 A18 A19 A20 A21 A22 A23 A24 A25 δ : Type} (o : Option (A0 × A1 × A2 × A3 × A4 × A5 × A6 × A7 × A8 × A9 × A10 × A11 × A12 × A13 × A14 × A15 × A16 × A17 × A18 × A19 × A20 × A21 × A22 × A23 × A24 × A25)) (k : A0 → A1 → A2 → A3 → A4 → A5 → A6 → A7 → A8 → A9 → A10 → A11 → A12 → A13 → A14 → A15 → A16 → A17 → A18 → A19 → A20 → A21 → A22 → A23 → A24 → A25 → Option δ) : Option δ := match o with
  | none => none
  | some (a0, a1, a2, a3, a4, a5, a6, a7, a8, a9, a10, a11, a12, a13, a14, a15, a16, a17, a18, a19, a20, a21, a22, a23, a24, a25) => k a0 a1 a2 a3 a4 a5 a6 a7 a8 a9 a10 a11 a12 a13 a14 a15 a16 a17 a18 a19 a20 a21 a22 a23 a24 a25
theorem bd26_el {A0 A1 A2 A3 A4 A5 A6 A7 A8 A9 A10 A11 A12 A13 A14 A15 A16 A17 A18 A19 A20 A21 A22 A23 A24 A25 δ : Type} {o : Option (A0 × A1 × A2 × A3 × A4 × A5 × A6 × A7 × A8 × A9 × A10 × A11 × A12 × A13 × A14 × A15 × A16 × A17 × A18 × A19 × A20 × A21 × A22 × A23 × A24 × A25)} {k : A0 → A1 → A2 → A3 → A4 → A5 → A6 → A7 → A8 → A9 → A10 → A11 → A12 → A13 → A14 → A15 → A16 → A17 → A18 → A19 → A20 → A21 → A22 → A23 → A24 → A25 → Option δ} {r : δ} (h : bd26 o k = some r) : ∃ a0 a1 a2 a3 a4 a5 a6 a7 a8 a9 a10 a11 a12 a13 a14 a15 a16 a17 a18 a19 a20 a21 a22 a23 a24 a25, o = some (a0, a1, a2, a3, a4, a5, a6, a7, a8, a9, a10, a11, a12, a13, a14, a15, a16, a17, a18, a19, a20, a21, a22, a23, a24, a25) ∧ k a0 a1 a2 a3 a4 a5 a6 a7 a8 a9 a10 a11 a12 a13 a14 a15 a16 a17 a18 a19 a20 a21 a22 a23 a24 a25 = some r := by
  unfold bd26 at h
  split at h
  · cases h
  · exact ⟨_, _, _, _, _, _, _, _, _, _, _, _, _, _, _, _, _, _, _, _, _, _, _, _, _, _, rfl, h⟩
def bd0 {δ : Type} (o : Option Unit) (k : Option δ) : Option δ := match o with
  | none => none
  | some _ => k
theorem bd0_el {δ : Type} {o : Option Unit} {k : Option δ} {r : δ} (h : bd0 o k = some r) : o = some () ∧ k = some r := by
  unfold bd0 at h
  split at h
  · cases h
  · exact ⟨rfl, h⟩
abbrev ktys (ca : Nat → ClassId) : List (ClassId × FieldType) := [(ca 0, .int), (ca 1, .long), (ca 2, .byte)]
abbrev kPre (D : va_G) (ca : Nat → ClassId) (ws : va_W) (sz : Nat) (U : State) : Prop := U.heap.size = sz ∧ va_P D vwCl ws U.heap ∧ va_K D vwCl (ktys ca) U ∧ va_D (fun _ => True) ws
abbrev kPost (D : va_G) (ca : Nat → ClassId) (A : Nat → Prop) (ws : va_W) (t : State) : Prop := va_P D vwCl ws t.heap ∧ va_K D vwCl (ktys ca) t ∧ va_D A ws
abbrev kQi (D : va_G) (ca : Nat → ClassId) (A : Nat → Prop) (ws : va_W) (r : Int32) : Array Value → State → Outcome → State → Prop := va_Qi (fun (r' : Int32) (_ : Unit) => r' = r) (fun _ t => kPost D ca A ws t) A
abbrev kQl (D : va_G) (ca : Nat → ClassId) (A : Nat → Prop) (ws : va_W) (r : Int64) : Array Value → State → Outcome → State → Prop := va_Ql (fun (r' : Int64) (_ : Unit) => r' = r) (fun _ t => kPost D ca A ws t) A
abbrev kQv (D : va_G) (ca : Nat → ClassId) (A : Nat → Prop) (ws : va_W) : Array Value → State → Outcome → State → Prop := va_Qv (fun (_ : Unit) => True) (fun _ t => kPost D ca A ws t) A
abbrev kQr (D : va_G) (ca : Nat → ClassId) (A : Nat → Prop) (ws : va_W) (q : Nat) : Array Value → State → Outcome → State → Prop := va_Qr (fun (_ : Unit) => True) (fun _ a t => a = q ∧ kPost D ca A ws t) A
section KX
variable {p : Program} {l : Launch} {e : Env} {R : Room} {s : State} {m : MethodId} {args : Array Value} {below : List Frame} {meth : Method} {c : Code} {H : Heap} {locs : List Loc} {cells slots : Nat} {Q : State → Prop} {pc : Nat} {ls : Array Slot} {rest : List Value}
theorem lv_nmi {α : Type} {x : Int32} {k : Int32 → Option α} {o : α} (h : nm x k = some o) (kk : ∀ y : Int32, k y = some o → W p l e R s m args below meth c H locs cells slots Q (F0 m pc ls (.int y :: rest))) : W p l e R s m args below meth c H locs cells slots Q (F0 m pc ls (.int x :: rest)) := kk x h
theorem lv_nml {α : Type} {x : Int64} {k : Int64 → Option α} {o : α} (h : nm x k = some o) (kk : ∀ y : Int64, k y = some o → W p l e R s m args below meth c H locs cells slots Q (F0 m pc ls (.long y :: rest))) : W p l e R s m args below meth c H locs cells slots Q (F0 m pc ls (.long x :: rest)) := kk x h
variable {D : va_G} {ca : Nat → ClassId} {ws wc w1 wr wn : va_W} {A0 : Nat → Prop} {H0 : Heap} {st0 : List Value} {a : Array Value}
/-- behind a call: the callee's cells as it left them beside the rest, in the caller's order again -/
theorem kx_back (hP : va_P D vwCl ws H) (hD : va_D A0 ws) (hS : va_S A0 H0 H locs) (hA : ∀ q, H0.size ≤ q → A0 q) (isC isR : List Nat) (hC : isC.map (fun i => ws[i]?) = wc.map some) (hR : isR.map (fun i => ws[i]?) = wr.map some) (hn : va_nd isR = true) (hdis : ∀ i ∈ isR, i ∉ isC) (is : List Nat) (his : va_nd is = true) (hw : is.map (fun i => (wr ++ w1)[i]?) = wn.map some) {H1 : Heap}
    (hk : ∀ q : Nat, q < H.size → ¬ va_A wc H.size q → H1[q]? = H[q]?) (hP1 : va_P D vwCl w1 H1) (hD1 : va_D (va_A wc H.size) w1) : va_P D vwCl wn H1 ∧ va_D A0 wn := by
  obtain ⟨h1, h2⟩ := va_join (wr := wr) (w1 := w1) hP hD isC isR hC hR hn hdis hk (va_free (wc := wc) hD hS hA isC hC) hP1 hD1
  refine ⟨h1.sub is ?_, h2.sub is his hw⟩
  have hz : ∀ (js : List Nat) (ys : va_W), js.map (fun i => (wr ++ w1)[i]?) = ys.map some → js.filterMap (fun i => (wr ++ w1)[i]?) = ys := by
    intro js
    induction js with
    | nil => intro ys h; cases ys with
      | nil => rfl
      | cons y ys => cases h
    | cons j js ih => intro ys h; cases ys with
      | nil => cases h
      | cons y ys =>
        simp only [List.map_cons, List.cons.injEq] at h
        rw [List.filterMap_cons, h.1, ih ys h.2]
  exact hz is wn hw
end KX
theorem ifp_el {α : Type} {c : Prop} [Decidable c] {a b : Option α} {o : α} (hc : c) (h : (if c then a else b) = some o) : a = some o := by
  rw [if_pos hc] at h; exact h
theorem ifn_el {α : Type} {c : Prop} [Decidable c] {a b : Option α} {o : α} (hc : ¬ c) (h : (if c then a else b) = some o) : b = some o := by
  rw [if_neg hc] at h; exact h
theorem k_map_fm {β γ : Type} (f : β → Option γ) : ∀ (js : List β) (ys : List γ), js.map f = ys.map some → js.filterMap f = ys := by
  intro js
  induction js with
  | nil => intro ys h; cases ys with
    | nil => rfl
    | cons y ys => cases h
  | cons j js ih => intro ys h; cases ys with
    | nil => cases h
    | cons y ys =>
      simp only [List.map_cons, List.cons.injEq] at h
      rw [List.filterMap_cons, h.1, ih ys h.2]
section KY
variable {p : Program} {l : Launch} {e : Env} {R : Room} {s : State} {m : MethodId} {args : Array Value} {below : List Frame} {meth : Method} {c : Code} {H : Heap} {locs : List Loc} {cells slots : Nat} {Q : State → Prop} {pc : Nat} {ls : Array Slot} {rest : List Value}
variable {D : va_G} {ca : Nat → ClassId} {ws wc w1 wr wn : va_W} {A0 : Nat → Prop} {H0 : Heap} {st0 As : List Value} {y : MethodName} {bytes cc : ByteArray} {maxL nL n index : Nat} {ret : Option FieldType} {wsY Ts : List Cond} {rm : Room} {own C : String} {b : Addr}
theorem k_blind {av : List Value} {w : va_W} {sz : Nat} : FrameBlind (va_Pc av (kPre D ca w sz)) := fun a U g mk q => ⟨q.1, q.2.1, q.2.2.1, va_K.moved (u := U) (U := U.calling g mk a) (Vm.Alike.refl U.vm) q.2.2.2.1, q.2.2.2.2⟩
theorem k_pre {av : List Value} (hK : va_K D vwCl (ktys ca) s) (hP : va_P D vwCl ws H) (hD : va_D A0 ws) (isC : List Nat) (hnC : va_nd isC = true) (hC : isC.map (fun i => ws[i]?) = wc.map some) : ∀ U : State, U.heap = H → s.WarmedH U.vm → va_Pc av (kPre D ca wc H.size) av.toArray U := fun U hU hW => ⟨rfl, by rw [hU], by rw [hU]; exact hP.sub isC (k_map_fm _ _ _ hC), va_K.moved hW.alike hK, (hD.sub isC hnC hC).weaken (fun _ _ _ _ => trivial)⟩
theorem kx_Vi {r : Int32} (S : CallFix p m c cc nL s args Ts own) (hM : Met l y wsY rm (va_Pc (.ref b :: As) (kPre D ca wc H.size)) (kQi D ca (va_A wc H.size) w1 r) 0 0 (va_A wc H.size)) (cw : CallW R s args own C index y bytes maxL ret wsY rm 0 0 n) (hK : va_K D vwCl (ktys ca) s) (hP : va_P D vwCl ws H) (hD : va_D A0 ws) (hS : va_S A0 H0 H locs) (hA : ∀ q, H0.size ≤ q → A0 q) {ci q0 N : Nat} {T : u_T} {fs : List Value} (hci : vwCl[ci]? = some (C, T, N)) (hq0 : wc[q0]? = some (b, .inr (ci, fs))) (isC isR is : List Nat) (hnC : va_nd isC = true) (hC : isC.map (fun i => ws[i]?) = wc.map some) (hR : isR.map (fun i => ws[i]?) = wr.map some) (hn : va_nd isR = true) (hdis : ∀ i ∈ isR, i ∉ isC) (his : va_nd is = true) (hw : is.map (fun i => (wr ++ w1)[i]?) = wn.map some)
    (hlen : As.length = n) (hsize : ls.size = nL) (hstack : st0 = As.reverse ++ .ref b :: rest) (hW : (rest.map fun v => v.category).sum ≤ 8) (hdg : decode cc pc = .ok (.invokevirtual index, 3)) (hf : cells + 0 ≤ R.cells ∧ slots + 0 ≤ R.slots)
    (kk : ∀ (H1 : Heap) (locs1 : List Loc), va_P D vwCl wn H1 → va_D A0 wn → va_S A0 H0 H1 locs1 → W p l e R s m args below meth c H1 locs1 cells slots Q (F0 m (pc + 3) ls (.int r :: rest))) : W p l e R s m args below meth c H locs cells slots Q (F0 m pc ls st0) := by
  have hFc := va_free (wc := wc) hD hS hA isC hC
  refine va_calli (va_runV (As := As) (rest := rest) S hM cw ⟨k_blind, va_recv (tys := ktys ca) hK (hP.sub isC (k_map_fm _ _ _ hC)) hci hq0, k_pre hK hP hD isC hnC hC⟩ rfl hlen hsize hstack (lv_room hW) hdg hf) hS (fun q _ h => hFc q h) hFc (fun r1 u t H1 locs1 ht hvm hpo hB hz1 hk1 hS1 => ?_)
  subst hpo
  obtain ⟨hP1, hK1, hD1⟩ := hB
  rw [ht] at hP1
  obtain ⟨hP2, hD2⟩ := kx_back (wr := wr) (w1 := w1) (wn := wn) hP hD hS hA isC isR hC hR hn hdis is his hw hk1 hP1 hD1
  exact kk H1 locs1 hP2 hD2 hS1
theorem kx_Vl {r : Int64} (S : CallFix p m c cc nL s args Ts own) (hM : Met l y wsY rm (va_Pc (.ref b :: As) (kPre D ca wc H.size)) (kQl D ca (va_A wc H.size) w1 r) 0 0 (va_A wc H.size)) (cw : CallW R s args own C index y bytes maxL ret wsY rm 0 0 n) (hK : va_K D vwCl (ktys ca) s) (hP : va_P D vwCl ws H) (hD : va_D A0 ws) (hS : va_S A0 H0 H locs) (hA : ∀ q, H0.size ≤ q → A0 q) {ci q0 N : Nat} {T : u_T} {fs : List Value} (hci : vwCl[ci]? = some (C, T, N)) (hq0 : wc[q0]? = some (b, .inr (ci, fs))) (isC isR is : List Nat) (hnC : va_nd isC = true) (hC : isC.map (fun i => ws[i]?) = wc.map some) (hR : isR.map (fun i => ws[i]?) = wr.map some) (hn : va_nd isR = true) (hdis : ∀ i ∈ isR, i ∉ isC) (his : va_nd is = true) (hw : is.map (fun i => (wr ++ w1)[i]?) = wn.map some)
    (hlen : As.length = n) (hsize : ls.size = nL) (hstack : st0 = As.reverse ++ .ref b :: rest) (hW : (rest.map fun v => v.category).sum ≤ 8) (hdg : decode cc pc = .ok (.invokevirtual index, 3)) (hf : cells + 0 ≤ R.cells ∧ slots + 0 ≤ R.slots)
    (kk : ∀ (H1 : Heap) (locs1 : List Loc), va_P D vwCl wn H1 → va_D A0 wn → va_S A0 H0 H1 locs1 → W p l e R s m args below meth c H1 locs1 cells slots Q (F0 m (pc + 3) ls (.long r :: rest))) : W p l e R s m args below meth c H locs cells slots Q (F0 m pc ls st0) := by
  have hFc := va_free (wc := wc) hD hS hA isC hC
  refine va_calll (va_runV (As := As) (rest := rest) S hM cw ⟨k_blind, va_recv (tys := ktys ca) hK (hP.sub isC (k_map_fm _ _ _ hC)) hci hq0, k_pre hK hP hD isC hnC hC⟩ rfl hlen hsize hstack (lv_room hW) hdg hf) hS (fun q _ h => hFc q h) hFc (fun r1 u t H1 locs1 ht hvm hpo hB hz1 hk1 hS1 => ?_)
  subst hpo
  obtain ⟨hP1, hK1, hD1⟩ := hB
  rw [ht] at hP1
  obtain ⟨hP2, hD2⟩ := kx_back (wr := wr) (w1 := w1) (wn := wn) hP hD hS hA isC isR hC hR hn hdis is his hw hk1 hP1 hD1
  exact kk H1 locs1 hP2 hD2 hS1
theorem kx_Vv (S : CallFix p m c cc nL s args Ts own) (hM : Met l y wsY rm (va_Pc (.ref b :: As) (kPre D ca wc H.size)) (kQv D ca (va_A wc H.size) w1) 0 0 (va_A wc H.size)) (cw : CallW R s args own C index y bytes maxL ret wsY rm 0 0 n) (hK : va_K D vwCl (ktys ca) s) (hP : va_P D vwCl ws H) (hD : va_D A0 ws) (hS : va_S A0 H0 H locs) (hA : ∀ q, H0.size ≤ q → A0 q) {ci q0 N : Nat} {T : u_T} {fs : List Value} (hci : vwCl[ci]? = some (C, T, N)) (hq0 : wc[q0]? = some (b, .inr (ci, fs))) (isC isR is : List Nat) (hnC : va_nd isC = true) (hC : isC.map (fun i => ws[i]?) = wc.map some) (hR : isR.map (fun i => ws[i]?) = wr.map some) (hn : va_nd isR = true) (hdis : ∀ i ∈ isR, i ∉ isC) (his : va_nd is = true) (hw : is.map (fun i => (wr ++ w1)[i]?) = wn.map some)
    (hlen : As.length = n) (hsize : ls.size = nL) (hstack : st0 = As.reverse ++ .ref b :: rest) (hW : (rest.map fun v => v.category).sum ≤ 8) (hdg : decode cc pc = .ok (.invokevirtual index, 3)) (hf : cells + 0 ≤ R.cells ∧ slots + 0 ≤ R.slots)
    (kk : ∀ (H1 : Heap) (locs1 : List Loc), va_P D vwCl wn H1 → va_D A0 wn → va_S A0 H0 H1 locs1 → W p l e R s m args below meth c H1 locs1 cells slots Q (F0 m (pc + 3) ls (rest))) : W p l e R s m args below meth c H locs cells slots Q (F0 m pc ls st0) := by
  have hFc := va_free (wc := wc) hD hS hA isC hC
  refine va_callv (va_runV (As := As) (rest := rest) S hM cw ⟨k_blind, va_recv (tys := ktys ca) hK (hP.sub isC (k_map_fm _ _ _ hC)) hci hq0, k_pre hK hP hD isC hnC hC⟩ rfl hlen hsize hstack (lv_room hW) hdg hf) hS (fun q _ h => hFc q h) hFc (fun u t H1 locs1 ht hvm hpo hB hz1 hk1 hS1 => ?_)
  obtain ⟨hP1, hK1, hD1⟩ := hB
  rw [ht] at hP1
  obtain ⟨hP2, hD2⟩ := kx_back (wr := wr) (w1 := w1) (wn := wn) hP hD hS hA isC isR hC hR hn hdis is his hw hk1 hP1 hD1
  exact kk H1 locs1 hP2 hD2 hS1
theorem kx_Vr {r : Nat} (S : CallFix p m c cc nL s args Ts own) (hM : Met l y wsY rm (va_Pc (.ref b :: As) (kPre D ca wc H.size)) (kQr D ca (va_A wc H.size) w1 r) 0 0 (va_A wc H.size)) (cw : CallW R s args own C index y bytes maxL ret wsY rm 0 0 n) (hK : va_K D vwCl (ktys ca) s) (hP : va_P D vwCl ws H) (hD : va_D A0 ws) (hS : va_S A0 H0 H locs) (hA : ∀ q, H0.size ≤ q → A0 q) {ci q0 N : Nat} {T : u_T} {fs : List Value} (hci : vwCl[ci]? = some (C, T, N)) (hq0 : wc[q0]? = some (b, .inr (ci, fs))) (isC isR is : List Nat) (hnC : va_nd isC = true) (hC : isC.map (fun i => ws[i]?) = wc.map some) (hR : isR.map (fun i => ws[i]?) = wr.map some) (hn : va_nd isR = true) (hdis : ∀ i ∈ isR, i ∉ isC) (his : va_nd is = true) (hw : is.map (fun i => (wr ++ w1)[i]?) = wn.map some)
    (hlen : As.length = n) (hsize : ls.size = nL) (hstack : st0 = As.reverse ++ .ref b :: rest) (hW : (rest.map fun v => v.category).sum ≤ 8) (hdg : decode cc pc = .ok (.invokevirtual index, 3)) (hf : cells + 0 ≤ R.cells ∧ slots + 0 ≤ R.slots)
    (kk : ∀ (H1 : Heap) (locs1 : List Loc), va_P D vwCl wn H1 → va_D A0 wn → va_S A0 H0 H1 locs1 → W p l e R s m args below meth c H1 locs1 cells slots Q (F0 m (pc + 3) ls (.ref r :: rest))) : W p l e R s m args below meth c H locs cells slots Q (F0 m pc ls st0) := by
  have hFc := va_free (wc := wc) hD hS hA isC hC
  refine va_callr (va_runV (As := As) (rest := rest) S hM cw ⟨k_blind, va_recv (tys := ktys ca) hK (hP.sub isC (k_map_fm _ _ _ hC)) hci hq0, k_pre hK hP hD isC hnC hC⟩ rfl hlen hsize hstack (lv_room hW) hdg hf) hS (fun q _ h => hFc q h) hFc (fun u r1 t H1 locs1 ht hvm hpo hB hz1 hk1 hS1 => ?_)
  obtain ⟨hpo, hB⟩ := hB
  subst hpo
  obtain ⟨hP1, hK1, hD1⟩ := hB
  rw [ht] at hP1
  obtain ⟨hP2, hD2⟩ := kx_back (wr := wr) (w1 := w1) (wn := wn) hP hD hS hA isC isR hC hR hn hdis is his hw hk1 hP1 hD1
  exact kk H1 locs1 hP2 hD2 hS1
theorem kx_Si {r : Int32} (S : CallFix p m c cc nL s args Ts own) (hM : Met l y wsY rm (va_Pc As (kPre D ca wc H.size)) (kQi D ca (va_A wc H.size) w1 r) 0 0 (va_A wc H.size)) (cw : CallB R s args own index y bytes maxL ret wsY rm 0 0 n ∧ (Cond.static y).before args s = true) (hK : va_K D vwCl (ktys ca) s) (hP : va_P D vwCl ws H) (hD : va_D A0 ws) (hS : va_S A0 H0 H locs) (hA : ∀ q, H0.size ≤ q → A0 q) (isC isR is : List Nat) (hnC : va_nd isC = true) (hC : isC.map (fun i => ws[i]?) = wc.map some) (hR : isR.map (fun i => ws[i]?) = wr.map some) (hn : va_nd isR = true) (hdis : ∀ i ∈ isR, i ∉ isC) (his : va_nd is = true) (hw : is.map (fun i => (wr ++ w1)[i]?) = wn.map some)
    (hlen : As.length = n) (hsize : ls.size = nL) (hstack : st0 = As.reverse ++ rest) (hW : (rest.map fun v => v.category).sum ≤ 8) (hdg : decode cc pc = .ok (.invokestatic index, 3)) (hf : cells + 0 ≤ R.cells ∧ slots + 0 ≤ R.slots)
    (kk : ∀ (H1 : Heap) (locs1 : List Loc), va_P D vwCl wn H1 → va_D A0 wn → va_S A0 H0 H1 locs1 → W p l e R s m args below meth c H1 locs1 cells slots Q (F0 m (pc + 3) ls (.int r :: rest))) : W p l e R s m args below meth c H locs cells slots Q (F0 m pc ls st0) := by
  have hFc := va_free (wc := wc) hD hS hA isC hC
  refine va_calli (va_runS (As := As) (rest := rest) S hM cw ⟨k_blind, k_pre hK hP hD isC hnC hC⟩ rfl hlen hsize hstack (lv_room hW) hdg hf) hS (fun q _ h => hFc q h) hFc (fun r1 u t H1 locs1 ht hvm hpo hB hz1 hk1 hS1 => ?_)
  subst hpo
  obtain ⟨hP1, hK1, hD1⟩ := hB
  rw [ht] at hP1
  obtain ⟨hP2, hD2⟩ := kx_back (wr := wr) (w1 := w1) (wn := wn) hP hD hS hA isC isR hC hR hn hdis is his hw hk1 hP1 hD1
  exact kk H1 locs1 hP2 hD2 hS1
theorem kx_Sl {r : Int64} (S : CallFix p m c cc nL s args Ts own) (hM : Met l y wsY rm (va_Pc As (kPre D ca wc H.size)) (kQl D ca (va_A wc H.size) w1 r) 0 0 (va_A wc H.size)) (cw : CallB R s args own index y bytes maxL ret wsY rm 0 0 n ∧ (Cond.static y).before args s = true) (hK : va_K D vwCl (ktys ca) s) (hP : va_P D vwCl ws H) (hD : va_D A0 ws) (hS : va_S A0 H0 H locs) (hA : ∀ q, H0.size ≤ q → A0 q) (isC isR is : List Nat) (hnC : va_nd isC = true) (hC : isC.map (fun i => ws[i]?) = wc.map some) (hR : isR.map (fun i => ws[i]?) = wr.map some) (hn : va_nd isR = true) (hdis : ∀ i ∈ isR, i ∉ isC) (his : va_nd is = true) (hw : is.map (fun i => (wr ++ w1)[i]?) = wn.map some)
    (hlen : As.length = n) (hsize : ls.size = nL) (hstack : st0 = As.reverse ++ rest) (hW : (rest.map fun v => v.category).sum ≤ 8) (hdg : decode cc pc = .ok (.invokestatic index, 3)) (hf : cells + 0 ≤ R.cells ∧ slots + 0 ≤ R.slots)
    (kk : ∀ (H1 : Heap) (locs1 : List Loc), va_P D vwCl wn H1 → va_D A0 wn → va_S A0 H0 H1 locs1 → W p l e R s m args below meth c H1 locs1 cells slots Q (F0 m (pc + 3) ls (.long r :: rest))) : W p l e R s m args below meth c H locs cells slots Q (F0 m pc ls st0) := by
  have hFc := va_free (wc := wc) hD hS hA isC hC
  refine va_calll (va_runS (As := As) (rest := rest) S hM cw ⟨k_blind, k_pre hK hP hD isC hnC hC⟩ rfl hlen hsize hstack (lv_room hW) hdg hf) hS (fun q _ h => hFc q h) hFc (fun r1 u t H1 locs1 ht hvm hpo hB hz1 hk1 hS1 => ?_)
  subst hpo
  obtain ⟨hP1, hK1, hD1⟩ := hB
  rw [ht] at hP1
  obtain ⟨hP2, hD2⟩ := kx_back (wr := wr) (w1 := w1) (wn := wn) hP hD hS hA isC isR hC hR hn hdis is his hw hk1 hP1 hD1
  exact kk H1 locs1 hP2 hD2 hS1
theorem kx_Sv (S : CallFix p m c cc nL s args Ts own) (hM : Met l y wsY rm (va_Pc As (kPre D ca wc H.size)) (kQv D ca (va_A wc H.size) w1) 0 0 (va_A wc H.size)) (cw : CallB R s args own index y bytes maxL ret wsY rm 0 0 n ∧ (Cond.static y).before args s = true) (hK : va_K D vwCl (ktys ca) s) (hP : va_P D vwCl ws H) (hD : va_D A0 ws) (hS : va_S A0 H0 H locs) (hA : ∀ q, H0.size ≤ q → A0 q) (isC isR is : List Nat) (hnC : va_nd isC = true) (hC : isC.map (fun i => ws[i]?) = wc.map some) (hR : isR.map (fun i => ws[i]?) = wr.map some) (hn : va_nd isR = true) (hdis : ∀ i ∈ isR, i ∉ isC) (his : va_nd is = true) (hw : is.map (fun i => (wr ++ w1)[i]?) = wn.map some)
    (hlen : As.length = n) (hsize : ls.size = nL) (hstack : st0 = As.reverse ++ rest) (hW : (rest.map fun v => v.category).sum ≤ 8) (hdg : decode cc pc = .ok (.invokestatic index, 3)) (hf : cells + 0 ≤ R.cells ∧ slots + 0 ≤ R.slots)
    (kk : ∀ (H1 : Heap) (locs1 : List Loc), va_P D vwCl wn H1 → va_D A0 wn → va_S A0 H0 H1 locs1 → W p l e R s m args below meth c H1 locs1 cells slots Q (F0 m (pc + 3) ls (rest))) : W p l e R s m args below meth c H locs cells slots Q (F0 m pc ls st0) := by
  have hFc := va_free (wc := wc) hD hS hA isC hC
  refine va_callv (va_runS (As := As) (rest := rest) S hM cw ⟨k_blind, k_pre hK hP hD isC hnC hC⟩ rfl hlen hsize hstack (lv_room hW) hdg hf) hS (fun q _ h => hFc q h) hFc (fun u t H1 locs1 ht hvm hpo hB hz1 hk1 hS1 => ?_)
  obtain ⟨hP1, hK1, hD1⟩ := hB
  rw [ht] at hP1
  obtain ⟨hP2, hD2⟩ := kx_back (wr := wr) (w1 := w1) (wn := wn) hP hD hS hA isC isR hC hR hn hdis is his hw hk1 hP1 hD1
  exact kk H1 locs1 hP2 hD2 hS1
theorem kx_Sr {r : Nat} (S : CallFix p m c cc nL s args Ts own) (hM : Met l y wsY rm (va_Pc As (kPre D ca wc H.size)) (kQr D ca (va_A wc H.size) w1 r) 0 0 (va_A wc H.size)) (cw : CallB R s args own index y bytes maxL ret wsY rm 0 0 n ∧ (Cond.static y).before args s = true) (hK : va_K D vwCl (ktys ca) s) (hP : va_P D vwCl ws H) (hD : va_D A0 ws) (hS : va_S A0 H0 H locs) (hA : ∀ q, H0.size ≤ q → A0 q) (isC isR is : List Nat) (hnC : va_nd isC = true) (hC : isC.map (fun i => ws[i]?) = wc.map some) (hR : isR.map (fun i => ws[i]?) = wr.map some) (hn : va_nd isR = true) (hdis : ∀ i ∈ isR, i ∉ isC) (his : va_nd is = true) (hw : is.map (fun i => (wr ++ w1)[i]?) = wn.map some)
    (hlen : As.length = n) (hsize : ls.size = nL) (hstack : st0 = As.reverse ++ rest) (hW : (rest.map fun v => v.category).sum ≤ 8) (hdg : decode cc pc = .ok (.invokestatic index, 3)) (hf : cells + 0 ≤ R.cells ∧ slots + 0 ≤ R.slots)
    (kk : ∀ (H1 : Heap) (locs1 : List Loc), va_P D vwCl wn H1 → va_D A0 wn → va_S A0 H0 H1 locs1 → W p l e R s m args below meth c H1 locs1 cells slots Q (F0 m (pc + 3) ls (.ref r :: rest))) : W p l e R s m args below meth c H locs cells slots Q (F0 m pc ls st0) := by
  have hFc := va_free (wc := wc) hD hS hA isC hC
  refine va_callr (va_runS (As := As) (rest := rest) S hM cw ⟨k_blind, k_pre hK hP hD isC hnC hC⟩ rfl hlen hsize hstack (lv_room hW) hdg hf) hS (fun q _ h => hFc q h) hFc (fun u r1 t H1 locs1 ht hvm hpo hB hz1 hk1 hS1 => ?_)
  obtain ⟨hpo, hB⟩ := hB
  subst hpo
  obtain ⟨hP1, hK1, hD1⟩ := hB
  rw [ht] at hP1
  obtain ⟨hP2, hD2⟩ := kx_back (wr := wr) (w1 := w1) (wn := wn) hP hD hS hA isC isR hC hR hn hdis is his hw hk1 hP1 hD1
  exact kk H1 locs1 hP2 hD2 hS1
end KY
