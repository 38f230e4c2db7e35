/-! PURE: loops; words as lists of sounds; how far they are apart -/
theorem lpg_ind {T σ R : Type} {bot : T} {body : T → T} (ap : T → σ → Option R) (I : Nat → σ → Prop) (Q : R → Prop)
    (hs : ∀ (rec : T) (d : Nat) (s : σ), I d s → (∃ r, Q r ∧ ap (body rec) s = some r) ∨ (∃ (d' : Nat) (s' : σ), d' < d ∧ I d' s' ∧ ap (body rec) s = ap rec s')) :
    ∀ (d F : Nat) (s : σ), d < F → I d s → ∃ r, Q r ∧ ap (lpg bot body F) s = some r := by
  intro d
  induction d using Nat.strongRecOn with
  | ind d ih =>
    intro F s hF hI
    cases F with
    | zero => omega
    | succ F =>
      rw [lpg_succ]
      rcases hs (lpg bot body F) d s hI with h | ⟨d', s', h1, h2, h3⟩
      · exact h
      · rw [h3]; exact ih d' h1 F s' (by omega) h2
/-- the sounds as one number, the first lowest -/
def encs : List Nat → Nat
  | [] => 0
  | c :: w => c + 16 * encs w
def enc (w : List Nat) : Nat := w.length + 8 * encs w
def okw (w : List Nat) : Prop := w.length ≤ 6 ∧ ∀ c ∈ w, c < 16
theorem encs_lt : ∀ (w : List Nat), (∀ c ∈ w, c < 16) → encs w < 16 ^ w.length := by
  intro w
  induction w with
  | nil => intro _; exact Nat.lt_of_lt_of_le (by decide : encs [] < 1) (by simp)
  | cons c w ih =>
    intro h
    have h1 := ih (fun x hx => h x (List.mem_cons_of_mem _ hx))
    have h2 := h c List.mem_cons_self
    simp only [encs, List.length_cons, Nat.pow_succ]
    omega
theorem encs_app : ∀ (w : List Nat) (c : Nat), encs (w ++ [c]) = encs w + c * 16 ^ w.length := by
  intro w c
  induction w with
  | nil => simp [encs]
  | cons d w ih =>
    simp only [List.cons_append, encs, ih, List.length_cons, Nat.pow_succ]
    rw [Nat.mul_add, ← Nat.add_assoc]
    congr 1
    rw [← Nat.mul_assoc, Nat.mul_comm 16 c, Nat.mul_assoc, Nat.mul_comm 16]
theorem encs_at : ∀ (w : List Nat) (k : Nat), (∀ c ∈ w, c < 16) → encs w / 16 ^ k % 16 = w.getD k 0 := by
  intro w
  induction w with
  | nil => intro k _; simp [encs]
  | cons c w ih =>
    intro k h
    have h2 := h c List.mem_cons_self
    cases k with
    | zero => simp only [encs, Nat.pow_zero, Nat.div_one, List.getD_cons_zero]; omega
    | succ k =>
      rw [List.getD_cons_succ, ← ih k (fun x hx => h x (List.mem_cons_of_mem _ hx)), Nat.pow_succ, Nat.mul_comm (16 ^ k) 16, ← Nat.div_div_eq_div_mul]
      congr 2
      simp only [encs]
      omega
theorem pow16_le {k : Nat} (h : k ≤ 6) : 16 ^ k ≤ 16777216 := by
  have : 16 ^ k ≤ 16 ^ 6 := Nat.pow_le_pow_right (by decide) h
  omega
theorem encs_small {w : List Nat} (h : okw w) : encs w < 16777216 := Nat.lt_of_lt_of_le (encs_lt w h.2) (pow16_le h.1)
theorem enc_small {w : List Nat} (h : okw w) : enc w < 2 ^ 28 := by
  have := encs_small h; have := h.1; unfold enc; omega
theorem enc_len {w : List Nat} (h : okw w) : enc w % 8 = w.length := by
  have := h.1; unfold enc; omega
theorem length_enc {w : List Nat} (h : okw w) : D_X8_length (nI (enc w)) = some (nI w.length) := by
  unfold D_X8_length
  rw [show nI 7 = nI (2 ^ 3 - 1) from rfl, fa_mask, show (2 ^ 3 : Nat) = 8 from rfl, enc_len h]
theorem sh_amt {a : Nat} (h : a < 32) : nI a &&& 31 = nI a := by
  rw [show (31 : Int32) = nI (2 ^ 5 - 1) from rfl, fa_mask, Nat.mod_eq_of_lt (by omega)]
theorem sm32 : ∀ a, a < 32 → ((nI a).toBitVec.smod 32).toNat = a := by decide +kernel
theorem shr_n {n a : Nat} (h : n < 2 ^ 31) (ha : a < 32) : nI n >>> (nI a &&& 31) = nI (n / 2 ^ a) := by
  rw [sh_amt ha]; exact pk_shrN h _ a (sm32 a ha)
theorem shl_n {n a : Nat} (ha : a < 32) (h : n * 2 ^ a < 2 ^ 32) : nI n <<< (nI a &&& 31) = nI (n * 2 ^ a) := by
  rw [sh_amt ha]; exact pk_shlN _ a (sm32 a ha) h
theorem pow_34 (k : Nat) : 2 ^ (3 + 4 * k) = 8 * 16 ^ k := by
  rw [Nat.pow_add, Nat.pow_mul]
theorem soundAt_enc {w : List Nat} (h : okw w) {k : Nat} (hk : k < 6) : D_X8_soundAt (nI (enc w)) (nI k) = some (nI (w.getD k 0)) := by
  unfold D_X8_soundAt
  have hs := enc_small h
  rw [pk_mul, nI_add, shr_n (by omega) (by omega), show nI 15 = nI (2 ^ 4 - 1) from rfl, fa_mask, pow_34, ← Nat.div_div_eq_div_mul]
  have : enc w / 8 = encs w := by have := h.1; unfold enc; omega
  rw [this, show (2 ^ 4 : Nat) = 16 from rfl, encs_at w k h.2]
theorem with_enc {w : List Nat} (h : okw w) (hl : w.length < 6) {c : Nat} (hc : c < 16) : D_X8_with (nI (enc w)) (nI c) = some (nI (enc (w ++ [c]))) := by
  unfold D_X8_with
  rw [length_enc h, bd1_s, if_neg (nI_ge hl (by decide)), pk_mul, nI_add, nI_add]
  have hp : 16 ^ w.length ≤ 1048576 := by
    have : 16 ^ w.length ≤ 16 ^ 5 := Nat.pow_le_pow_right (by decide) (by omega)
    omega
  have hc2 : c * 16 ^ w.length ≤ 15 * 1048576 := Nat.mul_le_mul (by omega) hp
  have hm : c * 2 ^ (3 + 4 * w.length) = 8 * (c * 16 ^ w.length) := by
    rw [pow_34]; rw [← Nat.mul_assoc, ← Nat.mul_assoc, Nat.mul_comm c 8]
  rw [shl_n (by omega) (by rw [hm]; omega)]
  have hlt : enc w + 1 < 2 ^ (3 + 4 * w.length) := by
    have := encs_lt w h.2
    rw [pow_34]; unfold enc; omega
  have ho : nI (enc w + 1) ||| nI (c * 2 ^ (3 + 4 * w.length)) = nI (2 ^ (3 + 4 * w.length) * c + (enc w + 1)) := by
    rw [← fa_or_sum c hlt, Nat.mul_comm c, fa_or, fa_or, Nat.or_comm]
  rw [ho, Nat.mul_comm _ c, hm]
  congr 2
  unfold enc
  rw [encs_app, List.length_append]
  simp only [List.length_cons, List.length_nil]
  omega
theorem enc_zero {w : List Nat} (h : okw w) : nI (enc w) = 0 ↔ w.length = 0 := by
  have hs := enc_small h
  rw [zl0, nI_eq (by omega) (by decide)]
  constructor
  · intro q; have := enc_len h; rw [q] at this; omega
  · intro q
    rw [List.eq_nil_of_length_eq_zero q]; rfl
/-- a word in the reference's array, its length first -/
def isW (l : Nat → Int32) (pos : Nat) (w : List Nat) : Prop := okw w ∧ l pos = nI w.length ∧ ∀ k, k < w.length → l (pos + 1 + k) = nI (w.getD k 0)
