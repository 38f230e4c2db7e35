/-! PURE: words and rising signs in the text -/
def wl (S : Nat → Nat) : Nat → Nat → List Nat
  | _, 0 => []
  | q, f + 1 => if ltr (S q) then (S q - 97) :: wl S (q + 1) f else []
theorem wl_nil {S : Nat → Nat} {q : Nat} (h : ¬ ltr (S q)) : ∀ f, wl S q f = []
  | 0 => rfl
  | _ + 1 => if_neg h
theorem wl_cons {S : Nat → Nat} {q f : Nat} (h : ltr (S q)) : wl S q (f + 1) = (S q - 97) :: wl S (q + 1) f := if_pos h
theorem wl_ok {S : Nat → Nat} : ∀ (f q : Nat), (wl S q f).length ≤ f ∧ ∀ c ∈ wl S q f, c < 16 := by
  intro f
  induction f with
  | zero => intro q; exact ⟨Nat.le_refl _, fun c h => by cases h⟩
  | succ f ih =>
    intro q
    by_cases h : ltr (S q)
    · rw [wl_cons h]
      refine ⟨by rw [List.length_cons]; have := (ih (q + 1)).1; omega, fun c hc => ?_⟩
      rcases List.mem_cons.mp hc with e | e
      · omega
      · exact (ih (q + 1)).2 c e
    · rw [wl_nil h]
      exact ⟨Nat.zero_le _, fun c h => by cases h⟩
theorem wl_le {S : Nat → Nat} (hb : sB S) : ∀ (f q : Nat), q ≤ 500 → q + (wl S q f).length ≤ 500 := by
  intro f
  induction f with
  | zero => intro q hq; exact hq
  | succ f ih =>
    intro q hq
    by_cases h : ltr (S q)
    · have := sB_in hb (p := q) (by omega)
      rw [wl_cons h, List.length_cons]
      have := ih (q + 1) (by omega)
      omega
    · rw [wl_nil h]; exact hq
theorem app_one (w v : List Nat) (c : Nat) : w ++ c :: v = (w ++ [c]) ++ v := by simp
theorem j69_of {w : List Nat} (h : okw w) (pl : Int32) : j_X2_readWord_69 pl (nI (enc w)) = some (zb (w ≠ []), pl, nI (enc w)) := by
  unfold j_X2_readWord_69
  by_cases c : w = []
  · rw [if_pos ((enc_zero h).mpr (len_nil.mpr c)), zb_f (fun q => q c)]
  · rw [if_neg (fun q => c (len_nil.mp ((enc_zero h).mp q))), zb_t c]
theorem readWord_loop {S : Nat → Nat} (hb : sB S) {len : Int32} {bys : Nat → Int32} (hA : cA S len bys) : ∀ (f k q G : Nat) (w : List Nat), k + f = 6 → w.length = k → okw w → q ≤ 500 → f < G →
    lpg (T := Int32 → Int32 → Int32 → Option (Int32 × Int32 × Int32)) (fun _ _ _ => none) (b_X2_readWord_7 len bys) G (nI k) (nI q) (nI (enc w)) = some (zb (w ++ wl S q f ≠ []), nI (q + (wl S q f).length), nI (enc (w ++ wl S q f))) := by
  intro f
  induction f with
  | zero =>
    intro k q G w hk hw okk hq hG
    obtain ⟨G, rfl⟩ : ∃ H, G = H + 1 := ⟨G - 1, by omega⟩
    rw [lpg_succ, b_X2_readWord_7, if_pos (nI_le (by omega) (by omega)), j69_of okk, wl, List.append_nil, List.length_nil, Nat.add_zero]
  | succ f ih =>
    intro k q G w hk hw okk hq hG
    obtain ⟨G, rfl⟩ : ∃ H, G = H + 1 := ⟨G - 1, by omega⟩
    have h6 := hb.1 q
    rw [lpg_succ, b_X2_readWord_7, if_neg (nI_leN (by decide) (by omega) (by omega)), hA q (by omega), bd1_s, nm_s]
    by_cases c : ltr (S q)
    · have hq2 := sB_in hb (p := q) (by omega)
      have hok : okw (w ++ [S q - 97]) := ⟨by rw [List.length_append, List.length_cons, List.length_nil]; omega, fun d hd => by
        rcases List.mem_append.mp hd with e | e
        · exact okk.2 d e
        · rw [List.mem_singleton.mp e]; omega⟩
      rw [pk_sub c.1, if_neg (nlt0 (by omega)), if_pos (nI_lt (by omega) (by decide)), with_enc okk (by omega) (by omega), bd1_s, nI_add, nm_s, nI_add, nm_s]
      rw [ih (k + 1) (q + 1) G (w ++ [S q - 97]) (by omega) (by rw [List.length_append, List.length_cons, List.length_nil]; omega) hok (by omega) (by omega)]
      rw [wl_cons c, ← app_one, List.length_cons, show q + 1 + (wl S (q + 1) f).length = q + ((wl S (q + 1) f).length + 1) by omega]
    · rw [wl_nil c, List.append_nil, List.length_nil, Nat.add_zero]
      by_cases d : nI (S q) - nI 97 < 0
      · rw [if_pos d, j69_of okk]
      · rw [if_neg d]
        rw [lt0_iff, pk_sub_toInt (by omega) (by decide)] at d
        rw [if_neg, j69_of okk]
        rw [ti_lt (by decide), pk_sub_toInt (by omega) (by decide)]
        omega
theorem readWord_of {F : Nat} (hF : 600 ≤ F) {S : Nat → Nat} (hb : sB S) {len : Int32} {bys : Nat → Int32} (hA : cA S len bys) {q : Nat} (hq : q ≤ 500) (wd : Int32) :
    D_X2_readWord F (nI q) wd len bys = some (zb (wl S q 6 ≠ []), nI (q + (wl S q 6).length), nI (enc (wl S q 6))) := by
  unfold D_X2_readWord
  have h := readWord_loop hb hA 6 0 q F [] (by omega) rfl ⟨by decide, fun c h => by cases h⟩ hq (by omega)
  rw [List.nil_append] at h
  exact h
theorem word_loop {S : Nat → Nat} (hb : sB S) {size : Int32} {text : Nat → Int32} (hM : mA S size text) {to : Nat} (hto : to + 7 ≤ 336) : ∀ (f k q G : Nat) (w : List Nat) (read : Nat → Int32), k + f = 6 → w.length = k → okw w → q ≤ 500 → f < G →
    (∀ j, j < k → read (to + 1 + j) = nI (w.getD j 0)) →
    ∃ r at' read', lpg (T := Int32 → Int32 → Int32 → (Nat → Int32) → Option (Int32 × Int32 × (Nat → Int32))) (fun _ _ _ _ => none) (b_X10_word_7 (nI to) size text) G (nI k) (sdV S q) (nI (sdP S q)) read = some (r, at', read') ∧ (∀ i, (i < to ∨ to + 7 ≤ i) → read' i = read i) ∧ ((r = nI 0 ∧ (w ++ wl S q f = [] ∨ ltr (S (q + (wl S q f).length)))) ∨ (r = nI 1 ∧ w ++ wl S q f ≠ [] ∧ at' = nI (q + (wl S q f).length) ∧ isW read' to (w ++ wl S q f))) := by
  have fini : ∀ (k q G : Nat) (w : List Nat) (read : Nat → Int32), k ≤ 6 → w.length = k → okw w → ¬ ltr (S q) → (∀ j, j < k → read (to + 1 + j) = nI (w.getD j 0)) → ∀ f, 
      ∃ r at' read', lpg (T := Int32 → Int32 → Int32 → (Nat → Int32) → Option (Int32 × Int32 × (Nat → Int32))) (fun _ _ _ _ => none) (b_X10_word_7 (nI to) size text) (G + 1) (nI k) (sdV S q) (nI (sdP S q)) read = some (r, at', read') ∧ (∀ i, (i < to ∨ to + 7 ≤ i) → read' i = read i) ∧ ((r = nI 0 ∧ (w ++ wl S q f = [] ∨ ltr (S (q + (wl S q f).length)))) ∨ (r = nI 1 ∧ w ++ wl S q f ≠ [] ∧ at' = nI (q + (wl S q f).length) ∧ isW read' to (w ++ wl S q f))) := by
    intro k q G w read hk hw okk c hr f
    have e1 : sdV S q = (-1 : Int32) := if_neg c
    have e2 : sdP S q = q := if_neg c
    rw [lpg_succ, b_X10_word_7, e1, e2, if_pos m1_lt0, ck_n (by omega) (by decide), nI_clamp (by omega), wl_nil c, List.append_nil, List.length_nil, Nat.add_zero]
    have hout : ∀ i, (i < to ∨ to + 7 ≤ i) → upd read to (nI k) i = read i := fun i hi => pk_un (by omega)
    by_cases z : k = 0
    · rw [if_pos (by rw [z]; decide)]
      exact ⟨_, _, _, rfl, hout, Or.inl ⟨rfl, Or.inl (len_nil.mp (by omega))⟩⟩
    · rw [if_neg (by rw [le0_n (by omega)]; exact z)]
      refine ⟨_, _, _, rfl, hout, Or.inr ⟨rfl, fun q => z (by rw [← hw, q]; rfl), rfl, okk, by rw [pk_us, hw], fun j hj => ?_⟩⟩
      rw [pk_un (by omega)]
      exact hr j (by omega)
  intro f
  induction f with
  | zero =>
    intro k q G w read hk hw okk hq hG hr
    obtain ⟨G, rfl⟩ : ∃ H, G = H + 1 := ⟨G - 1, by omega⟩
    by_cases c : ltr (S q)
    · have h6 := hb.1 q
      have e1 : sdV S q = nI (S q - 97) := if_pos c
      rw [lpg_succ, b_X10_word_7, e1, if_neg (nlt0 (by omega)), if_pos (by rw [show k = 6 by omega])]
      exact ⟨_, _, _, rfl, fun _ _ => rfl, Or.inl ⟨rfl, Or.inr c⟩⟩
    · exact fini k q G w read (by omega) hw okk c hr 0
  | succ f ih =>
    intro k q G w read hk hw okk hq hG hr
    obtain ⟨G, rfl⟩ : ∃ H, G = H + 1 := ⟨G - 1, by omega⟩
    by_cases c : ltr (S q)
    · have h6 := hb.1 q
      have hq2 := sB_in hb (p := q) (by omega)
      have e1 : sdV S q = nI (S q - 97) := if_pos c
      have e2 : sdP S q = q + 1 := if_pos c
      have hok : okw (w ++ [S q - 97]) := ⟨by rw [List.length_append, List.length_cons, List.length_nil]; omega, fun d hd => by
        rcases List.mem_append.mp hd with e | e
        · exact okk.2 d e
        · rw [List.mem_singleton.mp e]; omega⟩
      rw [lpg_succ, b_X10_word_7, e1, e2, if_neg (nlt0 (by omega)), if_neg (by rw [nI_eq (by omega) (by decide)]; omega), nI_add, nI_add, ck_n (by omega) (by decide), nI_clamp (by omega), nI_add, nm_s, sound_of hb hM (by omega), bd2_s]
      obtain ⟨r, a', rd, e, ho, hres⟩ := ih (k + 1) (q + 1) G (w ++ [S q - 97]) (upd read (to + 1 + k) (nI (S q - 97))) (by omega) (by rw [List.length_append, List.length_cons, List.length_nil]; omega) hok (by omega) (by omega) (by
        intro j hj
        by_cases z : j = k
        · rw [z, pk_us, ← hw, getD_app_eq]
        · rw [pk_un (by omega), getD_app_lt (by omega)]
          exact hr j (by omega))
      refine ⟨r, a', rd, e, fun i hi => by rw [ho i hi, pk_un (by omega)], ?_⟩
      rw [wl_cons c, app_one, List.length_cons, show q + ((wl S (q + 1) f).length + 1) = q + 1 + (wl S (q + 1) f).length by omega]
      exact hres
    · exact fini k q G w read (by omega) hw okk c hr (f + 1)
theorem word_of {F : Nat} (hF : 600 ≤ F) {S : Nat → Nat} (hb : sB S) {size : Int32} {text : Nat → Int32} (hM : mA S size text) {to q : Nat} (hto : to + 7 ≤ 336) (hq : q ≤ 500) (read : Nat → Int32) :
    ∃ r at' read', D_X10_word F (nI to) size (nI q) text read = some (r, at', read') ∧ (∀ i, (i < to ∨ to + 7 ≤ i) → read' i = read i) ∧ ((r = nI 0 ∧ (wl S q 6 = [] ∨ ltr (S (q + (wl S q 6).length)))) ∨ (r = nI 1 ∧ wl S q 6 ≠ [] ∧ at' = nI (q + (wl S q 6).length) ∧ isW read' to (wl S q 6))) := by
  unfold D_X10_word
  rw [sound_of hb hM hq, bd2_s]
  have h := word_loop hb hM hto 6 0 q F [] read (by omega) rfl ⟨by decide, fun c h => by cases h⟩ hq (by omega) (fun j hj => absurd hj (Nat.not_lt_zero j))
  rw [List.nil_append] at h
  exact h
/-- signs that rise: their bits, and the place behind -/
def rs (S : Nat → Nat) (first many : Nat) : Nat → Nat → Nat → Nat → Nat × Nat
  | 0, q, _, bits => (bits, q)
  | f + 1, q, lo, bits => if first + lo ≤ S q ∧ S q < first + many then rs S first many f (q + 1) (S q - first + 1) (bits ||| 2 ^ (S q - first)) else (bits, q)
theorem rs_yes {S : Nat → Nat} {first many f q lo bits : Nat} (h : first + lo ≤ S q ∧ S q < first + many) : rs S first many (f + 1) q lo bits = rs S first many f (q + 1) (S q - first + 1) (bits ||| 2 ^ (S q - first)) := if_pos h
theorem rs_no {S : Nat → Nat} {first many q lo bits : Nat} (h : ¬ (first + lo ≤ S q ∧ S q < first + many)) : ∀ f, rs S first many f q lo bits = (bits, q)
  | 0 => rfl
  | _ + 1 => if_neg h
theorem or_lt2 {a v m : Nat} (ha : a < 2 ^ m) (hv : v < m) : a ||| 2 ^ v < 2 ^ m := Nat.or_lt_two_pow ha (Nat.pow_lt_pow_right (by decide) hv)
theorem rs_lt {S : Nat → Nat} (hb : sB S) {first many : Nat} (h0 : 0 < first) : ∀ (f q lo bits : Nat), bits < 2 ^ many → q ≤ 500 → (rs S first many f q lo bits).1 < 2 ^ many ∧ (rs S first many f q lo bits).2 ≤ 500 := by
  intro f
  induction f with
  | zero => intro q lo bits h hq; exact ⟨h, hq⟩
  | succ f ih =>
    intro q lo bits h hq
    by_cases c : first + lo ≤ S q ∧ S q < first + many
    · have := sB_in hb (p := q) (by omega)
      rw [rs_yes c]
      exact ih _ _ _ (or_lt2 h (by omega)) (by omega)
    · rw [rs_no c]; exact ⟨h, hq⟩
theorem j78_of {b : Nat} (h : b < 2 ^ 31) (pl : Int32) : j_X2_readRising_78 pl (nI b) = some (zb (b ≠ 0), pl, nI b) := by
  unfold j_X2_readRising_78
  by_cases c : b = 0
  · rw [c, if_n0, zb_f (fun q => q rfl)]
  · rw [if_neg (nI_ne0 (by omega) h), zb_t c]
theorem shl_one {v : Nat} (h : v < 31) : nI 1 <<< (nI v &&& 31) = nI (2 ^ v) := by
  rw [shl_n (by omega) (by rw [Nat.one_mul]; exact Nat.pow_lt_pow_right (by decide) (by omega)), Nat.one_mul]
theorem pow_le31 {m : Nat} (h : m ≤ 16) : 2 ^ m < 2 ^ 31 := Nat.pow_lt_pow_right (by decide) (by omega)
theorem readRising_loop {S : Nat → Nat} (hb : sB S) {len : Int32} {bys : Nat → Int32} (hA : cA S len bys) {first many : Nat} (h1 : 0 < first) (h2 : first < 200) (hm : many ≤ 16) : ∀ (f k q lo bits G : Nat) (x3 : Int32), k + f = many → x3.toInt = (lo : Int) - 1 → bits < 2 ^ many → q ≤ 500 → f < G →
    lpg (T := Int32 → Int32 → Int32 → Int32 → Option (Int32 × Int32 × Int32)) (fun _ _ _ _ => none) (b_X2_readRising_10 (nI first) (nI many) len bys) G x3 (nI k) (nI q) (nI bits) = some (zb ((rs S first many f q lo bits).1 ≠ 0), nI (rs S first many f q lo bits).2, nI (rs S first many f q lo bits).1) := by
  have h31 := pow_le31 hm
  intro f
  induction f with
  | zero =>
    intro k q lo bits G x3 hk hx hbits hq hG
    obtain ⟨G, rfl⟩ : ∃ H, G = H + 1 := ⟨G - 1, by omega⟩
    rw [lpg_succ, b_X2_readRising_10, if_pos (nI_le (by omega) (by omega)), j78_of (by omega), rs]
  | succ f ih =>
    intro k q lo bits G x3 hk hx hbits hq hG
    obtain ⟨G, rfl⟩ : ∃ H, G = H + 1 := ⟨G - 1, by omega⟩
    have h6 := hb.1 q
    rw [lpg_succ, b_X2_readRising_10, if_neg (nI_leN (by omega) (by omega) (by omega)), hA q (by omega), bd1_s, nm_s]
    by_cases c : first + lo ≤ S q ∧ S q < first + many
    · have hq2 := sB_in hb (p := q) (by omega)
      rw [if_neg (by rw [fa_le, pk_sub_toInt (by omega) (by omega), hx]; omega), if_pos (by rw [ti_lt (by omega), pk_sub_toInt (by omega) (by omega)]; omega), pk_sub (by omega), shl_one (by omega), fa_or, nm_s, nI_add, nm_s, nI_add, nm_s, rs_yes c]
      exact ih (k + 1) (q + 1) (S q - first + 1) _ G _ (by omega) (by rw [nI_toInt (by omega)]; omega) (or_lt2 hbits (by omega)) (by omega) (by omega)
    · rw [rs_no c]
      by_cases d : nI (S q) - nI first ≤ x3
      · rw [if_pos d, j78_of (by omega)]
      · rw [if_neg d]
        rw [fa_le, pk_sub_toInt (by omega) (by omega), hx] at d
        rw [if_neg (by rw [ti_lt (by omega), pk_sub_toInt (by omega) (by omega)]; omega), j78_of (by omega)]
theorem readRising_of {F : Nat} (hF : 600 ≤ F) {S : Nat → Nat} (hb : sB S) {len : Int32} {bys : Nat → Int32} (hA : cA S len bys) {first many q : Nat} (h1 : 0 < first) (h2 : first < 200) (hm : many ≤ 16) (hq : q ≤ 500) (bt0 : Int32) :
    D_X2_readRising F (nI first) (nI many) (nI q) bt0 len bys = some (zb ((rs S first many many q 0 0).1 ≠ 0), nI (rs S first many many q 0 0).2, nI (rs S first many many q 0 0).1) := by
  unfold D_X2_readRising
  exact readRising_loop hb hA h1 h2 hm many 0 q 0 0 F (-1 : Int32) (by omega) (by decide) (Nat.two_pow_pos _) hq (by omega)
theorem shr_zero {bits lo c : Nat} (h1 : bits < 2 ^ lo) (h2 : lo = 0 ∨ 2 ^ (lo - 1) ≤ bits) (hlo : lo ≤ 16) (hc : c < 16) : nI bits >>> (nI c &&& 31) = 0 ↔ lo ≤ c := by
  have := pow_le31 hlo
  rw [shr_n (by omega) (by omega), zl0, nI_eq (Nat.lt_of_le_of_lt (Nat.div_le_self _ _) (by omega)) (by decide), Nat.div_eq_zero_iff]
  constructor
  · intro q
    rcases q with q | q
    · exact absurd q (Nat.ne_of_gt (Nat.two_pow_pos c))
    · rcases h2 with h2 | h2
      · omega
      · apply Classical.byContradiction
        intro z
        have : 2 ^ c ≤ 2 ^ (lo - 1) := Nat.pow_le_pow_right (by decide) (by omega)
        omega
  · intro q
    have : 2 ^ lo ≤ 2 ^ c := Nat.pow_le_pow_right (by decide) q
    exact Or.inr (by omega)
theorem up_bits {bits lo c : Nat} (h1 : bits < 2 ^ lo) (hc : lo ≤ c) : bits ||| 2 ^ c < 2 ^ (c + 1) ∧ (c + 1 = 0 ∨ 2 ^ (c + 1 - 1) ≤ bits ||| 2 ^ c) := by
  have : 2 ^ lo ≤ 2 ^ (c + 1) := Nat.pow_le_pow_right (by decide) (by omega)
  exact ⟨or_lt2 (by omega) (by omega), Or.inr Nat.right_le_or⟩
theorem soundsItem_loop {S : Nat → Nat} (hb : sB S) {size : Int32} {text : Nat → Int32} (hM : mA S size text) {p : Nat} (hp : p < 2) (read : Nat → Int32) : ∀ (f q lo bits G : Nat), 16 ≤ lo + f → lo ≤ 16 → bits < 2 ^ lo → (lo = 0 ∨ 2 ^ (lo - 1) ≤ bits) → q ≤ 500 → f < G →
    ∃ r at' read', lpg (T := Int32 → Int32 → Int32 → Option (Int32 × Int32 × (Nat → Int32))) (fun _ _ _ => none) (b_X10_soundsItem_29 size text read (nI p)) G (nI bits) (sdV S q) (nI (sdP S q)) = some (r, at', read') ∧ ((r = nI 0 ∧ (ltr (S (rs S 97 16 f q lo bits).2) ∨ (rs S 97 16 f q lo bits).1 = 0)) ∨ (r = nI 1 ∧ (rs S 97 16 f q lo bits).1 ≠ 0 ∧ at' = nI (rs S 97 16 f q lo bits).2 ∧ read' = upd read (280 + p) (nI (rs S 97 16 f q lo bits).1))) := by
  have fini : ∀ (q lo bits G : Nat), lo ≤ 16 → bits < 2 ^ lo → ¬ ltr (S q) → ∀ f,
      ∃ r at' read', lpg (T := Int32 → Int32 → Int32 → Option (Int32 × Int32 × (Nat → Int32))) (fun _ _ _ => none) (b_X10_soundsItem_29 size text read (nI p)) (G + 1) (nI bits) (sdV S q) (nI (sdP S q)) = some (r, at', read') ∧ ((r = nI 0 ∧ (ltr (S (rs S 97 16 f q lo bits).2) ∨ (rs S 97 16 f q lo bits).1 = 0)) ∨ (r = nI 1 ∧ (rs S 97 16 f q lo bits).1 ≠ 0 ∧ at' = nI (rs S 97 16 f q lo bits).2 ∧ read' = upd read (280 + p) (nI (rs S 97 16 f q lo bits).1))) := by
    intro q lo bits G hlo hbits c f
    have h31 := pow_le31 hlo
    have e1 : sdV S q = (-1 : Int32) := if_neg c
    have e2 : sdP S q = q := if_neg c
    rw [rs_no (by omega), lpg_succ, b_X10_soundsItem_29, e1, e2, if_pos m1_lt0, nI_add, ck_n (by omega) (by decide), nI_clamp (by omega)]
    by_cases z : bits = 0
    · rw [if_pos (by rw [z]; rfl)]
      exact ⟨_, _, _, rfl, Or.inl ⟨rfl, Or.inr z⟩⟩
    · rw [if_neg (nI_ne0 (by omega) (by omega))]
      exact ⟨_, _, _, rfl, Or.inr ⟨rfl, z, rfl, rfl⟩⟩
  intro f
  induction f with
  | zero =>
    intro q lo bits G hf hlo h1 h2 hq hG
    obtain ⟨G, rfl⟩ : ∃ H, G = H + 1 := ⟨G - 1, by omega⟩
    by_cases c : ltr (S q)
    · have e1 : sdV S q = nI (S q - 97) := if_pos c
      rw [lpg_succ, b_X10_soundsItem_29, e1, if_neg (nlt0 (by omega)), if_neg (by rw [shr_zero h1 h2 hlo (by omega)]; omega)]
      exact ⟨_, _, _, rfl, Or.inl ⟨rfl, Or.inl c⟩⟩
    · exact fini q lo bits G hlo h1 c 0
  | succ f ih =>
    intro q lo bits G hf hlo h1 h2 hq hG
    obtain ⟨G, rfl⟩ : ∃ H, G = H + 1 := ⟨G - 1, by omega⟩
    by_cases c : ltr (S q)
    · have e1 : sdV S q = nI (S q - 97) := if_pos c
      have e2 : sdP S q = q + 1 := if_pos c
      by_cases d : lo ≤ S q - 97
      · have hq2 := sB_in hb (p := q) (by omega)
        rw [lpg_succ, b_X10_soundsItem_29, e1, e2, if_neg (nlt0 (by omega)), if_pos ((shr_zero h1 h2 hlo (by omega)).mpr d), shl_one (by omega), fa_or, nm_s, sound_of hb hM (by omega), bd2_s, rs_yes (by omega)]
        exact ih (q + 1) (S q - 97 + 1) _ G (by omega) (by omega) (up_bits h1 d).1 (up_bits h1 d).2 (by omega) (by omega)
      · rw [lpg_succ, b_X10_soundsItem_29, e1, if_neg (nlt0 (by omega)), if_neg (by rw [shr_zero h1 h2 hlo (by omega)]; exact d), rs_no (by omega)]
        exact ⟨_, _, _, rfl, Or.inl ⟨rfl, Or.inl c⟩⟩
    · exact fini q lo bits G hlo h1 c (f + 1)
/-- a figure of a meaning -/
abbrev mng (c : Nat) : Prop := 48 ≤ c ∧ c ≤ 55
theorem needItem_loop {S : Nat → Nat} (hb : sB S) {size : Int32} {text : Nat → Int32} (hM : mA S size text) {u : Nat} (hu : u < 6) {read : Nat → Int32} (hr : read 329 = nI u) : ∀ (f q lo bits G : Nat), 8 ≤ lo + f → lo ≤ 8 → bits < 2 ^ lo → (lo = 0 ∨ 2 ^ (lo - 1) ≤ bits) → q ≤ 500 → f < G →
    ∃ r at' read', lpg (T := Int32 → Int32 → Option (Int32 × Int32 × (Nat → Int32))) (fun _ _ => none) (b_X10_needItem_17 size text read) G (nI bits) (nI q) = some (r, at', read') ∧ ((r = nI 0 ∧ (mng (S (rs S 48 8 f q lo bits).2) ∨ (rs S 48 8 f q lo bits).1 = 0)) ∨ (r = nI 1 ∧ (rs S 48 8 f q lo bits).1 ≠ 0 ∧ at' = nI (rs S 48 8 f q lo bits).2 ∧ read' = upd (upd read (330 + u) (nI (rs S 48 8 f q lo bits).1)) 329 (nI (u + 1)))) := by
  have fini : ∀ (q lo bits G : Nat), q ≤ 500 → lo ≤ 8 → bits < 2 ^ lo → ¬ mng (S q) → ∀ f,
      ∃ r at' read', lpg (T := Int32 → Int32 → Option (Int32 × Int32 × (Nat → Int32))) (fun _ _ => none) (b_X10_needItem_17 size text read) (G + 1) (nI bits) (nI q) = some (r, at', read') ∧ ((r = nI 0 ∧ (mng (S (rs S 48 8 f q lo bits).2) ∨ (rs S 48 8 f q lo bits).1 = 0)) ∨ (r = nI 1 ∧ (rs S 48 8 f q lo bits).1 ≠ 0 ∧ at' = nI (rs S 48 8 f q lo bits).2 ∧ read' = upd (upd read (330 + u) (nI (rs S 48 8 f q lo bits).1)) 329 (nI (u + 1)))) := by
    intro q lo bits G hq hlo hbits c f
    have h31 := pow_le31 (m := lo) (by omega)
    obtain ⟨x, e, hx⟩ := hM q (by omega)
    rw [rs_no (by omega), lpg_succ, b_X10_needItem_17, e, bd1_s, inS_of hb hx (by decide) (by decide) (by decide), bd1_s, zb_if, if_neg c, ck_n (by decide) (by decide), nI_clamp (by decide), hr, nI_add, ck_n (by omega) (by decide), nI_clamp (by omega), ck_n (by decide) (by decide), pk_un (by omega), hr, nI_add, nm_s, ck_n (by decide) (by decide)]
    by_cases z : bits = 0
    · rw [if_pos (by rw [z]; rfl)]
      exact ⟨_, _, _, rfl, Or.inl ⟨rfl, Or.inr z⟩⟩
    · rw [if_neg (nI_ne0 (by omega) (by omega))]
      exact ⟨_, _, _, rfl, Or.inr ⟨rfl, z, rfl, rfl⟩⟩
  intro f
  induction f with
  | zero =>
    intro q lo bits G hf hlo h1 h2 hq hG
    obtain ⟨G, rfl⟩ : ∃ H, G = H + 1 := ⟨G - 1, by omega⟩
    by_cases c : mng (S q)
    · obtain ⟨x, e, hx⟩ := hM q (by omega)
      rw [lpg_succ, b_X10_needItem_17, e, bd1_s, inS_of hb hx (by decide) (by decide) (by decide), bd1_s, zb_if, if_pos c, bd1_s, sm_nI hx (by omega), pk_sub c.1, nm_s, if_neg (by rw [shr_zero h1 h2 (by omega) (by omega)]; omega)]
      exact ⟨_, _, _, rfl, Or.inl ⟨rfl, Or.inl c⟩⟩
    · exact fini q lo bits G hq hlo h1 c 0
  | succ f ih =>
    intro q lo bits G hf hlo h1 h2 hq hG
    obtain ⟨G, rfl⟩ : ∃ H, G = H + 1 := ⟨G - 1, by omega⟩
    by_cases c : mng (S q)
    · obtain ⟨x, e, hx⟩ := hM q (by omega)
      by_cases d : lo ≤ S q - 48
      · have hq2 := sB_in hb (p := q) (by omega)
        rw [lpg_succ, b_X10_needItem_17, e, bd1_s, inS_of hb hx (by decide) (by decide) (by decide), bd1_s, zb_if, if_pos c, bd1_s, sm_nI hx (by omega), pk_sub c.1, nm_s, if_pos ((shr_zero h1 h2 (by omega) (by omega)).mpr d), shl_one (by omega), fa_or, nm_s, nI_add, nm_s, rs_yes (by omega)]
        exact ih (q + 1) (S q - 48 + 1) _ G (by omega) (by omega) (up_bits h1 d).1 (up_bits h1 d).2 (by omega) (by omega)
      · rw [lpg_succ, b_X10_needItem_17, e, bd1_s, inS_of hb hx (by decide) (by decide) (by decide), bd1_s, zb_if, if_pos c, bd1_s, sm_nI hx (by omega), pk_sub c.1, nm_s, if_neg (by rw [shr_zero h1 h2 (by omega) (by omega)]; exact d), rs_no (by omega)]
        exact ⟨_, _, _, rfl, Or.inl ⟨rfl, Or.inl c⟩⟩
    · exact fini q lo bits G hq hlo h1 c (f + 1)
