/-! PURE: a beach as a mathematical value, and how class and reference hold it -/
abbrev BT : Type := (Nat → List Nat) × (Nat → Nat) × (Nat → Option Nat) × (Nat → Nat) × (Nat → Nat) × (Nat × Nat) × (Nat × (Nat → Nat) × (Nat → Nat) × (Nat → Nat)) × (Nat × (Nat → Nat))
/-- words: 0 to 15 of the peoples, 16 to 39 of the ears -/
def bW (b : BT) : Nat → List Nat := b.1
/-- sounds that can be said, bits -/
def bC (b : BT) : Nat → Nat := b.2.1
/-- what is said instead -/
def bR (b : BT) : Nat → Option Nat := b.2.2.1
/-- traders -/
def bM (b : BT) : Nat → Nat := b.2.2.2.1
/-- takes of ten -/
def bT (b : BT) : Nat → Nat := b.2.2.2.2.1
def bS (b : BT) : Nat := b.2.2.2.2.2.1.1
def bG (b : BT) : Nat := b.2.2.2.2.2.1.2
def bJ (b : BT) : Nat := b.2.2.2.2.2.2.1.1
def bJm (b : BT) : Nat → Nat := b.2.2.2.2.2.2.1.2.1
def bJa (b : BT) : Nat → Nat := b.2.2.2.2.2.2.1.2.2.1
def bJb (b : BT) : Nat → Nat := b.2.2.2.2.2.2.1.2.2.2
def bU (b : BT) : Nat := b.2.2.2.2.2.2.2.1
def bN (b : BT) : Nat → Nat := b.2.2.2.2.2.2.2.2
/-- the needs together -/
def orN (f : Nat → Nat) : Nat → Nat
  | 0 => 0
  | k + 1 => orN f k ||| f k
def okB (b : BT) : Prop := (∀ i, i < 40 → okw (bW b i)) ∧ (∀ p, p < 2 → bC b p < 65536) ∧ rpOk (bR b) ∧ (∀ p, p < 2 → 1 ≤ bM b p ∧ bM b p ≤ 8) ∧ (∀ p, p < 2 → bT b p ≤ 10) ∧ bS b ≤ 10 ∧ (1 ≤ bG b ∧ bG b ≤ 99) ∧ (bJ b ≤ 8 ∧ ∀ k, k < bJ b → bJm b k < 8 ∧ bJa b k < 8 ∧ bJb b k < 8) ∧ (bU b ≤ 6 ∧ ∀ k, k < bU b → bN b k < 256)
/-- the class holds the beach -/
def clB (b : BT) (words heard can ins trad tak jM jP : Nat → Int32) (jT uT need spk gd : Int32) : Prop :=
  (∀ i, i < 16 → words i = nI (enc (bW b i))) ∧ (∀ i, i < 24 → heard i = nI (enc (bW b (16 + i)))) ∧ (∀ p, p < 2 → can p = nI (bC b p)) ∧ (∀ c, c < 16 → ins c = ec (bR b c)) ∧ (∀ p, p < 2 → trad p = nI (bM b p)) ∧ (∀ p, p < 2 → tak p = nI (bT b p)) ∧ (∀ k, k < bJ b → jM k = nI (2 ^ bJm b k) ∧ jP k = nI (2 ^ bJa b k ||| 2 ^ bJb b k)) ∧ jT = nI (bJ b) ∧ uT = nI (bU b) ∧ need = nI (orN (bN b) (bU b)) ∧ spk = nI (bS b) ∧ gd = nI (bG b)
/-- the reference holds the beach -/
def moB (b : BT) (l : Nat → Int32) : Prop :=
  (∀ i, i < 40 → isW l (7 * i) (bW b i)) ∧ (∀ p, p < 2 → l (280 + p) = nI (bC b p)) ∧ (∀ c, c < 16 → l (282 + c) = em (bR b c)) ∧ (∀ p, p < 2 → l (298 + p) = nI (bM b p)) ∧ (∀ p, p < 2 → l (300 + p) = nI (bT b p)) ∧ l 302 = nI (bS b) ∧ l 303 = nI (bG b) ∧ l 304 = nI (bJ b) ∧ (∀ k, k < bJ b → l (305 + 3 * k) = nI (bJm b k) ∧ l (306 + 3 * k) = nI (bJa b k) ∧ l (307 + 3 * k) = nI (bJb b k)) ∧ l 329 = nI (bU b) ∧ ∀ k, k < bU b → l (330 + k) = nI (bN b k)
/-- a meaning is told -/
abbrev told (b : BT) (m : Nat) : Prop := bW b m ≠ [] ∧ bW b (8 + m) ≠ []
theorem told_dec (b : BT) (m : Nat) : told b m ∨ ¬ told b m := Classical.em _
theorem wordOf_of {b : BT} {words : Nat → Int32} (h : ∀ i, i < 16 → words i = nI (enc (bW b i))) {p m : Nat} (hp : p < 2) (hm : m < 8) : D_X0_wordOf (nI p) (nI m) words = some (nI (enc (bW b (8 * p + m)))) := by
  unfold D_X0_wordOf D_X0_wordPlace
  rw [bd1_s, pk_mul, nI_add, row_at (by omega) (by decide), bd1_s, Nat.mul_comm p 8, h _ (by omega)]
theorem heardBy_of {b : BT} {heard : Nat → Int32} (h : ∀ i, i < 24 → heard i = nI (enc (bW b (16 + i)))) {e m : Nat} (he : e < 3) (hm : m < 8) : D_X0_heardBy (nI e) (nI m) heard = some (nI (enc (bW b (16 + (8 * e + m))))) := by
  unfold D_X0_heardBy D_X0_heardPlace
  rw [bd1_s, pk_mul, nI_add, row_at (by omega) (by decide), bd1_s, Nat.mul_comm e 8, h _ (by omega)]
theorem wordAt_of {p m : Nat} : D_X10_wordAt (nI p) (nI m) = some (nI (7 * (8 * p + m))) := by
  unfold D_X10_wordAt
  rw [pk_mul, nI_add, pk_mul, nI_add, Nat.zero_add]
theorem earAt_of {p m : Nat} : D_X10_earAt (nI p) (nI m) = some (nI (7 * (16 + (8 * p + m)))) := by
  unfold D_X10_earAt
  rw [pk_mul, nI_add, pk_mul, nI_add]
  congr 2; omega
theorem len_nil {w : List Nat} : w.length = 0 ↔ w = [] := List.length_eq_zero_iff
theorem isTold_of {b : BT} (ok : okB b) {words : Nat → Int32} (h : ∀ i, i < 16 → words i = nI (enc (bW b i))) {m : Nat} (hm : m < 8) : (told b m → D_X0_isTold (nI m) words = some (nI 1)) ∧ (¬ told b m → D_X0_isTold (nI m) words = some (nI 0)) := by
  have e : D_X0_isTold (nI m) words = if nI (enc (bW b m)) = 0 then some (nI 0) else if nI (enc (bW b (8 + m))) = 0 then some (nI 0) else some (nI 1) := by
    unfold D_X0_isTold
    rw [wordOf_of h (by decide) hm, bd1_s, wordOf_of h (by decide) hm, bd1_s, show 8 * 0 + m = m by omega, show 8 * 1 + m = 8 + m by omega]
  rw [e]
  constructor
  · intro q
    rw [if_neg (fun z => q.1 (len_nil.mp ((enc_zero (ok.1 m (by omega))).mp z))), if_neg (fun z => q.2 (len_nil.mp ((enc_zero (ok.1 _ (by omega))).mp z)))]
  · intro q
    by_cases c : nI (enc (bW b m)) = 0
    · rw [if_pos c]
    · rw [if_neg c, if_pos]
      rw [enc_zero (ok.1 _ (by omega)), len_nil]
      rw [enc_zero (ok.1 _ (by omega)), len_nil] at c
      exact Classical.byContradiction fun z => q ⟨c, z⟩
theorem le0_n {n : Nat} (h : n < 2 ^ 31) : nI n ≤ 0 ↔ n = 0 := by rw [zl0, nI_leI h (by decide)]; omega
theorem isToldM_of {b : BT} (ok : okB b) {l : Nat → Int32} (h : ∀ i, i < 40 → isW l (7 * i) (bW b i)) {m : Nat} (hm : m < 8) : (told b m → D_X10_isTold (nI m) l = some (nI 1)) ∧ (¬ told b m → D_X10_isTold (nI m) l = some (nI 0)) := by
  have o1 := (ok.1 m (by omega)).1
  have o2 := (ok.1 (8 + m) (by omega)).1
  have e : D_X10_isTold (nI m) l = if nI (bW b m).length ≤ 0 then some (nI 0) else if nI (bW b (8 + m)).length ≤ 0 then some (nI 0) else some (nI 1) := by
    unfold D_X10_isTold
    rw [wordAt_of, bd1_s, ck_n (by omega) (by decide), nI_clamp (by omega), wordAt_of, bd1_s, ck_n (by omega) (by decide), nI_clamp (by omega), show 8 * 0 + m = m by omega, show 8 * 1 + m = 8 + m by omega, (h m (by omega)).2.1, (h (8 + m) (by omega)).2.1]
  rw [e, ]
  constructor
  · intro q
    rw [if_neg (fun z => q.1 (len_nil.mp ((le0_n (by omega)).mp z))), if_neg (fun z => q.2 (len_nil.mp ((le0_n (by omega)).mp z)))]
  · intro q
    by_cases c : nI (bW b m).length ≤ 0
    · rw [if_pos c]
    · rw [if_neg c, if_pos]
      rw [le0_n (by omega), len_nil]
      rw [le0_n (by omega), len_nil] at c
      exact Classical.byContradiction fun z => q ⟨c, z⟩
/-- like of a meaning -/
def lkM (b : BT) (m : Nat) : Nat := lk ((bW b m).filterMap (sd (bC b 1) (bR b))) (bW b (8 + m))
theorem likeOfMeaning_of {F : Nat} (hF : 600 ≤ F) {b : BT} (ok : okB b) {words can ins : Nat → Int32} (h1 : ∀ i, i < 16 → words i = nI (enc (bW b i))) (h2 : ∀ p, p < 2 → can p = nI (bC b p)) (h3 : ∀ c, c < 16 → ins c = ec (bR b c)) {m : Nat} (hm : m < 8) (row : Nat → Int32) : ∃ row', D_X9_likeOfMeaning F (nI m) row words can ins = some (nI (lkM b m), row') := by
  unfold D_X9_likeOfMeaning
  have hok := okw_fm (ok.1 m (by omega)) (fun c hc y h => sd_lt (cs := bC b 1) ok.2.2.1 hc h) (bW b m).length
  rw [List.take_length] at hok
  rw [wordOf_of h1 (by decide) hm, bd1_s, saidBy_of hF ok.2.1 h2 ok.2.2.1 h3 (by decide) (ok.1 _ (by omega)), bd1_s, wordOf_of h1 (by decide) hm, bd1_s, show 8 * 0 + m = m by omega, show 8 * 1 + m = 8 + m by omega]
  obtain ⟨row', e⟩ := likeness_of hF hok (ok.1 (8 + m) (by omega)) row
  rw [e, bd2_s]
  exact ⟨row', rfl⟩
theorem likeFor_of {F : Nat} (hF : 600 ≤ F) {b : BT} (ok : okB b) {l : Nat → Int32} (h1 : ∀ i, i < 40 → isW l (7 * i) (bW b i)) (h2 : ∀ p, p < 2 → l (280 + p) = nI (bC b p)) (h3 : ∀ c, c < 16 → l (282 + c) = em (bR b c)) {m : Nat} (hm : m < 8) (one two ways : Nat → Int32) : ∃ one' two' ways', D_X10_likeFor F (nI m) l one two ways = some (nI (lkM b m), one', two', ways') := by
  unfold D_X10_likeFor
  rw [wordAt_of, bd1_s, show 8 * 0 + m = m by omega]
  obtain ⟨o1, e1, w1⟩ := say_said hF one ok.2.1 h2 ok.2.2.1 h3 (p := 1) (by decide) (h1 m (by omega)) (by omega)
  rw [e1, bd1_s, wordAt_of, bd1_s, show 8 * 1 + m = 8 + m by omega]
  obtain ⟨o2, e2, w2⟩ := say_plain hF two (h1 (8 + m) (by omega)) (by omega)
  rw [e2, bd1_s]
  obtain ⟨o3, e3⟩ := likeOf_of hF w1 w2 ways
  rw [e3, bd2_s]
  exact ⟨o1, o2, o3, rfl⟩
def alike (b : BT) (m : Nat) : Prop := bG b ≤ lkM b m
theorem isAlike_of {F : Nat} (hF : 600 ≤ F) {b : BT} (ok : okB b) {words can ins : Nat → Int32} (h1 : ∀ i, i < 16 → words i = nI (enc (bW b i))) (h2 : ∀ p, p < 2 → can p = nI (bC b p)) (h3 : ∀ c, c < 16 → ins c = ec (bR b c)) {m : Nat} (hm : m < 8) (row : Nat → Int32) : ∃ row', D_X9_isAlike F (nI m) row (nI (bG b)) words can ins = some (if bG b ≤ lkM b m then nI 1 else nI 0, row') := by
  obtain ⟨row', e⟩ := likeOfMeaning_of hF ok h1 h2 h3 hm row
  have hl := lk_le ((bW b m).filterMap (sd (bC b 1) (bR b))) (bW b (8 + m))
  have hg := ok.2.2.2.2.2.2.1
  unfold D_X9_isAlike D_X0_alikeFrom
  rw [e, bd2_s, bd1_s]
  refine ⟨row', ?_⟩
  have hl2 : lkM b m ≤ 100 := hl
  by_cases c : bG b ≤ lkM b m
  · rw [if_neg (nI_nlt c (by omega)), if_pos c]
  · rw [if_pos (nI_lt (by omega) (by omega)), if_neg c]
theorem isAlikeM_of {F : Nat} (hF : 600 ≤ F) {b : BT} (ok : okB b) {l : Nat → Int32} (h1 : ∀ i, i < 40 → isW l (7 * i) (bW b i)) (h2 : ∀ p, p < 2 → l (280 + p) = nI (bC b p)) (h3 : ∀ c, c < 16 → l (282 + c) = em (bR b c)) (h4 : l 303 = nI (bG b)) {m : Nat} (hm : m < 8) (one two ways : Nat → Int32) : ∃ one' two' ways', D_X10_isAlike F (nI m) l one two ways = some (if bG b ≤ lkM b m then nI 1 else nI 0, one', two', ways') := by
  obtain ⟨o1, o2, o3, e⟩ := likeFor_of hF ok h1 h2 h3 hm one two ways
  have hl := lk_le ((bW b m).filterMap (sd (bC b 1) (bR b))) (bW b (8 + m))
  have hg := ok.2.2.2.2.2.2.1
  unfold D_X10_isAlike
  rw [e, bd4_s, ck_n (by decide) (by decide), nI_clamp (by decide), h4]
  refine ⟨o1, o2, o3, ?_⟩
  have hl2 : lkM b m ≤ 100 := hl
  by_cases c : bG b ≤ lkM b m
  · rw [if_neg (nI_nlt c (by omega)), if_pos c]
  · rw [if_pos (nI_lt (by omega) (by omega)), if_neg c]
