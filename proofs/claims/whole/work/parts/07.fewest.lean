/-! PURE: the fewest words by which all that is needed can be said -/
theorem bt_tb (s i : Nat) : bt s i ↔ s.testBit i = true := by
  rw [Nat.testBit_eq_decide_div_mod_eq]; unfold bt; exact decide_eq_true_iff.symm
theorem nI_xor (a b : Nat) : nI a ^^^ nI b = nI (a ^^^ b) := by
  apply Int32.toBitVec_inj.mp
  rw [Int32.toBitVec_xor]
  show BitVec.ofNat 32 a ^^^ BitVec.ofNat 32 b = BitVec.ofNat 32 (a ^^^ b)
  apply BitVec.eq_of_getLsbD_eq
  intro i hi
  simp [BitVec.getLsbD_ofNat, hi]
theorem m1_nI : (-1 : Int32) = nI (2 ^ 32 - 1) := by decide
theorem tb_big {a i : Nat} (ha : a < 256) (hi : 8 ≤ i) : a.testBit i = false := Nat.testBit_lt_two_pow (Nat.lt_of_lt_of_le ha (Nat.pow_le_pow_right (n := 2) (by decide) hi))
theorem sub_bits {a s : Nat} (ha : a < 256) : nI a &&& (nI s ^^^ (-1 : Int32)) = 0 ↔ ∀ i, i < 8 → bt a i → bt s i := by
  rw [m1_nI, nI_xor, fa_and, zl0]
  have hle : a &&& (s ^^^ (2 ^ 32 - 1)) ≤ a := Nat.and_le_left
  rw [nI_eq (by omega) (by decide)]
  constructor
  · intro h i hi hb
    have h2 : (a &&& (s ^^^ (2 ^ 32 - 1))).testBit i = (0 : Nat).testBit i := by rw [h]
    rw [Nat.testBit_and, Nat.testBit_xor, Nat.testBit_two_pow_sub_one, Nat.zero_testBit, (bt_tb a i).mp hb] at h2
    rw [bt_tb]
    have h3 : decide (i < 32) = true := decide_eq_true (by omega)
    rw [h3] at h2
    cases hs : s.testBit i with
    | true => rfl
    | false => rw [hs] at h2; exact absurd h2 (by decide)
  · intro h
    apply Nat.eq_of_testBit_eq
    intro i
    rw [Nat.testBit_and, Nat.testBit_xor, Nat.testBit_two_pow_sub_one, Nat.zero_testBit]
    by_cases hi : i < 8
    · cases hz : a.testBit i with
      | false => rfl
      | true =>
        have h3 : decide (i < 32) = true := decide_eq_true (by omega)
        rw [(bt_tb s i).mp (h i hi ((bt_tb a i).mpr hz)), h3]; rfl
    · rw [tb_big ha (by omega)]; rfl
/-- a meaning can be said with a set -/
def sayB (b : BT) (set m : Nat) : Prop := bt set m ∨ ∃ k, k < bJ b ∧ bJm b k = m ∧ bt set (bJa b k) ∧ bt set (bJb b k)
def enoB (b : BT) (set : Nat) : Prop := ∀ k, k < bU b → ∀ m, m < 8 → bt (bN b k) m → sayB b set m
theorem pow_bit (a i : Nat) : bt (2 ^ a) i ↔ i = a := by
  rw [bt_tb, Nat.testBit_two_pow]; rw [decide_eq_true_iff]; exact ⟨fun h => h.symm, fun h => h.symm⟩
theorem or_bit (x y i : Nat) : bt (x ||| y) i ↔ bt x i ∨ bt y i := by
  rw [bt_tb, bt_tb, bt_tb, Nat.testBit_or, Bool.or_eq_true]
theorem pow_small {k : Nat} (h : k < 8) : 2 ^ k < 256 := (Nat.pow_lt_pow_right (by decide : 1 < 2) h : 2 ^ k < 2 ^ 8)
theorem sayable_of {F : Nat} (hF : 600 ≤ F) {b : BT} (ok : okB b) {jM jP : Nat → Int32} (hj : ∀ k, k < bJ b → jM k = nI (2 ^ bJm b k) ∧ jP k = nI (2 ^ bJa b k ||| 2 ^ bJb b k)) {set : Nat} (hs : set < 256) : ∃ r, r < 256 ∧ D_X4_sayableBy F (nI set) (nI (bJ b)) jM jP = some (nI r) ∧ ∀ m, m < 8 → (bt r m ↔ sayB b set m) := by
  unfold D_X4_sayableBy
  have hJ := ok.2.2.2.2.2.2.2.1
  have hJ1 := hJ.1
  obtain ⟨r, ⟨q, hq, rfl, hq2⟩, hr2⟩ := lpg_ind (bot := fun _ _ => none) (body := b_X4_sayableBy_4 (nI set) (nI (bJ b)) jM jP) (fun f (s : Int32 × Int32) => f s.1 s.2)
    (fun d s => ∃ k v, k + d = bJ b ∧ v < 256 ∧ s = (nI v, nI k) ∧ ∀ m, m < 8 → (bt v m ↔ (bt set m ∨ ∃ j, j < k ∧ bJm b j = m ∧ bt set (bJa b j) ∧ bt set (bJb b j)))) (fun r => ∃ q, q < 256 ∧ r = nI q ∧ ∀ m, m < 8 → (bt q m ↔ sayB b set m))
    (by
      rintro rec d s ⟨k, v, hk, hv, rfl, hb⟩
      dsimp only
      rw [b_X4_sayableBy_4]
      by_cases hd : d = 0
      · left
        have e : k = bJ b := by omega
        subst e
        exact ⟨_, ⟨v, hv, rfl, hb⟩, if_pos (nI_le (by omega) (by omega))⟩
      · right
        have hkl : k < bJ b := by omega
        obtain ⟨j1, j2, j3⟩ := hJ.2 k hkl
        have p1 := pow_small j1
        have p2 := pow_small j2
        have p3 := pow_small j3
        have p4 : 2 ^ bJa b k ||| 2 ^ bJb b k < 256 := or_lt (k := 8) p2 p3
        simp only [nm_s]
        rw [if_neg (nI_leN (by omega) (by omega) hkl), row_at (by omega) (by decide), bd1_s, row_at (by omega) (by decide), bd1_s, (hj k hkl).1, (hj k hkl).2, nI_add]
        have hiff : (nI (2 ^ bJa b k ||| 2 ^ bJb b k) &&& (nI set ^^^ (-1 : Int32)) = 0) ↔ (bt set (bJa b k) ∧ bt set (bJb b k)) := by
          rw [sub_bits p4]
          constructor
          · intro h
            exact ⟨h _ j2 ((or_bit _ _ _).mpr (Or.inl ((pow_bit _ _).mpr rfl))), h _ j3 ((or_bit _ _ _).mpr (Or.inr ((pow_bit _ _).mpr rfl)))⟩
          · intro h i _ hi
            rcases (or_bit _ _ _).mp hi with h1 | h1
            · rw [(pow_bit _ _).mp h1]; exact h.1
            · rw [(pow_bit _ _).mp h1]; exact h.2
        by_cases c : bt set (bJa b k) ∧ bt set (bJb b k)
        · rw [if_pos (hiff.mpr c), fa_or]
          refine ⟨d - 1, (nI (v ||| 2 ^ bJm b k), nI (k + 1)), by omega, ⟨k + 1, v ||| 2 ^ bJm b k, by omega, or_lt (k := 8) hv p1, rfl, fun m hm => ?_⟩, rfl⟩
          rw [or_bit, hb m hm, pow_bit]
          constructor
          · rintro ((h | ⟨j, h1, h2⟩) | h)
            · exact Or.inl h
            · exact Or.inr ⟨j, by omega, h2⟩
            · exact Or.inr ⟨k, by omega, h.symm, c⟩
          · rintro (h | ⟨j, h1, h2, h3⟩)
            · exact Or.inl (Or.inl h)
            · by_cases e : j = k
              · subst e; exact Or.inr h2.symm
              · exact Or.inl (Or.inr ⟨j, by omega, h2, h3⟩)
        · rw [if_neg (fun z => c (hiff.mp z))]
          refine ⟨d - 1, (nI v, nI (k + 1)), by omega, ⟨k + 1, v, by omega, hv, rfl, fun m hm => ?_⟩, rfl⟩
          rw [hb m hm]
          constructor
          · rintro (h | ⟨j, h1, h2⟩)
            · exact Or.inl h
            · exact Or.inr ⟨j, by omega, h2⟩
          · rintro (h | ⟨j, h1, h2, h3⟩)
            · exact Or.inl h
            · by_cases e : j = k
              · subst e; exact absurd h3 c
              · exact Or.inr ⟨j, by omega, h2, h3⟩)
    (bJ b) F (nI set, nI 0) (by omega) ⟨0, set, by omega, hs, rfl, fun m hm => ⟨Or.inl, fun h => by
      rcases h with h | ⟨j, h1, _⟩
      · exact h
      · exact absurd h1 (Nat.not_lt_zero j)⟩⟩
  dsimp only at hr2
  rw [hr2, bd1_s]
  exact ⟨q, hq, rfl, hq2⟩
theorem orN_bit (f : Nat → Nat) (m : Nat) : ∀ k, bt (orN f k) m ↔ ∃ j, j < k ∧ bt (f j) m := by
  intro k
  induction k with
  | zero =>
    constructor
    · intro h; unfold orN bt at h; simp at h
    · rintro ⟨j, h, _⟩; exact absurd h (Nat.not_lt_zero j)
  | succ k ih =>
    unfold orN
    rw [or_bit, ih]
    constructor
    · rintro (⟨j, h1, h2⟩ | h)
      · exact ⟨j, by omega, h2⟩
      · exact ⟨k, by omega, h⟩
    · rintro ⟨j, h1, h2⟩
      by_cases e : j = k
      · subst e; exact Or.inr h2
      · exact Or.inl ⟨j, by omega, h2⟩
theorem orN_lt {f : Nat → Nat} : ∀ k, (∀ j, j < k → f j < 256) → orN f k < 256 := by
  intro k
  induction k with
  | zero => intro _; unfold orN; decide
  | succ k ih => intro h; unfold orN; exact or_lt (k := 8) (ih fun j hj => h j (by omega)) (h k (by omega))
theorem enoC {b : BT} (ok : okB b) {r set : Nat} (h : ∀ m, m < 8 → (bt r m ↔ sayB b set m)) : nI (orN (bN b) (bU b)) &&& (nI r ^^^ (-1 : Int32)) = 0 ↔ enoB b set := by
  have hU := ok.2.2.2.2.2.2.2.2
  rw [sub_bits (orN_lt _ hU.2)]
  constructor
  · intro g k hk m hm hb
    exact (h m hm).mp (g m hm ((orN_bit _ _ _).mpr ⟨k, hk, hb⟩))
  · intro g m hm hb
    obtain ⟨k, hk, hb⟩ := (orN_bit _ _ _).mp hb
    exact (h m hm).mpr (g k hk m hm hb)
-- the reference
theorem canSay_of {F : Nat} (hF : 600 ≤ F) {b : BT} (ok : okB b) {l : Nat → Int32} (h304 : l 304 = nI (bJ b)) (hj : ∀ k, k < bJ b → l (305 + 3 * k) = nI (bJm b k) ∧ l (306 + 3 * k) = nI (bJa b k) ∧ l (307 + 3 * k) = nI (bJb b k)) {set m : Nat} (hs : set < 256) (hm : m < 8) : (sayB b set m → D_X10_canSay F (nI set) (nI m) l = some (nI 1)) ∧ (¬ sayB b set m → D_X10_canSay F (nI set) (nI m) l = some (nI 0)) := by
  have hJ := ok.2.2.2.2.2.2.2.1
  have hJ1 := hJ.1
  have key : ∃ c : Bool, (c = true ↔ sayB b set m) ∧ D_X10_canSay F (nI set) (nI m) l = some (if c then nI 1 else nI 0) := by
    unfold D_X10_canSay
    rw [has_of (by omega) (by omega), bd1_s]
    obtain ⟨r, ⟨c, hc, hrc⟩, hr2⟩ := lpg_ind (bot := fun _ _ => none) (body := b_X10_canSay_9 (nI set) (nI m) l) (fun f (s : Int32 × Int32) => f s.1 s.2)
      (fun d s => ∃ (k : Nat) (c : Bool), k + d = bJ b ∧ s = (if c then nI 1 else nI 0, nI k) ∧ (c = true ↔ (bt set m ∨ ∃ j, j < k ∧ bJm b j = m ∧ bt set (bJa b j) ∧ bt set (bJb b j)))) (fun r => ∃ c : Bool, r = (if c then nI 1 else nI 0) ∧ (c = true ↔ sayB b set m))
      (by
        rintro rec d s ⟨k, c, hk, rfl, hb⟩
        dsimp only
        rw [b_X10_canSay_9, ck_n (by decide) (by decide), nI_clamp (by decide), h304]
        by_cases hd : d = 0
        · left
          have e : k = bJ b := by omega
          subst e
          exact ⟨_, ⟨c, rfl, hb⟩, if_pos (nI_le (by omega) (by omega))⟩
        · right
          have hkl : k < bJ b := by omega
          obtain ⟨j1, j2, j3⟩ := hJ.2 k hkl
          obtain ⟨l1, l2, l3⟩ := hj k hkl
          have more : ∀ c2 : Bool, (c2 = true ↔ (c = true ∨ (bJm b k = m ∧ bt set (bJa b k) ∧ bt set (bJb b k)))) → (c2 = true ↔ (bt set m ∨ ∃ j, j < k + 1 ∧ bJm b j = m ∧ bt set (bJa b j) ∧ bt set (bJb b j))) := by
            intro c2 h
            rw [h, hb]
            constructor
            · rintro ((q | ⟨j, q1, q2⟩) | q)
              · exact Or.inl q
              · exact Or.inr ⟨j, by omega, q2⟩
              · exact Or.inr ⟨k, by omega, q⟩
            · rintro (q | ⟨j, q1, q2⟩)
              · exact Or.inl (Or.inl q)
              · by_cases e : j = k
                · subst e; exact Or.inr q2
                · exact Or.inl (Or.inr ⟨j, by omega, q2⟩)
          simp only [nm_s]
          rw [if_neg (nI_leN (by omega) (by omega) hkl), pk_mul, nI_add, nI_add]
          cases c with
          | true =>
            rw [if_pos rfl, if_n1]
            exact ⟨d - 1, (nI 1, nI (k + 1)), by omega, ⟨k + 1, true, by omega, rfl, more true (by simp)⟩, by rw [nI_add]⟩
          | false =>
            rw [show (if false = true then nI 1 else nI 0) = nI 0 from rfl, if_n0, ck_n (by omega) (by decide), nI_clamp (by omega), l1]
            by_cases c1 : bJm b k = m
            · rw [if_pos (by rw [c1]), nI_add, ck_n (by omega) (by decide), nI_clamp (by omega), show 305 + 3 * k + 1 = 306 + 3 * k by omega, l2, has_of (by omega) (by omega), bd1_s, zb_if, nI_add, nI_clamp (by omega), show 305 + 3 * k + 2 = 307 + 3 * k by omega, l3, has_of (by omega) (by omega), bd1_s, zb_if, ck_n (by omega) (by decide)]
              by_cases c2 : bt set (bJa b k)
              · rw [if_pos c2]
                by_cases c3 : bt set (bJb b k)
                · rw [if_pos c3]
                  exact ⟨d - 1, (nI 1, nI (k + 1)), by omega, ⟨k + 1, true, by omega, rfl, more true ⟨fun _ => Or.inr ⟨c1, c2, c3⟩, fun _ => rfl⟩⟩, rfl⟩
                · rw [if_neg c3]
                  exact ⟨d - 1, (nI 0, nI (k + 1)), by omega, ⟨k + 1, false, by omega, rfl, more false (by simp [c3])⟩, rfl⟩
              · rw [if_neg c2]
                exact ⟨d - 1, (nI 0, nI (k + 1)), by omega, ⟨k + 1, false, by omega, rfl, more false (by simp [c2])⟩, rfl⟩
            · rw [if_neg (fun z => c1 ((nI_eq (by omega) (by omega)).mp z))]
              exact ⟨d - 1, (nI 0, nI (k + 1)), by omega, ⟨k + 1, false, by omega, rfl, more false (by simp [c1])⟩, by rw [nI_add]⟩)
      (bJ b) F (zb (bt set m), nI 0) (by omega) ⟨0, decide (bt set m), by omega, by unfold zb; by_cases q : bt set m <;> simp [q], by
        rw [decide_eq_true_iff]
        exact ⟨Or.inl, fun h => by
          rcases h with h | ⟨j, h1, _⟩
          · exact h
          · exact absurd h1 (Nat.not_lt_zero j)⟩⟩
    dsimp only at hr2
    rw [hr2, bd1_s, hc]
    refine ⟨c, hrc, ?_⟩
    cases c
    · exact cz_0
    · exact cz_1
  obtain ⟨c, h1, h2⟩ := key
  constructor
  · intro h; rw [h2, if_pos (h1.mpr h)]
  · intro h; rw [h2, if_neg (fun z => h (h1.mp z))]
theorem enough_of {F : Nat} (hF : 600 ≤ F) {b : BT} (ok : okB b) {l : Nat → Int32} (hm : moB b l) {set : Nat} (hs : set < 256) : (enoB b set → D_X10_isEnoughFor F (nI set) l = some (nI 1)) ∧ (¬ enoB b set → D_X10_isEnoughFor F (nI set) l = some (nI 0)) := by
  obtain ⟨-, -, -, -, -, -, -, h304, hj, h329, hn⟩ := hm
  have hU := ok.2.2.2.2.2.2.2.2
  have hU1 := hU.1
  have key : ∃ c : Bool, (c = true ↔ enoB b set) ∧ D_X10_isEnoughFor F (nI set) l = some (if c then nI 1 else nI 0) := by
    unfold D_X10_isEnoughFor
    obtain ⟨r, ⟨c, hc, hrc⟩, hr2⟩ := lpg_ind (bot := fun _ _ => none) (body := b_X10_isEnoughFor_4 (nI set) l F) (fun f (s : Int32 × Int32) => f s.1 s.2)
      (fun d s => ∃ (k : Nat) (c : Bool), k + d = bU b ∧ s = (if c then nI 1 else nI 0, nI k) ∧ (c = true ↔ ∀ j, j < k → ∀ m, m < 8 → bt (bN b j) m → sayB b set m)) (fun r => ∃ c : Bool, r = (if c then nI 1 else nI 0) ∧ (c = true ↔ enoB b set))
      (by
        rintro rec d s ⟨k, c, hk, rfl, hb⟩
        dsimp only
        rw [b_X10_isEnoughFor_4, ck_n (by decide) (by decide), nI_clamp (by decide), h329]
        by_cases hd : d = 0
        · left
          have e : k = bU b := by omega
          subst e
          exact ⟨_, ⟨c, rfl, hb⟩, if_pos (nI_le (by omega) (by omega))⟩
        · right
          have hkl : k < bU b := by omega
          have hnk := hU.2 k hkl
          rw [if_neg (nI_leN (by omega) (by omega) hkl)]
          obtain ⟨r, ⟨c2, hc2, hrc2⟩, hr2⟩ := lpg_ind (bot := fun _ _ => none) (body := b_X10_isEnoughFor_19 (nI set) l F (nI k)) (fun f (s : Int32 × Int32) => f s.1 s.2)
            (fun d s => ∃ (m : Nat) (c2 : Bool), m + d = 8 ∧ s = (if c2 then nI 1 else nI 0, nI m) ∧ (c2 = true ↔ (c = true ∧ ∀ i, i < m → bt (bN b k) i → sayB b set i))) (fun r => ∃ c2 : Bool, r = (if c2 then nI 1 else nI 0) ∧ (c2 = true ↔ (c = true ∧ ∀ i, i < 8 → bt (bN b k) i → sayB b set i)))
            (by
              rintro rec d s ⟨m, c2, hmd, rfl, hb2⟩
              dsimp only
              rw [b_X10_isEnoughFor_19]
              by_cases hd : d = 0
              · left
                have e : m = 8 := by omega
                subst e
                exact ⟨_, ⟨c2, rfl, hb2⟩, if_pos (nI_le (by omega) (by omega))⟩
              · right
                have hm8 : m < 8 := by omega
                have more : ∀ c3 : Bool, (c3 = true ↔ (c2 = true ∧ (bt (bN b k) m → sayB b set m))) → (c3 = true ↔ (c = true ∧ ∀ i, i < m + 1 → bt (bN b k) i → sayB b set i)) := by
                  intro c3 h
                  rw [h, hb2]
                  constructor
                  · rintro ⟨⟨q1, q2⟩, q3⟩
                    refine ⟨q1, fun i hi hb => ?_⟩
                    by_cases e : i = m
                    · subst e; exact q3 hb
                    · exact q2 i (by omega) hb
                  · rintro ⟨q1, q2⟩
                    exact ⟨⟨q1, fun i hi => q2 i (by omega)⟩, q2 m (by omega)⟩
                simp only [nm_s]
                rw [if_neg (nI_leN (by omega) (by omega) (by omega)), nI_add, nI_add, ck_n (by omega) (by decide), nI_clamp (by omega), hn k hkl, has_of (by omega) (by omega), bd1_s, zb_if]
                cases c2 with
                | false =>
                  rw [show (if false = true then nI 1 else nI 0) = nI 0 from rfl, if_n0]
                  exact ⟨d - 1, (nI 0, nI (m + 1)), by omega, ⟨m + 1, false, by omega, rfl, more false (by simp)⟩, rfl⟩
                | true =>
                  rw [show (if true = true then nI 1 else nI 0) = nI 1 from rfl, if_n1]
                  by_cases c4 : bt (bN b k) m
                  · rw [if_pos c4]
                    by_cases c5 : sayB b set m
                    · rw [(canSay_of hF ok h304 hj hs hm8).1 c5, bd1_s, if_n1]
                      exact ⟨d - 1, (nI 1, nI (m + 1)), by omega, ⟨m + 1, true, by omega, rfl, more true (by simp [c5])⟩, rfl⟩
                    · rw [(canSay_of hF ok h304 hj hs hm8).2 c5, bd1_s, if_n0]
                      exact ⟨d - 1, (nI 0, nI (m + 1)), by omega, ⟨m + 1, false, by omega, rfl, more false (by simp [c4, c5])⟩, rfl⟩
                  · rw [if_neg c4]
                    exact ⟨d - 1, (nI 1, nI (m + 1)), by omega, ⟨m + 1, true, by omega, rfl, more true (by simp [c4])⟩, rfl⟩)
            8 F (if c then nI 1 else nI 0, nI 0) (by omega) ⟨0, c, by omega, rfl, by
              constructor
              · intro h; exact ⟨h, fun i hi => absurd hi (Nat.not_lt_zero i)⟩
              · intro h; exact h.1⟩
          dsimp only at hr2
          rw [hr2, bd1_s, nm_s, nI_add, hc2]
          refine ⟨d - 1, (if c2 then nI 1 else nI 0, nI (k + 1)), by omega, ⟨k + 1, c2, by omega, rfl, ?_⟩, rfl⟩
          rw [hrc2, hb]
          constructor
          · rintro ⟨q1, q2⟩ j hj m hm hbt
            by_cases e : j = k
            · subst e; exact q2 m hm hbt
            · exact q1 j (by omega) m hm hbt
          · intro q
            exact ⟨fun j hj => q j (by omega), q k (by omega)⟩)
      (bU b) F (nI 1, nI 0) (by omega) ⟨0, true, by omega, rfl, by simp⟩
    dsimp only at hr2
    rw [hr2, bd1_s, hc]
    refine ⟨c, hrc, ?_⟩
    cases c
    · exact cz_0
    · exact cz_1
  obtain ⟨c, h1, h2⟩ := key
  constructor
  · intro h; rw [h2, if_pos (h1.mpr h)]
  · intro h; rw [h2, if_neg (fun z => h (h1.mp z))]
theorem pc_lt8 : ∀ t, t < 255 → pc8 t < 8 := by decide +kernel
theorem pc_255 : pc8 255 = 8 := by decide
/-- the fewest, of several the least -/
def isFew (E : Nat → Prop) (x : Nat) : Prop := x ≤ 255 ∧ (x = 255 ∨ E x) ∧ (∀ t, t < 255 → E t → pc8 x ≤ pc8 t) ∧ ∀ t, t < x → E t → pc8 x < pc8 t
theorem few_one {E : Nat → Prop} {x y : Nat} (hx : isFew E x) (hy : isFew E y) : x = y := by
  obtain ⟨x1, x2, x3, x4⟩ := hx
  obtain ⟨y1, y2, y3, y4⟩ := hy
  rcases Nat.lt_trichotomy x y with h | h | h
  · have e : E x := by
      rcases x2 with q | q
      · omega
      · exact q
    have a1 := y4 x h e
    rcases y2 with q | q
    · subst q; have := pc_lt8 x h; rw [pc_255] at a1; omega
    · by_cases c : y = 255
      · subst c; have := pc_lt8 x h; rw [pc_255] at a1; omega
      · have := x3 y (by omega) q; omega
  · exact h
  · have e : E y := by
      rcases y2 with q | q
      · omega
      · exact q
    have a1 := x4 y h e
    rcases x2 with q | q
    · subst q; have := pc_lt8 y h; rw [pc_255] at a1; omega
    · by_cases c : x = 255
      · subst c; have := pc_lt8 y h; rw [pc_255] at a1; omega
      · have := y3 x (by omega) q; omega
theorem leastSet_of {F : Nat} (hF : 600 ≤ F) {b : BT} (ok : okB b) {jM jP : Nat → Int32} (hj : ∀ k, k < bJ b → jM k = nI (2 ^ bJm b k) ∧ jP k = nI (2 ^ bJa b k ||| 2 ^ bJb b k)) : ∃ x, isFew (enoB b) x ∧ D_X4_leastSet F (nI (bJ b)) (nI (orN (bN b) (bU b))) jM jP = some (nI x) := by
  unfold D_X4_leastSet
  obtain ⟨r, ⟨x, hx, hf⟩, hr2⟩ := lpg_ind (bot := fun _ _ => none) (body := b_X4_leastSet_8 (nI (bJ b)) (nI (orN (bN b) (bU b))) jM jP F) (fun f (s : Int32 × Int32) => f s.1 s.2)
    (fun d s => ∃ k c, k + d = 255 ∧ s = (nI c, nI k) ∧ c ≤ 255 ∧ (c = 255 ∨ (enoB b c ∧ c < k)) ∧ (∀ t, t < k → enoB b t → pc8 c ≤ pc8 t) ∧ ∀ t, t < k → t < c → enoB b t → pc8 c < pc8 t) (fun r => ∃ x, r = nI x ∧ isFew (enoB b) x)
    (by
      rintro rec d s ⟨k, c, hk, rfl, i1, i2, i3, i4⟩
      dsimp only
      rw [b_X4_leastSet_8]
      by_cases hd : d = 0
      · left
        have e : k = 255 := by omega
        subst e
        refine ⟨_, ⟨c, rfl, i1, ?_, i3, fun t ht => i4 t (by omega) ht⟩, if_pos (nI_le (by omega) (by omega))⟩
        rcases i2 with q | q
        · exact Or.inl q
        · exact Or.inr q.1
      · right
        have hk2 : k < 255 := by omega
        have b1 := pc_le k (by omega)
        have b2 := pc_le c (by omega)
        simp only [nm_s]
        rw [if_neg (nI_leN (by omega) (by omega) hk2), bitCount_of k (by omega), bd1_s, bitCount_of c (by omega), bd1_s, nI_add]
        by_cases c1 : pc8 c ≤ pc8 k
        · rw [if_pos (nI_le c1 (by omega))]
          refine ⟨d - 1, (nI c, nI (k + 1)), by omega, ⟨k + 1, c, by omega, rfl, i1, ?_, ?_, ?_⟩, rfl⟩
          · rcases i2 with q | q
            · exact Or.inl q
            · exact Or.inr ⟨q.1, by omega⟩
          · intro t ht he
            by_cases e : t = k
            · subst e; exact c1
            · exact i3 t (by omega) he
          · intro t ht htc he
            by_cases e : t = k
            · subst e
              have : c = 255 := by
                rcases i2 with q | q
                · exact q
                · omega
              subst this
              have := pc_lt8 t hk2; rw [pc_255] at c1; omega
            · exact i4 t (by omega) htc he
        · rw [if_neg (nI_leN (by omega) (by omega) (by omega))]
          obtain ⟨r, hr, e1, hbit⟩ := sayable_of hF ok hj (set := k) (by omega)
          rw [e1, bd1_s]
          by_cases c2 : enoB b k
          · rw [if_pos ((enoC ok hbit).mpr c2)]
            refine ⟨d - 1, (nI k, nI (k + 1)), by omega, ⟨k + 1, k, by omega, rfl, by omega, Or.inr ⟨c2, by omega⟩, ?_, ?_⟩, rfl⟩
            · intro t ht he
              by_cases e : t = k
              · subst e; exact Nat.le_refl _
              · have := i3 t (by omega) he; omega
            · intro t ht htc he
              have := i3 t (by omega) he; omega
          · rw [if_neg (fun z => c2 ((enoC ok hbit).mp z))]
            refine ⟨d - 1, (nI c, nI (k + 1)), by omega, ⟨k + 1, c, by omega, rfl, i1, ?_, ?_, ?_⟩, rfl⟩
            · rcases i2 with q | q
              · exact Or.inl q
              · exact Or.inr ⟨q.1, by omega⟩
            · intro t ht he
              by_cases e : t = k
              · subst e; exact absurd he c2
              · exact i3 t (by omega) he
            · intro t ht htc he
              by_cases e : t = k
              · subst e; exact absurd he c2
              · exact i4 t (by omega) htc he)
    255 F (nI 255, nI 0) (by omega) ⟨0, 255, by omega, rfl, by omega, Or.inl rfl, fun t ht => absurd ht (Nat.not_lt_zero t), fun t ht => absurd ht (Nat.not_lt_zero t)⟩
  dsimp only at hr2
  rw [hr2, bd1_s, hx]
  exact ⟨x, hf, rfl⟩
theorem dec_n {k : Nat} (h : 1 ≤ k) : nI k + (-1 : Int32) = nI (k - 1) := by
  obtain ⟨j, rfl⟩ : ∃ j, k = j + 1 := ⟨k - 1, by omega⟩
  rw [pk_m1, Nat.add_sub_cancel]
theorem fewestM_of {F : Nat} (hF : 600 ≤ F) {b : BT} (ok : okB b) {l : Nat → Int32} (hm : moB b l) : ∃ x, isFew (enoB b) x ∧ lpg (T := Int32 → Int32 → Option (Int32)) (fun _ _ => none) (b_X10_fewest_20 l F) F (nI 255) (nI 255) = some (nI x) := by
  obtain ⟨r, ⟨x, hx, hf⟩, hr2⟩ := lpg_ind (bot := fun _ _ => none) (body := b_X10_fewest_20 l F) (fun f (s : Int32 × Int32) => f s.1 s.2)
    (fun d s => ∃ c, d ≤ 256 ∧ s = (nI c, if d = 0 then (-1 : Int32) else nI (d - 1)) ∧ c ≤ 255 ∧ (c = 255 ∨ enoB b c) ∧ ∀ t, d ≤ t → t ≤ 255 → enoB b t → pc8 c ≤ pc8 t ∧ (t < c → pc8 c < pc8 t)) (fun r => ∃ x, r = nI x ∧ isFew (enoB b) x)
    (by
      rintro rec d s ⟨c, hd256, rfl, i1, i2, i3⟩
      dsimp only
      rw [b_X10_fewest_20]
      by_cases hd : d = 0
      · left
        subst hd
        rw [if_pos rfl]
        exact ⟨_, ⟨c, rfl, i1, i2, fun t ht he => (i3 t (by omega) (by omega) he).1, fun t ht he => (i3 t (by omega) (by omega) he).2 ht⟩, if_pos m1_lt0⟩
      · right
        obtain ⟨k, rfl⟩ : ∃ k, d = k + 1 := ⟨d - 1, by omega⟩
        have b1 := pc_le k (by omega)
        have b2 := pc_le c (by omega)
        simp only [nm_s]
        rw [if_neg hd, Nat.add_sub_cancel, if_neg (nlt0 (by omega)), ones_of hF (by omega), bd1_s, ones_of hF (by omega), bd1_s]
        have hnx : nI k + (-1 : Int32) = if k = 0 then (-1 : Int32) else nI (k - 1) := by
          by_cases q : k = 0
          · subst q; decide
          · rw [if_neg q, dec_n (by omega)]
        rw [hnx]
        have keep : ¬ (pc8 k ≤ pc8 c ∧ enoB b k) → ∀ t, k ≤ t → t ≤ 255 → enoB b t → pc8 c ≤ pc8 t ∧ (t < c → pc8 c < pc8 t) := by
          intro q t h1 h2 he
          by_cases e : t = k
          · subst e
            have : pc8 c < pc8 t := Nat.lt_of_not_le fun z => q ⟨z, he⟩
            exact ⟨by omega, fun _ => this⟩
          · exact i3 t (by omega) h2 he
        by_cases c1 : pc8 c < pc8 k
        · rw [if_pos (nI_lt c1 (by omega))]
          exact ⟨k, (nI c, if k = 0 then (-1 : Int32) else nI (k - 1)), by omega, ⟨c, by omega, rfl, i1, i2, keep (fun z => by omega)⟩, rfl⟩
        · rw [if_neg (nI_nlt (by omega) (by omega))]
          by_cases c2 : enoB b k
          · rw [(enough_of hF ok hm (by omega)).1 c2, bd1_s, if_n1]
            refine ⟨k, (nI k, if k = 0 then (-1 : Int32) else nI (k - 1)), by omega, ⟨k, by omega, rfl, by omega, Or.inr c2, fun t h1 h2 he => ?_⟩, rfl⟩
            by_cases e : t = k
            · subst e; exact ⟨Nat.le_refl _, fun z => absurd z (Nat.lt_irrefl _)⟩
            · have := (i3 t (by omega) h2 he).1
              exact ⟨by omega, fun z => by omega⟩
          · rw [(enough_of hF ok hm (by omega)).2 c2, bd1_s, if_n0]
            exact ⟨k, (nI c, if k = 0 then (-1 : Int32) else nI (k - 1)), by omega, ⟨c, by omega, rfl, i1, i2, keep (fun z => c2 z.2)⟩, rfl⟩)
    256 F (nI 255, nI 255) (by omega) ⟨255, by omega, rfl, by omega, Or.inl rfl, fun t h1 h2 => by omega⟩
  dsimp only at hr2
  rw [hr2, hx]
  exact ⟨x, hf, rfl⟩
theorem e_fewest {F : Nat} (hF : 600 ≤ F) {b : BT} (ok : okB b) {words heard can ins trad tak jM jP : Nat → Int32} {jT uT need spk gd : Int32} (hc : clB b words heard can ins trad tak jM jP jT uT need spk gd) {l : Nat → Int32} (hm : moB b l) (p1 : Int32) : ∃ r, D_X9_fewest F p1 jT need jM jP = some r ∧ D_X10_fewest F p1 l = some r := by
  obtain ⟨-, -, -, -, -, -, hj, hjT, -, hne, -⟩ := hc
  subst hjT hne
  unfold D_X9_fewest D_X10_fewest D_X0_needs
  rw [in01, bd1_s, zb_if]
  by_cases h3 : 0 ≤ p1.toInt ∧ p1.toInt < 2
  case neg =>
    rw [if_neg h3]
    refine ⟨(-1 : Int32), ?_, rfl⟩
    by_cases c : p1 < 0
    · rw [if_pos c]
    · rw [if_neg c, if_neg]
      rw [ti_le' (by decide)]; rw [lt0_iff] at c; omega
  rw [if_pos h3, if_neg (by rw [lt0_iff]; omega), if_pos (by rw [ti_le' (by decide)]; omega), bd0_s]
  obtain ⟨x, hx, e1⟩ := leastSet_of hF ok hj
  obtain ⟨y, hy, e2⟩ := fewestM_of hF ok hm
  have := few_one hx hy
  subst this
  rw [e1, bd1_s, e2, bd1_s, bitCount_of x (by have := hx.1; omega), ones_of hF (by have := hx.1; omega), bd1_s]
  by_cases c : p1 = 0
  · rw [if_pos c]; exact ⟨_, rfl, rfl⟩
  · rw [if_neg c]; exact ⟨_, rfl, rfl⟩
