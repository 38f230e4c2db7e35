/-! PURE: write and wipe -/
theorem ws_u : ∀ k, k < 8 → (((nI 8) * (nI k)).toInt64.toUInt64 &&& Int64.toUInt64 63) = UInt64.ofNat (8 * k) := by decide
theorem ws_s : ∀ k, k < 8 → ((((nI 8) * (nI k)).toInt64 &&& 63).toBitVec.smod 64) = BitVec.ofNat 64 (8 * k) := by decide
theorem ws_m : ∀ k, k < 8 → (UInt64.ofNat (8 * k)).toBitVec % 64 = BitVec.ofNat 64 (8 * k) := by decide
theorem ws_n : ∀ k, k < 8 → (BitVec.ofNat 64 (8 * k)).toNat = 8 * k := by decide
/-- a byte of a long -/
def byL (v : Int64) (k : Nat) : Nat := v.toBitVec.toNat / 2 ^ (8 * k) % 256
theorem byL_lt (v : Int64) (k : Nat) : byL v k < 256 := Nat.mod_lt _ (by decide)
theorem wc_of (v : Int64) {k : Nat} (hk : k < 8) : (((v.toUInt64 >>> (((nI 8) * (nI k)).toInt64.toUInt64 &&& Int64.toUInt64 63)).toInt64).toInt32) &&& (nI 255) = nI (byL v k) := by
  have e : (v.toUInt64 >>> (((nI 8) * (nI k)).toInt64.toUInt64 &&& Int64.toUInt64 63)).toInt64 = lN (v.toBitVec.toNat / 2 ^ (8 * k)) := by
    rw [ws_u k hk]
    apply Int64.toBitVec_inj.mp
    show (v.toUInt64 >>> UInt64.ofNat (8 * k)).toBitVec = BitVec.ofNat 64 (v.toBitVec.toNat / 2 ^ (8 * k))
    rw [UInt64.toBitVec_shiftRight, ws_m k hk]
    apply BitVec.eq_of_toNat_eq
    rw [BitVec.ushiftRight_eq', BitVec.toNat_ushiftRight, ws_n k hk, BitVec.toNat_ofNat, Nat.shiftRight_eq_div_pow]
    show v.toBitVec.toNat / 2 ^ (8 * k) = _
    rw [Nat.mod_eq_of_lt (Nat.lt_of_le_of_lt (Nat.div_le_self _ _) v.toBitVec.isLt)]
  rw [e, lN_i, show nI 255 = nI (2 ^ 8 - 1) from rfl, fa_mask]
  rfl
theorem wm_of (v : Int64) {k : Nat} (hk : k < 8) : ((v >>> (((nI 8) * (nI k)).toInt64 &&& 63)) &&& (lN 255)).toInt32 = nI (byL v k) := by
  have e : (v >>> (((nI 8) * (nI k)).toInt64 &&& 63)) &&& (lN 255) = lN (byL v k) := by
    apply Int64.toBitVec_inj.mp
    rw [Int64.toBitVec_and, Int64.toBitVec_shiftRight, ws_s k hk]
    show v.toBitVec.sshiftRight' (BitVec.ofNat 64 (8 * k)) &&& BitVec.ofNat 64 255 = BitVec.ofNat 64 (byL v k)
    rw [BitVec.sshiftRight_eq', ws_n k hk]
    apply BitVec.eq_of_getLsbD_eq
    intro i hi
    rw [BitVec.getLsbD_and, BitVec.getLsbD_sshiftRight, BitVec.getLsbD_ofNat, BitVec.getLsbD_ofNat, show 255 = 2 ^ 8 - 1 from rfl, Nat.testBit_two_pow_sub_one]
    unfold byL
    rw [show 256 = 2 ^ 8 from rfl, Nat.testBit_mod_two_pow, Nat.testBit_div_two_pow]
    by_cases c : i < 8
    · rw [if_pos (by omega)]
      simp only [hi, c, decide_true, Bool.true_and, Bool.and_true]
      rw [decide_eq_false (by omega), Bool.not_false, Bool.true_and, BitVec.getLsbD, Nat.add_comm]
    · simp only [c, decide_false, Bool.false_and, Bool.and_false]
  rw [e, lN_i]
theorem xs_s (m : Nat) : nI (m + 1) - nI 1 = nI m := by rw [pk_sub (by omega)]; rfl
theorem xs_0 : nI 0 - nI 1 < 0 := by decide
theorem xs_n (m : Nat) : nI m + (-1 : Int32) = nI m - nI 1 := by
  rw [Int32.sub_eq_add_neg]; rfl
theorem tx_snoc {n : Nat} {S : Nat → Nat} {len size : Int32} {bys text : Nat → Int32} (h : tx n S len bys size text) (hn : n < 500) {v : Nat} (hv : v < 256) : tx (n + 1) (fu S n v) (nI (n + 1)) (upd bys n (nI v).toInt8.toInt32) (nI (n + 1)) (upd text n (nI v)) := by
  obtain ⟨h1, h2, h3, h4, h5, h6⟩ := h
  refine ⟨by omega, rfl, rfl, fun k hk => ?_, fun k hk => ?_, fun k => ?_⟩
  · by_cases z : k = n
    · rw [z, pk_us, pk_us, fu_s]; exact ⟨sc_k8 v hv, rfl⟩
    · rw [pk_un z, pk_un z, fu_n z]; exact h4 k (by omega)
  · rw [fu_n (by omega)]; exact h5 k (by omega)
  · by_cases z : k = n
    · rw [z, fu_s]; exact hv
    · rw [fu_n z]; exact h6 k
theorem append_of {n v : Nat} (hn : n < 500) (bys : Nat → Int32) : D_X7_append (nI v) (nI n) bys = some (nI (n + 1), upd bys n (nI v).toInt8.toInt32) := by
  unfold D_X7_append
  rw [if_neg (nI_leN (by decide) (by omega) hn), nm_s, ck_n hn (by decide), nI_add, nm_s, nI_clamp (by omega), pk_vb]
theorem write_loop (v : Int64) : ∀ (m n G : Nat) (S : Nat → Nat) (len size : Int32) (bys text : Nat → Int32), tx n S len bys size text → m ≤ 8 → n + m ≤ 500 → m < G →
    ∃ S' bys' text', lpg (T := Int32 → Int32 → (Nat → Int32) → Option (Int32 × (Nat → Int32))) (fun _ _ _ => none) (b_X9_write_36 v) G (nI m - nI 1) len bys = some (nI (n + m), bys') ∧ lpg (T := Int32 → Int32 → (Nat → Int32) → Option (Int32 × (Nat → Int32))) (fun _ _ _ => none) (b_X10_write_34 v) G (nI m - nI 1) size text = some (nI (n + m), text') ∧ tx (n + m) S' (nI (n + m)) bys' (nI (n + m)) text' := by
  intro m
  induction m with
  | zero =>
    intro n G S len size bys text h h1 h2 hG
    obtain ⟨G, rfl⟩ : ∃ H, G = H + 1 := ⟨G - 1, by omega⟩
    rw [lpg_succ, lpg_succ, b_X9_write_36, b_X10_write_34, if_pos xs_0, if_pos xs_0, h.2.1, h.2.2.1]
    have h' := h
    rw [h.2.1, h.2.2.1] at h'
    exact ⟨S, bys, text, rfl, rfl, h'⟩
  | succ m ih =>
    intro n G S len size bys text h h1 h2 hG
    obtain ⟨G, rfl⟩ : ∃ H, G = H + 1 := ⟨G - 1, by omega⟩
    rw [xs_s, lpg_succ, lpg_succ, b_X9_write_36, b_X10_write_34, if_neg (nlt0 (by omega)), if_neg (nlt0 (by omega)), wc_of v (by omega), wm_of v (by omega), h.2.1, h.2.2.1, append_of (by omega), bd2_s, nm_s, nm_s, ck_n (by omega) (by decide), nI_add, nm_s, nm_s, nI_clamp (by omega), xs_n]
    obtain ⟨S', bys', text', e1, e2, e3⟩ := ih (n + 1) G _ _ _ _ _ (tx_snoc h (by omega) (byL_lt v m)) (by omega) (by omega) (by omega)
    rw [e1, e2, show n + (m + 1) = n + 1 + m by omega]
    exact ⟨S', bys', text', rfl, rfl, e3⟩
theorem add_toInt {n : Nat} {x : Int32} (hn : n ≤ 500) (h1 : 1 ≤ x.toInt) (h2 : x.toInt ≤ 8) : ∃ m, x = nI m ∧ 1 ≤ m ∧ m ≤ 8 := ⟨x.toInt.toNat, ti_of (by omega), by omega, by omega⟩
theorem e_write {F : Nat} (hF : 600 ≤ F) {n : Nat} {S : Nat → Nat} {len size : Int32} {bys text : Nat → Int32} (h : tx n S len bys size text) (p1 : Int32) (p2 : Int64) :
    ∃ r len' bys' size' text' n' S', D_X9_write F p1 p2 len bys = some (r, len', bys') ∧ D_X10_write F p1 p2 size text = some (r, size', text') ∧ tx n' S' len' bys' size' text' := by
  unfold D_X9_write D_X10_write
  rw [in_of p1 (by decide) (by decide), bd1_s, zb_if]
  by_cases c : (1 : Nat) ≤ p1.toInt ∧ p1.toInt ≤ (8 : Nat)
  · obtain ⟨m, rfl, hm1, hm8⟩ := add_toInt (n := n) h.1 c.1 c.2
    rw [if_pos c, if_neg (nI_nlt hm1 (by omega)), if_pos (nI_le hm8 (by decide)), D_X7_length, bd1_s]
    have hn := h.1
    rw [show len + nI m = nI (n + m) by rw [h.2.1, nI_add], show size + nI m = nI (n + m) by rw [h.2.2.1, nI_add]]
    by_cases d : n + m ≤ 500
    · obtain ⟨S', bys', text', e1, e2, e3⟩ := write_loop p2 m n F S len size bys text h hm8 d (by omega)
      rw [if_pos (nI_le d (by decide)), if_pos (nI_le d (by decide)), nm_s, nm_s, e1, e2, bd2_s, bd2_s, D_X7_length, bd1_s]
      exact ⟨_, _, _, _, _, _, _, rfl, rfl, e3⟩
    · rw [if_neg (nI_leN (by omega) (by decide) (by omega)), if_neg (nI_leN (by omega) (by decide) (by omega))]
      exact ⟨_, _, _, _, _, _, _, rfl, rfl, h⟩
  · rw [if_neg c]
    by_cases d : p1 < nI 1
    · rw [if_pos d]; exact ⟨_, _, _, _, _, _, _, rfl, rfl, h⟩
    · rw [if_neg d]
      rw [ti_lt (by decide)] at d
      rw [if_neg (by rw [ti_le' (by decide)]; omega)]
      exact ⟨_, _, _, _, _, _, _, rfl, rfl, h⟩
theorem e_wipe {n : Nat} {S : Nat → Nat} {len size : Int32} {bys text : Nat → Int32} (h : tx n S len bys size text) :
    ∃ r len' size', D_X9_wipe len = some (r, len') ∧ D_X10_wipe size = some (r, size') ∧ tx 0 (fun _ => 0) len' bys size' text := by
  unfold D_X9_wipe D_X10_wipe D_X7_length D_X7_clear
  rw [bd1_s, bd1_s, h.2.1, h.2.2.1]
  exact ⟨_, _, _, rfl, rfl, Nat.zero_le _, rfl, rfl, fun k hk => absurd hk (Nat.not_lt_zero k), fun _ _ => rfl, fun _ => by show 0 < 256; decide⟩
