/-! PURE: an item as the class takes it in -/
/-- what becomes of the step in the class -/
def cS (st : Option (Nat × BT)) (pl : Int32) (x : Option (Int32 × Int32 × Int32 × (Nat → Int32) × (Nat → Int32) × (Nat → Int32) × (Nat → Int32) × (Nat → Int32) × (Nat → Int32) × Int32 × Int32 × Int32 × (Nat → Int32) × (Nat → Int32))) : Prop :=
  (st = none ∧ ∃ a1 a2 a3 a4 a5 a6 a7 a8 a9 a10 a11 a12 a13, x = some (nI 0, a1, a2, a3, a4, a5, a6, a7, a8, a9, a10, a11, a12, a13)) ∨ ∃ p' b' sp' gd' w' h' c' i' t' k' jT' uT' nd' jM' jP', st = some (p', b') ∧ pl = nI p' ∧ x = some (nI 1, sp', gd', w', h', c', i', t', k', jT', uT', nd', jM', jP') ∧ clB b' w' h' c' i' t' k' jM' jP' jT' uT' nd' sp' gd'
theorem acc101 {b : BT} {words heard can ins trad tak jM jP : Nat → Int32} {jT uT need spk gd : Int32} (h : clB b words heard can ins trad tak jM jP jT uT need spk gd) {wd bt : Int32} {nb : Nat → Int32} {v1 v2 : Nat} {w : List Nat} (h0 : nb 0 = nI v1) (h1 : nb 1 = nI v2) (hv1 : v1 ≤ 2) (hv2 : v2 ≤ 7) (hw : wd = nI (enc w)) : ∃ sp' gd' w' h' c' i' t' k' jT' uT' nd' jM' jP', D_X0_accepts spk gd words heard can ins trad tak jT uT need jM jP (nI 101) wd bt nb = some (nI 1, sp', gd', w', h', c', i', t', k', jT', uT', nd', jM', jP') ∧ clB (setW b (16 + (8 * v1 + v2)) w) w' h' c' i' t' k' jM' jP' jT' uT' nd' sp' gd' := by
  obtain ⟨k1, k2, k3, k4, k5, k6, k7, k8, k9, k10, k11, k12⟩ := h
  unfold D_X0_accepts D_X2_letter
  rw [num_k (by decide), bd1_s, num_k (by decide), bd1_s, bd1_s, if_pos rfl]
  unfold D_X0_heardPlace D_X2_spelled
  rw [bd1_s, bd1_s, h0, h1, pk_mul, nI_add, row_put (by omega) (by decide), bd1_s]
  refine ⟨_, _, _, _, _, _, _, _, _, _, _, _, _, rfl, fun j hj => ?_, fun j hj => ?_, k3, k4, k5, k6, k7, k8, k9, k10, k11, k12⟩
  · show words j = nI (enc (fu (bW b) _ _ j))
    rw [fu_n (by omega)]; exact k1 j hj
  · show upd heard _ _ j = nI (enc (fu (bW b) _ _ (16 + j)))
    by_cases z : j = v1 * 8 + v2
    · rw [z, pk_us, show 16 + (v1 * 8 + v2) = 16 + (8 * v1 + v2) by omega, fu_s, hw]
    · rw [pk_un z, fu_n (by omega)]; exact k2 j hj
theorem acc119 {b : BT} {words heard can ins trad tak jM jP : Nat → Int32} {jT uT need spk gd : Int32} (h : clB b words heard can ins trad tak jM jP jT uT need spk gd) {wd bt : Int32} {nb : Nat → Int32} {v1 v2 : Nat} {w : List Nat} (h0 : nb 0 = nI v1) (h1 : nb 1 = nI v2) (hv1 : v1 ≤ 1) (hv2 : v2 ≤ 7) (hw : wd = nI (enc w)) : ∃ sp' gd' w' h' c' i' t' k' jT' uT' nd' jM' jP', D_X0_accepts spk gd words heard can ins trad tak jT uT need jM jP (nI 119) wd bt nb = some (nI 1, sp', gd', w', h', c', i', t', k', jT', uT', nd', jM', jP') ∧ clB (setW b (8 * v1 + v2) w) w' h' c' i' t' k' jM' jP' jT' uT' nd' sp' gd' := by
  obtain ⟨k1, k2, k3, k4, k5, k6, k7, k8, k9, k10, k11, k12⟩ := h
  unfold D_X0_accepts D_X2_letter
  rw [num_k (by decide), bd1_s, num_k (by decide), bd1_s, bd1_s, if_neg (by decide), if_neg (by decide), if_neg (by decide), if_neg (by decide), if_neg (by decide), if_neg (by decide), if_neg (by decide), if_neg (by decide), if_neg (by decide), if_pos rfl]
  unfold D_X0_wordPlace D_X2_spelled
  rw [bd1_s, bd1_s, h0, h1, pk_mul, nI_add, row_put (by omega) (by decide), bd1_s]
  refine ⟨_, _, _, _, _, _, _, _, _, _, _, _, _, rfl, fun j hj => ?_, fun j hj => ?_, k3, k4, k5, k6, k7, k8, k9, k10, k11, k12⟩
  · show upd words _ _ j = nI (enc (fu (bW b) _ _ j))
    by_cases z : j = v1 * 8 + v2
    · rw [z, pk_us, show v1 * 8 + v2 = 8 * v1 + v2 by omega, fu_s, hw]
    · rw [pk_un z, fu_n (by omega)]; exact k1 j hj
  · show heard j = nI (enc (fu (bW b) _ _ (16 + j)))
    rw [fu_n (by omega)]; exact k2 j hj
theorem acc103 {b : BT} {words heard can ins trad tak jM jP : Nat → Int32} {jT uT need spk gd : Int32} (h : clB b words heard can ins trad tak jM jP jT uT need spk gd) {wd bt : Int32} {nb : Nat → Int32} {v1 : Nat} (h0 : nb 0 = nI v1) : ∃ sp' gd' w' h' c' i' t' k' jT' uT' nd' jM' jP', D_X0_accepts spk gd words heard can ins trad tak jT uT need jM jP (nI 103) wd bt nb = some (nI 1, sp', gd', w', h', c', i', t', k', jT', uT', nd', jM', jP') ∧ clB (setG b v1) w' h' c' i' t' k' jM' jP' jT' uT' nd' sp' gd' := by
  obtain ⟨k1, k2, k3, k4, k5, k6, k7, k8, k9, k10, k11, k12⟩ := h
  unfold D_X0_accepts D_X2_letter
  rw [num_k (by decide), bd1_s, num_k (by decide), bd1_s, bd1_s, if_neg (by decide), if_pos rfl]
  exact ⟨_, _, _, _, _, _, _, _, _, _, _, _, _, rfl, k1, k2, k3, k4, k5, k6, k7, k8, k9, k10, k11, h0⟩
theorem acc111 {b : BT} {words heard can ins trad tak jM jP : Nat → Int32} {jT uT need spk gd : Int32} (h : clB b words heard can ins trad tak jM jP jT uT need spk gd) {wd bt : Int32} {nb : Nat → Int32} {v1 : Nat} (h0 : nb 0 = nI v1) : ∃ sp' gd' w' h' c' i' t' k' jT' uT' nd' jM' jP', D_X0_accepts spk gd words heard can ins trad tak jT uT need jM jP (nI 111) wd bt nb = some (nI 1, sp', gd', w', h', c', i', t', k', jT', uT', nd', jM', jP') ∧ clB (setS b v1) w' h' c' i' t' k' jM' jP' jT' uT' nd' sp' gd' := by
  obtain ⟨k1, k2, k3, k4, k5, k6, k7, k8, k9, k10, k11, k12⟩ := h
  unfold D_X0_accepts D_X2_letter
  rw [num_k (by decide), bd1_s, num_k (by decide), bd1_s, bd1_s, if_neg (by decide), if_neg (by decide), if_neg (by decide), if_neg (by decide), if_neg (by decide), if_pos rfl]
  exact ⟨_, _, _, _, _, _, _, _, _, _, _, _, _, rfl, k1, k2, k3, k4, k5, k6, k7, k8, k9, k10, h0, k12⟩
theorem acc107 {b : BT} {words heard can ins trad tak jM jP : Nat → Int32} {jT uT need spk gd : Int32} (h : clB b words heard can ins trad tak jM jP jT uT need spk gd) {wd bt : Int32} {nb : Nat → Int32} {v1 v2 : Nat} (h0 : nb 0 = nI v1) (h1 : nb 1 = nI v2) : ∃ sp' gd' w' h' c' i' t' k' jT' uT' nd' jM' jP', D_X0_accepts spk gd words heard can ins trad tak jT uT need jM jP (nI 107) wd bt nb = some (nI 1, sp', gd', w', h', c', i', t', k', jT', uT', nd', jM', jP') ∧ clB (setT b v1 v2) w' h' c' i' t' k' jM' jP' jT' uT' nd' sp' gd' := by
  obtain ⟨k1, k2, k3, k4, k5, k6, k7, k8, k9, k10, k11, k12⟩ := h
  unfold D_X0_accepts D_X2_letter
  rw [num_k (by decide), bd1_s, num_k (by decide), bd1_s, bd1_s, if_neg (by decide), if_neg (by decide), if_neg (by decide), if_pos rfl]
  unfold D_X0_tellPair
  rw [row_put (by decide) (by decide), bd1_s, row_put (by decide) (by decide), bd1_s, bd1_s, h0, h1]
  refine ⟨_, _, _, _, _, _, _, _, _, _, _, _, _, rfl, k1, k2, k3, k4, k5, ?_, k7, k8, k9, k10, k11, k12⟩
  intro j hj
  show upd (upd tak 0 _) 1 _ j = nI (fu (fu (bT b) 0 _) 1 _ j)
  by_cases z : j = 1
  · rw [z, pk_us, fu_s]
  · rw [pk_un z, fu_n z, show j = 0 by omega, pk_us, fu_s]
theorem acc110 {b : BT} {words heard can ins trad tak jM jP : Nat → Int32} {jT uT need spk gd : Int32} (h : clB b words heard can ins trad tak jM jP jT uT need spk gd) {wd bt : Int32} {nb : Nat → Int32} {v1 v2 : Nat} (h0 : nb 0 = nI v1) (h1 : nb 1 = nI v2) : ∃ sp' gd' w' h' c' i' t' k' jT' uT' nd' jM' jP', D_X0_accepts spk gd words heard can ins trad tak jT uT need jM jP (nI 110) wd bt nb = some (nI 1, sp', gd', w', h', c', i', t', k', jT', uT', nd', jM', jP') ∧ clB (setM b v1 v2) w' h' c' i' t' k' jM' jP' jT' uT' nd' sp' gd' := by
  obtain ⟨k1, k2, k3, k4, k5, k6, k7, k8, k9, k10, k11, k12⟩ := h
  unfold D_X0_accepts D_X2_letter
  rw [num_k (by decide), bd1_s, num_k (by decide), bd1_s, bd1_s, if_neg (by decide), if_neg (by decide), if_neg (by decide), if_neg (by decide), if_pos rfl]
  unfold D_X0_tellPair
  rw [row_put (by decide) (by decide), bd1_s, row_put (by decide) (by decide), bd1_s, bd1_s, h0, h1]
  refine ⟨_, _, _, _, _, _, _, _, _, _, _, _, _, rfl, k1, k2, k3, k4, ?_, k6, k7, k8, k9, k10, k11, k12⟩
  intro j hj
  show upd (upd trad 0 _) 1 _ j = nI (fu (fu (bM b) 0 _) 1 _ j)
  by_cases z : j = 1
  · rw [z, pk_us, fu_s]
  · rw [pk_un z, fu_n z, show j = 0 by omega, pk_us, fu_s]
theorem acc114 {b : BT} {words heard can ins trad tak jM jP : Nat → Int32} {jT uT need spk gd : Int32} (h : clB b words heard can ins trad tak jM jP jT uT need spk gd) {wd bt : Int32} {nb : Nat → Int32} {w : List Nat} (hw : wd = nI (enc w)) (okk : okw w) (hl : w.length = 2) : ∃ sp' gd' w' h' c' i' t' k' jT' uT' nd' jM' jP', D_X0_accepts spk gd words heard can ins trad tak jT uT need jM jP (nI 114) wd bt nb = some (nI 1, sp', gd', w', h', c', i', t', k', jT', uT', nd', jM', jP') ∧ clB (setR b (w.getD 0 0) (w.getD 1 0)) w' h' c' i' t' k' jM' jP' jT' uT' nd' sp' gd' := by
  obtain ⟨k1, k2, k3, k4, k5, k6, k7, k8, k9, k10, k11, k12⟩ := h
  unfold D_X0_accepts D_X2_letter
  rw [num_k (by decide), bd1_s, num_k (by decide), bd1_s, bd1_s, if_neg (by decide), if_neg (by decide), if_neg (by decide), if_neg (by decide), if_neg (by decide), if_neg (by decide), if_pos rfl]
  unfold D_X2_spelled
  have s0 := okk.2 _ (getD_mem (w := w) (k := 0) (by omega))
  rw [bd1_s, hw]
  unfold D_X0_tellExchange
  rw [soundAt_enc okk (by decide), bd1_s, soundAt_enc okk (by decide), bd1_s, row_put s0 (by decide), bd1_s, bd1_s]
  refine ⟨_, _, _, _, _, _, _, _, _, _, _, _, _, rfl, k1, k2, k3, ?_, k5, k6, k7, k8, k9, k10, k11, k12⟩
  intro j hj
  show upd ins _ _ j = ec (fu (bR b) _ _ j)
  by_cases z : j = w.getD 0 0
  · rw [z, pk_us, fu_s]; rfl
  · rw [pk_un z, fu_n z]; exact k4 j hj
theorem acc115 {b : BT} {words heard can ins trad tak jM jP : Nat → Int32} {jT uT need spk gd : Int32} (h : clB b words heard can ins trad tak jM jP jT uT need spk gd) {wd bt : Int32} {nb : Nat → Int32} {v1 s : Nat} (h0 : nb 0 = nI v1) (hv1 : v1 ≤ 1) (hs : bt = nI s) : ∃ sp' gd' w' h' c' i' t' k' jT' uT' nd' jM' jP', D_X0_accepts spk gd words heard can ins trad tak jT uT need jM jP (nI 115) wd bt nb = some (nI 1, sp', gd', w', h', c', i', t', k', jT', uT', nd', jM', jP') ∧ clB (setC b v1 s) w' h' c' i' t' k' jM' jP' jT' uT' nd' sp' gd' := by
  obtain ⟨k1, k2, k3, k4, k5, k6, k7, k8, k9, k10, k11, k12⟩ := h
  unfold D_X0_accepts D_X2_letter
  rw [num_k (by decide), bd1_s, num_k (by decide), bd1_s, bd1_s, if_neg (by decide), if_neg (by decide), if_neg (by decide), if_neg (by decide), if_neg (by decide), if_neg (by decide), if_neg (by decide), if_pos rfl]
  unfold D_X2_bits
  rw [bd1_s, h0, row_put (by omega) (by decide), bd1_s, hs]
  refine ⟨_, _, _, _, _, _, _, _, _, _, _, _, _, rfl, k1, k2, ?_, k4, k5, k6, k7, k8, k9, k10, k11, k12⟩
  intro j hj
  show upd can _ _ j = nI (fu (bC b) _ _ j)
  by_cases z : j = v1
  · rw [z, pk_us, fu_s]
  · rw [pk_un z, fu_n z]; exact k3 j hj
theorem acc106 {b : BT} {words heard can ins trad tak jM jP : Nat → Int32} {jT uT need spk gd : Int32} (h : clB b words heard can ins trad tak jM jP jT uT need spk gd) {wd bt : Int32} {nb : Nat → Int32} {v1 v2 v3 : Nat} (h0 : nb 0 = nI v1) (h1 : nb 1 = nI v2) (h2 : nb 2 = nI v3) (hv1 : v1 ≤ 7) (hv2 : v2 ≤ 7) (hv3 : v3 ≤ 7) (hJ : bJ b < 8) : ∃ sp' gd' w' h' c' i' t' k' jT' uT' nd' jM' jP', D_X0_accepts spk gd words heard can ins trad tak jT uT need jM jP (nI 106) wd bt nb = some (nI 1, sp', gd', w', h', c', i', t', k', jT', uT', nd', jM', jP') ∧ clB (setJ b v1 v2 v3) w' h' c' i' t' k' jM' jP' jT' uT' nd' sp' gd' := by
  obtain ⟨k1, k2, k3, k4, k5, k6, k7, k8, k9, k10, k11, k12⟩ := h
  unfold D_X0_accepts D_X2_letter
  rw [num_k (by decide), bd1_s, num_k (by decide), bd1_s, bd1_s, if_neg (by decide), if_neg (by decide), if_pos rfl]
  unfold D_X4_tellJoined
  rw [num_k (by decide), bd1_s, k8, if_pos (nI_lt hJ (by decide)), h0, h1, h2, shl_one (by omega), shl_one (by omega), shl_one (by omega), fa_or, row_put hJ (by decide), bd1_s, row_put hJ (by decide), bd1_s, nI_add, nm_s, bd4_s, cz_1]
  refine ⟨_, _, _, _, _, _, _, _, _, _, _, _, _, rfl, k1, k2, k3, k4, k5, k6, ?_, rfl, k9, k10, k11, k12⟩
  intro j hj
  have hj : j < bJ b + 1 := hj
  show upd jM _ _ j = nI (2 ^ fu (bJm b) _ _ j) ∧ upd jP _ _ j = nI (2 ^ fu (bJa b) _ _ j ||| 2 ^ fu (bJb b) _ _ j)
  by_cases z : j = bJ b
  · rw [z, pk_us, pk_us, fu_s, fu_s, fu_s]; exact ⟨rfl, rfl⟩
  · rw [pk_un z, pk_un z, fu_n z, fu_n z, fu_n z]; exact k7 j (by omega)
theorem orN_fu {f : Nat → Nat} {s : Nat} : ∀ {k u : Nat}, k ≤ u → orN (fu f u s) k = orN f k := by
  intro k
  induction k with
  | zero => intro u _; rfl
  | succ k ih =>
    intro u h
    rw [orN, orN, ih (by omega), fu_n (by omega)]
theorem acc117 {b : BT} {words heard can ins trad tak jM jP : Nat → Int32} {jT uT need spk gd : Int32} (h : clB b words heard can ins trad tak jM jP jT uT need spk gd) {wd bt : Int32} {nb : Nat → Int32} {s : Nat} (hs : bt = nI s) (hU : bU b < 6) : ∃ sp' gd' w' h' c' i' t' k' jT' uT' nd' jM' jP', D_X0_accepts spk gd words heard can ins trad tak jT uT need jM jP (nI 117) wd bt nb = some (nI 1, sp', gd', w', h', c', i', t', k', jT', uT', nd', jM', jP') ∧ clB (setU b s) w' h' c' i' t' k' jM' jP' jT' uT' nd' sp' gd' := by
  obtain ⟨k1, k2, k3, k4, k5, k6, k7, k8, k9, k10, k11, k12⟩ := h
  unfold D_X0_accepts D_X2_letter
  rw [num_k (by decide), bd1_s, num_k (by decide), bd1_s, bd1_s, if_neg (by decide), if_neg (by decide), if_neg (by decide), if_neg (by decide), if_neg (by decide), if_neg (by decide), if_neg (by decide), if_neg (by decide), if_pos rfl]
  unfold D_X2_bits D_X4_tellNeed
  rw [bd1_s, k9, if_pos (nI_lt hU (by decide)), k10, hs, fa_or, nm_s, nI_add, nm_s, bd3_s, cz_1]
  refine ⟨_, _, _, _, _, _, _, _, _, _, _, _, _, rfl, k1, k2, k3, k4, k5, k6, k7, k8, rfl, ?_, k11, k12⟩
  show nI (orN (bN b) (bU b) ||| s) = nI (orN (fu (bN b) (bU b) s) (bU b + 1))
  rw [orN, orN_fu (Nat.le_refl _), fu_s]
theorem acc106n {b : BT} {words heard can ins trad tak jM jP : Nat → Int32} {jT uT need spk gd : Int32} (h : clB b words heard can ins trad tak jM jP jT uT need spk gd) {wd bt : Int32} {nb : Nat → Int32} (hJ : ¬ bJ b < 8) (ok : okB b) : ∃ sp' gd' w' h' c' i' t' k' jT' uT' nd' jM' jP', D_X0_accepts spk gd words heard can ins trad tak jT uT need jM jP (nI 106) wd bt nb = some (nI 0, sp', gd', w', h', c', i', t', k', jT', uT', nd', jM', jP') := by
  obtain ⟨k1, k2, k3, k4, k5, k6, k7, k8, k9, k10, k11, k12⟩ := h
  have := ok.2.2.2.2.2.2.2.1.1
  unfold D_X0_accepts D_X2_letter D_X4_tellJoined
  rw [num_k (by decide), bd1_s, num_k (by decide), bd1_s, bd1_s, if_neg (by decide), if_neg (by decide), if_pos rfl, num_k (by decide), bd1_s, k8, if_neg (nI_nlt (by omega) (by omega)), bd4_s, cz_0]
  exact ⟨_, _, _, _, _, _, _, _, _, _, _, _, _, rfl⟩
theorem acc117n {b : BT} {words heard can ins trad tak jM jP : Nat → Int32} {jT uT need spk gd : Int32} (h : clB b words heard can ins trad tak jM jP jT uT need spk gd) {wd bt : Int32} {nb : Nat → Int32} (hU : ¬ bU b < 6) (ok : okB b) : ∃ sp' gd' w' h' c' i' t' k' jT' uT' nd' jM' jP', D_X0_accepts spk gd words heard can ins trad tak jT uT need jM jP (nI 117) wd bt nb = some (nI 0, sp', gd', w', h', c', i', t', k', jT', uT', nd', jM', jP') := by
  obtain ⟨k1, k2, k3, k4, k5, k6, k7, k8, k9, k10, k11, k12⟩ := h
  have := ok.2.2.2.2.2.2.2.2.1
  unfold D_X0_accepts D_X2_letter D_X4_tellNeed D_X2_bits
  rw [num_k (by decide), bd1_s, num_k (by decide), bd1_s, bd1_s, if_neg (by decide), if_neg (by decide), if_neg (by decide), if_neg (by decide), if_neg (by decide), if_neg (by decide), if_neg (by decide), if_neg (by decide), if_pos rfl, bd1_s, k9, if_neg (nI_nlt (by omega) (by omega)), bd3_s, cz_0]
  exact ⟨_, _, _, _, _, _, _, _, _, _, _, _, _, rfl⟩
theorem cl_step {F : Nat} (hF : 600 ≤ F) {S : Nat → Nat} (hb : sB S) {len : Int32} {bys : Nat → Int32} (hA : cA S len bys) {p : Nat} (hp : p < 500) {b : BT} {words heard can ins trad tak jM jP : Nat → Int32} {jT uT need spk gd : Int32} (h : clB b words heard can ins trad tak jM jP jT uT need spk gd) (ok : okB b) (v1 v2 wd0 bt0 : Int32) (nb0 : Nat → Int32) :
    (step S b p = none ∧ ∃ pl le wd bt nb, D_X2_readAt F (nI p) v1 v2 wd0 bt0 len bys nb0 = some (nI 0, pl, le, wd, bt, nb)) ∨ ∃ pl le wd bt nb, D_X2_readAt F (nI p) v1 v2 wd0 bt0 len bys nb0 = some (nI 1, pl, le, wd, bt, nb) ∧ cS (step S b p) pl (D_X0_accepts spk gd words heard can ins trad tak jT uT need jM jP le wd bt nb) := by
  have hq : p + 1 ≤ 500 := by omega
  by_cases c101 : S p = 101
  · have rd := rt101 hF hb hA hq wd0 bt0 nb0
    rw [← c101] at rd
    rw [st101 c101]
    rcases readAt_of hb hA hp (fun z => by have := nx_le hb z.2.1; exact wl_le hb 6 _ this) v1 v2 rd with ⟨n, pl, wd', bt', nb', x⟩ | ⟨y, x⟩
    · exact Or.inl ⟨if_neg n, _, _, _, _, _, x⟩
    · rw [c101] at x
      refine Or.inr ⟨_, _, _, _, _, x, ?_⟩
      rw [if_pos y]
      obtain ⟨a1, a2, a3, a4, a5, a6, a7, a8, a9, a10, a11, a12, a13, e, k⟩ := acc101 h (wd := (nI (enc (wl S (nx S (nx S (p + 1))) 6)))) (bt := bt0) (nb := upd (upd nb0 0 (nI (nuV S (p + 1)))) 1 (nI (nuV S (nx S (p + 1))))) (v1 := (nuV S (p + 1))) (v2 := (nuV S (nx S (p + 1)))) (w := wl S (nx S (nx S (p + 1))) 6) (by rw [pk_un (by decide), pk_us]) pk_us y.1.1.1.2.2 y.1.1.2.2.2.2 rfl
      exact Or.inr ⟨_, _, a1, a2, a3, a4, a5, a6, a7, a8, a9, a10, a11, a12, a13, rfl, rfl, e, k⟩
  by_cases c103 : S p = 103
  · have rd := rt103 (F := F) hb hA hq wd0 bt0 nb0
    rw [← c103] at rd
    rw [st103 c103]
    rcases readAt_of hb hA hp (fun _ => (nuP_le hb hq).2) v1 v2 rd with ⟨n, pl, wd', bt', nb', x⟩ | ⟨y, x⟩
    · exact Or.inl ⟨if_neg n, _, _, _, _, _, x⟩
    · rw [c103] at x
      refine Or.inr ⟨_, _, _, _, _, x, ?_⟩
      rw [if_pos y]
      obtain ⟨a1, a2, a3, a4, a5, a6, a7, a8, a9, a10, a11, a12, a13, e, k⟩ := acc103 h (wd := wd0) (bt := bt0) (nb := upd nb0 0 (nI (nuV S (p + 1)))) (v1 := (nuV S (p + 1))) pk_us
      exact Or.inr ⟨_, _, a1, a2, a3, a4, a5, a6, a7, a8, a9, a10, a11, a12, a13, rfl, rfl, e, k⟩
  by_cases c106 : S p = 106
  · have rd := rt106 (F := F) hb hA hq wd0 bt0 nb0
    rw [← c106] at rd
    rw [st106 c106]
    rcases readAt_of hb hA hp (fun z => (nuP_le hb (nx_le hb z.2.1)).2) v1 v2 rd with ⟨n, pl, wd', bt', nb', x⟩ | ⟨y, x⟩
    · exact Or.inl ⟨if_neg (fun z => n z.2), _, _, _, _, _, x⟩
    · rw [c106] at x
      refine Or.inr ⟨_, _, _, _, _, x, ?_⟩
      by_cases hJ : bJ b < 8
      · rw [if_pos ⟨hJ, y⟩]
        obtain ⟨a1, a2, a3, a4, a5, a6, a7, a8, a9, a10, a11, a12, a13, e, k⟩ := acc106 h (v1 := (nuV S (p + 1))) (v2 := (nuV S (nx S (p + 1)))) (v3 := nuV S (nx S (nx S (p + 1)))) (wd := wd0) (bt := bt0) (nb := upd (upd (upd nb0 0 (nI (nuV S (p + 1)))) 1 (nI (nuV S (nx S (p + 1))))) 2 (nI (nuV S (nx S (nx S (p + 1)))))) (by rw [pk_un (by decide), pk_un (by decide), pk_us]) (by rw [pk_un (by decide), pk_us]) pk_us y.1.1.1.2.2 y.1.1.2.2.2.2 y.1.2.2.1.2.2 hJ
        exact Or.inr ⟨_, _, a1, a2, a3, a4, a5, a6, a7, a8, a9, a10, a11, a12, a13, rfl, rfl, e, k⟩
      · rw [if_neg (fun z => hJ z.1)]
        exact Or.inl ⟨rfl, acc106n h hJ ok⟩
  by_cases c107 : S p = 107
  · have rd := rt107 (F := F) hb hA hq wd0 bt0 nb0
    rw [← c107] at rd
    rw [st107 c107]
    rcases readAt_of hb hA hp (fun z => (nuP_le hb (nx_le hb z.2.1)).2) v1 v2 rd with ⟨n, pl, wd', bt', nb', x⟩ | ⟨y, x⟩
    · exact Or.inl ⟨if_neg n, _, _, _, _, _, x⟩
    · rw [c107] at x
      refine Or.inr ⟨_, _, _, _, _, x, ?_⟩
      rw [if_pos y]
      obtain ⟨a1, a2, a3, a4, a5, a6, a7, a8, a9, a10, a11, a12, a13, e, k⟩ := acc107 h (wd := wd0) (bt := bt0) (nb := upd (upd nb0 0 (nI (nuV S (p + 1)))) 1 (nI (nuV S (nx S (p + 1))))) (v1 := (nuV S (p + 1))) (v2 := (nuV S (nx S (p + 1)))) (by rw [pk_un (by decide), pk_us]) pk_us
      exact Or.inr ⟨_, _, a1, a2, a3, a4, a5, a6, a7, a8, a9, a10, a11, a12, a13, rfl, rfl, e, k⟩
  by_cases c110 : S p = 110
  · have rd := rt110 (F := F) hb hA hq wd0 bt0 nb0
    rw [← c110] at rd
    rw [st110 c110]
    rcases readAt_of hb hA hp (fun z => (nuP_le hb (nx_le hb z.2.1)).2) v1 v2 rd with ⟨n, pl, wd', bt', nb', x⟩ | ⟨y, x⟩
    · exact Or.inl ⟨if_neg n, _, _, _, _, _, x⟩
    · rw [c110] at x
      refine Or.inr ⟨_, _, _, _, _, x, ?_⟩
      rw [if_pos y]
      obtain ⟨a1, a2, a3, a4, a5, a6, a7, a8, a9, a10, a11, a12, a13, e, k⟩ := acc110 h (wd := wd0) (bt := bt0) (nb := upd (upd nb0 0 (nI (nuV S (p + 1)))) 1 (nI (nuV S (nx S (p + 1))))) (v1 := (nuV S (p + 1))) (v2 := (nuV S (nx S (p + 1)))) (by rw [pk_un (by decide), pk_us]) pk_us
      exact Or.inr ⟨_, _, a1, a2, a3, a4, a5, a6, a7, a8, a9, a10, a11, a12, a13, rfl, rfl, e, k⟩
  by_cases c111 : S p = 111
  · have rd := rt111 (F := F) hb hA hq wd0 bt0 nb0
    rw [← c111] at rd
    rw [st111 c111]
    rcases readAt_of hb hA hp (fun _ => (nuP_le hb hq).2) v1 v2 rd with ⟨n, pl, wd', bt', nb', x⟩ | ⟨y, x⟩
    · exact Or.inl ⟨if_neg n, _, _, _, _, _, x⟩
    · rw [c111] at x
      refine Or.inr ⟨_, _, _, _, _, x, ?_⟩
      rw [if_pos y]
      obtain ⟨a1, a2, a3, a4, a5, a6, a7, a8, a9, a10, a11, a12, a13, e, k⟩ := acc111 h (wd := wd0) (bt := bt0) (nb := upd nb0 0 (nI (nuV S (p + 1)))) (v1 := (nuV S (p + 1))) pk_us
      exact Or.inr ⟨_, _, a1, a2, a3, a4, a5, a6, a7, a8, a9, a10, a11, a12, a13, rfl, rfl, e, k⟩
  by_cases c114 : S p = 114
  · have rd := rt114 hF hb hA hq wd0 bt0 nb0
    rw [← c114] at rd
    rw [st114 c114]
    rcases readAt_of hb hA hp (fun _ => wl_le hb 6 _ hq) v1 v2 rd with ⟨n, pl, wd', bt', nb', x⟩ | ⟨y, x⟩
    · exact Or.inl ⟨if_neg n, _, _, _, _, _, x⟩
    · rw [c114] at x
      refine Or.inr ⟨_, _, _, _, _, x, ?_⟩
      rw [if_pos y]
      obtain ⟨a1, a2, a3, a4, a5, a6, a7, a8, a9, a10, a11, a12, a13, e, k⟩ := acc114 h (wd := nI (enc (wl S (p + 1) 6))) (bt := bt0) (nb := nb0) (w := wl S (p + 1) 6) rfl (okw_wl S (p + 1)) y.1.1
      exact Or.inr ⟨_, _, a1, a2, a3, a4, a5, a6, a7, a8, a9, a10, a11, a12, a13, rfl, rfl, e, k⟩
  by_cases c115 : S p = 115
  · have rd := rt115 hF hb hA hq wd0 bt0 nb0
    rw [← c115] at rd
    rw [st115 c115]
    rcases readAt_of hb hA hp (fun z => (rs_lt hb (by decide) 16 _ 0 0 (by decide) (nx_le hb z.2.1)).2) v1 v2 rd with ⟨n, pl, wd', bt', nb', x⟩ | ⟨y, x⟩
    · exact Or.inl ⟨if_neg n, _, _, _, _, _, x⟩
    · rw [c115] at x
      refine Or.inr ⟨_, _, _, _, _, x, ?_⟩
      rw [if_pos y]
      obtain ⟨a1, a2, a3, a4, a5, a6, a7, a8, a9, a10, a11, a12, a13, e, k⟩ := acc115 h (wd := wd0) (bt := nI (rs S 97 16 16 (nx S (p + 1)) 0 0).1) (nb := upd nb0 0 (nI (nuV S (p + 1)))) (v1 := (nuV S (p + 1))) (s := (rs S 97 16 16 (nx S (p + 1)) 0 0).1) pk_us y.1.1.2.2 rfl
      exact Or.inr ⟨_, _, a1, a2, a3, a4, a5, a6, a7, a8, a9, a10, a11, a12, a13, rfl, rfl, e, k⟩
  by_cases c117 : S p = 117
  · have rd := rt117 hF hb hA hq wd0 bt0 nb0
    rw [← c117] at rd
    rw [st117 c117]
    rcases readAt_of hb hA hp (fun _ => (rs_lt hb (by decide) 8 _ 0 0 (by decide) hq).2) v1 v2 rd with ⟨n, pl, wd', bt', nb', x⟩ | ⟨y, x⟩
    · exact Or.inl ⟨if_neg (fun z => n z.2), _, _, _, _, _, x⟩
    · rw [c117] at x
      refine Or.inr ⟨_, _, _, _, _, x, ?_⟩
      by_cases hU : bU b < 6
      · rw [if_pos ⟨hU, y⟩]
        obtain ⟨a1, a2, a3, a4, a5, a6, a7, a8, a9, a10, a11, a12, a13, e, k⟩ := acc117 h (wd := wd0) (bt := nI (rs S 48 8 8 (p + 1) 0 0).1) (nb := nb0) (s := (rs S 48 8 8 (p + 1) 0 0).1) rfl hU
        exact Or.inr ⟨_, _, a1, a2, a3, a4, a5, a6, a7, a8, a9, a10, a11, a12, a13, rfl, rfl, e, k⟩
      · rw [if_neg (fun z => hU z.1)]
        exact Or.inl ⟨rfl, acc117n h hU ok⟩
  by_cases c119 : S p = 119
  · have rd := rt119 hF hb hA hq wd0 bt0 nb0
    rw [← c119] at rd
    rw [st119 c119]
    rcases readAt_of hb hA hp (fun z => by have := nx_le hb z.2.1; exact wl_le hb 6 _ this) v1 v2 rd with ⟨n, pl, wd', bt', nb', x⟩ | ⟨y, x⟩
    · exact Or.inl ⟨if_neg n, _, _, _, _, _, x⟩
    · rw [c119] at x
      refine Or.inr ⟨_, _, _, _, _, x, ?_⟩
      rw [if_pos y]
      obtain ⟨a1, a2, a3, a4, a5, a6, a7, a8, a9, a10, a11, a12, a13, e, k⟩ := acc119 h (wd := (nI (enc (wl S (nx S (nx S (p + 1))) 6)))) (bt := bt0) (nb := upd (upd nb0 0 (nI (nuV S (p + 1)))) 1 (nI (nuV S (nx S (p + 1))))) (v1 := (nuV S (p + 1))) (v2 := (nuV S (nx S (p + 1)))) (w := wl S (nx S (nx S (p + 1))) 6) (by rw [pk_un (by decide), pk_us]) pk_us y.1.1.1.2.2 y.1.1.2.2.2.2 rfl
      exact Or.inr ⟨_, _, a1, a2, a3, a4, a5, a6, a7, a8, a9, a10, a11, a12, a13, rfl, rfl, e, k⟩
  have hn : S p ≠ 101 ∧ S p ≠ 103 ∧ S p ≠ 106 ∧ S p ≠ 107 ∧ S p ≠ 110 ∧ S p ≠ 111 ∧ S p ≠ 114 ∧ S p ≠ 115 ∧ S p ≠ 117 ∧ S p ≠ 119 := ⟨c101, c103, c106, c107, c110, c111, c114, c115, c117, c119⟩
  refine Or.inl ⟨stno hn, ?_⟩
  unfold D_X2_readAt
  rw [hA p (by omega), bd1_s, nI_add, nm_s, rtno (hb.1 p) hn, bd5_s, if_n0]
  exact ⟨_, _, _, _, _, rfl⟩
