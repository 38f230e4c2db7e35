/-! PURE: what becomes of a sound, of a word, in a mouth -/
abbrev bt (s c : Nat) : Prop := s / 2 ^ c % 2 = 1
/-- what becomes of a sound: cs the sounds that can be said (bits), rp what is said instead -/
def sd (cs : Nat) (rp : Nat → Option Nat) (c : Nat) : Option Nat := if bt cs c then some c else match rp c with
  | none => none
  | some y => if bt cs y then some y else none
def ec : Option Nat → Int32
  | none => (-4 : Int32)
  | some y => nI y
def em : Option Nat → Int32
  | none => (-1 : Int32)
  | some y => nI y
def rpOk (rp : Nat → Option Nat) : Prop := ∀ c, c < 16 → ∀ y, rp c = some y → y < 16
theorem bit_n {s c : Nat} (hs : s < 2 ^ 31) (hc : c < 32) : (nI s >>> (nI c &&& 31)) &&& nI 1 = nI (s / 2 ^ c % 2) := by
  rw [shr_n hs hc, show nI 1 = nI (2 ^ 1 - 1) from rfl, fa_mask]
theorem bit_0 {s c : Nat} (hs : s < 2 ^ 31) (hc : c < 32) : (nI s >>> (nI c &&& 31)) &&& nI 1 = 0 ↔ ¬ bt s c := by
  rw [bit_n hs hc, zl0, nI_eq (by omega) (by decide)]; unfold bt; omega
theorem ne_m4 {n : Nat} (h : n < 2 ^ 31) : ¬ nI n = (-4 : Int32) := by
  rw [fa_eq, nI_toInt h]; have : (-4 : Int32).toInt = -4 := by decide
  omega
theorem ne_m1 {n : Nat} (h : n < 2 ^ 31) : ¬ nI n = (-1 : Int32) := by
  rw [fa_eq, nI_toInt h]; have : (-1 : Int32).toInt = -1 := by decide
  omega
theorem nlt0 {n : Nat} (h : n < 2 ^ 31) : ¬ nI n < 0 := nI_pos h
theorem m1_lt0 : (-1 : Int32) < 0 := by decide
theorem sd_lt {cs : Nat} {rp : Nat → Option Nat} (hr : rpOk rp) {c : Nat} (hc : c < 16) {y : Nat} (h : sd cs rp c = some y) : y < 16 := by
  unfold sd at h
  by_cases q : bt cs c
  · rw [if_pos q] at h; cases h; exact hc
  · rw [if_neg q] at h
    cases hz : rp c with
    | none => rw [hz] at h; cases h
    | some z =>
      rw [hz] at h
      dsimp only at h
      by_cases q2 : bt cs z
      · rw [if_pos q2] at h; cases h; exact hr c hc _ hz
      · rw [if_neg q2] at h; cases h
theorem soundSaidBy_of {cs : Nat → Nat} {rp : Nat → Option Nat} {can ins : Nat → Int32} (hcs : ∀ p, p < 2 → cs p < 65536) (hcan : ∀ p, p < 2 → can p = nI (cs p)) (hr : rpOk rp) (hins : ∀ c, c < 16 → ins c = ec (rp c)) {p c : Nat} (hp : p < 2) (hc : c < 16) : D_X0_soundSaidBy (nI p) (nI c) can ins = some (ec (sd (cs p) rp c)) := by
  unfold D_X0_soundSaidBy
  have h1 := hcs p hp
  rw [row_at hp (by decide), bd1_s, hcan p hp]
  by_cases q : bt (cs p) c
  · rw [if_neg (fun z => (bit_0 (by omega) (by omega)).mp z q)]
    rw [show sd (cs p) rp c = some c from if_pos q]; rfl
  · rw [if_pos ((bit_0 (by omega) (by omega)).mpr q), row_at hc (by decide), bd1_s, hins c hc]
    rw [show sd (cs p) rp c = (match rp c with
      | none => none
      | some y => if bt (cs p) y then some y else none) from if_neg q]
    cases hz : rp c with
    | none => exact if_pos rfl
    | some z =>
      have hz2 := hr c hc z hz
      show (if nI z = (-4 : Int32) then _ else _) = _
      rw [if_neg (ne_m4 (by omega)), show ec (some z) = nI z from rfl]
      dsimp only
      by_cases q2 : bt (cs p) z
      · rw [if_neg (fun w => (bit_0 (by omega) (by omega)).mp w q2), if_pos q2]; rfl
      · rw [if_pos ((bit_0 (by omega) (by omega)).mpr q2), if_neg q2]; rfl
theorem has_of {s c : Nat} (hs : s < 2 ^ 31) (hc : c < 32) : D_X10_has (nI s) (nI c) = some (zb (bt s c)) := by
  unfold D_X10_has
  rw [bit_n hs hc]
  by_cases q : bt s c
  · rw [zb_t q]
    have : s / 2 ^ c % 2 = 1 := q
    rw [this]
    first | exact if_pos rfl | exact if_neg (fun h => h rfl)
  · rw [zb_f q]
    have : s / 2 ^ c % 2 = 0 := by unfold bt at q; omega
    rw [this]
    first | exact if_neg (by decide) | exact if_pos (by decide)
theorem said_of {cs : Nat → Nat} {rp : Nat → Option Nat} {l : Nat → Int32} (hcs : ∀ p, p < 2 → cs p < 65536) (hcan : ∀ p, p < 2 → l (280 + p) = nI (cs p)) (hr : rpOk rp) (hins : ∀ c, c < 16 → l (282 + c) = em (rp c)) {p c : Nat} (hp : p < 2) (hc : c < 16) : D_X10_said (nI p) (nI c) l = some (em (sd (cs p) rp c)) := by
  unfold D_X10_said
  have h1 := hcs p hp
  rw [nI_add, nI_add, ck_n (by omega) (by decide), nm_s, nI_clamp (by omega), nI_clamp (by omega), hins c hc, ck_n (by omega) (by decide), hcan p hp, has_of (by omega) (by omega), bd1_s, zb_if]
  by_cases q : bt (cs p) c
  · rw [if_pos q, show sd (cs p) rp c = some c from if_pos q]; rfl
  · rw [if_neg q]
    rw [show sd (cs p) rp c = (match rp c with
      | none => none
      | some y => if bt (cs p) y then some y else none) from if_neg q]
    cases hz : rp c with
    | none => exact if_pos m1_lt0
    | some z =>
      have hz2 := hr c hc z hz
      show (if nI z < 0 then _ else _) = _
      rw [if_neg (nlt0 (by omega)), ck_n (by omega) (by decide)]
      show bd1 (D_X10_has (nI (cs p)) (nI z)) _ = _
      rw [has_of (by omega) (by omega), bd1_s, zb_if]
      dsimp only
      by_cases q2 : bt (cs p) z
      · rw [if_pos q2, if_pos q2] <;> rfl
      · rw [if_neg q2, if_neg q2] <;> rfl
theorem take_one {w : List Nat} {k : Nat} (h : k < w.length) : w.take (k + 1) = w.take k ++ [w.getD k 0] := by
  rw [List.take_succ_eq_append_getElem h]
  congr 2
  simp [List.getD_eq_getElem?_getD, h]
theorem getD_mem {w : List Nat} {k : Nat} (h : k < w.length) : w.getD k 0 ∈ w := by
  rw [List.getD_eq_getElem?_getD, List.getElem?_eq_getElem h]; exact List.getElem_mem h
theorem okw_fm {w : List Nat} (h : okw w) {P : Nat → Option Nat} (hP : ∀ c, c < 16 → ∀ y, P c = some y → y < 16) (k : Nat) : okw ((w.take k).filterMap P) := by
  refine ⟨Nat.le_trans (List.length_filterMap_le _ _) (by rw [List.length_take]; have := h.1; omega), fun y hy => ?_⟩
  · obtain ⟨c, hc, hcy⟩ := List.mem_filterMap.mp hy
    exact hP c (h.2 c (List.mem_of_mem_take hc)) y hcy
theorem fm_succ {w : List Nat} {P : Nat → Option Nat} {k : Nat} (h : k < w.length) : (w.take (k + 1)).filterMap P = (w.take k).filterMap P ++ (match P (w.getD k 0) with
    | none => []
    | some y => [y]) := by
  rw [take_one h, List.filterMap_append]
  congr 1
  cases hz : P (w.getD k 0) with
  | none => simp only [List.filterMap_cons, hz, List.filterMap_nil]
  | some y => simp only [List.filterMap_cons, hz, List.filterMap_nil]
theorem fm_len {w : List Nat} {P : Nat → Option Nat} {k : Nat} (hk : k ≤ w.length) : ((w.take k).filterMap P).length ≤ k := Nat.le_trans (List.length_filterMap_le _ _) (by rw [List.length_take]; omega)
theorem nI_leN {a b : Nat} (ha : a < 2 ^ 31) (hb : b < 2 ^ 31) (h : b < a) : ¬ nI a ≤ nI b := by rw [nI_leI ha hb]; omega
theorem saidBy_of {F : Nat} (hF : 600 ≤ F) {cs : Nat → Nat} {rp : Nat → Option Nat} {can ins : Nat → Int32} (hcs : ∀ p, p < 2 → cs p < 65536) (hcan : ∀ p, p < 2 → can p = nI (cs p)) (hr : rpOk rp) (hins : ∀ c, c < 16 → ins c = ec (rp c)) {p : Nat} (hp : p < 2) {w : List Nat} (hw : okw w) : D_X0_saidBy F (nI p) (nI (enc w)) can ins = some (nI (enc (w.filterMap (sd (cs p) rp)))) := by
  unfold D_X0_saidBy
  have hw1 := hw.1
  have hP : ∀ c, c < 16 → ∀ y, sd (cs p) rp c = some y → y < 16 := fun c hc y h => sd_lt hr hc h
  obtain ⟨r, hr1, hr2⟩ := lpg_ind (bot := fun _ _ => none) (body := b_X0_saidBy_5 (nI p) (nI (enc w)) can ins) (fun f (s : Int32 × Int32) => f s.1 s.2)
    (fun d s => ∃ k, k + d = w.length ∧ s = (nI (enc ((w.take k).filterMap (sd (cs p) rp))), nI k)) (fun r => r = nI (enc (w.filterMap (sd (cs p) rp))))
    (by
      rintro rec d s ⟨k, hk, rfl⟩
      dsimp only
      rw [b_X0_saidBy_5, length_enc hw, bd1_s]
      by_cases hd : d = 0
      · left
        refine ⟨_, rfl, ?_⟩
        rw [if_pos (nI_le (by omega) (by omega)), show k = w.length by omega, List.take_length]
      · right
        have hkl : k < w.length := by omega
        have hg := hw.2 _ (getD_mem hkl)
        rw [if_neg (nI_leN (by omega) (by omega) hkl), soundAt_enc hw (by omega), bd1_s, soundSaidBy_of hcs hcan hr hins hp hg, bd1_s]
        refine ⟨d - 1, (nI (enc ((w.take (k + 1)).filterMap (sd (cs p) rp))), nI (k + 1)), by omega, ⟨k + 1, by omega, rfl⟩, ?_⟩
        rw [fm_succ hkl]
        cases hz : sd (cs p) rp (w.getD k 0) with
        | none =>
          rw [show ec none = (-4 : Int32) from rfl, if_pos rfl, nm_s, nI_add]
          simp only [List.append_nil]
        | some y =>
          have hl := fm_len (P := sd (cs p) rp) (Nat.le_of_lt hkl)
          rw [show ec (some y) = nI y from rfl, if_neg (ne_m4 (by have := hP _ hg y hz; omega)), with_enc (okw_fm hw hP k) (by omega) (hP _ hg y hz), bd1_s, nm_s, nI_add])
    w.length F (nI 0, nI 0) (by omega) ⟨0, by omega, rfl⟩
  dsimp only at hr2
  rw [hr2, bd1_s, hr1]
theorem getD_app_lt {u v : List Nat} {j : Nat} (h : j < u.length) : (u ++ v).getD j 0 = u.getD j 0 := by
  simp only [List.getD_eq_getElem?_getD, List.getElem?_append_left h]
theorem getD_app_eq {u : List Nat} {c : Nat} : (u ++ [c]).getD u.length 0 = c := by
  simp only [List.getD_eq_getElem?_getD, List.getElem?_append_right (Nat.le_refl _), Nat.sub_self]; rfl
theorem m1_nle : ¬ (0 : Int32) ≤ (-1 : Int32) := by decide
theorem n0_le {n : Nat} (h : n < 2 ^ 31) : (0 : Int32) ≤ nI n := nI_pos' h
/-- the step of say behind a sound: what it becomes, P c -/
theorem say_loop {F : Nat} (hF : 600 ≤ F) {l a : Nat → Int32} {pos : Nat} {w : List Nat} (hl : isW l pos w) (hpos : pos + 7 ≤ 336) {q : Int32} {P : Nat → Option Nat} (hP : ∀ c, c < 16 → ∀ y, P c = some y → y < 16)
    (hq : ∀ c, c < 16 → ∀ (k : Int32 → Option (Int32 × (Nat → Int32))), (if 0 ≤ q then bd1 (D_X10_said q (nI c) l) k else k (nI c)) = k (em (P c))) :
    ∃ out, D_X10_say F 7 (nI pos) q l a = some out ∧ isW out 0 (w.filterMap P) := by
  unfold D_X10_say
  obtain ⟨hw, hl0, hlk⟩ := hl
  have hw1 := hw.1
  obtain ⟨⟨on, oa⟩, hr1, hr2⟩ := lpg_ind (bot := fun _ _ _ => none) (body := b_X10_say_6 (nI pos) q l 7) (fun f (s : Int32 × Int32 × (Nat → Int32)) => f s.1 s.2.1 s.2.2)
    (fun d s => ∃ k y, k + d = w.length ∧ s = (nI ((w.take k).filterMap P).length, nI k, y) ∧ ∀ j, j < ((w.take k).filterMap P).length → y (1 + j) = nI (((w.take k).filterMap P).getD j 0))
    (fun r => r.1 = nI (w.filterMap P).length ∧ ∀ j, j < (w.filterMap P).length → r.2 (1 + j) = nI ((w.filterMap P).getD j 0))
    (by
      rintro rec d s ⟨k, y, hk, rfl, hy⟩
      dsimp only
      rw [b_X10_say_6, ck_n (by omega) (by decide), nI_clamp (by omega), hl0]
      by_cases hd : d = 0
      · left
        have e : k = w.length := by omega
        subst e
        rw [List.take_length] at hy ⊢
        exact ⟨(nI (w.filterMap P).length, y), ⟨rfl, hy⟩, if_pos (nI_le (by omega) (by omega))⟩
      · right
        have hkl : k < w.length := by omega
        have hg := hw.2 _ (getD_mem hkl)
        have hln := fm_len (P := P) (Nat.le_of_lt hkl)
        rw [if_neg (nI_leN (by omega) (by omega) hkl), nI_add, nI_add, ck_n (by omega) (by decide), nm_s, nI_clamp (by omega), hlk k hkl]
        rw [hq _ hg]
        cases hz : P (w.getD k 0) with
        | none =>
          refine ⟨d - 1, (_, nI (k + 1), y), by omega, ⟨k + 1, y, by omega, rfl, ?_⟩, ?_⟩
          · rw [fm_succ hkl, hz]; simp only [List.append_nil]; exact hy
          · rw [j_X10_say_46, show em none = (-1 : Int32) from rfl, if_pos m1_lt0, nm_s, nI_add, fm_succ hkl, hz]
            simp only [List.append_nil]
        | some z =>
          have hz2 := hP _ hg z hz
          refine ⟨d - 1, (_, nI (k + 1), upd y (1 + ((w.take k).filterMap P).length) (nI z)), by omega, ⟨k + 1, _, by omega, rfl, ?_⟩, ?_⟩
          · rw [fm_succ hkl, hz]
            intro j hj
            simp only [List.length_append, List.length_cons, List.length_nil] at hj
            by_cases e : j = ((w.take k).filterMap P).length
            · rw [e, pk_us, getD_app_eq]
            · rw [pk_un (by omega), getD_app_lt (by omega)]; exact hy j (by omega)
          · rw [j_X10_say_46, show em (some z) = nI z from rfl, if_neg (nlt0 (by omega)), nI_add, ck_n (by omega) (by decide), nm_s, nm_s, nI_add, nI_add, nI_clamp (by omega), fm_succ hkl, hz]
            simp only [List.length_append, List.length_cons, List.length_nil])
    w.length F (nI 0, nI 0, a) (by omega) ⟨0, a, by omega, rfl, fun j hj => by simp at hj⟩
  dsimp only at hr1 hr2
  rw [hr2, bd2_s, ck_n (by decide) (by decide)]
  have hok := okw_fm hw hP w.length
  rw [List.take_length] at hok
  refine ⟨_, rfl, hok, ?_, ?_⟩
  · rw [nI_clamp (by decide), pk_us, hr1.1]
  · intro j hj
    rw [nI_clamp (by decide), pk_un (by omega), show 0 + 1 + j = 1 + j by omega]; exact hr1.2 j hj
theorem say_plain {F : Nat} (hF : 600 ≤ F) {l : Nat → Int32} (a : Nat → Int32) {pos : Nat} {w : List Nat} (hl : isW l pos w) (hpos : pos + 7 ≤ 336) : ∃ out, D_X10_say F 7 (nI pos) (-1 : Int32) l a = some out ∧ isW out 0 w := by
  have h := say_loop (a := a) (q := (-1 : Int32)) (P := some) hF hl hpos (fun c hc y h => by cases h; exact hc) (fun c hc k => by rw [if_neg m1_nle]; rfl)
  rw [List.filterMap_some] at h
  exact h
theorem say_said {F : Nat} (hF : 600 ≤ F) {cs : Nat → Nat} {rp : Nat → Option Nat} {l : Nat → Int32} (a : Nat → Int32) (hcs : ∀ p, p < 2 → cs p < 65536) (hcan : ∀ p, p < 2 → l (280 + p) = nI (cs p)) (hr : rpOk rp) (hins : ∀ c, c < 16 → l (282 + c) = em (rp c)) {p : Nat} (hp : p < 2) {pos : Nat} {w : List Nat} (hl : isW l pos w) (hpos : pos + 7 ≤ 336) : ∃ out, D_X10_say F 7 (nI pos) (nI p) l a = some out ∧ isW out 0 (w.filterMap (sd (cs p) rp)) :=
  say_loop (a := a) (q := nI p) (P := sd (cs p) rp) hF hl hpos (fun c hc y h => sd_lt hr hc h) (fun c hc k => by rw [if_pos (n0_le (by omega)), said_of hcs hcan hr hins hp hc, bd1_s])
