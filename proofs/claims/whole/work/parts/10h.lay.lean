/-! PURE: the whole text; fault and lay -/
theorem lp_fill {N off : Nat} {g : Nat → Int32} {bot : Int32 → (Nat → Int32) → Option (Nat → Int32)} {bd : (Int32 → (Nat → Int32) → Option (Nat → Int32)) → Int32 → (Nat → Int32) → Option (Nat → Int32)}
    (hx : ∀ rec a, bd rec (nI N) a = some a) (hs : ∀ rec i a, i < N → bd rec (nI i) a = rec (nI (i + 1)) (upd a (off + i) (g i))) :
    ∀ (d i G : Nat) (a : Nat → Int32), i + d = N → d < G → ∃ a', lpg bot bd G (nI i) a = some a' ∧ (∀ j, i ≤ j → j < N → a' (off + j) = g j) ∧ ∀ k, (k < off + i ∨ off + N ≤ k) → a' k = a k := by
  intro d
  induction d with
  | zero =>
    intro i G a hi hG
    obtain ⟨G, rfl⟩ : ∃ H, G = H + 1 := ⟨G - 1, by omega⟩
    rw [lpg_succ, show i = N by omega, hx]
    exact ⟨a, rfl, fun j h1 h2 => by omega, fun _ _ => rfl⟩
  | succ d ih =>
    intro i G a hi hG
    obtain ⟨G, rfl⟩ : ∃ H, G = H + 1 := ⟨G - 1, by omega⟩
    rw [lpg_succ, hs _ _ _ (by omega)]
    obtain ⟨a', e, h1, h2⟩ := ih (i + 1) G (upd a (off + i) (g i)) (by omega) (by omega)
    refine ⟨a', e, fun j hj1 hj2 => ?_, fun k hk => ?_⟩
    · by_cases z : j = i
      · rw [z, h2 _ (by omega), pk_us]
      · exact h1 j (by omega) hj2
    · rw [h2 k (by omega), pk_un (by omega)]
theorem fill_of {F : Nat} {n : Nat} (hn : n < F) (hn2 : n < 2 ^ 31) (v : Int32) (a : Nat → Int32) : ∃ a', D_J7_fill_53178 F n v a = some a' ∧ ∀ k, k < n → a' k = v := by
  unfold D_J7_fill_53178
  rw [nm_s]
  obtain ⟨a', e, h1, _⟩ := lp_fill (N := n) (off := 0) (g := fun _ => v) (bot := fun _ _ => none) (bd := b_J7_fill_53178_5 v n (nI n)) (fun rec a => by rw [b_J7_fill_53178_5, if_pos (nI_le (Nat.le_refl _) hn2)]) (fun rec i a hi => by
    rw [b_J7_fill_53178_5, if_neg (nI_leN hn2 (by omega) hi), ck_n hi hn2, nI_add, nm_s, nI_clamp (by omega), Nat.zero_add]) n 0 F a (by omega) hn
  rw [e, bd1_s]
  exact ⟨a', rfl, fun k hk => by have := h1 k (by omega) hk; rw [Nat.zero_add] at this; exact this⟩
/-- what nothing told means -/
def b0 : BT := (fun _ => [], fun _ => 65535, fun _ => none, fun _ => 4, fun _ => 5, (5, 70), (0, fun _ => 0, fun _ => 0, fun _ => 0), (0, fun _ => 0))
theorem okB0 : okB b0 := by
  refine ⟨fun i _ => ⟨Nat.zero_le _, fun c h => by cases h⟩, fun p _ => by show 65535 < 65536; decide, (fun c _ y h => absurd h (by show ¬ (none : Option Nat) = some y; exact nofun)), fun p _ => by show 1 ≤ 4 ∧ 4 ≤ 8; decide, fun p _ => by show 5 ≤ 10; decide, by show 5 ≤ 10; decide, by show 1 ≤ 70 ∧ 70 ≤ 99; decide, ⟨by show 0 ≤ 8; decide, fun k h => absurd h (Nat.not_lt_zero k)⟩, ⟨by show 0 ≤ 6; decide, fun k h => absurd h (Nat.not_lt_zero k)⟩⟩
theorem clear_of {F : Nat} (hF : 600 ≤ F) (sp gd jT uT nd : Int32) (w h c i t k : Nat → Int32) : ∃ sp' gd' w' h' c' i' t' k' jT' uT' nd', D_X0_clear F sp gd w h c i t k jT uT nd = some (sp', gd', w', h', c', i', t', k', jT', uT', nd') ∧ ∀ jM jP, clB b0 w' h' c' i' t' k' jM jP jT' uT' nd' sp' gd' := by
  unfold D_X0_clear D_X4_clear
  obtain ⟨w', e1, f1⟩ := fill_of (F := F) (n := 16) (by omega) (by decide) (nI 0) w
  obtain ⟨h', e2, f2⟩ := fill_of (F := F) (n := 24) (by omega) (by decide) (nI 0) h
  obtain ⟨c', e3, f3⟩ := fill_of (F := F) (n := 2) (by omega) (by decide) (nI 65535) c
  obtain ⟨i', e4, f4⟩ := fill_of (F := F) (n := 16) (by omega) (by decide) (-4 : Int32) i
  obtain ⟨t', e5, f5⟩ := fill_of (F := F) (n := 2) (by omega) (by decide) (nI 4) t
  obtain ⟨k', e6, f6⟩ := fill_of (F := F) (n := 2) (by omega) (by decide) (nI 5) k
  rw [e1, bd1_s, e2, bd1_s, e3, bd1_s, e4, bd1_s, e5, bd1_s, e6, bd1_s, bd3_s]
  exact ⟨_, _, _, _, _, _, _, _, _, _, _, rfl, fun jM jP => ⟨f1, f2, f3, f4, f5, f6, fun k h => absurd h (Nat.not_lt_zero k), rfl, rfl, rfl, rfl, rfl⟩⟩
theorem beginM_of {F : Nat} (hF : 600 ≤ F) (read : Nat → Int32) : ∃ read', D_X10_begin F read = some read' ∧ moB b0 read' := by
  unfold D_X10_begin
  obtain ⟨a1, e1, f1, _⟩ := lp_fill (N := 336) (off := 0) (g := fun _ => nI 0) (bot := fun _ _ => none) (bd := b_X10_begin_2) (fun rec a => by rw [b_X10_begin_2, if_pos (by decide)]) (fun rec i a hi => by
    rw [b_X10_begin_2, if_neg (nI_leN (by decide) (by omega) hi), ck_n hi (by decide), nI_add, nm_s, nI_clamp (by omega), Nat.zero_add]) 336 0 F read (by omega) (by omega)
  rw [e1, bd1_s]
  obtain ⟨a2, e2, f2, g2⟩ := lp_fill (N := 16) (off := 282) (g := fun _ => (-1 : Int32)) (bot := fun _ _ => none) (bd := b_X10_begin_24) (fun rec a => by rw [b_X10_begin_24, if_pos (by decide)]) (fun rec i a hi => by
    rw [b_X10_begin_24, if_neg (nI_leN (by decide) (by omega) hi), nI_add, ck_n (by omega) (by decide), nI_add, nm_s, nI_clamp (by omega)]) 16 0 F a1 (by omega) (by omega)
  rw [e2, bd1_s, ck_n (by decide) (by decide), ck_n (by decide) (by decide), ck_n (by decide) (by decide), ck_n (by decide) (by decide), ck_n (by decide) (by decide), ck_n (by decide) (by decide), ck_n (by decide) (by decide), ck_n (by decide) (by decide), nI_clamp (by decide), nI_clamp (by decide), nI_clamp (by decide), nI_clamp (by decide), nI_clamp (by decide), nI_clamp (by decide), nI_clamp (by decide), nI_clamp (by decide)]
  refine ⟨_, rfl, ?_⟩
  have z : ∀ k, k < 336 → (k < 280 ∨ 304 ≤ k) → upd (upd (upd (upd (upd (upd (upd (upd a2 280 (nI 65535)) 281 (nI 65535)) 298 (nI 4)) 299 (nI 4)) 300 (nI 5)) 301 (nI 5)) 302 (nI 5)) 303 (nI 70) k = nI 0 := by
    intro k hk hr
    rw [pk_un (by omega), pk_un (by omega), pk_un (by omega), pk_un (by omega), pk_un (by omega), pk_un (by omega), pk_un (by omega), pk_un (by omega), g2 k (by omega)]
    have := f1 k (by omega) hk
    rw [Nat.zero_add] at this; exact this
  refine ⟨fun i hi => ⟨⟨Nat.zero_le _, fun c h => by cases h⟩, z _ (by omega) (by omega), fun k h => absurd h (Nat.not_lt_zero k)⟩, fun p hp => ?_, fun c hc => ?_, fun p hp => ?_, fun p hp => ?_, ?_, ?_, z _ (by decide) (by decide), fun k h => absurd h (Nat.not_lt_zero k), z _ (by decide) (by decide), fun k h => absurd h (Nat.not_lt_zero k)⟩
  · rcases (by omega : p = 0 ∨ p = 1) with rfl | rfl
    · rw [pk_un (by decide), pk_un (by decide), pk_un (by decide), pk_un (by decide), pk_un (by decide), pk_un (by decide), pk_un (by decide), Nat.add_zero, pk_us]; rfl
    · rw [pk_un (by decide), pk_un (by decide), pk_un (by decide), pk_un (by decide), pk_un (by decide), pk_un (by decide), show 280 + 1 = 281 from rfl, pk_us]; rfl
  · rw [pk_un (by omega), pk_un (by omega), pk_un (by omega), pk_un (by omega), pk_un (by omega), pk_un (by omega), pk_un (by omega), pk_un (by omega), f2 c (by omega) hc]; rfl
  · rcases (by omega : p = 0 ∨ p = 1) with rfl | rfl
    · rw [pk_un (by decide), pk_un (by decide), pk_un (by decide), pk_un (by decide), pk_un (by decide), Nat.add_zero, pk_us]; rfl
    · rw [pk_un (by decide), pk_un (by decide), pk_un (by decide), pk_un (by decide), show 298 + 1 = 299 from rfl, pk_us]; rfl
  · rcases (by omega : p = 0 ∨ p = 1) with rfl | rfl
    · rw [pk_un (by decide), pk_un (by decide), pk_un (by decide), Nat.add_zero, pk_us]; rfl
    · rw [pk_un (by decide), pk_un (by decide), show 300 + 1 = 301 from rfl, pk_us]; rfl
  · rw [pk_un (by decide), pk_us]; rfl
  · rw [pk_us]; rfl
/-- the text item by item -/
def pr (S : Nat → Nat) (n : Nat) : Nat → BT → Nat → Sum Nat BT
  | 0, b, _ => .inr b
  | f + 1, b, p => if n ≤ p then .inr b else match step S b p with
    | none => .inl p
    | some x => pr S n f x.2 x.1
theorem pr_end {S : Nat → Nat} {n f p : Nat} {b : BT} (h : n ≤ p) : pr S n (f + 1) b p = .inr b := if_pos h
theorem pr_bad {S : Nat → Nat} {n f p : Nat} {b : BT} (h : ¬ n ≤ p) (hs : step S b p = none) : pr S n (f + 1) b p = .inl p := by
  rw [pr, if_neg h, hs]
theorem pr_on {S : Nat → Nat} {n f p p' : Nat} {b b' : BT} (h : ¬ n ≤ p) (hs : step S b p = some (p', b')) : pr S n (f + 1) b p = pr S n f b' p' := by
  rw [pr, if_neg h, hs]
theorem try_loop {F : Nat} (hF : 600 ≤ F) {n : Nat} {S : Nat → Nat} (hn : n ≤ 500) (hb : sB S) {bys : Nat → Int32} (hA : cA S (nI n) bys) : ∀ (f p i G : Nat) (b : BT) (ipl ile iwo ibi : Int32) (inu : Nat → Int32) (spk gd : Int32) (words heard can ins trad tak : Nat → Int32) (jT uT need : Int32) (jM jP : Nat → Int32),
    500 < p + f → p ≤ 500 → i ≤ p → f < G → okB b → clB b words heard can ins trad tak jM jP jT uT need spk gd →
    ∃ r a1 a2 a3 a4 a5 spk' gd' words' heard' can' ins' trad' tak' jT' uT' need' jM' jP', lpg (T := Int32 → Int32 → Int32 → Int32 → Int32 → Int32 → (Nat → Int32) → Int32 → Int32 → (Nat → Int32) → (Nat → Int32) → (Nat → Int32) → (Nat → Int32) → (Nat → Int32) → (Nat → Int32) → Int32 → Int32 → Int32 → (Nat → Int32) → (Nat → Int32) → Option (Int32 × Int32 × Int32 × Int32 × Int32 × (Nat → Int32) × Int32 × Int32 × (Nat → Int32) × (Nat → Int32) × (Nat → Int32) × (Nat → Int32) × (Nat → Int32) × (Nat → Int32) × Int32 × Int32 × Int32 × (Nat → Int32) × (Nat → Int32))) (fun _ _ _ _ _ _ _ _ _ _ _ _ _ _ _ _ _ _ _ _ => none) (b_X9_tryText_11 (nI n) bys F) G (nI p) (nI i) ipl ile iwo ibi inu spk gd words heard can ins trad tak jT uT need jM jP = some (r, a1, a2, a3, a4, a5, spk', gd', words', heard', can', ins', trad', tak', jT', uT', need', jM', jP') ∧
    ((∃ q, pr S n f b p = .inl q ∧ r = nI q ∧ q ≤ 500) ∨ ∃ b', pr S n f b p = .inr b' ∧ r = (-4 : Int32) ∧ okB b' ∧ clB b' words' heard' can' ins' trad' tak' jM' jP' jT' uT' need' spk' gd') := by
  intro f
  induction f with
  | zero => intro p i G b ipl ile iwo ibi inu spk gd words heard can ins trad tak jT uT need jM jP h1 h2; omega
  | succ f ih =>
    intro p i G b ipl ile iwo ibi inu spk gd words heard can ins trad tak jT uT need jM jP h1 h2 h3 h4 ok hc
    obtain ⟨G, rfl⟩ : ∃ H, G = H + 1 := ⟨G - 1, by omega⟩
    rw [lpg_succ, b_X9_tryText_11]
    by_cases c : 500 ≤ i
    · rw [if_pos (nI_le c (by omega)), pr_end (by omega)]
      exact ⟨_, _, _, _, _, _, _, _, _, _, _, _, _, _, _, _, _, _, _, rfl, Or.inr ⟨b, rfl, rfl, ok, hc⟩⟩
    · rw [if_neg (nI_leN (by decide) (by omega) (by omega)), D_X7_length, bd1_s]
      by_cases d : n ≤ p
      · rw [if_pos (nI_le d (by omega)), pr_end d]
        exact ⟨_, _, _, _, _, _, _, _, _, _, _, _, _, _, _, _, _, _, _, rfl, Or.inr ⟨b, rfl, rfl, ok, hc⟩⟩
      · rw [if_neg (nI_leN (by omega) (by omega) (by omega))]
        rcases cl_step hF hb hA (p := p) (by omega) hc ok ipl ile iwo ibi inu with ⟨hs, pl, le, wd, bt, nb, e⟩ | ⟨pl, le, wd, bt, nb, e, hs⟩
        · rw [e, bd6_s, if_n0, pr_bad d hs]
          exact ⟨_, _, _, _, _, _, _, _, _, _, _, _, _, _, _, _, _, _, _, rfl, Or.inl ⟨p, rfl, rfl, h2⟩⟩
        · rw [e, bd6_s, if_n1]
          rcases hs with ⟨hs, a1, a2, a3, a4, a5, a6, a7, a8, a9, a10, a11, a12, a13, x⟩ | ⟨p', b', a1, a2, a3, a4, a5, a6, a7, a8, a9, a10, a11, a12, a13, hs, hpl, x, hk⟩
          · rw [x, bd14_s, if_n0, pr_bad d hs]
            exact ⟨_, _, _, _, _, _, _, _, _, _, _, _, _, _, _, _, _, _, _, rfl, Or.inl ⟨p, rfl, rfl, h2⟩⟩
          · have so := step_ok hb ok hs
            rw [x, bd14_s, if_n1, D_X2_behind, bd1_s, nI_add, nm_s, hpl, pr_on d hs]
            exact ih p' (i + 1) G b' _ _ _ _ _ _ _ _ _ _ _ _ _ _ _ _ _ _ (by omega) so.2.2.1 (by omega) (by omega) so.1 hk
theorem fault_loop {F : Nat} (hF : 600 ≤ F) {n : Nat} {S : Nat → Nat} (hn : n ≤ 500) (hb : sB S) {text : Nat → Int32} (hM : mA S (nI n) text) : ∀ (f p G : Nat) (b : BT) (read : Nat → Int32),
    500 < p + f → p ≤ 500 → f < G → okB b → moB b read →
    ∃ r a read', lpg (T := Int32 → (Nat → Int32) → Option (Int32 × Int32 × (Nat → Int32))) (fun _ _ => none) (b_X10_fault_9 (nI n) text F) G (nI p) read = some (r, a, read') ∧
    ((∃ q, pr S n f b p = .inl q ∧ r = nI q ∧ q ≤ 500) ∨ ∃ b', pr S n f b p = .inr b' ∧ r = (-4 : Int32) ∧ okB b' ∧ moB b' read') := by
  intro f
  induction f with
  | zero => intro p G b read h1 h2; omega
  | succ f ih =>
    intro p G b read h1 h2 h4 ok hc
    obtain ⟨G, rfl⟩ : ∃ H, G = H + 1 := ⟨G - 1, by omega⟩
    rw [lpg_succ, b_X10_fault_9]
    by_cases d : n ≤ p
    · rw [if_pos (nI_le d (by omega)), pr_end d]
      exact ⟨_, _, _, rfl, Or.inr ⟨b, rfl, rfl, ok, hc⟩⟩
    · rw [if_neg (nI_leN (by omega) (by omega) (by omega))]
      obtain ⟨r, a, rd, e, hs⟩ := mo_step hF hb hM (p := p) (by omega) ok hc
      rw [e, bd3_s]
      rcases hs with ⟨hs, hr⟩ | ⟨q, b', hs, rfl, rfl, hq, h59, hk⟩
      · rw [pr_bad d hs]
        rcases hr with rfl | ⟨rfl, q, rfl, hq, h59⟩
        · rw [if_n0]; exact ⟨_, _, _, rfl, Or.inl ⟨p, rfl, rfl, h2⟩⟩
        · rw [if_n1, takes_of hb hM (by decide) (by decide) hq, bd2_s, zb_if, if_neg h59]
          exact ⟨_, _, _, rfl, Or.inl ⟨p, rfl, rfl, h2⟩⟩
      · have so := step_ok hb ok hs
        rw [if_n1, takes_of hb hM (by decide) (by decide) hq, bd2_s, zb_if, if_pos h59, show tkP S 59 q = q + 1 from if_pos h59, pr_on d hs]
        exact ih (q + 1) G b' _ (by omega) so.2.2.1 (by omega) so.1 hk
theorem e_try {F : Nat} (hF : 600 ≤ F) {n : Nat} {S : Nat → Nat} {len size : Int32} {bys text : Nat → Int32} (h : tx n S len bys size text) (ipl ile iwo ibi : Int32) (inu : Nat → Int32) (spk gd : Int32) (words heard can ins trad tak : Nat → Int32) (jT uT need : Int32) (jM jP : Nat → Int32) (at0 : Int32) (read : Nat → Int32) :
    ∃ r a1 a2 a3 a4 a5 spk' gd' words' heard' can' ins' trad' tak' jT' uT' need' jM' jP' at' read', D_X9_tryText F len bys ipl ile iwo ibi inu spk gd words heard can ins trad tak jT uT need jM jP = some (r, a1, a2, a3, a4, a5, spk', gd', words', heard', can', ins', trad', tak', jT', uT', need', jM', jP') ∧ D_X10_fault F size at0 text read = some (r, at', read') ∧
    ((∃ q, r = nI q ∧ q ≤ 500) ∨ (r = (-4 : Int32) ∧ ∃ b, okB b ∧ clB b words' heard' can' ins' trad' tak' jM' jP' jT' uT' need' spk' gd' ∧ moB b read')) := by
  have hA := tx_cA h
  have hM := tx_mA h
  have hb := tx_sB h
  obtain ⟨hn, hl, hz, _⟩ := h
  rw [hl] at hA
  rw [hz] at hM
  unfold D_X9_tryText D_X10_fault
  obtain ⟨sp', gd', w', h', c', i', t', k', jT', uT', nd', e1, k1⟩ := clear_of hF spk gd jT uT need words heard can ins trad tak
  obtain ⟨rd, e2, k2⟩ := beginM_of hF read
  rw [e1, bd11_s, e2, bd1_s, hl, hz]
  obtain ⟨r, a1, a2, a3, a4, a5, a6, a7, a8, a9, a10, a11, a12, a13, a14, a15, a16, a17, a18, x, hx⟩ := try_loop hF hn hb hA 501 0 0 F b0 ipl ile iwo ibi inu sp' gd' w' h' c' i' t' k' jT' uT' nd' jM jP (by decide) (by decide) (by decide) (by omega) okB0 (k1 jM jP)
  obtain ⟨r2, at', read', y, hy⟩ := fault_loop hF hn hb hM 501 0 F b0 rd (by decide) (by decide) (by omega) okB0 k2
  rw [x, y]
  rcases hx with ⟨q, hq, rfl, hq5⟩ | ⟨b', hq, rfl, o1, o2⟩ <;> rcases hy with ⟨q', hq', rfl, hq5'⟩ | ⟨b'', hq', rfl, o1', o2'⟩
  · rw [hq] at hq'
    cases hq'
    exact ⟨_, _, _, _, _, _, _, _, _, _, _, _, _, _, _, _, _, _, _, _, _, rfl, rfl, Or.inl ⟨q, rfl, hq5⟩⟩
  · rw [hq] at hq'; cases hq'
  · rw [hq] at hq'; cases hq'
  · rw [hq] at hq'
    cases hq'
    exact ⟨_, _, _, _, _, _, _, _, _, _, _, _, _, _, _, _, _, _, _, _, _, rfl, rfl, Or.inr ⟨rfl, b', o1, o2, o2'⟩⟩
theorem e_fault {F : Nat} (hF : 600 ≤ F) {n : Nat} {S : Nat → Nat} {len size : Int32} {bys text : Nat → Int32} (h : tx n S len bys size text) (ipl ile iwo ibi : Int32) (inu : Nat → Int32) (spk gd : Int32) (words heard can ins trad tak : Nat → Int32) (jT uT need : Int32) (jM jP : Nat → Int32) (at0 : Int32) (read : Nat → Int32) :
    ∃ r a1 a2 a3 a4 a5 spk' gd' words' heard' can' ins' trad' tak' jT' uT' need' jM' jP' at' read', D_X9_fault F len bys ipl ile iwo ibi inu spk gd words heard can ins trad tak jT uT need jM jP = some (r, a1, a2, a3, a4, a5, spk', gd', words', heard', can', ins', trad', tak', jT', uT', need', jM', jP') ∧ D_X10_fault F size at0 text read = some (r, at', read') := by
  obtain ⟨r, a1, a2, a3, a4, a5, a6, a7, a8, a9, a10, a11, a12, a13, a14, a15, a16, a17, a18, at', read', x, y, _⟩ := e_try hF h ipl ile iwo ibi inu spk gd words heard can ins trad tak jT uT need jM jP at0 read
  unfold D_X9_fault
  rw [x, y, bd19_s]
  exact ⟨_, _, _, _, _, _, _, _, _, _, _, _, _, _, _, _, _, _, _, _, _, rfl, rfl⟩
theorem layRead_of {F : Nat} (hF : 600 ≤ F) (read l : Nat → Int32) : ∃ l', D_X10_layRead F read l = some l' ∧ ∀ k, k < 336 → l' k = read k := by
  unfold D_X10_layRead
  obtain ⟨a1, e1, f1, _⟩ := lp_fill (N := 336) (off := 0) (g := read) (bot := fun _ _ => none) (bd := b_X10_layRead_2 read) (fun rec a => by rw [b_X10_layRead_2, if_pos (by decide)]) (fun rec i a hi => by
    rw [b_X10_layRead_2, if_neg (nI_leN (by decide) (by omega) hi), ck_n hi (by decide), nm_s, ck_n hi (by decide), nI_add, nm_s, nI_clamp (by omega), Nat.zero_add]) 336 0 F l (by omega) (by omega)
  rw [e1, bd1_s]
  exact ⟨a1, rfl, fun k hk => by have := f1 k (by omega) hk; rw [Nat.zero_add] at this; exact this⟩
theorem moB_cong {b : BT} (ok : okB b) {l l' : Nat → Int32} (h : moB b l) (hc : ∀ k, k < 336 → l' k = l k) : moB b l' := by
  obtain ⟨m1, m2, m3, m4, m5, m6, m7, m8, m9, m10, m11⟩ := h
  have hJ := ok.2.2.2.2.2.2.2.1.1
  have hU := ok.2.2.2.2.2.2.2.2.1
  refine ⟨fun j hj => isW_cong (m1 j hj) (fun k hk => hc _ (by omega)), fun p hp => ?_, fun x hx => ?_, fun p hp => ?_, fun p hp => ?_, ?_, ?_, ?_, fun k hk => ?_, ?_, fun k hk => ?_⟩
  · rw [hc _ (by omega)]; exact m2 p hp
  · rw [hc _ (by omega)]; exact m3 x hx
  · rw [hc _ (by omega)]; exact m4 p hp
  · rw [hc _ (by omega)]; exact m5 p hp
  · rw [hc _ (by omega)]; exact m6
  · rw [hc _ (by omega)]; exact m7
  · rw [hc _ (by omega)]; exact m8
  · rw [hc _ (by omega), hc _ (by omega), hc _ (by omega)]; exact m9 k hk
  · rw [hc _ (by omega)]; exact m10
  · rw [hc _ (by omega)]; exact m11 k hk
theorem m4_lt0 : (-4 : Int32) < 0 := by decide
theorem e_lay {F : Nat} (hF : 600 ≤ F) {n : Nat} {S : Nat → Nat} {len size : Int32} {bys text : Nat → Int32} (h : tx n S len bys size text) (ipl ile iwo ibi : Int32) (inu : Nat → Int32) (kp : Int32) (oth : Nat → Int32) (spk gd : Int32) (words heard can ins trad tak : Nat → Int32) (jT uT need : Int32) (jM jP : Nat → Int32) (ql qt : Nat) (at0 km : Int32) (read l sta : Nat → Int32) :
    ∃ r a1 a2 a3 a4 a5 kp' oth' spk' gd' words' heard' can' ins' trad' tak' jT' uT' need' jM' jP' ql' qt' at' km' read' l' sta', D_X9_lay F len bys ipl ile iwo ibi inu kp oth spk gd words heard can ins trad tak jT uT need jM jP ql qt = some (r, a1, a2, a3, a4, a5, kp', oth', spk', gd', words', heard', can', ins', trad', tak', jT', uT', need', jM', jP', ql', qt') ∧ D_X10_lay F size at0 km text read l sta = some (r, at', km', read', l', sta') ∧
    ((kp' = kp ∧ oth' = oth ∧ ql' = ql ∧ qt' = qt ∧ km' = km ∧ l' = l ∧ sta' = sta) ∨ (kp' = nI 0 ∧ km' = nI 0 ∧ ql' = qt ∧ qt' = ql ∧ holdS (fun _ => 0) oth' ∧ holdS (fun _ => 0) sta' ∧ ∃ b, okB b ∧ clB b words' heard' can' ins' trad' tak' jM' jP' jT' uT' need' spk' gd' ∧ moB b l')) := by
  obtain ⟨r, a1, a2, a3, a4, a5, a6, a7, a8, a9, a10, a11, a12, a13, a14, a15, a16, a17, a18, at', read', x, y, hr⟩ := e_try hF h ipl ile iwo ibi inu spk gd words heard can ins trad tak jT uT need jM jP at0 read
  unfold D_X9_lay D_X10_lay
  rw [x, y, bd19_s, bd3_s]
  rcases hr with ⟨q, rfl, hq⟩ | ⟨rfl, b, ok, hc, hm⟩
  · rw [if_neg (ne_m4 (by omega)), if_neg (nlt0 (by omega))]
    exact ⟨_, _, _, _, _, _, _, _, _, _, _, _, _, _, _, _, _, _, _, _, _, _, _, _, _, _, _, _, rfl, rfl, Or.inl ⟨rfl, rfl, rfl, rfl, rfl, rfl, rfl⟩⟩
  · rw [if_pos rfl, if_pos m4_lt0]
    obtain ⟨l', e1, f1⟩ := layRead_of hF read' l
    have hm' := moB_cong ok hm f1
    obtain ⟨oth', e2, f2⟩ := fill_of (F := F) (n := 16) (by omega) (by decide) (nI 0) oth
    obtain ⟨sta', e3, f3, _⟩ := lp_fill (N := 16) (off := 0) (g := fun _ => nI 0) (bot := fun _ _ => none) (bd := b_X10_lay_21) (fun rec a => by rw [b_X10_lay_21, if_pos (by decide)]) (fun rec i a hi => by
      rw [b_X10_lay_21, if_neg (nI_leN (by decide) (by omega) hi), ck_n hi (by decide), nI_add, nm_s, nI_clamp (by omega), Nat.zero_add]) 16 0 F sta (by omega) (by omega)
    obtain ⟨r, s, t1, t2, t3⟩ := e_told hF ok hc.1 hm'.1
    rw [D_X6_clear, e2, bd1_s, bd2_s, t1, bd1_s, e1, bd1_s, e3, bd1_s, t2, bd1_s, t3, bd1_s]
    refine ⟨_, _, _, _, _, _, _, _, _, _, _, _, _, _, _, _, _, _, _, _, _, _, _, _, _, _, _, _, rfl, rfl, Or.inr ⟨rfl, rfl, rfl, rfl, f2, fun k hk => ?_, b, ok, hc, hm'⟩⟩
    have := f3 k (by omega) hk
    rw [Nat.zero_add] at this; exact this
