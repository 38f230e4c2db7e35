def b_J7_fill_53178_5 (p2 : Int32) (n_a1 : Nat) (x3_1 : Int32) (rec5 : Int32 → (Nat → Int32) → Option ((Nat → Int32))) (x2_2 : Int32) (y_a1_3 : Nat → Int32) : Option ((Nat → Int32)) := (if x3_1 ≤ x2_2 then some (y_a1_3) else ck n_a1 x2_2 (nm (x2_2 + (nI 1)) (fun x2_7 => rec5 x2_7 (upd y_a1_3 x2_2.toNatClampNeg p2))))
def D_J7_fill_53178 (F : Nat) (n_a1 : Nat) (p2 : Int32) (v_a1 : Nat → Int32) : Option ((Nat → Int32)) := nm (nI n_a1) (fun x3_1 => bd1 (lpg (T := Int32 → (Nat → Int32) → Option ((Nat → Int32))) (fun _ _ => none) (b_J7_fill_53178_5 p2 n_a1 x3_1) F (nI 0) v_a1) (fun o_4 => some (o_4)))
abbrev rm_J7_fill_53178 : Room := { frames := 0, cells := 0, slots := 0, locals := 0 }
set_option maxHeartbeats 4000000 in
set_option maxRecDepth 100000 in
theorem c_J7_fill_53178 (l : Launch) (D : va_G) (ca : Nat → ClassId) (F : Nat) (sz : Nat) (q_a1 : Nat) (n_a1 : Nat) (p2 : Int32) (v_a1 : Nat → Int32) (o_a1 : Nat → Int32) (h : D_J7_fill_53178 F n_a1 p2 v_a1 = some (o_a1)) : Met l yJ7_fill_53178 wsJ7_fill_53178 rm_J7_fill_53178 (va_Pc [.ref q_a1, .int p2] (kPre D ca [(q_a1, .inl (ca 0, n_a1, .inl v_a1))] sz)) (kQv D ca (va_A [(q_a1, .inl (ca 0, n_a1, .inl v_a1))] sz) [(q_a1, .inl (ca 0, n_a1, .inl o_a1))]) 0 0 (va_A [(q_a1, .inl (ca 0, n_a1, .inl v_a1))] sz) := by
  refine Met.ofW (cc := cJ7_fill_53178) (maxL := 4) (ret := none) (by decide +kernel) rfl ?_
  intro p e s m args below meth c s₁ B hml hv
  obtain ⟨rfl, hsz, hP, hK, hD0⟩ := hv
  have hx := B.exec
  have hb := B.bytes
  have hr := B.returns
  have hts := atoms_spec (ws := wsJ7_fill_53178) B.pre
  have hown : s.vm.findClass RJ7 = some m.cls := findClass_of_methodNamed B.named
  have hlocks := B.notSynchronized
  clear B
  subst hsz
  have hD := hD0.self (sz := s.heap.size)
  generalize hAe : va_A [(q_a1, .inl (ca 0, n_a1, .inl v_a1))] s.heap.size = A at hD ⊢
  have hA : ∀ q : Nat, s.heap.size ≤ q → A q := fun q h => by rw [← hAe]; exact Or.inr h
  have hS : va_S A s.heap s.heap [] := va_S.rf
  have hl := lv_entry ([.ref q_a1, .int p2]) (n := 4) (Nat.le_of_ble_eq_true rfl)
  rw [lg_entry_eq]
  generalize (lg_sl ([.ref q_a1, .int p2]) ++ List.replicate (4 - (lg_sl ([.ref q_a1, .int p2])).length) Slot.unset).toArray = ls at hl ⊢
  have hl : lv_has ls 4 [(0, .ref q_a1), (1, .int p2)] := hl
  generalize ([.ref q_a1, .int p2] : List Value).toArray = args at hts ⊢
  generalize hQe : MQ below (kQv D ca (A) [(q_a1, .inl (ca 0, n_a1, .inl o_a1))]) args s 0 0 A = Q
  rw [D_J7_fill_53178] at h
  refine lv_iconst (v := (nI 0)) hx hb dJ7_fill_53178_0 (by decide) ?_
  refine lv_istore_n (lv' := [(2, .int (nI 0)), (0, .ref q_a1), (1, .int p2)]) hx hb dJ7_fill_53178_1 rfl hl (by decide) rfl (fun ls hl => ?_)
  refine lv_aload_n hx hb dJ7_fill_53178_2 rfl (lv_at hl 1 rfl) ?_
  refine va_alen hx hb hK hP 0 0 rfl rfl (v := (nI n_a1)) rfl dJ7_fill_53178_3 ?_
  refine lv_nmi h (fun x3_1 h => ?_)
  refine lv_istore_n (lv' := [(3, .int x3_1), (2, .int (nI 0)), (0, .ref q_a1), (1, .int p2)]) hx hb dJ7_fill_53178_4 rfl hl (by decide) rfl (fun ls hl => ?_)
  obtain ⟨o_4, hL, h⟩ := bd1_el h
  have hex : ∀ (H : Heap) (locs : List Loc) (ls : Array Slot), va_P D vwCl [(q_a1, .inl (ca 0, n_a1, .inl o_4))] H → va_D A [(q_a1, .inl (ca 0, n_a1, .inl o_4))] → va_S A s.heap H locs → lv_has ls 4 [] → W p l e (headSpec wsJ7_fill_53178 rm_J7_fill_53178).room s m args below meth c H locs 0 0 Q (F0 m 20 ls []) := by
    intro H locs ls hP hD hS hl
    cases h
    rw [← hQe]
    exact W.vret hx hb hr (fun t ht hW => ⟨⟨(), rfl, trivial, by rw [ht]; exact hP, va_K.moved hW.alike hK, hD⟩, hS.F ht⟩) hS.2.2 dJ7_fill_53178_20
  have hlp : ∀ (n : Nat) (x2_2 : Int32) (y_a1_3 : Nat → Int32) (o_4 : Nat → Int32) (H : Heap) (locs : List Loc) (ls : Array Slot), lpg (T := Int32 → (Nat → Int32) → Option ((Nat → Int32))) (fun _ _ => none) (b_J7_fill_53178_5 p2 n_a1 x3_1) n x2_2 y_a1_3 = some (o_4) → (∀ (H : Heap) (locs : List Loc) (ls : Array Slot), va_P D vwCl [(q_a1, .inl (ca 0, n_a1, .inl o_4))] H → va_D A [(q_a1, .inl (ca 0, n_a1, .inl o_4))] → va_S A s.heap H locs → lv_has ls 4 [] → W p l e (headSpec wsJ7_fill_53178 rm_J7_fill_53178).room s m args below meth c H locs 0 0 Q (F0 m 20 ls [])) → va_P D vwCl [(q_a1, .inl (ca 0, n_a1, .inl y_a1_3))] H → va_D A [(q_a1, .inl (ca 0, n_a1, .inl y_a1_3))] → va_S A s.heap H locs → lv_has ls 4 [(0, .ref q_a1), (1, .int p2), (2, .int x2_2), (3, .int x3_1)] → W p l e (headSpec wsJ7_fill_53178 rm_J7_fill_53178).room s m args below meth c H locs 0 0 Q (F0 m 5 ls []) := by
    intro n
    induction n with
    | zero => intro x2_2 y_a1_3 o_4 H locs ls h; have h : (none : Option ((Nat → Int32))) = some _ := h; cases h
    | succ n ih =>
      intro x2_2 y_a1_3 o_4 H locs ls h hex hP hD hS hl
      rw [lpg_succ, b_J7_fill_53178_5] at h
      refine lv_iload_n hx hb dJ7_fill_53178_5 rfl (lv_at hl 2 rfl) ?_
      refine lv_iload_n hx hb dJ7_fill_53178_6 rfl (lv_at hl 3 rfl) ?_
      refine lv_icmp_ge (tgt := 20) hx hb dJ7_fill_53178_7 (by decide) (fun c_5 => ?_) (fun c_5 => ?_)
      · replace h := ifp_el c_5 h
        cases h
        exact hex _ _ _ hP hD hS (lv_sub hl [] rfl)
      · replace h := ifn_el c_5 h
        refine lv_aload_n hx hb dJ7_fill_53178_10 rfl (lv_at hl 0 rfl) ?_
        refine lv_iload_n hx hb dJ7_fill_53178_11 rfl (lv_at hl 2 rfl) ?_
        refine lv_iload_n hx hb dJ7_fill_53178_12 rfl (lv_at hl 1 rfl) ?_
        obtain ⟨hi_6, h⟩ := ck_el h
        refine va_iast hx hb hK hP hD hS 0 0 rfl rfl hi_6 dJ7_fill_53178_13 (fun H locs hP hD hS => ?_)
        have hP : va_P D vwCl [(q_a1, .inl (ca 0, n_a1, .inl (upd y_a1_3 x2_2.toNatClampNeg p2)))] H := hP
        have hD : va_D A [(q_a1, .inl (ca 0, n_a1, .inl (upd y_a1_3 x2_2.toNatClampNeg p2)))] := hD
        obtain ⟨x2_7, e_8, h⟩ := nm_el h
        refine lv_iinc (v := x2_7) (lv' := [(2, .int x2_7), (0, .ref q_a1), (1, .int p2), (3, .int x3_1)]) hx hb dJ7_fill_53178_14 hl (k := 2) rfl (by rw [← e_8]; rfl) (by decide) rfl (fun ls hl => ?_)
        refine lv_goto (tgt := 5) hx hb dJ7_fill_53178_17 (by decide) ?_
        exact ih _ _ _ _ _ _ h hex hP hD hS (lv_sub hl [1, 2, 0, 3] rfl)
  exact hlp F (nI 0) v_a1 o_4 s.heap [] ls hL hex hP hD hS (lv_sub hl [2, 3, 1, 0] rfl)
def D_X4_clear (v_joinedTold : Int32) (v_needsTold : Int32) (v_needed : Int32) : Option (Int32 × Int32 × Int32) := some ((nI 0), (nI 0), (nI 0))
abbrev rm_X4_clear : Room := { frames := 0, cells := 0, slots := 0, locals := 0 }
set_option maxHeartbeats 4000000 in
set_option maxRecDepth 100000 in
theorem c_X4_clear (l : Launch) (D : va_G) (ca : Nat → ClassId) (sz : Nat) (q_this q_joinedMeaning q_joinedPair : Nat) (v_joinedTold : Int32) (v_needsTold : Int32) (v_needed : Int32) (o_joinedTold : Int32) (o_needsTold : Int32) (o_needed : Int32) (h : D_X4_clear v_joinedTold v_needsTold v_needed = some (o_joinedTold, o_needsTold, o_needed)) : Met l yX4_clear wsX4_clear rm_X4_clear (va_Pc [.ref q_this] (kPre D ca [(q_this, .inr (4, [.ref q_joinedMeaning, .ref q_joinedPair, .int v_joinedTold, .int v_needsTold, .int v_needed]))] sz)) (kQv D ca (va_A [(q_this, .inr (4, [.ref q_joinedMeaning, .ref q_joinedPair, .int v_joinedTold, .int v_needsTold, .int v_needed]))] sz) [(q_this, .inr (4, [.ref q_joinedMeaning, .ref q_joinedPair, .int o_joinedTold, .int o_needsTold, .int o_needed]))]) 0 0 (va_A [(q_this, .inr (4, [.ref q_joinedMeaning, .ref q_joinedPair, .int v_joinedTold, .int v_needsTold, .int v_needed]))] sz) := by
  refine Met.ofW (cc := cX4_clear) (maxL := 1) (ret := none) (by decide +kernel) rfl ?_
  intro p e s m args below meth c s₁ B hml hv
  obtain ⟨rfl, hsz, hP, hK, hD0⟩ := hv
  have hx := B.exec
  have hb := B.bytes
  have hr := B.returns
  have hts := atoms_spec (ws := wsX4_clear) B.pre
  have hown : s.vm.findClass RX4 = some m.cls := findClass_of_methodNamed B.named
  have hlocks := B.notSynchronized
  clear B
  subst hsz
  have hD := hD0.self (sz := s.heap.size)
  generalize hAe : va_A [(q_this, .inr (4, [.ref q_joinedMeaning, .ref q_joinedPair, .int v_joinedTold, .int v_needsTold, .int v_needed]))] s.heap.size = A at hD ⊢
  have hA : ∀ q : Nat, s.heap.size ≤ q → A q := fun q h => by rw [← hAe]; exact Or.inr h
  have hS : va_S A s.heap s.heap [] := va_S.rf
  have hl := lv_entry ([.ref q_this]) (n := 1) (Nat.le_of_ble_eq_true rfl)
  rw [lg_entry_eq]
  generalize (lg_sl ([.ref q_this]) ++ List.replicate (1 - (lg_sl ([.ref q_this])).length) Slot.unset).toArray = ls at hl ⊢
  have hl : lv_has ls 1 [(0, .ref q_this)] := hl
  generalize ([.ref q_this] : List Value).toArray = args at hts ⊢
  generalize hQe : MQ below (kQv D ca (A) [(q_this, .inr (4, [.ref q_joinedMeaning, .ref q_joinedPair, .int o_joinedTold, .int o_needsTold, .int o_needed]))]) args s 0 0 A = Q
  have i_X4 : ∀ w ∈ u_ws RX4 TX4 5, w ∈ wsX4_clear := by decide +kernel
  have k_18 := hts (.fieldLink RX4 18 "TradeWords$Needs" "joinedTold" "I") (by decide +kernel)
  have k_22 := hts (.fieldLink RX4 22 "TradeWords$Needs" "needsTold" "I") (by decide +kernel)
  have k_25 := hts (.fieldLink RX4 25 "TradeWords$Needs" "needed" "I") (by decide +kernel)
  rw [D_X4_clear] at h
  refine lv_aload_n hx hb dX4_clear_0 rfl (lv_at hl 0 rfl) ?_
  refine lv_iconst (v := (nI 0)) hx hb dX4_clear_1 (by decide) ?_
  refine va_put (D := D) (ci := 4) (v := .int (nI 0)) (ty := .int) (C := RX4) (T := TX4) (N := 5) hx hb hts i_X4 tyX4 tyX4_ok nmX4 hown hK hP hD hS 0 rfl rfl 2 (by decide) k_18 (fun _ h9 => h9) rfl (by decide +kernel) rfl rfl (Nat.le_of_ble_eq_true rfl) dX4_clear_2 (fun H locs hP hD hS => ?_)
  have hP : va_P D vwCl [(q_this, .inr (4, [.ref q_joinedMeaning, .ref q_joinedPair, .int (nI 0), .int v_needsTold, .int v_needed]))] H := hP
  have hD : va_D A [(q_this, .inr (4, [.ref q_joinedMeaning, .ref q_joinedPair, .int (nI 0), .int v_needsTold, .int v_needed]))] := hD
  refine lv_aload_n hx hb dX4_clear_5 rfl (lv_at hl 0 rfl) ?_
  refine lv_iconst (v := (nI 0)) hx hb dX4_clear_6 (by decide) ?_
  refine va_put (D := D) (ci := 4) (v := .int (nI 0)) (ty := .int) (C := RX4) (T := TX4) (N := 5) hx hb hts i_X4 tyX4 tyX4_ok nmX4 hown hK hP hD hS 0 rfl rfl 3 (by decide) k_22 (fun _ h9 => h9) rfl (by decide +kernel) rfl rfl (Nat.le_of_ble_eq_true rfl) dX4_clear_7 (fun H locs hP hD hS => ?_)
  have hP : va_P D vwCl [(q_this, .inr (4, [.ref q_joinedMeaning, .ref q_joinedPair, .int (nI 0), .int (nI 0), .int v_needed]))] H := hP
  have hD : va_D A [(q_this, .inr (4, [.ref q_joinedMeaning, .ref q_joinedPair, .int (nI 0), .int (nI 0), .int v_needed]))] := hD
  refine lv_aload_n hx hb dX4_clear_10 rfl (lv_at hl 0 rfl) ?_
  refine lv_iconst (v := (nI 0)) hx hb dX4_clear_11 (by decide) ?_
  refine va_put (D := D) (ci := 4) (v := .int (nI 0)) (ty := .int) (C := RX4) (T := TX4) (N := 5) hx hb hts i_X4 tyX4 tyX4_ok nmX4 hown hK hP hD hS 0 rfl rfl 4 (by decide) k_25 (fun _ h9 => h9) rfl (by decide +kernel) rfl rfl (Nat.le_of_ble_eq_true rfl) dX4_clear_12 (fun H locs hP hD hS => ?_)
  have hP : va_P D vwCl [(q_this, .inr (4, [.ref q_joinedMeaning, .ref q_joinedPair, .int (nI 0), .int (nI 0), .int (nI 0)]))] H := hP
  have hD : va_D A [(q_this, .inr (4, [.ref q_joinedMeaning, .ref q_joinedPair, .int (nI 0), .int (nI 0), .int (nI 0)]))] := hD
  cases h
  rw [← hQe]
  exact W.vret hx hb hr (fun t ht hW => ⟨⟨(), rfl, trivial, by rw [ht]; exact hP, va_K.moved hW.alike hK, hD⟩, hS.F ht⟩) hS.2.2 dX4_clear_15
def D_X0_clear (F : Nat) (v_speaks : Int32) (v_alikeFrom : Int32) (v_words : Nat → Int32) (v_heard : Nat → Int32) (v_canSay : Nat → Int32) (v_instead : Nat → Int32) (v_traders : Nat → Int32) (v_takes : Nat → Int32) (v_needs_joinedTold : Int32) (v_needs_needsTold : Int32) (v_needs_needed : Int32) : Option (Int32 × Int32 × (Nat → Int32) × (Nat → Int32) × (Nat → Int32) × (Nat → Int32) × (Nat → Int32) × (Nat → Int32) × Int32 × Int32 × Int32) := bd1 (D_J7_fill_53178 F 16 (nI 0) v_words) (fun y_words_1 => bd1 (D_J7_fill_53178 F 24 (nI 0) v_heard) (fun y_heard_3 => bd1 (D_J7_fill_53178 F 2 (nI 65535) v_canSay) (fun y_canSay_5 => bd1 (D_J7_fill_53178 F 16 (-4 : Int32) v_instead) (fun y_instead_7 => bd1 (D_J7_fill_53178 F 2 (nI 4) v_traders) (fun y_traders_9 => bd1 (D_J7_fill_53178 F 2 (nI 5) v_takes) (fun y_takes_11 => bd3 (D_X4_clear v_needs_joinedTold v_needs_needsTold v_needs_needed) (fun y_needs_joinedTold_13 y_needs_needsTold_14 y_needs_needed_15 => some ((nI 5), (nI 70), y_words_1, y_heard_3, y_canSay_5, y_instead_7, y_traders_9, y_takes_11, y_needs_joinedTold_13, y_needs_needsTold_14, y_needs_needed_15))))))))
abbrev rm_X0_clear : Room := { frames := 1, cells := 0, slots := 0, locals := 23 }
set_option maxHeartbeats 4000000 in
set_option maxRecDepth 100000 in
theorem c_X0_clear (l : Launch) (D : va_G) (ca : Nat → ClassId) (F : Nat) (sz : Nat) (q_this q_words q_heard q_canSay q_instead q_traders q_takes q_needs q_needs_joinedMeaning q_needs_joinedPair : Nat) (v_speaks : Int32) (v_alikeFrom : Int32) (v_words : Nat → Int32) (v_heard : Nat → Int32) (v_canSay : Nat → Int32) (v_instead : Nat → Int32) (v_traders : Nat → Int32) (v_takes : Nat → Int32) (v_needs_joinedTold : Int32) (v_needs_needsTold : Int32) (v_needs_needed : Int32) (o_speaks : Int32) (o_alikeFrom : Int32) (o_words : Nat → Int32) (o_heard : Nat → Int32) (o_canSay : Nat → Int32) (o_instead : Nat → Int32) (o_traders : Nat → Int32) (o_takes : Nat → Int32) (o_needs_joinedTold : Int32) (o_needs_needsTold : Int32) (o_needs_needed : Int32) (h : D_X0_clear F v_speaks v_alikeFrom v_words v_heard v_canSay v_instead v_traders v_takes v_needs_joinedTold v_needs_needsTold v_needs_needed = some (o_speaks, o_alikeFrom, o_words, o_heard, o_canSay, o_instead, o_traders, o_takes, o_needs_joinedTold, o_needs_needsTold, o_needs_needed)) : Met l yX0_clear wsX0_clear rm_X0_clear (va_Pc [.ref q_this] (kPre D ca [(q_this, .inr (0, [.ref q_words, .ref q_heard, .ref q_canSay, .ref q_instead, .ref q_traders, .ref q_takes, .ref q_needs, .int v_speaks, .int v_alikeFrom])), (q_words, .inl (ca 0, 16, .inl v_words)), (q_heard, .inl (ca 0, 24, .inl v_heard)), (q_canSay, .inl (ca 0, 2, .inl v_canSay)), (q_instead, .inl (ca 0, 16, .inl v_instead)), (q_traders, .inl (ca 0, 2, .inl v_traders)), (q_takes, .inl (ca 0, 2, .inl v_takes)), (q_needs, .inr (4, [.ref q_needs_joinedMeaning, .ref q_needs_joinedPair, .int v_needs_joinedTold, .int v_needs_needsTold, .int v_needs_needed]))] sz)) (kQv D ca (va_A [(q_this, .inr (0, [.ref q_words, .ref q_heard, .ref q_canSay, .ref q_instead, .ref q_traders, .ref q_takes, .ref q_needs, .int v_speaks, .int v_alikeFrom])), (q_words, .inl (ca 0, 16, .inl v_words)), (q_heard, .inl (ca 0, 24, .inl v_heard)), (q_canSay, .inl (ca 0, 2, .inl v_canSay)), (q_instead, .inl (ca 0, 16, .inl v_instead)), (q_traders, .inl (ca 0, 2, .inl v_traders)), (q_takes, .inl (ca 0, 2, .inl v_takes)), (q_needs, .inr (4, [.ref q_needs_joinedMeaning, .ref q_needs_joinedPair, .int v_needs_joinedTold, .int v_needs_needsTold, .int v_needs_needed]))] sz) [(q_this, .inr (0, [.ref q_words, .ref q_heard, .ref q_canSay, .ref q_instead, .ref q_traders, .ref q_takes, .ref q_needs, .int o_speaks, .int o_alikeFrom])), (q_words, .inl (ca 0, 16, .inl o_words)), (q_heard, .inl (ca 0, 24, .inl o_heard)), (q_canSay, .inl (ca 0, 2, .inl o_canSay)), (q_instead, .inl (ca 0, 16, .inl o_instead)), (q_traders, .inl (ca 0, 2, .inl o_traders)), (q_takes, .inl (ca 0, 2, .inl o_takes)), (q_needs, .inr (4, [.ref q_needs_joinedMeaning, .ref q_needs_joinedPair, .int o_needs_joinedTold, .int o_needs_needsTold, .int o_needs_needed]))]) 0 0 (va_A [(q_this, .inr (0, [.ref q_words, .ref q_heard, .ref q_canSay, .ref q_instead, .ref q_traders, .ref q_takes, .ref q_needs, .int v_speaks, .int v_alikeFrom])), (q_words, .inl (ca 0, 16, .inl v_words)), (q_heard, .inl (ca 0, 24, .inl v_heard)), (q_canSay, .inl (ca 0, 2, .inl v_canSay)), (q_instead, .inl (ca 0, 16, .inl v_instead)), (q_traders, .inl (ca 0, 2, .inl v_traders)), (q_takes, .inl (ca 0, 2, .inl v_takes)), (q_needs, .inr (4, [.ref q_needs_joinedMeaning, .ref q_needs_joinedPair, .int v_needs_joinedTold, .int v_needs_needsTold, .int v_needs_needed]))] sz) := by
  refine Met.ofW (cc := cX0_clear) (maxL := 1) (ret := none) (by decide +kernel) rfl ?_
  intro p e s m args below meth c s₁ B hml hv
  obtain ⟨rfl, hsz, hP, hK, hD0⟩ := hv
  have hx := B.exec
  have hb := B.bytes
  have hr := B.returns
  have hts := atoms_spec (ws := wsX0_clear) B.pre
  have hown : s.vm.findClass RX0 = some m.cls := findClass_of_methodNamed B.named
  have hlocks := B.notSynchronized
  clear B
  subst hsz
  have hD := hD0.self (sz := s.heap.size)
  generalize hAe : va_A [(q_this, .inr (0, [.ref q_words, .ref q_heard, .ref q_canSay, .ref q_instead, .ref q_traders, .ref q_takes, .ref q_needs, .int v_speaks, .int v_alikeFrom])), (q_words, .inl (ca 0, 16, .inl v_words)), (q_heard, .inl (ca 0, 24, .inl v_heard)), (q_canSay, .inl (ca 0, 2, .inl v_canSay)), (q_instead, .inl (ca 0, 16, .inl v_instead)), (q_traders, .inl (ca 0, 2, .inl v_traders)), (q_takes, .inl (ca 0, 2, .inl v_takes)), (q_needs, .inr (4, [.ref q_needs_joinedMeaning, .ref q_needs_joinedPair, .int v_needs_joinedTold, .int v_needs_needsTold, .int v_needs_needed]))] s.heap.size = A at hD ⊢
  have hA : ∀ q : Nat, s.heap.size ≤ q → A q := fun q h => by rw [← hAe]; exact Or.inr h
  have hS : va_S A s.heap s.heap [] := va_S.rf
  have hl := lv_entry ([.ref q_this]) (n := 1) (Nat.le_of_ble_eq_true rfl)
  rw [lg_entry_eq]
  generalize (lg_sl ([.ref q_this]) ++ List.replicate (1 - (lg_sl ([.ref q_this])).length) Slot.unset).toArray = ls at hl ⊢
  have hl : lv_has ls 1 [(0, .ref q_this)] := hl
  generalize ([.ref q_this] : List Value).toArray = args at hts ⊢
  generalize hQe : MQ below (kQv D ca (A) [(q_this, .inr (0, [.ref q_words, .ref q_heard, .ref q_canSay, .ref q_instead, .ref q_traders, .ref q_takes, .ref q_needs, .int o_speaks, .int o_alikeFrom])), (q_words, .inl (ca 0, 16, .inl o_words)), (q_heard, .inl (ca 0, 24, .inl o_heard)), (q_canSay, .inl (ca 0, 2, .inl o_canSay)), (q_instead, .inl (ca 0, 16, .inl o_instead)), (q_traders, .inl (ca 0, 2, .inl o_traders)), (q_takes, .inl (ca 0, 2, .inl o_takes)), (q_needs, .inr (4, [.ref q_needs_joinedMeaning, .ref q_needs_joinedPair, .int o_needs_joinedTold, .int o_needs_needsTold, .int o_needs_needed]))]) args s 0 0 A = Q
  have i_X0 : ∀ w ∈ u_ws RX0 TX0 9, w ∈ wsX0_clear := by decide +kernel
  have k_9 := hts (.fieldLink RX0 9 "TradeWords$Beach" "words" "[I") (by decide +kernel)
  have k_15 := hts (.fieldLink RX0 15 "TradeWords$Beach" "heard" "[I") (by decide +kernel)
  have k_18 := hts (.fieldLink RX0 18 "TradeWords$Beach" "canSay" "[I") (by decide +kernel)
  have k_48 := hts (.constant RX0 48 (nI 65535)) (by decide +kernel)
  have k_21 := hts (.fieldLink RX0 21 "TradeWords$Beach" "instead" "[I") (by decide +kernel)
  have k_24 := hts (.fieldLink RX0 24 "TradeWords$Beach" "traders" "[I") (by decide +kernel)
  have k_27 := hts (.fieldLink RX0 27 "TradeWords$Beach" "takes" "[I") (by decide +kernel)
  have k_33 := hts (.fieldLink RX0 33 "TradeWords$Beach" "needs" "LTradeWords$Needs;") (by decide +kernel)
  have k_50 := hts (.fieldLink RX0 50 "TradeWords$Beach" "speaks" "I") (by decide +kernel)
  have k_54 := hts (.fieldLink RX0 54 "TradeWords$Beach" "alikeFrom" "I") (by decide +kernel)
  rw [D_X0_clear] at h
  refine lv_aload_n hx hb dX0_clear_0 rfl (lv_at hl 0 rfl) ?_
  refine va_get (D := D) (ci := 0) (v := .ref q_words) (C := RX0) (T := TX0) (N := 9) hx hb hts i_X0 hown hK hP 0 rfl rfl 0 (by decide) k_9 (fun _ h9 => h9) rfl dX0_clear_1 ?_
  refine lv_iconst (v := (nI 0)) hx hb dX0_clear_4 (by decide) ?_
  obtain ⟨y_words_1, hg_2, h⟩ := bd1_el h
  refine kx_Sv (As := [.ref q_words, .int (nI 0)]) (rest := []) (wr := [(q_this, .inr (0, [.ref q_words, .ref q_heard, .ref q_canSay, .ref q_instead, .ref q_traders, .ref q_takes, .ref q_needs, .int v_speaks, .int v_alikeFrom])), (q_heard, .inl (ca 0, 24, .inl v_heard)), (q_canSay, .inl (ca 0, 2, .inl v_canSay)), (q_instead, .inl (ca 0, 16, .inl v_instead)), (q_traders, .inl (ca 0, 2, .inl v_traders)), (q_takes, .inl (ca 0, 2, .inl v_takes)), (q_needs, .inr (4, [.ref q_needs_joinedMeaning, .ref q_needs_joinedPair, .int v_needs_joinedTold, .int v_needs_needsTold, .int v_needs_needed]))]) (w1 := [(q_words, .inl (ca 0, 16, .inl y_words_1))]) (wn := [(q_this, .inr (0, [.ref q_words, .ref q_heard, .ref q_canSay, .ref q_instead, .ref q_traders, .ref q_takes, .ref q_needs, .int v_speaks, .int v_alikeFrom])), (q_words, .inl (ca 0, 16, .inl y_words_1)), (q_heard, .inl (ca 0, 24, .inl v_heard)), (q_canSay, .inl (ca 0, 2, .inl v_canSay)), (q_instead, .inl (ca 0, 16, .inl v_instead)), (q_traders, .inl (ca 0, 2, .inl v_traders)), (q_takes, .inl (ca 0, 2, .inl v_takes)), (q_needs, .inr (4, [.ref q_needs_joinedMeaning, .ref q_needs_joinedPair, .int v_needs_joinedTold, .int v_needs_needsTold, .int v_needs_needed]))]) ⟨hx, hb, hml, hown, hts⟩ (c_J7_fill_53178 l D ca F s.heap.size q_words 16 (nI 0) v_words y_words_1 hg_2) (va_cwS 2 hts gX0_clear_J7_fill_53178 rfl rfl rfl (by decide +kernel) ⟨(Nat.le_of_ble_eq_true rfl), (Nat.le_of_ble_eq_true rfl)⟩) hK hP hD hS hA [1] [0, 2, 3, 4, 5, 6, 7] [0, 7, 1, 2, 3, 4, 5, 6] rfl rfl rfl rfl (by decide) rfl rfl rfl hl.1 rfl (Nat.le_of_ble_eq_true rfl) dX0_clear_5 ⟨Nat.zero_le _, Nat.zero_le _⟩ (fun H locs hP hD hS => ?_)
  refine lv_aload_n hx hb dX0_clear_8 rfl (lv_at hl 0 rfl) ?_
  refine va_get (D := D) (ci := 0) (v := .ref q_heard) (C := RX0) (T := TX0) (N := 9) hx hb hts i_X0 hown hK hP 0 rfl rfl 1 (by decide) k_15 (fun _ h9 => h9) rfl dX0_clear_9 ?_
  refine lv_iconst (v := (nI 0)) hx hb dX0_clear_12 (by decide) ?_
  obtain ⟨y_heard_3, hg_4, h⟩ := bd1_el h
  refine kx_Sv (As := [.ref q_heard, .int (nI 0)]) (rest := []) (wr := [(q_this, .inr (0, [.ref q_words, .ref q_heard, .ref q_canSay, .ref q_instead, .ref q_traders, .ref q_takes, .ref q_needs, .int v_speaks, .int v_alikeFrom])), (q_words, .inl (ca 0, 16, .inl y_words_1)), (q_canSay, .inl (ca 0, 2, .inl v_canSay)), (q_instead, .inl (ca 0, 16, .inl v_instead)), (q_traders, .inl (ca 0, 2, .inl v_traders)), (q_takes, .inl (ca 0, 2, .inl v_takes)), (q_needs, .inr (4, [.ref q_needs_joinedMeaning, .ref q_needs_joinedPair, .int v_needs_joinedTold, .int v_needs_needsTold, .int v_needs_needed]))]) (w1 := [(q_heard, .inl (ca 0, 24, .inl y_heard_3))]) (wn := [(q_this, .inr (0, [.ref q_words, .ref q_heard, .ref q_canSay, .ref q_instead, .ref q_traders, .ref q_takes, .ref q_needs, .int v_speaks, .int v_alikeFrom])), (q_words, .inl (ca 0, 16, .inl y_words_1)), (q_heard, .inl (ca 0, 24, .inl y_heard_3)), (q_canSay, .inl (ca 0, 2, .inl v_canSay)), (q_instead, .inl (ca 0, 16, .inl v_instead)), (q_traders, .inl (ca 0, 2, .inl v_traders)), (q_takes, .inl (ca 0, 2, .inl v_takes)), (q_needs, .inr (4, [.ref q_needs_joinedMeaning, .ref q_needs_joinedPair, .int v_needs_joinedTold, .int v_needs_needsTold, .int v_needs_needed]))]) ⟨hx, hb, hml, hown, hts⟩ (c_J7_fill_53178 l D ca F H.size q_heard 24 (nI 0) v_heard y_heard_3 hg_4) (va_cwS 2 hts gX0_clear_J7_fill_53178 rfl rfl rfl (by decide +kernel) ⟨(Nat.le_of_ble_eq_true rfl), (Nat.le_of_ble_eq_true rfl)⟩) hK hP hD hS hA [2] [0, 1, 3, 4, 5, 6, 7] [0, 1, 7, 2, 3, 4, 5, 6] rfl rfl rfl rfl (by decide) rfl rfl rfl hl.1 rfl (Nat.le_of_ble_eq_true rfl) dX0_clear_13 ⟨Nat.zero_le _, Nat.zero_le _⟩ (fun H locs hP hD hS => ?_)
  refine lv_aload_n hx hb dX0_clear_16 rfl (lv_at hl 0 rfl) ?_
  refine va_get (D := D) (ci := 0) (v := .ref q_canSay) (C := RX0) (T := TX0) (N := 9) hx hb hts i_X0 hown hK hP 0 rfl rfl 2 (by decide) k_18 (fun _ h9 => h9) rfl dX0_clear_17 ?_
  refine lv_ldc hx hb hown k_48 dX0_clear_20 ?_
  obtain ⟨y_canSay_5, hg_6, h⟩ := bd1_el h
  refine kx_Sv (As := [.ref q_canSay, .int (nI 65535)]) (rest := []) (wr := [(q_this, .inr (0, [.ref q_words, .ref q_heard, .ref q_canSay, .ref q_instead, .ref q_traders, .ref q_takes, .ref q_needs, .int v_speaks, .int v_alikeFrom])), (q_words, .inl (ca 0, 16, .inl y_words_1)), (q_heard, .inl (ca 0, 24, .inl y_heard_3)), (q_instead, .inl (ca 0, 16, .inl v_instead)), (q_traders, .inl (ca 0, 2, .inl v_traders)), (q_takes, .inl (ca 0, 2, .inl v_takes)), (q_needs, .inr (4, [.ref q_needs_joinedMeaning, .ref q_needs_joinedPair, .int v_needs_joinedTold, .int v_needs_needsTold, .int v_needs_needed]))]) (w1 := [(q_canSay, .inl (ca 0, 2, .inl y_canSay_5))]) (wn := [(q_this, .inr (0, [.ref q_words, .ref q_heard, .ref q_canSay, .ref q_instead, .ref q_traders, .ref q_takes, .ref q_needs, .int v_speaks, .int v_alikeFrom])), (q_words, .inl (ca 0, 16, .inl y_words_1)), (q_heard, .inl (ca 0, 24, .inl y_heard_3)), (q_canSay, .inl (ca 0, 2, .inl y_canSay_5)), (q_instead, .inl (ca 0, 16, .inl v_instead)), (q_traders, .inl (ca 0, 2, .inl v_traders)), (q_takes, .inl (ca 0, 2, .inl v_takes)), (q_needs, .inr (4, [.ref q_needs_joinedMeaning, .ref q_needs_joinedPair, .int v_needs_joinedTold, .int v_needs_needsTold, .int v_needs_needed]))]) ⟨hx, hb, hml, hown, hts⟩ (c_J7_fill_53178 l D ca F H.size q_canSay 2 (nI 65535) v_canSay y_canSay_5 hg_6) (va_cwS 2 hts gX0_clear_J7_fill_53178 rfl rfl rfl (by decide +kernel) ⟨(Nat.le_of_ble_eq_true rfl), (Nat.le_of_ble_eq_true rfl)⟩) hK hP hD hS hA [3] [0, 1, 2, 4, 5, 6, 7] [0, 1, 2, 7, 3, 4, 5, 6] rfl rfl rfl rfl (by decide) rfl rfl rfl hl.1 rfl (Nat.le_of_ble_eq_true rfl) dX0_clear_22 ⟨Nat.zero_le _, Nat.zero_le _⟩ (fun H locs hP hD hS => ?_)
  refine lv_aload_n hx hb dX0_clear_25 rfl (lv_at hl 0 rfl) ?_
  refine va_get (D := D) (ci := 0) (v := .ref q_instead) (C := RX0) (T := TX0) (N := 9) hx hb hts i_X0 hown hK hP 0 rfl rfl 3 (by decide) k_21 (fun _ h9 => h9) rfl dX0_clear_26 ?_
  refine lv_bipush (v := (-4 : Int32)) hx hb dX0_clear_29 (by decide) ?_
  obtain ⟨y_instead_7, hg_8, h⟩ := bd1_el h
  refine kx_Sv (As := [.ref q_instead, .int (-4 : Int32)]) (rest := []) (wr := [(q_this, .inr (0, [.ref q_words, .ref q_heard, .ref q_canSay, .ref q_instead, .ref q_traders, .ref q_takes, .ref q_needs, .int v_speaks, .int v_alikeFrom])), (q_words, .inl (ca 0, 16, .inl y_words_1)), (q_heard, .inl (ca 0, 24, .inl y_heard_3)), (q_canSay, .inl (ca 0, 2, .inl y_canSay_5)), (q_traders, .inl (ca 0, 2, .inl v_traders)), (q_takes, .inl (ca 0, 2, .inl v_takes)), (q_needs, .inr (4, [.ref q_needs_joinedMeaning, .ref q_needs_joinedPair, .int v_needs_joinedTold, .int v_needs_needsTold, .int v_needs_needed]))]) (w1 := [(q_instead, .inl (ca 0, 16, .inl y_instead_7))]) (wn := [(q_this, .inr (0, [.ref q_words, .ref q_heard, .ref q_canSay, .ref q_instead, .ref q_traders, .ref q_takes, .ref q_needs, .int v_speaks, .int v_alikeFrom])), (q_words, .inl (ca 0, 16, .inl y_words_1)), (q_heard, .inl (ca 0, 24, .inl y_heard_3)), (q_canSay, .inl (ca 0, 2, .inl y_canSay_5)), (q_instead, .inl (ca 0, 16, .inl y_instead_7)), (q_traders, .inl (ca 0, 2, .inl v_traders)), (q_takes, .inl (ca 0, 2, .inl v_takes)), (q_needs, .inr (4, [.ref q_needs_joinedMeaning, .ref q_needs_joinedPair, .int v_needs_joinedTold, .int v_needs_needsTold, .int v_needs_needed]))]) ⟨hx, hb, hml, hown, hts⟩ (c_J7_fill_53178 l D ca F H.size q_instead 16 (-4 : Int32) v_instead y_instead_7 hg_8) (va_cwS 2 hts gX0_clear_J7_fill_53178 rfl rfl rfl (by decide +kernel) ⟨(Nat.le_of_ble_eq_true rfl), (Nat.le_of_ble_eq_true rfl)⟩) hK hP hD hS hA [4] [0, 1, 2, 3, 5, 6, 7] [0, 1, 2, 3, 7, 4, 5, 6] rfl rfl rfl rfl (by decide) rfl rfl rfl hl.1 rfl (Nat.le_of_ble_eq_true rfl) dX0_clear_31 ⟨Nat.zero_le _, Nat.zero_le _⟩ (fun H locs hP hD hS => ?_)
  refine lv_aload_n hx hb dX0_clear_34 rfl (lv_at hl 0 rfl) ?_
  refine va_get (D := D) (ci := 0) (v := .ref q_traders) (C := RX0) (T := TX0) (N := 9) hx hb hts i_X0 hown hK hP 0 rfl rfl 4 (by decide) k_24 (fun _ h9 => h9) rfl dX0_clear_35 ?_
  refine lv_iconst (v := (nI 4)) hx hb dX0_clear_38 (by decide) ?_
  obtain ⟨y_traders_9, hg_10, h⟩ := bd1_el h
  refine kx_Sv (As := [.ref q_traders, .int (nI 4)]) (rest := []) (wr := [(q_this, .inr (0, [.ref q_words, .ref q_heard, .ref q_canSay, .ref q_instead, .ref q_traders, .ref q_takes, .ref q_needs, .int v_speaks, .int v_alikeFrom])), (q_words, .inl (ca 0, 16, .inl y_words_1)), (q_heard, .inl (ca 0, 24, .inl y_heard_3)), (q_canSay, .inl (ca 0, 2, .inl y_canSay_5)), (q_instead, .inl (ca 0, 16, .inl y_instead_7)), (q_takes, .inl (ca 0, 2, .inl v_takes)), (q_needs, .inr (4, [.ref q_needs_joinedMeaning, .ref q_needs_joinedPair, .int v_needs_joinedTold, .int v_needs_needsTold, .int v_needs_needed]))]) (w1 := [(q_traders, .inl (ca 0, 2, .inl y_traders_9))]) (wn := [(q_this, .inr (0, [.ref q_words, .ref q_heard, .ref q_canSay, .ref q_instead, .ref q_traders, .ref q_takes, .ref q_needs, .int v_speaks, .int v_alikeFrom])), (q_words, .inl (ca 0, 16, .inl y_words_1)), (q_heard, .inl (ca 0, 24, .inl y_heard_3)), (q_canSay, .inl (ca 0, 2, .inl y_canSay_5)), (q_instead, .inl (ca 0, 16, .inl y_instead_7)), (q_traders, .inl (ca 0, 2, .inl y_traders_9)), (q_takes, .inl (ca 0, 2, .inl v_takes)), (q_needs, .inr (4, [.ref q_needs_joinedMeaning, .ref q_needs_joinedPair, .int v_needs_joinedTold, .int v_needs_needsTold, .int v_needs_needed]))]) ⟨hx, hb, hml, hown, hts⟩ (c_J7_fill_53178 l D ca F H.size q_traders 2 (nI 4) v_traders y_traders_9 hg_10) (va_cwS 2 hts gX0_clear_J7_fill_53178 rfl rfl rfl (by decide +kernel) ⟨(Nat.le_of_ble_eq_true rfl), (Nat.le_of_ble_eq_true rfl)⟩) hK hP hD hS hA [5] [0, 1, 2, 3, 4, 6, 7] [0, 1, 2, 3, 4, 7, 5, 6] rfl rfl rfl rfl (by decide) rfl rfl rfl hl.1 rfl (Nat.le_of_ble_eq_true rfl) dX0_clear_39 ⟨Nat.zero_le _, Nat.zero_le _⟩ (fun H locs hP hD hS => ?_)
  refine lv_aload_n hx hb dX0_clear_42 rfl (lv_at hl 0 rfl) ?_
  refine va_get (D := D) (ci := 0) (v := .ref q_takes) (C := RX0) (T := TX0) (N := 9) hx hb hts i_X0 hown hK hP 0 rfl rfl 5 (by decide) k_27 (fun _ h9 => h9) rfl dX0_clear_43 ?_
  refine lv_iconst (v := (nI 5)) hx hb dX0_clear_46 (by decide) ?_
  obtain ⟨y_takes_11, hg_12, h⟩ := bd1_el h
  refine kx_Sv (As := [.ref q_takes, .int (nI 5)]) (rest := []) (wr := [(q_this, .inr (0, [.ref q_words, .ref q_heard, .ref q_canSay, .ref q_instead, .ref q_traders, .ref q_takes, .ref q_needs, .int v_speaks, .int v_alikeFrom])), (q_words, .inl (ca 0, 16, .inl y_words_1)), (q_heard, .inl (ca 0, 24, .inl y_heard_3)), (q_canSay, .inl (ca 0, 2, .inl y_canSay_5)), (q_instead, .inl (ca 0, 16, .inl y_instead_7)), (q_traders, .inl (ca 0, 2, .inl y_traders_9)), (q_needs, .inr (4, [.ref q_needs_joinedMeaning, .ref q_needs_joinedPair, .int v_needs_joinedTold, .int v_needs_needsTold, .int v_needs_needed]))]) (w1 := [(q_takes, .inl (ca 0, 2, .inl y_takes_11))]) (wn := [(q_this, .inr (0, [.ref q_words, .ref q_heard, .ref q_canSay, .ref q_instead, .ref q_traders, .ref q_takes, .ref q_needs, .int v_speaks, .int v_alikeFrom])), (q_words, .inl (ca 0, 16, .inl y_words_1)), (q_heard, .inl (ca 0, 24, .inl y_heard_3)), (q_canSay, .inl (ca 0, 2, .inl y_canSay_5)), (q_instead, .inl (ca 0, 16, .inl y_instead_7)), (q_traders, .inl (ca 0, 2, .inl y_traders_9)), (q_takes, .inl (ca 0, 2, .inl y_takes_11)), (q_needs, .inr (4, [.ref q_needs_joinedMeaning, .ref q_needs_joinedPair, .int v_needs_joinedTold, .int v_needs_needsTold, .int v_needs_needed]))]) ⟨hx, hb, hml, hown, hts⟩ (c_J7_fill_53178 l D ca F H.size q_takes 2 (nI 5) v_takes y_takes_11 hg_12) (va_cwS 2 hts gX0_clear_J7_fill_53178 rfl rfl rfl (by decide +kernel) ⟨(Nat.le_of_ble_eq_true rfl), (Nat.le_of_ble_eq_true rfl)⟩) hK hP hD hS hA [6] [0, 1, 2, 3, 4, 5, 7] [0, 1, 2, 3, 4, 5, 7, 6] rfl rfl rfl rfl (by decide) rfl rfl rfl hl.1 rfl (Nat.le_of_ble_eq_true rfl) dX0_clear_47 ⟨Nat.zero_le _, Nat.zero_le _⟩ (fun H locs hP hD hS => ?_)
  refine lv_aload_n hx hb dX0_clear_50 rfl (lv_at hl 0 rfl) ?_
  refine va_get (D := D) (ci := 0) (v := .ref q_needs) (C := RX0) (T := TX0) (N := 9) hx hb hts i_X0 hown hK hP 0 rfl rfl 6 (by decide) k_33 (fun _ h9 => h9) rfl dX0_clear_51 ?_
  obtain ⟨y_needs_joinedTold_13, y_needs_needsTold_14, y_needs_needed_15, hg_16, h⟩ := bd3_el h
  refine kx_Vv (As := []) (rest := []) (wr := [(q_this, .inr (0, [.ref q_words, .ref q_heard, .ref q_canSay, .ref q_instead, .ref q_traders, .ref q_takes, .ref q_needs, .int v_speaks, .int v_alikeFrom])), (q_words, .inl (ca 0, 16, .inl y_words_1)), (q_heard, .inl (ca 0, 24, .inl y_heard_3)), (q_canSay, .inl (ca 0, 2, .inl y_canSay_5)), (q_instead, .inl (ca 0, 16, .inl y_instead_7)), (q_traders, .inl (ca 0, 2, .inl y_traders_9)), (q_takes, .inl (ca 0, 2, .inl y_takes_11))]) (w1 := [(q_needs, .inr (4, [.ref q_needs_joinedMeaning, .ref q_needs_joinedPair, .int y_needs_joinedTold_13, .int y_needs_needsTold_14, .int y_needs_needed_15]))]) (wn := [(q_this, .inr (0, [.ref q_words, .ref q_heard, .ref q_canSay, .ref q_instead, .ref q_traders, .ref q_takes, .ref q_needs, .int v_speaks, .int v_alikeFrom])), (q_words, .inl (ca 0, 16, .inl y_words_1)), (q_heard, .inl (ca 0, 24, .inl y_heard_3)), (q_canSay, .inl (ca 0, 2, .inl y_canSay_5)), (q_instead, .inl (ca 0, 16, .inl y_instead_7)), (q_traders, .inl (ca 0, 2, .inl y_traders_9)), (q_takes, .inl (ca 0, 2, .inl y_takes_11)), (q_needs, .inr (4, [.ref q_needs_joinedMeaning, .ref q_needs_joinedPair, .int y_needs_joinedTold_13, .int y_needs_needsTold_14, .int y_needs_needed_15]))]) ⟨hx, hb, hml, hown, hts⟩ (c_X4_clear l D ca H.size q_needs q_needs_joinedMeaning q_needs_joinedPair v_needs_joinedTold v_needs_needsTold v_needs_needed y_needs_joinedTold_13 y_needs_needsTold_14 y_needs_needed_15 hg_16) (cwV 0 hts gX0_clear_X4_clear rfl rfl rfl (by decide +kernel) ⟨(Nat.le_of_ble_eq_true rfl), (Nat.le_of_ble_eq_true rfl)⟩) hK hP hD hS hA (ci := 4) (q0 := 0) rfl rfl [7] [0, 1, 2, 3, 4, 5, 6] [0, 1, 2, 3, 4, 5, 6, 7] rfl rfl rfl rfl (by decide) rfl rfl rfl hl.1 rfl (Nat.le_of_ble_eq_true rfl) dX0_clear_54 ⟨Nat.zero_le _, Nat.zero_le _⟩ (fun H locs hP hD hS => ?_)
  refine lv_aload_n hx hb dX0_clear_57 rfl (lv_at hl 0 rfl) ?_
  refine lv_iconst (v := (nI 5)) hx hb dX0_clear_58 (by decide) ?_
  refine va_put (D := D) (ci := 0) (v := .int (nI 5)) (ty := .int) (C := RX0) (T := TX0) (N := 9) hx hb hts i_X0 tyX0 tyX0_ok nmX0 hown hK hP hD hS 0 rfl rfl 7 (by decide) k_50 (fun _ h9 => h9) rfl (by decide +kernel) rfl rfl (Nat.le_of_ble_eq_true rfl) dX0_clear_59 (fun H locs hP hD hS => ?_)
  have hP : va_P D vwCl [(q_this, .inr (0, [.ref q_words, .ref q_heard, .ref q_canSay, .ref q_instead, .ref q_traders, .ref q_takes, .ref q_needs, .int (nI 5), .int v_alikeFrom])), (q_words, .inl (ca 0, 16, .inl y_words_1)), (q_heard, .inl (ca 0, 24, .inl y_heard_3)), (q_canSay, .inl (ca 0, 2, .inl y_canSay_5)), (q_instead, .inl (ca 0, 16, .inl y_instead_7)), (q_traders, .inl (ca 0, 2, .inl y_traders_9)), (q_takes, .inl (ca 0, 2, .inl y_takes_11)), (q_needs, .inr (4, [.ref q_needs_joinedMeaning, .ref q_needs_joinedPair, .int y_needs_joinedTold_13, .int y_needs_needsTold_14, .int y_needs_needed_15]))] H := hP
  have hD : va_D A [(q_this, .inr (0, [.ref q_words, .ref q_heard, .ref q_canSay, .ref q_instead, .ref q_traders, .ref q_takes, .ref q_needs, .int (nI 5), .int v_alikeFrom])), (q_words, .inl (ca 0, 16, .inl y_words_1)), (q_heard, .inl (ca 0, 24, .inl y_heard_3)), (q_canSay, .inl (ca 0, 2, .inl y_canSay_5)), (q_instead, .inl (ca 0, 16, .inl y_instead_7)), (q_traders, .inl (ca 0, 2, .inl y_traders_9)), (q_takes, .inl (ca 0, 2, .inl y_takes_11)), (q_needs, .inr (4, [.ref q_needs_joinedMeaning, .ref q_needs_joinedPair, .int y_needs_joinedTold_13, .int y_needs_needsTold_14, .int y_needs_needed_15]))] := hD
  refine lv_aload_n hx hb dX0_clear_62 rfl (lv_at hl 0 rfl) ?_
  refine lv_bipush (v := (nI 70)) hx hb dX0_clear_63 (by decide) ?_
  refine va_put (D := D) (ci := 0) (v := .int (nI 70)) (ty := .int) (C := RX0) (T := TX0) (N := 9) hx hb hts i_X0 tyX0 tyX0_ok nmX0 hown hK hP hD hS 0 rfl rfl 8 (by decide) k_54 (fun _ h9 => h9) rfl (by decide +kernel) rfl rfl (Nat.le_of_ble_eq_true rfl) dX0_clear_65 (fun H locs hP hD hS => ?_)
  have hP : va_P D vwCl [(q_this, .inr (0, [.ref q_words, .ref q_heard, .ref q_canSay, .ref q_instead, .ref q_traders, .ref q_takes, .ref q_needs, .int (nI 5), .int (nI 70)])), (q_words, .inl (ca 0, 16, .inl y_words_1)), (q_heard, .inl (ca 0, 24, .inl y_heard_3)), (q_canSay, .inl (ca 0, 2, .inl y_canSay_5)), (q_instead, .inl (ca 0, 16, .inl y_instead_7)), (q_traders, .inl (ca 0, 2, .inl y_traders_9)), (q_takes, .inl (ca 0, 2, .inl y_takes_11)), (q_needs, .inr (4, [.ref q_needs_joinedMeaning, .ref q_needs_joinedPair, .int y_needs_joinedTold_13, .int y_needs_needsTold_14, .int y_needs_needed_15]))] H := hP
  have hD : va_D A [(q_this, .inr (0, [.ref q_words, .ref q_heard, .ref q_canSay, .ref q_instead, .ref q_traders, .ref q_takes, .ref q_needs, .int (nI 5), .int (nI 70)])), (q_words, .inl (ca 0, 16, .inl y_words_1)), (q_heard, .inl (ca 0, 24, .inl y_heard_3)), (q_canSay, .inl (ca 0, 2, .inl y_canSay_5)), (q_instead, .inl (ca 0, 16, .inl y_instead_7)), (q_traders, .inl (ca 0, 2, .inl y_traders_9)), (q_takes, .inl (ca 0, 2, .inl y_takes_11)), (q_needs, .inr (4, [.ref q_needs_joinedMeaning, .ref q_needs_joinedPair, .int y_needs_joinedTold_13, .int y_needs_needsTold_14, .int y_needs_needed_15]))] := hD
  cases h
  rw [← hQe]
  exact W.vret hx hb hr (fun t ht hW => ⟨⟨(), rfl, trivial, by rw [ht]; exact hP, va_K.moved hW.alike hK, hD⟩, hS.F ht⟩) hS.2.2 dX0_clear_68
def D_X5_at (n_a1 : Nat) (p2 : Int32) (v_a1 : Nat → Int32) : Option (Int32) := (if p2 < 0 then some ((nI 0)) else (if (nI n_a1) ≤ p2 then some ((nI 0)) else ck n_a1 p2 (some ((v_a1 p2.toNatClampNeg)))))
abbrev rm_X5_at : Room := { frames := 0, cells := 0, slots := 0, locals := 0 }
set_option maxHeartbeats 4000000 in
set_option maxRecDepth 100000 in
theorem c_X5_at (l : Launch) (D : va_G) (ca : Nat → ClassId) (sz : Nat) (q_a1 : Nat) (n_a1 : Nat) (p2 : Int32) (v_a1 : Nat → Int32) (r : Int32) (h : D_X5_at n_a1 p2 v_a1 = some (r)) : Met l yX5_at wsX5_at rm_X5_at (va_Pc [.ref q_a1, .int p2] (kPre D ca [(q_a1, .inl (ca 0, n_a1, .inl v_a1))] sz)) (kQi D ca (va_A [(q_a1, .inl (ca 0, n_a1, .inl v_a1))] sz) [(q_a1, .inl (ca 0, n_a1, .inl v_a1))] r) 0 0 (va_A [(q_a1, .inl (ca 0, n_a1, .inl v_a1))] sz) := by
  refine Met.ofW (cc := cX5_at) (maxL := 2) (ret := (some .int)) (by decide +kernel) rfl ?_
  intro p e s m args below meth c s₁ B hml hv
  obtain ⟨rfl, hsz, hP, hK, hD0⟩ := hv
  have hx := B.exec
  have hb := B.bytes
  have hr := B.returns
  have hts := atoms_spec (ws := wsX5_at) B.pre
  have hown : s.vm.findClass RX5 = some m.cls := findClass_of_methodNamed B.named
  have hlocks := B.notSynchronized
  clear B
  subst hsz
  have hD := hD0.self (sz := s.heap.size)
  generalize hAe : va_A [(q_a1, .inl (ca 0, n_a1, .inl v_a1))] s.heap.size = A at hD ⊢
  have hA : ∀ q : Nat, s.heap.size ≤ q → A q := fun q h => by rw [← hAe]; exact Or.inr h
  have hS : va_S A s.heap s.heap [] := va_S.rf
  have hl := lv_entry ([.ref q_a1, .int p2]) (n := 2) (Nat.le_of_ble_eq_true rfl)
  rw [lg_entry_eq]
  generalize (lg_sl ([.ref q_a1, .int p2]) ++ List.replicate (2 - (lg_sl ([.ref q_a1, .int p2])).length) Slot.unset).toArray = ls at hl ⊢
  have hl : lv_has ls 2 [(0, .ref q_a1), (1, .int p2)] := hl
  generalize ([.ref q_a1, .int p2] : List Value).toArray = args at hts ⊢
  generalize hQe : MQ below (kQi D ca (A) [(q_a1, .inl (ca 0, n_a1, .inl v_a1))] r) args s 0 0 A = Q
  rw [D_X5_at] at h
  refine lv_iload_n hx hb dX5_at_0 rfl (lv_at hl 1 rfl) ?_
  refine lv_if_lt (tgt := 16) hx hb dX5_at_1 (by decide) (fun c_1 => ?_) (fun c_1 => ?_)
  · replace h := ifp_el c_1 h
    refine lv_iconst (v := (nI 0)) hx hb dX5_at_16 (by decide) ?_
    cases h
    rw [← hQe]
    exact W.iret hx hb hr (fun t ht hW => ⟨⟨_, (), rfl, rfl, by rw [ht]; exact hP, va_K.moved hW.alike hK, hD⟩, hS.F ht⟩) hS.2.2 dX5_at_17
  · replace h := ifn_el c_1 h
    refine lv_iload_n hx hb dX5_at_4 rfl (lv_at hl 1 rfl) ?_
    refine lv_aload_n hx hb dX5_at_5 rfl (lv_at hl 0 rfl) ?_
    refine va_alen hx hb hK hP 0 0 rfl rfl (v := (nI n_a1)) rfl dX5_at_6 ?_
    refine lv_icmp_ge (tgt := 16) hx hb dX5_at_7 (by decide) (fun c_2 => ?_) (fun c_2 => ?_)
    · replace h := ifp_el c_2 h
      refine lv_iconst (v := (nI 0)) hx hb dX5_at_16 (by decide) ?_
      cases h
      rw [← hQe]
      exact W.iret hx hb hr (fun t ht hW => ⟨⟨_, (), rfl, rfl, by rw [ht]; exact hP, va_K.moved hW.alike hK, hD⟩, hS.F ht⟩) hS.2.2 dX5_at_17
    · replace h := ifn_el c_2 h
      refine lv_aload_n hx hb dX5_at_10 rfl (lv_at hl 0 rfl) ?_
      refine lv_iload_n hx hb dX5_at_11 rfl (lv_at hl 1 rfl) ?_
      obtain ⟨hi_3, h⟩ := ck_el h
      refine va_iald hx hb hK hP 0 0 rfl rfl hi_3 dX5_at_12 ?_
      refine lv_goto (tgt := 17) hx hb dX5_at_13 (by decide) ?_
      cases h
      rw [← hQe]
      exact W.iret hx hb hr (fun t ht hW => ⟨⟨_, (), rfl, rfl, by rw [ht]; exact hP, va_K.moved hW.alike hK, hD⟩, hS.F ht⟩) hS.2.2 dX5_at_17
def D_X2_number (p1 : Int32) (v_numbers : Nat → Int32) : Option (Int32) := bd1 (D_X5_at 3 p1 v_numbers) (fun r_1 => some (r_1))
abbrev rm_X2_number : Room := { frames := 1, cells := 0, slots := 0, locals := 21 }
set_option maxHeartbeats 4000000 in
set_option maxRecDepth 100000 in
theorem c_X2_number (l : Launch) (D : va_G) (ca : Nat → ClassId) (sz : Nat) (q_this q_text q_numbers : Nat) (p1 : Int32) (v_place : Int32) (v_letter : Int32) (v_word : Int32) (v_bits : Int32) (v_numbers : Nat → Int32) (r : Int32) (h : D_X2_number p1 v_numbers = some (r)) : Met l yX2_number wsX2_number rm_X2_number (va_Pc [.ref q_this, .int p1] (kPre D ca [(q_this, .inr (2, [.ref q_text, .ref q_numbers, .int v_place, .int v_letter, .int v_word, .int v_bits])), (q_numbers, .inl (ca 0, 3, .inl v_numbers))] sz)) (kQi D ca (va_A [(q_this, .inr (2, [.ref q_text, .ref q_numbers, .int v_place, .int v_letter, .int v_word, .int v_bits])), (q_numbers, .inl (ca 0, 3, .inl v_numbers))] sz) [(q_this, .inr (2, [.ref q_text, .ref q_numbers, .int v_place, .int v_letter, .int v_word, .int v_bits])), (q_numbers, .inl (ca 0, 3, .inl v_numbers))] r) 0 0 (va_A [(q_this, .inr (2, [.ref q_text, .ref q_numbers, .int v_place, .int v_letter, .int v_word, .int v_bits])), (q_numbers, .inl (ca 0, 3, .inl v_numbers))] sz) := by
  refine Met.ofW (cc := cX2_number) (maxL := 2) (ret := (some .int)) (by decide +kernel) rfl ?_
  intro p e s m args below meth c s₁ B hml hv
  obtain ⟨rfl, hsz, hP, hK, hD0⟩ := hv
  have hx := B.exec
  have hb := B.bytes
  have hr := B.returns
  have hts := atoms_spec (ws := wsX2_number) B.pre
  have hown : s.vm.findClass RX2 = some m.cls := findClass_of_methodNamed B.named
  have hlocks := B.notSynchronized
  clear B
  subst hsz
  have hD := hD0.self (sz := s.heap.size)
  generalize hAe : va_A [(q_this, .inr (2, [.ref q_text, .ref q_numbers, .int v_place, .int v_letter, .int v_word, .int v_bits])), (q_numbers, .inl (ca 0, 3, .inl v_numbers))] s.heap.size = A at hD ⊢
  have hA : ∀ q : Nat, s.heap.size ≤ q → A q := fun q h => by rw [← hAe]; exact Or.inr h
  have hS : va_S A s.heap s.heap [] := va_S.rf
  have hl := lv_entry ([.ref q_this, .int p1]) (n := 2) (Nat.le_of_ble_eq_true rfl)
  rw [lg_entry_eq]
  generalize (lg_sl ([.ref q_this, .int p1]) ++ List.replicate (2 - (lg_sl ([.ref q_this, .int p1])).length) Slot.unset).toArray = ls at hl ⊢
  have hl : lv_has ls 2 [(0, .ref q_this), (1, .int p1)] := hl
  generalize ([.ref q_this, .int p1] : List Value).toArray = args at hts ⊢
  generalize hQe : MQ below (kQi D ca (A) [(q_this, .inr (2, [.ref q_text, .ref q_numbers, .int v_place, .int v_letter, .int v_word, .int v_bits])), (q_numbers, .inl (ca 0, 3, .inl v_numbers))] r) args s 0 0 A = Q
  have i_X2 : ∀ w ∈ u_ws RX2 TX2 6, w ∈ wsX2_number := by decide +kernel
  have k_9 := hts (.fieldLink RX2 9 "TradeWords$Item" "numbers" "[I") (by decide +kernel)
  rw [D_X2_number] at h
  refine lv_aload_n hx hb dX2_number_0 rfl (lv_at hl 0 rfl) ?_
  refine va_get (D := D) (ci := 2) (v := .ref q_numbers) (C := RX2) (T := TX2) (N := 6) hx hb hts i_X2 hown hK hP 0 rfl rfl 1 (by decide) k_9 (fun _ h9 => h9) rfl dX2_number_1 ?_
  refine lv_iload_n hx hb dX2_number_4 rfl (lv_at hl 1 rfl) ?_
  obtain ⟨r_1, hg_2, h⟩ := bd1_el h
  refine kx_Si (As := [.ref q_numbers, .int p1]) (rest := []) (wr := [(q_this, .inr (2, [.ref q_text, .ref q_numbers, .int v_place, .int v_letter, .int v_word, .int v_bits]))]) (w1 := [(q_numbers, .inl (ca 0, 3, .inl v_numbers))]) (wn := [(q_this, .inr (2, [.ref q_text, .ref q_numbers, .int v_place, .int v_letter, .int v_word, .int v_bits])), (q_numbers, .inl (ca 0, 3, .inl v_numbers))]) ⟨hx, hb, hml, hown, hts⟩ (c_X5_at l D ca s.heap.size q_numbers 3 p1 v_numbers r_1 hg_2) (va_cwS 2 hts gX2_number_X5_at rfl rfl rfl (by decide +kernel) ⟨(Nat.le_of_ble_eq_true rfl), (Nat.le_of_ble_eq_true rfl)⟩) hK hP hD hS hA [1] [0] [0, 1] rfl rfl rfl rfl (by decide) rfl rfl rfl hl.1 rfl (Nat.le_of_ble_eq_true rfl) dX2_number_5 ⟨Nat.zero_le _, Nat.zero_le _⟩ (fun H locs hP hD hS => ?_)
  cases h
  rw [← hQe]
  exact W.iret hx hb hr (fun t ht hW => ⟨⟨_, (), rfl, rfl, by rw [ht]; exact hP, va_K.moved hW.alike hK, hD⟩, hS.F ht⟩) hS.2.2 dX2_number_8
def D_X2_letter (v_letter : Int32) : Option (Int32) := some (v_letter)
abbrev rm_X2_letter : Room := { frames := 0, cells := 0, slots := 0, locals := 0 }
set_option maxHeartbeats 4000000 in
set_option maxRecDepth 100000 in
theorem c_X2_letter (l : Launch) (D : va_G) (ca : Nat → ClassId) (sz : Nat) (q_this q_text q_numbers : Nat) (v_place : Int32) (v_letter : Int32) (v_word : Int32) (v_bits : Int32) (r : Int32) (h : D_X2_letter v_letter = some (r)) : Met l yX2_letter wsX2_letter rm_X2_letter (va_Pc [.ref q_this] (kPre D ca [(q_this, .inr (2, [.ref q_text, .ref q_numbers, .int v_place, .int v_letter, .int v_word, .int v_bits]))] sz)) (kQi D ca (va_A [(q_this, .inr (2, [.ref q_text, .ref q_numbers, .int v_place, .int v_letter, .int v_word, .int v_bits]))] sz) [(q_this, .inr (2, [.ref q_text, .ref q_numbers, .int v_place, .int v_letter, .int v_word, .int v_bits]))] r) 0 0 (va_A [(q_this, .inr (2, [.ref q_text, .ref q_numbers, .int v_place, .int v_letter, .int v_word, .int v_bits]))] sz) := by
  refine Met.ofW (cc := cX2_letter) (maxL := 1) (ret := (some .int)) (by decide +kernel) rfl ?_
  intro p e s m args below meth c s₁ B hml hv
  obtain ⟨rfl, hsz, hP, hK, hD0⟩ := hv
  have hx := B.exec
  have hb := B.bytes
  have hr := B.returns
  have hts := atoms_spec (ws := wsX2_letter) B.pre
  have hown : s.vm.findClass RX2 = some m.cls := findClass_of_methodNamed B.named
  have hlocks := B.notSynchronized
  clear B
  subst hsz
  have hD := hD0.self (sz := s.heap.size)
  generalize hAe : va_A [(q_this, .inr (2, [.ref q_text, .ref q_numbers, .int v_place, .int v_letter, .int v_word, .int v_bits]))] s.heap.size = A at hD ⊢
  have hA : ∀ q : Nat, s.heap.size ≤ q → A q := fun q h => by rw [← hAe]; exact Or.inr h
  have hS : va_S A s.heap s.heap [] := va_S.rf
  have hl := lv_entry ([.ref q_this]) (n := 1) (Nat.le_of_ble_eq_true rfl)
  rw [lg_entry_eq]
  generalize (lg_sl ([.ref q_this]) ++ List.replicate (1 - (lg_sl ([.ref q_this])).length) Slot.unset).toArray = ls at hl ⊢
  have hl : lv_has ls 1 [(0, .ref q_this)] := hl
  generalize ([.ref q_this] : List Value).toArray = args at hts ⊢
  generalize hQe : MQ below (kQi D ca (A) [(q_this, .inr (2, [.ref q_text, .ref q_numbers, .int v_place, .int v_letter, .int v_word, .int v_bits]))] r) args s 0 0 A = Q
  have i_X2 : ∀ w ∈ u_ws RX2 TX2 6, w ∈ wsX2_letter := by decide +kernel
  have k_29 := hts (.fieldLink RX2 29 "TradeWords$Item" "letter" "I") (by decide +kernel)
  rw [D_X2_letter] at h
  refine lv_aload_n hx hb dX2_letter_0 rfl (lv_at hl 0 rfl) ?_
  refine va_get (D := D) (ci := 2) (v := .int v_letter) (C := RX2) (T := TX2) (N := 6) hx hb hts i_X2 hown hK hP 0 rfl rfl 3 (by decide) k_29 (fun _ h9 => h9) rfl dX2_letter_1 ?_
  cases h
  rw [← hQe]
  exact W.iret hx hb hr (fun t ht hW => ⟨⟨_, (), rfl, rfl, by rw [ht]; exact hP, va_K.moved hW.alike hK, hD⟩, hS.F ht⟩) hS.2.2 dX2_letter_4
def D_X0_wordPlace (p1 : Int32) (p2 : Int32) : Option (Int32) := some (((p1 * (nI 8)) + p2))
abbrev rm_X0_wordPlace : Room := { frames := 0, cells := 0, slots := 0, locals := 0 }
set_option maxHeartbeats 4000000 in
set_option maxRecDepth 100000 in
theorem c_X0_wordPlace (l : Launch) (D : va_G) (ca : Nat → ClassId) (sz : Nat) (p1 : Int32) (p2 : Int32) (r : Int32) (h : D_X0_wordPlace p1 p2 = some (r)) : Met l yX0_wordPlace wsX0_wordPlace rm_X0_wordPlace (va_Pc [.int p1, .int p2] (kPre D ca [] sz)) (kQi D ca (va_A [] sz) [] r) 0 0 (va_A [] sz) := by
  refine Met.ofW (cc := cX0_wordPlace) (maxL := 2) (ret := (some .int)) (by decide +kernel) rfl ?_
  intro p e s m args below meth c s₁ B hml hv
  obtain ⟨rfl, hsz, hP, hK, hD0⟩ := hv
  have hx := B.exec
  have hb := B.bytes
  have hr := B.returns
  have hts := atoms_spec (ws := wsX0_wordPlace) B.pre
  have hown : s.vm.findClass RX0 = some m.cls := findClass_of_methodNamed B.named
  have hlocks := B.notSynchronized
  clear B
  subst hsz
  have hD := hD0.self (sz := s.heap.size)
  generalize hAe : va_A [] s.heap.size = A at hD ⊢
  have hA : ∀ q : Nat, s.heap.size ≤ q → A q := fun q h => by rw [← hAe]; exact Or.inr h
  have hS : va_S A s.heap s.heap [] := va_S.rf
  have hl := lv_entry ([.int p1, .int p2]) (n := 2) (Nat.le_of_ble_eq_true rfl)
  rw [lg_entry_eq]
  generalize (lg_sl ([.int p1, .int p2]) ++ List.replicate (2 - (lg_sl ([.int p1, .int p2])).length) Slot.unset).toArray = ls at hl ⊢
  have hl : lv_has ls 2 [(0, .int p1), (1, .int p2)] := hl
  generalize ([.int p1, .int p2] : List Value).toArray = args at hts ⊢
  generalize hQe : MQ below (kQi D ca (A) [] r) args s 0 0 A = Q
  rw [D_X0_wordPlace] at h
  refine lv_iload_n hx hb dX0_wordPlace_0 rfl (lv_at hl 0 rfl) ?_
  refine lv_bipush (v := (nI 8)) hx hb dX0_wordPlace_1 (by decide) ?_
  refine lv_imul hx hb dX0_wordPlace_3 ?_
  refine lv_iload_n hx hb dX0_wordPlace_4 rfl (lv_at hl 1 rfl) ?_
  refine lv_iadd hx hb dX0_wordPlace_5 ?_
  cases h
  rw [← hQe]
  exact W.iret hx hb hr (fun t ht hW => ⟨⟨_, (), rfl, rfl, by rw [ht]; exact hP, va_K.moved hW.alike hK, hD⟩, hS.F ht⟩) hS.2.2 dX0_wordPlace_6
def D_X2_spelled (v_word : Int32) : Option (Int32) := some (v_word)
abbrev rm_X2_spelled : Room := { frames := 0, cells := 0, slots := 0, locals := 0 }
set_option maxHeartbeats 4000000 in
set_option maxRecDepth 100000 in
theorem c_X2_spelled (l : Launch) (D : va_G) (ca : Nat → ClassId) (sz : Nat) (q_this q_text q_numbers : Nat) (v_place : Int32) (v_letter : Int32) (v_word : Int32) (v_bits : Int32) (r : Int32) (h : D_X2_spelled v_word = some (r)) : Met l yX2_spelled wsX2_spelled rm_X2_spelled (va_Pc [.ref q_this] (kPre D ca [(q_this, .inr (2, [.ref q_text, .ref q_numbers, .int v_place, .int v_letter, .int v_word, .int v_bits]))] sz)) (kQi D ca (va_A [(q_this, .inr (2, [.ref q_text, .ref q_numbers, .int v_place, .int v_letter, .int v_word, .int v_bits]))] sz) [(q_this, .inr (2, [.ref q_text, .ref q_numbers, .int v_place, .int v_letter, .int v_word, .int v_bits]))] r) 0 0 (va_A [(q_this, .inr (2, [.ref q_text, .ref q_numbers, .int v_place, .int v_letter, .int v_word, .int v_bits]))] sz) := by
  refine Met.ofW (cc := cX2_spelled) (maxL := 1) (ret := (some .int)) (by decide +kernel) rfl ?_
  intro p e s m args below meth c s₁ B hml hv
  obtain ⟨rfl, hsz, hP, hK, hD0⟩ := hv
  have hx := B.exec
  have hb := B.bytes
  have hr := B.returns
  have hts := atoms_spec (ws := wsX2_spelled) B.pre
  have hown : s.vm.findClass RX2 = some m.cls := findClass_of_methodNamed B.named
  have hlocks := B.notSynchronized
  clear B
  subst hsz
  have hD := hD0.self (sz := s.heap.size)
  generalize hAe : va_A [(q_this, .inr (2, [.ref q_text, .ref q_numbers, .int v_place, .int v_letter, .int v_word, .int v_bits]))] s.heap.size = A at hD ⊢
  have hA : ∀ q : Nat, s.heap.size ≤ q → A q := fun q h => by rw [← hAe]; exact Or.inr h
  have hS : va_S A s.heap s.heap [] := va_S.rf
  have hl := lv_entry ([.ref q_this]) (n := 1) (Nat.le_of_ble_eq_true rfl)
  rw [lg_entry_eq]
  generalize (lg_sl ([.ref q_this]) ++ List.replicate (1 - (lg_sl ([.ref q_this])).length) Slot.unset).toArray = ls at hl ⊢
  have hl : lv_has ls 1 [(0, .ref q_this)] := hl
  generalize ([.ref q_this] : List Value).toArray = args at hts ⊢
  generalize hQe : MQ below (kQi D ca (A) [(q_this, .inr (2, [.ref q_text, .ref q_numbers, .int v_place, .int v_letter, .int v_word, .int v_bits]))] r) args s 0 0 A = Q
  have i_X2 : ∀ w ∈ u_ws RX2 TX2 6, w ∈ wsX2_spelled := by decide +kernel
  have k_45 := hts (.fieldLink RX2 45 "TradeWords$Item" "word" "I") (by decide +kernel)
  rw [D_X2_spelled] at h
  refine lv_aload_n hx hb dX2_spelled_0 rfl (lv_at hl 0 rfl) ?_
  refine va_get (D := D) (ci := 2) (v := .int v_word) (C := RX2) (T := TX2) (N := 6) hx hb hts i_X2 hown hK hP 0 rfl rfl 4 (by decide) k_45 (fun _ h9 => h9) rfl dX2_spelled_1 ?_
  cases h
  rw [← hQe]
  exact W.iret hx hb hr (fun t ht hW => ⟨⟨_, (), rfl, rfl, by rw [ht]; exact hP, va_K.moved hW.alike hK, hD⟩, hS.F ht⟩) hS.2.2 dX2_spelled_4
def D_X5_put (n_a1 : Nat) (p2 : Int32) (p3 : Int32) (v_a1 : Nat → Int32) : Option ((Nat → Int32)) := (if p2 < 0 then some (v_a1) else (if (nI n_a1) ≤ p2 then some (v_a1) else ck n_a1 p2 (some ((upd v_a1 p2.toNatClampNeg p3)))))
abbrev rm_X5_put : Room := { frames := 0, cells := 0, slots := 0, locals := 0 }
set_option maxHeartbeats 4000000 in
set_option maxRecDepth 100000 in
theorem c_X5_put (l : Launch) (D : va_G) (ca : Nat → ClassId) (sz : Nat) (q_a1 : Nat) (n_a1 : Nat) (p2 : Int32) (p3 : Int32) (v_a1 : Nat → Int32) (o_a1 : Nat → Int32) (h : D_X5_put n_a1 p2 p3 v_a1 = some (o_a1)) : Met l yX5_put wsX5_put rm_X5_put (va_Pc [.ref q_a1, .int p2, .int p3] (kPre D ca [(q_a1, .inl (ca 0, n_a1, .inl v_a1))] sz)) (kQv D ca (va_A [(q_a1, .inl (ca 0, n_a1, .inl v_a1))] sz) [(q_a1, .inl (ca 0, n_a1, .inl o_a1))]) 0 0 (va_A [(q_a1, .inl (ca 0, n_a1, .inl v_a1))] sz) := by
  refine Met.ofW (cc := cX5_put) (maxL := 3) (ret := none) (by decide +kernel) rfl ?_
  intro p e s m args below meth c s₁ B hml hv
  obtain ⟨rfl, hsz, hP, hK, hD0⟩ := hv
  have hx := B.exec
  have hb := B.bytes
  have hr := B.returns
  have hts := atoms_spec (ws := wsX5_put) B.pre
  have hown : s.vm.findClass RX5 = some m.cls := findClass_of_methodNamed B.named
  have hlocks := B.notSynchronized
  clear B
  subst hsz
  have hD := hD0.self (sz := s.heap.size)
  generalize hAe : va_A [(q_a1, .inl (ca 0, n_a1, .inl v_a1))] s.heap.size = A at hD ⊢
  have hA : ∀ q : Nat, s.heap.size ≤ q → A q := fun q h => by rw [← hAe]; exact Or.inr h
  have hS : va_S A s.heap s.heap [] := va_S.rf
  have hl := lv_entry ([.ref q_a1, .int p2, .int p3]) (n := 3) (Nat.le_of_ble_eq_true rfl)
  rw [lg_entry_eq]
  generalize (lg_sl ([.ref q_a1, .int p2, .int p3]) ++ List.replicate (3 - (lg_sl ([.ref q_a1, .int p2, .int p3])).length) Slot.unset).toArray = ls at hl ⊢
  have hl : lv_has ls 3 [(0, .ref q_a1), (1, .int p2), (2, .int p3)] := hl
  generalize ([.ref q_a1, .int p2, .int p3] : List Value).toArray = args at hts ⊢
  generalize hQe : MQ below (kQv D ca (A) [(q_a1, .inl (ca 0, n_a1, .inl o_a1))]) args s 0 0 A = Q
  rw [D_X5_put] at h
  refine lv_iload_n hx hb dX5_put_0 rfl (lv_at hl 1 rfl) ?_
  refine lv_if_lt (tgt := 14) hx hb dX5_put_1 (by decide) (fun c_1 => ?_) (fun c_1 => ?_)
  · replace h := ifp_el c_1 h
    cases h
    rw [← hQe]
    exact W.vret hx hb hr (fun t ht hW => ⟨⟨(), rfl, trivial, by rw [ht]; exact hP, va_K.moved hW.alike hK, hD⟩, hS.F ht⟩) hS.2.2 dX5_put_14
  · replace h := ifn_el c_1 h
    refine lv_iload_n hx hb dX5_put_4 rfl (lv_at hl 1 rfl) ?_
    refine lv_aload_n hx hb dX5_put_5 rfl (lv_at hl 0 rfl) ?_
    refine va_alen hx hb hK hP 0 0 rfl rfl (v := (nI n_a1)) rfl dX5_put_6 ?_
    refine lv_icmp_ge (tgt := 14) hx hb dX5_put_7 (by decide) (fun c_2 => ?_) (fun c_2 => ?_)
    · replace h := ifp_el c_2 h
      cases h
      rw [← hQe]
      exact W.vret hx hb hr (fun t ht hW => ⟨⟨(), rfl, trivial, by rw [ht]; exact hP, va_K.moved hW.alike hK, hD⟩, hS.F ht⟩) hS.2.2 dX5_put_14
    · replace h := ifn_el c_2 h
      refine lv_aload_n hx hb dX5_put_10 rfl (lv_at hl 0 rfl) ?_
      refine lv_iload_n hx hb dX5_put_11 rfl (lv_at hl 1 rfl) ?_
      refine lv_iload_n hx hb dX5_put_12 rfl (lv_at hl 2 rfl) ?_
      obtain ⟨hi_3, h⟩ := ck_el h
      refine va_iast hx hb hK hP hD hS 0 0 rfl rfl hi_3 dX5_put_13 (fun H locs hP hD hS => ?_)
      have hP : va_P D vwCl [(q_a1, .inl (ca 0, n_a1, .inl (upd v_a1 p2.toNatClampNeg p3)))] H := hP
      have hD : va_D A [(q_a1, .inl (ca 0, n_a1, .inl (upd v_a1 p2.toNatClampNeg p3)))] := hD
      cases h
      rw [← hQe]
      exact W.vret hx hb hr (fun t ht hW => ⟨⟨(), rfl, trivial, by rw [ht]; exact hP, va_K.moved hW.alike hK, hD⟩, hS.F ht⟩) hS.2.2 dX5_put_14
def D_X0_heardPlace (p1 : Int32) (p2 : Int32) : Option (Int32) := some (((p1 * (nI 8)) + p2))
abbrev rm_X0_heardPlace : Room := { frames := 0, cells := 0, slots := 0, locals := 0 }
set_option maxHeartbeats 4000000 in
set_option maxRecDepth 100000 in
theorem c_X0_heardPlace (l : Launch) (D : va_G) (ca : Nat → ClassId) (sz : Nat) (p1 : Int32) (p2 : Int32) (r : Int32) (h : D_X0_heardPlace p1 p2 = some (r)) : Met l yX0_heardPlace wsX0_heardPlace rm_X0_heardPlace (va_Pc [.int p1, .int p2] (kPre D ca [] sz)) (kQi D ca (va_A [] sz) [] r) 0 0 (va_A [] sz) := by
  refine Met.ofW (cc := cX0_heardPlace) (maxL := 2) (ret := (some .int)) (by decide +kernel) rfl ?_
  intro p e s m args below meth c s₁ B hml hv
  obtain ⟨rfl, hsz, hP, hK, hD0⟩ := hv
  have hx := B.exec
  have hb := B.bytes
  have hr := B.returns
  have hts := atoms_spec (ws := wsX0_heardPlace) B.pre
  have hown : s.vm.findClass RX0 = some m.cls := findClass_of_methodNamed B.named
  have hlocks := B.notSynchronized
  clear B
  subst hsz
  have hD := hD0.self (sz := s.heap.size)
  generalize hAe : va_A [] s.heap.size = A at hD ⊢
  have hA : ∀ q : Nat, s.heap.size ≤ q → A q := fun q h => by rw [← hAe]; exact Or.inr h
  have hS : va_S A s.heap s.heap [] := va_S.rf
  have hl := lv_entry ([.int p1, .int p2]) (n := 2) (Nat.le_of_ble_eq_true rfl)
  rw [lg_entry_eq]
  generalize (lg_sl ([.int p1, .int p2]) ++ List.replicate (2 - (lg_sl ([.int p1, .int p2])).length) Slot.unset).toArray = ls at hl ⊢
  have hl : lv_has ls 2 [(0, .int p1), (1, .int p2)] := hl
  generalize ([.int p1, .int p2] : List Value).toArray = args at hts ⊢
  generalize hQe : MQ below (kQi D ca (A) [] r) args s 0 0 A = Q
  rw [D_X0_heardPlace] at h
  refine lv_iload_n hx hb dX0_heardPlace_0 rfl (lv_at hl 0 rfl) ?_
  refine lv_bipush (v := (nI 8)) hx hb dX0_heardPlace_1 (by decide) ?_
  refine lv_imul hx hb dX0_heardPlace_3 ?_
  refine lv_iload_n hx hb dX0_heardPlace_4 rfl (lv_at hl 1 rfl) ?_
  refine lv_iadd hx hb dX0_heardPlace_5 ?_
  cases h
  rw [← hQe]
  exact W.iret hx hb hr (fun t ht hW => ⟨⟨_, (), rfl, rfl, by rw [ht]; exact hP, va_K.moved hW.alike hK, hD⟩, hS.F ht⟩) hS.2.2 dX0_heardPlace_6
def D_X2_bits (v_bits : Int32) : Option (Int32) := some (v_bits)
abbrev rm_X2_bits : Room := { frames := 0, cells := 0, slots := 0, locals := 0 }
set_option maxHeartbeats 4000000 in
set_option maxRecDepth 100000 in
theorem c_X2_bits (l : Launch) (D : va_G) (ca : Nat → ClassId) (sz : Nat) (q_this q_text q_numbers : Nat) (v_place : Int32) (v_letter : Int32) (v_word : Int32) (v_bits : Int32) (r : Int32) (h : D_X2_bits v_bits = some (r)) : Met l yX2_bits wsX2_bits rm_X2_bits (va_Pc [.ref q_this] (kPre D ca [(q_this, .inr (2, [.ref q_text, .ref q_numbers, .int v_place, .int v_letter, .int v_word, .int v_bits]))] sz)) (kQi D ca (va_A [(q_this, .inr (2, [.ref q_text, .ref q_numbers, .int v_place, .int v_letter, .int v_word, .int v_bits]))] sz) [(q_this, .inr (2, [.ref q_text, .ref q_numbers, .int v_place, .int v_letter, .int v_word, .int v_bits]))] r) 0 0 (va_A [(q_this, .inr (2, [.ref q_text, .ref q_numbers, .int v_place, .int v_letter, .int v_word, .int v_bits]))] sz) := by
  refine Met.ofW (cc := cX2_bits) (maxL := 1) (ret := (some .int)) (by decide +kernel) rfl ?_
  intro p e s m args below meth c s₁ B hml hv
  obtain ⟨rfl, hsz, hP, hK, hD0⟩ := hv
  have hx := B.exec
  have hb := B.bytes
  have hr := B.returns
  have hts := atoms_spec (ws := wsX2_bits) B.pre
  have hown : s.vm.findClass RX2 = some m.cls := findClass_of_methodNamed B.named
  have hlocks := B.notSynchronized
  clear B
  subst hsz
  have hD := hD0.self (sz := s.heap.size)
  generalize hAe : va_A [(q_this, .inr (2, [.ref q_text, .ref q_numbers, .int v_place, .int v_letter, .int v_word, .int v_bits]))] s.heap.size = A at hD ⊢
  have hA : ∀ q : Nat, s.heap.size ≤ q → A q := fun q h => by rw [← hAe]; exact Or.inr h
  have hS : va_S A s.heap s.heap [] := va_S.rf
  have hl := lv_entry ([.ref q_this]) (n := 1) (Nat.le_of_ble_eq_true rfl)
  rw [lg_entry_eq]
  generalize (lg_sl ([.ref q_this]) ++ List.replicate (1 - (lg_sl ([.ref q_this])).length) Slot.unset).toArray = ls at hl ⊢
  have hl : lv_has ls 1 [(0, .ref q_this)] := hl
  generalize ([.ref q_this] : List Value).toArray = args at hts ⊢
  generalize hQe : MQ below (kQi D ca (A) [(q_this, .inr (2, [.ref q_text, .ref q_numbers, .int v_place, .int v_letter, .int v_word, .int v_bits]))] r) args s 0 0 A = Q
  have i_X2 : ∀ w ∈ u_ws RX2 TX2 6, w ∈ wsX2_bits := by decide +kernel
  have k_48 := hts (.fieldLink RX2 48 "TradeWords$Item" "bits" "I") (by decide +kernel)
  rw [D_X2_bits] at h
  refine lv_aload_n hx hb dX2_bits_0 rfl (lv_at hl 0 rfl) ?_
  refine va_get (D := D) (ci := 2) (v := .int v_bits) (C := RX2) (T := TX2) (N := 6) hx hb hts i_X2 hown hK hP 0 rfl rfl 5 (by decide) k_48 (fun _ h9 => h9) rfl dX2_bits_1 ?_
  cases h
  rw [← hQe]
  exact W.iret hx hb hr (fun t ht hW => ⟨⟨_, (), rfl, rfl, by rw [ht]; exact hP, va_K.moved hW.alike hK, hD⟩, hS.F ht⟩) hS.2.2 dX2_bits_4
def D_X8_soundAt (p1 : Int32) (p2 : Int32) : Option (Int32) := some (((p1 >>> (((nI 3) + ((nI 4) * p2)) &&& 31)) &&& (nI 15)))
abbrev rm_X8_soundAt : Room := { frames := 0, cells := 0, slots := 0, locals := 0 }
set_option maxHeartbeats 4000000 in
set_option maxRecDepth 100000 in
theorem c_X8_soundAt (l : Launch) (D : va_G) (ca : Nat → ClassId) (sz : Nat) (p1 : Int32) (p2 : Int32) (r : Int32) (h : D_X8_soundAt p1 p2 = some (r)) : Met l yX8_soundAt wsX8_soundAt rm_X8_soundAt (va_Pc [.int p1, .int p2] (kPre D ca [] sz)) (kQi D ca (va_A [] sz) [] r) 0 0 (va_A [] sz) := by
  refine Met.ofW (cc := cX8_soundAt) (maxL := 2) (ret := (some .int)) (by decide +kernel) rfl ?_
  intro p e s m args below meth c s₁ B hml hv
  obtain ⟨rfl, hsz, hP, hK, hD0⟩ := hv
  have hx := B.exec
  have hb := B.bytes
  have hr := B.returns
  have hts := atoms_spec (ws := wsX8_soundAt) B.pre
  have hown : s.vm.findClass RX8 = some m.cls := findClass_of_methodNamed B.named
  have hlocks := B.notSynchronized
  clear B
  subst hsz
  have hD := hD0.self (sz := s.heap.size)
  generalize hAe : va_A [] s.heap.size = A at hD ⊢
  have hA : ∀ q : Nat, s.heap.size ≤ q → A q := fun q h => by rw [← hAe]; exact Or.inr h
  have hS : va_S A s.heap s.heap [] := va_S.rf
  have hl := lv_entry ([.int p1, .int p2]) (n := 2) (Nat.le_of_ble_eq_true rfl)
  rw [lg_entry_eq]
  generalize (lg_sl ([.int p1, .int p2]) ++ List.replicate (2 - (lg_sl ([.int p1, .int p2])).length) Slot.unset).toArray = ls at hl ⊢
  have hl : lv_has ls 2 [(0, .int p1), (1, .int p2)] := hl
  generalize ([.int p1, .int p2] : List Value).toArray = args at hts ⊢
  generalize hQe : MQ below (kQi D ca (A) [] r) args s 0 0 A = Q
  rw [D_X8_soundAt] at h
  refine lv_iload_n hx hb dX8_soundAt_0 rfl (lv_at hl 0 rfl) ?_
  refine lv_iconst (v := (nI 3)) hx hb dX8_soundAt_1 (by decide) ?_
  refine lv_iconst (v := (nI 4)) hx hb dX8_soundAt_2 (by decide) ?_
  refine lv_iload_n hx hb dX8_soundAt_3 rfl (lv_at hl 1 rfl) ?_
  refine lv_imul hx hb dX8_soundAt_4 ?_
  refine lv_iadd hx hb dX8_soundAt_5 ?_
  refine lv_ishr hx hb dX8_soundAt_6 ?_
  refine lv_bipush (v := (nI 15)) hx hb dX8_soundAt_7 (by decide) ?_
  refine lv_iand hx hb dX8_soundAt_9 ?_
  cases h
  rw [← hQe]
  exact W.iret hx hb hr (fun t ht hW => ⟨⟨_, (), rfl, rfl, by rw [ht]; exact hP, va_K.moved hW.alike hK, hD⟩, hS.F ht⟩) hS.2.2 dX8_soundAt_10
def D_X0_tellExchange (p1 : Int32) (v_instead : Nat → Int32) : Option ((Nat → Int32)) := bd1 (D_X8_soundAt p1 (nI 0)) (fun r_1 => bd1 (D_X8_soundAt p1 (nI 1)) (fun r_3 => bd1 (D_X5_put 16 r_1 r_3 v_instead) (fun y_instead_5 => some (y_instead_5))))
abbrev rm_X0_tellExchange : Room := { frames := 1, cells := 0, slots := 0, locals := 22 }
set_option maxHeartbeats 4000000 in
set_option maxRecDepth 100000 in
theorem c_X0_tellExchange (l : Launch) (D : va_G) (ca : Nat → ClassId) (sz : Nat) (q_this q_words q_heard q_canSay q_instead q_traders q_takes q_needs : Nat) (p1 : Int32) (v_speaks : Int32) (v_alikeFrom : Int32) (v_instead : Nat → Int32) (o_instead : Nat → Int32) (h : D_X0_tellExchange p1 v_instead = some (o_instead)) : Met l yX0_tellExchange wsX0_tellExchange rm_X0_tellExchange (va_Pc [.ref q_this, .int p1] (kPre D ca [(q_this, .inr (0, [.ref q_words, .ref q_heard, .ref q_canSay, .ref q_instead, .ref q_traders, .ref q_takes, .ref q_needs, .int v_speaks, .int v_alikeFrom])), (q_instead, .inl (ca 0, 16, .inl v_instead))] sz)) (kQv D ca (va_A [(q_this, .inr (0, [.ref q_words, .ref q_heard, .ref q_canSay, .ref q_instead, .ref q_traders, .ref q_takes, .ref q_needs, .int v_speaks, .int v_alikeFrom])), (q_instead, .inl (ca 0, 16, .inl v_instead))] sz) [(q_this, .inr (0, [.ref q_words, .ref q_heard, .ref q_canSay, .ref q_instead, .ref q_traders, .ref q_takes, .ref q_needs, .int v_speaks, .int v_alikeFrom])), (q_instead, .inl (ca 0, 16, .inl o_instead))]) 0 0 (va_A [(q_this, .inr (0, [.ref q_words, .ref q_heard, .ref q_canSay, .ref q_instead, .ref q_traders, .ref q_takes, .ref q_needs, .int v_speaks, .int v_alikeFrom])), (q_instead, .inl (ca 0, 16, .inl v_instead))] sz) := by
  refine Met.ofW (cc := cX0_tellExchange) (maxL := 2) (ret := none) (by decide +kernel) rfl ?_
  intro p e s m args below meth c s₁ B hml hv
  obtain ⟨rfl, hsz, hP, hK, hD0⟩ := hv
  have hx := B.exec
  have hb := B.bytes
  have hr := B.returns
  have hts := atoms_spec (ws := wsX0_tellExchange) B.pre
  have hown : s.vm.findClass RX0 = some m.cls := findClass_of_methodNamed B.named
  have hlocks := B.notSynchronized
  clear B
  subst hsz
  have hD := hD0.self (sz := s.heap.size)
  generalize hAe : va_A [(q_this, .inr (0, [.ref q_words, .ref q_heard, .ref q_canSay, .ref q_instead, .ref q_traders, .ref q_takes, .ref q_needs, .int v_speaks, .int v_alikeFrom])), (q_instead, .inl (ca 0, 16, .inl v_instead))] s.heap.size = A at hD ⊢
  have hA : ∀ q : Nat, s.heap.size ≤ q → A q := fun q h => by rw [← hAe]; exact Or.inr h
  have hS : va_S A s.heap s.heap [] := va_S.rf
  have hl := lv_entry ([.ref q_this, .int p1]) (n := 2) (Nat.le_of_ble_eq_true rfl)
  rw [lg_entry_eq]
  generalize (lg_sl ([.ref q_this, .int p1]) ++ List.replicate (2 - (lg_sl ([.ref q_this, .int p1])).length) Slot.unset).toArray = ls at hl ⊢
  have hl : lv_has ls 2 [(0, .ref q_this), (1, .int p1)] := hl
  generalize ([.ref q_this, .int p1] : List Value).toArray = args at hts ⊢
  generalize hQe : MQ below (kQv D ca (A) [(q_this, .inr (0, [.ref q_words, .ref q_heard, .ref q_canSay, .ref q_instead, .ref q_traders, .ref q_takes, .ref q_needs, .int v_speaks, .int v_alikeFrom])), (q_instead, .inl (ca 0, 16, .inl o_instead))]) args s 0 0 A = Q
  have i_X0 : ∀ w ∈ u_ws RX0 TX0 9, w ∈ wsX0_tellExchange := by decide +kernel
  have k_21 := hts (.fieldLink RX0 21 "TradeWords$Beach" "instead" "[I") (by decide +kernel)
  rw [D_X0_tellExchange] at h
  refine lv_aload_n hx hb dX0_tellExchange_0 rfl (lv_at hl 0 rfl) ?_
  refine va_get (D := D) (ci := 0) (v := .ref q_instead) (C := RX0) (T := TX0) (N := 9) hx hb hts i_X0 hown hK hP 0 rfl rfl 3 (by decide) k_21 (fun _ h9 => h9) rfl dX0_tellExchange_1 ?_
  refine lv_iload_n hx hb dX0_tellExchange_4 rfl (lv_at hl 1 rfl) ?_
  refine lv_iconst (v := (nI 0)) hx hb dX0_tellExchange_5 (by decide) ?_
  obtain ⟨r_1, hg_2, h⟩ := bd1_el h
  refine kx_Si (As := [.int p1, .int (nI 0)]) (rest := [.ref q_instead]) (wr := [(q_this, .inr (0, [.ref q_words, .ref q_heard, .ref q_canSay, .ref q_instead, .ref q_traders, .ref q_takes, .ref q_needs, .int v_speaks, .int v_alikeFrom])), (q_instead, .inl (ca 0, 16, .inl v_instead))]) (w1 := []) (wn := [(q_this, .inr (0, [.ref q_words, .ref q_heard, .ref q_canSay, .ref q_instead, .ref q_traders, .ref q_takes, .ref q_needs, .int v_speaks, .int v_alikeFrom])), (q_instead, .inl (ca 0, 16, .inl v_instead))]) ⟨hx, hb, hml, hown, hts⟩ (c_X8_soundAt l D ca s.heap.size p1 (nI 0) r_1 hg_2) (va_cwS 2 hts gX0_tellExchange_X8_soundAt rfl rfl rfl (by decide +kernel) ⟨(Nat.le_of_ble_eq_true rfl), (Nat.le_of_ble_eq_true rfl)⟩) hK hP hD hS hA [] [0, 1] [0, 1] rfl rfl rfl rfl (by decide) rfl rfl rfl hl.1 rfl (Nat.le_of_ble_eq_true rfl) dX0_tellExchange_6 ⟨Nat.zero_le _, Nat.zero_le _⟩ (fun H locs hP hD hS => ?_)
  refine lv_iload_n hx hb dX0_tellExchange_9 rfl (lv_at hl 1 rfl) ?_
  refine lv_iconst (v := (nI 1)) hx hb dX0_tellExchange_10 (by decide) ?_
  obtain ⟨r_3, hg_4, h⟩ := bd1_el h
  refine kx_Si (As := [.int p1, .int (nI 1)]) (rest := [.int r_1, .ref q_instead]) (wr := [(q_this, .inr (0, [.ref q_words, .ref q_heard, .ref q_canSay, .ref q_instead, .ref q_traders, .ref q_takes, .ref q_needs, .int v_speaks, .int v_alikeFrom])), (q_instead, .inl (ca 0, 16, .inl v_instead))]) (w1 := []) (wn := [(q_this, .inr (0, [.ref q_words, .ref q_heard, .ref q_canSay, .ref q_instead, .ref q_traders, .ref q_takes, .ref q_needs, .int v_speaks, .int v_alikeFrom])), (q_instead, .inl (ca 0, 16, .inl v_instead))]) ⟨hx, hb, hml, hown, hts⟩ (c_X8_soundAt l D ca H.size p1 (nI 1) r_3 hg_4) (va_cwS 2 hts gX0_tellExchange_X8_soundAt rfl rfl rfl (by decide +kernel) ⟨(Nat.le_of_ble_eq_true rfl), (Nat.le_of_ble_eq_true rfl)⟩) hK hP hD hS hA [] [0, 1] [0, 1] rfl rfl rfl rfl (by decide) rfl rfl rfl hl.1 rfl (Nat.le_of_ble_eq_true rfl) dX0_tellExchange_11 ⟨Nat.zero_le _, Nat.zero_le _⟩ (fun H locs hP hD hS => ?_)
  obtain ⟨y_instead_5, hg_6, h⟩ := bd1_el h
  refine kx_Sv (As := [.ref q_instead, .int r_1, .int r_3]) (rest := []) (wr := [(q_this, .inr (0, [.ref q_words, .ref q_heard, .ref q_canSay, .ref q_instead, .ref q_traders, .ref q_takes, .ref q_needs, .int v_speaks, .int v_alikeFrom]))]) (w1 := [(q_instead, .inl (ca 0, 16, .inl y_instead_5))]) (wn := [(q_this, .inr (0, [.ref q_words, .ref q_heard, .ref q_canSay, .ref q_instead, .ref q_traders, .ref q_takes, .ref q_needs, .int v_speaks, .int v_alikeFrom])), (q_instead, .inl (ca 0, 16, .inl y_instead_5))]) ⟨hx, hb, hml, hown, hts⟩ (c_X5_put l D ca H.size q_instead 16 r_1 r_3 v_instead y_instead_5 hg_6) (va_cwS 3 hts gX0_tellExchange_X5_put rfl rfl rfl (by decide +kernel) ⟨(Nat.le_of_ble_eq_true rfl), (Nat.le_of_ble_eq_true rfl)⟩) hK hP hD hS hA [1] [0] [0, 1] rfl rfl rfl rfl (by decide) rfl rfl rfl hl.1 rfl (Nat.le_of_ble_eq_true rfl) dX0_tellExchange_14 ⟨Nat.zero_le _, Nat.zero_le _⟩ (fun H locs hP hD hS => ?_)
  cases h
  rw [← hQe]
  exact W.vret hx hb hr (fun t ht hW => ⟨⟨(), rfl, trivial, by rw [ht]; exact hP, va_K.moved hW.alike hK, hD⟩, hS.F ht⟩) hS.2.2 dX0_tellExchange_17
def D_X0_tellPair (n_a1 : Nat) (p2 : Int32) (p3 : Int32) (v_a1 : Nat → Int32) : Option ((Nat → Int32)) := bd1 (D_X5_put n_a1 (nI 0) p2 v_a1) (fun y_a1_1 => bd1 (D_X5_put n_a1 (nI 1) p3 y_a1_1) (fun y_a1_3 => some (y_a1_3)))
abbrev rm_X0_tellPair : Room := { frames := 1, cells := 0, slots := 0, locals := 22 }
set_option maxHeartbeats 4000000 in
set_option maxRecDepth 100000 in
theorem c_X0_tellPair (l : Launch) (D : va_G) (ca : Nat → ClassId) (sz : Nat) (q_a1 : Nat) (n_a1 : Nat) (p2 : Int32) (p3 : Int32) (v_a1 : Nat → Int32) (o_a1 : Nat → Int32) (h : D_X0_tellPair n_a1 p2 p3 v_a1 = some (o_a1)) : Met l yX0_tellPair wsX0_tellPair rm_X0_tellPair (va_Pc [.ref q_a1, .int p2, .int p3] (kPre D ca [(q_a1, .inl (ca 0, n_a1, .inl v_a1))] sz)) (kQv D ca (va_A [(q_a1, .inl (ca 0, n_a1, .inl v_a1))] sz) [(q_a1, .inl (ca 0, n_a1, .inl o_a1))]) 0 0 (va_A [(q_a1, .inl (ca 0, n_a1, .inl v_a1))] sz) := by
  refine Met.ofW (cc := cX0_tellPair) (maxL := 3) (ret := none) (by decide +kernel) rfl ?_
  intro p e s m args below meth c s₁ B hml hv
  obtain ⟨rfl, hsz, hP, hK, hD0⟩ := hv
  have hx := B.exec
  have hb := B.bytes
  have hr := B.returns
  have hts := atoms_spec (ws := wsX0_tellPair) B.pre
  have hown : s.vm.findClass RX0 = some m.cls := findClass_of_methodNamed B.named
  have hlocks := B.notSynchronized
  clear B
  subst hsz
  have hD := hD0.self (sz := s.heap.size)
  generalize hAe : va_A [(q_a1, .inl (ca 0, n_a1, .inl v_a1))] s.heap.size = A at hD ⊢
  have hA : ∀ q : Nat, s.heap.size ≤ q → A q := fun q h => by rw [← hAe]; exact Or.inr h
  have hS : va_S A s.heap s.heap [] := va_S.rf
  have hl := lv_entry ([.ref q_a1, .int p2, .int p3]) (n := 3) (Nat.le_of_ble_eq_true rfl)
  rw [lg_entry_eq]
  generalize (lg_sl ([.ref q_a1, .int p2, .int p3]) ++ List.replicate (3 - (lg_sl ([.ref q_a1, .int p2, .int p3])).length) Slot.unset).toArray = ls at hl ⊢
  have hl : lv_has ls 3 [(0, .ref q_a1), (1, .int p2), (2, .int p3)] := hl
  generalize ([.ref q_a1, .int p2, .int p3] : List Value).toArray = args at hts ⊢
  generalize hQe : MQ below (kQv D ca (A) [(q_a1, .inl (ca 0, n_a1, .inl o_a1))]) args s 0 0 A = Q
  rw [D_X0_tellPair] at h
  refine lv_aload_n hx hb dX0_tellPair_0 rfl (lv_at hl 0 rfl) ?_
  refine lv_iconst (v := (nI 0)) hx hb dX0_tellPair_1 (by decide) ?_
  refine lv_iload_n hx hb dX0_tellPair_2 rfl (lv_at hl 1 rfl) ?_
  obtain ⟨y_a1_1, hg_2, h⟩ := bd1_el h
  refine kx_Sv (As := [.ref q_a1, .int (nI 0), .int p2]) (rest := []) (wr := []) (w1 := [(q_a1, .inl (ca 0, n_a1, .inl y_a1_1))]) (wn := [(q_a1, .inl (ca 0, n_a1, .inl y_a1_1))]) ⟨hx, hb, hml, hown, hts⟩ (c_X5_put l D ca s.heap.size q_a1 n_a1 (nI 0) p2 v_a1 y_a1_1 hg_2) (va_cwS 3 hts gX0_tellPair_X5_put rfl rfl rfl (by decide +kernel) ⟨(Nat.le_of_ble_eq_true rfl), (Nat.le_of_ble_eq_true rfl)⟩) hK hP hD hS hA [0] [] [0] rfl rfl rfl rfl (by decide) rfl rfl rfl hl.1 rfl (Nat.le_of_ble_eq_true rfl) dX0_tellPair_3 ⟨Nat.zero_le _, Nat.zero_le _⟩ (fun H locs hP hD hS => ?_)
  refine lv_aload_n hx hb dX0_tellPair_6 rfl (lv_at hl 0 rfl) ?_
  refine lv_iconst (v := (nI 1)) hx hb dX0_tellPair_7 (by decide) ?_
  refine lv_iload_n hx hb dX0_tellPair_8 rfl (lv_at hl 2 rfl) ?_
  obtain ⟨y_a1_3, hg_4, h⟩ := bd1_el h
  refine kx_Sv (As := [.ref q_a1, .int (nI 1), .int p3]) (rest := []) (wr := []) (w1 := [(q_a1, .inl (ca 0, n_a1, .inl y_a1_3))]) (wn := [(q_a1, .inl (ca 0, n_a1, .inl y_a1_3))]) ⟨hx, hb, hml, hown, hts⟩ (c_X5_put l D ca H.size q_a1 n_a1 (nI 1) p3 y_a1_1 y_a1_3 hg_4) (va_cwS 3 hts gX0_tellPair_X5_put rfl rfl rfl (by decide +kernel) ⟨(Nat.le_of_ble_eq_true rfl), (Nat.le_of_ble_eq_true rfl)⟩) hK hP hD hS hA [0] [] [0] rfl rfl rfl rfl (by decide) rfl rfl rfl hl.1 rfl (Nat.le_of_ble_eq_true rfl) dX0_tellPair_9 ⟨Nat.zero_le _, Nat.zero_le _⟩ (fun H locs hP hD hS => ?_)
  cases h
  rw [← hQe]
  exact W.vret hx hb hr (fun t ht hW => ⟨⟨(), rfl, trivial, by rw [ht]; exact hP, va_K.moved hW.alike hK, hD⟩, hS.F ht⟩) hS.2.2 dX0_tellPair_12
def D_X4_tellJoined (p1 : Int32) (p2 : Int32) (v_joinedTold : Int32) (v_joinedMeaning : Nat → Int32) (v_joinedPair : Nat → Int32) : Option (Int32 × Int32 × (Nat → Int32) × (Nat → Int32)) := (if v_joinedTold < (nI 8) then bd1 (D_X5_put 8 v_joinedTold ((nI 1) <<< (p1 &&& 31)) v_joinedMeaning) (fun y_joinedMeaning_2 => bd1 (D_X5_put 8 v_joinedTold p2 v_joinedPair) (fun y_joinedPair_4 => nm (v_joinedTold + (nI 1)) (fun w_6 => some ((nI 1), w_6, y_joinedMeaning_2, y_joinedPair_4)))) else some ((nI 0), v_joinedTold, v_joinedMeaning, v_joinedPair))
abbrev rm_X4_tellJoined : Room := { frames := 1, cells := 0, slots := 0, locals := 22 }
set_option maxHeartbeats 4000000 in
set_option maxRecDepth 100000 in
theorem c_X4_tellJoined (l : Launch) (D : va_G) (ca : Nat → ClassId) (sz : Nat) (q_this q_joinedMeaning q_joinedPair : Nat) (p1 : Int32) (p2 : Int32) (v_joinedTold : Int32) (v_needsTold : Int32) (v_needed : Int32) (v_joinedMeaning : Nat → Int32) (v_joinedPair : Nat → Int32) (r : Int32) (o_joinedTold : Int32) (o_joinedMeaning : Nat → Int32) (o_joinedPair : Nat → Int32) (h : D_X4_tellJoined p1 p2 v_joinedTold v_joinedMeaning v_joinedPair = some (r, o_joinedTold, o_joinedMeaning, o_joinedPair)) : Met l yX4_tellJoined wsX4_tellJoined rm_X4_tellJoined (va_Pc [.ref q_this, .int p1, .int p2] (kPre D ca [(q_this, .inr (4, [.ref q_joinedMeaning, .ref q_joinedPair, .int v_joinedTold, .int v_needsTold, .int v_needed])), (q_joinedMeaning, .inl (ca 0, 8, .inl v_joinedMeaning)), (q_joinedPair, .inl (ca 0, 8, .inl v_joinedPair))] sz)) (kQi D ca (va_A [(q_this, .inr (4, [.ref q_joinedMeaning, .ref q_joinedPair, .int v_joinedTold, .int v_needsTold, .int v_needed])), (q_joinedMeaning, .inl (ca 0, 8, .inl v_joinedMeaning)), (q_joinedPair, .inl (ca 0, 8, .inl v_joinedPair))] sz) [(q_this, .inr (4, [.ref q_joinedMeaning, .ref q_joinedPair, .int o_joinedTold, .int v_needsTold, .int v_needed])), (q_joinedMeaning, .inl (ca 0, 8, .inl o_joinedMeaning)), (q_joinedPair, .inl (ca 0, 8, .inl o_joinedPair))] r) 0 0 (va_A [(q_this, .inr (4, [.ref q_joinedMeaning, .ref q_joinedPair, .int v_joinedTold, .int v_needsTold, .int v_needed])), (q_joinedMeaning, .inl (ca 0, 8, .inl v_joinedMeaning)), (q_joinedPair, .inl (ca 0, 8, .inl v_joinedPair))] sz) := by
  refine Met.ofW (cc := cX4_tellJoined) (maxL := 3) (ret := (some .boolean)) (by decide +kernel) rfl ?_
  intro p e s m args below meth c s₁ B hml hv
  obtain ⟨rfl, hsz, hP, hK, hD0⟩ := hv
  have hx := B.exec
  have hb := B.bytes
  have hr := B.returns
  have hts := atoms_spec (ws := wsX4_tellJoined) B.pre
  have hown : s.vm.findClass RX4 = some m.cls := findClass_of_methodNamed B.named
  have hlocks := B.notSynchronized
  clear B
  subst hsz
  have hD := hD0.self (sz := s.heap.size)
  generalize hAe : va_A [(q_this, .inr (4, [.ref q_joinedMeaning, .ref q_joinedPair, .int v_joinedTold, .int v_needsTold, .int v_needed])), (q_joinedMeaning, .inl (ca 0, 8, .inl v_joinedMeaning)), (q_joinedPair, .inl (ca 0, 8, .inl v_joinedPair))] s.heap.size = A at hD ⊢
  have hA : ∀ q : Nat, s.heap.size ≤ q → A q := fun q h => by rw [← hAe]; exact Or.inr h
  have hS : va_S A s.heap s.heap [] := va_S.rf
  have hl := lv_entry ([.ref q_this, .int p1, .int p2]) (n := 3) (Nat.le_of_ble_eq_true rfl)
  rw [lg_entry_eq]
  generalize (lg_sl ([.ref q_this, .int p1, .int p2]) ++ List.replicate (3 - (lg_sl ([.ref q_this, .int p1, .int p2])).length) Slot.unset).toArray = ls at hl ⊢
  have hl : lv_has ls 3 [(0, .ref q_this), (1, .int p1), (2, .int p2)] := hl
  generalize ([.ref q_this, .int p1, .int p2] : List Value).toArray = args at hts ⊢
  generalize hQe : MQ below (kQi D ca (A) [(q_this, .inr (4, [.ref q_joinedMeaning, .ref q_joinedPair, .int o_joinedTold, .int v_needsTold, .int v_needed])), (q_joinedMeaning, .inl (ca 0, 8, .inl o_joinedMeaning)), (q_joinedPair, .inl (ca 0, 8, .inl o_joinedPair))] r) args s 0 0 A = Q
  have i_X4 : ∀ w ∈ u_ws RX4 TX4 5, w ∈ wsX4_tellJoined := by decide +kernel
  have k_18 := hts (.fieldLink RX4 18 "TradeWords$Needs" "joinedTold" "I") (by decide +kernel)
  have k_9 := hts (.fieldLink RX4 9 "TradeWords$Needs" "joinedMeaning" "[I") (by decide +kernel)
  have k_15 := hts (.fieldLink RX4 15 "TradeWords$Needs" "joinedPair" "[I") (by decide +kernel)
  rw [D_X4_tellJoined] at h
  refine lv_aload_n hx hb dX4_tellJoined_0 rfl (lv_at hl 0 rfl) ?_
  refine va_get (D := D) (ci := 4) (v := .int v_joinedTold) (C := RX4) (T := TX4) (N := 5) hx hb hts i_X4 hown hK hP 0 rfl rfl 2 (by decide) k_18 (fun _ h9 => h9) rfl dX4_tellJoined_1 ?_
  refine lv_bipush (v := (nI 8)) hx hb dX4_tellJoined_4 (by decide) ?_
  refine lv_icmp_lt (tgt := 11) hx hb dX4_tellJoined_6 (by decide) (fun c_1 => ?_) (fun c_1 => ?_)
  · replace h := ifp_el c_1 h
    refine lv_aload_n hx hb dX4_tellJoined_11 rfl (lv_at hl 0 rfl) ?_
    refine va_get (D := D) (ci := 4) (v := .ref q_joinedMeaning) (C := RX4) (T := TX4) (N := 5) hx hb hts i_X4 hown hK hP 0 rfl rfl 0 (by decide) k_9 (fun _ h9 => h9) rfl dX4_tellJoined_12 ?_
    refine lv_aload_n hx hb dX4_tellJoined_15 rfl (lv_at hl 0 rfl) ?_
    refine va_get (D := D) (ci := 4) (v := .int v_joinedTold) (C := RX4) (T := TX4) (N := 5) hx hb hts i_X4 hown hK hP 0 rfl rfl 2 (by decide) k_18 (fun _ h9 => h9) rfl dX4_tellJoined_16 ?_
    refine lv_iconst (v := (nI 1)) hx hb dX4_tellJoined_19 (by decide) ?_
    refine lv_iload_n hx hb dX4_tellJoined_20 rfl (lv_at hl 1 rfl) ?_
    refine lv_ishl hx hb dX4_tellJoined_21 ?_
    obtain ⟨y_joinedMeaning_2, hg_3, h⟩ := bd1_el h
    refine kx_Sv (As := [.ref q_joinedMeaning, .int v_joinedTold, .int ((nI 1) <<< (p1 &&& 31))]) (rest := []) (wr := [(q_this, .inr (4, [.ref q_joinedMeaning, .ref q_joinedPair, .int v_joinedTold, .int v_needsTold, .int v_needed])), (q_joinedPair, .inl (ca 0, 8, .inl v_joinedPair))]) (w1 := [(q_joinedMeaning, .inl (ca 0, 8, .inl y_joinedMeaning_2))]) (wn := [(q_this, .inr (4, [.ref q_joinedMeaning, .ref q_joinedPair, .int v_joinedTold, .int v_needsTold, .int v_needed])), (q_joinedMeaning, .inl (ca 0, 8, .inl y_joinedMeaning_2)), (q_joinedPair, .inl (ca 0, 8, .inl v_joinedPair))]) ⟨hx, hb, hml, hown, hts⟩ (c_X5_put l D ca s.heap.size q_joinedMeaning 8 v_joinedTold ((nI 1) <<< (p1 &&& 31)) v_joinedMeaning y_joinedMeaning_2 hg_3) (va_cwS 3 hts gX4_tellJoined_X5_put rfl rfl rfl (by decide +kernel) ⟨(Nat.le_of_ble_eq_true rfl), (Nat.le_of_ble_eq_true rfl)⟩) hK hP hD hS hA [1] [0, 2] [0, 2, 1] rfl rfl rfl rfl (by decide) rfl rfl rfl hl.1 rfl (Nat.le_of_ble_eq_true rfl) dX4_tellJoined_22 ⟨Nat.zero_le _, Nat.zero_le _⟩ (fun H locs hP hD hS => ?_)
    refine lv_aload_n hx hb dX4_tellJoined_25 rfl (lv_at hl 0 rfl) ?_
    refine va_get (D := D) (ci := 4) (v := .ref q_joinedPair) (C := RX4) (T := TX4) (N := 5) hx hb hts i_X4 hown hK hP 0 rfl rfl 1 (by decide) k_15 (fun _ h9 => h9) rfl dX4_tellJoined_26 ?_
    refine lv_aload_n hx hb dX4_tellJoined_29 rfl (lv_at hl 0 rfl) ?_
    refine va_get (D := D) (ci := 4) (v := .int v_joinedTold) (C := RX4) (T := TX4) (N := 5) hx hb hts i_X4 hown hK hP 0 rfl rfl 2 (by decide) k_18 (fun _ h9 => h9) rfl dX4_tellJoined_30 ?_
    refine lv_iload_n hx hb dX4_tellJoined_33 rfl (lv_at hl 2 rfl) ?_
    obtain ⟨y_joinedPair_4, hg_5, h⟩ := bd1_el h
    refine kx_Sv (As := [.ref q_joinedPair, .int v_joinedTold, .int p2]) (rest := []) (wr := [(q_this, .inr (4, [.ref q_joinedMeaning, .ref q_joinedPair, .int v_joinedTold, .int v_needsTold, .int v_needed])), (q_joinedMeaning, .inl (ca 0, 8, .inl y_joinedMeaning_2))]) (w1 := [(q_joinedPair, .inl (ca 0, 8, .inl y_joinedPair_4))]) (wn := [(q_this, .inr (4, [.ref q_joinedMeaning, .ref q_joinedPair, .int v_joinedTold, .int v_needsTold, .int v_needed])), (q_joinedMeaning, .inl (ca 0, 8, .inl y_joinedMeaning_2)), (q_joinedPair, .inl (ca 0, 8, .inl y_joinedPair_4))]) ⟨hx, hb, hml, hown, hts⟩ (c_X5_put l D ca H.size q_joinedPair 8 v_joinedTold p2 v_joinedPair y_joinedPair_4 hg_5) (va_cwS 3 hts gX4_tellJoined_X5_put rfl rfl rfl (by decide +kernel) ⟨(Nat.le_of_ble_eq_true rfl), (Nat.le_of_ble_eq_true rfl)⟩) hK hP hD hS hA [2] [0, 1] [0, 1, 2] rfl rfl rfl rfl (by decide) rfl rfl rfl hl.1 rfl (Nat.le_of_ble_eq_true rfl) dX4_tellJoined_34 ⟨Nat.zero_le _, Nat.zero_le _⟩ (fun H locs hP hD hS => ?_)
    refine lv_aload_n hx hb dX4_tellJoined_37 rfl (lv_at hl 0 rfl) ?_
    refine lv_dup hx hb dX4_tellJoined_38 rfl ?_
    refine va_get (D := D) (ci := 4) (v := .int v_joinedTold) (C := RX4) (T := TX4) (N := 5) hx hb hts i_X4 hown hK hP 0 rfl rfl 2 (by decide) k_18 (fun _ h9 => h9) rfl dX4_tellJoined_39 ?_
    refine lv_iconst (v := (nI 1)) hx hb dX4_tellJoined_42 (by decide) ?_
    refine lv_iadd hx hb dX4_tellJoined_43 ?_
    refine lv_nmi h (fun w_6 h => ?_)
    refine va_put (D := D) (ci := 4) (v := .int w_6) (ty := .int) (C := RX4) (T := TX4) (N := 5) hx hb hts i_X4 tyX4 tyX4_ok nmX4 hown hK hP hD hS 0 rfl rfl 2 (by decide) k_18 (fun _ h9 => h9) rfl (by decide +kernel) rfl rfl (Nat.le_of_ble_eq_true rfl) dX4_tellJoined_44 (fun H locs hP hD hS => ?_)
    have hP : va_P D vwCl [(q_this, .inr (4, [.ref q_joinedMeaning, .ref q_joinedPair, .int w_6, .int v_needsTold, .int v_needed])), (q_joinedMeaning, .inl (ca 0, 8, .inl y_joinedMeaning_2)), (q_joinedPair, .inl (ca 0, 8, .inl y_joinedPair_4))] H := hP
    have hD : va_D A [(q_this, .inr (4, [.ref q_joinedMeaning, .ref q_joinedPair, .int w_6, .int v_needsTold, .int v_needed])), (q_joinedMeaning, .inl (ca 0, 8, .inl y_joinedMeaning_2)), (q_joinedPair, .inl (ca 0, 8, .inl y_joinedPair_4))] := hD
    refine lv_iconst (v := (nI 1)) hx hb dX4_tellJoined_47 (by decide) ?_
    cases h
    rw [← hQe]
    exact W.zret hx hb hr rfl (fun t ht hW => ⟨⟨_, (), rfl, rfl, by rw [ht]; exact hP, va_K.moved hW.alike hK, hD⟩, hS.F ht⟩) hS.2.2 dX4_tellJoined_48
  · replace h := ifn_el c_1 h
    refine lv_iconst (v := (nI 0)) hx hb dX4_tellJoined_9 (by decide) ?_
    cases h
    rw [← hQe]
    exact W.zret hx hb hr rfl (fun t ht hW => ⟨⟨_, (), rfl, rfl, by rw [ht]; exact hP, va_K.moved hW.alike hK, hD⟩, hS.F ht⟩) hS.2.2 dX4_tellJoined_10
def D_X4_tellNeed (p1 : Int32) (v_needsTold : Int32) (v_needed : Int32) : Option (Int32 × Int32 × Int32) := (if v_needsTold < (nI 6) then nm (v_needed ||| p1) (fun w_2 => nm (v_needsTold + (nI 1)) (fun w_3 => some ((nI 1), w_3, w_2))) else some ((nI 0), v_needsTold, v_needed))
abbrev rm_X4_tellNeed : Room := { frames := 0, cells := 0, slots := 0, locals := 0 }
set_option maxHeartbeats 4000000 in
set_option maxRecDepth 100000 in
theorem c_X4_tellNeed (l : Launch) (D : va_G) (ca : Nat → ClassId) (sz : Nat) (q_this q_joinedMeaning q_joinedPair : Nat) (p1 : Int32) (v_joinedTold : Int32) (v_needsTold : Int32) (v_needed : Int32) (r : Int32) (o_needsTold : Int32) (o_needed : Int32) (h : D_X4_tellNeed p1 v_needsTold v_needed = some (r, o_needsTold, o_needed)) : Met l yX4_tellNeed wsX4_tellNeed rm_X4_tellNeed (va_Pc [.ref q_this, .int p1] (kPre D ca [(q_this, .inr (4, [.ref q_joinedMeaning, .ref q_joinedPair, .int v_joinedTold, .int v_needsTold, .int v_needed]))] sz)) (kQi D ca (va_A [(q_this, .inr (4, [.ref q_joinedMeaning, .ref q_joinedPair, .int v_joinedTold, .int v_needsTold, .int v_needed]))] sz) [(q_this, .inr (4, [.ref q_joinedMeaning, .ref q_joinedPair, .int v_joinedTold, .int o_needsTold, .int o_needed]))] r) 0 0 (va_A [(q_this, .inr (4, [.ref q_joinedMeaning, .ref q_joinedPair, .int v_joinedTold, .int v_needsTold, .int v_needed]))] sz) := by
  refine Met.ofW (cc := cX4_tellNeed) (maxL := 2) (ret := (some .boolean)) (by decide +kernel) rfl ?_
  intro p e s m args below meth c s₁ B hml hv
  obtain ⟨rfl, hsz, hP, hK, hD0⟩ := hv
  have hx := B.exec
  have hb := B.bytes
  have hr := B.returns
  have hts := atoms_spec (ws := wsX4_tellNeed) B.pre
  have hown : s.vm.findClass RX4 = some m.cls := findClass_of_methodNamed B.named
  have hlocks := B.notSynchronized
  clear B
  subst hsz
  have hD := hD0.self (sz := s.heap.size)
  generalize hAe : va_A [(q_this, .inr (4, [.ref q_joinedMeaning, .ref q_joinedPair, .int v_joinedTold, .int v_needsTold, .int v_needed]))] s.heap.size = A at hD ⊢
  have hA : ∀ q : Nat, s.heap.size ≤ q → A q := fun q h => by rw [← hAe]; exact Or.inr h
  have hS : va_S A s.heap s.heap [] := va_S.rf
  have hl := lv_entry ([.ref q_this, .int p1]) (n := 2) (Nat.le_of_ble_eq_true rfl)
  rw [lg_entry_eq]
  generalize (lg_sl ([.ref q_this, .int p1]) ++ List.replicate (2 - (lg_sl ([.ref q_this, .int p1])).length) Slot.unset).toArray = ls at hl ⊢
  have hl : lv_has ls 2 [(0, .ref q_this), (1, .int p1)] := hl
  generalize ([.ref q_this, .int p1] : List Value).toArray = args at hts ⊢
  generalize hQe : MQ below (kQi D ca (A) [(q_this, .inr (4, [.ref q_joinedMeaning, .ref q_joinedPair, .int v_joinedTold, .int o_needsTold, .int o_needed]))] r) args s 0 0 A = Q
  have i_X4 : ∀ w ∈ u_ws RX4 TX4 5, w ∈ wsX4_tellNeed := by decide +kernel
  have k_22 := hts (.fieldLink RX4 22 "TradeWords$Needs" "needsTold" "I") (by decide +kernel)
  have k_25 := hts (.fieldLink RX4 25 "TradeWords$Needs" "needed" "I") (by decide +kernel)
  rw [D_X4_tellNeed] at h
  refine lv_aload_n hx hb dX4_tellNeed_0 rfl (lv_at hl 0 rfl) ?_
  refine va_get (D := D) (ci := 4) (v := .int v_needsTold) (C := RX4) (T := TX4) (N := 5) hx hb hts i_X4 hown hK hP 0 rfl rfl 3 (by decide) k_22 (fun _ h9 => h9) rfl dX4_tellNeed_1 ?_
  refine lv_bipush (v := (nI 6)) hx hb dX4_tellNeed_4 (by decide) ?_
  refine lv_icmp_lt (tgt := 11) hx hb dX4_tellNeed_6 (by decide) (fun c_1 => ?_) (fun c_1 => ?_)
  · replace h := ifp_el c_1 h
    refine lv_aload_n hx hb dX4_tellNeed_11 rfl (lv_at hl 0 rfl) ?_
    refine lv_dup hx hb dX4_tellNeed_12 rfl ?_
    refine va_get (D := D) (ci := 4) (v := .int v_needed) (C := RX4) (T := TX4) (N := 5) hx hb hts i_X4 hown hK hP 0 rfl rfl 4 (by decide) k_25 (fun _ h9 => h9) rfl dX4_tellNeed_13 ?_
    refine lv_iload_n hx hb dX4_tellNeed_16 rfl (lv_at hl 1 rfl) ?_
    refine lv_ior hx hb dX4_tellNeed_17 ?_
    refine lv_nmi h (fun w_2 h => ?_)
    refine va_put (D := D) (ci := 4) (v := .int w_2) (ty := .int) (C := RX4) (T := TX4) (N := 5) hx hb hts i_X4 tyX4 tyX4_ok nmX4 hown hK hP hD hS 0 rfl rfl 4 (by decide) k_25 (fun _ h9 => h9) rfl (by decide +kernel) rfl rfl (Nat.le_of_ble_eq_true rfl) dX4_tellNeed_18 (fun H locs hP hD hS => ?_)
    have hP : va_P D vwCl [(q_this, .inr (4, [.ref q_joinedMeaning, .ref q_joinedPair, .int v_joinedTold, .int v_needsTold, .int w_2]))] H := hP
    have hD : va_D A [(q_this, .inr (4, [.ref q_joinedMeaning, .ref q_joinedPair, .int v_joinedTold, .int v_needsTold, .int w_2]))] := hD
    refine lv_aload_n hx hb dX4_tellNeed_21 rfl (lv_at hl 0 rfl) ?_
    refine lv_dup hx hb dX4_tellNeed_22 rfl ?_
    refine va_get (D := D) (ci := 4) (v := .int v_needsTold) (C := RX4) (T := TX4) (N := 5) hx hb hts i_X4 hown hK hP 0 rfl rfl 3 (by decide) k_22 (fun _ h9 => h9) rfl dX4_tellNeed_23 ?_
    refine lv_iconst (v := (nI 1)) hx hb dX4_tellNeed_26 (by decide) ?_
    refine lv_iadd hx hb dX4_tellNeed_27 ?_
    refine lv_nmi h (fun w_3 h => ?_)
    refine va_put (D := D) (ci := 4) (v := .int w_3) (ty := .int) (C := RX4) (T := TX4) (N := 5) hx hb hts i_X4 tyX4 tyX4_ok nmX4 hown hK hP hD hS 0 rfl rfl 3 (by decide) k_22 (fun _ h9 => h9) rfl (by decide +kernel) rfl rfl (Nat.le_of_ble_eq_true rfl) dX4_tellNeed_28 (fun H locs hP hD hS => ?_)
    have hP : va_P D vwCl [(q_this, .inr (4, [.ref q_joinedMeaning, .ref q_joinedPair, .int v_joinedTold, .int w_3, .int w_2]))] H := hP
    have hD : va_D A [(q_this, .inr (4, [.ref q_joinedMeaning, .ref q_joinedPair, .int v_joinedTold, .int w_3, .int w_2]))] := hD
    refine lv_iconst (v := (nI 1)) hx hb dX4_tellNeed_31 (by decide) ?_
    cases h
    rw [← hQe]
    exact W.zret hx hb hr rfl (fun t ht hW => ⟨⟨_, (), rfl, rfl, by rw [ht]; exact hP, va_K.moved hW.alike hK, hD⟩, hS.F ht⟩) hS.2.2 dX4_tellNeed_32
  · replace h := ifn_el c_1 h
    refine lv_iconst (v := (nI 0)) hx hb dX4_tellNeed_9 (by decide) ?_
    cases h
    rw [← hQe]
    exact W.zret hx hb hr rfl (fun t ht hW => ⟨⟨_, (), rfl, rfl, by rw [ht]; exact hP, va_K.moved hW.alike hK, hD⟩, hS.F ht⟩) hS.2.2 dX4_tellNeed_10
def D_X0_accepts (v_speaks : Int32) (v_alikeFrom : Int32) (v_words : Nat → Int32) (v_heard : Nat → Int32) (v_canSay : Nat → Int32) (v_instead : Nat → Int32) (v_traders : Nat → Int32) (v_takes : Nat → Int32) (v_needs_joinedTold : Int32) (v_needs_needsTold : Int32) (v_needs_needed : Int32) (v_needs_joinedMeaning : Nat → Int32) (v_needs_joinedPair : Nat → Int32) (v_o1_letter : Int32) (v_o1_word : Int32) (v_o1_bits : Int32) (v_o1_numbers : Nat → Int32) : Option (Int32 × Int32 × Int32 × (Nat → Int32) × (Nat → Int32) × (Nat → Int32) × (Nat → Int32) × (Nat → Int32) × (Nat → Int32) × Int32 × Int32 × Int32 × (Nat → Int32) × (Nat → Int32)) := bd1 (D_X2_number (nI 0) v_o1_numbers) (fun r_1 => bd1 (D_X2_number (nI 1) v_o1_numbers) (fun r_3 => bd1 (D_X2_letter v_o1_letter) (fun r_5 => (if r_5 = (nI 101) then bd1 (D_X0_heardPlace r_1 r_3) (fun r_8 => bd1 (D_X2_spelled v_o1_word) (fun r_10 => bd1 (D_X5_put 24 r_8 r_10 v_heard) (fun y_heard_12 => some ((nI 1), v_speaks, v_alikeFrom, v_words, y_heard_12, v_canSay, v_instead, v_traders, v_takes, v_needs_joinedTold, v_needs_needsTold, v_needs_needed, v_needs_joinedMeaning, v_needs_joinedPair)))) else (if r_5 = (nI 103) then some ((nI 1), v_speaks, r_1, v_words, v_heard, v_canSay, v_instead, v_traders, v_takes, v_needs_joinedTold, v_needs_needsTold, v_needs_needed, v_needs_joinedMeaning, v_needs_joinedPair) else (if r_5 = (nI 106) then bd1 (D_X2_number (nI 2) v_o1_numbers) (fun r_16 => bd4 (D_X4_tellJoined r_1 (((nI 1) <<< (r_3 &&& 31)) ||| ((nI 1) <<< (r_16 &&& 31))) v_needs_joinedTold v_needs_joinedMeaning v_needs_joinedPair) (fun r_18 y_needs_joinedTold_19 y_needs_joinedMeaning_20 y_needs_joinedPair_21 => cz r_18 (some (r_18, v_speaks, v_alikeFrom, v_words, v_heard, v_canSay, v_instead, v_traders, v_takes, y_needs_joinedTold_19, v_needs_needsTold, v_needs_needed, y_needs_joinedMeaning_20, y_needs_joinedPair_21)))) else (if r_5 = (nI 107) then bd1 (D_X0_tellPair 2 r_1 r_3 v_takes) (fun y_takes_24 => some ((nI 1), v_speaks, v_alikeFrom, v_words, v_heard, v_canSay, v_instead, v_traders, y_takes_24, v_needs_joinedTold, v_needs_needsTold, v_needs_needed, v_needs_joinedMeaning, v_needs_joinedPair)) else (if r_5 = (nI 110) then bd1 (D_X0_tellPair 2 r_1 r_3 v_traders) (fun y_traders_27 => some ((nI 1), v_speaks, v_alikeFrom, v_words, v_heard, v_canSay, v_instead, y_traders_27, v_takes, v_needs_joinedTold, v_needs_needsTold, v_needs_needed, v_needs_joinedMeaning, v_needs_joinedPair)) else (if r_5 = (nI 111) then some ((nI 1), r_1, v_alikeFrom, v_words, v_heard, v_canSay, v_instead, v_traders, v_takes, v_needs_joinedTold, v_needs_needsTold, v_needs_needed, v_needs_joinedMeaning, v_needs_joinedPair) else (if r_5 = (nI 114) then bd1 (D_X2_spelled v_o1_word) (fun r_31 => bd1 (D_X0_tellExchange r_31 v_instead) (fun y_instead_33 => some ((nI 1), v_speaks, v_alikeFrom, v_words, v_heard, v_canSay, y_instead_33, v_traders, v_takes, v_needs_joinedTold, v_needs_needsTold, v_needs_needed, v_needs_joinedMeaning, v_needs_joinedPair))) else (if r_5 = (nI 115) then bd1 (D_X2_bits v_o1_bits) (fun r_36 => bd1 (D_X5_put 2 r_1 r_36 v_canSay) (fun y_canSay_38 => some ((nI 1), v_speaks, v_alikeFrom, v_words, v_heard, y_canSay_38, v_instead, v_traders, v_takes, v_needs_joinedTold, v_needs_needsTold, v_needs_needed, v_needs_joinedMeaning, v_needs_joinedPair))) else (if r_5 = (nI 117) then bd1 (D_X2_bits v_o1_bits) (fun r_41 => bd3 (D_X4_tellNeed r_41 v_needs_needsTold v_needs_needed) (fun r_43 y_needs_needsTold_44 y_needs_needed_45 => cz r_43 (some (r_43, v_speaks, v_alikeFrom, v_words, v_heard, v_canSay, v_instead, v_traders, v_takes, v_needs_joinedTold, y_needs_needsTold_44, y_needs_needed_45, v_needs_joinedMeaning, v_needs_joinedPair)))) else (if r_5 = (nI 119) then bd1 (D_X0_wordPlace r_1 r_3) (fun r_48 => bd1 (D_X2_spelled v_o1_word) (fun r_50 => bd1 (D_X5_put 16 r_48 r_50 v_words) (fun y_words_52 => some ((nI 1), v_speaks, v_alikeFrom, y_words_52, v_heard, v_canSay, v_instead, v_traders, v_takes, v_needs_joinedTold, v_needs_needsTold, v_needs_needed, v_needs_joinedMeaning, v_needs_joinedPair)))) else some ((nI 0), v_speaks, v_alikeFrom, v_words, v_heard, v_canSay, v_instead, v_traders, v_takes, v_needs_joinedTold, v_needs_needsTold, v_needs_needed, v_needs_joinedMeaning, v_needs_joinedPair))))))))))))))
abbrev rm_X0_accepts : Room := { frames := 2, cells := 0, slots := 0, locals := 44 }
set_option maxHeartbeats 4000000 in
set_option maxRecDepth 100000 in
theorem c_X0_accepts (l : Launch) (D : va_G) (ca : Nat → ClassId) (sz : Nat) (q_this q_words q_heard q_canSay q_instead q_traders q_takes q_needs q_needs_joinedMeaning q_needs_joinedPair q_o1 q_o1_text q_o1_numbers : Nat) (v_speaks : Int32) (v_alikeFrom : Int32) (v_words : Nat → Int32) (v_heard : Nat → Int32) (v_canSay : Nat → Int32) (v_instead : Nat → Int32) (v_traders : Nat → Int32) (v_takes : Nat → Int32) (v_needs_joinedTold : Int32) (v_needs_needsTold : Int32) (v_needs_needed : Int32) (v_needs_joinedMeaning : Nat → Int32) (v_needs_joinedPair : Nat → Int32) (v_o1_place : Int32) (v_o1_letter : Int32) (v_o1_word : Int32) (v_o1_bits : Int32) (v_o1_numbers : Nat → Int32) (r : Int32) (o_speaks : Int32) (o_alikeFrom : Int32) (o_words : Nat → Int32) (o_heard : Nat → Int32) (o_canSay : Nat → Int32) (o_instead : Nat → Int32) (o_traders : Nat → Int32) (o_takes : Nat → Int32) (o_needs_joinedTold : Int32) (o_needs_needsTold : Int32) (o_needs_needed : Int32) (o_needs_joinedMeaning : Nat → Int32) (o_needs_joinedPair : Nat → Int32) (h : D_X0_accepts v_speaks v_alikeFrom v_words v_heard v_canSay v_instead v_traders v_takes v_needs_joinedTold v_needs_needsTold v_needs_needed v_needs_joinedMeaning v_needs_joinedPair v_o1_letter v_o1_word v_o1_bits v_o1_numbers = some (r, o_speaks, o_alikeFrom, o_words, o_heard, o_canSay, o_instead, o_traders, o_takes, o_needs_joinedTold, o_needs_needsTold, o_needs_needed, o_needs_joinedMeaning, o_needs_joinedPair)) : Met l yX0_accepts wsX0_accepts rm_X0_accepts (va_Pc [.ref q_this, .ref q_o1] (kPre D ca [(q_this, .inr (0, [.ref q_words, .ref q_heard, .ref q_canSay, .ref q_instead, .ref q_traders, .ref q_takes, .ref q_needs, .int v_speaks, .int v_alikeFrom])), (q_words, .inl (ca 0, 16, .inl v_words)), (q_heard, .inl (ca 0, 24, .inl v_heard)), (q_canSay, .inl (ca 0, 2, .inl v_canSay)), (q_instead, .inl (ca 0, 16, .inl v_instead)), (q_traders, .inl (ca 0, 2, .inl v_traders)), (q_takes, .inl (ca 0, 2, .inl v_takes)), (q_needs, .inr (4, [.ref q_needs_joinedMeaning, .ref q_needs_joinedPair, .int v_needs_joinedTold, .int v_needs_needsTold, .int v_needs_needed])), (q_needs_joinedMeaning, .inl (ca 0, 8, .inl v_needs_joinedMeaning)), (q_needs_joinedPair, .inl (ca 0, 8, .inl v_needs_joinedPair)), (q_o1, .inr (2, [.ref q_o1_text, .ref q_o1_numbers, .int v_o1_place, .int v_o1_letter, .int v_o1_word, .int v_o1_bits])), (q_o1_numbers, .inl (ca 0, 3, .inl v_o1_numbers))] sz)) (kQi D ca (va_A [(q_this, .inr (0, [.ref q_words, .ref q_heard, .ref q_canSay, .ref q_instead, .ref q_traders, .ref q_takes, .ref q_needs, .int v_speaks, .int v_alikeFrom])), (q_words, .inl (ca 0, 16, .inl v_words)), (q_heard, .inl (ca 0, 24, .inl v_heard)), (q_canSay, .inl (ca 0, 2, .inl v_canSay)), (q_instead, .inl (ca 0, 16, .inl v_instead)), (q_traders, .inl (ca 0, 2, .inl v_traders)), (q_takes, .inl (ca 0, 2, .inl v_takes)), (q_needs, .inr (4, [.ref q_needs_joinedMeaning, .ref q_needs_joinedPair, .int v_needs_joinedTold, .int v_needs_needsTold, .int v_needs_needed])), (q_needs_joinedMeaning, .inl (ca 0, 8, .inl v_needs_joinedMeaning)), (q_needs_joinedPair, .inl (ca 0, 8, .inl v_needs_joinedPair)), (q_o1, .inr (2, [.ref q_o1_text, .ref q_o1_numbers, .int v_o1_place, .int v_o1_letter, .int v_o1_word, .int v_o1_bits])), (q_o1_numbers, .inl (ca 0, 3, .inl v_o1_numbers))] sz) [(q_this, .inr (0, [.ref q_words, .ref q_heard, .ref q_canSay, .ref q_instead, .ref q_traders, .ref q_takes, .ref q_needs, .int o_speaks, .int o_alikeFrom])), (q_words, .inl (ca 0, 16, .inl o_words)), (q_heard, .inl (ca 0, 24, .inl o_heard)), (q_canSay, .inl (ca 0, 2, .inl o_canSay)), (q_instead, .inl (ca 0, 16, .inl o_instead)), (q_traders, .inl (ca 0, 2, .inl o_traders)), (q_takes, .inl (ca 0, 2, .inl o_takes)), (q_needs, .inr (4, [.ref q_needs_joinedMeaning, .ref q_needs_joinedPair, .int o_needs_joinedTold, .int o_needs_needsTold, .int o_needs_needed])), (q_needs_joinedMeaning, .inl (ca 0, 8, .inl o_needs_joinedMeaning)), (q_needs_joinedPair, .inl (ca 0, 8, .inl o_needs_joinedPair)), (q_o1, .inr (2, [.ref q_o1_text, .ref q_o1_numbers, .int v_o1_place, .int v_o1_letter, .int v_o1_word, .int v_o1_bits])), (q_o1_numbers, .inl (ca 0, 3, .inl v_o1_numbers))] r) 0 0 (va_A [(q_this, .inr (0, [.ref q_words, .ref q_heard, .ref q_canSay, .ref q_instead, .ref q_traders, .ref q_takes, .ref q_needs, .int v_speaks, .int v_alikeFrom])), (q_words, .inl (ca 0, 16, .inl v_words)), (q_heard, .inl (ca 0, 24, .inl v_heard)), (q_canSay, .inl (ca 0, 2, .inl v_canSay)), (q_instead, .inl (ca 0, 16, .inl v_instead)), (q_traders, .inl (ca 0, 2, .inl v_traders)), (q_takes, .inl (ca 0, 2, .inl v_takes)), (q_needs, .inr (4, [.ref q_needs_joinedMeaning, .ref q_needs_joinedPair, .int v_needs_joinedTold, .int v_needs_needsTold, .int v_needs_needed])), (q_needs_joinedMeaning, .inl (ca 0, 8, .inl v_needs_joinedMeaning)), (q_needs_joinedPair, .inl (ca 0, 8, .inl v_needs_joinedPair)), (q_o1, .inr (2, [.ref q_o1_text, .ref q_o1_numbers, .int v_o1_place, .int v_o1_letter, .int v_o1_word, .int v_o1_bits])), (q_o1_numbers, .inl (ca 0, 3, .inl v_o1_numbers))] sz) := by
  refine Met.ofW (cc := cX0_accepts) (maxL := 4) (ret := (some .boolean)) (by decide +kernel) rfl ?_
  intro p e s m args below meth c s₁ B hml hv
  obtain ⟨rfl, hsz, hP, hK, hD0⟩ := hv
  have hx := B.exec
  have hb := B.bytes
  have hr := B.returns
  have hts := atoms_spec (ws := wsX0_accepts) B.pre
  have hown : s.vm.findClass RX0 = some m.cls := findClass_of_methodNamed B.named
  have hlocks := B.notSynchronized
  clear B
  subst hsz
  have hD := hD0.self (sz := s.heap.size)
  generalize hAe : va_A [(q_this, .inr (0, [.ref q_words, .ref q_heard, .ref q_canSay, .ref q_instead, .ref q_traders, .ref q_takes, .ref q_needs, .int v_speaks, .int v_alikeFrom])), (q_words, .inl (ca 0, 16, .inl v_words)), (q_heard, .inl (ca 0, 24, .inl v_heard)), (q_canSay, .inl (ca 0, 2, .inl v_canSay)), (q_instead, .inl (ca 0, 16, .inl v_instead)), (q_traders, .inl (ca 0, 2, .inl v_traders)), (q_takes, .inl (ca 0, 2, .inl v_takes)), (q_needs, .inr (4, [.ref q_needs_joinedMeaning, .ref q_needs_joinedPair, .int v_needs_joinedTold, .int v_needs_needsTold, .int v_needs_needed])), (q_needs_joinedMeaning, .inl (ca 0, 8, .inl v_needs_joinedMeaning)), (q_needs_joinedPair, .inl (ca 0, 8, .inl v_needs_joinedPair)), (q_o1, .inr (2, [.ref q_o1_text, .ref q_o1_numbers, .int v_o1_place, .int v_o1_letter, .int v_o1_word, .int v_o1_bits])), (q_o1_numbers, .inl (ca 0, 3, .inl v_o1_numbers))] s.heap.size = A at hD ⊢
  have hA : ∀ q : Nat, s.heap.size ≤ q → A q := fun q h => by rw [← hAe]; exact Or.inr h
  have hS : va_S A s.heap s.heap [] := va_S.rf
  have hl := lv_entry ([.ref q_this, .ref q_o1]) (n := 4) (Nat.le_of_ble_eq_true rfl)
  rw [lg_entry_eq]
  generalize (lg_sl ([.ref q_this, .ref q_o1]) ++ List.replicate (4 - (lg_sl ([.ref q_this, .ref q_o1])).length) Slot.unset).toArray = ls at hl ⊢
  have hl : lv_has ls 4 [(0, .ref q_this), (1, .ref q_o1)] := hl
  generalize ([.ref q_this, .ref q_o1] : List Value).toArray = args at hts ⊢
  generalize hQe : MQ below (kQi D ca (A) [(q_this, .inr (0, [.ref q_words, .ref q_heard, .ref q_canSay, .ref q_instead, .ref q_traders, .ref q_takes, .ref q_needs, .int o_speaks, .int o_alikeFrom])), (q_words, .inl (ca 0, 16, .inl o_words)), (q_heard, .inl (ca 0, 24, .inl o_heard)), (q_canSay, .inl (ca 0, 2, .inl o_canSay)), (q_instead, .inl (ca 0, 16, .inl o_instead)), (q_traders, .inl (ca 0, 2, .inl o_traders)), (q_takes, .inl (ca 0, 2, .inl o_takes)), (q_needs, .inr (4, [.ref q_needs_joinedMeaning, .ref q_needs_joinedPair, .int o_needs_joinedTold, .int o_needs_needsTold, .int o_needs_needed])), (q_needs_joinedMeaning, .inl (ca 0, 8, .inl o_needs_joinedMeaning)), (q_needs_joinedPair, .inl (ca 0, 8, .inl o_needs_joinedPair)), (q_o1, .inr (2, [.ref q_o1_text, .ref q_o1_numbers, .int v_o1_place, .int v_o1_letter, .int v_o1_word, .int v_o1_bits])), (q_o1_numbers, .inl (ca 0, 3, .inl v_o1_numbers))] r) args s 0 0 A = Q
  have i_X0 : ∀ w ∈ u_ws RX0 TX0 9, w ∈ wsX0_accepts := by decide +kernel
  have k_15 := hts (.fieldLink RX0 15 "TradeWords$Beach" "heard" "[I") (by decide +kernel)
  have k_54 := hts (.fieldLink RX0 54 "TradeWords$Beach" "alikeFrom" "I") (by decide +kernel)
  have k_33 := hts (.fieldLink RX0 33 "TradeWords$Beach" "needs" "LTradeWords$Needs;") (by decide +kernel)
  have k_27 := hts (.fieldLink RX0 27 "TradeWords$Beach" "takes" "[I") (by decide +kernel)
  have k_24 := hts (.fieldLink RX0 24 "TradeWords$Beach" "traders" "[I") (by decide +kernel)
  have k_50 := hts (.fieldLink RX0 50 "TradeWords$Beach" "speaks" "I") (by decide +kernel)
  have k_18 := hts (.fieldLink RX0 18 "TradeWords$Beach" "canSay" "[I") (by decide +kernel)
  have k_9 := hts (.fieldLink RX0 9 "TradeWords$Beach" "words" "[I") (by decide +kernel)
  rw [D_X0_accepts] at h
  refine lv_aload_n hx hb dX0_accepts_0 rfl (lv_at hl 1 rfl) ?_
  refine lv_iconst (v := (nI 0)) hx hb dX0_accepts_1 (by decide) ?_
  obtain ⟨r_1, hg_2, h⟩ := bd1_el h
  refine kx_Vi (As := [.int (nI 0)]) (rest := []) (wr := [(q_this, .inr (0, [.ref q_words, .ref q_heard, .ref q_canSay, .ref q_instead, .ref q_traders, .ref q_takes, .ref q_needs, .int v_speaks, .int v_alikeFrom])), (q_words, .inl (ca 0, 16, .inl v_words)), (q_heard, .inl (ca 0, 24, .inl v_heard)), (q_canSay, .inl (ca 0, 2, .inl v_canSay)), (q_instead, .inl (ca 0, 16, .inl v_instead)), (q_traders, .inl (ca 0, 2, .inl v_traders)), (q_takes, .inl (ca 0, 2, .inl v_takes)), (q_needs, .inr (4, [.ref q_needs_joinedMeaning, .ref q_needs_joinedPair, .int v_needs_joinedTold, .int v_needs_needsTold, .int v_needs_needed])), (q_needs_joinedMeaning, .inl (ca 0, 8, .inl v_needs_joinedMeaning)), (q_needs_joinedPair, .inl (ca 0, 8, .inl v_needs_joinedPair))]) (w1 := [(q_o1, .inr (2, [.ref q_o1_text, .ref q_o1_numbers, .int v_o1_place, .int v_o1_letter, .int v_o1_word, .int v_o1_bits])), (q_o1_numbers, .inl (ca 0, 3, .inl v_o1_numbers))]) (wn := [(q_this, .inr (0, [.ref q_words, .ref q_heard, .ref q_canSay, .ref q_instead, .ref q_traders, .ref q_takes, .ref q_needs, .int v_speaks, .int v_alikeFrom])), (q_words, .inl (ca 0, 16, .inl v_words)), (q_heard, .inl (ca 0, 24, .inl v_heard)), (q_canSay, .inl (ca 0, 2, .inl v_canSay)), (q_instead, .inl (ca 0, 16, .inl v_instead)), (q_traders, .inl (ca 0, 2, .inl v_traders)), (q_takes, .inl (ca 0, 2, .inl v_takes)), (q_needs, .inr (4, [.ref q_needs_joinedMeaning, .ref q_needs_joinedPair, .int v_needs_joinedTold, .int v_needs_needsTold, .int v_needs_needed])), (q_needs_joinedMeaning, .inl (ca 0, 8, .inl v_needs_joinedMeaning)), (q_needs_joinedPair, .inl (ca 0, 8, .inl v_needs_joinedPair)), (q_o1, .inr (2, [.ref q_o1_text, .ref q_o1_numbers, .int v_o1_place, .int v_o1_letter, .int v_o1_word, .int v_o1_bits])), (q_o1_numbers, .inl (ca 0, 3, .inl v_o1_numbers))]) ⟨hx, hb, hml, hown, hts⟩ (c_X2_number l D ca s.heap.size q_o1 q_o1_text q_o1_numbers (nI 0) v_o1_place v_o1_letter v_o1_word v_o1_bits v_o1_numbers r_1 hg_2) (cwV 1 hts gX0_accepts_X2_number rfl rfl rfl (by decide +kernel) ⟨(Nat.le_of_ble_eq_true rfl), (Nat.le_of_ble_eq_true rfl)⟩) hK hP hD hS hA (ci := 2) (q0 := 0) rfl rfl [10, 11] [0, 1, 2, 3, 4, 5, 6, 7, 8, 9] [0, 1, 2, 3, 4, 5, 6, 7, 8, 9, 10, 11] rfl rfl rfl rfl (by decide) rfl rfl rfl hl.1 rfl (Nat.le_of_ble_eq_true rfl) dX0_accepts_2 ⟨Nat.zero_le _, Nat.zero_le _⟩ (fun H locs hP hD hS => ?_)
  refine lv_istore_n (lv' := [(2, .int r_1), (0, .ref q_this), (1, .ref q_o1)]) hx hb dX0_accepts_5 rfl hl (by decide) rfl (fun ls hl => ?_)
  refine lv_aload_n hx hb dX0_accepts_6 rfl (lv_at hl 2 rfl) ?_
  refine lv_iconst (v := (nI 1)) hx hb dX0_accepts_7 (by decide) ?_
  obtain ⟨r_3, hg_4, h⟩ := bd1_el h
  refine kx_Vi (As := [.int (nI 1)]) (rest := []) (wr := [(q_this, .inr (0, [.ref q_words, .ref q_heard, .ref q_canSay, .ref q_instead, .ref q_traders, .ref q_takes, .ref q_needs, .int v_speaks, .int v_alikeFrom])), (q_words, .inl (ca 0, 16, .inl v_words)), (q_heard, .inl (ca 0, 24, .inl v_heard)), (q_canSay, .inl (ca 0, 2, .inl v_canSay)), (q_instead, .inl (ca 0, 16, .inl v_instead)), (q_traders, .inl (ca 0, 2, .inl v_traders)), (q_takes, .inl (ca 0, 2, .inl v_takes)), (q_needs, .inr (4, [.ref q_needs_joinedMeaning, .ref q_needs_joinedPair, .int v_needs_joinedTold, .int v_needs_needsTold, .int v_needs_needed])), (q_needs_joinedMeaning, .inl (ca 0, 8, .inl v_needs_joinedMeaning)), (q_needs_joinedPair, .inl (ca 0, 8, .inl v_needs_joinedPair))]) (w1 := [(q_o1, .inr (2, [.ref q_o1_text, .ref q_o1_numbers, .int v_o1_place, .int v_o1_letter, .int v_o1_word, .int v_o1_bits])), (q_o1_numbers, .inl (ca 0, 3, .inl v_o1_numbers))]) (wn := [(q_this, .inr (0, [.ref q_words, .ref q_heard, .ref q_canSay, .ref q_instead, .ref q_traders, .ref q_takes, .ref q_needs, .int v_speaks, .int v_alikeFrom])), (q_words, .inl (ca 0, 16, .inl v_words)), (q_heard, .inl (ca 0, 24, .inl v_heard)), (q_canSay, .inl (ca 0, 2, .inl v_canSay)), (q_instead, .inl (ca 0, 16, .inl v_instead)), (q_traders, .inl (ca 0, 2, .inl v_traders)), (q_takes, .inl (ca 0, 2, .inl v_takes)), (q_needs, .inr (4, [.ref q_needs_joinedMeaning, .ref q_needs_joinedPair, .int v_needs_joinedTold, .int v_needs_needsTold, .int v_needs_needed])), (q_needs_joinedMeaning, .inl (ca 0, 8, .inl v_needs_joinedMeaning)), (q_needs_joinedPair, .inl (ca 0, 8, .inl v_needs_joinedPair)), (q_o1, .inr (2, [.ref q_o1_text, .ref q_o1_numbers, .int v_o1_place, .int v_o1_letter, .int v_o1_word, .int v_o1_bits])), (q_o1_numbers, .inl (ca 0, 3, .inl v_o1_numbers))]) ⟨hx, hb, hml, hown, hts⟩ (c_X2_number l D ca H.size q_o1 q_o1_text q_o1_numbers (nI 1) v_o1_place v_o1_letter v_o1_word v_o1_bits v_o1_numbers r_3 hg_4) (cwV 1 hts gX0_accepts_X2_number rfl rfl rfl (by decide +kernel) ⟨(Nat.le_of_ble_eq_true rfl), (Nat.le_of_ble_eq_true rfl)⟩) hK hP hD hS hA (ci := 2) (q0 := 0) rfl rfl [10, 11] [0, 1, 2, 3, 4, 5, 6, 7, 8, 9] [0, 1, 2, 3, 4, 5, 6, 7, 8, 9, 10, 11] rfl rfl rfl rfl (by decide) rfl rfl rfl hl.1 rfl (Nat.le_of_ble_eq_true rfl) dX0_accepts_8 ⟨Nat.zero_le _, Nat.zero_le _⟩ (fun H locs hP hD hS => ?_)
  refine lv_istore_n (lv' := [(3, .int r_3), (2, .int r_1), (0, .ref q_this), (1, .ref q_o1)]) hx hb dX0_accepts_11 rfl hl (by decide) rfl (fun ls hl => ?_)
  refine lv_aload_n hx hb dX0_accepts_12 rfl (lv_at hl 3 rfl) ?_
  obtain ⟨r_5, hg_6, h⟩ := bd1_el h
  refine kx_Vi (As := []) (rest := []) (wr := [(q_this, .inr (0, [.ref q_words, .ref q_heard, .ref q_canSay, .ref q_instead, .ref q_traders, .ref q_takes, .ref q_needs, .int v_speaks, .int v_alikeFrom])), (q_words, .inl (ca 0, 16, .inl v_words)), (q_heard, .inl (ca 0, 24, .inl v_heard)), (q_canSay, .inl (ca 0, 2, .inl v_canSay)), (q_instead, .inl (ca 0, 16, .inl v_instead)), (q_traders, .inl (ca 0, 2, .inl v_traders)), (q_takes, .inl (ca 0, 2, .inl v_takes)), (q_needs, .inr (4, [.ref q_needs_joinedMeaning, .ref q_needs_joinedPair, .int v_needs_joinedTold, .int v_needs_needsTold, .int v_needs_needed])), (q_needs_joinedMeaning, .inl (ca 0, 8, .inl v_needs_joinedMeaning)), (q_needs_joinedPair, .inl (ca 0, 8, .inl v_needs_joinedPair)), (q_o1_numbers, .inl (ca 0, 3, .inl v_o1_numbers))]) (w1 := [(q_o1, .inr (2, [.ref q_o1_text, .ref q_o1_numbers, .int v_o1_place, .int v_o1_letter, .int v_o1_word, .int v_o1_bits]))]) (wn := [(q_this, .inr (0, [.ref q_words, .ref q_heard, .ref q_canSay, .ref q_instead, .ref q_traders, .ref q_takes, .ref q_needs, .int v_speaks, .int v_alikeFrom])), (q_words, .inl (ca 0, 16, .inl v_words)), (q_heard, .inl (ca 0, 24, .inl v_heard)), (q_canSay, .inl (ca 0, 2, .inl v_canSay)), (q_instead, .inl (ca 0, 16, .inl v_instead)), (q_traders, .inl (ca 0, 2, .inl v_traders)), (q_takes, .inl (ca 0, 2, .inl v_takes)), (q_needs, .inr (4, [.ref q_needs_joinedMeaning, .ref q_needs_joinedPair, .int v_needs_joinedTold, .int v_needs_needsTold, .int v_needs_needed])), (q_needs_joinedMeaning, .inl (ca 0, 8, .inl v_needs_joinedMeaning)), (q_needs_joinedPair, .inl (ca 0, 8, .inl v_needs_joinedPair)), (q_o1, .inr (2, [.ref q_o1_text, .ref q_o1_numbers, .int v_o1_place, .int v_o1_letter, .int v_o1_word, .int v_o1_bits])), (q_o1_numbers, .inl (ca 0, 3, .inl v_o1_numbers))]) ⟨hx, hb, hml, hown, hts⟩ (c_X2_letter l D ca H.size q_o1 q_o1_text q_o1_numbers v_o1_place v_o1_letter v_o1_word v_o1_bits r_5 hg_6) (cwV 0 hts gX0_accepts_X2_letter rfl rfl rfl (by decide +kernel) ⟨(Nat.le_of_ble_eq_true rfl), (Nat.le_of_ble_eq_true rfl)⟩) hK hP hD hS hA (ci := 2) (q0 := 0) rfl rfl [10] [0, 1, 2, 3, 4, 5, 6, 7, 8, 9, 11] [0, 1, 2, 3, 4, 5, 6, 7, 8, 9, 11, 10] rfl rfl rfl rfl (by decide) rfl rfl rfl hl.1 rfl (Nat.le_of_ble_eq_true rfl) dX0_accepts_13 ⟨Nat.zero_le _, Nat.zero_le _⟩ (fun H locs hP hD hS => ?_)
  by_cases c_7 : r_5 = (nI 101)
  · replace h := ifp_el c_7 h
    refine lv_tableIn (off := 110) (tgt := 126) hx hb dX0_accepts_16 (by rw [c_7]; decide) (by rw [c_7]; decide) (by rw [c_7]; decide) (by decide) ?_
    refine lv_aload_n hx hb dX0_accepts_126 rfl (lv_at hl 2 rfl) ?_
    refine va_get (D := D) (ci := 0) (v := .ref q_heard) (C := RX0) (T := TX0) (N := 9) hx hb hts i_X0 hown hK hP 0 rfl rfl 1 (by decide) k_15 (fun _ h9 => h9) rfl dX0_accepts_127 ?_
    refine lv_iload_n hx hb dX0_accepts_130 rfl (lv_at hl 1 rfl) ?_
    refine lv_iload_n hx hb dX0_accepts_131 rfl (lv_at hl 0 rfl) ?_
    obtain ⟨r_8, hg_9, h⟩ := bd1_el h
    refine kx_Si (As := [.int r_1, .int r_3]) (rest := [.ref q_heard]) (wr := [(q_this, .inr (0, [.ref q_words, .ref q_heard, .ref q_canSay, .ref q_instead, .ref q_traders, .ref q_takes, .ref q_needs, .int v_speaks, .int v_alikeFrom])), (q_words, .inl (ca 0, 16, .inl v_words)), (q_heard, .inl (ca 0, 24, .inl v_heard)), (q_canSay, .inl (ca 0, 2, .inl v_canSay)), (q_instead, .inl (ca 0, 16, .inl v_instead)), (q_traders, .inl (ca 0, 2, .inl v_traders)), (q_takes, .inl (ca 0, 2, .inl v_takes)), (q_needs, .inr (4, [.ref q_needs_joinedMeaning, .ref q_needs_joinedPair, .int v_needs_joinedTold, .int v_needs_needsTold, .int v_needs_needed])), (q_needs_joinedMeaning, .inl (ca 0, 8, .inl v_needs_joinedMeaning)), (q_needs_joinedPair, .inl (ca 0, 8, .inl v_needs_joinedPair)), (q_o1, .inr (2, [.ref q_o1_text, .ref q_o1_numbers, .int v_o1_place, .int v_o1_letter, .int v_o1_word, .int v_o1_bits])), (q_o1_numbers, .inl (ca 0, 3, .inl v_o1_numbers))]) (w1 := []) (wn := [(q_this, .inr (0, [.ref q_words, .ref q_heard, .ref q_canSay, .ref q_instead, .ref q_traders, .ref q_takes, .ref q_needs, .int v_speaks, .int v_alikeFrom])), (q_words, .inl (ca 0, 16, .inl v_words)), (q_heard, .inl (ca 0, 24, .inl v_heard)), (q_canSay, .inl (ca 0, 2, .inl v_canSay)), (q_instead, .inl (ca 0, 16, .inl v_instead)), (q_traders, .inl (ca 0, 2, .inl v_traders)), (q_takes, .inl (ca 0, 2, .inl v_takes)), (q_needs, .inr (4, [.ref q_needs_joinedMeaning, .ref q_needs_joinedPair, .int v_needs_joinedTold, .int v_needs_needsTold, .int v_needs_needed])), (q_needs_joinedMeaning, .inl (ca 0, 8, .inl v_needs_joinedMeaning)), (q_needs_joinedPair, .inl (ca 0, 8, .inl v_needs_joinedPair)), (q_o1, .inr (2, [.ref q_o1_text, .ref q_o1_numbers, .int v_o1_place, .int v_o1_letter, .int v_o1_word, .int v_o1_bits])), (q_o1_numbers, .inl (ca 0, 3, .inl v_o1_numbers))]) ⟨hx, hb, hml, hown, hts⟩ (c_X0_heardPlace l D ca H.size r_1 r_3 r_8 hg_9) (va_cwS 2 hts gX0_accepts_X0_heardPlace rfl rfl rfl (by decide +kernel) ⟨(Nat.le_of_ble_eq_true rfl), (Nat.le_of_ble_eq_true rfl)⟩) hK hP hD hS hA [] [0, 1, 2, 3, 4, 5, 6, 7, 8, 9, 10, 11] [0, 1, 2, 3, 4, 5, 6, 7, 8, 9, 10, 11] rfl rfl rfl rfl (by decide) rfl rfl rfl hl.1 rfl (Nat.le_of_ble_eq_true rfl) dX0_accepts_132 ⟨Nat.zero_le _, Nat.zero_le _⟩ (fun H locs hP hD hS => ?_)
    refine lv_aload_n hx hb dX0_accepts_135 rfl (lv_at hl 3 rfl) ?_
    obtain ⟨r_10, hg_11, h⟩ := bd1_el h
    refine kx_Vi (As := []) (rest := [.int r_8, .ref q_heard]) (wr := [(q_this, .inr (0, [.ref q_words, .ref q_heard, .ref q_canSay, .ref q_instead, .ref q_traders, .ref q_takes, .ref q_needs, .int v_speaks, .int v_alikeFrom])), (q_words, .inl (ca 0, 16, .inl v_words)), (q_heard, .inl (ca 0, 24, .inl v_heard)), (q_canSay, .inl (ca 0, 2, .inl v_canSay)), (q_instead, .inl (ca 0, 16, .inl v_instead)), (q_traders, .inl (ca 0, 2, .inl v_traders)), (q_takes, .inl (ca 0, 2, .inl v_takes)), (q_needs, .inr (4, [.ref q_needs_joinedMeaning, .ref q_needs_joinedPair, .int v_needs_joinedTold, .int v_needs_needsTold, .int v_needs_needed])), (q_needs_joinedMeaning, .inl (ca 0, 8, .inl v_needs_joinedMeaning)), (q_needs_joinedPair, .inl (ca 0, 8, .inl v_needs_joinedPair)), (q_o1_numbers, .inl (ca 0, 3, .inl v_o1_numbers))]) (w1 := [(q_o1, .inr (2, [.ref q_o1_text, .ref q_o1_numbers, .int v_o1_place, .int v_o1_letter, .int v_o1_word, .int v_o1_bits]))]) (wn := [(q_this, .inr (0, [.ref q_words, .ref q_heard, .ref q_canSay, .ref q_instead, .ref q_traders, .ref q_takes, .ref q_needs, .int v_speaks, .int v_alikeFrom])), (q_words, .inl (ca 0, 16, .inl v_words)), (q_heard, .inl (ca 0, 24, .inl v_heard)), (q_canSay, .inl (ca 0, 2, .inl v_canSay)), (q_instead, .inl (ca 0, 16, .inl v_instead)), (q_traders, .inl (ca 0, 2, .inl v_traders)), (q_takes, .inl (ca 0, 2, .inl v_takes)), (q_needs, .inr (4, [.ref q_needs_joinedMeaning, .ref q_needs_joinedPair, .int v_needs_joinedTold, .int v_needs_needsTold, .int v_needs_needed])), (q_needs_joinedMeaning, .inl (ca 0, 8, .inl v_needs_joinedMeaning)), (q_needs_joinedPair, .inl (ca 0, 8, .inl v_needs_joinedPair)), (q_o1, .inr (2, [.ref q_o1_text, .ref q_o1_numbers, .int v_o1_place, .int v_o1_letter, .int v_o1_word, .int v_o1_bits])), (q_o1_numbers, .inl (ca 0, 3, .inl v_o1_numbers))]) ⟨hx, hb, hml, hown, hts⟩ (c_X2_spelled l D ca H.size q_o1 q_o1_text q_o1_numbers v_o1_place v_o1_letter v_o1_word v_o1_bits r_10 hg_11) (cwV 0 hts gX0_accepts_X2_spelled rfl rfl rfl (by decide +kernel) ⟨(Nat.le_of_ble_eq_true rfl), (Nat.le_of_ble_eq_true rfl)⟩) hK hP hD hS hA (ci := 2) (q0 := 0) rfl rfl [10] [0, 1, 2, 3, 4, 5, 6, 7, 8, 9, 11] [0, 1, 2, 3, 4, 5, 6, 7, 8, 9, 11, 10] rfl rfl rfl rfl (by decide) rfl rfl rfl hl.1 rfl (Nat.le_of_ble_eq_true rfl) dX0_accepts_136 ⟨Nat.zero_le _, Nat.zero_le _⟩ (fun H locs hP hD hS => ?_)
    obtain ⟨y_heard_12, hg_13, h⟩ := bd1_el h
    refine kx_Sv (As := [.ref q_heard, .int r_8, .int r_10]) (rest := []) (wr := [(q_this, .inr (0, [.ref q_words, .ref q_heard, .ref q_canSay, .ref q_instead, .ref q_traders, .ref q_takes, .ref q_needs, .int v_speaks, .int v_alikeFrom])), (q_words, .inl (ca 0, 16, .inl v_words)), (q_canSay, .inl (ca 0, 2, .inl v_canSay)), (q_instead, .inl (ca 0, 16, .inl v_instead)), (q_traders, .inl (ca 0, 2, .inl v_traders)), (q_takes, .inl (ca 0, 2, .inl v_takes)), (q_needs, .inr (4, [.ref q_needs_joinedMeaning, .ref q_needs_joinedPair, .int v_needs_joinedTold, .int v_needs_needsTold, .int v_needs_needed])), (q_needs_joinedMeaning, .inl (ca 0, 8, .inl v_needs_joinedMeaning)), (q_needs_joinedPair, .inl (ca 0, 8, .inl v_needs_joinedPair)), (q_o1, .inr (2, [.ref q_o1_text, .ref q_o1_numbers, .int v_o1_place, .int v_o1_letter, .int v_o1_word, .int v_o1_bits])), (q_o1_numbers, .inl (ca 0, 3, .inl v_o1_numbers))]) (w1 := [(q_heard, .inl (ca 0, 24, .inl y_heard_12))]) (wn := [(q_this, .inr (0, [.ref q_words, .ref q_heard, .ref q_canSay, .ref q_instead, .ref q_traders, .ref q_takes, .ref q_needs, .int v_speaks, .int v_alikeFrom])), (q_words, .inl (ca 0, 16, .inl v_words)), (q_heard, .inl (ca 0, 24, .inl y_heard_12)), (q_canSay, .inl (ca 0, 2, .inl v_canSay)), (q_instead, .inl (ca 0, 16, .inl v_instead)), (q_traders, .inl (ca 0, 2, .inl v_traders)), (q_takes, .inl (ca 0, 2, .inl v_takes)), (q_needs, .inr (4, [.ref q_needs_joinedMeaning, .ref q_needs_joinedPair, .int v_needs_joinedTold, .int v_needs_needsTold, .int v_needs_needed])), (q_needs_joinedMeaning, .inl (ca 0, 8, .inl v_needs_joinedMeaning)), (q_needs_joinedPair, .inl (ca 0, 8, .inl v_needs_joinedPair)), (q_o1, .inr (2, [.ref q_o1_text, .ref q_o1_numbers, .int v_o1_place, .int v_o1_letter, .int v_o1_word, .int v_o1_bits])), (q_o1_numbers, .inl (ca 0, 3, .inl v_o1_numbers))]) ⟨hx, hb, hml, hown, hts⟩ (c_X5_put l D ca H.size q_heard 24 r_8 r_10 v_heard y_heard_12 hg_13) (va_cwS 3 hts gX0_accepts_X5_put rfl rfl rfl (by decide +kernel) ⟨(Nat.le_of_ble_eq_true rfl), (Nat.le_of_ble_eq_true rfl)⟩) hK hP hD hS hA [2] [0, 1, 3, 4, 5, 6, 7, 8, 9, 10, 11] [0, 1, 11, 2, 3, 4, 5, 6, 7, 8, 9, 10] rfl rfl rfl rfl (by decide) rfl rfl rfl hl.1 rfl (Nat.le_of_ble_eq_true rfl) dX0_accepts_139 ⟨Nat.zero_le _, Nat.zero_le _⟩ (fun H locs hP hD hS => ?_)
    refine lv_iconst (v := (nI 1)) hx hb dX0_accepts_142 (by decide) ?_
    cases h
    rw [← hQe]
    exact W.zret hx hb hr rfl (fun t ht hW => ⟨⟨_, (), rfl, rfl, by rw [ht]; exact hP, va_K.moved hW.alike hK, hD⟩, hS.F ht⟩) hS.2.2 dX0_accepts_143
  replace h := ifn_el c_7 h
  by_cases c_14 : r_5 = (nI 103)
  · replace h := ifp_el c_14 h
    refine lv_tableIn (off := 181) (tgt := 197) hx hb dX0_accepts_16 (by rw [c_14]; decide) (by rw [c_14]; decide) (by rw [c_14]; decide) (by decide) ?_
    refine lv_aload_n hx hb dX0_accepts_197 rfl (lv_at hl 2 rfl) ?_
    refine lv_iload_n hx hb dX0_accepts_198 rfl (lv_at hl 1 rfl) ?_
    refine va_put (D := D) (ci := 0) (v := .int r_1) (ty := .int) (C := RX0) (T := TX0) (N := 9) hx hb hts i_X0 tyX0 tyX0_ok nmX0 hown hK hP hD hS 0 rfl rfl 8 (by decide) k_54 (fun _ h9 => h9) rfl (by decide +kernel) rfl rfl (Nat.le_of_ble_eq_true rfl) dX0_accepts_199 (fun H locs hP hD hS => ?_)
    have hP : va_P D vwCl [(q_this, .inr (0, [.ref q_words, .ref q_heard, .ref q_canSay, .ref q_instead, .ref q_traders, .ref q_takes, .ref q_needs, .int v_speaks, .int r_1])), (q_words, .inl (ca 0, 16, .inl v_words)), (q_heard, .inl (ca 0, 24, .inl v_heard)), (q_canSay, .inl (ca 0, 2, .inl v_canSay)), (q_instead, .inl (ca 0, 16, .inl v_instead)), (q_traders, .inl (ca 0, 2, .inl v_traders)), (q_takes, .inl (ca 0, 2, .inl v_takes)), (q_needs, .inr (4, [.ref q_needs_joinedMeaning, .ref q_needs_joinedPair, .int v_needs_joinedTold, .int v_needs_needsTold, .int v_needs_needed])), (q_needs_joinedMeaning, .inl (ca 0, 8, .inl v_needs_joinedMeaning)), (q_needs_joinedPair, .inl (ca 0, 8, .inl v_needs_joinedPair)), (q_o1, .inr (2, [.ref q_o1_text, .ref q_o1_numbers, .int v_o1_place, .int v_o1_letter, .int v_o1_word, .int v_o1_bits])), (q_o1_numbers, .inl (ca 0, 3, .inl v_o1_numbers))] H := hP
    have hD : va_D A [(q_this, .inr (0, [.ref q_words, .ref q_heard, .ref q_canSay, .ref q_instead, .ref q_traders, .ref q_takes, .ref q_needs, .int v_speaks, .int r_1])), (q_words, .inl (ca 0, 16, .inl v_words)), (q_heard, .inl (ca 0, 24, .inl v_heard)), (q_canSay, .inl (ca 0, 2, .inl v_canSay)), (q_instead, .inl (ca 0, 16, .inl v_instead)), (q_traders, .inl (ca 0, 2, .inl v_traders)), (q_takes, .inl (ca 0, 2, .inl v_takes)), (q_needs, .inr (4, [.ref q_needs_joinedMeaning, .ref q_needs_joinedPair, .int v_needs_joinedTold, .int v_needs_needsTold, .int v_needs_needed])), (q_needs_joinedMeaning, .inl (ca 0, 8, .inl v_needs_joinedMeaning)), (q_needs_joinedPair, .inl (ca 0, 8, .inl v_needs_joinedPair)), (q_o1, .inr (2, [.ref q_o1_text, .ref q_o1_numbers, .int v_o1_place, .int v_o1_letter, .int v_o1_word, .int v_o1_bits])), (q_o1_numbers, .inl (ca 0, 3, .inl v_o1_numbers))] := hD
    refine lv_iconst (v := (nI 1)) hx hb dX0_accepts_202 (by decide) ?_
    cases h
    rw [← hQe]
    exact W.zret hx hb hr rfl (fun t ht hW => ⟨⟨_, (), rfl, rfl, by rw [ht]; exact hP, va_K.moved hW.alike hK, hD⟩, hS.F ht⟩) hS.2.2 dX0_accepts_203
  replace h := ifn_el c_14 h
  by_cases c_15 : r_5 = (nI 106)
  · replace h := ifp_el c_15 h
    refine lv_tableIn (off := 188) (tgt := 204) hx hb dX0_accepts_16 (by rw [c_15]; decide) (by rw [c_15]; decide) (by rw [c_15]; decide) (by decide) ?_
    refine lv_aload_n hx hb dX0_accepts_204 rfl (lv_at hl 2 rfl) ?_
    refine va_get (D := D) (ci := 0) (v := .ref q_needs) (C := RX0) (T := TX0) (N := 9) hx hb hts i_X0 hown hK hP 0 rfl rfl 6 (by decide) k_33 (fun _ h9 => h9) rfl dX0_accepts_205 ?_
    refine lv_iload_n hx hb dX0_accepts_208 rfl (lv_at hl 1 rfl) ?_
    refine lv_iconst (v := (nI 1)) hx hb dX0_accepts_209 (by decide) ?_
    refine lv_iload_n hx hb dX0_accepts_210 rfl (lv_at hl 0 rfl) ?_
    refine lv_ishl hx hb dX0_accepts_211 ?_
    refine lv_iconst (v := (nI 1)) hx hb dX0_accepts_212 (by decide) ?_
    refine lv_aload_n hx hb dX0_accepts_213 rfl (lv_at hl 3 rfl) ?_
    refine lv_iconst (v := (nI 2)) hx hb dX0_accepts_214 (by decide) ?_
    obtain ⟨r_16, hg_17, h⟩ := bd1_el h
    refine kx_Vi (As := [.int (nI 2)]) (rest := [.int (nI 1), .int ((nI 1) <<< (r_3 &&& 31)), .int r_1, .ref q_needs]) (wr := [(q_this, .inr (0, [.ref q_words, .ref q_heard, .ref q_canSay, .ref q_instead, .ref q_traders, .ref q_takes, .ref q_needs, .int v_speaks, .int v_alikeFrom])), (q_words, .inl (ca 0, 16, .inl v_words)), (q_heard, .inl (ca 0, 24, .inl v_heard)), (q_canSay, .inl (ca 0, 2, .inl v_canSay)), (q_instead, .inl (ca 0, 16, .inl v_instead)), (q_traders, .inl (ca 0, 2, .inl v_traders)), (q_takes, .inl (ca 0, 2, .inl v_takes)), (q_needs, .inr (4, [.ref q_needs_joinedMeaning, .ref q_needs_joinedPair, .int v_needs_joinedTold, .int v_needs_needsTold, .int v_needs_needed])), (q_needs_joinedMeaning, .inl (ca 0, 8, .inl v_needs_joinedMeaning)), (q_needs_joinedPair, .inl (ca 0, 8, .inl v_needs_joinedPair))]) (w1 := [(q_o1, .inr (2, [.ref q_o1_text, .ref q_o1_numbers, .int v_o1_place, .int v_o1_letter, .int v_o1_word, .int v_o1_bits])), (q_o1_numbers, .inl (ca 0, 3, .inl v_o1_numbers))]) (wn := [(q_this, .inr (0, [.ref q_words, .ref q_heard, .ref q_canSay, .ref q_instead, .ref q_traders, .ref q_takes, .ref q_needs, .int v_speaks, .int v_alikeFrom])), (q_words, .inl (ca 0, 16, .inl v_words)), (q_heard, .inl (ca 0, 24, .inl v_heard)), (q_canSay, .inl (ca 0, 2, .inl v_canSay)), (q_instead, .inl (ca 0, 16, .inl v_instead)), (q_traders, .inl (ca 0, 2, .inl v_traders)), (q_takes, .inl (ca 0, 2, .inl v_takes)), (q_needs, .inr (4, [.ref q_needs_joinedMeaning, .ref q_needs_joinedPair, .int v_needs_joinedTold, .int v_needs_needsTold, .int v_needs_needed])), (q_needs_joinedMeaning, .inl (ca 0, 8, .inl v_needs_joinedMeaning)), (q_needs_joinedPair, .inl (ca 0, 8, .inl v_needs_joinedPair)), (q_o1, .inr (2, [.ref q_o1_text, .ref q_o1_numbers, .int v_o1_place, .int v_o1_letter, .int v_o1_word, .int v_o1_bits])), (q_o1_numbers, .inl (ca 0, 3, .inl v_o1_numbers))]) ⟨hx, hb, hml, hown, hts⟩ (c_X2_number l D ca H.size q_o1 q_o1_text q_o1_numbers (nI 2) v_o1_place v_o1_letter v_o1_word v_o1_bits v_o1_numbers r_16 hg_17) (cwV 1 hts gX0_accepts_X2_number rfl rfl rfl (by decide +kernel) ⟨(Nat.le_of_ble_eq_true rfl), (Nat.le_of_ble_eq_true rfl)⟩) hK hP hD hS hA (ci := 2) (q0 := 0) rfl rfl [10, 11] [0, 1, 2, 3, 4, 5, 6, 7, 8, 9] [0, 1, 2, 3, 4, 5, 6, 7, 8, 9, 10, 11] rfl rfl rfl rfl (by decide) rfl rfl rfl hl.1 rfl (Nat.le_of_ble_eq_true rfl) dX0_accepts_215 ⟨Nat.zero_le _, Nat.zero_le _⟩ (fun H locs hP hD hS => ?_)
    refine lv_ishl hx hb dX0_accepts_218 ?_
    refine lv_ior hx hb dX0_accepts_219 ?_
    obtain ⟨r_18, y_needs_joinedTold_19, y_needs_joinedMeaning_20, y_needs_joinedPair_21, hg_22, h⟩ := bd4_el h
    refine kx_Vi (As := [.int r_1, .int (((nI 1) <<< (r_3 &&& 31)) ||| ((nI 1) <<< (r_16 &&& 31)))]) (rest := []) (wr := [(q_this, .inr (0, [.ref q_words, .ref q_heard, .ref q_canSay, .ref q_instead, .ref q_traders, .ref q_takes, .ref q_needs, .int v_speaks, .int v_alikeFrom])), (q_words, .inl (ca 0, 16, .inl v_words)), (q_heard, .inl (ca 0, 24, .inl v_heard)), (q_canSay, .inl (ca 0, 2, .inl v_canSay)), (q_instead, .inl (ca 0, 16, .inl v_instead)), (q_traders, .inl (ca 0, 2, .inl v_traders)), (q_takes, .inl (ca 0, 2, .inl v_takes)), (q_o1, .inr (2, [.ref q_o1_text, .ref q_o1_numbers, .int v_o1_place, .int v_o1_letter, .int v_o1_word, .int v_o1_bits])), (q_o1_numbers, .inl (ca 0, 3, .inl v_o1_numbers))]) (w1 := [(q_needs, .inr (4, [.ref q_needs_joinedMeaning, .ref q_needs_joinedPair, .int y_needs_joinedTold_19, .int v_needs_needsTold, .int v_needs_needed])), (q_needs_joinedMeaning, .inl (ca 0, 8, .inl y_needs_joinedMeaning_20)), (q_needs_joinedPair, .inl (ca 0, 8, .inl y_needs_joinedPair_21))]) (wn := [(q_this, .inr (0, [.ref q_words, .ref q_heard, .ref q_canSay, .ref q_instead, .ref q_traders, .ref q_takes, .ref q_needs, .int v_speaks, .int v_alikeFrom])), (q_words, .inl (ca 0, 16, .inl v_words)), (q_heard, .inl (ca 0, 24, .inl v_heard)), (q_canSay, .inl (ca 0, 2, .inl v_canSay)), (q_instead, .inl (ca 0, 16, .inl v_instead)), (q_traders, .inl (ca 0, 2, .inl v_traders)), (q_takes, .inl (ca 0, 2, .inl v_takes)), (q_needs, .inr (4, [.ref q_needs_joinedMeaning, .ref q_needs_joinedPair, .int y_needs_joinedTold_19, .int v_needs_needsTold, .int v_needs_needed])), (q_needs_joinedMeaning, .inl (ca 0, 8, .inl y_needs_joinedMeaning_20)), (q_needs_joinedPair, .inl (ca 0, 8, .inl y_needs_joinedPair_21)), (q_o1, .inr (2, [.ref q_o1_text, .ref q_o1_numbers, .int v_o1_place, .int v_o1_letter, .int v_o1_word, .int v_o1_bits])), (q_o1_numbers, .inl (ca 0, 3, .inl v_o1_numbers))]) ⟨hx, hb, hml, hown, hts⟩ (c_X4_tellJoined l D ca H.size q_needs q_needs_joinedMeaning q_needs_joinedPair r_1 (((nI 1) <<< (r_3 &&& 31)) ||| ((nI 1) <<< (r_16 &&& 31))) v_needs_joinedTold v_needs_needsTold v_needs_needed v_needs_joinedMeaning v_needs_joinedPair r_18 y_needs_joinedTold_19 y_needs_joinedMeaning_20 y_needs_joinedPair_21 hg_22) (cwV 2 hts gX0_accepts_X4_tellJoined rfl rfl rfl (by decide +kernel) ⟨(Nat.le_of_ble_eq_true rfl), (Nat.le_of_ble_eq_true rfl)⟩) hK hP hD hS hA (ci := 4) (q0 := 0) rfl rfl [7, 8, 9] [0, 1, 2, 3, 4, 5, 6, 10, 11] [0, 1, 2, 3, 4, 5, 6, 9, 10, 11, 7, 8] rfl rfl rfl rfl (by decide) rfl rfl rfl hl.1 rfl (Nat.le_of_ble_eq_true rfl) dX0_accepts_220 ⟨Nat.zero_le _, Nat.zero_le _⟩ (fun H locs hP hD hS => ?_)
    obtain ⟨hz, h⟩ := cz_el h
    cases h
    rw [← hQe]
    exact W.zret hx hb hr hz (fun t ht hW => ⟨⟨_, (), rfl, rfl, by rw [ht]; exact hP, va_K.moved hW.alike hK, hD⟩, hS.F ht⟩) hS.2.2 dX0_accepts_223
  replace h := ifn_el c_15 h
  by_cases c_23 : r_5 = (nI 107)
  · replace h := ifp_el c_23 h
    refine lv_tableIn (off := 163) (tgt := 179) hx hb dX0_accepts_16 (by rw [c_23]; decide) (by rw [c_23]; decide) (by rw [c_23]; decide) (by decide) ?_
    refine lv_aload_n hx hb dX0_accepts_179 rfl (lv_at hl 2 rfl) ?_
    refine va_get (D := D) (ci := 0) (v := .ref q_takes) (C := RX0) (T := TX0) (N := 9) hx hb hts i_X0 hown hK hP 0 rfl rfl 5 (by decide) k_27 (fun _ h9 => h9) rfl dX0_accepts_180 ?_
    refine lv_iload_n hx hb dX0_accepts_183 rfl (lv_at hl 1 rfl) ?_
    refine lv_iload_n hx hb dX0_accepts_184 rfl (lv_at hl 0 rfl) ?_
    obtain ⟨y_takes_24, hg_25, h⟩ := bd1_el h
    refine kx_Sv (As := [.ref q_takes, .int r_1, .int r_3]) (rest := []) (wr := [(q_this, .inr (0, [.ref q_words, .ref q_heard, .ref q_canSay, .ref q_instead, .ref q_traders, .ref q_takes, .ref q_needs, .int v_speaks, .int v_alikeFrom])), (q_words, .inl (ca 0, 16, .inl v_words)), (q_heard, .inl (ca 0, 24, .inl v_heard)), (q_canSay, .inl (ca 0, 2, .inl v_canSay)), (q_instead, .inl (ca 0, 16, .inl v_instead)), (q_traders, .inl (ca 0, 2, .inl v_traders)), (q_needs, .inr (4, [.ref q_needs_joinedMeaning, .ref q_needs_joinedPair, .int v_needs_joinedTold, .int v_needs_needsTold, .int v_needs_needed])), (q_needs_joinedMeaning, .inl (ca 0, 8, .inl v_needs_joinedMeaning)), (q_needs_joinedPair, .inl (ca 0, 8, .inl v_needs_joinedPair)), (q_o1, .inr (2, [.ref q_o1_text, .ref q_o1_numbers, .int v_o1_place, .int v_o1_letter, .int v_o1_word, .int v_o1_bits])), (q_o1_numbers, .inl (ca 0, 3, .inl v_o1_numbers))]) (w1 := [(q_takes, .inl (ca 0, 2, .inl y_takes_24))]) (wn := [(q_this, .inr (0, [.ref q_words, .ref q_heard, .ref q_canSay, .ref q_instead, .ref q_traders, .ref q_takes, .ref q_needs, .int v_speaks, .int v_alikeFrom])), (q_words, .inl (ca 0, 16, .inl v_words)), (q_heard, .inl (ca 0, 24, .inl v_heard)), (q_canSay, .inl (ca 0, 2, .inl v_canSay)), (q_instead, .inl (ca 0, 16, .inl v_instead)), (q_traders, .inl (ca 0, 2, .inl v_traders)), (q_takes, .inl (ca 0, 2, .inl y_takes_24)), (q_needs, .inr (4, [.ref q_needs_joinedMeaning, .ref q_needs_joinedPair, .int v_needs_joinedTold, .int v_needs_needsTold, .int v_needs_needed])), (q_needs_joinedMeaning, .inl (ca 0, 8, .inl v_needs_joinedMeaning)), (q_needs_joinedPair, .inl (ca 0, 8, .inl v_needs_joinedPair)), (q_o1, .inr (2, [.ref q_o1_text, .ref q_o1_numbers, .int v_o1_place, .int v_o1_letter, .int v_o1_word, .int v_o1_bits])), (q_o1_numbers, .inl (ca 0, 3, .inl v_o1_numbers))]) ⟨hx, hb, hml, hown, hts⟩ (c_X0_tellPair l D ca H.size q_takes 2 r_1 r_3 v_takes y_takes_24 hg_25) (va_cwS 3 hts gX0_accepts_X0_tellPair rfl rfl rfl (by decide +kernel) ⟨(Nat.le_of_ble_eq_true rfl), (Nat.le_of_ble_eq_true rfl)⟩) hK hP hD hS hA [6] [0, 1, 2, 3, 4, 5, 7, 8, 9, 10, 11] [0, 1, 2, 3, 4, 5, 11, 6, 7, 8, 9, 10] rfl rfl rfl rfl (by decide) rfl rfl rfl hl.1 rfl (Nat.le_of_ble_eq_true rfl) dX0_accepts_185 ⟨Nat.zero_le _, Nat.zero_le _⟩ (fun H locs hP hD hS => ?_)
    refine lv_iconst (v := (nI 1)) hx hb dX0_accepts_188 (by decide) ?_
    cases h
    rw [← hQe]
    exact W.zret hx hb hr rfl (fun t ht hW => ⟨⟨_, (), rfl, rfl, by rw [ht]; exact hP, va_K.moved hW.alike hK, hD⟩, hS.F ht⟩) hS.2.2 dX0_accepts_189
  replace h := ifn_el c_23 h
  by_cases c_26 : r_5 = (nI 110)
  · replace h := ifp_el c_26 h
    refine lv_tableIn (off := 152) (tgt := 168) hx hb dX0_accepts_16 (by rw [c_26]; decide) (by rw [c_26]; decide) (by rw [c_26]; decide) (by decide) ?_
    refine lv_aload_n hx hb dX0_accepts_168 rfl (lv_at hl 2 rfl) ?_
    refine va_get (D := D) (ci := 0) (v := .ref q_traders) (C := RX0) (T := TX0) (N := 9) hx hb hts i_X0 hown hK hP 0 rfl rfl 4 (by decide) k_24 (fun _ h9 => h9) rfl dX0_accepts_169 ?_
    refine lv_iload_n hx hb dX0_accepts_172 rfl (lv_at hl 1 rfl) ?_
    refine lv_iload_n hx hb dX0_accepts_173 rfl (lv_at hl 0 rfl) ?_
    obtain ⟨y_traders_27, hg_28, h⟩ := bd1_el h
    refine kx_Sv (As := [.ref q_traders, .int r_1, .int r_3]) (rest := []) (wr := [(q_this, .inr (0, [.ref q_words, .ref q_heard, .ref q_canSay, .ref q_instead, .ref q_traders, .ref q_takes, .ref q_needs, .int v_speaks, .int v_alikeFrom])), (q_words, .inl (ca 0, 16, .inl v_words)), (q_heard, .inl (ca 0, 24, .inl v_heard)), (q_canSay, .inl (ca 0, 2, .inl v_canSay)), (q_instead, .inl (ca 0, 16, .inl v_instead)), (q_takes, .inl (ca 0, 2, .inl v_takes)), (q_needs, .inr (4, [.ref q_needs_joinedMeaning, .ref q_needs_joinedPair, .int v_needs_joinedTold, .int v_needs_needsTold, .int v_needs_needed])), (q_needs_joinedMeaning, .inl (ca 0, 8, .inl v_needs_joinedMeaning)), (q_needs_joinedPair, .inl (ca 0, 8, .inl v_needs_joinedPair)), (q_o1, .inr (2, [.ref q_o1_text, .ref q_o1_numbers, .int v_o1_place, .int v_o1_letter, .int v_o1_word, .int v_o1_bits])), (q_o1_numbers, .inl (ca 0, 3, .inl v_o1_numbers))]) (w1 := [(q_traders, .inl (ca 0, 2, .inl y_traders_27))]) (wn := [(q_this, .inr (0, [.ref q_words, .ref q_heard, .ref q_canSay, .ref q_instead, .ref q_traders, .ref q_takes, .ref q_needs, .int v_speaks, .int v_alikeFrom])), (q_words, .inl (ca 0, 16, .inl v_words)), (q_heard, .inl (ca 0, 24, .inl v_heard)), (q_canSay, .inl (ca 0, 2, .inl v_canSay)), (q_instead, .inl (ca 0, 16, .inl v_instead)), (q_traders, .inl (ca 0, 2, .inl y_traders_27)), (q_takes, .inl (ca 0, 2, .inl v_takes)), (q_needs, .inr (4, [.ref q_needs_joinedMeaning, .ref q_needs_joinedPair, .int v_needs_joinedTold, .int v_needs_needsTold, .int v_needs_needed])), (q_needs_joinedMeaning, .inl (ca 0, 8, .inl v_needs_joinedMeaning)), (q_needs_joinedPair, .inl (ca 0, 8, .inl v_needs_joinedPair)), (q_o1, .inr (2, [.ref q_o1_text, .ref q_o1_numbers, .int v_o1_place, .int v_o1_letter, .int v_o1_word, .int v_o1_bits])), (q_o1_numbers, .inl (ca 0, 3, .inl v_o1_numbers))]) ⟨hx, hb, hml, hown, hts⟩ (c_X0_tellPair l D ca H.size q_traders 2 r_1 r_3 v_traders y_traders_27 hg_28) (va_cwS 3 hts gX0_accepts_X0_tellPair rfl rfl rfl (by decide +kernel) ⟨(Nat.le_of_ble_eq_true rfl), (Nat.le_of_ble_eq_true rfl)⟩) hK hP hD hS hA [5] [0, 1, 2, 3, 4, 6, 7, 8, 9, 10, 11] [0, 1, 2, 3, 4, 11, 5, 6, 7, 8, 9, 10] rfl rfl rfl rfl (by decide) rfl rfl rfl hl.1 rfl (Nat.le_of_ble_eq_true rfl) dX0_accepts_174 ⟨Nat.zero_le _, Nat.zero_le _⟩ (fun H locs hP hD hS => ?_)
    refine lv_iconst (v := (nI 1)) hx hb dX0_accepts_177 (by decide) ?_
    cases h
    rw [← hQe]
    exact W.zret hx hb hr rfl (fun t ht hW => ⟨⟨_, (), rfl, rfl, by rw [ht]; exact hP, va_K.moved hW.alike hK, hD⟩, hS.F ht⟩) hS.2.2 dX0_accepts_178
  replace h := ifn_el c_26 h
  by_cases c_29 : r_5 = (nI 111)
  · replace h := ifp_el c_29 h
    refine lv_tableIn (off := 174) (tgt := 190) hx hb dX0_accepts_16 (by rw [c_29]; decide) (by rw [c_29]; decide) (by rw [c_29]; decide) (by decide) ?_
    refine lv_aload_n hx hb dX0_accepts_190 rfl (lv_at hl 2 rfl) ?_
    refine lv_iload_n hx hb dX0_accepts_191 rfl (lv_at hl 1 rfl) ?_
    refine va_put (D := D) (ci := 0) (v := .int r_1) (ty := .int) (C := RX0) (T := TX0) (N := 9) hx hb hts i_X0 tyX0 tyX0_ok nmX0 hown hK hP hD hS 0 rfl rfl 7 (by decide) k_50 (fun _ h9 => h9) rfl (by decide +kernel) rfl rfl (Nat.le_of_ble_eq_true rfl) dX0_accepts_192 (fun H locs hP hD hS => ?_)
    have hP : va_P D vwCl [(q_this, .inr (0, [.ref q_words, .ref q_heard, .ref q_canSay, .ref q_instead, .ref q_traders, .ref q_takes, .ref q_needs, .int r_1, .int v_alikeFrom])), (q_words, .inl (ca 0, 16, .inl v_words)), (q_heard, .inl (ca 0, 24, .inl v_heard)), (q_canSay, .inl (ca 0, 2, .inl v_canSay)), (q_instead, .inl (ca 0, 16, .inl v_instead)), (q_traders, .inl (ca 0, 2, .inl v_traders)), (q_takes, .inl (ca 0, 2, .inl v_takes)), (q_needs, .inr (4, [.ref q_needs_joinedMeaning, .ref q_needs_joinedPair, .int v_needs_joinedTold, .int v_needs_needsTold, .int v_needs_needed])), (q_needs_joinedMeaning, .inl (ca 0, 8, .inl v_needs_joinedMeaning)), (q_needs_joinedPair, .inl (ca 0, 8, .inl v_needs_joinedPair)), (q_o1, .inr (2, [.ref q_o1_text, .ref q_o1_numbers, .int v_o1_place, .int v_o1_letter, .int v_o1_word, .int v_o1_bits])), (q_o1_numbers, .inl (ca 0, 3, .inl v_o1_numbers))] H := hP
    have hD : va_D A [(q_this, .inr (0, [.ref q_words, .ref q_heard, .ref q_canSay, .ref q_instead, .ref q_traders, .ref q_takes, .ref q_needs, .int r_1, .int v_alikeFrom])), (q_words, .inl (ca 0, 16, .inl v_words)), (q_heard, .inl (ca 0, 24, .inl v_heard)), (q_canSay, .inl (ca 0, 2, .inl v_canSay)), (q_instead, .inl (ca 0, 16, .inl v_instead)), (q_traders, .inl (ca 0, 2, .inl v_traders)), (q_takes, .inl (ca 0, 2, .inl v_takes)), (q_needs, .inr (4, [.ref q_needs_joinedMeaning, .ref q_needs_joinedPair, .int v_needs_joinedTold, .int v_needs_needsTold, .int v_needs_needed])), (q_needs_joinedMeaning, .inl (ca 0, 8, .inl v_needs_joinedMeaning)), (q_needs_joinedPair, .inl (ca 0, 8, .inl v_needs_joinedPair)), (q_o1, .inr (2, [.ref q_o1_text, .ref q_o1_numbers, .int v_o1_place, .int v_o1_letter, .int v_o1_word, .int v_o1_bits])), (q_o1_numbers, .inl (ca 0, 3, .inl v_o1_numbers))] := hD
    refine lv_iconst (v := (nI 1)) hx hb dX0_accepts_195 (by decide) ?_
    cases h
    rw [← hQe]
    exact W.zret hx hb hr rfl (fun t ht hW => ⟨⟨_, (), rfl, rfl, by rw [ht]; exact hP, va_K.moved hW.alike hK, hD⟩, hS.F ht⟩) hS.2.2 dX0_accepts_196
  replace h := ifn_el c_29 h
  by_cases c_30 : r_5 = (nI 114)
  · replace h := ifp_el c_30 h
    refine lv_tableIn (off := 142) (tgt := 158) hx hb dX0_accepts_16 (by rw [c_30]; decide) (by rw [c_30]; decide) (by rw [c_30]; decide) (by decide) ?_
    refine lv_aload_n hx hb dX0_accepts_158 rfl (lv_at hl 2 rfl) ?_
    refine lv_aload_n hx hb dX0_accepts_159 rfl (lv_at hl 3 rfl) ?_
    obtain ⟨r_31, hg_32, h⟩ := bd1_el h
    refine kx_Vi (As := []) (rest := [.ref q_this]) (wr := [(q_this, .inr (0, [.ref q_words, .ref q_heard, .ref q_canSay, .ref q_instead, .ref q_traders, .ref q_takes, .ref q_needs, .int v_speaks, .int v_alikeFrom])), (q_words, .inl (ca 0, 16, .inl v_words)), (q_heard, .inl (ca 0, 24, .inl v_heard)), (q_canSay, .inl (ca 0, 2, .inl v_canSay)), (q_instead, .inl (ca 0, 16, .inl v_instead)), (q_traders, .inl (ca 0, 2, .inl v_traders)), (q_takes, .inl (ca 0, 2, .inl v_takes)), (q_needs, .inr (4, [.ref q_needs_joinedMeaning, .ref q_needs_joinedPair, .int v_needs_joinedTold, .int v_needs_needsTold, .int v_needs_needed])), (q_needs_joinedMeaning, .inl (ca 0, 8, .inl v_needs_joinedMeaning)), (q_needs_joinedPair, .inl (ca 0, 8, .inl v_needs_joinedPair)), (q_o1_numbers, .inl (ca 0, 3, .inl v_o1_numbers))]) (w1 := [(q_o1, .inr (2, [.ref q_o1_text, .ref q_o1_numbers, .int v_o1_place, .int v_o1_letter, .int v_o1_word, .int v_o1_bits]))]) (wn := [(q_this, .inr (0, [.ref q_words, .ref q_heard, .ref q_canSay, .ref q_instead, .ref q_traders, .ref q_takes, .ref q_needs, .int v_speaks, .int v_alikeFrom])), (q_words, .inl (ca 0, 16, .inl v_words)), (q_heard, .inl (ca 0, 24, .inl v_heard)), (q_canSay, .inl (ca 0, 2, .inl v_canSay)), (q_instead, .inl (ca 0, 16, .inl v_instead)), (q_traders, .inl (ca 0, 2, .inl v_traders)), (q_takes, .inl (ca 0, 2, .inl v_takes)), (q_needs, .inr (4, [.ref q_needs_joinedMeaning, .ref q_needs_joinedPair, .int v_needs_joinedTold, .int v_needs_needsTold, .int v_needs_needed])), (q_needs_joinedMeaning, .inl (ca 0, 8, .inl v_needs_joinedMeaning)), (q_needs_joinedPair, .inl (ca 0, 8, .inl v_needs_joinedPair)), (q_o1, .inr (2, [.ref q_o1_text, .ref q_o1_numbers, .int v_o1_place, .int v_o1_letter, .int v_o1_word, .int v_o1_bits])), (q_o1_numbers, .inl (ca 0, 3, .inl v_o1_numbers))]) ⟨hx, hb, hml, hown, hts⟩ (c_X2_spelled l D ca H.size q_o1 q_o1_text q_o1_numbers v_o1_place v_o1_letter v_o1_word v_o1_bits r_31 hg_32) (cwV 0 hts gX0_accepts_X2_spelled rfl rfl rfl (by decide +kernel) ⟨(Nat.le_of_ble_eq_true rfl), (Nat.le_of_ble_eq_true rfl)⟩) hK hP hD hS hA (ci := 2) (q0 := 0) rfl rfl [10] [0, 1, 2, 3, 4, 5, 6, 7, 8, 9, 11] [0, 1, 2, 3, 4, 5, 6, 7, 8, 9, 11, 10] rfl rfl rfl rfl (by decide) rfl rfl rfl hl.1 rfl (Nat.le_of_ble_eq_true rfl) dX0_accepts_160 ⟨Nat.zero_le _, Nat.zero_le _⟩ (fun H locs hP hD hS => ?_)
    obtain ⟨y_instead_33, hg_34, h⟩ := bd1_el h
    refine kx_Vv (As := [.int r_31]) (rest := []) (wr := [(q_words, .inl (ca 0, 16, .inl v_words)), (q_heard, .inl (ca 0, 24, .inl v_heard)), (q_canSay, .inl (ca 0, 2, .inl v_canSay)), (q_traders, .inl (ca 0, 2, .inl v_traders)), (q_takes, .inl (ca 0, 2, .inl v_takes)), (q_needs, .inr (4, [.ref q_needs_joinedMeaning, .ref q_needs_joinedPair, .int v_needs_joinedTold, .int v_needs_needsTold, .int v_needs_needed])), (q_needs_joinedMeaning, .inl (ca 0, 8, .inl v_needs_joinedMeaning)), (q_needs_joinedPair, .inl (ca 0, 8, .inl v_needs_joinedPair)), (q_o1, .inr (2, [.ref q_o1_text, .ref q_o1_numbers, .int v_o1_place, .int v_o1_letter, .int v_o1_word, .int v_o1_bits])), (q_o1_numbers, .inl (ca 0, 3, .inl v_o1_numbers))]) (w1 := [(q_this, .inr (0, [.ref q_words, .ref q_heard, .ref q_canSay, .ref q_instead, .ref q_traders, .ref q_takes, .ref q_needs, .int v_speaks, .int v_alikeFrom])), (q_instead, .inl (ca 0, 16, .inl y_instead_33))]) (wn := [(q_this, .inr (0, [.ref q_words, .ref q_heard, .ref q_canSay, .ref q_instead, .ref q_traders, .ref q_takes, .ref q_needs, .int v_speaks, .int v_alikeFrom])), (q_words, .inl (ca 0, 16, .inl v_words)), (q_heard, .inl (ca 0, 24, .inl v_heard)), (q_canSay, .inl (ca 0, 2, .inl v_canSay)), (q_instead, .inl (ca 0, 16, .inl y_instead_33)), (q_traders, .inl (ca 0, 2, .inl v_traders)), (q_takes, .inl (ca 0, 2, .inl v_takes)), (q_needs, .inr (4, [.ref q_needs_joinedMeaning, .ref q_needs_joinedPair, .int v_needs_joinedTold, .int v_needs_needsTold, .int v_needs_needed])), (q_needs_joinedMeaning, .inl (ca 0, 8, .inl v_needs_joinedMeaning)), (q_needs_joinedPair, .inl (ca 0, 8, .inl v_needs_joinedPair)), (q_o1, .inr (2, [.ref q_o1_text, .ref q_o1_numbers, .int v_o1_place, .int v_o1_letter, .int v_o1_word, .int v_o1_bits])), (q_o1_numbers, .inl (ca 0, 3, .inl v_o1_numbers))]) ⟨hx, hb, hml, hown, hts⟩ (c_X0_tellExchange l D ca H.size q_this q_words q_heard q_canSay q_instead q_traders q_takes q_needs r_31 v_speaks v_alikeFrom v_instead y_instead_33 hg_34) (cwV 1 hts gX0_accepts_X0_tellExchange rfl rfl rfl (by decide +kernel) ⟨(Nat.le_of_ble_eq_true rfl), (Nat.le_of_ble_eq_true rfl)⟩) hK hP hD hS hA (ci := 0) (q0 := 0) rfl rfl [0, 4] [1, 2, 3, 5, 6, 7, 8, 9, 10, 11] [10, 0, 1, 2, 11, 3, 4, 5, 6, 7, 8, 9] rfl rfl rfl rfl (by decide) rfl rfl rfl hl.1 rfl (Nat.le_of_ble_eq_true rfl) dX0_accepts_163 ⟨Nat.zero_le _, Nat.zero_le _⟩ (fun H locs hP hD hS => ?_)
    refine lv_iconst (v := (nI 1)) hx hb dX0_accepts_166 (by decide) ?_
    cases h
    rw [← hQe]
    exact W.zret hx hb hr rfl (fun t ht hW => ⟨⟨_, (), rfl, rfl, by rw [ht]; exact hP, va_K.moved hW.alike hK, hD⟩, hS.F ht⟩) hS.2.2 dX0_accepts_167
  replace h := ifn_el c_30 h
  by_cases c_35 : r_5 = (nI 115)
  · replace h := ifp_el c_35 h
    refine lv_tableIn (off := 128) (tgt := 144) hx hb dX0_accepts_16 (by rw [c_35]; decide) (by rw [c_35]; decide) (by rw [c_35]; decide) (by decide) ?_
    refine lv_aload_n hx hb dX0_accepts_144 rfl (lv_at hl 2 rfl) ?_
    refine va_get (D := D) (ci := 0) (v := .ref q_canSay) (C := RX0) (T := TX0) (N := 9) hx hb hts i_X0 hown hK hP 0 rfl rfl 2 (by decide) k_18 (fun _ h9 => h9) rfl dX0_accepts_145 ?_
    refine lv_iload_n hx hb dX0_accepts_148 rfl (lv_at hl 1 rfl) ?_
    refine lv_aload_n hx hb dX0_accepts_149 rfl (lv_at hl 3 rfl) ?_
    obtain ⟨r_36, hg_37, h⟩ := bd1_el h
    refine kx_Vi (As := []) (rest := [.int r_1, .ref q_canSay]) (wr := [(q_this, .inr (0, [.ref q_words, .ref q_heard, .ref q_canSay, .ref q_instead, .ref q_traders, .ref q_takes, .ref q_needs, .int v_speaks, .int v_alikeFrom])), (q_words, .inl (ca 0, 16, .inl v_words)), (q_heard, .inl (ca 0, 24, .inl v_heard)), (q_canSay, .inl (ca 0, 2, .inl v_canSay)), (q_instead, .inl (ca 0, 16, .inl v_instead)), (q_traders, .inl (ca 0, 2, .inl v_traders)), (q_takes, .inl (ca 0, 2, .inl v_takes)), (q_needs, .inr (4, [.ref q_needs_joinedMeaning, .ref q_needs_joinedPair, .int v_needs_joinedTold, .int v_needs_needsTold, .int v_needs_needed])), (q_needs_joinedMeaning, .inl (ca 0, 8, .inl v_needs_joinedMeaning)), (q_needs_joinedPair, .inl (ca 0, 8, .inl v_needs_joinedPair)), (q_o1_numbers, .inl (ca 0, 3, .inl v_o1_numbers))]) (w1 := [(q_o1, .inr (2, [.ref q_o1_text, .ref q_o1_numbers, .int v_o1_place, .int v_o1_letter, .int v_o1_word, .int v_o1_bits]))]) (wn := [(q_this, .inr (0, [.ref q_words, .ref q_heard, .ref q_canSay, .ref q_instead, .ref q_traders, .ref q_takes, .ref q_needs, .int v_speaks, .int v_alikeFrom])), (q_words, .inl (ca 0, 16, .inl v_words)), (q_heard, .inl (ca 0, 24, .inl v_heard)), (q_canSay, .inl (ca 0, 2, .inl v_canSay)), (q_instead, .inl (ca 0, 16, .inl v_instead)), (q_traders, .inl (ca 0, 2, .inl v_traders)), (q_takes, .inl (ca 0, 2, .inl v_takes)), (q_needs, .inr (4, [.ref q_needs_joinedMeaning, .ref q_needs_joinedPair, .int v_needs_joinedTold, .int v_needs_needsTold, .int v_needs_needed])), (q_needs_joinedMeaning, .inl (ca 0, 8, .inl v_needs_joinedMeaning)), (q_needs_joinedPair, .inl (ca 0, 8, .inl v_needs_joinedPair)), (q_o1, .inr (2, [.ref q_o1_text, .ref q_o1_numbers, .int v_o1_place, .int v_o1_letter, .int v_o1_word, .int v_o1_bits])), (q_o1_numbers, .inl (ca 0, 3, .inl v_o1_numbers))]) ⟨hx, hb, hml, hown, hts⟩ (c_X2_bits l D ca H.size q_o1 q_o1_text q_o1_numbers v_o1_place v_o1_letter v_o1_word v_o1_bits r_36 hg_37) (cwV 0 hts gX0_accepts_X2_bits rfl rfl rfl (by decide +kernel) ⟨(Nat.le_of_ble_eq_true rfl), (Nat.le_of_ble_eq_true rfl)⟩) hK hP hD hS hA (ci := 2) (q0 := 0) rfl rfl [10] [0, 1, 2, 3, 4, 5, 6, 7, 8, 9, 11] [0, 1, 2, 3, 4, 5, 6, 7, 8, 9, 11, 10] rfl rfl rfl rfl (by decide) rfl rfl rfl hl.1 rfl (Nat.le_of_ble_eq_true rfl) dX0_accepts_150 ⟨Nat.zero_le _, Nat.zero_le _⟩ (fun H locs hP hD hS => ?_)
    obtain ⟨y_canSay_38, hg_39, h⟩ := bd1_el h
    refine kx_Sv (As := [.ref q_canSay, .int r_1, .int r_36]) (rest := []) (wr := [(q_this, .inr (0, [.ref q_words, .ref q_heard, .ref q_canSay, .ref q_instead, .ref q_traders, .ref q_takes, .ref q_needs, .int v_speaks, .int v_alikeFrom])), (q_words, .inl (ca 0, 16, .inl v_words)), (q_heard, .inl (ca 0, 24, .inl v_heard)), (q_instead, .inl (ca 0, 16, .inl v_instead)), (q_traders, .inl (ca 0, 2, .inl v_traders)), (q_takes, .inl (ca 0, 2, .inl v_takes)), (q_needs, .inr (4, [.ref q_needs_joinedMeaning, .ref q_needs_joinedPair, .int v_needs_joinedTold, .int v_needs_needsTold, .int v_needs_needed])), (q_needs_joinedMeaning, .inl (ca 0, 8, .inl v_needs_joinedMeaning)), (q_needs_joinedPair, .inl (ca 0, 8, .inl v_needs_joinedPair)), (q_o1, .inr (2, [.ref q_o1_text, .ref q_o1_numbers, .int v_o1_place, .int v_o1_letter, .int v_o1_word, .int v_o1_bits])), (q_o1_numbers, .inl (ca 0, 3, .inl v_o1_numbers))]) (w1 := [(q_canSay, .inl (ca 0, 2, .inl y_canSay_38))]) (wn := [(q_this, .inr (0, [.ref q_words, .ref q_heard, .ref q_canSay, .ref q_instead, .ref q_traders, .ref q_takes, .ref q_needs, .int v_speaks, .int v_alikeFrom])), (q_words, .inl (ca 0, 16, .inl v_words)), (q_heard, .inl (ca 0, 24, .inl v_heard)), (q_canSay, .inl (ca 0, 2, .inl y_canSay_38)), (q_instead, .inl (ca 0, 16, .inl v_instead)), (q_traders, .inl (ca 0, 2, .inl v_traders)), (q_takes, .inl (ca 0, 2, .inl v_takes)), (q_needs, .inr (4, [.ref q_needs_joinedMeaning, .ref q_needs_joinedPair, .int v_needs_joinedTold, .int v_needs_needsTold, .int v_needs_needed])), (q_needs_joinedMeaning, .inl (ca 0, 8, .inl v_needs_joinedMeaning)), (q_needs_joinedPair, .inl (ca 0, 8, .inl v_needs_joinedPair)), (q_o1, .inr (2, [.ref q_o1_text, .ref q_o1_numbers, .int v_o1_place, .int v_o1_letter, .int v_o1_word, .int v_o1_bits])), (q_o1_numbers, .inl (ca 0, 3, .inl v_o1_numbers))]) ⟨hx, hb, hml, hown, hts⟩ (c_X5_put l D ca H.size q_canSay 2 r_1 r_36 v_canSay y_canSay_38 hg_39) (va_cwS 3 hts gX0_accepts_X5_put rfl rfl rfl (by decide +kernel) ⟨(Nat.le_of_ble_eq_true rfl), (Nat.le_of_ble_eq_true rfl)⟩) hK hP hD hS hA [3] [0, 1, 2, 4, 5, 6, 7, 8, 9, 10, 11] [0, 1, 2, 11, 3, 4, 5, 6, 7, 8, 9, 10] rfl rfl rfl rfl (by decide) rfl rfl rfl hl.1 rfl (Nat.le_of_ble_eq_true rfl) dX0_accepts_153 ⟨Nat.zero_le _, Nat.zero_le _⟩ (fun H locs hP hD hS => ?_)
    refine lv_iconst (v := (nI 1)) hx hb dX0_accepts_156 (by decide) ?_
    cases h
    rw [← hQe]
    exact W.zret hx hb hr rfl (fun t ht hW => ⟨⟨_, (), rfl, rfl, by rw [ht]; exact hP, va_K.moved hW.alike hK, hD⟩, hS.F ht⟩) hS.2.2 dX0_accepts_157
  replace h := ifn_el c_35 h
  by_cases c_40 : r_5 = (nI 117)
  · replace h := ifp_el c_40 h
    refine lv_tableIn (off := 208) (tgt := 224) hx hb dX0_accepts_16 (by rw [c_40]; decide) (by rw [c_40]; decide) (by rw [c_40]; decide) (by decide) ?_
    refine lv_aload_n hx hb dX0_accepts_224 rfl (lv_at hl 2 rfl) ?_
    refine va_get (D := D) (ci := 0) (v := .ref q_needs) (C := RX0) (T := TX0) (N := 9) hx hb hts i_X0 hown hK hP 0 rfl rfl 6 (by decide) k_33 (fun _ h9 => h9) rfl dX0_accepts_225 ?_
    refine lv_aload_n hx hb dX0_accepts_228 rfl (lv_at hl 3 rfl) ?_
    obtain ⟨r_41, hg_42, h⟩ := bd1_el h
    refine kx_Vi (As := []) (rest := [.ref q_needs]) (wr := [(q_this, .inr (0, [.ref q_words, .ref q_heard, .ref q_canSay, .ref q_instead, .ref q_traders, .ref q_takes, .ref q_needs, .int v_speaks, .int v_alikeFrom])), (q_words, .inl (ca 0, 16, .inl v_words)), (q_heard, .inl (ca 0, 24, .inl v_heard)), (q_canSay, .inl (ca 0, 2, .inl v_canSay)), (q_instead, .inl (ca 0, 16, .inl v_instead)), (q_traders, .inl (ca 0, 2, .inl v_traders)), (q_takes, .inl (ca 0, 2, .inl v_takes)), (q_needs, .inr (4, [.ref q_needs_joinedMeaning, .ref q_needs_joinedPair, .int v_needs_joinedTold, .int v_needs_needsTold, .int v_needs_needed])), (q_needs_joinedMeaning, .inl (ca 0, 8, .inl v_needs_joinedMeaning)), (q_needs_joinedPair, .inl (ca 0, 8, .inl v_needs_joinedPair)), (q_o1_numbers, .inl (ca 0, 3, .inl v_o1_numbers))]) (w1 := [(q_o1, .inr (2, [.ref q_o1_text, .ref q_o1_numbers, .int v_o1_place, .int v_o1_letter, .int v_o1_word, .int v_o1_bits]))]) (wn := [(q_this, .inr (0, [.ref q_words, .ref q_heard, .ref q_canSay, .ref q_instead, .ref q_traders, .ref q_takes, .ref q_needs, .int v_speaks, .int v_alikeFrom])), (q_words, .inl (ca 0, 16, .inl v_words)), (q_heard, .inl (ca 0, 24, .inl v_heard)), (q_canSay, .inl (ca 0, 2, .inl v_canSay)), (q_instead, .inl (ca 0, 16, .inl v_instead)), (q_traders, .inl (ca 0, 2, .inl v_traders)), (q_takes, .inl (ca 0, 2, .inl v_takes)), (q_needs, .inr (4, [.ref q_needs_joinedMeaning, .ref q_needs_joinedPair, .int v_needs_joinedTold, .int v_needs_needsTold, .int v_needs_needed])), (q_needs_joinedMeaning, .inl (ca 0, 8, .inl v_needs_joinedMeaning)), (q_needs_joinedPair, .inl (ca 0, 8, .inl v_needs_joinedPair)), (q_o1, .inr (2, [.ref q_o1_text, .ref q_o1_numbers, .int v_o1_place, .int v_o1_letter, .int v_o1_word, .int v_o1_bits])), (q_o1_numbers, .inl (ca 0, 3, .inl v_o1_numbers))]) ⟨hx, hb, hml, hown, hts⟩ (c_X2_bits l D ca H.size q_o1 q_o1_text q_o1_numbers v_o1_place v_o1_letter v_o1_word v_o1_bits r_41 hg_42) (cwV 0 hts gX0_accepts_X2_bits rfl rfl rfl (by decide +kernel) ⟨(Nat.le_of_ble_eq_true rfl), (Nat.le_of_ble_eq_true rfl)⟩) hK hP hD hS hA (ci := 2) (q0 := 0) rfl rfl [10] [0, 1, 2, 3, 4, 5, 6, 7, 8, 9, 11] [0, 1, 2, 3, 4, 5, 6, 7, 8, 9, 11, 10] rfl rfl rfl rfl (by decide) rfl rfl rfl hl.1 rfl (Nat.le_of_ble_eq_true rfl) dX0_accepts_229 ⟨Nat.zero_le _, Nat.zero_le _⟩ (fun H locs hP hD hS => ?_)
    obtain ⟨r_43, y_needs_needsTold_44, y_needs_needed_45, hg_46, h⟩ := bd3_el h
    refine kx_Vi (As := [.int r_41]) (rest := []) (wr := [(q_this, .inr (0, [.ref q_words, .ref q_heard, .ref q_canSay, .ref q_instead, .ref q_traders, .ref q_takes, .ref q_needs, .int v_speaks, .int v_alikeFrom])), (q_words, .inl (ca 0, 16, .inl v_words)), (q_heard, .inl (ca 0, 24, .inl v_heard)), (q_canSay, .inl (ca 0, 2, .inl v_canSay)), (q_instead, .inl (ca 0, 16, .inl v_instead)), (q_traders, .inl (ca 0, 2, .inl v_traders)), (q_takes, .inl (ca 0, 2, .inl v_takes)), (q_needs_joinedMeaning, .inl (ca 0, 8, .inl v_needs_joinedMeaning)), (q_needs_joinedPair, .inl (ca 0, 8, .inl v_needs_joinedPair)), (q_o1, .inr (2, [.ref q_o1_text, .ref q_o1_numbers, .int v_o1_place, .int v_o1_letter, .int v_o1_word, .int v_o1_bits])), (q_o1_numbers, .inl (ca 0, 3, .inl v_o1_numbers))]) (w1 := [(q_needs, .inr (4, [.ref q_needs_joinedMeaning, .ref q_needs_joinedPair, .int v_needs_joinedTold, .int y_needs_needsTold_44, .int y_needs_needed_45]))]) (wn := [(q_this, .inr (0, [.ref q_words, .ref q_heard, .ref q_canSay, .ref q_instead, .ref q_traders, .ref q_takes, .ref q_needs, .int v_speaks, .int v_alikeFrom])), (q_words, .inl (ca 0, 16, .inl v_words)), (q_heard, .inl (ca 0, 24, .inl v_heard)), (q_canSay, .inl (ca 0, 2, .inl v_canSay)), (q_instead, .inl (ca 0, 16, .inl v_instead)), (q_traders, .inl (ca 0, 2, .inl v_traders)), (q_takes, .inl (ca 0, 2, .inl v_takes)), (q_needs, .inr (4, [.ref q_needs_joinedMeaning, .ref q_needs_joinedPair, .int v_needs_joinedTold, .int y_needs_needsTold_44, .int y_needs_needed_45])), (q_needs_joinedMeaning, .inl (ca 0, 8, .inl v_needs_joinedMeaning)), (q_needs_joinedPair, .inl (ca 0, 8, .inl v_needs_joinedPair)), (q_o1, .inr (2, [.ref q_o1_text, .ref q_o1_numbers, .int v_o1_place, .int v_o1_letter, .int v_o1_word, .int v_o1_bits])), (q_o1_numbers, .inl (ca 0, 3, .inl v_o1_numbers))]) ⟨hx, hb, hml, hown, hts⟩ (c_X4_tellNeed l D ca H.size q_needs q_needs_joinedMeaning q_needs_joinedPair r_41 v_needs_joinedTold v_needs_needsTold v_needs_needed r_43 y_needs_needsTold_44 y_needs_needed_45 hg_46) (cwV 1 hts gX0_accepts_X4_tellNeed rfl rfl rfl (by decide +kernel) ⟨(Nat.le_of_ble_eq_true rfl), (Nat.le_of_ble_eq_true rfl)⟩) hK hP hD hS hA (ci := 4) (q0 := 0) rfl rfl [7] [0, 1, 2, 3, 4, 5, 6, 8, 9, 10, 11] [0, 1, 2, 3, 4, 5, 6, 11, 7, 8, 9, 10] rfl rfl rfl rfl (by decide) rfl rfl rfl hl.1 rfl (Nat.le_of_ble_eq_true rfl) dX0_accepts_232 ⟨Nat.zero_le _, Nat.zero_le _⟩ (fun H locs hP hD hS => ?_)
    obtain ⟨hz, h⟩ := cz_el h
    cases h
    rw [← hQe]
    exact W.zret hx hb hr hz (fun t ht hW => ⟨⟨_, (), rfl, rfl, by rw [ht]; exact hP, va_K.moved hW.alike hK, hD⟩, hS.F ht⟩) hS.2.2 dX0_accepts_235
  replace h := ifn_el c_40 h
  by_cases c_47 : r_5 = (nI 119)
  · replace h := ifp_el c_47 h
    refine lv_tableIn (off := 92) (tgt := 108) hx hb dX0_accepts_16 (by rw [c_47]; decide) (by rw [c_47]; decide) (by rw [c_47]; decide) (by decide) ?_
    refine lv_aload_n hx hb dX0_accepts_108 rfl (lv_at hl 2 rfl) ?_
    refine va_get (D := D) (ci := 0) (v := .ref q_words) (C := RX0) (T := TX0) (N := 9) hx hb hts i_X0 hown hK hP 0 rfl rfl 0 (by decide) k_9 (fun _ h9 => h9) rfl dX0_accepts_109 ?_
    refine lv_iload_n hx hb dX0_accepts_112 rfl (lv_at hl 1 rfl) ?_
    refine lv_iload_n hx hb dX0_accepts_113 rfl (lv_at hl 0 rfl) ?_
    obtain ⟨r_48, hg_49, h⟩ := bd1_el h
    refine kx_Si (As := [.int r_1, .int r_3]) (rest := [.ref q_words]) (wr := [(q_this, .inr (0, [.ref q_words, .ref q_heard, .ref q_canSay, .ref q_instead, .ref q_traders, .ref q_takes, .ref q_needs, .int v_speaks, .int v_alikeFrom])), (q_words, .inl (ca 0, 16, .inl v_words)), (q_heard, .inl (ca 0, 24, .inl v_heard)), (q_canSay, .inl (ca 0, 2, .inl v_canSay)), (q_instead, .inl (ca 0, 16, .inl v_instead)), (q_traders, .inl (ca 0, 2, .inl v_traders)), (q_takes, .inl (ca 0, 2, .inl v_takes)), (q_needs, .inr (4, [.ref q_needs_joinedMeaning, .ref q_needs_joinedPair, .int v_needs_joinedTold, .int v_needs_needsTold, .int v_needs_needed])), (q_needs_joinedMeaning, .inl (ca 0, 8, .inl v_needs_joinedMeaning)), (q_needs_joinedPair, .inl (ca 0, 8, .inl v_needs_joinedPair)), (q_o1, .inr (2, [.ref q_o1_text, .ref q_o1_numbers, .int v_o1_place, .int v_o1_letter, .int v_o1_word, .int v_o1_bits])), (q_o1_numbers, .inl (ca 0, 3, .inl v_o1_numbers))]) (w1 := []) (wn := [(q_this, .inr (0, [.ref q_words, .ref q_heard, .ref q_canSay, .ref q_instead, .ref q_traders, .ref q_takes, .ref q_needs, .int v_speaks, .int v_alikeFrom])), (q_words, .inl (ca 0, 16, .inl v_words)), (q_heard, .inl (ca 0, 24, .inl v_heard)), (q_canSay, .inl (ca 0, 2, .inl v_canSay)), (q_instead, .inl (ca 0, 16, .inl v_instead)), (q_traders, .inl (ca 0, 2, .inl v_traders)), (q_takes, .inl (ca 0, 2, .inl v_takes)), (q_needs, .inr (4, [.ref q_needs_joinedMeaning, .ref q_needs_joinedPair, .int v_needs_joinedTold, .int v_needs_needsTold, .int v_needs_needed])), (q_needs_joinedMeaning, .inl (ca 0, 8, .inl v_needs_joinedMeaning)), (q_needs_joinedPair, .inl (ca 0, 8, .inl v_needs_joinedPair)), (q_o1, .inr (2, [.ref q_o1_text, .ref q_o1_numbers, .int v_o1_place, .int v_o1_letter, .int v_o1_word, .int v_o1_bits])), (q_o1_numbers, .inl (ca 0, 3, .inl v_o1_numbers))]) ⟨hx, hb, hml, hown, hts⟩ (c_X0_wordPlace l D ca H.size r_1 r_3 r_48 hg_49) (va_cwS 2 hts gX0_accepts_X0_wordPlace rfl rfl rfl (by decide +kernel) ⟨(Nat.le_of_ble_eq_true rfl), (Nat.le_of_ble_eq_true rfl)⟩) hK hP hD hS hA [] [0, 1, 2, 3, 4, 5, 6, 7, 8, 9, 10, 11] [0, 1, 2, 3, 4, 5, 6, 7, 8, 9, 10, 11] rfl rfl rfl rfl (by decide) rfl rfl rfl hl.1 rfl (Nat.le_of_ble_eq_true rfl) dX0_accepts_114 ⟨Nat.zero_le _, Nat.zero_le _⟩ (fun H locs hP hD hS => ?_)
    refine lv_aload_n hx hb dX0_accepts_117 rfl (lv_at hl 3 rfl) ?_
    obtain ⟨r_50, hg_51, h⟩ := bd1_el h
    refine kx_Vi (As := []) (rest := [.int r_48, .ref q_words]) (wr := [(q_this, .inr (0, [.ref q_words, .ref q_heard, .ref q_canSay, .ref q_instead, .ref q_traders, .ref q_takes, .ref q_needs, .int v_speaks, .int v_alikeFrom])), (q_words, .inl (ca 0, 16, .inl v_words)), (q_heard, .inl (ca 0, 24, .inl v_heard)), (q_canSay, .inl (ca 0, 2, .inl v_canSay)), (q_instead, .inl (ca 0, 16, .inl v_instead)), (q_traders, .inl (ca 0, 2, .inl v_traders)), (q_takes, .inl (ca 0, 2, .inl v_takes)), (q_needs, .inr (4, [.ref q_needs_joinedMeaning, .ref q_needs_joinedPair, .int v_needs_joinedTold, .int v_needs_needsTold, .int v_needs_needed])), (q_needs_joinedMeaning, .inl (ca 0, 8, .inl v_needs_joinedMeaning)), (q_needs_joinedPair, .inl (ca 0, 8, .inl v_needs_joinedPair)), (q_o1_numbers, .inl (ca 0, 3, .inl v_o1_numbers))]) (w1 := [(q_o1, .inr (2, [.ref q_o1_text, .ref q_o1_numbers, .int v_o1_place, .int v_o1_letter, .int v_o1_word, .int v_o1_bits]))]) (wn := [(q_this, .inr (0, [.ref q_words, .ref q_heard, .ref q_canSay, .ref q_instead, .ref q_traders, .ref q_takes, .ref q_needs, .int v_speaks, .int v_alikeFrom])), (q_words, .inl (ca 0, 16, .inl v_words)), (q_heard, .inl (ca 0, 24, .inl v_heard)), (q_canSay, .inl (ca 0, 2, .inl v_canSay)), (q_instead, .inl (ca 0, 16, .inl v_instead)), (q_traders, .inl (ca 0, 2, .inl v_traders)), (q_takes, .inl (ca 0, 2, .inl v_takes)), (q_needs, .inr (4, [.ref q_needs_joinedMeaning, .ref q_needs_joinedPair, .int v_needs_joinedTold, .int v_needs_needsTold, .int v_needs_needed])), (q_needs_joinedMeaning, .inl (ca 0, 8, .inl v_needs_joinedMeaning)), (q_needs_joinedPair, .inl (ca 0, 8, .inl v_needs_joinedPair)), (q_o1, .inr (2, [.ref q_o1_text, .ref q_o1_numbers, .int v_o1_place, .int v_o1_letter, .int v_o1_word, .int v_o1_bits])), (q_o1_numbers, .inl (ca 0, 3, .inl v_o1_numbers))]) ⟨hx, hb, hml, hown, hts⟩ (c_X2_spelled l D ca H.size q_o1 q_o1_text q_o1_numbers v_o1_place v_o1_letter v_o1_word v_o1_bits r_50 hg_51) (cwV 0 hts gX0_accepts_X2_spelled rfl rfl rfl (by decide +kernel) ⟨(Nat.le_of_ble_eq_true rfl), (Nat.le_of_ble_eq_true rfl)⟩) hK hP hD hS hA (ci := 2) (q0 := 0) rfl rfl [10] [0, 1, 2, 3, 4, 5, 6, 7, 8, 9, 11] [0, 1, 2, 3, 4, 5, 6, 7, 8, 9, 11, 10] rfl rfl rfl rfl (by decide) rfl rfl rfl hl.1 rfl (Nat.le_of_ble_eq_true rfl) dX0_accepts_118 ⟨Nat.zero_le _, Nat.zero_le _⟩ (fun H locs hP hD hS => ?_)
    obtain ⟨y_words_52, hg_53, h⟩ := bd1_el h
    refine kx_Sv (As := [.ref q_words, .int r_48, .int r_50]) (rest := []) (wr := [(q_this, .inr (0, [.ref q_words, .ref q_heard, .ref q_canSay, .ref q_instead, .ref q_traders, .ref q_takes, .ref q_needs, .int v_speaks, .int v_alikeFrom])), (q_heard, .inl (ca 0, 24, .inl v_heard)), (q_canSay, .inl (ca 0, 2, .inl v_canSay)), (q_instead, .inl (ca 0, 16, .inl v_instead)), (q_traders, .inl (ca 0, 2, .inl v_traders)), (q_takes, .inl (ca 0, 2, .inl v_takes)), (q_needs, .inr (4, [.ref q_needs_joinedMeaning, .ref q_needs_joinedPair, .int v_needs_joinedTold, .int v_needs_needsTold, .int v_needs_needed])), (q_needs_joinedMeaning, .inl (ca 0, 8, .inl v_needs_joinedMeaning)), (q_needs_joinedPair, .inl (ca 0, 8, .inl v_needs_joinedPair)), (q_o1, .inr (2, [.ref q_o1_text, .ref q_o1_numbers, .int v_o1_place, .int v_o1_letter, .int v_o1_word, .int v_o1_bits])), (q_o1_numbers, .inl (ca 0, 3, .inl v_o1_numbers))]) (w1 := [(q_words, .inl (ca 0, 16, .inl y_words_52))]) (wn := [(q_this, .inr (0, [.ref q_words, .ref q_heard, .ref q_canSay, .ref q_instead, .ref q_traders, .ref q_takes, .ref q_needs, .int v_speaks, .int v_alikeFrom])), (q_words, .inl (ca 0, 16, .inl y_words_52)), (q_heard, .inl (ca 0, 24, .inl v_heard)), (q_canSay, .inl (ca 0, 2, .inl v_canSay)), (q_instead, .inl (ca 0, 16, .inl v_instead)), (q_traders, .inl (ca 0, 2, .inl v_traders)), (q_takes, .inl (ca 0, 2, .inl v_takes)), (q_needs, .inr (4, [.ref q_needs_joinedMeaning, .ref q_needs_joinedPair, .int v_needs_joinedTold, .int v_needs_needsTold, .int v_needs_needed])), (q_needs_joinedMeaning, .inl (ca 0, 8, .inl v_needs_joinedMeaning)), (q_needs_joinedPair, .inl (ca 0, 8, .inl v_needs_joinedPair)), (q_o1, .inr (2, [.ref q_o1_text, .ref q_o1_numbers, .int v_o1_place, .int v_o1_letter, .int v_o1_word, .int v_o1_bits])), (q_o1_numbers, .inl (ca 0, 3, .inl v_o1_numbers))]) ⟨hx, hb, hml, hown, hts⟩ (c_X5_put l D ca H.size q_words 16 r_48 r_50 v_words y_words_52 hg_53) (va_cwS 3 hts gX0_accepts_X5_put rfl rfl rfl (by decide +kernel) ⟨(Nat.le_of_ble_eq_true rfl), (Nat.le_of_ble_eq_true rfl)⟩) hK hP hD hS hA [1] [0, 2, 3, 4, 5, 6, 7, 8, 9, 10, 11] [0, 11, 1, 2, 3, 4, 5, 6, 7, 8, 9, 10] rfl rfl rfl rfl (by decide) rfl rfl rfl hl.1 rfl (Nat.le_of_ble_eq_true rfl) dX0_accepts_121 ⟨Nat.zero_le _, Nat.zero_le _⟩ (fun H locs hP hD hS => ?_)
    refine lv_iconst (v := (nI 1)) hx hb dX0_accepts_124 (by decide) ?_
    cases h
    rw [← hQe]
    exact W.zret hx hb hr rfl (fun t ht hW => ⟨⟨_, (), rfl, rfl, by rw [ht]; exact hP, va_K.moved hW.alike hK, hD⟩, hS.F ht⟩) hS.2.2 dX0_accepts_125
  replace h := ifn_el c_47 h
  have hdf : W p l e (headSpec wsX0_accepts rm_X0_accepts).room s m args below meth c H locs 0 0 Q (F0 m 236 ls []) := by
    refine lv_iconst (v := (nI 0)) hx hb dX0_accepts_236 (by decide) ?_
    cases h
    rw [← hQe]
    exact W.zret hx hb hr rfl (fun t ht hW => ⟨⟨_, (), rfl, rfl, by rw [ht]; exact hP, va_K.moved hW.alike hK, hD⟩, hS.F ht⟩) hS.2.2 dX0_accepts_237
  by_cases c_54 : (r_5).toInt < 101 ∨ 119 < (r_5).toInt
  · exact lv_tableOut hx hb dX0_accepts_16 c_54 (by decide) hdf
  have n_c_7 := lv_neT (a := 101) c_7 (by decide)
  have n_c_14 := lv_neT (a := 103) c_14 (by decide)
  have n_c_15 := lv_neT (a := 106) c_15 (by decide)
  have n_c_23 := lv_neT (a := 107) c_23 (by decide)
  have n_c_26 := lv_neT (a := 110) c_26 (by decide)
  have n_c_29 := lv_neT (a := 111) c_29 (by decide)
  have n_c_30 := lv_neT (a := 114) c_30 (by decide)
  have n_c_35 := lv_neT (a := 115) c_35 (by decide)
  have n_c_40 := lv_neT (a := 117) c_40 (by decide)
  have n_c_47 := lv_neT (a := 119) c_47 (by decide)
  have n_h : (r_5).toInt = 102 ∨ (r_5).toInt = 104 ∨ (r_5).toInt = 105 ∨ (r_5).toInt = 108 ∨ (r_5).toInt = 109 ∨ (r_5).toInt = 112 ∨ (r_5).toInt = 113 ∨ (r_5).toInt = 116 ∨ (r_5).toInt = 118 := by omega
  refine lv_tableIn (off := 220) (tgt := 236) hx hb dX0_accepts_16 (by omega) (by omega) ?_ (by decide) hdf
  rcases n_h with n_h | n_h | n_h | n_h | n_h | n_h | n_h | n_h | n_h <;> rw [n_h] <;> decide
def D_X0_wordOf (p1 : Int32) (p2 : Int32) (v_words : Nat → Int32) : Option (Int32) := bd1 (D_X0_wordPlace p1 p2) (fun r_1 => bd1 (D_X5_at 16 r_1 v_words) (fun r_3 => some (r_3)))
abbrev rm_X0_wordOf : Room := { frames := 1, cells := 0, slots := 0, locals := 21 }
set_option maxHeartbeats 4000000 in
set_option maxRecDepth 100000 in
theorem c_X0_wordOf (l : Launch) (D : va_G) (ca : Nat → ClassId) (sz : Nat) (q_this q_words q_heard q_canSay q_instead q_traders q_takes q_needs : Nat) (p1 : Int32) (p2 : Int32) (v_speaks : Int32) (v_alikeFrom : Int32) (v_words : Nat → Int32) (r : Int32) (h : D_X0_wordOf p1 p2 v_words = some (r)) : Met l yX0_wordOf wsX0_wordOf rm_X0_wordOf (va_Pc [.ref q_this, .int p1, .int p2] (kPre D ca [(q_this, .inr (0, [.ref q_words, .ref q_heard, .ref q_canSay, .ref q_instead, .ref q_traders, .ref q_takes, .ref q_needs, .int v_speaks, .int v_alikeFrom])), (q_words, .inl (ca 0, 16, .inl v_words))] sz)) (kQi D ca (va_A [(q_this, .inr (0, [.ref q_words, .ref q_heard, .ref q_canSay, .ref q_instead, .ref q_traders, .ref q_takes, .ref q_needs, .int v_speaks, .int v_alikeFrom])), (q_words, .inl (ca 0, 16, .inl v_words))] sz) [(q_this, .inr (0, [.ref q_words, .ref q_heard, .ref q_canSay, .ref q_instead, .ref q_traders, .ref q_takes, .ref q_needs, .int v_speaks, .int v_alikeFrom])), (q_words, .inl (ca 0, 16, .inl v_words))] r) 0 0 (va_A [(q_this, .inr (0, [.ref q_words, .ref q_heard, .ref q_canSay, .ref q_instead, .ref q_traders, .ref q_takes, .ref q_needs, .int v_speaks, .int v_alikeFrom])), (q_words, .inl (ca 0, 16, .inl v_words))] sz) := by
  refine Met.ofW (cc := cX0_wordOf) (maxL := 3) (ret := (some .int)) (by decide +kernel) rfl ?_
  intro p e s m args below meth c s₁ B hml hv
  obtain ⟨rfl, hsz, hP, hK, hD0⟩ := hv
  have hx := B.exec
  have hb := B.bytes
  have hr := B.returns
  have hts := atoms_spec (ws := wsX0_wordOf) B.pre
  have hown : s.vm.findClass RX0 = some m.cls := findClass_of_methodNamed B.named
  have hlocks := B.notSynchronized
  clear B
  subst hsz
  have hD := hD0.self (sz := s.heap.size)
  generalize hAe : va_A [(q_this, .inr (0, [.ref q_words, .ref q_heard, .ref q_canSay, .ref q_instead, .ref q_traders, .ref q_takes, .ref q_needs, .int v_speaks, .int v_alikeFrom])), (q_words, .inl (ca 0, 16, .inl v_words))] s.heap.size = A at hD ⊢
  have hA : ∀ q : Nat, s.heap.size ≤ q → A q := fun q h => by rw [← hAe]; exact Or.inr h
  have hS : va_S A s.heap s.heap [] := va_S.rf
  have hl := lv_entry ([.ref q_this, .int p1, .int p2]) (n := 3) (Nat.le_of_ble_eq_true rfl)
  rw [lg_entry_eq]
  generalize (lg_sl ([.ref q_this, .int p1, .int p2]) ++ List.replicate (3 - (lg_sl ([.ref q_this, .int p1, .int p2])).length) Slot.unset).toArray = ls at hl ⊢
  have hl : lv_has ls 3 [(0, .ref q_this), (1, .int p1), (2, .int p2)] := hl
  generalize ([.ref q_this, .int p1, .int p2] : List Value).toArray = args at hts ⊢
  generalize hQe : MQ below (kQi D ca (A) [(q_this, .inr (0, [.ref q_words, .ref q_heard, .ref q_canSay, .ref q_instead, .ref q_traders, .ref q_takes, .ref q_needs, .int v_speaks, .int v_alikeFrom])), (q_words, .inl (ca 0, 16, .inl v_words))] r) args s 0 0 A = Q
  have i_X0 : ∀ w ∈ u_ws RX0 TX0 9, w ∈ wsX0_wordOf := by decide +kernel
  have k_9 := hts (.fieldLink RX0 9 "TradeWords$Beach" "words" "[I") (by decide +kernel)
  rw [D_X0_wordOf] at h
  refine lv_aload_n hx hb dX0_wordOf_0 rfl (lv_at hl 0 rfl) ?_
  refine va_get (D := D) (ci := 0) (v := .ref q_words) (C := RX0) (T := TX0) (N := 9) hx hb hts i_X0 hown hK hP 0 rfl rfl 0 (by decide) k_9 (fun _ h9 => h9) rfl dX0_wordOf_1 ?_
  refine lv_iload_n hx hb dX0_wordOf_4 rfl (lv_at hl 1 rfl) ?_
  refine lv_iload_n hx hb dX0_wordOf_5 rfl (lv_at hl 2 rfl) ?_
  obtain ⟨r_1, hg_2, h⟩ := bd1_el h
  refine kx_Si (As := [.int p1, .int p2]) (rest := [.ref q_words]) (wr := [(q_this, .inr (0, [.ref q_words, .ref q_heard, .ref q_canSay, .ref q_instead, .ref q_traders, .ref q_takes, .ref q_needs, .int v_speaks, .int v_alikeFrom])), (q_words, .inl (ca 0, 16, .inl v_words))]) (w1 := []) (wn := [(q_this, .inr (0, [.ref q_words, .ref q_heard, .ref q_canSay, .ref q_instead, .ref q_traders, .ref q_takes, .ref q_needs, .int v_speaks, .int v_alikeFrom])), (q_words, .inl (ca 0, 16, .inl v_words))]) ⟨hx, hb, hml, hown, hts⟩ (c_X0_wordPlace l D ca s.heap.size p1 p2 r_1 hg_2) (va_cwS 2 hts gX0_wordOf_X0_wordPlace rfl rfl rfl (by decide +kernel) ⟨(Nat.le_of_ble_eq_true rfl), (Nat.le_of_ble_eq_true rfl)⟩) hK hP hD hS hA [] [0, 1] [0, 1] rfl rfl rfl rfl (by decide) rfl rfl rfl hl.1 rfl (Nat.le_of_ble_eq_true rfl) dX0_wordOf_6 ⟨Nat.zero_le _, Nat.zero_le _⟩ (fun H locs hP hD hS => ?_)
  obtain ⟨r_3, hg_4, h⟩ := bd1_el h
  refine kx_Si (As := [.ref q_words, .int r_1]) (rest := []) (wr := [(q_this, .inr (0, [.ref q_words, .ref q_heard, .ref q_canSay, .ref q_instead, .ref q_traders, .ref q_takes, .ref q_needs, .int v_speaks, .int v_alikeFrom]))]) (w1 := [(q_words, .inl (ca 0, 16, .inl v_words))]) (wn := [(q_this, .inr (0, [.ref q_words, .ref q_heard, .ref q_canSay, .ref q_instead, .ref q_traders, .ref q_takes, .ref q_needs, .int v_speaks, .int v_alikeFrom])), (q_words, .inl (ca 0, 16, .inl v_words))]) ⟨hx, hb, hml, hown, hts⟩ (c_X5_at l D ca H.size q_words 16 r_1 v_words r_3 hg_4) (va_cwS 2 hts gX0_wordOf_X5_at rfl rfl rfl (by decide +kernel) ⟨(Nat.le_of_ble_eq_true rfl), (Nat.le_of_ble_eq_true rfl)⟩) hK hP hD hS hA [1] [0] [0, 1] rfl rfl rfl rfl (by decide) rfl rfl rfl hl.1 rfl (Nat.le_of_ble_eq_true rfl) dX0_wordOf_9 ⟨Nat.zero_le _, Nat.zero_le _⟩ (fun H locs hP hD hS => ?_)
  cases h
  rw [← hQe]
  exact W.iret hx hb hr (fun t ht hW => ⟨⟨_, (), rfl, rfl, by rw [ht]; exact hP, va_K.moved hW.alike hK, hD⟩, hS.F ht⟩) hS.2.2 dX0_wordOf_12
def D_X0_heardBy (p1 : Int32) (p2 : Int32) (v_heard : Nat → Int32) : Option (Int32) := bd1 (D_X0_heardPlace p1 p2) (fun r_1 => bd1 (D_X5_at 24 r_1 v_heard) (fun r_3 => some (r_3)))
abbrev rm_X0_heardBy : Room := { frames := 1, cells := 0, slots := 0, locals := 21 }
set_option maxHeartbeats 4000000 in
set_option maxRecDepth 100000 in
theorem c_X0_heardBy (l : Launch) (D : va_G) (ca : Nat → ClassId) (sz : Nat) (q_this q_words q_heard q_canSay q_instead q_traders q_takes q_needs : Nat) (p1 : Int32) (p2 : Int32) (v_speaks : Int32) (v_alikeFrom : Int32) (v_heard : Nat → Int32) (r : Int32) (h : D_X0_heardBy p1 p2 v_heard = some (r)) : Met l yX0_heardBy wsX0_heardBy rm_X0_heardBy (va_Pc [.ref q_this, .int p1, .int p2] (kPre D ca [(q_this, .inr (0, [.ref q_words, .ref q_heard, .ref q_canSay, .ref q_instead, .ref q_traders, .ref q_takes, .ref q_needs, .int v_speaks, .int v_alikeFrom])), (q_heard, .inl (ca 0, 24, .inl v_heard))] sz)) (kQi D ca (va_A [(q_this, .inr (0, [.ref q_words, .ref q_heard, .ref q_canSay, .ref q_instead, .ref q_traders, .ref q_takes, .ref q_needs, .int v_speaks, .int v_alikeFrom])), (q_heard, .inl (ca 0, 24, .inl v_heard))] sz) [(q_this, .inr (0, [.ref q_words, .ref q_heard, .ref q_canSay, .ref q_instead, .ref q_traders, .ref q_takes, .ref q_needs, .int v_speaks, .int v_alikeFrom])), (q_heard, .inl (ca 0, 24, .inl v_heard))] r) 0 0 (va_A [(q_this, .inr (0, [.ref q_words, .ref q_heard, .ref q_canSay, .ref q_instead, .ref q_traders, .ref q_takes, .ref q_needs, .int v_speaks, .int v_alikeFrom])), (q_heard, .inl (ca 0, 24, .inl v_heard))] sz) := by
  refine Met.ofW (cc := cX0_heardBy) (maxL := 3) (ret := (some .int)) (by decide +kernel) rfl ?_
  intro p e s m args below meth c s₁ B hml hv
  obtain ⟨rfl, hsz, hP, hK, hD0⟩ := hv
  have hx := B.exec
  have hb := B.bytes
  have hr := B.returns
  have hts := atoms_spec (ws := wsX0_heardBy) B.pre
  have hown : s.vm.findClass RX0 = some m.cls := findClass_of_methodNamed B.named
  have hlocks := B.notSynchronized
  clear B
  subst hsz
  have hD := hD0.self (sz := s.heap.size)
  generalize hAe : va_A [(q_this, .inr (0, [.ref q_words, .ref q_heard, .ref q_canSay, .ref q_instead, .ref q_traders, .ref q_takes, .ref q_needs, .int v_speaks, .int v_alikeFrom])), (q_heard, .inl (ca 0, 24, .inl v_heard))] s.heap.size = A at hD ⊢
  have hA : ∀ q : Nat, s.heap.size ≤ q → A q := fun q h => by rw [← hAe]; exact Or.inr h
  have hS : va_S A s.heap s.heap [] := va_S.rf
  have hl := lv_entry ([.ref q_this, .int p1, .int p2]) (n := 3) (Nat.le_of_ble_eq_true rfl)
  rw [lg_entry_eq]
  generalize (lg_sl ([.ref q_this, .int p1, .int p2]) ++ List.replicate (3 - (lg_sl ([.ref q_this, .int p1, .int p2])).length) Slot.unset).toArray = ls at hl ⊢
  have hl : lv_has ls 3 [(0, .ref q_this), (1, .int p1), (2, .int p2)] := hl
  generalize ([.ref q_this, .int p1, .int p2] : List Value).toArray = args at hts ⊢
  generalize hQe : MQ below (kQi D ca (A) [(q_this, .inr (0, [.ref q_words, .ref q_heard, .ref q_canSay, .ref q_instead, .ref q_traders, .ref q_takes, .ref q_needs, .int v_speaks, .int v_alikeFrom])), (q_heard, .inl (ca 0, 24, .inl v_heard))] r) args s 0 0 A = Q
  have i_X0 : ∀ w ∈ u_ws RX0 TX0 9, w ∈ wsX0_heardBy := by decide +kernel
  have k_15 := hts (.fieldLink RX0 15 "TradeWords$Beach" "heard" "[I") (by decide +kernel)
  rw [D_X0_heardBy] at h
  refine lv_aload_n hx hb dX0_heardBy_0 rfl (lv_at hl 0 rfl) ?_
  refine va_get (D := D) (ci := 0) (v := .ref q_heard) (C := RX0) (T := TX0) (N := 9) hx hb hts i_X0 hown hK hP 0 rfl rfl 1 (by decide) k_15 (fun _ h9 => h9) rfl dX0_heardBy_1 ?_
  refine lv_iload_n hx hb dX0_heardBy_4 rfl (lv_at hl 1 rfl) ?_
  refine lv_iload_n hx hb dX0_heardBy_5 rfl (lv_at hl 2 rfl) ?_
  obtain ⟨r_1, hg_2, h⟩ := bd1_el h
  refine kx_Si (As := [.int p1, .int p2]) (rest := [.ref q_heard]) (wr := [(q_this, .inr (0, [.ref q_words, .ref q_heard, .ref q_canSay, .ref q_instead, .ref q_traders, .ref q_takes, .ref q_needs, .int v_speaks, .int v_alikeFrom])), (q_heard, .inl (ca 0, 24, .inl v_heard))]) (w1 := []) (wn := [(q_this, .inr (0, [.ref q_words, .ref q_heard, .ref q_canSay, .ref q_instead, .ref q_traders, .ref q_takes, .ref q_needs, .int v_speaks, .int v_alikeFrom])), (q_heard, .inl (ca 0, 24, .inl v_heard))]) ⟨hx, hb, hml, hown, hts⟩ (c_X0_heardPlace l D ca s.heap.size p1 p2 r_1 hg_2) (va_cwS 2 hts gX0_heardBy_X0_heardPlace rfl rfl rfl (by decide +kernel) ⟨(Nat.le_of_ble_eq_true rfl), (Nat.le_of_ble_eq_true rfl)⟩) hK hP hD hS hA [] [0, 1] [0, 1] rfl rfl rfl rfl (by decide) rfl rfl rfl hl.1 rfl (Nat.le_of_ble_eq_true rfl) dX0_heardBy_6 ⟨Nat.zero_le _, Nat.zero_le _⟩ (fun H locs hP hD hS => ?_)
  obtain ⟨r_3, hg_4, h⟩ := bd1_el h
  refine kx_Si (As := [.ref q_heard, .int r_1]) (rest := []) (wr := [(q_this, .inr (0, [.ref q_words, .ref q_heard, .ref q_canSay, .ref q_instead, .ref q_traders, .ref q_takes, .ref q_needs, .int v_speaks, .int v_alikeFrom]))]) (w1 := [(q_heard, .inl (ca 0, 24, .inl v_heard))]) (wn := [(q_this, .inr (0, [.ref q_words, .ref q_heard, .ref q_canSay, .ref q_instead, .ref q_traders, .ref q_takes, .ref q_needs, .int v_speaks, .int v_alikeFrom])), (q_heard, .inl (ca 0, 24, .inl v_heard))]) ⟨hx, hb, hml, hown, hts⟩ (c_X5_at l D ca H.size q_heard 24 r_1 v_heard r_3 hg_4) (va_cwS 2 hts gX0_heardBy_X5_at rfl rfl rfl (by decide +kernel) ⟨(Nat.le_of_ble_eq_true rfl), (Nat.le_of_ble_eq_true rfl)⟩) hK hP hD hS hA [1] [0] [0, 1] rfl rfl rfl rfl (by decide) rfl rfl rfl hl.1 rfl (Nat.le_of_ble_eq_true rfl) dX0_heardBy_9 ⟨Nat.zero_le _, Nat.zero_le _⟩ (fun H locs hP hD hS => ?_)
  cases h
  rw [← hQe]
  exact W.iret hx hb hr (fun t ht hW => ⟨⟨_, (), rfl, rfl, by rw [ht]; exact hP, va_K.moved hW.alike hK, hD⟩, hS.F ht⟩) hS.2.2 dX0_heardBy_12
def D_X0_isTold (p1 : Int32) (v_words : Nat → Int32) : Option (Int32) := bd1 (D_X0_wordOf (nI 0) p1 v_words) (fun r_1 => (if r_1 = 0 then some ((nI 0)) else bd1 (D_X0_wordOf (nI 1) p1 v_words) (fun r_4 => (if r_4 = 0 then some ((nI 0)) else some ((nI 1))))))
abbrev rm_X0_isTold : Room := { frames := 2, cells := 0, slots := 0, locals := 43 }
set_option maxHeartbeats 4000000 in
set_option maxRecDepth 100000 in
theorem c_X0_isTold (l : Launch) (D : va_G) (ca : Nat → ClassId) (sz : Nat) (q_this q_words q_heard q_canSay q_instead q_traders q_takes q_needs : Nat) (p1 : Int32) (v_speaks : Int32) (v_alikeFrom : Int32) (v_words : Nat → Int32) (r : Int32) (h : D_X0_isTold p1 v_words = some (r)) : Met l yX0_isTold wsX0_isTold rm_X0_isTold (va_Pc [.ref q_this, .int p1] (kPre D ca [(q_this, .inr (0, [.ref q_words, .ref q_heard, .ref q_canSay, .ref q_instead, .ref q_traders, .ref q_takes, .ref q_needs, .int v_speaks, .int v_alikeFrom])), (q_words, .inl (ca 0, 16, .inl v_words))] sz)) (kQi D ca (va_A [(q_this, .inr (0, [.ref q_words, .ref q_heard, .ref q_canSay, .ref q_instead, .ref q_traders, .ref q_takes, .ref q_needs, .int v_speaks, .int v_alikeFrom])), (q_words, .inl (ca 0, 16, .inl v_words))] sz) [(q_this, .inr (0, [.ref q_words, .ref q_heard, .ref q_canSay, .ref q_instead, .ref q_traders, .ref q_takes, .ref q_needs, .int v_speaks, .int v_alikeFrom])), (q_words, .inl (ca 0, 16, .inl v_words))] r) 0 0 (va_A [(q_this, .inr (0, [.ref q_words, .ref q_heard, .ref q_canSay, .ref q_instead, .ref q_traders, .ref q_takes, .ref q_needs, .int v_speaks, .int v_alikeFrom])), (q_words, .inl (ca 0, 16, .inl v_words))] sz) := by
  refine Met.ofW (cc := cX0_isTold) (maxL := 2) (ret := (some .boolean)) (by decide +kernel) rfl ?_
  intro p e s m args below meth c s₁ B hml hv
  obtain ⟨rfl, hsz, hP, hK, hD0⟩ := hv
  have hx := B.exec
  have hb := B.bytes
  have hr := B.returns
  have hts := atoms_spec (ws := wsX0_isTold) B.pre
  have hown : s.vm.findClass RX0 = some m.cls := findClass_of_methodNamed B.named
  have hlocks := B.notSynchronized
  clear B
  subst hsz
  have hD := hD0.self (sz := s.heap.size)
  generalize hAe : va_A [(q_this, .inr (0, [.ref q_words, .ref q_heard, .ref q_canSay, .ref q_instead, .ref q_traders, .ref q_takes, .ref q_needs, .int v_speaks, .int v_alikeFrom])), (q_words, .inl (ca 0, 16, .inl v_words))] s.heap.size = A at hD ⊢
  have hA : ∀ q : Nat, s.heap.size ≤ q → A q := fun q h => by rw [← hAe]; exact Or.inr h
  have hS : va_S A s.heap s.heap [] := va_S.rf
  have hl := lv_entry ([.ref q_this, .int p1]) (n := 2) (Nat.le_of_ble_eq_true rfl)
  rw [lg_entry_eq]
  generalize (lg_sl ([.ref q_this, .int p1]) ++ List.replicate (2 - (lg_sl ([.ref q_this, .int p1])).length) Slot.unset).toArray = ls at hl ⊢
  have hl : lv_has ls 2 [(0, .ref q_this), (1, .int p1)] := hl
  generalize ([.ref q_this, .int p1] : List Value).toArray = args at hts ⊢
  generalize hQe : MQ below (kQi D ca (A) [(q_this, .inr (0, [.ref q_words, .ref q_heard, .ref q_canSay, .ref q_instead, .ref q_traders, .ref q_takes, .ref q_needs, .int v_speaks, .int v_alikeFrom])), (q_words, .inl (ca 0, 16, .inl v_words))] r) args s 0 0 A = Q
  rw [D_X0_isTold] at h
  refine lv_aload_n hx hb dX0_isTold_0 rfl (lv_at hl 0 rfl) ?_
  refine lv_iconst (v := (nI 0)) hx hb dX0_isTold_1 (by decide) ?_
  refine lv_iload_n hx hb dX0_isTold_2 rfl (lv_at hl 1 rfl) ?_
  obtain ⟨r_1, hg_2, h⟩ := bd1_el h
  refine kx_Vi (As := [.int (nI 0), .int p1]) (rest := []) (wr := []) (w1 := [(q_this, .inr (0, [.ref q_words, .ref q_heard, .ref q_canSay, .ref q_instead, .ref q_traders, .ref q_takes, .ref q_needs, .int v_speaks, .int v_alikeFrom])), (q_words, .inl (ca 0, 16, .inl v_words))]) (wn := [(q_this, .inr (0, [.ref q_words, .ref q_heard, .ref q_canSay, .ref q_instead, .ref q_traders, .ref q_takes, .ref q_needs, .int v_speaks, .int v_alikeFrom])), (q_words, .inl (ca 0, 16, .inl v_words))]) ⟨hx, hb, hml, hown, hts⟩ (c_X0_wordOf l D ca s.heap.size q_this q_words q_heard q_canSay q_instead q_traders q_takes q_needs (nI 0) p1 v_speaks v_alikeFrom v_words r_1 hg_2) (cwV 2 hts gX0_isTold_X0_wordOf rfl rfl rfl (by decide +kernel) ⟨(Nat.le_of_ble_eq_true rfl), (Nat.le_of_ble_eq_true rfl)⟩) hK hP hD hS hA (ci := 0) (q0 := 0) rfl rfl [0, 1] [] [0, 1] rfl rfl rfl rfl (by decide) rfl rfl rfl hl.1 rfl (Nat.le_of_ble_eq_true rfl) dX0_isTold_3 ⟨Nat.zero_le _, Nat.zero_le _⟩ (fun H locs hP hD hS => ?_)
  refine lv_if_eq (tgt := 22) hx hb dX0_isTold_6 (by decide) (fun c_3 => ?_) (fun c_3 => ?_)
  · replace h := ifp_el c_3 h
    refine lv_iconst (v := (nI 0)) hx hb dX0_isTold_22 (by decide) ?_
    cases h
    rw [← hQe]
    exact W.zret hx hb hr rfl (fun t ht hW => ⟨⟨_, (), rfl, rfl, by rw [ht]; exact hP, va_K.moved hW.alike hK, hD⟩, hS.F ht⟩) hS.2.2 dX0_isTold_23
  · replace h := ifn_el c_3 h
    refine lv_aload_n hx hb dX0_isTold_9 rfl (lv_at hl 0 rfl) ?_
    refine lv_iconst (v := (nI 1)) hx hb dX0_isTold_10 (by decide) ?_
    refine lv_iload_n hx hb dX0_isTold_11 rfl (lv_at hl 1 rfl) ?_
    obtain ⟨r_4, hg_5, h⟩ := bd1_el h
    refine kx_Vi (As := [.int (nI 1), .int p1]) (rest := []) (wr := []) (w1 := [(q_this, .inr (0, [.ref q_words, .ref q_heard, .ref q_canSay, .ref q_instead, .ref q_traders, .ref q_takes, .ref q_needs, .int v_speaks, .int v_alikeFrom])), (q_words, .inl (ca 0, 16, .inl v_words))]) (wn := [(q_this, .inr (0, [.ref q_words, .ref q_heard, .ref q_canSay, .ref q_instead, .ref q_traders, .ref q_takes, .ref q_needs, .int v_speaks, .int v_alikeFrom])), (q_words, .inl (ca 0, 16, .inl v_words))]) ⟨hx, hb, hml, hown, hts⟩ (c_X0_wordOf l D ca H.size q_this q_words q_heard q_canSay q_instead q_traders q_takes q_needs (nI 1) p1 v_speaks v_alikeFrom v_words r_4 hg_5) (cwV 2 hts gX0_isTold_X0_wordOf rfl rfl rfl (by decide +kernel) ⟨(Nat.le_of_ble_eq_true rfl), (Nat.le_of_ble_eq_true rfl)⟩) hK hP hD hS hA (ci := 0) (q0 := 0) rfl rfl [0, 1] [] [0, 1] rfl rfl rfl rfl (by decide) rfl rfl rfl hl.1 rfl (Nat.le_of_ble_eq_true rfl) dX0_isTold_12 ⟨Nat.zero_le _, Nat.zero_le _⟩ (fun H locs hP hD hS => ?_)
    refine lv_if_eq (tgt := 22) hx hb dX0_isTold_15 (by decide) (fun c_6 => ?_) (fun c_6 => ?_)
    · replace h := ifp_el c_6 h
      refine lv_iconst (v := (nI 0)) hx hb dX0_isTold_22 (by decide) ?_
      cases h
      rw [← hQe]
      exact W.zret hx hb hr rfl (fun t ht hW => ⟨⟨_, (), rfl, rfl, by rw [ht]; exact hP, va_K.moved hW.alike hK, hD⟩, hS.F ht⟩) hS.2.2 dX0_isTold_23
    · replace h := ifn_el c_6 h
      refine lv_iconst (v := (nI 1)) hx hb dX0_isTold_18 (by decide) ?_
      refine lv_goto (tgt := 23) hx hb dX0_isTold_19 (by decide) ?_
      cases h
      rw [← hQe]
      exact W.zret hx hb hr rfl (fun t ht hW => ⟨⟨_, (), rfl, rfl, by rw [ht]; exact hP, va_K.moved hW.alike hK, hD⟩, hS.F ht⟩) hS.2.2 dX0_isTold_23
def D_X0_soundsOf (p1 : Int32) (v_canSay : Nat → Int32) : Option (Int32) := bd1 (D_X5_at 2 p1 v_canSay) (fun r_1 => some (r_1))
abbrev rm_X0_soundsOf : Room := { frames := 1, cells := 0, slots := 0, locals := 21 }
set_option maxHeartbeats 4000000 in
set_option maxRecDepth 100000 in
theorem c_X0_soundsOf (l : Launch) (D : va_G) (ca : Nat → ClassId) (sz : Nat) (q_this q_words q_heard q_canSay q_instead q_traders q_takes q_needs : Nat) (p1 : Int32) (v_speaks : Int32) (v_alikeFrom : Int32) (v_canSay : Nat → Int32) (r : Int32) (h : D_X0_soundsOf p1 v_canSay = some (r)) : Met l yX0_soundsOf wsX0_soundsOf rm_X0_soundsOf (va_Pc [.ref q_this, .int p1] (kPre D ca [(q_this, .inr (0, [.ref q_words, .ref q_heard, .ref q_canSay, .ref q_instead, .ref q_traders, .ref q_takes, .ref q_needs, .int v_speaks, .int v_alikeFrom])), (q_canSay, .inl (ca 0, 2, .inl v_canSay))] sz)) (kQi D ca (va_A [(q_this, .inr (0, [.ref q_words, .ref q_heard, .ref q_canSay, .ref q_instead, .ref q_traders, .ref q_takes, .ref q_needs, .int v_speaks, .int v_alikeFrom])), (q_canSay, .inl (ca 0, 2, .inl v_canSay))] sz) [(q_this, .inr (0, [.ref q_words, .ref q_heard, .ref q_canSay, .ref q_instead, .ref q_traders, .ref q_takes, .ref q_needs, .int v_speaks, .int v_alikeFrom])), (q_canSay, .inl (ca 0, 2, .inl v_canSay))] r) 0 0 (va_A [(q_this, .inr (0, [.ref q_words, .ref q_heard, .ref q_canSay, .ref q_instead, .ref q_traders, .ref q_takes, .ref q_needs, .int v_speaks, .int v_alikeFrom])), (q_canSay, .inl (ca 0, 2, .inl v_canSay))] sz) := by
  refine Met.ofW (cc := cX0_soundsOf) (maxL := 2) (ret := (some .int)) (by decide +kernel) rfl ?_
  intro p e s m args below meth c s₁ B hml hv
  obtain ⟨rfl, hsz, hP, hK, hD0⟩ := hv
  have hx := B.exec
  have hb := B.bytes
  have hr := B.returns
  have hts := atoms_spec (ws := wsX0_soundsOf) B.pre
  have hown : s.vm.findClass RX0 = some m.cls := findClass_of_methodNamed B.named
  have hlocks := B.notSynchronized
  clear B
  subst hsz
  have hD := hD0.self (sz := s.heap.size)
  generalize hAe : va_A [(q_this, .inr (0, [.ref q_words, .ref q_heard, .ref q_canSay, .ref q_instead, .ref q_traders, .ref q_takes, .ref q_needs, .int v_speaks, .int v_alikeFrom])), (q_canSay, .inl (ca 0, 2, .inl v_canSay))] s.heap.size = A at hD ⊢
  have hA : ∀ q : Nat, s.heap.size ≤ q → A q := fun q h => by rw [← hAe]; exact Or.inr h
  have hS : va_S A s.heap s.heap [] := va_S.rf
  have hl := lv_entry ([.ref q_this, .int p1]) (n := 2) (Nat.le_of_ble_eq_true rfl)
  rw [lg_entry_eq]
  generalize (lg_sl ([.ref q_this, .int p1]) ++ List.replicate (2 - (lg_sl ([.ref q_this, .int p1])).length) Slot.unset).toArray = ls at hl ⊢
  have hl : lv_has ls 2 [(0, .ref q_this), (1, .int p1)] := hl
  generalize ([.ref q_this, .int p1] : List Value).toArray = args at hts ⊢
  generalize hQe : MQ below (kQi D ca (A) [(q_this, .inr (0, [.ref q_words, .ref q_heard, .ref q_canSay, .ref q_instead, .ref q_traders, .ref q_takes, .ref q_needs, .int v_speaks, .int v_alikeFrom])), (q_canSay, .inl (ca 0, 2, .inl v_canSay))] r) args s 0 0 A = Q
  have i_X0 : ∀ w ∈ u_ws RX0 TX0 9, w ∈ wsX0_soundsOf := by decide +kernel
  have k_18 := hts (.fieldLink RX0 18 "TradeWords$Beach" "canSay" "[I") (by decide +kernel)
  rw [D_X0_soundsOf] at h
  refine lv_aload_n hx hb dX0_soundsOf_0 rfl (lv_at hl 0 rfl) ?_
  refine va_get (D := D) (ci := 0) (v := .ref q_canSay) (C := RX0) (T := TX0) (N := 9) hx hb hts i_X0 hown hK hP 0 rfl rfl 2 (by decide) k_18 (fun _ h9 => h9) rfl dX0_soundsOf_1 ?_
  refine lv_iload_n hx hb dX0_soundsOf_4 rfl (lv_at hl 1 rfl) ?_
  obtain ⟨r_1, hg_2, h⟩ := bd1_el h
  refine kx_Si (As := [.ref q_canSay, .int p1]) (rest := []) (wr := [(q_this, .inr (0, [.ref q_words, .ref q_heard, .ref q_canSay, .ref q_instead, .ref q_traders, .ref q_takes, .ref q_needs, .int v_speaks, .int v_alikeFrom]))]) (w1 := [(q_canSay, .inl (ca 0, 2, .inl v_canSay))]) (wn := [(q_this, .inr (0, [.ref q_words, .ref q_heard, .ref q_canSay, .ref q_instead, .ref q_traders, .ref q_takes, .ref q_needs, .int v_speaks, .int v_alikeFrom])), (q_canSay, .inl (ca 0, 2, .inl v_canSay))]) ⟨hx, hb, hml, hown, hts⟩ (c_X5_at l D ca s.heap.size q_canSay 2 p1 v_canSay r_1 hg_2) (va_cwS 2 hts gX0_soundsOf_X5_at rfl rfl rfl (by decide +kernel) ⟨(Nat.le_of_ble_eq_true rfl), (Nat.le_of_ble_eq_true rfl)⟩) hK hP hD hS hA [1] [0] [0, 1] rfl rfl rfl rfl (by decide) rfl rfl rfl hl.1 rfl (Nat.le_of_ble_eq_true rfl) dX0_soundsOf_5 ⟨Nat.zero_le _, Nat.zero_le _⟩ (fun H locs hP hD hS => ?_)
  cases h
  rw [← hQe]
  exact W.iret hx hb hr (fun t ht hW => ⟨⟨_, (), rfl, rfl, by rw [ht]; exact hP, va_K.moved hW.alike hK, hD⟩, hS.F ht⟩) hS.2.2 dX0_soundsOf_8
def D_X0_tradersOf (p1 : Int32) (v_traders : Nat → Int32) : Option (Int32) := bd1 (D_X5_at 2 p1 v_traders) (fun r_1 => some (r_1))
abbrev rm_X0_tradersOf : Room := { frames := 1, cells := 0, slots := 0, locals := 21 }
set_option maxHeartbeats 4000000 in
set_option maxRecDepth 100000 in
theorem c_X0_tradersOf (l : Launch) (D : va_G) (ca : Nat → ClassId) (sz : Nat) (q_this q_words q_heard q_canSay q_instead q_traders q_takes q_needs : Nat) (p1 : Int32) (v_speaks : Int32) (v_alikeFrom : Int32) (v_traders : Nat → Int32) (r : Int32) (h : D_X0_tradersOf p1 v_traders = some (r)) : Met l yX0_tradersOf wsX0_tradersOf rm_X0_tradersOf (va_Pc [.ref q_this, .int p1] (kPre D ca [(q_this, .inr (0, [.ref q_words, .ref q_heard, .ref q_canSay, .ref q_instead, .ref q_traders, .ref q_takes, .ref q_needs, .int v_speaks, .int v_alikeFrom])), (q_traders, .inl (ca 0, 2, .inl v_traders))] sz)) (kQi D ca (va_A [(q_this, .inr (0, [.ref q_words, .ref q_heard, .ref q_canSay, .ref q_instead, .ref q_traders, .ref q_takes, .ref q_needs, .int v_speaks, .int v_alikeFrom])), (q_traders, .inl (ca 0, 2, .inl v_traders))] sz) [(q_this, .inr (0, [.ref q_words, .ref q_heard, .ref q_canSay, .ref q_instead, .ref q_traders, .ref q_takes, .ref q_needs, .int v_speaks, .int v_alikeFrom])), (q_traders, .inl (ca 0, 2, .inl v_traders))] r) 0 0 (va_A [(q_this, .inr (0, [.ref q_words, .ref q_heard, .ref q_canSay, .ref q_instead, .ref q_traders, .ref q_takes, .ref q_needs, .int v_speaks, .int v_alikeFrom])), (q_traders, .inl (ca 0, 2, .inl v_traders))] sz) := by
  refine Met.ofW (cc := cX0_tradersOf) (maxL := 2) (ret := (some .int)) (by decide +kernel) rfl ?_
  intro p e s m args below meth c s₁ B hml hv
  obtain ⟨rfl, hsz, hP, hK, hD0⟩ := hv
  have hx := B.exec
  have hb := B.bytes
  have hr := B.returns
  have hts := atoms_spec (ws := wsX0_tradersOf) B.pre
  have hown : s.vm.findClass RX0 = some m.cls := findClass_of_methodNamed B.named
  have hlocks := B.notSynchronized
  clear B
  subst hsz
  have hD := hD0.self (sz := s.heap.size)
  generalize hAe : va_A [(q_this, .inr (0, [.ref q_words, .ref q_heard, .ref q_canSay, .ref q_instead, .ref q_traders, .ref q_takes, .ref q_needs, .int v_speaks, .int v_alikeFrom])), (q_traders, .inl (ca 0, 2, .inl v_traders))] s.heap.size = A at hD ⊢
  have hA : ∀ q : Nat, s.heap.size ≤ q → A q := fun q h => by rw [← hAe]; exact Or.inr h
  have hS : va_S A s.heap s.heap [] := va_S.rf
  have hl := lv_entry ([.ref q_this, .int p1]) (n := 2) (Nat.le_of_ble_eq_true rfl)
  rw [lg_entry_eq]
  generalize (lg_sl ([.ref q_this, .int p1]) ++ List.replicate (2 - (lg_sl ([.ref q_this, .int p1])).length) Slot.unset).toArray = ls at hl ⊢
  have hl : lv_has ls 2 [(0, .ref q_this), (1, .int p1)] := hl
  generalize ([.ref q_this, .int p1] : List Value).toArray = args at hts ⊢
  generalize hQe : MQ below (kQi D ca (A) [(q_this, .inr (0, [.ref q_words, .ref q_heard, .ref q_canSay, .ref q_instead, .ref q_traders, .ref q_takes, .ref q_needs, .int v_speaks, .int v_alikeFrom])), (q_traders, .inl (ca 0, 2, .inl v_traders))] r) args s 0 0 A = Q
  have i_X0 : ∀ w ∈ u_ws RX0 TX0 9, w ∈ wsX0_tradersOf := by decide +kernel
  have k_24 := hts (.fieldLink RX0 24 "TradeWords$Beach" "traders" "[I") (by decide +kernel)
  rw [D_X0_tradersOf] at h
  refine lv_aload_n hx hb dX0_tradersOf_0 rfl (lv_at hl 0 rfl) ?_
  refine va_get (D := D) (ci := 0) (v := .ref q_traders) (C := RX0) (T := TX0) (N := 9) hx hb hts i_X0 hown hK hP 0 rfl rfl 4 (by decide) k_24 (fun _ h9 => h9) rfl dX0_tradersOf_1 ?_
  refine lv_iload_n hx hb dX0_tradersOf_4 rfl (lv_at hl 1 rfl) ?_
  obtain ⟨r_1, hg_2, h⟩ := bd1_el h
  refine kx_Si (As := [.ref q_traders, .int p1]) (rest := []) (wr := [(q_this, .inr (0, [.ref q_words, .ref q_heard, .ref q_canSay, .ref q_instead, .ref q_traders, .ref q_takes, .ref q_needs, .int v_speaks, .int v_alikeFrom]))]) (w1 := [(q_traders, .inl (ca 0, 2, .inl v_traders))]) (wn := [(q_this, .inr (0, [.ref q_words, .ref q_heard, .ref q_canSay, .ref q_instead, .ref q_traders, .ref q_takes, .ref q_needs, .int v_speaks, .int v_alikeFrom])), (q_traders, .inl (ca 0, 2, .inl v_traders))]) ⟨hx, hb, hml, hown, hts⟩ (c_X5_at l D ca s.heap.size q_traders 2 p1 v_traders r_1 hg_2) (va_cwS 2 hts gX0_tradersOf_X5_at rfl rfl rfl (by decide +kernel) ⟨(Nat.le_of_ble_eq_true rfl), (Nat.le_of_ble_eq_true rfl)⟩) hK hP hD hS hA [1] [0] [0, 1] rfl rfl rfl rfl (by decide) rfl rfl rfl hl.1 rfl (Nat.le_of_ble_eq_true rfl) dX0_tradersOf_5 ⟨Nat.zero_le _, Nat.zero_le _⟩ (fun H locs hP hD hS => ?_)
  cases h
  rw [← hQe]
  exact W.iret hx hb hr (fun t ht hW => ⟨⟨_, (), rfl, rfl, by rw [ht]; exact hP, va_K.moved hW.alike hK, hD⟩, hS.F ht⟩) hS.2.2 dX0_tradersOf_8
def D_X0_takesOfTen (p1 : Int32) (v_takes : Nat → Int32) : Option (Int32) := bd1 (D_X5_at 2 p1 v_takes) (fun r_1 => some (r_1))
abbrev rm_X0_takesOfTen : Room := { frames := 1, cells := 0, slots := 0, locals := 21 }
set_option maxHeartbeats 4000000 in
set_option maxRecDepth 100000 in
theorem c_X0_takesOfTen (l : Launch) (D : va_G) (ca : Nat → ClassId) (sz : Nat) (q_this q_words q_heard q_canSay q_instead q_traders q_takes q_needs : Nat) (p1 : Int32) (v_speaks : Int32) (v_alikeFrom : Int32) (v_takes : Nat → Int32) (r : Int32) (h : D_X0_takesOfTen p1 v_takes = some (r)) : Met l yX0_takesOfTen wsX0_takesOfTen rm_X0_takesOfTen (va_Pc [.ref q_this, .int p1] (kPre D ca [(q_this, .inr (0, [.ref q_words, .ref q_heard, .ref q_canSay, .ref q_instead, .ref q_traders, .ref q_takes, .ref q_needs, .int v_speaks, .int v_alikeFrom])), (q_takes, .inl (ca 0, 2, .inl v_takes))] sz)) (kQi D ca (va_A [(q_this, .inr (0, [.ref q_words, .ref q_heard, .ref q_canSay, .ref q_instead, .ref q_traders, .ref q_takes, .ref q_needs, .int v_speaks, .int v_alikeFrom])), (q_takes, .inl (ca 0, 2, .inl v_takes))] sz) [(q_this, .inr (0, [.ref q_words, .ref q_heard, .ref q_canSay, .ref q_instead, .ref q_traders, .ref q_takes, .ref q_needs, .int v_speaks, .int v_alikeFrom])), (q_takes, .inl (ca 0, 2, .inl v_takes))] r) 0 0 (va_A [(q_this, .inr (0, [.ref q_words, .ref q_heard, .ref q_canSay, .ref q_instead, .ref q_traders, .ref q_takes, .ref q_needs, .int v_speaks, .int v_alikeFrom])), (q_takes, .inl (ca 0, 2, .inl v_takes))] sz) := by
  refine Met.ofW (cc := cX0_takesOfTen) (maxL := 2) (ret := (some .int)) (by decide +kernel) rfl ?_
  intro p e s m args below meth c s₁ B hml hv
  obtain ⟨rfl, hsz, hP, hK, hD0⟩ := hv
  have hx := B.exec
  have hb := B.bytes
  have hr := B.returns
  have hts := atoms_spec (ws := wsX0_takesOfTen) B.pre
  have hown : s.vm.findClass RX0 = some m.cls := findClass_of_methodNamed B.named
  have hlocks := B.notSynchronized
  clear B
  subst hsz
  have hD := hD0.self (sz := s.heap.size)
  generalize hAe : va_A [(q_this, .inr (0, [.ref q_words, .ref q_heard, .ref q_canSay, .ref q_instead, .ref q_traders, .ref q_takes, .ref q_needs, .int v_speaks, .int v_alikeFrom])), (q_takes, .inl (ca 0, 2, .inl v_takes))] s.heap.size = A at hD ⊢
  have hA : ∀ q : Nat, s.heap.size ≤ q → A q := fun q h => by rw [← hAe]; exact Or.inr h
  have hS : va_S A s.heap s.heap [] := va_S.rf
  have hl := lv_entry ([.ref q_this, .int p1]) (n := 2) (Nat.le_of_ble_eq_true rfl)
  rw [lg_entry_eq]
  generalize (lg_sl ([.ref q_this, .int p1]) ++ List.replicate (2 - (lg_sl ([.ref q_this, .int p1])).length) Slot.unset).toArray = ls at hl ⊢
  have hl : lv_has ls 2 [(0, .ref q_this), (1, .int p1)] := hl
  generalize ([.ref q_this, .int p1] : List Value).toArray = args at hts ⊢
  generalize hQe : MQ below (kQi D ca (A) [(q_this, .inr (0, [.ref q_words, .ref q_heard, .ref q_canSay, .ref q_instead, .ref q_traders, .ref q_takes, .ref q_needs, .int v_speaks, .int v_alikeFrom])), (q_takes, .inl (ca 0, 2, .inl v_takes))] r) args s 0 0 A = Q
  have i_X0 : ∀ w ∈ u_ws RX0 TX0 9, w ∈ wsX0_takesOfTen := by decide +kernel
  have k_27 := hts (.fieldLink RX0 27 "TradeWords$Beach" "takes" "[I") (by decide +kernel)
  rw [D_X0_takesOfTen] at h
  refine lv_aload_n hx hb dX0_takesOfTen_0 rfl (lv_at hl 0 rfl) ?_
  refine va_get (D := D) (ci := 0) (v := .ref q_takes) (C := RX0) (T := TX0) (N := 9) hx hb hts i_X0 hown hK hP 0 rfl rfl 5 (by decide) k_27 (fun _ h9 => h9) rfl dX0_takesOfTen_1 ?_
  refine lv_iload_n hx hb dX0_takesOfTen_4 rfl (lv_at hl 1 rfl) ?_
  obtain ⟨r_1, hg_2, h⟩ := bd1_el h
  refine kx_Si (As := [.ref q_takes, .int p1]) (rest := []) (wr := [(q_this, .inr (0, [.ref q_words, .ref q_heard, .ref q_canSay, .ref q_instead, .ref q_traders, .ref q_takes, .ref q_needs, .int v_speaks, .int v_alikeFrom]))]) (w1 := [(q_takes, .inl (ca 0, 2, .inl v_takes))]) (wn := [(q_this, .inr (0, [.ref q_words, .ref q_heard, .ref q_canSay, .ref q_instead, .ref q_traders, .ref q_takes, .ref q_needs, .int v_speaks, .int v_alikeFrom])), (q_takes, .inl (ca 0, 2, .inl v_takes))]) ⟨hx, hb, hml, hown, hts⟩ (c_X5_at l D ca s.heap.size q_takes 2 p1 v_takes r_1 hg_2) (va_cwS 2 hts gX0_takesOfTen_X5_at rfl rfl rfl (by decide +kernel) ⟨(Nat.le_of_ble_eq_true rfl), (Nat.le_of_ble_eq_true rfl)⟩) hK hP hD hS hA [1] [0] [0, 1] rfl rfl rfl rfl (by decide) rfl rfl rfl hl.1 rfl (Nat.le_of_ble_eq_true rfl) dX0_takesOfTen_5 ⟨Nat.zero_le _, Nat.zero_le _⟩ (fun H locs hP hD hS => ?_)
  cases h
  rw [← hQe]
  exact W.iret hx hb hr (fun t ht hW => ⟨⟨_, (), rfl, rfl, by rw [ht]; exact hP, va_K.moved hW.alike hK, hD⟩, hS.F ht⟩) hS.2.2 dX0_takesOfTen_8
def D_X0_speaksOfTen (v_speaks : Int32) : Option (Int32) := some (v_speaks)
abbrev rm_X0_speaksOfTen : Room := { frames := 0, cells := 0, slots := 0, locals := 0 }
set_option maxHeartbeats 4000000 in
set_option maxRecDepth 100000 in
theorem c_X0_speaksOfTen (l : Launch) (D : va_G) (ca : Nat → ClassId) (sz : Nat) (q_this q_words q_heard q_canSay q_instead q_traders q_takes q_needs : Nat) (v_speaks : Int32) (v_alikeFrom : Int32) (r : Int32) (h : D_X0_speaksOfTen v_speaks = some (r)) : Met l yX0_speaksOfTen wsX0_speaksOfTen rm_X0_speaksOfTen (va_Pc [.ref q_this] (kPre D ca [(q_this, .inr (0, [.ref q_words, .ref q_heard, .ref q_canSay, .ref q_instead, .ref q_traders, .ref q_takes, .ref q_needs, .int v_speaks, .int v_alikeFrom]))] sz)) (kQi D ca (va_A [(q_this, .inr (0, [.ref q_words, .ref q_heard, .ref q_canSay, .ref q_instead, .ref q_traders, .ref q_takes, .ref q_needs, .int v_speaks, .int v_alikeFrom]))] sz) [(q_this, .inr (0, [.ref q_words, .ref q_heard, .ref q_canSay, .ref q_instead, .ref q_traders, .ref q_takes, .ref q_needs, .int v_speaks, .int v_alikeFrom]))] r) 0 0 (va_A [(q_this, .inr (0, [.ref q_words, .ref q_heard, .ref q_canSay, .ref q_instead, .ref q_traders, .ref q_takes, .ref q_needs, .int v_speaks, .int v_alikeFrom]))] sz) := by
  refine Met.ofW (cc := cX0_speaksOfTen) (maxL := 1) (ret := (some .int)) (by decide +kernel) rfl ?_
  intro p e s m args below meth c s₁ B hml hv
  obtain ⟨rfl, hsz, hP, hK, hD0⟩ := hv
  have hx := B.exec
  have hb := B.bytes
  have hr := B.returns
  have hts := atoms_spec (ws := wsX0_speaksOfTen) B.pre
  have hown : s.vm.findClass RX0 = some m.cls := findClass_of_methodNamed B.named
  have hlocks := B.notSynchronized
  clear B
  subst hsz
  have hD := hD0.self (sz := s.heap.size)
  generalize hAe : va_A [(q_this, .inr (0, [.ref q_words, .ref q_heard, .ref q_canSay, .ref q_instead, .ref q_traders, .ref q_takes, .ref q_needs, .int v_speaks, .int v_alikeFrom]))] s.heap.size = A at hD ⊢
  have hA : ∀ q : Nat, s.heap.size ≤ q → A q := fun q h => by rw [← hAe]; exact Or.inr h
  have hS : va_S A s.heap s.heap [] := va_S.rf
  have hl := lv_entry ([.ref q_this]) (n := 1) (Nat.le_of_ble_eq_true rfl)
  rw [lg_entry_eq]
  generalize (lg_sl ([.ref q_this]) ++ List.replicate (1 - (lg_sl ([.ref q_this])).length) Slot.unset).toArray = ls at hl ⊢
  have hl : lv_has ls 1 [(0, .ref q_this)] := hl
  generalize ([.ref q_this] : List Value).toArray = args at hts ⊢
  generalize hQe : MQ below (kQi D ca (A) [(q_this, .inr (0, [.ref q_words, .ref q_heard, .ref q_canSay, .ref q_instead, .ref q_traders, .ref q_takes, .ref q_needs, .int v_speaks, .int v_alikeFrom]))] r) args s 0 0 A = Q
  have i_X0 : ∀ w ∈ u_ws RX0 TX0 9, w ∈ wsX0_speaksOfTen := by decide +kernel
  have k_50 := hts (.fieldLink RX0 50 "TradeWords$Beach" "speaks" "I") (by decide +kernel)
  rw [D_X0_speaksOfTen] at h
  refine lv_aload_n hx hb dX0_speaksOfTen_0 rfl (lv_at hl 0 rfl) ?_
  refine va_get (D := D) (ci := 0) (v := .int v_speaks) (C := RX0) (T := TX0) (N := 9) hx hb hts i_X0 hown hK hP 0 rfl rfl 7 (by decide) k_50 (fun _ h9 => h9) rfl dX0_speaksOfTen_1 ?_
  cases h
  rw [← hQe]
  exact W.iret hx hb hr (fun t ht hW => ⟨⟨_, (), rfl, rfl, by rw [ht]; exact hP, va_K.moved hW.alike hK, hD⟩, hS.F ht⟩) hS.2.2 dX0_speaksOfTen_4
def D_X0_alikeFrom (v_alikeFrom : Int32) : Option (Int32) := some (v_alikeFrom)
abbrev rm_X0_alikeFrom : Room := { frames := 0, cells := 0, slots := 0, locals := 0 }
set_option maxHeartbeats 4000000 in
set_option maxRecDepth 100000 in
theorem c_X0_alikeFrom (l : Launch) (D : va_G) (ca : Nat → ClassId) (sz : Nat) (q_this q_words q_heard q_canSay q_instead q_traders q_takes q_needs : Nat) (v_speaks : Int32) (v_alikeFrom : Int32) (r : Int32) (h : D_X0_alikeFrom v_alikeFrom = some (r)) : Met l yX0_alikeFrom wsX0_alikeFrom rm_X0_alikeFrom (va_Pc [.ref q_this] (kPre D ca [(q_this, .inr (0, [.ref q_words, .ref q_heard, .ref q_canSay, .ref q_instead, .ref q_traders, .ref q_takes, .ref q_needs, .int v_speaks, .int v_alikeFrom]))] sz)) (kQi D ca (va_A [(q_this, .inr (0, [.ref q_words, .ref q_heard, .ref q_canSay, .ref q_instead, .ref q_traders, .ref q_takes, .ref q_needs, .int v_speaks, .int v_alikeFrom]))] sz) [(q_this, .inr (0, [.ref q_words, .ref q_heard, .ref q_canSay, .ref q_instead, .ref q_traders, .ref q_takes, .ref q_needs, .int v_speaks, .int v_alikeFrom]))] r) 0 0 (va_A [(q_this, .inr (0, [.ref q_words, .ref q_heard, .ref q_canSay, .ref q_instead, .ref q_traders, .ref q_takes, .ref q_needs, .int v_speaks, .int v_alikeFrom]))] sz) := by
  refine Met.ofW (cc := cX0_alikeFrom) (maxL := 1) (ret := (some .int)) (by decide +kernel) rfl ?_
  intro p e s m args below meth c s₁ B hml hv
  obtain ⟨rfl, hsz, hP, hK, hD0⟩ := hv
  have hx := B.exec
  have hb := B.bytes
  have hr := B.returns
  have hts := atoms_spec (ws := wsX0_alikeFrom) B.pre
  have hown : s.vm.findClass RX0 = some m.cls := findClass_of_methodNamed B.named
  have hlocks := B.notSynchronized
  clear B
  subst hsz
  have hD := hD0.self (sz := s.heap.size)
  generalize hAe : va_A [(q_this, .inr (0, [.ref q_words, .ref q_heard, .ref q_canSay, .ref q_instead, .ref q_traders, .ref q_takes, .ref q_needs, .int v_speaks, .int v_alikeFrom]))] s.heap.size = A at hD ⊢
  have hA : ∀ q : Nat, s.heap.size ≤ q → A q := fun q h => by rw [← hAe]; exact Or.inr h
  have hS : va_S A s.heap s.heap [] := va_S.rf
  have hl := lv_entry ([.ref q_this]) (n := 1) (Nat.le_of_ble_eq_true rfl)
  rw [lg_entry_eq]
  generalize (lg_sl ([.ref q_this]) ++ List.replicate (1 - (lg_sl ([.ref q_this])).length) Slot.unset).toArray = ls at hl ⊢
  have hl : lv_has ls 1 [(0, .ref q_this)] := hl
  generalize ([.ref q_this] : List Value).toArray = args at hts ⊢
  generalize hQe : MQ below (kQi D ca (A) [(q_this, .inr (0, [.ref q_words, .ref q_heard, .ref q_canSay, .ref q_instead, .ref q_traders, .ref q_takes, .ref q_needs, .int v_speaks, .int v_alikeFrom]))] r) args s 0 0 A = Q
  have i_X0 : ∀ w ∈ u_ws RX0 TX0 9, w ∈ wsX0_alikeFrom := by decide +kernel
  have k_54 := hts (.fieldLink RX0 54 "TradeWords$Beach" "alikeFrom" "I") (by decide +kernel)
  rw [D_X0_alikeFrom] at h
  refine lv_aload_n hx hb dX0_alikeFrom_0 rfl (lv_at hl 0 rfl) ?_
  refine va_get (D := D) (ci := 0) (v := .int v_alikeFrom) (C := RX0) (T := TX0) (N := 9) hx hb hts i_X0 hown hK hP 0 rfl rfl 8 (by decide) k_54 (fun _ h9 => h9) rfl dX0_alikeFrom_1 ?_
  cases h
  rw [← hQe]
  exact W.iret hx hb hr (fun t ht hW => ⟨⟨_, (), rfl, rfl, by rw [ht]; exact hP, va_K.moved hW.alike hK, hD⟩, hS.F ht⟩) hS.2.2 dX0_alikeFrom_4
def D_X0_needs  : Option (Unit) := some ()
abbrev rm_X0_needs : Room := { frames := 0, cells := 0, slots := 0, locals := 0 }
set_option maxHeartbeats 4000000 in
set_option maxRecDepth 100000 in
theorem c_X0_needs (l : Launch) (D : va_G) (ca : Nat → ClassId) (sz : Nat) (q_this q_words q_heard q_canSay q_instead q_traders q_takes q_needs : Nat) (v_speaks : Int32) (v_alikeFrom : Int32) (h : D_X0_needs  = some ()) : Met l yX0_needs wsX0_needs rm_X0_needs (va_Pc [.ref q_this] (kPre D ca [(q_this, .inr (0, [.ref q_words, .ref q_heard, .ref q_canSay, .ref q_instead, .ref q_traders, .ref q_takes, .ref q_needs, .int v_speaks, .int v_alikeFrom]))] sz)) (kQr D ca (va_A [(q_this, .inr (0, [.ref q_words, .ref q_heard, .ref q_canSay, .ref q_instead, .ref q_traders, .ref q_takes, .ref q_needs, .int v_speaks, .int v_alikeFrom]))] sz) [(q_this, .inr (0, [.ref q_words, .ref q_heard, .ref q_canSay, .ref q_instead, .ref q_traders, .ref q_takes, .ref q_needs, .int v_speaks, .int v_alikeFrom]))] q_needs) 0 0 (va_A [(q_this, .inr (0, [.ref q_words, .ref q_heard, .ref q_canSay, .ref q_instead, .ref q_traders, .ref q_takes, .ref q_needs, .int v_speaks, .int v_alikeFrom]))] sz) := by
  refine Met.ofW (cc := cX0_needs) (maxL := 1) (ret := (some (.object "TradeWords$Needs"))) (by decide +kernel) rfl ?_
  intro p e s m args below meth c s₁ B hml hv
  obtain ⟨rfl, hsz, hP, hK, hD0⟩ := hv
  have hx := B.exec
  have hb := B.bytes
  have hr := B.returns
  have hts := atoms_spec (ws := wsX0_needs) B.pre
  have hown : s.vm.findClass RX0 = some m.cls := findClass_of_methodNamed B.named
  have hlocks := B.notSynchronized
  clear B
  subst hsz
  have hD := hD0.self (sz := s.heap.size)
  generalize hAe : va_A [(q_this, .inr (0, [.ref q_words, .ref q_heard, .ref q_canSay, .ref q_instead, .ref q_traders, .ref q_takes, .ref q_needs, .int v_speaks, .int v_alikeFrom]))] s.heap.size = A at hD ⊢
  have hA : ∀ q : Nat, s.heap.size ≤ q → A q := fun q h => by rw [← hAe]; exact Or.inr h
  have hS : va_S A s.heap s.heap [] := va_S.rf
  have hl := lv_entry ([.ref q_this]) (n := 1) (Nat.le_of_ble_eq_true rfl)
  rw [lg_entry_eq]
  generalize (lg_sl ([.ref q_this]) ++ List.replicate (1 - (lg_sl ([.ref q_this])).length) Slot.unset).toArray = ls at hl ⊢
  have hl : lv_has ls 1 [(0, .ref q_this)] := hl
  generalize ([.ref q_this] : List Value).toArray = args at hts ⊢
  generalize hQe : MQ below (kQr D ca (A) [(q_this, .inr (0, [.ref q_words, .ref q_heard, .ref q_canSay, .ref q_instead, .ref q_traders, .ref q_takes, .ref q_needs, .int v_speaks, .int v_alikeFrom]))] q_needs) args s 0 0 A = Q
  have i_X0 : ∀ w ∈ u_ws RX0 TX0 9, w ∈ wsX0_needs := by decide +kernel
  have k_33 := hts (.fieldLink RX0 33 "TradeWords$Beach" "needs" "LTradeWords$Needs;") (by decide +kernel)
  rw [D_X0_needs] at h
  refine lv_aload_n hx hb dX0_needs_0 rfl (lv_at hl 0 rfl) ?_
  refine va_get (D := D) (ci := 0) (v := .ref q_needs) (C := RX0) (T := TX0) (N := 9) hx hb hts i_X0 hown hK hP 0 rfl rfl 6 (by decide) k_33 (fun _ h9 => h9) rfl dX0_needs_1 ?_
  cases h
  rw [← hQe]
  exact W.aret hx hb hr (Or.inl ⟨_, rfl⟩) (Or.inr ⟨_, rfl⟩) (fun t ht hW => ⟨⟨(), _, rfl, trivial, rfl, by rw [ht]; exact hP, va_K.moved hW.alike hK, hD⟩, hS.F ht⟩) hS.2.2 dX0_needs_4
def D_X0_soundSaidBy (p1 : Int32) (p2 : Int32) (v_canSay : Nat → Int32) (v_instead : Nat → Int32) : Option (Int32) := bd1 (D_X5_at 2 p1 v_canSay) (fun r_1 => (if ((r_1 >>> (p2 &&& 31)) &&& (nI 1)) = 0 then bd1 (D_X5_at 16 p2 v_instead) (fun r_4 => (if r_4 = (-4 : Int32) then some ((-4 : Int32)) else (if ((r_1 >>> (r_4 &&& 31)) &&& (nI 1)) = 0 then some ((-4 : Int32)) else some (r_4)))) else some (p2)))
abbrev rm_X0_soundSaidBy : Room := { frames := 1, cells := 0, slots := 0, locals := 21 }
set_option maxHeartbeats 4000000 in
set_option maxRecDepth 100000 in
theorem c_X0_soundSaidBy (l : Launch) (D : va_G) (ca : Nat → ClassId) (sz : Nat) (q_this q_words q_heard q_canSay q_instead q_traders q_takes q_needs : Nat) (p1 : Int32) (p2 : Int32) (v_speaks : Int32) (v_alikeFrom : Int32) (v_canSay : Nat → Int32) (v_instead : Nat → Int32) (r : Int32) (h : D_X0_soundSaidBy p1 p2 v_canSay v_instead = some (r)) : Met l yX0_soundSaidBy wsX0_soundSaidBy rm_X0_soundSaidBy (va_Pc [.ref q_this, .int p1, .int p2] (kPre D ca [(q_this, .inr (0, [.ref q_words, .ref q_heard, .ref q_canSay, .ref q_instead, .ref q_traders, .ref q_takes, .ref q_needs, .int v_speaks, .int v_alikeFrom])), (q_canSay, .inl (ca 0, 2, .inl v_canSay)), (q_instead, .inl (ca 0, 16, .inl v_instead))] sz)) (kQi D ca (va_A [(q_this, .inr (0, [.ref q_words, .ref q_heard, .ref q_canSay, .ref q_instead, .ref q_traders, .ref q_takes, .ref q_needs, .int v_speaks, .int v_alikeFrom])), (q_canSay, .inl (ca 0, 2, .inl v_canSay)), (q_instead, .inl (ca 0, 16, .inl v_instead))] sz) [(q_this, .inr (0, [.ref q_words, .ref q_heard, .ref q_canSay, .ref q_instead, .ref q_traders, .ref q_takes, .ref q_needs, .int v_speaks, .int v_alikeFrom])), (q_canSay, .inl (ca 0, 2, .inl v_canSay)), (q_instead, .inl (ca 0, 16, .inl v_instead))] r) 0 0 (va_A [(q_this, .inr (0, [.ref q_words, .ref q_heard, .ref q_canSay, .ref q_instead, .ref q_traders, .ref q_takes, .ref q_needs, .int v_speaks, .int v_alikeFrom])), (q_canSay, .inl (ca 0, 2, .inl v_canSay)), (q_instead, .inl (ca 0, 16, .inl v_instead))] sz) := by
  refine Met.ofW (cc := cX0_soundSaidBy) (maxL := 5) (ret := (some .int)) (by decide +kernel) rfl ?_
  intro p e s m args below meth c s₁ B hml hv
  obtain ⟨rfl, hsz, hP, hK, hD0⟩ := hv
  have hx := B.exec
  have hb := B.bytes
  have hr := B.returns
  have hts := atoms_spec (ws := wsX0_soundSaidBy) B.pre
  have hown : s.vm.findClass RX0 = some m.cls := findClass_of_methodNamed B.named
  have hlocks := B.notSynchronized
  clear B
  subst hsz
  have hD := hD0.self (sz := s.heap.size)
  generalize hAe : va_A [(q_this, .inr (0, [.ref q_words, .ref q_heard, .ref q_canSay, .ref q_instead, .ref q_traders, .ref q_takes, .ref q_needs, .int v_speaks, .int v_alikeFrom])), (q_canSay, .inl (ca 0, 2, .inl v_canSay)), (q_instead, .inl (ca 0, 16, .inl v_instead))] s.heap.size = A at hD ⊢
  have hA : ∀ q : Nat, s.heap.size ≤ q → A q := fun q h => by rw [← hAe]; exact Or.inr h
  have hS : va_S A s.heap s.heap [] := va_S.rf
  have hl := lv_entry ([.ref q_this, .int p1, .int p2]) (n := 5) (Nat.le_of_ble_eq_true rfl)
  rw [lg_entry_eq]
  generalize (lg_sl ([.ref q_this, .int p1, .int p2]) ++ List.replicate (5 - (lg_sl ([.ref q_this, .int p1, .int p2])).length) Slot.unset).toArray = ls at hl ⊢
  have hl : lv_has ls 5 [(0, .ref q_this), (1, .int p1), (2, .int p2)] := hl
  generalize ([.ref q_this, .int p1, .int p2] : List Value).toArray = args at hts ⊢
  generalize hQe : MQ below (kQi D ca (A) [(q_this, .inr (0, [.ref q_words, .ref q_heard, .ref q_canSay, .ref q_instead, .ref q_traders, .ref q_takes, .ref q_needs, .int v_speaks, .int v_alikeFrom])), (q_canSay, .inl (ca 0, 2, .inl v_canSay)), (q_instead, .inl (ca 0, 16, .inl v_instead))] r) args s 0 0 A = Q
  have i_X0 : ∀ w ∈ u_ws RX0 TX0 9, w ∈ wsX0_soundSaidBy := by decide +kernel
  have k_18 := hts (.fieldLink RX0 18 "TradeWords$Beach" "canSay" "[I") (by decide +kernel)
  have k_21 := hts (.fieldLink RX0 21 "TradeWords$Beach" "instead" "[I") (by decide +kernel)
  rw [D_X0_soundSaidBy] at h
  refine lv_aload_n hx hb dX0_soundSaidBy_0 rfl (lv_at hl 0 rfl) ?_
  refine va_get (D := D) (ci := 0) (v := .ref q_canSay) (C := RX0) (T := TX0) (N := 9) hx hb hts i_X0 hown hK hP 0 rfl rfl 2 (by decide) k_18 (fun _ h9 => h9) rfl dX0_soundSaidBy_1 ?_
  refine lv_iload_n hx hb dX0_soundSaidBy_4 rfl (lv_at hl 1 rfl) ?_
  obtain ⟨r_1, hg_2, h⟩ := bd1_el h
  refine kx_Si (As := [.ref q_canSay, .int p1]) (rest := []) (wr := [(q_this, .inr (0, [.ref q_words, .ref q_heard, .ref q_canSay, .ref q_instead, .ref q_traders, .ref q_takes, .ref q_needs, .int v_speaks, .int v_alikeFrom])), (q_instead, .inl (ca 0, 16, .inl v_instead))]) (w1 := [(q_canSay, .inl (ca 0, 2, .inl v_canSay))]) (wn := [(q_this, .inr (0, [.ref q_words, .ref q_heard, .ref q_canSay, .ref q_instead, .ref q_traders, .ref q_takes, .ref q_needs, .int v_speaks, .int v_alikeFrom])), (q_canSay, .inl (ca 0, 2, .inl v_canSay)), (q_instead, .inl (ca 0, 16, .inl v_instead))]) ⟨hx, hb, hml, hown, hts⟩ (c_X5_at l D ca s.heap.size q_canSay 2 p1 v_canSay r_1 hg_2) (va_cwS 2 hts gX0_soundSaidBy_X5_at rfl rfl rfl (by decide +kernel) ⟨(Nat.le_of_ble_eq_true rfl), (Nat.le_of_ble_eq_true rfl)⟩) hK hP hD hS hA [1] [0, 2] [0, 2, 1] rfl rfl rfl rfl (by decide) rfl rfl rfl hl.1 rfl (Nat.le_of_ble_eq_true rfl) dX0_soundSaidBy_5 ⟨Nat.zero_le _, Nat.zero_le _⟩ (fun H locs hP hD hS => ?_)
  refine lv_istore_n (lv' := [(3, .int r_1), (0, .ref q_this), (1, .int p1), (2, .int p2)]) hx hb dX0_soundSaidBy_8 rfl hl (by decide) rfl (fun ls hl => ?_)
  refine lv_iload_n hx hb dX0_soundSaidBy_9 rfl (lv_at hl 0 rfl) ?_
  refine lv_iload_n hx hb dX0_soundSaidBy_10 rfl (lv_at hl 3 rfl) ?_
  refine lv_ishr hx hb dX0_soundSaidBy_11 ?_
  refine lv_iconst (v := (nI 1)) hx hb dX0_soundSaidBy_12 (by decide) ?_
  refine lv_iand hx hb dX0_soundSaidBy_13 ?_
  refine lv_if_eq (tgt := 19) hx hb dX0_soundSaidBy_14 (by decide) (fun c_3 => ?_) (fun c_3 => ?_)
  · replace h := ifp_el c_3 h
    refine lv_aload_n hx hb dX0_soundSaidBy_19 rfl (lv_at hl 1 rfl) ?_
    refine va_get (D := D) (ci := 0) (v := .ref q_instead) (C := RX0) (T := TX0) (N := 9) hx hb hts i_X0 hown hK hP 0 rfl rfl 3 (by decide) k_21 (fun _ h9 => h9) rfl dX0_soundSaidBy_20 ?_
    refine lv_iload_n hx hb dX0_soundSaidBy_23 rfl (lv_at hl 3 rfl) ?_
    obtain ⟨r_4, hg_5, h⟩ := bd1_el h
    refine kx_Si (As := [.ref q_instead, .int p2]) (rest := []) (wr := [(q_this, .inr (0, [.ref q_words, .ref q_heard, .ref q_canSay, .ref q_instead, .ref q_traders, .ref q_takes, .ref q_needs, .int v_speaks, .int v_alikeFrom])), (q_canSay, .inl (ca 0, 2, .inl v_canSay))]) (w1 := [(q_instead, .inl (ca 0, 16, .inl v_instead))]) (wn := [(q_this, .inr (0, [.ref q_words, .ref q_heard, .ref q_canSay, .ref q_instead, .ref q_traders, .ref q_takes, .ref q_needs, .int v_speaks, .int v_alikeFrom])), (q_canSay, .inl (ca 0, 2, .inl v_canSay)), (q_instead, .inl (ca 0, 16, .inl v_instead))]) ⟨hx, hb, hml, hown, hts⟩ (c_X5_at l D ca H.size q_instead 16 p2 v_instead r_4 hg_5) (va_cwS 2 hts gX0_soundSaidBy_X5_at rfl rfl rfl (by decide +kernel) ⟨(Nat.le_of_ble_eq_true rfl), (Nat.le_of_ble_eq_true rfl)⟩) hK hP hD hS hA [2] [0, 1] [0, 1, 2] rfl rfl rfl rfl (by decide) rfl rfl rfl hl.1 rfl (Nat.le_of_ble_eq_true rfl) dX0_soundSaidBy_24 ⟨Nat.zero_le _, Nat.zero_le _⟩ (fun H locs hP hD hS => ?_)
    refine lv_istore (lv' := [(4, .int r_4), (3, .int r_1), (0, .ref q_this), (1, .int p1), (2, .int p2)]) hx hb dX0_soundSaidBy_27 hl (by decide) rfl (fun ls hl => ?_)
    refine lv_iload hx hb dX0_soundSaidBy_29 (lv_at hl 0 rfl) ?_
    refine lv_bipush (v := (-4 : Int32)) hx hb dX0_soundSaidBy_31 (by decide) ?_
    refine lv_icmp_eq (tgt := 50) hx hb dX0_soundSaidBy_33 (by decide) (fun c_6 => ?_) (fun c_6 => ?_)
    · replace h := ifp_el c_6 h
      refine lv_bipush (v := (-4 : Int32)) hx hb dX0_soundSaidBy_50 (by decide) ?_
      cases h
      rw [← hQe]
      exact W.iret hx hb hr (fun t ht hW => ⟨⟨_, (), rfl, rfl, by rw [ht]; exact hP, va_K.moved hW.alike hK, hD⟩, hS.F ht⟩) hS.2.2 dX0_soundSaidBy_52
    · replace h := ifn_el c_6 h
      refine lv_iload_n hx hb dX0_soundSaidBy_36 rfl (lv_at hl 1 rfl) ?_
      refine lv_iload hx hb dX0_soundSaidBy_37 (lv_at hl 0 rfl) ?_
      refine lv_ishr hx hb dX0_soundSaidBy_39 ?_
      refine lv_iconst (v := (nI 1)) hx hb dX0_soundSaidBy_40 (by decide) ?_
      refine lv_iand hx hb dX0_soundSaidBy_41 ?_
      refine lv_if_eq (tgt := 50) hx hb dX0_soundSaidBy_42 (by decide) (fun c_7 => ?_) (fun c_7 => ?_)
      · replace h := ifp_el c_7 h
        refine lv_bipush (v := (-4 : Int32)) hx hb dX0_soundSaidBy_50 (by decide) ?_
        cases h
        rw [← hQe]
        exact W.iret hx hb hr (fun t ht hW => ⟨⟨_, (), rfl, rfl, by rw [ht]; exact hP, va_K.moved hW.alike hK, hD⟩, hS.F ht⟩) hS.2.2 dX0_soundSaidBy_52
      · replace h := ifn_el c_7 h
        refine lv_iload hx hb dX0_soundSaidBy_45 (lv_at hl 0 rfl) ?_
        refine lv_goto (tgt := 52) hx hb dX0_soundSaidBy_47 (by decide) ?_
        cases h
        rw [← hQe]
        exact W.iret hx hb hr (fun t ht hW => ⟨⟨_, (), rfl, rfl, by rw [ht]; exact hP, va_K.moved hW.alike hK, hD⟩, hS.F ht⟩) hS.2.2 dX0_soundSaidBy_52
  · replace h := ifn_el c_3 h
    refine lv_iload_n hx hb dX0_soundSaidBy_17 rfl (lv_at hl 3 rfl) ?_
    cases h
    rw [← hQe]
    exact W.iret hx hb hr (fun t ht hW => ⟨⟨_, (), rfl, rfl, by rw [ht]; exact hP, va_K.moved hW.alike hK, hD⟩, hS.F ht⟩) hS.2.2 dX0_soundSaidBy_18
def D_X8_length (p1 : Int32) : Option (Int32) := some ((p1 &&& (nI 7)))
abbrev rm_X8_length : Room := { frames := 0, cells := 0, slots := 0, locals := 0 }
set_option maxHeartbeats 4000000 in
set_option maxRecDepth 100000 in
theorem c_X8_length (l : Launch) (D : va_G) (ca : Nat → ClassId) (sz : Nat) (p1 : Int32) (r : Int32) (h : D_X8_length p1 = some (r)) : Met l yX8_length wsX8_length rm_X8_length (va_Pc [.int p1] (kPre D ca [] sz)) (kQi D ca (va_A [] sz) [] r) 0 0 (va_A [] sz) := by
  refine Met.ofW (cc := cX8_length) (maxL := 1) (ret := (some .int)) (by decide +kernel) rfl ?_
  intro p e s m args below meth c s₁ B hml hv
  obtain ⟨rfl, hsz, hP, hK, hD0⟩ := hv
  have hx := B.exec
  have hb := B.bytes
  have hr := B.returns
  have hts := atoms_spec (ws := wsX8_length) B.pre
  have hown : s.vm.findClass RX8 = some m.cls := findClass_of_methodNamed B.named
  have hlocks := B.notSynchronized
  clear B
  subst hsz
  have hD := hD0.self (sz := s.heap.size)
  generalize hAe : va_A [] s.heap.size = A at hD ⊢
  have hA : ∀ q : Nat, s.heap.size ≤ q → A q := fun q h => by rw [← hAe]; exact Or.inr h
  have hS : va_S A s.heap s.heap [] := va_S.rf
  have hl := lv_entry ([.int p1]) (n := 1) (Nat.le_of_ble_eq_true rfl)
  rw [lg_entry_eq]
  generalize (lg_sl ([.int p1]) ++ List.replicate (1 - (lg_sl ([.int p1])).length) Slot.unset).toArray = ls at hl ⊢
  have hl : lv_has ls 1 [(0, .int p1)] := hl
  generalize ([.int p1] : List Value).toArray = args at hts ⊢
  generalize hQe : MQ below (kQi D ca (A) [] r) args s 0 0 A = Q
  rw [D_X8_length] at h
  refine lv_iload_n hx hb dX8_length_0 rfl (lv_at hl 0 rfl) ?_
  refine lv_bipush (v := (nI 7)) hx hb dX8_length_1 (by decide) ?_
  refine lv_iand hx hb dX8_length_3 ?_
  cases h
  rw [← hQe]
  exact W.iret hx hb hr (fun t ht hW => ⟨⟨_, (), rfl, rfl, by rw [ht]; exact hP, va_K.moved hW.alike hK, hD⟩, hS.F ht⟩) hS.2.2 dX8_length_4
def D_X8_with (p1 : Int32) (p2 : Int32) : Option (Int32) := bd1 (D_X8_length p1) (fun r_1 => (if (nI 6) ≤ r_1 then some (p1) else some (((p1 + (nI 1)) ||| (p2 <<< (((nI 3) + ((nI 4) * r_1)) &&& 31))))))
abbrev rm_X8_with : Room := { frames := 1, cells := 0, slots := 0, locals := 20 }
set_option maxHeartbeats 4000000 in
set_option maxRecDepth 100000 in
theorem c_X8_with (l : Launch) (D : va_G) (ca : Nat → ClassId) (sz : Nat) (p1 : Int32) (p2 : Int32) (r : Int32) (h : D_X8_with p1 p2 = some (r)) : Met l yX8_with wsX8_with rm_X8_with (va_Pc [.int p1, .int p2] (kPre D ca [] sz)) (kQi D ca (va_A [] sz) [] r) 0 0 (va_A [] sz) := by
  refine Met.ofW (cc := cX8_with) (maxL := 3) (ret := (some .int)) (by decide +kernel) rfl ?_
  intro p e s m args below meth c s₁ B hml hv
  obtain ⟨rfl, hsz, hP, hK, hD0⟩ := hv
  have hx := B.exec
  have hb := B.bytes
  have hr := B.returns
  have hts := atoms_spec (ws := wsX8_with) B.pre
  have hown : s.vm.findClass RX8 = some m.cls := findClass_of_methodNamed B.named
  have hlocks := B.notSynchronized
  clear B
  subst hsz
  have hD := hD0.self (sz := s.heap.size)
  generalize hAe : va_A [] s.heap.size = A at hD ⊢
  have hA : ∀ q : Nat, s.heap.size ≤ q → A q := fun q h => by rw [← hAe]; exact Or.inr h
  have hS : va_S A s.heap s.heap [] := va_S.rf
  have hl := lv_entry ([.int p1, .int p2]) (n := 3) (Nat.le_of_ble_eq_true rfl)
  rw [lg_entry_eq]
  generalize (lg_sl ([.int p1, .int p2]) ++ List.replicate (3 - (lg_sl ([.int p1, .int p2])).length) Slot.unset).toArray = ls at hl ⊢
  have hl : lv_has ls 3 [(0, .int p1), (1, .int p2)] := hl
  generalize ([.int p1, .int p2] : List Value).toArray = args at hts ⊢
  generalize hQe : MQ below (kQi D ca (A) [] r) args s 0 0 A = Q
  rw [D_X8_with] at h
  refine lv_iload_n hx hb dX8_with_0 rfl (lv_at hl 0 rfl) ?_
  obtain ⟨r_1, hg_2, h⟩ := bd1_el h
  refine kx_Si (As := [.int p1]) (rest := []) (wr := []) (w1 := []) (wn := []) ⟨hx, hb, hml, hown, hts⟩ (c_X8_length l D ca s.heap.size p1 r_1 hg_2) (va_cwS 1 hts gX8_with_X8_length rfl rfl rfl (by decide +kernel) ⟨(Nat.le_of_ble_eq_true rfl), (Nat.le_of_ble_eq_true rfl)⟩) hK hP hD hS hA [] [] [] rfl rfl rfl rfl (by decide) rfl rfl rfl hl.1 rfl (Nat.le_of_ble_eq_true rfl) dX8_with_1 ⟨Nat.zero_le _, Nat.zero_le _⟩ (fun H locs hP hD hS => ?_)
  refine lv_istore_n (lv' := [(2, .int r_1), (0, .int p1), (1, .int p2)]) hx hb dX8_with_4 rfl hl (by decide) rfl (fun ls hl => ?_)
  refine lv_iload_n hx hb dX8_with_5 rfl (lv_at hl 0 rfl) ?_
  refine lv_bipush (v := (nI 6)) hx hb dX8_with_6 (by decide) ?_
  refine lv_icmp_ge (tgt := 25) hx hb dX8_with_8 (by decide) (fun c_3 => ?_) (fun c_3 => ?_)
  · replace h := ifp_el c_3 h
    refine lv_iload_n hx hb dX8_with_25 rfl (lv_at hl 1 rfl) ?_
    cases h
    rw [← hQe]
    exact W.iret hx hb hr (fun t ht hW => ⟨⟨_, (), rfl, rfl, by rw [ht]; exact hP, va_K.moved hW.alike hK, hD⟩, hS.F ht⟩) hS.2.2 dX8_with_26
  · replace h := ifn_el c_3 h
    refine lv_iload_n hx hb dX8_with_11 rfl (lv_at hl 1 rfl) ?_
    refine lv_iconst (v := (nI 1)) hx hb dX8_with_12 (by decide) ?_
    refine lv_iadd hx hb dX8_with_13 ?_
    refine lv_iload_n hx hb dX8_with_14 rfl (lv_at hl 2 rfl) ?_
    refine lv_iconst (v := (nI 3)) hx hb dX8_with_15 (by decide) ?_
    refine lv_iconst (v := (nI 4)) hx hb dX8_with_16 (by decide) ?_
    refine lv_iload_n hx hb dX8_with_17 rfl (lv_at hl 0 rfl) ?_
    refine lv_imul hx hb dX8_with_18 ?_
    refine lv_iadd hx hb dX8_with_19 ?_
    refine lv_ishl hx hb dX8_with_20 ?_
    refine lv_ior hx hb dX8_with_21 ?_
    refine lv_goto (tgt := 26) hx hb dX8_with_22 (by decide) ?_
    cases h
    rw [← hQe]
    exact W.iret hx hb hr (fun t ht hW => ⟨⟨_, (), rfl, rfl, by rw [ht]; exact hP, va_K.moved hW.alike hK, hD⟩, hS.F ht⟩) hS.2.2 dX8_with_26
def b_X0_saidBy_5 (p1 : Int32) (p2 : Int32) (v_canSay : Nat → Int32) (v_instead : Nat → Int32) (rec5 : Int32 → Int32 → Option (Int32)) (x3_1 : Int32) (x4_2 : Int32) : Option (Int32) := bd1 (D_X8_length p2) (fun r_4 => (if r_4 ≤ x4_2 then some (x3_1) else bd1 (D_X8_soundAt p2 x4_2) (fun r_7 => bd1 (D_X0_soundSaidBy p1 r_7 v_canSay v_instead) (fun r_9 => (if r_9 = (-4 : Int32) then nm (x4_2 + (nI 1)) (fun x4_12 => rec5 x3_1 x4_12) else bd1 (D_X8_with x3_1 r_9) (fun r_14 => nm (x4_2 + (nI 1)) (fun x4_16 => rec5 r_14 x4_16)))))))
def D_X0_saidBy (F : Nat) (p1 : Int32) (p2 : Int32) (v_canSay : Nat → Int32) (v_instead : Nat → Int32) : Option (Int32) := bd1 (lpg (T := Int32 → Int32 → Option (Int32)) (fun _ _ => none) (b_X0_saidBy_5 p1 p2 v_canSay v_instead) F (nI 0) (nI 0)) (fun o_3 => some (o_3))
abbrev rm_X0_saidBy : Room := { frames := 2, cells := 0, slots := 0, locals := 45 }
set_option maxHeartbeats 4000000 in
set_option maxRecDepth 100000 in
theorem c_X0_saidBy (l : Launch) (D : va_G) (ca : Nat → ClassId) (F : Nat) (sz : Nat) (q_this q_words q_heard q_canSay q_instead q_traders q_takes q_needs : Nat) (p1 : Int32) (p2 : Int32) (v_speaks : Int32) (v_alikeFrom : Int32) (v_canSay : Nat → Int32) (v_instead : Nat → Int32) (r : Int32) (h : D_X0_saidBy F p1 p2 v_canSay v_instead = some (r)) : Met l yX0_saidBy wsX0_saidBy rm_X0_saidBy (va_Pc [.ref q_this, .int p1, .int p2] (kPre D ca [(q_this, .inr (0, [.ref q_words, .ref q_heard, .ref q_canSay, .ref q_instead, .ref q_traders, .ref q_takes, .ref q_needs, .int v_speaks, .int v_alikeFrom])), (q_canSay, .inl (ca 0, 2, .inl v_canSay)), (q_instead, .inl (ca 0, 16, .inl v_instead))] sz)) (kQi D ca (va_A [(q_this, .inr (0, [.ref q_words, .ref q_heard, .ref q_canSay, .ref q_instead, .ref q_traders, .ref q_takes, .ref q_needs, .int v_speaks, .int v_alikeFrom])), (q_canSay, .inl (ca 0, 2, .inl v_canSay)), (q_instead, .inl (ca 0, 16, .inl v_instead))] sz) [(q_this, .inr (0, [.ref q_words, .ref q_heard, .ref q_canSay, .ref q_instead, .ref q_traders, .ref q_takes, .ref q_needs, .int v_speaks, .int v_alikeFrom])), (q_canSay, .inl (ca 0, 2, .inl v_canSay)), (q_instead, .inl (ca 0, 16, .inl v_instead))] r) 0 0 (va_A [(q_this, .inr (0, [.ref q_words, .ref q_heard, .ref q_canSay, .ref q_instead, .ref q_traders, .ref q_takes, .ref q_needs, .int v_speaks, .int v_alikeFrom])), (q_canSay, .inl (ca 0, 2, .inl v_canSay)), (q_instead, .inl (ca 0, 16, .inl v_instead))] sz) := by
  refine Met.ofW (cc := cX0_saidBy) (maxL := 6) (ret := (some .int)) (by decide +kernel) rfl ?_
  intro p e s m args below meth c s₁ B hml hv
  obtain ⟨rfl, hsz, hP, hK, hD0⟩ := hv
  have hx := B.exec
  have hb := B.bytes
  have hr := B.returns
  have hts := atoms_spec (ws := wsX0_saidBy) B.pre
  have hown : s.vm.findClass RX0 = some m.cls := findClass_of_methodNamed B.named
  have hlocks := B.notSynchronized
  clear B
  subst hsz
  have hD := hD0.self (sz := s.heap.size)
  generalize hAe : va_A [(q_this, .inr (0, [.ref q_words, .ref q_heard, .ref q_canSay, .ref q_instead, .ref q_traders, .ref q_takes, .ref q_needs, .int v_speaks, .int v_alikeFrom])), (q_canSay, .inl (ca 0, 2, .inl v_canSay)), (q_instead, .inl (ca 0, 16, .inl v_instead))] s.heap.size = A at hD ⊢
  have hA : ∀ q : Nat, s.heap.size ≤ q → A q := fun q h => by rw [← hAe]; exact Or.inr h
  have hS : va_S A s.heap s.heap [] := va_S.rf
  have hl := lv_entry ([.ref q_this, .int p1, .int p2]) (n := 6) (Nat.le_of_ble_eq_true rfl)
  rw [lg_entry_eq]
  generalize (lg_sl ([.ref q_this, .int p1, .int p2]) ++ List.replicate (6 - (lg_sl ([.ref q_this, .int p1, .int p2])).length) Slot.unset).toArray = ls at hl ⊢
  have hl : lv_has ls 6 [(0, .ref q_this), (1, .int p1), (2, .int p2)] := hl
  generalize ([.ref q_this, .int p1, .int p2] : List Value).toArray = args at hts ⊢
  generalize hQe : MQ below (kQi D ca (A) [(q_this, .inr (0, [.ref q_words, .ref q_heard, .ref q_canSay, .ref q_instead, .ref q_traders, .ref q_takes, .ref q_needs, .int v_speaks, .int v_alikeFrom])), (q_canSay, .inl (ca 0, 2, .inl v_canSay)), (q_instead, .inl (ca 0, 16, .inl v_instead))] r) args s 0 0 A = Q
  rw [D_X0_saidBy] at h
  refine lv_iconst (v := (nI 0)) hx hb dX0_saidBy_0 (by decide) ?_
  refine lv_istore_n (lv' := [(3, .int (nI 0)), (0, .ref q_this), (1, .int p1), (2, .int p2)]) hx hb dX0_saidBy_1 rfl hl (by decide) rfl (fun ls hl => ?_)
  refine lv_iconst (v := (nI 0)) hx hb dX0_saidBy_2 (by decide) ?_
  refine lv_istore (lv' := [(4, .int (nI 0)), (3, .int (nI 0)), (0, .ref q_this), (1, .int p1), (2, .int p2)]) hx hb dX0_saidBy_3 hl (by decide) rfl (fun ls hl => ?_)
  obtain ⟨o_3, hL, h⟩ := bd1_el h
  have hex : ∀ (H : Heap) (locs : List Loc) (ls : Array Slot), va_P D vwCl [(q_this, .inr (0, [.ref q_words, .ref q_heard, .ref q_canSay, .ref q_instead, .ref q_traders, .ref q_takes, .ref q_needs, .int v_speaks, .int v_alikeFrom])), (q_canSay, .inl (ca 0, 2, .inl v_canSay)), (q_instead, .inl (ca 0, 16, .inl v_instead))] H → va_D A [(q_this, .inr (0, [.ref q_words, .ref q_heard, .ref q_canSay, .ref q_instead, .ref q_traders, .ref q_takes, .ref q_needs, .int v_speaks, .int v_alikeFrom])), (q_canSay, .inl (ca 0, 2, .inl v_canSay)), (q_instead, .inl (ca 0, 16, .inl v_instead))] → va_S A s.heap H locs → lv_has ls 6 [(3, .int o_3)] → W p l e (headSpec wsX0_saidBy rm_X0_saidBy).room s m args below meth c H locs 0 0 Q (F0 m 47 ls []) := by
    intro H locs ls hP hD hS hl
    refine lv_iload_n hx hb dX0_saidBy_47 rfl (lv_at hl 0 rfl) ?_
    cases h
    rw [← hQe]
    exact W.iret hx hb hr (fun t ht hW => ⟨⟨_, (), rfl, rfl, by rw [ht]; exact hP, va_K.moved hW.alike hK, hD⟩, hS.F ht⟩) hS.2.2 dX0_saidBy_48
  have hlp : ∀ (n : Nat) (x3_1 : Int32) (x4_2 : Int32) (o_3 : Int32) (H : Heap) (locs : List Loc) (ls : Array Slot), lpg (T := Int32 → Int32 → Option (Int32)) (fun _ _ => none) (b_X0_saidBy_5 p1 p2 v_canSay v_instead) n x3_1 x4_2 = some (o_3) → (∀ (H : Heap) (locs : List Loc) (ls : Array Slot), va_P D vwCl [(q_this, .inr (0, [.ref q_words, .ref q_heard, .ref q_canSay, .ref q_instead, .ref q_traders, .ref q_takes, .ref q_needs, .int v_speaks, .int v_alikeFrom])), (q_canSay, .inl (ca 0, 2, .inl v_canSay)), (q_instead, .inl (ca 0, 16, .inl v_instead))] H → va_D A [(q_this, .inr (0, [.ref q_words, .ref q_heard, .ref q_canSay, .ref q_instead, .ref q_traders, .ref q_takes, .ref q_needs, .int v_speaks, .int v_alikeFrom])), (q_canSay, .inl (ca 0, 2, .inl v_canSay)), (q_instead, .inl (ca 0, 16, .inl v_instead))] → va_S A s.heap H locs → lv_has ls 6 [(3, .int o_3)] → W p l e (headSpec wsX0_saidBy rm_X0_saidBy).room s m args below meth c H locs 0 0 Q (F0 m 47 ls [])) → va_P D vwCl [(q_this, .inr (0, [.ref q_words, .ref q_heard, .ref q_canSay, .ref q_instead, .ref q_traders, .ref q_takes, .ref q_needs, .int v_speaks, .int v_alikeFrom])), (q_canSay, .inl (ca 0, 2, .inl v_canSay)), (q_instead, .inl (ca 0, 16, .inl v_instead))] H → va_D A [(q_this, .inr (0, [.ref q_words, .ref q_heard, .ref q_canSay, .ref q_instead, .ref q_traders, .ref q_takes, .ref q_needs, .int v_speaks, .int v_alikeFrom])), (q_canSay, .inl (ca 0, 2, .inl v_canSay)), (q_instead, .inl (ca 0, 16, .inl v_instead))] → va_S A s.heap H locs → lv_has ls 6 [(0, .ref q_this), (1, .int p1), (2, .int p2), (3, .int x3_1), (4, .int x4_2)] → W p l e (headSpec wsX0_saidBy rm_X0_saidBy).room s m args below meth c H locs 0 0 Q (F0 m 5 ls []) := by
    intro n
    induction n with
    | zero => intro x3_1 x4_2 o_3 H locs ls h; have h : (none : Option (Int32)) = some _ := h; cases h
    | succ n ih =>
      intro x3_1 x4_2 o_3 H locs ls h hex hP hD hS hl
      rw [lpg_succ, b_X0_saidBy_5] at h
      refine lv_iload hx hb dX0_saidBy_5 (lv_at hl 4 rfl) ?_
      refine lv_iload_n hx hb dX0_saidBy_7 rfl (lv_at hl 2 rfl) ?_
      obtain ⟨r_4, hg_5, h⟩ := bd1_el h
      refine kx_Si (As := [.int p2]) (rest := [.int x4_2]) (wr := [(q_this, .inr (0, [.ref q_words, .ref q_heard, .ref q_canSay, .ref q_instead, .ref q_traders, .ref q_takes, .ref q_needs, .int v_speaks, .int v_alikeFrom])), (q_canSay, .inl (ca 0, 2, .inl v_canSay)), (q_instead, .inl (ca 0, 16, .inl v_instead))]) (w1 := []) (wn := [(q_this, .inr (0, [.ref q_words, .ref q_heard, .ref q_canSay, .ref q_instead, .ref q_traders, .ref q_takes, .ref q_needs, .int v_speaks, .int v_alikeFrom])), (q_canSay, .inl (ca 0, 2, .inl v_canSay)), (q_instead, .inl (ca 0, 16, .inl v_instead))]) ⟨hx, hb, hml, hown, hts⟩ (c_X8_length l D ca H.size p2 r_4 hg_5) (va_cwS 1 hts gX0_saidBy_X8_length rfl rfl rfl (by decide +kernel) ⟨(Nat.le_of_ble_eq_true rfl), (Nat.le_of_ble_eq_true rfl)⟩) hK hP hD hS hA [] [0, 1, 2] [0, 1, 2] rfl rfl rfl rfl (by decide) rfl rfl rfl hl.1 rfl (Nat.le_of_ble_eq_true rfl) dX0_saidBy_8 ⟨Nat.zero_le _, Nat.zero_le _⟩ (fun H locs hP hD hS => ?_)
      refine lv_icmp_ge (tgt := 47) hx hb dX0_saidBy_11 (by decide) (fun c_6 => ?_) (fun c_6 => ?_)
      · replace h := ifp_el c_6 h
        cases h
        exact hex _ _ _ hP hD hS (lv_sub hl [3] rfl)
      · replace h := ifn_el c_6 h
        refine lv_aload_n hx hb dX0_saidBy_14 rfl (lv_at hl 0 rfl) ?_
        refine lv_iload_n hx hb dX0_saidBy_15 rfl (lv_at hl 1 rfl) ?_
        refine lv_iload_n hx hb dX0_saidBy_16 rfl (lv_at hl 2 rfl) ?_
        refine lv_iload hx hb dX0_saidBy_17 (lv_at hl 4 rfl) ?_
        obtain ⟨r_7, hg_8, h⟩ := bd1_el h
        refine kx_Si (As := [.int p2, .int x4_2]) (rest := [.int p1, .ref q_this]) (wr := [(q_this, .inr (0, [.ref q_words, .ref q_heard, .ref q_canSay, .ref q_instead, .ref q_traders, .ref q_takes, .ref q_needs, .int v_speaks, .int v_alikeFrom])), (q_canSay, .inl (ca 0, 2, .inl v_canSay)), (q_instead, .inl (ca 0, 16, .inl v_instead))]) (w1 := []) (wn := [(q_this, .inr (0, [.ref q_words, .ref q_heard, .ref q_canSay, .ref q_instead, .ref q_traders, .ref q_takes, .ref q_needs, .int v_speaks, .int v_alikeFrom])), (q_canSay, .inl (ca 0, 2, .inl v_canSay)), (q_instead, .inl (ca 0, 16, .inl v_instead))]) ⟨hx, hb, hml, hown, hts⟩ (c_X8_soundAt l D ca H.size p2 x4_2 r_7 hg_8) (va_cwS 2 hts gX0_saidBy_X8_soundAt rfl rfl rfl (by decide +kernel) ⟨(Nat.le_of_ble_eq_true rfl), (Nat.le_of_ble_eq_true rfl)⟩) hK hP hD hS hA [] [0, 1, 2] [0, 1, 2] rfl rfl rfl rfl (by decide) rfl rfl rfl hl.1 rfl (Nat.le_of_ble_eq_true rfl) dX0_saidBy_19 ⟨Nat.zero_le _, Nat.zero_le _⟩ (fun H locs hP hD hS => ?_)
        obtain ⟨r_9, hg_10, h⟩ := bd1_el h
        refine kx_Vi (As := [.int p1, .int r_7]) (rest := []) (wr := []) (w1 := [(q_this, .inr (0, [.ref q_words, .ref q_heard, .ref q_canSay, .ref q_instead, .ref q_traders, .ref q_takes, .ref q_needs, .int v_speaks, .int v_alikeFrom])), (q_canSay, .inl (ca 0, 2, .inl v_canSay)), (q_instead, .inl (ca 0, 16, .inl v_instead))]) (wn := [(q_this, .inr (0, [.ref q_words, .ref q_heard, .ref q_canSay, .ref q_instead, .ref q_traders, .ref q_takes, .ref q_needs, .int v_speaks, .int v_alikeFrom])), (q_canSay, .inl (ca 0, 2, .inl v_canSay)), (q_instead, .inl (ca 0, 16, .inl v_instead))]) ⟨hx, hb, hml, hown, hts⟩ (c_X0_soundSaidBy l D ca H.size q_this q_words q_heard q_canSay q_instead q_traders q_takes q_needs p1 r_7 v_speaks v_alikeFrom v_canSay v_instead r_9 hg_10) (cwV 2 hts gX0_saidBy_X0_soundSaidBy rfl rfl rfl (by decide +kernel) ⟨(Nat.le_of_ble_eq_true rfl), (Nat.le_of_ble_eq_true rfl)⟩) hK hP hD hS hA (ci := 0) (q0 := 0) rfl rfl [0, 1, 2] [] [0, 1, 2] rfl rfl rfl rfl (by decide) rfl rfl rfl hl.1 rfl (Nat.le_of_ble_eq_true rfl) dX0_saidBy_22 ⟨Nat.zero_le _, Nat.zero_le _⟩ (fun H locs hP hD hS => ?_)
        refine lv_istore (lv' := [(5, .int r_9), (0, .ref q_this), (1, .int p1), (2, .int p2), (3, .int x3_1), (4, .int x4_2)]) hx hb dX0_saidBy_25 hl (by decide) rfl (fun ls hl => ?_)
        refine lv_iload hx hb dX0_saidBy_27 (lv_at hl 0 rfl) ?_
        refine lv_bipush (v := (-4 : Int32)) hx hb dX0_saidBy_29 (by decide) ?_
        refine lv_icmp_eq (tgt := 41) hx hb dX0_saidBy_31 (by decide) (fun c_11 => ?_) (fun c_11 => ?_)
        · replace h := ifp_el c_11 h
          obtain ⟨x4_12, e_13, h⟩ := nm_el h
          refine lv_iinc (v := x4_12) (lv' := [(4, .int x4_12), (5, .int r_9), (0, .ref q_this), (1, .int p1), (2, .int p2), (3, .int x3_1)]) hx hb dX0_saidBy_41 hl (k := 5) rfl (by rw [← e_13]; rfl) (by decide) rfl (fun ls hl => ?_)
          refine lv_goto (tgt := 5) hx hb dX0_saidBy_44 (by decide) ?_
          exact ih _ _ _ _ _ _ h hex hP hD hS (lv_sub hl [2, 3, 4, 5, 0] rfl)
        · replace h := ifn_el c_11 h
          refine lv_iload_n hx hb dX0_saidBy_34 rfl (lv_at hl 4 rfl) ?_
          refine lv_iload hx hb dX0_saidBy_35 (lv_at hl 0 rfl) ?_
          obtain ⟨r_14, hg_15, h⟩ := bd1_el h
          refine kx_Si (As := [.int x3_1, .int r_9]) (rest := []) (wr := [(q_this, .inr (0, [.ref q_words, .ref q_heard, .ref q_canSay, .ref q_instead, .ref q_traders, .ref q_takes, .ref q_needs, .int v_speaks, .int v_alikeFrom])), (q_canSay, .inl (ca 0, 2, .inl v_canSay)), (q_instead, .inl (ca 0, 16, .inl v_instead))]) (w1 := []) (wn := [(q_this, .inr (0, [.ref q_words, .ref q_heard, .ref q_canSay, .ref q_instead, .ref q_traders, .ref q_takes, .ref q_needs, .int v_speaks, .int v_alikeFrom])), (q_canSay, .inl (ca 0, 2, .inl v_canSay)), (q_instead, .inl (ca 0, 16, .inl v_instead))]) ⟨hx, hb, hml, hown, hts⟩ (c_X8_with l D ca H.size x3_1 r_9 r_14 hg_15) (va_cwS 2 hts gX0_saidBy_X8_with rfl rfl rfl (by decide +kernel) ⟨(Nat.le_of_ble_eq_true rfl), (Nat.le_of_ble_eq_true rfl)⟩) hK hP hD hS hA [] [0, 1, 2] [0, 1, 2] rfl rfl rfl rfl (by decide) rfl rfl rfl hl.1 rfl (Nat.le_of_ble_eq_true rfl) dX0_saidBy_37 ⟨Nat.zero_le _, Nat.zero_le _⟩ (fun H locs hP hD hS => ?_)
          refine lv_istore_n (lv' := [(3, .int r_14), (5, .int r_9), (0, .ref q_this), (1, .int p1), (2, .int p2), (4, .int x4_2)]) hx hb dX0_saidBy_40 rfl hl (by decide) rfl (fun ls hl => ?_)
          obtain ⟨x4_16, e_17, h⟩ := nm_el h
          refine lv_iinc (v := x4_16) (lv' := [(4, .int x4_16), (3, .int r_14), (5, .int r_9), (0, .ref q_this), (1, .int p1), (2, .int p2)]) hx hb dX0_saidBy_41 hl (k := 5) rfl (by rw [← e_17]; rfl) (by decide) rfl (fun ls hl => ?_)
          refine lv_goto (tgt := 5) hx hb dX0_saidBy_44 (by decide) ?_
          exact ih _ _ _ _ _ _ h hex hP hD hS (lv_sub hl [3, 4, 5, 1, 0] rfl)
  exact hlp F (nI 0) (nI 0) o_3 s.heap [] ls hL hex hP hD hS (lv_sub hl [2, 3, 4, 1, 0] rfl)
def D_X1_gather (p1 : Int32) (p2 : Int32) (v_a : Int32) (v_b : Int32) : Option (Int32 × Int32) := nm (if (nI 1) < (if (nI 8) < p1 then (nI 8) else p1) then (if (nI 8) < p1 then (nI 8) else p1) else (nI 1)) (fun w_1 => nm (if (nI 1) < (if (nI 8) < p2 then (nI 8) else p2) then (if (nI 8) < p2 then (nI 8) else p2) else (nI 1)) (fun w_2 => some (w_1, w_2)))
abbrev rm_X1_gather : Room := { frames := 1, cells := 0, slots := 0, locals := 21 }
set_option maxHeartbeats 4000000 in
set_option maxRecDepth 100000 in
theorem c_X1_gather (l : Launch) (D : va_G) (ca : Nat → ClassId) (sz : Nat) (q_this q_now q_next : Nat) (p1 : Int32) (p2 : Int32) (v_a : Int32) (v_b : Int32) (v_zeroHears : Int32) (v_oneHears : Int32) (v_moved : Int32) (o_a : Int32) (o_b : Int32) (h : D_X1_gather p1 p2 v_a v_b = some (o_a, o_b)) : Met l yX1_gather wsX1_gather rm_X1_gather (va_Pc [.ref q_this, .int p1, .int p2] (kPre D ca [(q_this, .inr (1, [.ref q_now, .ref q_next, .int v_a, .int v_b, .int v_zeroHears, .int v_oneHears, .int v_moved]))] sz)) (kQv D ca (va_A [(q_this, .inr (1, [.ref q_now, .ref q_next, .int v_a, .int v_b, .int v_zeroHears, .int v_oneHears, .int v_moved]))] sz) [(q_this, .inr (1, [.ref q_now, .ref q_next, .int o_a, .int o_b, .int v_zeroHears, .int v_oneHears, .int v_moved]))]) 0 0 (va_A [(q_this, .inr (1, [.ref q_now, .ref q_next, .int v_a, .int v_b, .int v_zeroHears, .int v_oneHears, .int v_moved]))] sz) := by
  refine Met.ofW (cc := cX1_gather) (maxL := 3) (ret := none) (by decide +kernel) rfl ?_
  intro p e s m args below meth c s₁ B hml hv
  obtain ⟨rfl, hsz, hP, hK, hD0⟩ := hv
  have hx := B.exec
  have hb := B.bytes
  have hr := B.returns
  have hts := atoms_spec (ws := wsX1_gather) B.pre
  have hown : s.vm.findClass RX1 = some m.cls := findClass_of_methodNamed B.named
  have hlocks := B.notSynchronized
  clear B
  subst hsz
  have hD := hD0.self (sz := s.heap.size)
  generalize hAe : va_A [(q_this, .inr (1, [.ref q_now, .ref q_next, .int v_a, .int v_b, .int v_zeroHears, .int v_oneHears, .int v_moved]))] s.heap.size = A at hD ⊢
  have hA : ∀ q : Nat, s.heap.size ≤ q → A q := fun q h => by rw [← hAe]; exact Or.inr h
  have hS : va_S A s.heap s.heap [] := va_S.rf
  have hl := lv_entry ([.ref q_this, .int p1, .int p2]) (n := 3) (Nat.le_of_ble_eq_true rfl)
  rw [lg_entry_eq]
  generalize (lg_sl ([.ref q_this, .int p1, .int p2]) ++ List.replicate (3 - (lg_sl ([.ref q_this, .int p1, .int p2])).length) Slot.unset).toArray = ls at hl ⊢
  have hl : lv_has ls 3 [(0, .ref q_this), (1, .int p1), (2, .int p2)] := hl
  generalize ([.ref q_this, .int p1, .int p2] : List Value).toArray = args at hts ⊢
  generalize hQe : MQ below (kQv D ca (A) [(q_this, .inr (1, [.ref q_now, .ref q_next, .int o_a, .int o_b, .int v_zeroHears, .int v_oneHears, .int v_moved]))]) args s 0 0 A = Q
  have k_25 := hts (.methodLink RX1 25 Lib.Math.min.name) (by decide +kernel)
  have ks_min := hts (.static Lib.Math.min.name) (by decide +kernel)
  have ki_math := hts (.initialized "java/lang/Math") (by decide +kernel)
  have kc_min := hts (.code Lib.Math.min.name Lib.Math.min.code 2 (some .int)) (by decide +kernel)
  have k_31 := hts (.methodLink RX1 31 Lib.Math.max.name) (by decide +kernel)
  have ks_max := hts (.static Lib.Math.max.name) (by decide +kernel)
  have kc_max := hts (.code Lib.Math.max.name Lib.Math.max.code 2 (some .int)) (by decide +kernel)
  have i_X1 : ∀ w ∈ u_ws RX1 TX1 7, w ∈ wsX1_gather := by decide +kernel
  have k_18 := hts (.fieldLink RX1 18 "TradeWords$Crowd" "a" "I") (by decide +kernel)
  have k_22 := hts (.fieldLink RX1 22 "TradeWords$Crowd" "b" "I") (by decide +kernel)
  rw [D_X1_gather] at h
  refine lv_aload_n hx hb dX1_gather_0 rfl (lv_at hl 0 rfl) ?_
  refine lv_iconst (v := (nI 1)) hx hb dX1_gather_1 (by decide) ?_
  refine lv_iload_n hx hb dX1_gather_2 rfl (lv_at hl 1 rfl) ?_
  refine lv_bipush (v := (nI 8)) hx hb dX1_gather_3 (by decide) ?_
  refine va_mmin hx hb (by rw [hml]; exact hl.1.symm) hown k_25 ks_min ki_math kc_min (Nat.le_of_ble_eq_true rfl) (Nat.le_of_ble_eq_true rfl) (Nat.zero_le _) (Nat.zero_le _) dX1_gather_5 ?_
  refine va_mmax hx hb (by rw [hml]; exact hl.1.symm) hown k_31 ks_max ki_math kc_max (Nat.le_of_ble_eq_true rfl) (Nat.le_of_ble_eq_true rfl) (Nat.zero_le _) (Nat.zero_le _) dX1_gather_8 ?_
  refine lv_nmi h (fun w_1 h => ?_)
  refine va_put (D := D) (ci := 1) (v := .int w_1) (ty := .int) (C := RX1) (T := TX1) (N := 7) hx hb hts i_X1 tyX1 tyX1_ok nmX1 hown hK hP hD hS 0 rfl rfl 2 (by decide) k_18 (fun _ h9 => h9) rfl (by decide +kernel) rfl rfl (Nat.le_of_ble_eq_true rfl) dX1_gather_11 (fun H locs hP hD hS => ?_)
  have hP : va_P D vwCl [(q_this, .inr (1, [.ref q_now, .ref q_next, .int w_1, .int v_b, .int v_zeroHears, .int v_oneHears, .int v_moved]))] H := hP
  have hD : va_D A [(q_this, .inr (1, [.ref q_now, .ref q_next, .int w_1, .int v_b, .int v_zeroHears, .int v_oneHears, .int v_moved]))] := hD
  refine lv_aload_n hx hb dX1_gather_14 rfl (lv_at hl 0 rfl) ?_
  refine lv_iconst (v := (nI 1)) hx hb dX1_gather_15 (by decide) ?_
  refine lv_iload_n hx hb dX1_gather_16 rfl (lv_at hl 2 rfl) ?_
  refine lv_bipush (v := (nI 8)) hx hb dX1_gather_17 (by decide) ?_
  refine va_mmin hx hb (by rw [hml]; exact hl.1.symm) hown k_25 ks_min ki_math kc_min (Nat.le_of_ble_eq_true rfl) (Nat.le_of_ble_eq_true rfl) (Nat.zero_le _) (Nat.zero_le _) dX1_gather_19 ?_
  refine va_mmax hx hb (by rw [hml]; exact hl.1.symm) hown k_31 ks_max ki_math kc_max (Nat.le_of_ble_eq_true rfl) (Nat.le_of_ble_eq_true rfl) (Nat.zero_le _) (Nat.zero_le _) dX1_gather_22 ?_
  refine lv_nmi h (fun w_2 h => ?_)
  refine va_put (D := D) (ci := 1) (v := .int w_2) (ty := .int) (C := RX1) (T := TX1) (N := 7) hx hb hts i_X1 tyX1 tyX1_ok nmX1 hown hK hP hD hS 0 rfl rfl 3 (by decide) k_22 (fun _ h9 => h9) rfl (by decide +kernel) rfl rfl (Nat.le_of_ble_eq_true rfl) dX1_gather_25 (fun H locs hP hD hS => ?_)
  have hP : va_P D vwCl [(q_this, .inr (1, [.ref q_now, .ref q_next, .int w_1, .int w_2, .int v_zeroHears, .int v_oneHears, .int v_moved]))] H := hP
  have hD : va_D A [(q_this, .inr (1, [.ref q_now, .ref q_next, .int w_1, .int w_2, .int v_zeroHears, .int v_oneHears, .int v_moved]))] := hD
  cases h
  rw [← hQe]
  exact W.vret hx hb hr (fun t ht hW => ⟨⟨(), rfl, trivial, by rw [ht]; exact hP, va_K.moved hW.alike hK, hD⟩, hS.F ht⟩) hS.2.2 dX1_gather_28
def j_X1_habits_15 (p1 : Int32) (p2 : Int32) (p4 : Int32) (z1_1 : Int32) : Option (Int32 × Int32) := (if p1 = 0 then nm (p2 * p4) (fun w_3 => some (z1_1, w_3)) else some (z1_1, (nI 0)))
def D_X1_habits (p1 : Int32) (p2 : Int32) (p3 : Int32) (p4 : Int32) (v_zeroHears : Int32) (v_oneHears : Int32) : Option (Int32 × Int32) := (if p1 = 0 then j_X1_habits_15 p1 p2 p4 (((nI 10) - p2) * p3) else j_X1_habits_15 p1 p2 p4 (nI 0))
abbrev rm_X1_habits : Room := { frames := 0, cells := 0, slots := 0, locals := 0 }
set_option maxHeartbeats 4000000 in
set_option maxRecDepth 100000 in
theorem c_X1_habits (l : Launch) (D : va_G) (ca : Nat → ClassId) (sz : Nat) (q_this q_now q_next : Nat) (p1 : Int32) (p2 : Int32) (p3 : Int32) (p4 : Int32) (v_a : Int32) (v_b : Int32) (v_zeroHears : Int32) (v_oneHears : Int32) (v_moved : Int32) (o_zeroHears : Int32) (o_oneHears : Int32) (h : D_X1_habits p1 p2 p3 p4 v_zeroHears v_oneHears = some (o_zeroHears, o_oneHears)) : Met l yX1_habits wsX1_habits rm_X1_habits (va_Pc [.ref q_this, .int p1, .int p2, .int p3, .int p4] (kPre D ca [(q_this, .inr (1, [.ref q_now, .ref q_next, .int v_a, .int v_b, .int v_zeroHears, .int v_oneHears, .int v_moved]))] sz)) (kQv D ca (va_A [(q_this, .inr (1, [.ref q_now, .ref q_next, .int v_a, .int v_b, .int v_zeroHears, .int v_oneHears, .int v_moved]))] sz) [(q_this, .inr (1, [.ref q_now, .ref q_next, .int v_a, .int v_b, .int o_zeroHears, .int o_oneHears, .int v_moved]))]) 0 0 (va_A [(q_this, .inr (1, [.ref q_now, .ref q_next, .int v_a, .int v_b, .int v_zeroHears, .int v_oneHears, .int v_moved]))] sz) := by
  refine Met.ofW (cc := cX1_habits) (maxL := 5) (ret := none) (by decide +kernel) rfl ?_
  intro p e s m args below meth c s₁ B hml hv
  obtain ⟨rfl, hsz, hP, hK, hD0⟩ := hv
  have hx := B.exec
  have hb := B.bytes
  have hr := B.returns
  have hts := atoms_spec (ws := wsX1_habits) B.pre
  have hown : s.vm.findClass RX1 = some m.cls := findClass_of_methodNamed B.named
  have hlocks := B.notSynchronized
  clear B
  subst hsz
  have hD := hD0.self (sz := s.heap.size)
  generalize hAe : va_A [(q_this, .inr (1, [.ref q_now, .ref q_next, .int v_a, .int v_b, .int v_zeroHears, .int v_oneHears, .int v_moved]))] s.heap.size = A at hD ⊢
  have hA : ∀ q : Nat, s.heap.size ≤ q → A q := fun q h => by rw [← hAe]; exact Or.inr h
  have hS : va_S A s.heap s.heap [] := va_S.rf
  have hl := lv_entry ([.ref q_this, .int p1, .int p2, .int p3, .int p4]) (n := 5) (Nat.le_of_ble_eq_true rfl)
  rw [lg_entry_eq]
  generalize (lg_sl ([.ref q_this, .int p1, .int p2, .int p3, .int p4]) ++ List.replicate (5 - (lg_sl ([.ref q_this, .int p1, .int p2, .int p3, .int p4])).length) Slot.unset).toArray = ls at hl ⊢
  have hl : lv_has ls 5 [(0, .ref q_this), (1, .int p1), (2, .int p2), (3, .int p3), (4, .int p4)] := hl
  generalize ([.ref q_this, .int p1, .int p2, .int p3, .int p4] : List Value).toArray = args at hts ⊢
  generalize hQe : MQ below (kQv D ca (A) [(q_this, .inr (1, [.ref q_now, .ref q_next, .int v_a, .int v_b, .int o_zeroHears, .int o_oneHears, .int v_moved]))]) args s 0 0 A = Q
  have i_X1 : ∀ w ∈ u_ws RX1 TX1 7, w ∈ wsX1_habits := by decide +kernel
  have k_34 := hts (.fieldLink RX1 34 "TradeWords$Crowd" "zeroHears" "I") (by decide +kernel)
  have k_37 := hts (.fieldLink RX1 37 "TradeWords$Crowd" "oneHears" "I") (by decide +kernel)
  rw [D_X1_habits] at h
  refine lv_aload_n hx hb dX1_habits_0 rfl (lv_at hl 0 rfl) ?_
  refine lv_iload_n hx hb dX1_habits_1 rfl (lv_at hl 1 rfl) ?_
  have hj_15 : ∀ (z1_1 : Int32) (H : Heap) (locs : List Loc) (ls : Array Slot), j_X1_habits_15 p1 p2 p4 z1_1 = some (o_zeroHears, o_oneHears) → va_P D vwCl [(q_this, .inr (1, [.ref q_now, .ref q_next, .int v_a, .int v_b, .int v_zeroHears, .int v_oneHears, .int v_moved]))] H → va_D A [(q_this, .inr (1, [.ref q_now, .ref q_next, .int v_a, .int v_b, .int v_zeroHears, .int v_oneHears, .int v_moved]))] → va_S A s.heap H locs → lv_has ls 5 [(0, .ref q_this), (1, .int p1), (2, .int p2), (4, .int p4)] → W p l e (headSpec wsX1_habits rm_X1_habits).room s m args below meth c H locs 0 0 Q (F0 m 15 ls [.int z1_1, .ref q_this]) := by
    intro z1_1 H locs ls h hP hD hS hl
    rw [j_X1_habits_15] at h
    refine va_put (D := D) (ci := 1) (v := .int z1_1) (ty := .int) (C := RX1) (T := TX1) (N := 7) hx hb hts i_X1 tyX1 tyX1_ok nmX1 hown hK hP hD hS 0 rfl rfl 4 (by decide) k_34 (fun _ h9 => h9) rfl (by decide +kernel) rfl rfl (Nat.le_of_ble_eq_true rfl) dX1_habits_15 (fun H locs hP hD hS => ?_)
    have hP : va_P D vwCl [(q_this, .inr (1, [.ref q_now, .ref q_next, .int v_a, .int v_b, .int z1_1, .int v_oneHears, .int v_moved]))] H := hP
    have hD : va_D A [(q_this, .inr (1, [.ref q_now, .ref q_next, .int v_a, .int v_b, .int z1_1, .int v_oneHears, .int v_moved]))] := hD
    refine lv_aload_n hx hb dX1_habits_18 rfl (lv_at hl 0 rfl) ?_
    refine lv_iload_n hx hb dX1_habits_19 rfl (lv_at hl 1 rfl) ?_
    refine lv_if_eq (tgt := 27) hx hb dX1_habits_20 (by decide) (fun c_2 => ?_) (fun c_2 => ?_)
    · replace h := ifp_el c_2 h
      refine lv_iload_n hx hb dX1_habits_27 rfl (lv_at hl 2 rfl) ?_
      refine lv_iload hx hb dX1_habits_28 (lv_at hl 3 rfl) ?_
      refine lv_imul hx hb dX1_habits_30 ?_
      refine lv_nmi h (fun w_3 h => ?_)
      refine va_put (D := D) (ci := 1) (v := .int w_3) (ty := .int) (C := RX1) (T := TX1) (N := 7) hx hb hts i_X1 tyX1 tyX1_ok nmX1 hown hK hP hD hS 0 rfl rfl 5 (by decide) k_37 (fun _ h9 => h9) rfl (by decide +kernel) rfl rfl (Nat.le_of_ble_eq_true rfl) dX1_habits_31 (fun H locs hP hD hS => ?_)
      have hP : va_P D vwCl [(q_this, .inr (1, [.ref q_now, .ref q_next, .int v_a, .int v_b, .int z1_1, .int w_3, .int v_moved]))] H := hP
      have hD : va_D A [(q_this, .inr (1, [.ref q_now, .ref q_next, .int v_a, .int v_b, .int z1_1, .int w_3, .int v_moved]))] := hD
      cases h
      rw [← hQe]
      exact W.vret hx hb hr (fun t ht hW => ⟨⟨(), rfl, trivial, by rw [ht]; exact hP, va_K.moved hW.alike hK, hD⟩, hS.F ht⟩) hS.2.2 dX1_habits_34
    · replace h := ifn_el c_2 h
      refine lv_iconst (v := (nI 0)) hx hb dX1_habits_23 (by decide) ?_
      refine lv_goto (tgt := 31) hx hb dX1_habits_24 (by decide) ?_
      refine va_put (D := D) (ci := 1) (v := .int (nI 0)) (ty := .int) (C := RX1) (T := TX1) (N := 7) hx hb hts i_X1 tyX1 tyX1_ok nmX1 hown hK hP hD hS 0 rfl rfl 5 (by decide) k_37 (fun _ h9 => h9) rfl (by decide +kernel) rfl rfl (Nat.le_of_ble_eq_true rfl) dX1_habits_31 (fun H locs hP hD hS => ?_)
      have hP : va_P D vwCl [(q_this, .inr (1, [.ref q_now, .ref q_next, .int v_a, .int v_b, .int z1_1, .int (nI 0), .int v_moved]))] H := hP
      have hD : va_D A [(q_this, .inr (1, [.ref q_now, .ref q_next, .int v_a, .int v_b, .int z1_1, .int (nI 0), .int v_moved]))] := hD
      cases h
      rw [← hQe]
      exact W.vret hx hb hr (fun t ht hW => ⟨⟨(), rfl, trivial, by rw [ht]; exact hP, va_K.moved hW.alike hK, hD⟩, hS.F ht⟩) hS.2.2 dX1_habits_34
  refine lv_if_eq (tgt := 9) hx hb dX1_habits_2 (by decide) (fun c_4 => ?_) (fun c_4 => ?_)
  · replace h := ifp_el c_4 h
    refine lv_bipush (v := (nI 10)) hx hb dX1_habits_9 (by decide) ?_
    refine lv_iload_n hx hb dX1_habits_11 rfl (lv_at hl 2 rfl) ?_
    refine lv_isub hx hb dX1_habits_12 ?_
    refine lv_iload_n hx hb dX1_habits_13 rfl (lv_at hl 3 rfl) ?_
    refine lv_imul hx hb dX1_habits_14 ?_
    exact hj_15 _ _ _ _ h hP hD hS (lv_sub hl [0, 1, 2, 4] rfl)
  · replace h := ifn_el c_4 h
    refine lv_iconst (v := (nI 0)) hx hb dX1_habits_5 (by decide) ?_
    refine lv_goto (tgt := 15) hx hb dX1_habits_6 (by decide) ?_
    exact hj_15 _ _ _ _ h hP hD hS (lv_sub hl [0, 1, 2, 4] rfl)
def b_J7_fill_d0a16_6 (p2 : Int64) (n_a1 : Nat) (x4_1 : Int32) (rec6 : Int32 → (Nat → Int64) → Option ((Nat → Int64))) (x3_2 : Int32) (y_a1_3 : Nat → Int64) : Option ((Nat → Int64)) := (if x4_1 ≤ x3_2 then some (y_a1_3) else ck n_a1 x3_2 (nm (x3_2 + (nI 1)) (fun x3_7 => rec6 x3_7 (vp_updL y_a1_3 x3_2.toNatClampNeg p2))))
def D_J7_fill_d0a16 (F : Nat) (n_a1 : Nat) (p2 : Int64) (v_a1 : Nat → Int64) : Option ((Nat → Int64)) := nm (nI n_a1) (fun x4_1 => bd1 (lpg (T := Int32 → (Nat → Int64) → Option ((Nat → Int64))) (fun _ _ => none) (b_J7_fill_d0a16_6 p2 n_a1 x4_1) F (nI 0) v_a1) (fun o_4 => some (o_4)))
abbrev rm_J7_fill_d0a16 : Room := { frames := 0, cells := 0, slots := 0, locals := 0 }
set_option maxHeartbeats 4000000 in
set_option maxRecDepth 100000 in
theorem c_J7_fill_d0a16 (l : Launch) (D : va_G) (ca : Nat → ClassId) (F : Nat) (sz : Nat) (q_a1 : Nat) (n_a1 : Nat) (p2 : Int64) (v_a1 : Nat → Int64) (o_a1 : Nat → Int64) (h : D_J7_fill_d0a16 F n_a1 p2 v_a1 = some (o_a1)) : Met l yJ7_fill_d0a16 wsJ7_fill_d0a16 rm_J7_fill_d0a16 (va_Pc [.ref q_a1, .long p2] (kPre D ca [(q_a1, .inl (ca 1, n_a1, .inr (.inl v_a1)))] sz)) (kQv D ca (va_A [(q_a1, .inl (ca 1, n_a1, .inr (.inl v_a1)))] sz) [(q_a1, .inl (ca 1, n_a1, .inr (.inl o_a1)))]) 0 0 (va_A [(q_a1, .inl (ca 1, n_a1, .inr (.inl v_a1)))] sz) := by
  refine Met.ofW (cc := cJ7_fill_d0a16) (maxL := 5) (ret := none) (by decide +kernel) rfl ?_
  intro p e s m args below meth c s₁ B hml hv
  obtain ⟨rfl, hsz, hP, hK, hD0⟩ := hv
  have hx := B.exec
  have hb := B.bytes
  have hr := B.returns
  have hts := atoms_spec (ws := wsJ7_fill_d0a16) B.pre
  have hown : s.vm.findClass RJ7 = some m.cls := findClass_of_methodNamed B.named
  have hlocks := B.notSynchronized
  clear B
  subst hsz
  have hD := hD0.self (sz := s.heap.size)
  generalize hAe : va_A [(q_a1, .inl (ca 1, n_a1, .inr (.inl v_a1)))] s.heap.size = A at hD ⊢
  have hA : ∀ q : Nat, s.heap.size ≤ q → A q := fun q h => by rw [← hAe]; exact Or.inr h
  have hS : va_S A s.heap s.heap [] := va_S.rf
  have hl := lv_entry ([.ref q_a1, .long p2]) (n := 5) (Nat.le_of_ble_eq_true rfl)
  rw [lg_entry_eq]
  generalize (lg_sl ([.ref q_a1, .long p2]) ++ List.replicate (5 - (lg_sl ([.ref q_a1, .long p2])).length) Slot.unset).toArray = ls at hl ⊢
  have hl : lv_has ls 5 [(0, .ref q_a1), (1, .long p2)] := hl
  generalize ([.ref q_a1, .long p2] : List Value).toArray = args at hts ⊢
  generalize hQe : MQ below (kQv D ca (A) [(q_a1, .inl (ca 1, n_a1, .inr (.inl o_a1)))]) args s 0 0 A = Q
  rw [D_J7_fill_d0a16] at h
  refine lv_iconst (v := (nI 0)) hx hb dJ7_fill_d0a16_0 (by decide) ?_
  refine lv_istore_n (lv' := [(3, .int (nI 0)), (0, .ref q_a1), (1, .long p2)]) hx hb dJ7_fill_d0a16_1 rfl hl (by decide) rfl (fun ls hl => ?_)
  refine lv_aload_n hx hb dJ7_fill_d0a16_2 rfl (lv_at hl 1 rfl) ?_
  refine va_alen hx hb hK hP 0 1 rfl rfl (v := (nI n_a1)) rfl dJ7_fill_d0a16_3 ?_
  refine lv_nmi h (fun x4_1 h => ?_)
  refine lv_istore (lv' := [(4, .int x4_1), (3, .int (nI 0)), (0, .ref q_a1), (1, .long p2)]) hx hb dJ7_fill_d0a16_4 hl (by decide) rfl (fun ls hl => ?_)
  obtain ⟨o_4, hL, h⟩ := bd1_el h
  have hex : ∀ (H : Heap) (locs : List Loc) (ls : Array Slot), va_P D vwCl [(q_a1, .inl (ca 1, n_a1, .inr (.inl o_4)))] H → va_D A [(q_a1, .inl (ca 1, n_a1, .inr (.inl o_4)))] → va_S A s.heap H locs → lv_has ls 5 [] → W p l e (headSpec wsJ7_fill_d0a16 rm_J7_fill_d0a16).room s m args below meth c H locs 0 0 Q (F0 m 22 ls []) := by
    intro H locs ls hP hD hS hl
    cases h
    rw [← hQe]
    exact W.vret hx hb hr (fun t ht hW => ⟨⟨(), rfl, trivial, by rw [ht]; exact hP, va_K.moved hW.alike hK, hD⟩, hS.F ht⟩) hS.2.2 dJ7_fill_d0a16_22
  have hlp : ∀ (n : Nat) (x3_2 : Int32) (y_a1_3 : Nat → Int64) (o_4 : Nat → Int64) (H : Heap) (locs : List Loc) (ls : Array Slot), lpg (T := Int32 → (Nat → Int64) → Option ((Nat → Int64))) (fun _ _ => none) (b_J7_fill_d0a16_6 p2 n_a1 x4_1) n x3_2 y_a1_3 = some (o_4) → (∀ (H : Heap) (locs : List Loc) (ls : Array Slot), va_P D vwCl [(q_a1, .inl (ca 1, n_a1, .inr (.inl o_4)))] H → va_D A [(q_a1, .inl (ca 1, n_a1, .inr (.inl o_4)))] → va_S A s.heap H locs → lv_has ls 5 [] → W p l e (headSpec wsJ7_fill_d0a16 rm_J7_fill_d0a16).room s m args below meth c H locs 0 0 Q (F0 m 22 ls [])) → va_P D vwCl [(q_a1, .inl (ca 1, n_a1, .inr (.inl y_a1_3)))] H → va_D A [(q_a1, .inl (ca 1, n_a1, .inr (.inl y_a1_3)))] → va_S A s.heap H locs → lv_has ls 5 [(0, .ref q_a1), (1, .long p2), (3, .int x3_2), (4, .int x4_1)] → W p l e (headSpec wsJ7_fill_d0a16 rm_J7_fill_d0a16).room s m args below meth c H locs 0 0 Q (F0 m 6 ls []) := by
    intro n
    induction n with
    | zero => intro x3_2 y_a1_3 o_4 H locs ls h; have h : (none : Option ((Nat → Int64))) = some _ := h; cases h
    | succ n ih =>
      intro x3_2 y_a1_3 o_4 H locs ls h hex hP hD hS hl
      rw [lpg_succ, b_J7_fill_d0a16_6] at h
      refine lv_iload_n hx hb dJ7_fill_d0a16_6 rfl (lv_at hl 2 rfl) ?_
      refine lv_iload hx hb dJ7_fill_d0a16_7 (lv_at hl 3 rfl) ?_
      refine lv_icmp_ge (tgt := 22) hx hb dJ7_fill_d0a16_9 (by decide) (fun c_5 => ?_) (fun c_5 => ?_)
      · replace h := ifp_el c_5 h
        cases h
        exact hex _ _ _ hP hD hS (lv_sub hl [] rfl)
      · replace h := ifn_el c_5 h
        refine lv_aload_n hx hb dJ7_fill_d0a16_12 rfl (lv_at hl 0 rfl) ?_
        refine lv_iload_n hx hb dJ7_fill_d0a16_13 rfl (lv_at hl 2 rfl) ?_
        refine lv_lload_n hx hb dJ7_fill_d0a16_14 rfl (lv_at hl 1 rfl) ?_
        obtain ⟨hi_6, h⟩ := ck_el h
        refine va_last hx hb hK hP hD hS 0 1 rfl rfl hi_6 dJ7_fill_d0a16_15 (fun H locs hP hD hS => ?_)
        have hP : va_P D vwCl [(q_a1, .inl (ca 1, n_a1, .inr (.inl (vp_updL y_a1_3 x3_2.toNatClampNeg p2))))] H := hP
        have hD : va_D A [(q_a1, .inl (ca 1, n_a1, .inr (.inl (vp_updL y_a1_3 x3_2.toNatClampNeg p2))))] := hD
        obtain ⟨x3_7, e_8, h⟩ := nm_el h
        refine lv_iinc (v := x3_7) (lv' := [(3, .int x3_7), (0, .ref q_a1), (1, .long p2), (4, .int x4_1)]) hx hb dJ7_fill_d0a16_16 hl (k := 2) rfl (by rw [← e_8]; rfl) (by decide) rfl (fun ls hl => ?_)
        refine lv_goto (tgt := 6) hx hb dJ7_fill_d0a16_19 (by decide) ?_
        exact ih _ _ _ _ _ _ h hex hP hD hS (lv_sub hl [1, 2, 0, 3] rfl)
  exact hlp F (nI 0) v_a1 o_4 s.heap [] ls hL hex hP hD hS (lv_sub hl [2, 3, 1, 0] rfl)
def D_X1_place (p1 : Int32) (p2 : Int32) : Option (Int32) := some (((p1 * (nI 9)) + p2))
abbrev rm_X1_place : Room := { frames := 0, cells := 0, slots := 0, locals := 0 }
set_option maxHeartbeats 4000000 in
set_option maxRecDepth 100000 in
theorem c_X1_place (l : Launch) (D : va_G) (ca : Nat → ClassId) (sz : Nat) (p1 : Int32) (p2 : Int32) (r : Int32) (h : D_X1_place p1 p2 = some (r)) : Met l yX1_place wsX1_place rm_X1_place (va_Pc [.int p1, .int p2] (kPre D ca [] sz)) (kQi D ca (va_A [] sz) [] r) 0 0 (va_A [] sz) := by
  refine Met.ofW (cc := cX1_place) (maxL := 2) (ret := (some .int)) (by decide +kernel) rfl ?_
  intro p e s m args below meth c s₁ B hml hv
  obtain ⟨rfl, hsz, hP, hK, hD0⟩ := hv
  have hx := B.exec
  have hb := B.bytes
  have hr := B.returns
  have hts := atoms_spec (ws := wsX1_place) B.pre
  have hown : s.vm.findClass RX1 = some m.cls := findClass_of_methodNamed B.named
  have hlocks := B.notSynchronized
  clear B
  subst hsz
  have hD := hD0.self (sz := s.heap.size)
  generalize hAe : va_A [] s.heap.size = A at hD ⊢
  have hA : ∀ q : Nat, s.heap.size ≤ q → A q := fun q h => by rw [← hAe]; exact Or.inr h
  have hS : va_S A s.heap s.heap [] := va_S.rf
  have hl := lv_entry ([.int p1, .int p2]) (n := 2) (Nat.le_of_ble_eq_true rfl)
  rw [lg_entry_eq]
  generalize (lg_sl ([.int p1, .int p2]) ++ List.replicate (2 - (lg_sl ([.int p1, .int p2])).length) Slot.unset).toArray = ls at hl ⊢
  have hl : lv_has ls 2 [(0, .int p1), (1, .int p2)] := hl
  generalize ([.int p1, .int p2] : List Value).toArray = args at hts ⊢
  generalize hQe : MQ below (kQi D ca (A) [] r) args s 0 0 A = Q
  rw [D_X1_place] at h
  refine lv_iload_n hx hb dX1_place_0 rfl (lv_at hl 0 rfl) ?_
  refine lv_bipush (v := (nI 9)) hx hb dX1_place_1 (by decide) ?_
  refine lv_imul hx hb dX1_place_3 ?_
  refine lv_iload_n hx hb dX1_place_4 rfl (lv_at hl 1 rfl) ?_
  refine lv_iadd hx hb dX1_place_5 ?_
  cases h
  rw [← hQe]
  exact W.iret hx hb hr (fun t ht hW => ⟨⟨_, (), rfl, rfl, by rw [ht]; exact hP, va_K.moved hW.alike hK, hD⟩, hS.F ht⟩) hS.2.2 dX1_place_6
