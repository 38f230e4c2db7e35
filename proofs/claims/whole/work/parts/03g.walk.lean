def b_X8_joined_18 (p1 : Int32) (v_laid_heard : Nat → Int32) (F : Nat) (rec18 : Int32 → Int32 → Int32 → (Nat → Int32) → Option (Int32 × (Nat → Int32))) (x2_4 : Int32) (x3_5 : Int32) (x4_6 : Int32) (y_measure_row_7 : Nat → Int32) : Option (Int32 × (Nat → Int32)) := (if (nI 3) ≤ x4_6 then some (x2_4, y_measure_row_7) else bd1 (D_X0_heardBy x4_6 p1 v_laid_heard) (fun r_11 => (if r_11 = 0 then nm (x4_6 + (nI 1)) (fun x4_14 => rec18 x2_4 x3_5 x4_14 y_measure_row_7) else bd2 (D_X8_apartFromOtherEars F x4_6 p1 y_measure_row_7 v_laid_heard) (fun r_16 y_measure_row_17 => (if x3_5 ≤ r_16 then nm (x4_6 + (nI 1)) (fun x4_20 => rec18 x2_4 x3_5 x4_20 y_measure_row_17) else nm (x4_6 + (nI 1)) (fun x4_22 => rec18 x4_6 r_16 x4_22 y_measure_row_17))))))
def D_X8_joined (F : Nat) (p1 : Int32) (v_measure_row : Nat → Int32) (v_laid_heard : Nat → Int32) : Option (Int32 × (Nat → Int32)) := bd1 (D_X8_isMeaning p1) (fun r_1 => (if r_1 = 0 then some ((-1 : Int32), v_measure_row) else bd2 (lpg (T := Int32 → Int32 → Int32 → (Nat → Int32) → Option (Int32 × (Nat → Int32))) (fun _ _ _ _ => none) (b_X8_joined_18 p1 v_laid_heard F) F (-4 : Int32) (nI 18) (nI 0) v_measure_row) (fun o_8 o_9 => some (o_8, o_9))))
abbrev rm_X8_joined : Room := { frames := 3, cells := 0, slots := 0, locals := 73 }
set_option maxHeartbeats 4000000 in
set_option maxRecDepth 100000 in
theorem c_X8_joined (l : Launch) (D : va_G) (ca : Nat → ClassId) (F : Nat) (sz : Nat) (q_this q_text q_item q_stands q_crowd q_measure q_measure_row q_laid q_laid_words q_laid_heard q_laid_canSay q_laid_instead q_laid_traders q_laid_takes q_laid_needs q_tried : Nat) (p1 : Int32) (v_measure_row : Nat → Int32) (v_laid_speaks : Int32) (v_laid_alikeFrom : Int32) (v_laid_heard : Nat → Int32) (r : Int32) (o_measure_row : Nat → Int32) (h : D_X8_joined F p1 v_measure_row v_laid_heard = some (r, o_measure_row)) : Met l yX8_joined wsX8_joined rm_X8_joined (va_Pc [.ref q_this, .int p1] (kPre D ca [(q_this, .inr (7, [.ref q_text, .ref q_item, .ref q_stands, .ref q_crowd, .ref q_measure, .ref q_laid, .ref q_tried])), (q_measure, .inr (3, [.ref q_measure_row])), (q_measure_row, .inl (ca 0, 7, .inl v_measure_row)), (q_laid, .inr (0, [.ref q_laid_words, .ref q_laid_heard, .ref q_laid_canSay, .ref q_laid_instead, .ref q_laid_traders, .ref q_laid_takes, .ref q_laid_needs, .int v_laid_speaks, .int v_laid_alikeFrom])), (q_laid_heard, .inl (ca 0, 24, .inl v_laid_heard))] sz)) (kQi D ca (va_A [(q_this, .inr (7, [.ref q_text, .ref q_item, .ref q_stands, .ref q_crowd, .ref q_measure, .ref q_laid, .ref q_tried])), (q_measure, .inr (3, [.ref q_measure_row])), (q_measure_row, .inl (ca 0, 7, .inl v_measure_row)), (q_laid, .inr (0, [.ref q_laid_words, .ref q_laid_heard, .ref q_laid_canSay, .ref q_laid_instead, .ref q_laid_traders, .ref q_laid_takes, .ref q_laid_needs, .int v_laid_speaks, .int v_laid_alikeFrom])), (q_laid_heard, .inl (ca 0, 24, .inl v_laid_heard))] sz) [(q_this, .inr (7, [.ref q_text, .ref q_item, .ref q_stands, .ref q_crowd, .ref q_measure, .ref q_laid, .ref q_tried])), (q_measure, .inr (3, [.ref q_measure_row])), (q_measure_row, .inl (ca 0, 7, .inl o_measure_row)), (q_laid, .inr (0, [.ref q_laid_words, .ref q_laid_heard, .ref q_laid_canSay, .ref q_laid_instead, .ref q_laid_traders, .ref q_laid_takes, .ref q_laid_needs, .int v_laid_speaks, .int v_laid_alikeFrom])), (q_laid_heard, .inl (ca 0, 24, .inl v_laid_heard))] r) 0 0 (va_A [(q_this, .inr (7, [.ref q_text, .ref q_item, .ref q_stands, .ref q_crowd, .ref q_measure, .ref q_laid, .ref q_tried])), (q_measure, .inr (3, [.ref q_measure_row])), (q_measure_row, .inl (ca 0, 7, .inl v_measure_row)), (q_laid, .inr (0, [.ref q_laid_words, .ref q_laid_heard, .ref q_laid_canSay, .ref q_laid_instead, .ref q_laid_traders, .ref q_laid_takes, .ref q_laid_needs, .int v_laid_speaks, .int v_laid_alikeFrom])), (q_laid_heard, .inl (ca 0, 24, .inl v_laid_heard))] sz) := by
  refine Met.ofW (cc := cX8_joined) (maxL := 6) (ret := (some .int)) (by decide +kernel) rfl ?_
  intro p e s m args below meth c s₁ B hml hv
  obtain ⟨rfl, hsz, hP, hK, hD0⟩ := hv
  have hx := B.exec
  have hb := B.bytes
  have hr := B.returns
  have hts := atoms_spec (ws := wsX8_joined) B.pre
  have hown : s.vm.findClass RX8 = some m.cls := findClass_of_methodNamed B.named
  have hlocks := B.notSynchronized
  clear B
  subst hsz
  have hD := hD0.self (sz := s.heap.size)
  generalize hAe : va_A [(q_this, .inr (7, [.ref q_text, .ref q_item, .ref q_stands, .ref q_crowd, .ref q_measure, .ref q_laid, .ref q_tried])), (q_measure, .inr (3, [.ref q_measure_row])), (q_measure_row, .inl (ca 0, 7, .inl v_measure_row)), (q_laid, .inr (0, [.ref q_laid_words, .ref q_laid_heard, .ref q_laid_canSay, .ref q_laid_instead, .ref q_laid_traders, .ref q_laid_takes, .ref q_laid_needs, .int v_laid_speaks, .int v_laid_alikeFrom])), (q_laid_heard, .inl (ca 0, 24, .inl v_laid_heard))] s.heap.size = A at hD ⊢
  have hA : ∀ q : Nat, s.heap.size ≤ q → A q := fun q h => by rw [← hAe]; exact Or.inr h
  have hS : va_S A s.heap s.heap [] := va_S.rf
  have hl := lv_entry ([.ref q_this, .int p1]) (n := 6) (Nat.le_of_ble_eq_true rfl)
  rw [lg_entry_eq]
  generalize (lg_sl ([.ref q_this, .int p1]) ++ List.replicate (6 - (lg_sl ([.ref q_this, .int p1])).length) Slot.unset).toArray = ls at hl ⊢
  have hl : lv_has ls 6 [(0, .ref q_this), (1, .int p1)] := hl
  generalize ([.ref q_this, .int p1] : List Value).toArray = args at hts ⊢
  generalize hQe : MQ below (kQi D ca (A) [(q_this, .inr (7, [.ref q_text, .ref q_item, .ref q_stands, .ref q_crowd, .ref q_measure, .ref q_laid, .ref q_tried])), (q_measure, .inr (3, [.ref q_measure_row])), (q_measure_row, .inl (ca 0, 7, .inl o_measure_row)), (q_laid, .inr (0, [.ref q_laid_words, .ref q_laid_heard, .ref q_laid_canSay, .ref q_laid_instead, .ref q_laid_traders, .ref q_laid_takes, .ref q_laid_needs, .int v_laid_speaks, .int v_laid_alikeFrom])), (q_laid_heard, .inl (ca 0, 24, .inl v_laid_heard))] r) args s 0 0 A = Q
  have i_X8 : ∀ w ∈ u_ws RX8 TX8 7, w ∈ wsX8_joined := by decide +kernel
  have k_49 := hts (.fieldLink RX8 49 "TradeWords" "laid" "LTradeWords$Beach;") (by decide +kernel)
  rw [D_X8_joined] at h
  refine lv_iload_n hx hb dX8_joined_0 rfl (lv_at hl 1 rfl) ?_
  obtain ⟨r_1, hg_2, h⟩ := bd1_el h
  refine kx_Si (As := [.int p1]) (rest := []) (wr := [(q_this, .inr (7, [.ref q_text, .ref q_item, .ref q_stands, .ref q_crowd, .ref q_measure, .ref q_laid, .ref q_tried])), (q_measure, .inr (3, [.ref q_measure_row])), (q_measure_row, .inl (ca 0, 7, .inl v_measure_row)), (q_laid, .inr (0, [.ref q_laid_words, .ref q_laid_heard, .ref q_laid_canSay, .ref q_laid_instead, .ref q_laid_traders, .ref q_laid_takes, .ref q_laid_needs, .int v_laid_speaks, .int v_laid_alikeFrom])), (q_laid_heard, .inl (ca 0, 24, .inl v_laid_heard))]) (w1 := []) (wn := [(q_this, .inr (7, [.ref q_text, .ref q_item, .ref q_stands, .ref q_crowd, .ref q_measure, .ref q_laid, .ref q_tried])), (q_measure, .inr (3, [.ref q_measure_row])), (q_measure_row, .inl (ca 0, 7, .inl v_measure_row)), (q_laid, .inr (0, [.ref q_laid_words, .ref q_laid_heard, .ref q_laid_canSay, .ref q_laid_instead, .ref q_laid_traders, .ref q_laid_takes, .ref q_laid_needs, .int v_laid_speaks, .int v_laid_alikeFrom])), (q_laid_heard, .inl (ca 0, 24, .inl v_laid_heard))]) ⟨hx, hb, hml, hown, hts⟩ (c_X8_isMeaning l D ca s.heap.size p1 r_1 hg_2) (va_cwS 1 hts gX8_joined_X8_isMeaning rfl rfl rfl (by decide +kernel) ⟨(Nat.le_of_ble_eq_true rfl), (Nat.le_of_ble_eq_true rfl)⟩) hK hP hD hS hA [] [0, 1, 2, 3, 4] [0, 1, 2, 3, 4] rfl rfl rfl rfl (by decide) rfl rfl rfl hl.1 rfl (Nat.le_of_ble_eq_true rfl) dX8_joined_1 ⟨Nat.zero_le _, Nat.zero_le _⟩ (fun H locs hP hD hS => ?_)
  refine lv_if_ne (tgt := 9) hx hb dX8_joined_4 (by decide) (fun c_3 => ?_) (fun c_3 => ?_)
  · replace h := ifn_el c_3 h
    refine lv_bipush (v := (-4 : Int32)) hx hb dX8_joined_9 (by decide) ?_
    refine lv_istore_n (lv' := [(2, .int (-4 : Int32)), (0, .ref q_this), (1, .int p1)]) hx hb dX8_joined_11 rfl hl (by decide) rfl (fun ls hl => ?_)
    refine lv_bipush (v := (nI 18)) hx hb dX8_joined_12 (by decide) ?_
    refine lv_istore_n (lv' := [(3, .int (nI 18)), (2, .int (-4 : Int32)), (0, .ref q_this), (1, .int p1)]) hx hb dX8_joined_14 rfl hl (by decide) rfl (fun ls hl => ?_)
    refine lv_iconst (v := (nI 0)) hx hb dX8_joined_15 (by decide) ?_
    refine lv_istore (lv' := [(4, .int (nI 0)), (3, .int (nI 18)), (2, .int (-4 : Int32)), (0, .ref q_this), (1, .int p1)]) hx hb dX8_joined_16 hl (by decide) rfl (fun ls hl => ?_)
    obtain ⟨o_8, o_9, hL, h⟩ := bd2_el h
    have hex : ∀ (H : Heap) (locs : List Loc) (ls : Array Slot), va_P D vwCl [(q_this, .inr (7, [.ref q_text, .ref q_item, .ref q_stands, .ref q_crowd, .ref q_measure, .ref q_laid, .ref q_tried])), (q_measure, .inr (3, [.ref q_measure_row])), (q_measure_row, .inl (ca 0, 7, .inl o_9)), (q_laid, .inr (0, [.ref q_laid_words, .ref q_laid_heard, .ref q_laid_canSay, .ref q_laid_instead, .ref q_laid_traders, .ref q_laid_takes, .ref q_laid_needs, .int v_laid_speaks, .int v_laid_alikeFrom])), (q_laid_heard, .inl (ca 0, 24, .inl v_laid_heard))] H → va_D A [(q_this, .inr (7, [.ref q_text, .ref q_item, .ref q_stands, .ref q_crowd, .ref q_measure, .ref q_laid, .ref q_tried])), (q_measure, .inr (3, [.ref q_measure_row])), (q_measure_row, .inl (ca 0, 7, .inl o_9)), (q_laid, .inr (0, [.ref q_laid_words, .ref q_laid_heard, .ref q_laid_canSay, .ref q_laid_instead, .ref q_laid_traders, .ref q_laid_takes, .ref q_laid_needs, .int v_laid_speaks, .int v_laid_alikeFrom])), (q_laid_heard, .inl (ca 0, 24, .inl v_laid_heard))] → va_S A s.heap H locs → lv_has ls 6 [(2, .int o_8)] → W p l e (headSpec wsX8_joined rm_X8_joined).room s m args below meth c H locs 0 0 Q (F0 m 64 ls []) := by
      intro H locs ls hP hD hS hl
      refine lv_iload_n hx hb dX8_joined_64 rfl (lv_at hl 0 rfl) ?_
      cases h
      rw [← hQe]
      exact W.iret hx hb hr (fun t ht hW => ⟨⟨_, (), rfl, rfl, by rw [ht]; exact hP, va_K.moved hW.alike hK, hD⟩, hS.F ht⟩) hS.2.2 dX8_joined_65
    have hlp : ∀ (n : Nat) (x2_4 : Int32) (x3_5 : Int32) (x4_6 : Int32) (y_measure_row_7 : Nat → Int32) (o_8 : Int32) (o_9 : Nat → Int32) (H : Heap) (locs : List Loc) (ls : Array Slot), lpg (T := Int32 → Int32 → Int32 → (Nat → Int32) → Option (Int32 × (Nat → Int32))) (fun _ _ _ _ => none) (b_X8_joined_18 p1 v_laid_heard F) n x2_4 x3_5 x4_6 y_measure_row_7 = some (o_8, o_9) → (∀ (H : Heap) (locs : List Loc) (ls : Array Slot), va_P D vwCl [(q_this, .inr (7, [.ref q_text, .ref q_item, .ref q_stands, .ref q_crowd, .ref q_measure, .ref q_laid, .ref q_tried])), (q_measure, .inr (3, [.ref q_measure_row])), (q_measure_row, .inl (ca 0, 7, .inl o_9)), (q_laid, .inr (0, [.ref q_laid_words, .ref q_laid_heard, .ref q_laid_canSay, .ref q_laid_instead, .ref q_laid_traders, .ref q_laid_takes, .ref q_laid_needs, .int v_laid_speaks, .int v_laid_alikeFrom])), (q_laid_heard, .inl (ca 0, 24, .inl v_laid_heard))] H → va_D A [(q_this, .inr (7, [.ref q_text, .ref q_item, .ref q_stands, .ref q_crowd, .ref q_measure, .ref q_laid, .ref q_tried])), (q_measure, .inr (3, [.ref q_measure_row])), (q_measure_row, .inl (ca 0, 7, .inl o_9)), (q_laid, .inr (0, [.ref q_laid_words, .ref q_laid_heard, .ref q_laid_canSay, .ref q_laid_instead, .ref q_laid_traders, .ref q_laid_takes, .ref q_laid_needs, .int v_laid_speaks, .int v_laid_alikeFrom])), (q_laid_heard, .inl (ca 0, 24, .inl v_laid_heard))] → va_S A s.heap H locs → lv_has ls 6 [(2, .int o_8)] → W p l e (headSpec wsX8_joined rm_X8_joined).room s m args below meth c H locs 0 0 Q (F0 m 64 ls [])) → va_P D vwCl [(q_this, .inr (7, [.ref q_text, .ref q_item, .ref q_stands, .ref q_crowd, .ref q_measure, .ref q_laid, .ref q_tried])), (q_measure, .inr (3, [.ref q_measure_row])), (q_measure_row, .inl (ca 0, 7, .inl y_measure_row_7)), (q_laid, .inr (0, [.ref q_laid_words, .ref q_laid_heard, .ref q_laid_canSay, .ref q_laid_instead, .ref q_laid_traders, .ref q_laid_takes, .ref q_laid_needs, .int v_laid_speaks, .int v_laid_alikeFrom])), (q_laid_heard, .inl (ca 0, 24, .inl v_laid_heard))] H → va_D A [(q_this, .inr (7, [.ref q_text, .ref q_item, .ref q_stands, .ref q_crowd, .ref q_measure, .ref q_laid, .ref q_tried])), (q_measure, .inr (3, [.ref q_measure_row])), (q_measure_row, .inl (ca 0, 7, .inl y_measure_row_7)), (q_laid, .inr (0, [.ref q_laid_words, .ref q_laid_heard, .ref q_laid_canSay, .ref q_laid_instead, .ref q_laid_traders, .ref q_laid_takes, .ref q_laid_needs, .int v_laid_speaks, .int v_laid_alikeFrom])), (q_laid_heard, .inl (ca 0, 24, .inl v_laid_heard))] → va_S A s.heap H locs → lv_has ls 6 [(0, .ref q_this), (1, .int p1), (2, .int x2_4), (3, .int x3_5), (4, .int x4_6)] → W p l e (headSpec wsX8_joined rm_X8_joined).room s m args below meth c H locs 0 0 Q (F0 m 18 ls []) := by
      intro n
      induction n with
      | zero => intro x2_4 x3_5 x4_6 y_measure_row_7 o_8 o_9 H locs ls h; have h : (none : Option (Int32 × (Nat → Int32))) = some _ := h; cases h
      | succ n ih =>
        intro x2_4 x3_5 x4_6 y_measure_row_7 o_8 o_9 H locs ls h hex hP hD hS hl
        rw [lpg_succ, b_X8_joined_18] at h
        refine lv_iload hx hb dX8_joined_18 (lv_at hl 4 rfl) ?_
        refine lv_iconst (v := (nI 3)) hx hb dX8_joined_20 (by decide) ?_
        refine lv_icmp_ge (tgt := 64) hx hb dX8_joined_21 (by decide) (fun c_10 => ?_) (fun c_10 => ?_)
        · replace h := ifp_el c_10 h
          cases h
          exact hex _ _ _ hP hD hS (lv_sub hl [2] rfl)
        · replace h := ifn_el c_10 h
          refine lv_aload_n hx hb dX8_joined_24 rfl (lv_at hl 0 rfl) ?_
          refine va_get (D := D) (ci := 7) (v := .ref q_laid) (C := RX8) (T := TX8) (N := 7) hx hb hts i_X8 hown hK hP 0 rfl rfl 5 (by decide) k_49 (fun _ h9 => h9) rfl dX8_joined_25 ?_
          refine lv_iload hx hb dX8_joined_28 (lv_at hl 4 rfl) ?_
          refine lv_iload_n hx hb dX8_joined_30 rfl (lv_at hl 1 rfl) ?_
          obtain ⟨r_11, hg_12, h⟩ := bd1_el h
          refine kx_Vi (As := [.int x4_6, .int p1]) (rest := []) (wr := [(q_this, .inr (7, [.ref q_text, .ref q_item, .ref q_stands, .ref q_crowd, .ref q_measure, .ref q_laid, .ref q_tried])), (q_measure, .inr (3, [.ref q_measure_row])), (q_measure_row, .inl (ca 0, 7, .inl y_measure_row_7))]) (w1 := [(q_laid, .inr (0, [.ref q_laid_words, .ref q_laid_heard, .ref q_laid_canSay, .ref q_laid_instead, .ref q_laid_traders, .ref q_laid_takes, .ref q_laid_needs, .int v_laid_speaks, .int v_laid_alikeFrom])), (q_laid_heard, .inl (ca 0, 24, .inl v_laid_heard))]) (wn := [(q_this, .inr (7, [.ref q_text, .ref q_item, .ref q_stands, .ref q_crowd, .ref q_measure, .ref q_laid, .ref q_tried])), (q_measure, .inr (3, [.ref q_measure_row])), (q_measure_row, .inl (ca 0, 7, .inl y_measure_row_7)), (q_laid, .inr (0, [.ref q_laid_words, .ref q_laid_heard, .ref q_laid_canSay, .ref q_laid_instead, .ref q_laid_traders, .ref q_laid_takes, .ref q_laid_needs, .int v_laid_speaks, .int v_laid_alikeFrom])), (q_laid_heard, .inl (ca 0, 24, .inl v_laid_heard))]) ⟨hx, hb, hml, hown, hts⟩ (c_X0_heardBy l D ca H.size q_laid q_laid_words q_laid_heard q_laid_canSay q_laid_instead q_laid_traders q_laid_takes q_laid_needs x4_6 p1 v_laid_speaks v_laid_alikeFrom v_laid_heard r_11 hg_12) (cwV 2 hts gX8_joined_X0_heardBy rfl rfl rfl (by decide +kernel) ⟨(Nat.le_of_ble_eq_true rfl), (Nat.le_of_ble_eq_true rfl)⟩) hK hP hD hS hA (ci := 0) (q0 := 0) rfl rfl [3, 4] [0, 1, 2] [0, 1, 2, 3, 4] rfl rfl rfl rfl (by decide) rfl rfl rfl hl.1 rfl (Nat.le_of_ble_eq_true rfl) dX8_joined_31 ⟨Nat.zero_le _, Nat.zero_le _⟩ (fun H locs hP hD hS => ?_)
          refine lv_if_eq (tgt := 58) hx hb dX8_joined_34 (by decide) (fun c_13 => ?_) (fun c_13 => ?_)
          · replace h := ifp_el c_13 h
            obtain ⟨x4_14, e_15, h⟩ := nm_el h
            refine lv_iinc (v := x4_14) (lv' := [(4, .int x4_14), (0, .ref q_this), (1, .int p1), (2, .int x2_4), (3, .int x3_5)]) hx hb dX8_joined_58 hl (k := 4) rfl (by rw [← e_15]; rfl) (by decide) rfl (fun ls hl => ?_)
            refine lv_goto (tgt := 18) hx hb dX8_joined_61 (by decide) ?_
            exact ih _ _ _ _ _ _ _ _ _ h hex hP hD hS (lv_sub hl [1, 2, 3, 4, 0] rfl)
          · replace h := ifn_el c_13 h
            refine lv_aload_n hx hb dX8_joined_37 rfl (lv_at hl 0 rfl) ?_
            refine lv_iload hx hb dX8_joined_38 (lv_at hl 4 rfl) ?_
            refine lv_iload_n hx hb dX8_joined_40 rfl (lv_at hl 1 rfl) ?_
            obtain ⟨r_16, y_measure_row_17, hg_18, h⟩ := bd2_el h
            refine kx_Vi (As := [.int x4_6, .int p1]) (rest := []) (wr := []) (w1 := [(q_this, .inr (7, [.ref q_text, .ref q_item, .ref q_stands, .ref q_crowd, .ref q_measure, .ref q_laid, .ref q_tried])), (q_measure, .inr (3, [.ref q_measure_row])), (q_measure_row, .inl (ca 0, 7, .inl y_measure_row_17)), (q_laid, .inr (0, [.ref q_laid_words, .ref q_laid_heard, .ref q_laid_canSay, .ref q_laid_instead, .ref q_laid_traders, .ref q_laid_takes, .ref q_laid_needs, .int v_laid_speaks, .int v_laid_alikeFrom])), (q_laid_heard, .inl (ca 0, 24, .inl v_laid_heard))]) (wn := [(q_this, .inr (7, [.ref q_text, .ref q_item, .ref q_stands, .ref q_crowd, .ref q_measure, .ref q_laid, .ref q_tried])), (q_measure, .inr (3, [.ref q_measure_row])), (q_measure_row, .inl (ca 0, 7, .inl y_measure_row_17)), (q_laid, .inr (0, [.ref q_laid_words, .ref q_laid_heard, .ref q_laid_canSay, .ref q_laid_instead, .ref q_laid_traders, .ref q_laid_takes, .ref q_laid_needs, .int v_laid_speaks, .int v_laid_alikeFrom])), (q_laid_heard, .inl (ca 0, 24, .inl v_laid_heard))]) ⟨hx, hb, hml, hown, hts⟩ (c_X8_apartFromOtherEars l D ca F H.size q_this q_text q_item q_stands q_crowd q_measure q_measure_row q_laid q_laid_words q_laid_heard q_laid_canSay q_laid_instead q_laid_traders q_laid_takes q_laid_needs q_tried x4_6 p1 y_measure_row_7 v_laid_speaks v_laid_alikeFrom v_laid_heard r_16 y_measure_row_17 hg_18) (cwV 2 hts gX8_joined_X8_apartFromOtherEars rfl rfl rfl (by decide +kernel) ⟨(Nat.le_of_ble_eq_true rfl), (Nat.le_of_ble_eq_true rfl)⟩) hK hP hD hS hA (ci := 7) (q0 := 0) rfl rfl [0, 1, 2, 3, 4] [] [0, 1, 2, 3, 4] rfl rfl rfl rfl (by decide) rfl rfl rfl hl.1 rfl (Nat.le_of_ble_eq_true rfl) dX8_joined_41 ⟨Nat.zero_le _, Nat.zero_le _⟩ (fun H locs hP hD hS => ?_)
            refine lv_istore (lv' := [(5, .int r_16), (0, .ref q_this), (1, .int p1), (2, .int x2_4), (3, .int x3_5), (4, .int x4_6)]) hx hb dX8_joined_44 hl (by decide) rfl (fun ls hl => ?_)
            refine lv_iload hx hb dX8_joined_46 (lv_at hl 0 rfl) ?_
            refine lv_iload_n hx hb dX8_joined_48 rfl (lv_at hl 4 rfl) ?_
            refine lv_icmp_ge (tgt := 58) hx hb dX8_joined_49 (by decide) (fun c_19 => ?_) (fun c_19 => ?_)
            · replace h := ifp_el c_19 h
              obtain ⟨x4_20, e_21, h⟩ := nm_el h
              refine lv_iinc (v := x4_20) (lv' := [(4, .int x4_20), (5, .int r_16), (0, .ref q_this), (1, .int p1), (2, .int x2_4), (3, .int x3_5)]) hx hb dX8_joined_58 hl (k := 5) rfl (by rw [← e_21]; rfl) (by decide) rfl (fun ls hl => ?_)
              refine lv_goto (tgt := 18) hx hb dX8_joined_61 (by decide) ?_
              exact ih _ _ _ _ _ _ _ _ _ h hex hP hD hS (lv_sub hl [2, 3, 4, 5, 0] rfl)
            · replace h := ifn_el c_19 h
              refine lv_iload hx hb dX8_joined_52 (lv_at hl 0 rfl) ?_
              refine lv_istore_n (lv' := [(3, .int r_16), (5, .int r_16), (0, .ref q_this), (1, .int p1), (2, .int x2_4), (4, .int x4_6)]) hx hb dX8_joined_54 rfl hl (by decide) rfl (fun ls hl => ?_)
              refine lv_iload hx hb dX8_joined_55 (lv_at hl 5 rfl) ?_
              refine lv_istore_n (lv' := [(2, .int x4_6), (3, .int r_16), (5, .int r_16), (0, .ref q_this), (1, .int p1), (4, .int x4_6)]) hx hb dX8_joined_57 rfl hl (by decide) rfl (fun ls hl => ?_)
              obtain ⟨x4_22, e_23, h⟩ := nm_el h
              refine lv_iinc (v := x4_22) (lv' := [(4, .int x4_22), (2, .int x4_6), (3, .int r_16), (5, .int r_16), (0, .ref q_this), (1, .int p1)]) hx hb dX8_joined_58 hl (k := 5) rfl (by rw [← e_23]; rfl) (by decide) rfl (fun ls hl => ?_)
              refine lv_goto (tgt := 18) hx hb dX8_joined_61 (by decide) ?_
              exact ih _ _ _ _ _ _ _ _ _ h hex hP hD hS (lv_sub hl [4, 5, 1, 2, 0] rfl)
    exact hlp F (-4 : Int32) (nI 18) (nI 0) v_measure_row o_8 o_9 H locs ls hL hex hP hD hS (lv_sub hl [3, 4, 2, 1, 0] rfl)
  · replace h := ifp_el c_3 h
    refine lv_iconst (v := (-1 : Int32)) hx hb dX8_joined_7 (by decide) ?_
    cases h
    rw [← hQe]
    exact W.iret hx hb hr (fun t ht hW => ⟨⟨_, (), rfl, rfl, by rw [ht]; exact hP, va_K.moved hW.alike hK, hD⟩, hS.F ht⟩) hS.2.2 dX8_joined_8
def D_X8_isOfThousand (p1 : Int32) : Option (Int32) := (if p1 < 0 then some ((nI 0)) else (if (nI 1000) < p1 then some ((nI 0)) else some ((nI 1))))
abbrev rm_X8_isOfThousand : Room := { frames := 0, cells := 0, slots := 0, locals := 0 }
set_option maxHeartbeats 4000000 in
set_option maxRecDepth 100000 in
theorem c_X8_isOfThousand (l : Launch) (D : va_G) (ca : Nat → ClassId) (sz : Nat) (p1 : Int32) (r : Int32) (h : D_X8_isOfThousand p1 = some (r)) : Met l yX8_isOfThousand wsX8_isOfThousand rm_X8_isOfThousand (va_Pc [.int p1] (kPre D ca [] sz)) (kQi D ca (va_A [] sz) [] r) 0 0 (va_A [] sz) := by
  refine Met.ofW (cc := cX8_isOfThousand) (maxL := 1) (ret := (some .boolean)) (by decide +kernel) rfl ?_
  intro p e s m args below meth c s₁ B hml hv
  obtain ⟨rfl, hsz, hP, hK, hD0⟩ := hv
  have hx := B.exec
  have hb := B.bytes
  have hr := B.returns
  have hts := atoms_spec (ws := wsX8_isOfThousand) B.pre
  have hown : s.vm.findClass RX8 = some m.cls := findClass_of_methodNamed B.named
  have hlocks := B.notSynchronized
  clear B
  subst hsz
  have hD := hD0.self (sz := s.heap.size)
  generalize hAe : va_A [] s.heap.size = A at hD ⊢
  have hA : ∀ q : Nat, s.heap.size ≤ q → A q := fun q h => by rw [← hAe]; exact Or.inr h
  have hS : va_S A s.heap s.heap [] := va_S.rf
  have hl := lv_entry ([.int p1]) (n := 1) (Nat.le_of_ble_eq_true rfl)
  rw [lg_entry_eq]
  generalize (lg_sl ([.int p1]) ++ List.replicate (1 - (lg_sl ([.int p1])).length) Slot.unset).toArray = ls at hl ⊢
  have hl : lv_has ls 1 [(0, .int p1)] := hl
  generalize ([.int p1] : List Value).toArray = args at hts ⊢
  generalize hQe : MQ below (kQi D ca (A) [] r) args s 0 0 A = Q
  rw [D_X8_isOfThousand] at h
  refine lv_iload_n hx hb dX8_isOfThousand_0 rfl (lv_at hl 0 rfl) ?_
  refine lv_if_lt (tgt := 15) hx hb dX8_isOfThousand_1 (by decide) (fun c_1 => ?_) (fun c_1 => ?_)
  · replace h := ifp_el c_1 h
    refine lv_iconst (v := (nI 0)) hx hb dX8_isOfThousand_15 (by decide) ?_
    cases h
    rw [← hQe]
    exact W.zret hx hb hr rfl (fun t ht hW => ⟨⟨_, (), rfl, rfl, by rw [ht]; exact hP, va_K.moved hW.alike hK, hD⟩, hS.F ht⟩) hS.2.2 dX8_isOfThousand_16
  · replace h := ifn_el c_1 h
    refine lv_iload_n hx hb dX8_isOfThousand_4 rfl (lv_at hl 0 rfl) ?_
    refine lv_sipush (v := (nI 1000)) hx hb dX8_isOfThousand_5 (by decide) ?_
    refine lv_icmp_gt (tgt := 15) hx hb dX8_isOfThousand_8 (by decide) (fun c_2 => ?_) (fun c_2 => ?_)
    · replace h := ifp_el c_2 h
      refine lv_iconst (v := (nI 0)) hx hb dX8_isOfThousand_15 (by decide) ?_
      cases h
      rw [← hQe]
      exact W.zret hx hb hr rfl (fun t ht hW => ⟨⟨_, (), rfl, rfl, by rw [ht]; exact hP, va_K.moved hW.alike hK, hD⟩, hS.F ht⟩) hS.2.2 dX8_isOfThousand_16
    · replace h := ifn_el c_2 h
      refine lv_iconst (v := (nI 1)) hx hb dX8_isOfThousand_11 (by decide) ?_
      refine lv_goto (tgt := 16) hx hb dX8_isOfThousand_12 (by decide) ?_
      cases h
      rw [← hQe]
      exact W.zret hx hb hr rfl (fun t ht hW => ⟨⟨_, (), rfl, rfl, by rw [ht]; exact hP, va_K.moved hW.alike hK, hD⟩, hS.F ht⟩) hS.2.2 dX8_isOfThousand_16
def D_X8_isBent (p1 : Int32) : Option (Int32) := (if p1 < (nI 1) then some ((nI 0)) else (if (nI 3) < p1 then some ((nI 0)) else some ((nI 1))))
abbrev rm_X8_isBent : Room := { frames := 0, cells := 0, slots := 0, locals := 0 }
set_option maxHeartbeats 4000000 in
set_option maxRecDepth 100000 in
theorem c_X8_isBent (l : Launch) (D : va_G) (ca : Nat → ClassId) (sz : Nat) (p1 : Int32) (r : Int32) (h : D_X8_isBent p1 = some (r)) : Met l yX8_isBent wsX8_isBent rm_X8_isBent (va_Pc [.int p1] (kPre D ca [] sz)) (kQi D ca (va_A [] sz) [] r) 0 0 (va_A [] sz) := by
  refine Met.ofW (cc := cX8_isBent) (maxL := 1) (ret := (some .boolean)) (by decide +kernel) rfl ?_
  intro p e s m args below meth c s₁ B hml hv
  obtain ⟨rfl, hsz, hP, hK, hD0⟩ := hv
  have hx := B.exec
  have hb := B.bytes
  have hr := B.returns
  have hts := atoms_spec (ws := wsX8_isBent) B.pre
  have hown : s.vm.findClass RX8 = some m.cls := findClass_of_methodNamed B.named
  have hlocks := B.notSynchronized
  clear B
  subst hsz
  have hD := hD0.self (sz := s.heap.size)
  generalize hAe : va_A [] s.heap.size = A at hD ⊢
  have hA : ∀ q : Nat, s.heap.size ≤ q → A q := fun q h => by rw [← hAe]; exact Or.inr h
  have hS : va_S A s.heap s.heap [] := va_S.rf
  have hl := lv_entry ([.int p1]) (n := 1) (Nat.le_of_ble_eq_true rfl)
  rw [lg_entry_eq]
  generalize (lg_sl ([.int p1]) ++ List.replicate (1 - (lg_sl ([.int p1])).length) Slot.unset).toArray = ls at hl ⊢
  have hl : lv_has ls 1 [(0, .int p1)] := hl
  generalize ([.int p1] : List Value).toArray = args at hts ⊢
  generalize hQe : MQ below (kQi D ca (A) [] r) args s 0 0 A = Q
  rw [D_X8_isBent] at h
  refine lv_iload_n hx hb dX8_isBent_0 rfl (lv_at hl 0 rfl) ?_
  refine lv_iconst (v := (nI 1)) hx hb dX8_isBent_1 (by decide) ?_
  refine lv_icmp_lt (tgt := 14) hx hb dX8_isBent_2 (by decide) (fun c_1 => ?_) (fun c_1 => ?_)
  · replace h := ifp_el c_1 h
    refine lv_iconst (v := (nI 0)) hx hb dX8_isBent_14 (by decide) ?_
    cases h
    rw [← hQe]
    exact W.zret hx hb hr rfl (fun t ht hW => ⟨⟨_, (), rfl, rfl, by rw [ht]; exact hP, va_K.moved hW.alike hK, hD⟩, hS.F ht⟩) hS.2.2 dX8_isBent_15
  · replace h := ifn_el c_1 h
    refine lv_iload_n hx hb dX8_isBent_5 rfl (lv_at hl 0 rfl) ?_
    refine lv_iconst (v := (nI 3)) hx hb dX8_isBent_6 (by decide) ?_
    refine lv_icmp_gt (tgt := 14) hx hb dX8_isBent_7 (by decide) (fun c_2 => ?_) (fun c_2 => ?_)
    · replace h := ifp_el c_2 h
      refine lv_iconst (v := (nI 0)) hx hb dX8_isBent_14 (by decide) ?_
      cases h
      rw [← hQe]
      exact W.zret hx hb hr rfl (fun t ht hW => ⟨⟨_, (), rfl, rfl, by rw [ht]; exact hP, va_K.moved hW.alike hK, hD⟩, hS.F ht⟩) hS.2.2 dX8_isBent_15
    · replace h := ifn_el c_2 h
      refine lv_iconst (v := (nI 1)) hx hb dX8_isBent_10 (by decide) ?_
      refine lv_goto (tgt := 15) hx hb dX8_isBent_11 (by decide) ?_
      cases h
      rw [← hQe]
      exact W.zret hx hb hr rfl (fun t ht hW => ⟨⟨_, (), rfl, rfl, by rw [ht]; exact hP, va_K.moved hW.alike hK, hD⟩, hS.F ht⟩) hS.2.2 dX8_isBent_15
def b_X8_nextGeneration_8 (p1 : Int32) (p2 : Int32) (rec8 : Int64 → Int64 → Int32 → Option (Int64 × Int64)) (x2_1 : Int64) (x4_2 : Int64) (x6_3 : Int32) : Option (Int64 × Int64) := (if p2 ≤ x6_3 then some (x2_1, x4_2) else nm (x2_1 * p1.toInt64) (fun x2_7 => nm (x4_2 * (((nI 1000) - p1).toInt64)) (fun x4_8 => nm (x6_3 + (nI 1)) (fun x6_9 => rec8 x2_7 x4_8 x6_9))))
def D_X8_nextGeneration (F : Nat) (p1 : Int32) (p2 : Int32) : Option (Int32) := bd2 (lpg (T := Int64 → Int64 → Int32 → Option (Int64 × Int64)) (fun _ _ _ => none) (b_X8_nextGeneration_8 p1 p2) F (lN 1) (lN 1) (nI 0)) (fun o_4 o_5 => dzl (o_4 + o_5) (some (((o_4 * (lN 1000)) / (o_4 + o_5)).toInt32)))
abbrev rm_X8_nextGeneration : Room := { frames := 0, cells := 0, slots := 0, locals := 0 }
set_option maxHeartbeats 4000000 in
set_option maxRecDepth 100000 in
theorem c_X8_nextGeneration (l : Launch) (D : va_G) (ca : Nat → ClassId) (F : Nat) (sz : Nat) (p1 : Int32) (p2 : Int32) (r : Int32) (h : D_X8_nextGeneration F p1 p2 = some (r)) : Met l yX8_nextGeneration wsX8_nextGeneration rm_X8_nextGeneration (va_Pc [.int p1, .int p2] (kPre D ca [] sz)) (kQi D ca (va_A [] sz) [] r) 0 0 (va_A [] sz) := by
  refine Met.ofW (cc := cX8_nextGeneration) (maxL := 7) (ret := (some .int)) (by decide +kernel) rfl ?_
  intro p e s m args below meth c s₁ B hml hv
  obtain ⟨rfl, hsz, hP, hK, hD0⟩ := hv
  have hx := B.exec
  have hb := B.bytes
  have hr := B.returns
  have hts := atoms_spec (ws := wsX8_nextGeneration) B.pre
  have hown : s.vm.findClass RX8 = some m.cls := findClass_of_methodNamed B.named
  have hlocks := B.notSynchronized
  clear B
  subst hsz
  have hD := hD0.self (sz := s.heap.size)
  generalize hAe : va_A [] s.heap.size = A at hD ⊢
  have hA : ∀ q : Nat, s.heap.size ≤ q → A q := fun q h => by rw [← hAe]; exact Or.inr h
  have hS : va_S A s.heap s.heap [] := va_S.rf
  have hl := lv_entry ([.int p1, .int p2]) (n := 7) (Nat.le_of_ble_eq_true rfl)
  rw [lg_entry_eq]
  generalize (lg_sl ([.int p1, .int p2]) ++ List.replicate (7 - (lg_sl ([.int p1, .int p2])).length) Slot.unset).toArray = ls at hl ⊢
  have hl : lv_has ls 7 [(0, .int p1), (1, .int p2)] := hl
  generalize ([.int p1, .int p2] : List Value).toArray = args at hts ⊢
  generalize hQe : MQ below (kQi D ca (A) [] r) args s 0 0 A = Q
  have k_146 := hts (.constantLong RX8 146 (lN 1000)) (by decide +kernel)
  rw [D_X8_nextGeneration] at h
  refine lv_lconst (v := (lN 1)) hx hb dX8_nextGeneration_0 (by decide) ?_
  refine lv_lstore_n (lv' := [(2, .long (lN 1)), (0, .int p1), (1, .int p2)]) hx hb dX8_nextGeneration_1 rfl hl (by decide) rfl (fun ls hl => ?_)
  refine lv_lconst (v := (lN 1)) hx hb dX8_nextGeneration_2 (by decide) ?_
  refine lv_lstore (lv' := [(4, .long (lN 1)), (2, .long (lN 1)), (0, .int p1), (1, .int p2)]) hx hb dX8_nextGeneration_3 hl (by decide) rfl (fun ls hl => ?_)
  refine lv_iconst (v := (nI 0)) hx hb dX8_nextGeneration_5 (by decide) ?_
  refine lv_istore (lv' := [(6, .int (nI 0)), (4, .long (lN 1)), (2, .long (lN 1)), (0, .int p1), (1, .int p2)]) hx hb dX8_nextGeneration_6 hl (by decide) rfl (fun ls hl => ?_)
  obtain ⟨o_4, o_5, hL, h⟩ := bd2_el h
  have hex : ∀ (H : Heap) (locs : List Loc) (ls : Array Slot), va_P D vwCl [] H → va_D A [] → va_S A s.heap H locs → lv_has ls 7 [(2, .long o_4), (4, .long o_5)] → W p l e (headSpec wsX8_nextGeneration rm_X8_nextGeneration).room s m args below meth c H locs 0 0 Q (F0 m 36 ls []) := by
    intro H locs ls hP hD hS hl
    refine lv_lload_n hx hb dX8_nextGeneration_36 rfl (lv_at hl 0 rfl) ?_
    refine lv_ldc2 hx hb hown k_146 dX8_nextGeneration_37 ?_
    refine lv_lmul hx hb dX8_nextGeneration_40 ?_
    refine lv_lload_n hx hb dX8_nextGeneration_41 rfl (lv_at hl 0 rfl) ?_
    refine lv_lload hx hb dX8_nextGeneration_42 (lv_at hl 1 rfl) ?_
    refine lv_ladd hx hb dX8_nextGeneration_44 ?_
    obtain ⟨hn_11, h⟩ := dzl_el h
    refine lv_ldiv hx hb dX8_nextGeneration_45 hn_11 ?_
    refine lv_l2i hx hb dX8_nextGeneration_46 rfl ?_
    cases h
    rw [← hQe]
    exact W.iret hx hb hr (fun t ht hW => ⟨⟨_, (), rfl, rfl, by rw [ht]; exact hP, va_K.moved hW.alike hK, hD⟩, hS.F ht⟩) hS.2.2 dX8_nextGeneration_47
  have hlp : ∀ (n : Nat) (x2_1 : Int64) (x4_2 : Int64) (x6_3 : Int32) (o_4 : Int64) (o_5 : Int64) (H : Heap) (locs : List Loc) (ls : Array Slot), lpg (T := Int64 → Int64 → Int32 → Option (Int64 × Int64)) (fun _ _ _ => none) (b_X8_nextGeneration_8 p1 p2) n x2_1 x4_2 x6_3 = some (o_4, o_5) → (∀ (H : Heap) (locs : List Loc) (ls : Array Slot), va_P D vwCl [] H → va_D A [] → va_S A s.heap H locs → lv_has ls 7 [(2, .long o_4), (4, .long o_5)] → W p l e (headSpec wsX8_nextGeneration rm_X8_nextGeneration).room s m args below meth c H locs 0 0 Q (F0 m 36 ls [])) → va_P D vwCl [] H → va_D A [] → va_S A s.heap H locs → lv_has ls 7 [(0, .int p1), (1, .int p2), (2, .long x2_1), (4, .long x4_2), (6, .int x6_3)] → W p l e (headSpec wsX8_nextGeneration rm_X8_nextGeneration).room s m args below meth c H locs 0 0 Q (F0 m 8 ls []) := by
    intro n
    induction n with
    | zero => intro x2_1 x4_2 x6_3 o_4 o_5 H locs ls h; have h : (none : Option (Int64 × Int64)) = some _ := h; cases h
    | succ n ih =>
      intro x2_1 x4_2 x6_3 o_4 o_5 H locs ls h hex hP hD hS hl
      rw [lpg_succ, b_X8_nextGeneration_8] at h
      refine lv_iload hx hb dX8_nextGeneration_8 (lv_at hl 4 rfl) ?_
      refine lv_iload_n hx hb dX8_nextGeneration_10 rfl (lv_at hl 1 rfl) ?_
      refine lv_icmp_ge (tgt := 36) hx hb dX8_nextGeneration_11 (by decide) (fun c_6 => ?_) (fun c_6 => ?_)
      · replace h := ifp_el c_6 h
        cases h
        exact hex _ _ _ hP hD hS (lv_sub hl [2, 3] rfl)
      · replace h := ifn_el c_6 h
        refine lv_lload_n hx hb dX8_nextGeneration_14 rfl (lv_at hl 2 rfl) ?_
        refine lv_iload_n hx hb dX8_nextGeneration_15 rfl (lv_at hl 0 rfl) ?_
        refine lv_i2l hx hb dX8_nextGeneration_16 rfl ?_
        refine lv_lmul hx hb dX8_nextGeneration_17 ?_
        refine lv_nml h (fun x2_7 h => ?_)
        refine lv_lstore_n (lv' := [(2, .long x2_7), (0, .int p1), (1, .int p2), (4, .long x4_2), (6, .int x6_3)]) hx hb dX8_nextGeneration_18 rfl hl (by decide) rfl (fun ls hl => ?_)
        refine lv_lload hx hb dX8_nextGeneration_19 (lv_at hl 3 rfl) ?_
        refine lv_sipush (v := (nI 1000)) hx hb dX8_nextGeneration_21 (by decide) ?_
        refine lv_iload_n hx hb dX8_nextGeneration_24 rfl (lv_at hl 1 rfl) ?_
        refine lv_isub hx hb dX8_nextGeneration_25 ?_
        refine lv_i2l hx hb dX8_nextGeneration_26 rfl ?_
        refine lv_lmul hx hb dX8_nextGeneration_27 ?_
        refine lv_nml h (fun x4_8 h => ?_)
        refine lv_lstore (lv' := [(4, .long x4_8), (2, .long x2_7), (0, .int p1), (1, .int p2), (6, .int x6_3)]) hx hb dX8_nextGeneration_28 hl (by decide) rfl (fun ls hl => ?_)
        obtain ⟨x6_9, e_10, h⟩ := nm_el h
        refine lv_iinc (v := x6_9) (lv' := [(6, .int x6_9), (4, .long x4_8), (2, .long x2_7), (0, .int p1), (1, .int p2)]) hx hb dX8_nextGeneration_30 hl (k := 4) rfl (by rw [← e_10]; rfl) (by decide) rfl (fun ls hl => ?_)
        refine lv_goto (tgt := 8) hx hb dX8_nextGeneration_33 (by decide) ?_
        exact ih _ _ _ _ _ _ _ _ h hex hP hD hS (lv_sub hl [3, 4, 2, 1, 0] rfl)
  exact hlp F (lN 1) (lN 1) (nI 0) o_4 o_5 s.heap [] ls hL hex hP hD hS (lv_sub hl [3, 4, 2, 1, 0] rfl)
def b_X8_children_32 (p2 : Int32) (p3 : Int32) (F : Nat) (rec32 : Int32 → Int32 → Option (Int32)) (x4_9 : Int32) (x5_10 : Int32) : Option (Int32) := (if p3 ≤ x5_10 then some (x4_9) else bd1 (D_X8_nextGeneration F x4_9 p2) (fun r_13 => nm (x5_10 + (nI 1)) (fun x5_15 => rec32 r_13 x5_15)))
def D_X8_children (F : Nat) (p1 : Int32) (p2 : Int32) (p3 : Int32) : Option (Int32) := bd1 (D_X8_isOfThousand p1) (fun r_1 => (if r_1 = 0 then some ((-1 : Int32)) else bd1 (D_X8_isBent p2) (fun r_4 => (if r_4 = 0 then some ((-1 : Int32)) else (if p3 < 0 then some ((-1 : Int32)) else (if p3 ≤ (nI 20) then bd1 (lpg (T := Int32 → Int32 → Option (Int32)) (fun _ _ => none) (b_X8_children_32 p2 p3 F) F p1 (nI 0)) (fun o_11 => some (o_11)) else some ((-1 : Int32))))))))
abbrev rm_X8_children : Room := { frames := 1, cells := 0, slots := 0, locals := 26 }
set_option maxHeartbeats 4000000 in
set_option maxRecDepth 100000 in
theorem c_X8_children (l : Launch) (D : va_G) (ca : Nat → ClassId) (F : Nat) (sz : Nat) (q_this : Nat) (p1 : Int32) (p2 : Int32) (p3 : Int32) (r : Int32) (h : D_X8_children F p1 p2 p3 = some (r)) : Met l yX8_children wsX8_children rm_X8_children (va_Pc [.ref q_this, .int p1, .int p2, .int p3] (kPre D ca [] sz)) (kQi D ca (va_A [] sz) [] r) 0 0 (va_A [] sz) := by
  refine Met.ofW (cc := cX8_children) (maxL := 6) (ret := (some .int)) (by decide +kernel) rfl ?_
  intro p e s m args below meth c s₁ B hml hv
  obtain ⟨rfl, hsz, hP, hK, hD0⟩ := hv
  have hx := B.exec
  have hb := B.bytes
  have hr := B.returns
  have hts := atoms_spec (ws := wsX8_children) B.pre
  have hown : s.vm.findClass RX8 = some m.cls := findClass_of_methodNamed B.named
  have hlocks := B.notSynchronized
  clear B
  subst hsz
  have hD := hD0.self (sz := s.heap.size)
  generalize hAe : va_A [] s.heap.size = A at hD ⊢
  have hA : ∀ q : Nat, s.heap.size ≤ q → A q := fun q h => by rw [← hAe]; exact Or.inr h
  have hS : va_S A s.heap s.heap [] := va_S.rf
  have hl := lv_entry ([.ref q_this, .int p1, .int p2, .int p3]) (n := 6) (Nat.le_of_ble_eq_true rfl)
  rw [lg_entry_eq]
  generalize (lg_sl ([.ref q_this, .int p1, .int p2, .int p3]) ++ List.replicate (6 - (lg_sl ([.ref q_this, .int p1, .int p2, .int p3])).length) Slot.unset).toArray = ls at hl ⊢
  have hl : lv_has ls 6 [(0, .ref q_this), (1, .int p1), (2, .int p2), (3, .int p3)] := hl
  generalize ([.ref q_this, .int p1, .int p2, .int p3] : List Value).toArray = args at hts ⊢
  generalize hQe : MQ below (kQi D ca (A) [] r) args s 0 0 A = Q
  rw [D_X8_children] at h
  refine lv_iload_n hx hb dX8_children_0 rfl (lv_at hl 1 rfl) ?_
  obtain ⟨r_1, hg_2, h⟩ := bd1_el h
  refine kx_Si (As := [.int p1]) (rest := []) (wr := []) (w1 := []) (wn := []) ⟨hx, hb, hml, hown, hts⟩ (c_X8_isOfThousand l D ca s.heap.size p1 r_1 hg_2) (va_cwS 1 hts gX8_children_X8_isOfThousand rfl rfl rfl (by decide +kernel) ⟨(Nat.le_of_ble_eq_true rfl), (Nat.le_of_ble_eq_true rfl)⟩) hK hP hD hS hA [] [] [] rfl rfl rfl rfl (by decide) rfl rfl rfl hl.1 rfl (Nat.le_of_ble_eq_true rfl) dX8_children_1 ⟨Nat.zero_le _, Nat.zero_le _⟩ (fun H locs hP hD hS => ?_)
  refine lv_if_eq (tgt := 24) hx hb dX8_children_4 (by decide) (fun c_3 => ?_) (fun c_3 => ?_)
  · replace h := ifp_el c_3 h
    refine lv_iconst (v := (-1 : Int32)) hx hb dX8_children_24 (by decide) ?_
    cases h
    rw [← hQe]
    exact W.iret hx hb hr (fun t ht hW => ⟨⟨_, (), rfl, rfl, by rw [ht]; exact hP, va_K.moved hW.alike hK, hD⟩, hS.F ht⟩) hS.2.2 dX8_children_25
  · replace h := ifn_el c_3 h
    refine lv_iload_n hx hb dX8_children_7 rfl (lv_at hl 2 rfl) ?_
    obtain ⟨r_4, hg_5, h⟩ := bd1_el h
    refine kx_Si (As := [.int p2]) (rest := []) (wr := []) (w1 := []) (wn := []) ⟨hx, hb, hml, hown, hts⟩ (c_X8_isBent l D ca H.size p2 r_4 hg_5) (va_cwS 1 hts gX8_children_X8_isBent rfl rfl rfl (by decide +kernel) ⟨(Nat.le_of_ble_eq_true rfl), (Nat.le_of_ble_eq_true rfl)⟩) hK hP hD hS hA [] [] [] rfl rfl rfl rfl (by decide) rfl rfl rfl hl.1 rfl (Nat.le_of_ble_eq_true rfl) dX8_children_8 ⟨Nat.zero_le _, Nat.zero_le _⟩ (fun H locs hP hD hS => ?_)
    refine lv_if_eq (tgt := 24) hx hb dX8_children_11 (by decide) (fun c_6 => ?_) (fun c_6 => ?_)
    · replace h := ifp_el c_6 h
      refine lv_iconst (v := (-1 : Int32)) hx hb dX8_children_24 (by decide) ?_
      cases h
      rw [← hQe]
      exact W.iret hx hb hr (fun t ht hW => ⟨⟨_, (), rfl, rfl, by rw [ht]; exact hP, va_K.moved hW.alike hK, hD⟩, hS.F ht⟩) hS.2.2 dX8_children_25
    · replace h := ifn_el c_6 h
      refine lv_iload_n hx hb dX8_children_14 rfl (lv_at hl 3 rfl) ?_
      refine lv_if_lt (tgt := 24) hx hb dX8_children_15 (by decide) (fun c_7 => ?_) (fun c_7 => ?_)
      · replace h := ifp_el c_7 h
        refine lv_iconst (v := (-1 : Int32)) hx hb dX8_children_24 (by decide) ?_
        cases h
        rw [← hQe]
        exact W.iret hx hb hr (fun t ht hW => ⟨⟨_, (), rfl, rfl, by rw [ht]; exact hP, va_K.moved hW.alike hK, hD⟩, hS.F ht⟩) hS.2.2 dX8_children_25
      · replace h := ifn_el c_7 h
        refine lv_iload_n hx hb dX8_children_18 rfl (lv_at hl 3 rfl) ?_
        refine lv_bipush (v := (nI 20)) hx hb dX8_children_19 (by decide) ?_
        refine lv_icmp_le (tgt := 26) hx hb dX8_children_21 (by decide) (fun c_8 => ?_) (fun c_8 => ?_)
        · replace h := ifp_el c_8 h
          refine lv_iload_n hx hb dX8_children_26 rfl (lv_at hl 1 rfl) ?_
          refine lv_istore (lv' := [(4, .int p1), (0, .ref q_this), (1, .int p1), (2, .int p2), (3, .int p3)]) hx hb dX8_children_27 hl (by decide) rfl (fun ls hl => ?_)
          refine lv_iconst (v := (nI 0)) hx hb dX8_children_29 (by decide) ?_
          refine lv_istore (lv' := [(5, .int (nI 0)), (4, .int p1), (0, .ref q_this), (1, .int p1), (2, .int p2), (3, .int p3)]) hx hb dX8_children_30 hl (by decide) rfl (fun ls hl => ?_)
          obtain ⟨o_11, hL, h⟩ := bd1_el h
          have hex : ∀ (H : Heap) (locs : List Loc) (ls : Array Slot), va_P D vwCl [] H → va_D A [] → va_S A s.heap H locs → lv_has ls 6 [(4, .int o_11)] → W p l e (headSpec wsX8_children rm_X8_children).room s m args below meth c H locs 0 0 Q (F0 m 52 ls []) := by
            intro H locs ls hP hD hS hl
            refine lv_iload hx hb dX8_children_52 (lv_at hl 0 rfl) ?_
            cases h
            rw [← hQe]
            exact W.iret hx hb hr (fun t ht hW => ⟨⟨_, (), rfl, rfl, by rw [ht]; exact hP, va_K.moved hW.alike hK, hD⟩, hS.F ht⟩) hS.2.2 dX8_children_54
          have hlp : ∀ (n : Nat) (x4_9 : Int32) (x5_10 : Int32) (o_11 : Int32) (H : Heap) (locs : List Loc) (ls : Array Slot), lpg (T := Int32 → Int32 → Option (Int32)) (fun _ _ => none) (b_X8_children_32 p2 p3 F) n x4_9 x5_10 = some (o_11) → (∀ (H : Heap) (locs : List Loc) (ls : Array Slot), va_P D vwCl [] H → va_D A [] → va_S A s.heap H locs → lv_has ls 6 [(4, .int o_11)] → W p l e (headSpec wsX8_children rm_X8_children).room s m args below meth c H locs 0 0 Q (F0 m 52 ls [])) → va_P D vwCl [] H → va_D A [] → va_S A s.heap H locs → lv_has ls 6 [(2, .int p2), (3, .int p3), (4, .int x4_9), (5, .int x5_10)] → W p l e (headSpec wsX8_children rm_X8_children).room s m args below meth c H locs 0 0 Q (F0 m 32 ls []) := by
            intro n
            induction n with
            | zero => intro x4_9 x5_10 o_11 H locs ls h; have h : (none : Option (Int32)) = some _ := h; cases h
            | succ n ih =>
              intro x4_9 x5_10 o_11 H locs ls h hex hP hD hS hl
              rw [lpg_succ, b_X8_children_32] at h
              refine lv_iload hx hb dX8_children_32 (lv_at hl 3 rfl) ?_
              refine lv_iload_n hx hb dX8_children_34 rfl (lv_at hl 1 rfl) ?_
              refine lv_icmp_ge (tgt := 52) hx hb dX8_children_35 (by decide) (fun c_12 => ?_) (fun c_12 => ?_)
              · replace h := ifp_el c_12 h
                cases h
                exact hex _ _ _ hP hD hS (lv_sub hl [2] rfl)
              · replace h := ifn_el c_12 h
                refine lv_iload hx hb dX8_children_38 (lv_at hl 2 rfl) ?_
                refine lv_iload_n hx hb dX8_children_40 rfl (lv_at hl 0 rfl) ?_
                obtain ⟨r_13, hg_14, h⟩ := bd1_el h
                refine kx_Si (As := [.int x4_9, .int p2]) (rest := []) (wr := []) (w1 := []) (wn := []) ⟨hx, hb, hml, hown, hts⟩ (c_X8_nextGeneration l D ca F H.size x4_9 p2 r_13 hg_14) (va_cwS 2 hts gX8_children_X8_nextGeneration rfl rfl rfl (by decide +kernel) ⟨(Nat.le_of_ble_eq_true rfl), (Nat.le_of_ble_eq_true rfl)⟩) hK hP hD hS hA [] [] [] rfl rfl rfl rfl (by decide) rfl rfl rfl hl.1 rfl (Nat.le_of_ble_eq_true rfl) dX8_children_41 ⟨Nat.zero_le _, Nat.zero_le _⟩ (fun H locs hP hD hS => ?_)
                refine lv_istore (lv' := [(4, .int r_13), (2, .int p2), (3, .int p3), (5, .int x5_10)]) hx hb dX8_children_44 hl (by decide) rfl (fun ls hl => ?_)
                obtain ⟨x5_15, e_16, h⟩ := nm_el h
                refine lv_iinc (v := x5_15) (lv' := [(5, .int x5_15), (4, .int r_13), (2, .int p2), (3, .int p3)]) hx hb dX8_children_46 hl (k := 3) rfl (by rw [← e_16]; rfl) (by decide) rfl (fun ls hl => ?_)
                refine lv_goto (tgt := 32) hx hb dX8_children_49 (by decide) ?_
                exact ih _ _ _ _ _ _ h hex hP hD hS (lv_sub hl [2, 3, 1, 0] rfl)
          exact hlp F p1 (nI 0) o_11 H locs ls hL hex hP hD hS (lv_sub hl [4, 5, 1, 0] rfl)
        · replace h := ifn_el c_8 h
          refine lv_iconst (v := (-1 : Int32)) hx hb dX8_children_24 (by decide) ?_
          cases h
          rw [← hQe]
          exact W.iret hx hb hr (fun t ht hW => ⟨⟨_, (), rfl, rfl, by rw [ht]; exact hP, va_K.moved hW.alike hK, hD⟩, hS.F ht⟩) hS.2.2 dX8_children_25
def b_X8_even_21 (p2 : Int32) (F : Nat) (rec21 : Int32 → Int32 → Option (Int32)) (x3_7 : Int32) (x4_8 : Int32) : Option (Int32) := (if (nI 20) < x4_8 then some ((-4 : Int32)) else (if (nI 950) ≤ x3_7 then some (x4_8) else (if (nI 50) < x3_7 then bd1 (D_X8_nextGeneration F x3_7 p2) (fun r_12 => nm (x4_8 + (nI 1)) (fun x4_14 => rec21 r_12 x4_14)) else some (x4_8))))
def D_X8_even (F : Nat) (p1 : Int32) (p2 : Int32) : Option (Int32) := bd1 (D_X8_isOfThousand p1) (fun r_1 => (if r_1 = 0 then some ((-1 : Int32)) else bd1 (D_X8_isBent p2) (fun r_4 => (if r_4 = 0 then some ((-1 : Int32)) else lpg (T := Int32 → Int32 → Option (Int32)) (fun _ _ => none) (b_X8_even_21 p2 F) F p1 (nI 0)))))
abbrev rm_X8_even : Room := { frames := 1, cells := 0, slots := 0, locals := 26 }
set_option maxHeartbeats 4000000 in
set_option maxRecDepth 100000 in
theorem c_X8_even (l : Launch) (D : va_G) (ca : Nat → ClassId) (F : Nat) (sz : Nat) (q_this : Nat) (p1 : Int32) (p2 : Int32) (r : Int32) (h : D_X8_even F p1 p2 = some (r)) : Met l yX8_even wsX8_even rm_X8_even (va_Pc [.ref q_this, .int p1, .int p2] (kPre D ca [] sz)) (kQi D ca (va_A [] sz) [] r) 0 0 (va_A [] sz) := by
  refine Met.ofW (cc := cX8_even) (maxL := 5) (ret := (some .int)) (by decide +kernel) rfl ?_
  intro p e s m args below meth c s₁ B hml hv
  obtain ⟨rfl, hsz, hP, hK, hD0⟩ := hv
  have hx := B.exec
  have hb := B.bytes
  have hr := B.returns
  have hts := atoms_spec (ws := wsX8_even) B.pre
  have hown : s.vm.findClass RX8 = some m.cls := findClass_of_methodNamed B.named
  have hlocks := B.notSynchronized
  clear B
  subst hsz
  have hD := hD0.self (sz := s.heap.size)
  generalize hAe : va_A [] s.heap.size = A at hD ⊢
  have hA : ∀ q : Nat, s.heap.size ≤ q → A q := fun q h => by rw [← hAe]; exact Or.inr h
  have hS : va_S A s.heap s.heap [] := va_S.rf
  have hl := lv_entry ([.ref q_this, .int p1, .int p2]) (n := 5) (Nat.le_of_ble_eq_true rfl)
  rw [lg_entry_eq]
  generalize (lg_sl ([.ref q_this, .int p1, .int p2]) ++ List.replicate (5 - (lg_sl ([.ref q_this, .int p1, .int p2])).length) Slot.unset).toArray = ls at hl ⊢
  have hl : lv_has ls 5 [(0, .ref q_this), (1, .int p1), (2, .int p2)] := hl
  generalize ([.ref q_this, .int p1, .int p2] : List Value).toArray = args at hts ⊢
  generalize hQe : MQ below (kQi D ca (A) [] r) args s 0 0 A = Q
  rw [D_X8_even] at h
  refine lv_iload_n hx hb dX8_even_0 rfl (lv_at hl 1 rfl) ?_
  obtain ⟨r_1, hg_2, h⟩ := bd1_el h
  refine kx_Si (As := [.int p1]) (rest := []) (wr := []) (w1 := []) (wn := []) ⟨hx, hb, hml, hown, hts⟩ (c_X8_isOfThousand l D ca s.heap.size p1 r_1 hg_2) (va_cwS 1 hts gX8_even_X8_isOfThousand rfl rfl rfl (by decide +kernel) ⟨(Nat.le_of_ble_eq_true rfl), (Nat.le_of_ble_eq_true rfl)⟩) hK hP hD hS hA [] [] [] rfl rfl rfl rfl (by decide) rfl rfl rfl hl.1 rfl (Nat.le_of_ble_eq_true rfl) dX8_even_1 ⟨Nat.zero_le _, Nat.zero_le _⟩ (fun H locs hP hD hS => ?_)
  refine lv_if_eq (tgt := 14) hx hb dX8_even_4 (by decide) (fun c_3 => ?_) (fun c_3 => ?_)
  · replace h := ifp_el c_3 h
    refine lv_iconst (v := (-1 : Int32)) hx hb dX8_even_14 (by decide) ?_
    cases h
    rw [← hQe]
    exact W.iret hx hb hr (fun t ht hW => ⟨⟨_, (), rfl, rfl, by rw [ht]; exact hP, va_K.moved hW.alike hK, hD⟩, hS.F ht⟩) hS.2.2 dX8_even_15
  · replace h := ifn_el c_3 h
    refine lv_iload_n hx hb dX8_even_7 rfl (lv_at hl 2 rfl) ?_
    obtain ⟨r_4, hg_5, h⟩ := bd1_el h
    refine kx_Si (As := [.int p2]) (rest := []) (wr := []) (w1 := []) (wn := []) ⟨hx, hb, hml, hown, hts⟩ (c_X8_isBent l D ca H.size p2 r_4 hg_5) (va_cwS 1 hts gX8_even_X8_isBent rfl rfl rfl (by decide +kernel) ⟨(Nat.le_of_ble_eq_true rfl), (Nat.le_of_ble_eq_true rfl)⟩) hK hP hD hS hA [] [] [] rfl rfl rfl rfl (by decide) rfl rfl rfl hl.1 rfl (Nat.le_of_ble_eq_true rfl) dX8_even_8 ⟨Nat.zero_le _, Nat.zero_le _⟩ (fun H locs hP hD hS => ?_)
    refine lv_if_ne (tgt := 16) hx hb dX8_even_11 (by decide) (fun c_6 => ?_) (fun c_6 => ?_)
    · replace h := ifn_el c_6 h
      refine lv_iload_n hx hb dX8_even_16 rfl (lv_at hl 1 rfl) ?_
      refine lv_istore_n (lv' := [(3, .int p1), (0, .ref q_this), (1, .int p1), (2, .int p2)]) hx hb dX8_even_17 rfl hl (by decide) rfl (fun ls hl => ?_)
      refine lv_iconst (v := (nI 0)) hx hb dX8_even_18 (by decide) ?_
      refine lv_istore (lv' := [(4, .int (nI 0)), (3, .int p1), (0, .ref q_this), (1, .int p1), (2, .int p2)]) hx hb dX8_even_19 hl (by decide) rfl (fun ls hl => ?_)
      have hlp : ∀ (n : Nat) (x3_7 : Int32) (x4_8 : Int32) (H : Heap) (locs : List Loc) (ls : Array Slot), lpg (T := Int32 → Int32 → Option (Int32)) (fun _ _ => none) (b_X8_even_21 p2 F) n x3_7 x4_8 = some (r) → va_P D vwCl [] H → va_D A [] → va_S A s.heap H locs → lv_has ls 5 [(2, .int p2), (3, .int x3_7), (4, .int x4_8)] → W p l e (headSpec wsX8_even rm_X8_even).room s m args below meth c H locs 0 0 Q (F0 m 21 ls []) := by
        intro n
        induction n with
        | zero => intro x3_7 x4_8 H locs ls h; have h : (none : Option (Int32)) = some _ := h; cases h
        | succ n ih =>
          intro x3_7 x4_8 H locs ls h hP hD hS hl
          rw [lpg_succ, b_X8_even_21] at h
          refine lv_iload hx hb dX8_even_21 (lv_at hl 2 rfl) ?_
          refine lv_bipush (v := (nI 20)) hx hb dX8_even_23 (by decide) ?_
          refine lv_icmp_gt (tgt := 56) hx hb dX8_even_25 (by decide) (fun c_9 => ?_) (fun c_9 => ?_)
          · replace h := ifp_el c_9 h
            refine lv_bipush (v := (-4 : Int32)) hx hb dX8_even_56 (by decide) ?_
            cases h
            rw [← hQe]
            exact W.iret hx hb hr (fun t ht hW => ⟨⟨_, (), rfl, rfl, by rw [ht]; exact hP, va_K.moved hW.alike hK, hD⟩, hS.F ht⟩) hS.2.2 dX8_even_58
          · replace h := ifn_el c_9 h
            refine lv_iload_n hx hb dX8_even_28 rfl (lv_at hl 1 rfl) ?_
            refine lv_sipush (v := (nI 950)) hx hb dX8_even_29 (by decide) ?_
            refine lv_icmp_ge (tgt := 41) hx hb dX8_even_32 (by decide) (fun c_10 => ?_) (fun c_10 => ?_)
            · replace h := ifp_el c_10 h
              refine lv_iload hx hb dX8_even_41 (lv_at hl 2 rfl) ?_
              cases h
              rw [← hQe]
              exact W.iret hx hb hr (fun t ht hW => ⟨⟨_, (), rfl, rfl, by rw [ht]; exact hP, va_K.moved hW.alike hK, hD⟩, hS.F ht⟩) hS.2.2 dX8_even_43
            · replace h := ifn_el c_10 h
              refine lv_iload_n hx hb dX8_even_35 rfl (lv_at hl 1 rfl) ?_
              refine lv_bipush (v := (nI 50)) hx hb dX8_even_36 (by decide) ?_
              refine lv_icmp_gt (tgt := 44) hx hb dX8_even_38 (by decide) (fun c_11 => ?_) (fun c_11 => ?_)
              · replace h := ifp_el c_11 h
                refine lv_iload_n hx hb dX8_even_44 rfl (lv_at hl 1 rfl) ?_
                refine lv_iload_n hx hb dX8_even_45 rfl (lv_at hl 0 rfl) ?_
                obtain ⟨r_12, hg_13, h⟩ := bd1_el h
                refine kx_Si (As := [.int x3_7, .int p2]) (rest := []) (wr := []) (w1 := []) (wn := []) ⟨hx, hb, hml, hown, hts⟩ (c_X8_nextGeneration l D ca F H.size x3_7 p2 r_12 hg_13) (va_cwS 2 hts gX8_even_X8_nextGeneration rfl rfl rfl (by decide +kernel) ⟨(Nat.le_of_ble_eq_true rfl), (Nat.le_of_ble_eq_true rfl)⟩) hK hP hD hS hA [] [] [] rfl rfl rfl rfl (by decide) rfl rfl rfl hl.1 rfl (Nat.le_of_ble_eq_true rfl) dX8_even_46 ⟨Nat.zero_le _, Nat.zero_le _⟩ (fun H locs hP hD hS => ?_)
                refine lv_istore_n (lv' := [(3, .int r_12), (2, .int p2), (4, .int x4_8)]) hx hb dX8_even_49 rfl hl (by decide) rfl (fun ls hl => ?_)
                obtain ⟨x4_14, e_15, h⟩ := nm_el h
                refine lv_iinc (v := x4_14) (lv' := [(4, .int x4_14), (3, .int r_12), (2, .int p2)]) hx hb dX8_even_50 hl (k := 2) rfl (by rw [← e_15]; rfl) (by decide) rfl (fun ls hl => ?_)
                refine lv_goto (tgt := 21) hx hb dX8_even_53 (by decide) ?_
                exact ih _ _ _ _ _ h hP hD hS (lv_sub hl [2, 1, 0] rfl)
              · replace h := ifn_el c_11 h
                refine lv_iload hx hb dX8_even_41 (lv_at hl 2 rfl) ?_
                cases h
                rw [← hQe]
                exact W.iret hx hb hr (fun t ht hW => ⟨⟨_, (), rfl, rfl, by rw [ht]; exact hP, va_K.moved hW.alike hK, hD⟩, hS.F ht⟩) hS.2.2 dX8_even_43
      exact hlp F p1 (nI 0) H locs ls h hP hD hS (lv_sub hl [4, 1, 0] rfl)
    · replace h := ifp_el c_6 h
      refine lv_iconst (v := (-1 : Int32)) hx hb dX8_even_14 (by decide) ?_
      cases h
      rw [← hQe]
      exact W.iret hx hb hr (fun t ht hW => ⟨⟨_, (), rfl, rfl, by rw [ht]; exact hP, va_K.moved hW.alike hK, hD⟩, hS.F ht⟩) hS.2.2 dX8_even_15
def D_X8_fewest (F : Nat) (p1 : Int32) (v_laid_needs_joinedTold : Int32) (v_laid_needs_needed : Int32) (v_laid_needs_joinedMeaning : Nat → Int32) (v_laid_needs_joinedPair : Nat → Int32) : Option (Int32) := (if p1 < 0 then some ((-1 : Int32)) else (if p1 ≤ (nI 1) then bd0 (D_X0_needs) (bd1 (D_X4_leastSet F v_laid_needs_joinedTold v_laid_needs_needed v_laid_needs_joinedMeaning v_laid_needs_joinedPair) (fun r_4 => (if p1 = 0 then some (r_4) else bd1 (D_J6_bitCount_0f7a4 r_4) (fun r_7 => some (r_7))))) else some ((-1 : Int32))))
abbrev rm_X8_fewest : Room := { frames := 2, cells := 0, slots := 0, locals := 46 }
set_option maxHeartbeats 4000000 in
set_option maxRecDepth 100000 in
theorem c_X8_fewest (l : Launch) (D : va_G) (ca : Nat → ClassId) (F : Nat) (sz : Nat) (q_this q_text q_item q_stands q_crowd q_measure q_laid q_laid_words q_laid_heard q_laid_canSay q_laid_instead q_laid_traders q_laid_takes q_laid_needs q_laid_needs_joinedMeaning q_laid_needs_joinedPair q_tried : Nat) (p1 : Int32) (v_laid_speaks : Int32) (v_laid_alikeFrom : Int32) (v_laid_needs_joinedTold : Int32) (v_laid_needs_needsTold : Int32) (v_laid_needs_needed : Int32) (v_laid_needs_joinedMeaning : Nat → Int32) (v_laid_needs_joinedPair : Nat → Int32) (r : Int32) (h : D_X8_fewest F p1 v_laid_needs_joinedTold v_laid_needs_needed v_laid_needs_joinedMeaning v_laid_needs_joinedPair = some (r)) : Met l yX8_fewest wsX8_fewest rm_X8_fewest (va_Pc [.ref q_this, .int p1] (kPre D ca [(q_this, .inr (7, [.ref q_text, .ref q_item, .ref q_stands, .ref q_crowd, .ref q_measure, .ref q_laid, .ref q_tried])), (q_laid, .inr (0, [.ref q_laid_words, .ref q_laid_heard, .ref q_laid_canSay, .ref q_laid_instead, .ref q_laid_traders, .ref q_laid_takes, .ref q_laid_needs, .int v_laid_speaks, .int v_laid_alikeFrom])), (q_laid_needs, .inr (4, [.ref q_laid_needs_joinedMeaning, .ref q_laid_needs_joinedPair, .int v_laid_needs_joinedTold, .int v_laid_needs_needsTold, .int v_laid_needs_needed])), (q_laid_needs_joinedMeaning, .inl (ca 0, 8, .inl v_laid_needs_joinedMeaning)), (q_laid_needs_joinedPair, .inl (ca 0, 8, .inl v_laid_needs_joinedPair))] sz)) (kQi D ca (va_A [(q_this, .inr (7, [.ref q_text, .ref q_item, .ref q_stands, .ref q_crowd, .ref q_measure, .ref q_laid, .ref q_tried])), (q_laid, .inr (0, [.ref q_laid_words, .ref q_laid_heard, .ref q_laid_canSay, .ref q_laid_instead, .ref q_laid_traders, .ref q_laid_takes, .ref q_laid_needs, .int v_laid_speaks, .int v_laid_alikeFrom])), (q_laid_needs, .inr (4, [.ref q_laid_needs_joinedMeaning, .ref q_laid_needs_joinedPair, .int v_laid_needs_joinedTold, .int v_laid_needs_needsTold, .int v_laid_needs_needed])), (q_laid_needs_joinedMeaning, .inl (ca 0, 8, .inl v_laid_needs_joinedMeaning)), (q_laid_needs_joinedPair, .inl (ca 0, 8, .inl v_laid_needs_joinedPair))] sz) [(q_this, .inr (7, [.ref q_text, .ref q_item, .ref q_stands, .ref q_crowd, .ref q_measure, .ref q_laid, .ref q_tried])), (q_laid, .inr (0, [.ref q_laid_words, .ref q_laid_heard, .ref q_laid_canSay, .ref q_laid_instead, .ref q_laid_traders, .ref q_laid_takes, .ref q_laid_needs, .int v_laid_speaks, .int v_laid_alikeFrom])), (q_laid_needs, .inr (4, [.ref q_laid_needs_joinedMeaning, .ref q_laid_needs_joinedPair, .int v_laid_needs_joinedTold, .int v_laid_needs_needsTold, .int v_laid_needs_needed])), (q_laid_needs_joinedMeaning, .inl (ca 0, 8, .inl v_laid_needs_joinedMeaning)), (q_laid_needs_joinedPair, .inl (ca 0, 8, .inl v_laid_needs_joinedPair))] r) 0 0 (va_A [(q_this, .inr (7, [.ref q_text, .ref q_item, .ref q_stands, .ref q_crowd, .ref q_measure, .ref q_laid, .ref q_tried])), (q_laid, .inr (0, [.ref q_laid_words, .ref q_laid_heard, .ref q_laid_canSay, .ref q_laid_instead, .ref q_laid_traders, .ref q_laid_takes, .ref q_laid_needs, .int v_laid_speaks, .int v_laid_alikeFrom])), (q_laid_needs, .inr (4, [.ref q_laid_needs_joinedMeaning, .ref q_laid_needs_joinedPair, .int v_laid_needs_joinedTold, .int v_laid_needs_needsTold, .int v_laid_needs_needed])), (q_laid_needs_joinedMeaning, .inl (ca 0, 8, .inl v_laid_needs_joinedMeaning)), (q_laid_needs_joinedPair, .inl (ca 0, 8, .inl v_laid_needs_joinedPair))] sz) := by
  refine Met.ofW (cc := cX8_fewest) (maxL := 3) (ret := (some .int)) (by decide +kernel) rfl ?_
  intro p e s m args below meth c s₁ B hml hv
  obtain ⟨rfl, hsz, hP, hK, hD0⟩ := hv
  have hx := B.exec
  have hb := B.bytes
  have hr := B.returns
  have hts := atoms_spec (ws := wsX8_fewest) B.pre
  have hown : s.vm.findClass RX8 = some m.cls := findClass_of_methodNamed B.named
  have hlocks := B.notSynchronized
  clear B
  subst hsz
  have hD := hD0.self (sz := s.heap.size)
  generalize hAe : va_A [(q_this, .inr (7, [.ref q_text, .ref q_item, .ref q_stands, .ref q_crowd, .ref q_measure, .ref q_laid, .ref q_tried])), (q_laid, .inr (0, [.ref q_laid_words, .ref q_laid_heard, .ref q_laid_canSay, .ref q_laid_instead, .ref q_laid_traders, .ref q_laid_takes, .ref q_laid_needs, .int v_laid_speaks, .int v_laid_alikeFrom])), (q_laid_needs, .inr (4, [.ref q_laid_needs_joinedMeaning, .ref q_laid_needs_joinedPair, .int v_laid_needs_joinedTold, .int v_laid_needs_needsTold, .int v_laid_needs_needed])), (q_laid_needs_joinedMeaning, .inl (ca 0, 8, .inl v_laid_needs_joinedMeaning)), (q_laid_needs_joinedPair, .inl (ca 0, 8, .inl v_laid_needs_joinedPair))] s.heap.size = A at hD ⊢
  have hA : ∀ q : Nat, s.heap.size ≤ q → A q := fun q h => by rw [← hAe]; exact Or.inr h
  have hS : va_S A s.heap s.heap [] := va_S.rf
  have hl := lv_entry ([.ref q_this, .int p1]) (n := 3) (Nat.le_of_ble_eq_true rfl)
  rw [lg_entry_eq]
  generalize (lg_sl ([.ref q_this, .int p1]) ++ List.replicate (3 - (lg_sl ([.ref q_this, .int p1])).length) Slot.unset).toArray = ls at hl ⊢
  have hl : lv_has ls 3 [(0, .ref q_this), (1, .int p1)] := hl
  generalize ([.ref q_this, .int p1] : List Value).toArray = args at hts ⊢
  generalize hQe : MQ below (kQi D ca (A) [(q_this, .inr (7, [.ref q_text, .ref q_item, .ref q_stands, .ref q_crowd, .ref q_measure, .ref q_laid, .ref q_tried])), (q_laid, .inr (0, [.ref q_laid_words, .ref q_laid_heard, .ref q_laid_canSay, .ref q_laid_instead, .ref q_laid_traders, .ref q_laid_takes, .ref q_laid_needs, .int v_laid_speaks, .int v_laid_alikeFrom])), (q_laid_needs, .inr (4, [.ref q_laid_needs_joinedMeaning, .ref q_laid_needs_joinedPair, .int v_laid_needs_joinedTold, .int v_laid_needs_needsTold, .int v_laid_needs_needed])), (q_laid_needs_joinedMeaning, .inl (ca 0, 8, .inl v_laid_needs_joinedMeaning)), (q_laid_needs_joinedPair, .inl (ca 0, 8, .inl v_laid_needs_joinedPair))] r) args s 0 0 A = Q
  have i_X8 : ∀ w ∈ u_ws RX8 TX8 7, w ∈ wsX8_fewest := by decide +kernel
  have k_49 := hts (.fieldLink RX8 49 "TradeWords" "laid" "LTradeWords$Beach;") (by decide +kernel)
  rw [D_X8_fewest] at h
  refine lv_iload_n hx hb dX8_fewest_0 rfl (lv_at hl 1 rfl) ?_
  refine lv_if_lt (tgt := 9) hx hb dX8_fewest_1 (by decide) (fun c_1 => ?_) (fun c_1 => ?_)
  · replace h := ifp_el c_1 h
    refine lv_iconst (v := (-1 : Int32)) hx hb dX8_fewest_9 (by decide) ?_
    cases h
    rw [← hQe]
    exact W.iret hx hb hr (fun t ht hW => ⟨⟨_, (), rfl, rfl, by rw [ht]; exact hP, va_K.moved hW.alike hK, hD⟩, hS.F ht⟩) hS.2.2 dX8_fewest_10
  · replace h := ifn_el c_1 h
    refine lv_iload_n hx hb dX8_fewest_4 rfl (lv_at hl 1 rfl) ?_
    refine lv_iconst (v := (nI 1)) hx hb dX8_fewest_5 (by decide) ?_
    refine lv_icmp_le (tgt := 11) hx hb dX8_fewest_6 (by decide) (fun c_2 => ?_) (fun c_2 => ?_)
    · replace h := ifp_el c_2 h
      refine lv_aload_n hx hb dX8_fewest_11 rfl (lv_at hl 0 rfl) ?_
      refine va_get (D := D) (ci := 7) (v := .ref q_laid) (C := RX8) (T := TX8) (N := 7) hx hb hts i_X8 hown hK hP 0 rfl rfl 5 (by decide) k_49 (fun _ h9 => h9) rfl dX8_fewest_12 ?_
      obtain ⟨hg_3, h⟩ := bd0_el h
      refine kx_Vr (As := []) (rest := []) (wr := [(q_this, .inr (7, [.ref q_text, .ref q_item, .ref q_stands, .ref q_crowd, .ref q_measure, .ref q_laid, .ref q_tried])), (q_laid_needs, .inr (4, [.ref q_laid_needs_joinedMeaning, .ref q_laid_needs_joinedPair, .int v_laid_needs_joinedTold, .int v_laid_needs_needsTold, .int v_laid_needs_needed])), (q_laid_needs_joinedMeaning, .inl (ca 0, 8, .inl v_laid_needs_joinedMeaning)), (q_laid_needs_joinedPair, .inl (ca 0, 8, .inl v_laid_needs_joinedPair))]) (w1 := [(q_laid, .inr (0, [.ref q_laid_words, .ref q_laid_heard, .ref q_laid_canSay, .ref q_laid_instead, .ref q_laid_traders, .ref q_laid_takes, .ref q_laid_needs, .int v_laid_speaks, .int v_laid_alikeFrom]))]) (wn := [(q_this, .inr (7, [.ref q_text, .ref q_item, .ref q_stands, .ref q_crowd, .ref q_measure, .ref q_laid, .ref q_tried])), (q_laid, .inr (0, [.ref q_laid_words, .ref q_laid_heard, .ref q_laid_canSay, .ref q_laid_instead, .ref q_laid_traders, .ref q_laid_takes, .ref q_laid_needs, .int v_laid_speaks, .int v_laid_alikeFrom])), (q_laid_needs, .inr (4, [.ref q_laid_needs_joinedMeaning, .ref q_laid_needs_joinedPair, .int v_laid_needs_joinedTold, .int v_laid_needs_needsTold, .int v_laid_needs_needed])), (q_laid_needs_joinedMeaning, .inl (ca 0, 8, .inl v_laid_needs_joinedMeaning)), (q_laid_needs_joinedPair, .inl (ca 0, 8, .inl v_laid_needs_joinedPair))]) ⟨hx, hb, hml, hown, hts⟩ (c_X0_needs l D ca s.heap.size q_laid q_laid_words q_laid_heard q_laid_canSay q_laid_instead q_laid_traders q_laid_takes q_laid_needs v_laid_speaks v_laid_alikeFrom hg_3) (cwV 0 hts gX8_fewest_X0_needs rfl rfl rfl (by decide +kernel) ⟨(Nat.le_of_ble_eq_true rfl), (Nat.le_of_ble_eq_true rfl)⟩) hK hP hD hS hA (ci := 0) (q0 := 0) rfl rfl [1] [0, 2, 3, 4] [0, 4, 1, 2, 3] rfl rfl rfl rfl (by decide) rfl rfl rfl hl.1 rfl (Nat.le_of_ble_eq_true rfl) dX8_fewest_15 ⟨Nat.zero_le _, Nat.zero_le _⟩ (fun H locs hP hD hS => ?_)
      obtain ⟨r_4, hg_5, h⟩ := bd1_el h
      refine kx_Vi (As := []) (rest := []) (wr := [(q_this, .inr (7, [.ref q_text, .ref q_item, .ref q_stands, .ref q_crowd, .ref q_measure, .ref q_laid, .ref q_tried])), (q_laid, .inr (0, [.ref q_laid_words, .ref q_laid_heard, .ref q_laid_canSay, .ref q_laid_instead, .ref q_laid_traders, .ref q_laid_takes, .ref q_laid_needs, .int v_laid_speaks, .int v_laid_alikeFrom]))]) (w1 := [(q_laid_needs, .inr (4, [.ref q_laid_needs_joinedMeaning, .ref q_laid_needs_joinedPair, .int v_laid_needs_joinedTold, .int v_laid_needs_needsTold, .int v_laid_needs_needed])), (q_laid_needs_joinedMeaning, .inl (ca 0, 8, .inl v_laid_needs_joinedMeaning)), (q_laid_needs_joinedPair, .inl (ca 0, 8, .inl v_laid_needs_joinedPair))]) (wn := [(q_this, .inr (7, [.ref q_text, .ref q_item, .ref q_stands, .ref q_crowd, .ref q_measure, .ref q_laid, .ref q_tried])), (q_laid, .inr (0, [.ref q_laid_words, .ref q_laid_heard, .ref q_laid_canSay, .ref q_laid_instead, .ref q_laid_traders, .ref q_laid_takes, .ref q_laid_needs, .int v_laid_speaks, .int v_laid_alikeFrom])), (q_laid_needs, .inr (4, [.ref q_laid_needs_joinedMeaning, .ref q_laid_needs_joinedPair, .int v_laid_needs_joinedTold, .int v_laid_needs_needsTold, .int v_laid_needs_needed])), (q_laid_needs_joinedMeaning, .inl (ca 0, 8, .inl v_laid_needs_joinedMeaning)), (q_laid_needs_joinedPair, .inl (ca 0, 8, .inl v_laid_needs_joinedPair))]) ⟨hx, hb, hml, hown, hts⟩ (c_X4_leastSet l D ca F H.size q_laid_needs q_laid_needs_joinedMeaning q_laid_needs_joinedPair v_laid_needs_joinedTold v_laid_needs_needsTold v_laid_needs_needed v_laid_needs_joinedMeaning v_laid_needs_joinedPair r_4 hg_5) (cwV 0 hts gX8_fewest_X4_leastSet rfl rfl rfl (by decide +kernel) ⟨(Nat.le_of_ble_eq_true rfl), (Nat.le_of_ble_eq_true rfl)⟩) hK hP hD hS hA (ci := 4) (q0 := 0) rfl rfl [2, 3, 4] [0, 1] [0, 1, 2, 3, 4] rfl rfl rfl rfl (by decide) rfl rfl rfl hl.1 rfl (Nat.le_of_ble_eq_true rfl) dX8_fewest_18 ⟨Nat.zero_le _, Nat.zero_le _⟩ (fun H locs hP hD hS => ?_)
      refine lv_istore_n (lv' := [(2, .int r_4), (0, .ref q_this), (1, .int p1)]) hx hb dX8_fewest_21 rfl hl (by decide) rfl (fun ls hl => ?_)
      refine lv_iload_n hx hb dX8_fewest_22 rfl (lv_at hl 2 rfl) ?_
      refine lv_if_ne (tgt := 30) hx hb dX8_fewest_23 (by decide) (fun c_6 => ?_) (fun c_6 => ?_)
      · replace h := ifn_el c_6 h
        refine lv_iload_n hx hb dX8_fewest_30 rfl (lv_at hl 0 rfl) ?_
        obtain ⟨r_7, hg_8, h⟩ := bd1_el h
        refine kx_Si (As := [.int r_4]) (rest := []) (wr := [(q_this, .inr (7, [.ref q_text, .ref q_item, .ref q_stands, .ref q_crowd, .ref q_measure, .ref q_laid, .ref q_tried])), (q_laid, .inr (0, [.ref q_laid_words, .ref q_laid_heard, .ref q_laid_canSay, .ref q_laid_instead, .ref q_laid_traders, .ref q_laid_takes, .ref q_laid_needs, .int v_laid_speaks, .int v_laid_alikeFrom])), (q_laid_needs, .inr (4, [.ref q_laid_needs_joinedMeaning, .ref q_laid_needs_joinedPair, .int v_laid_needs_joinedTold, .int v_laid_needs_needsTold, .int v_laid_needs_needed])), (q_laid_needs_joinedMeaning, .inl (ca 0, 8, .inl v_laid_needs_joinedMeaning)), (q_laid_needs_joinedPair, .inl (ca 0, 8, .inl v_laid_needs_joinedPair))]) (w1 := []) (wn := [(q_this, .inr (7, [.ref q_text, .ref q_item, .ref q_stands, .ref q_crowd, .ref q_measure, .ref q_laid, .ref q_tried])), (q_laid, .inr (0, [.ref q_laid_words, .ref q_laid_heard, .ref q_laid_canSay, .ref q_laid_instead, .ref q_laid_traders, .ref q_laid_takes, .ref q_laid_needs, .int v_laid_speaks, .int v_laid_alikeFrom])), (q_laid_needs, .inr (4, [.ref q_laid_needs_joinedMeaning, .ref q_laid_needs_joinedPair, .int v_laid_needs_joinedTold, .int v_laid_needs_needsTold, .int v_laid_needs_needed])), (q_laid_needs_joinedMeaning, .inl (ca 0, 8, .inl v_laid_needs_joinedMeaning)), (q_laid_needs_joinedPair, .inl (ca 0, 8, .inl v_laid_needs_joinedPair))]) ⟨hx, hb, hml, hown, hts⟩ (c_J6_bitCount_0f7a4 l D ca H.size r_4 r_7 hg_8) (va_cwS 1 hts gX8_fewest_J6_bitCount_0f7a4 rfl rfl rfl (by decide +kernel) ⟨(Nat.le_of_ble_eq_true rfl), (Nat.le_of_ble_eq_true rfl)⟩) hK hP hD hS hA [] [0, 1, 2, 3, 4] [0, 1, 2, 3, 4] rfl rfl rfl rfl (by decide) rfl rfl rfl hl.1 rfl (Nat.le_of_ble_eq_true rfl) dX8_fewest_31 ⟨Nat.zero_le _, Nat.zero_le _⟩ (fun H locs hP hD hS => ?_)
        cases h
        rw [← hQe]
        exact W.iret hx hb hr (fun t ht hW => ⟨⟨_, (), rfl, rfl, by rw [ht]; exact hP, va_K.moved hW.alike hK, hD⟩, hS.F ht⟩) hS.2.2 dX8_fewest_34
      · replace h := ifp_el c_6 h
        refine lv_iload_n hx hb dX8_fewest_26 rfl (lv_at hl 0 rfl) ?_
        refine lv_goto (tgt := 34) hx hb dX8_fewest_27 (by decide) ?_
        cases h
        rw [← hQe]
        exact W.iret hx hb hr (fun t ht hW => ⟨⟨_, (), rfl, rfl, by rw [ht]; exact hP, va_K.moved hW.alike hK, hD⟩, hS.F ht⟩) hS.2.2 dX8_fewest_34
    · replace h := ifn_el c_2 h
      refine lv_iconst (v := (-1 : Int32)) hx hb dX8_fewest_9 (by decide) ?_
      cases h
      rw [← hQe]
      exact W.iret hx hb hr (fun t ht hW => ⟨⟨_, (), rfl, rfl, by rw [ht]; exact hP, va_K.moved hW.alike hK, hD⟩, hS.F ht⟩) hS.2.2 dX8_fewest_10
def D_X8_both (v_laid_canSay : Nat → Int32) : Option (Int32) := bd1 (D_X0_soundsOf (nI 0) v_laid_canSay) (fun r_1 => bd1 (D_X0_soundsOf (nI 1) v_laid_canSay) (fun r_3 => some ((r_1 &&& r_3))))
abbrev rm_X8_both : Room := { frames := 1, cells := 0, slots := 0, locals := 21 }
set_option maxHeartbeats 4000000 in
set_option maxRecDepth 100000 in
theorem c_X8_both (l : Launch) (D : va_G) (ca : Nat → ClassId) (sz : Nat) (q_this q_text q_item q_stands q_crowd q_measure q_laid q_laid_words q_laid_heard q_laid_canSay q_laid_instead q_laid_traders q_laid_takes q_laid_needs q_tried : Nat) (v_laid_speaks : Int32) (v_laid_alikeFrom : Int32) (v_laid_canSay : Nat → Int32) (r : Int32) (h : D_X8_both v_laid_canSay = some (r)) : Met l yX8_both wsX8_both rm_X8_both (va_Pc [.ref q_this] (kPre D ca [(q_this, .inr (7, [.ref q_text, .ref q_item, .ref q_stands, .ref q_crowd, .ref q_measure, .ref q_laid, .ref q_tried])), (q_laid, .inr (0, [.ref q_laid_words, .ref q_laid_heard, .ref q_laid_canSay, .ref q_laid_instead, .ref q_laid_traders, .ref q_laid_takes, .ref q_laid_needs, .int v_laid_speaks, .int v_laid_alikeFrom])), (q_laid_canSay, .inl (ca 0, 2, .inl v_laid_canSay))] sz)) (kQi D ca (va_A [(q_this, .inr (7, [.ref q_text, .ref q_item, .ref q_stands, .ref q_crowd, .ref q_measure, .ref q_laid, .ref q_tried])), (q_laid, .inr (0, [.ref q_laid_words, .ref q_laid_heard, .ref q_laid_canSay, .ref q_laid_instead, .ref q_laid_traders, .ref q_laid_takes, .ref q_laid_needs, .int v_laid_speaks, .int v_laid_alikeFrom])), (q_laid_canSay, .inl (ca 0, 2, .inl v_laid_canSay))] sz) [(q_this, .inr (7, [.ref q_text, .ref q_item, .ref q_stands, .ref q_crowd, .ref q_measure, .ref q_laid, .ref q_tried])), (q_laid, .inr (0, [.ref q_laid_words, .ref q_laid_heard, .ref q_laid_canSay, .ref q_laid_instead, .ref q_laid_traders, .ref q_laid_takes, .ref q_laid_needs, .int v_laid_speaks, .int v_laid_alikeFrom])), (q_laid_canSay, .inl (ca 0, 2, .inl v_laid_canSay))] r) 0 0 (va_A [(q_this, .inr (7, [.ref q_text, .ref q_item, .ref q_stands, .ref q_crowd, .ref q_measure, .ref q_laid, .ref q_tried])), (q_laid, .inr (0, [.ref q_laid_words, .ref q_laid_heard, .ref q_laid_canSay, .ref q_laid_instead, .ref q_laid_traders, .ref q_laid_takes, .ref q_laid_needs, .int v_laid_speaks, .int v_laid_alikeFrom])), (q_laid_canSay, .inl (ca 0, 2, .inl v_laid_canSay))] sz) := by
  refine Met.ofW (cc := cX8_both) (maxL := 1) (ret := (some .int)) (by decide +kernel) rfl ?_
  intro p e s m args below meth c s₁ B hml hv
  obtain ⟨rfl, hsz, hP, hK, hD0⟩ := hv
  have hx := B.exec
  have hb := B.bytes
  have hr := B.returns
  have hts := atoms_spec (ws := wsX8_both) B.pre
  have hown : s.vm.findClass RX8 = some m.cls := findClass_of_methodNamed B.named
  have hlocks := B.notSynchronized
  clear B
  subst hsz
  have hD := hD0.self (sz := s.heap.size)
  generalize hAe : va_A [(q_this, .inr (7, [.ref q_text, .ref q_item, .ref q_stands, .ref q_crowd, .ref q_measure, .ref q_laid, .ref q_tried])), (q_laid, .inr (0, [.ref q_laid_words, .ref q_laid_heard, .ref q_laid_canSay, .ref q_laid_instead, .ref q_laid_traders, .ref q_laid_takes, .ref q_laid_needs, .int v_laid_speaks, .int v_laid_alikeFrom])), (q_laid_canSay, .inl (ca 0, 2, .inl v_laid_canSay))] s.heap.size = A at hD ⊢
  have hA : ∀ q : Nat, s.heap.size ≤ q → A q := fun q h => by rw [← hAe]; exact Or.inr h
  have hS : va_S A s.heap s.heap [] := va_S.rf
  have hl := lv_entry ([.ref q_this]) (n := 1) (Nat.le_of_ble_eq_true rfl)
  rw [lg_entry_eq]
  generalize (lg_sl ([.ref q_this]) ++ List.replicate (1 - (lg_sl ([.ref q_this])).length) Slot.unset).toArray = ls at hl ⊢
  have hl : lv_has ls 1 [(0, .ref q_this)] := hl
  generalize ([.ref q_this] : List Value).toArray = args at hts ⊢
  generalize hQe : MQ below (kQi D ca (A) [(q_this, .inr (7, [.ref q_text, .ref q_item, .ref q_stands, .ref q_crowd, .ref q_measure, .ref q_laid, .ref q_tried])), (q_laid, .inr (0, [.ref q_laid_words, .ref q_laid_heard, .ref q_laid_canSay, .ref q_laid_instead, .ref q_laid_traders, .ref q_laid_takes, .ref q_laid_needs, .int v_laid_speaks, .int v_laid_alikeFrom])), (q_laid_canSay, .inl (ca 0, 2, .inl v_laid_canSay))] r) args s 0 0 A = Q
  have i_X8 : ∀ w ∈ u_ws RX8 TX8 7, w ∈ wsX8_both := by decide +kernel
  have k_49 := hts (.fieldLink RX8 49 "TradeWords" "laid" "LTradeWords$Beach;") (by decide +kernel)
  rw [D_X8_both] at h
  refine lv_aload_n hx hb dX8_both_0 rfl (lv_at hl 0 rfl) ?_
  refine va_get (D := D) (ci := 7) (v := .ref q_laid) (C := RX8) (T := TX8) (N := 7) hx hb hts i_X8 hown hK hP 0 rfl rfl 5 (by decide) k_49 (fun _ h9 => h9) rfl dX8_both_1 ?_
  refine lv_iconst (v := (nI 0)) hx hb dX8_both_4 (by decide) ?_
  obtain ⟨r_1, hg_2, h⟩ := bd1_el h
  refine kx_Vi (As := [.int (nI 0)]) (rest := []) (wr := [(q_this, .inr (7, [.ref q_text, .ref q_item, .ref q_stands, .ref q_crowd, .ref q_measure, .ref q_laid, .ref q_tried]))]) (w1 := [(q_laid, .inr (0, [.ref q_laid_words, .ref q_laid_heard, .ref q_laid_canSay, .ref q_laid_instead, .ref q_laid_traders, .ref q_laid_takes, .ref q_laid_needs, .int v_laid_speaks, .int v_laid_alikeFrom])), (q_laid_canSay, .inl (ca 0, 2, .inl v_laid_canSay))]) (wn := [(q_this, .inr (7, [.ref q_text, .ref q_item, .ref q_stands, .ref q_crowd, .ref q_measure, .ref q_laid, .ref q_tried])), (q_laid, .inr (0, [.ref q_laid_words, .ref q_laid_heard, .ref q_laid_canSay, .ref q_laid_instead, .ref q_laid_traders, .ref q_laid_takes, .ref q_laid_needs, .int v_laid_speaks, .int v_laid_alikeFrom])), (q_laid_canSay, .inl (ca 0, 2, .inl v_laid_canSay))]) ⟨hx, hb, hml, hown, hts⟩ (c_X0_soundsOf l D ca s.heap.size q_laid q_laid_words q_laid_heard q_laid_canSay q_laid_instead q_laid_traders q_laid_takes q_laid_needs (nI 0) v_laid_speaks v_laid_alikeFrom v_laid_canSay r_1 hg_2) (cwV 1 hts gX8_both_X0_soundsOf rfl rfl rfl (by decide +kernel) ⟨(Nat.le_of_ble_eq_true rfl), (Nat.le_of_ble_eq_true rfl)⟩) hK hP hD hS hA (ci := 0) (q0 := 0) rfl rfl [1, 2] [0] [0, 1, 2] rfl rfl rfl rfl (by decide) rfl rfl rfl hl.1 rfl (Nat.le_of_ble_eq_true rfl) dX8_both_5 ⟨Nat.zero_le _, Nat.zero_le _⟩ (fun H locs hP hD hS => ?_)
  refine lv_aload_n hx hb dX8_both_8 rfl (lv_at hl 0 rfl) ?_
  refine va_get (D := D) (ci := 7) (v := .ref q_laid) (C := RX8) (T := TX8) (N := 7) hx hb hts i_X8 hown hK hP 0 rfl rfl 5 (by decide) k_49 (fun _ h9 => h9) rfl dX8_both_9 ?_
  refine lv_iconst (v := (nI 1)) hx hb dX8_both_12 (by decide) ?_
  obtain ⟨r_3, hg_4, h⟩ := bd1_el h
  refine kx_Vi (As := [.int (nI 1)]) (rest := [.int r_1]) (wr := [(q_this, .inr (7, [.ref q_text, .ref q_item, .ref q_stands, .ref q_crowd, .ref q_measure, .ref q_laid, .ref q_tried]))]) (w1 := [(q_laid, .inr (0, [.ref q_laid_words, .ref q_laid_heard, .ref q_laid_canSay, .ref q_laid_instead, .ref q_laid_traders, .ref q_laid_takes, .ref q_laid_needs, .int v_laid_speaks, .int v_laid_alikeFrom])), (q_laid_canSay, .inl (ca 0, 2, .inl v_laid_canSay))]) (wn := [(q_this, .inr (7, [.ref q_text, .ref q_item, .ref q_stands, .ref q_crowd, .ref q_measure, .ref q_laid, .ref q_tried])), (q_laid, .inr (0, [.ref q_laid_words, .ref q_laid_heard, .ref q_laid_canSay, .ref q_laid_instead, .ref q_laid_traders, .ref q_laid_takes, .ref q_laid_needs, .int v_laid_speaks, .int v_laid_alikeFrom])), (q_laid_canSay, .inl (ca 0, 2, .inl v_laid_canSay))]) ⟨hx, hb, hml, hown, hts⟩ (c_X0_soundsOf l D ca H.size q_laid q_laid_words q_laid_heard q_laid_canSay q_laid_instead q_laid_traders q_laid_takes q_laid_needs (nI 1) v_laid_speaks v_laid_alikeFrom v_laid_canSay r_3 hg_4) (cwV 1 hts gX8_both_X0_soundsOf rfl rfl rfl (by decide +kernel) ⟨(Nat.le_of_ble_eq_true rfl), (Nat.le_of_ble_eq_true rfl)⟩) hK hP hD hS hA (ci := 0) (q0 := 0) rfl rfl [1, 2] [0] [0, 1, 2] rfl rfl rfl rfl (by decide) rfl rfl rfl hl.1 rfl (Nat.le_of_ble_eq_true rfl) dX8_both_13 ⟨Nat.zero_le _, Nat.zero_le _⟩ (fun H locs hP hD hS => ?_)
  refine lv_iand hx hb dX8_both_16 ?_
  cases h
  rw [← hQe]
  exact W.iret hx hb hr (fun t ht hW => ⟨⟨_, (), rfl, rfl, by rw [ht]; exact hP, va_K.moved hW.alike hK, hD⟩, hS.F ht⟩) hS.2.2 dX8_both_17
def b_X8_lost_33 (p1 : Int32) (v_laid_canSay : Nat → Int32) (v_laid_instead : Nat → Int32) (r_8 : Int32) (rec33 : Int32 → Int32 → Option (Int32)) (x2_10 : Int32) (x5_11 : Int32) : Option (Int32) := bd1 (D_X7_length r_8) (fun r_13 => (if r_13 ≤ x5_11 then some (x2_10) else bd1 (D_X7_soundAt r_8 x5_11) (fun r_16 => bd1 (D_X0_soundSaidBy ((nI 1) - p1) r_16 v_laid_canSay v_laid_instead) (fun r_18 => (if r_18 = (-4 : Int32) then nm (x2_10 ||| ((nI 1) <<< (r_16 &&& 31))) (fun x2_23 => nm (x5_11 + (nI 1)) (fun x5_24 => rec33 x2_23 x5_24)) else nm (x5_11 + (nI 1)) (fun x5_21 => rec33 x2_10 x5_21))))))
def b_X8_lost_13 (p1 : Int32) (v_laid_words : Nat → Int32) (v_laid_canSay : Nat → Int32) (v_laid_instead : Nat → Int32) (F : Nat) (rec13 : Int32 → Int32 → Option (Int32)) (x2_4 : Int32) (x3_5 : Int32) : Option (Int32) := (if (nI 8) ≤ x3_5 then some (x2_4) else bd1 (D_X0_wordOf p1 x3_5 v_laid_words) (fun r_8 => bd1 (lpg (T := Int32 → Int32 → Option (Int32)) (fun _ _ => none) (b_X8_lost_33 p1 v_laid_canSay v_laid_instead r_8) F x2_4 (nI 0)) (fun o_12 => nm (x3_5 + (nI 1)) (fun x3_26 => rec13 o_12 x3_26))))
def D_X8_lost (F : Nat) (p1 : Int32) (v_laid_words : Nat → Int32) (v_laid_canSay : Nat → Int32) (v_laid_instead : Nat → Int32) : Option (Int32) := bd1 (D_X8_isPeople p1) (fun r_1 => (if r_1 = 0 then some ((-1 : Int32)) else bd1 (lpg (T := Int32 → Int32 → Option (Int32)) (fun _ _ => none) (b_X8_lost_13 p1 v_laid_words v_laid_canSay v_laid_instead F) F (nI 0) (nI 0)) (fun o_6 => some (o_6))))
abbrev rm_X8_lost : Room := { frames := 2, cells := 0, slots := 0, locals := 43 }
set_option maxHeartbeats 4000000 in
set_option maxRecDepth 100000 in
theorem c_X8_lost (l : Launch) (D : va_G) (ca : Nat → ClassId) (F : Nat) (sz : Nat) (q_this q_text q_item q_stands q_crowd q_measure q_laid q_laid_words q_laid_heard q_laid_canSay q_laid_instead q_laid_traders q_laid_takes q_laid_needs q_tried : Nat) (p1 : Int32) (v_laid_speaks : Int32) (v_laid_alikeFrom : Int32) (v_laid_words : Nat → Int32) (v_laid_canSay : Nat → Int32) (v_laid_instead : Nat → Int32) (r : Int32) (h : D_X8_lost F p1 v_laid_words v_laid_canSay v_laid_instead = some (r)) : Met l yX8_lost wsX8_lost rm_X8_lost (va_Pc [.ref q_this, .int p1] (kPre D ca [(q_this, .inr (7, [.ref q_text, .ref q_item, .ref q_stands, .ref q_crowd, .ref q_measure, .ref q_laid, .ref q_tried])), (q_laid, .inr (0, [.ref q_laid_words, .ref q_laid_heard, .ref q_laid_canSay, .ref q_laid_instead, .ref q_laid_traders, .ref q_laid_takes, .ref q_laid_needs, .int v_laid_speaks, .int v_laid_alikeFrom])), (q_laid_words, .inl (ca 0, 16, .inl v_laid_words)), (q_laid_canSay, .inl (ca 0, 2, .inl v_laid_canSay)), (q_laid_instead, .inl (ca 0, 16, .inl v_laid_instead))] sz)) (kQi D ca (va_A [(q_this, .inr (7, [.ref q_text, .ref q_item, .ref q_stands, .ref q_crowd, .ref q_measure, .ref q_laid, .ref q_tried])), (q_laid, .inr (0, [.ref q_laid_words, .ref q_laid_heard, .ref q_laid_canSay, .ref q_laid_instead, .ref q_laid_traders, .ref q_laid_takes, .ref q_laid_needs, .int v_laid_speaks, .int v_laid_alikeFrom])), (q_laid_words, .inl (ca 0, 16, .inl v_laid_words)), (q_laid_canSay, .inl (ca 0, 2, .inl v_laid_canSay)), (q_laid_instead, .inl (ca 0, 16, .inl v_laid_instead))] sz) [(q_this, .inr (7, [.ref q_text, .ref q_item, .ref q_stands, .ref q_crowd, .ref q_measure, .ref q_laid, .ref q_tried])), (q_laid, .inr (0, [.ref q_laid_words, .ref q_laid_heard, .ref q_laid_canSay, .ref q_laid_instead, .ref q_laid_traders, .ref q_laid_takes, .ref q_laid_needs, .int v_laid_speaks, .int v_laid_alikeFrom])), (q_laid_words, .inl (ca 0, 16, .inl v_laid_words)), (q_laid_canSay, .inl (ca 0, 2, .inl v_laid_canSay)), (q_laid_instead, .inl (ca 0, 16, .inl v_laid_instead))] r) 0 0 (va_A [(q_this, .inr (7, [.ref q_text, .ref q_item, .ref q_stands, .ref q_crowd, .ref q_measure, .ref q_laid, .ref q_tried])), (q_laid, .inr (0, [.ref q_laid_words, .ref q_laid_heard, .ref q_laid_canSay, .ref q_laid_instead, .ref q_laid_traders, .ref q_laid_takes, .ref q_laid_needs, .int v_laid_speaks, .int v_laid_alikeFrom])), (q_laid_words, .inl (ca 0, 16, .inl v_laid_words)), (q_laid_canSay, .inl (ca 0, 2, .inl v_laid_canSay)), (q_laid_instead, .inl (ca 0, 16, .inl v_laid_instead))] sz) := by
  refine Met.ofW (cc := cX8_lost) (maxL := 7) (ret := (some .int)) (by decide +kernel) rfl ?_
  intro p e s m args below meth c s₁ B hml hv
  obtain ⟨rfl, hsz, hP, hK, hD0⟩ := hv
  have hx := B.exec
  have hb := B.bytes
  have hr := B.returns
  have hts := atoms_spec (ws := wsX8_lost) B.pre
  have hown : s.vm.findClass RX8 = some m.cls := findClass_of_methodNamed B.named
  have hlocks := B.notSynchronized
  clear B
  subst hsz
  have hD := hD0.self (sz := s.heap.size)
  generalize hAe : va_A [(q_this, .inr (7, [.ref q_text, .ref q_item, .ref q_stands, .ref q_crowd, .ref q_measure, .ref q_laid, .ref q_tried])), (q_laid, .inr (0, [.ref q_laid_words, .ref q_laid_heard, .ref q_laid_canSay, .ref q_laid_instead, .ref q_laid_traders, .ref q_laid_takes, .ref q_laid_needs, .int v_laid_speaks, .int v_laid_alikeFrom])), (q_laid_words, .inl (ca 0, 16, .inl v_laid_words)), (q_laid_canSay, .inl (ca 0, 2, .inl v_laid_canSay)), (q_laid_instead, .inl (ca 0, 16, .inl v_laid_instead))] s.heap.size = A at hD ⊢
  have hA : ∀ q : Nat, s.heap.size ≤ q → A q := fun q h => by rw [← hAe]; exact Or.inr h
  have hS : va_S A s.heap s.heap [] := va_S.rf
  have hl := lv_entry ([.ref q_this, .int p1]) (n := 7) (Nat.le_of_ble_eq_true rfl)
  rw [lg_entry_eq]
  generalize (lg_sl ([.ref q_this, .int p1]) ++ List.replicate (7 - (lg_sl ([.ref q_this, .int p1])).length) Slot.unset).toArray = ls at hl ⊢
  have hl : lv_has ls 7 [(0, .ref q_this), (1, .int p1)] := hl
  generalize ([.ref q_this, .int p1] : List Value).toArray = args at hts ⊢
  generalize hQe : MQ below (kQi D ca (A) [(q_this, .inr (7, [.ref q_text, .ref q_item, .ref q_stands, .ref q_crowd, .ref q_measure, .ref q_laid, .ref q_tried])), (q_laid, .inr (0, [.ref q_laid_words, .ref q_laid_heard, .ref q_laid_canSay, .ref q_laid_instead, .ref q_laid_traders, .ref q_laid_takes, .ref q_laid_needs, .int v_laid_speaks, .int v_laid_alikeFrom])), (q_laid_words, .inl (ca 0, 16, .inl v_laid_words)), (q_laid_canSay, .inl (ca 0, 2, .inl v_laid_canSay)), (q_laid_instead, .inl (ca 0, 16, .inl v_laid_instead))] r) args s 0 0 A = Q
  have i_X8 : ∀ w ∈ u_ws RX8 TX8 7, w ∈ wsX8_lost := by decide +kernel
  have k_49 := hts (.fieldLink RX8 49 "TradeWords" "laid" "LTradeWords$Beach;") (by decide +kernel)
  rw [D_X8_lost] at h
  refine lv_iload_n hx hb dX8_lost_0 rfl (lv_at hl 1 rfl) ?_
  obtain ⟨r_1, hg_2, h⟩ := bd1_el h
  refine kx_Si (As := [.int p1]) (rest := []) (wr := [(q_this, .inr (7, [.ref q_text, .ref q_item, .ref q_stands, .ref q_crowd, .ref q_measure, .ref q_laid, .ref q_tried])), (q_laid, .inr (0, [.ref q_laid_words, .ref q_laid_heard, .ref q_laid_canSay, .ref q_laid_instead, .ref q_laid_traders, .ref q_laid_takes, .ref q_laid_needs, .int v_laid_speaks, .int v_laid_alikeFrom])), (q_laid_words, .inl (ca 0, 16, .inl v_laid_words)), (q_laid_canSay, .inl (ca 0, 2, .inl v_laid_canSay)), (q_laid_instead, .inl (ca 0, 16, .inl v_laid_instead))]) (w1 := []) (wn := [(q_this, .inr (7, [.ref q_text, .ref q_item, .ref q_stands, .ref q_crowd, .ref q_measure, .ref q_laid, .ref q_tried])), (q_laid, .inr (0, [.ref q_laid_words, .ref q_laid_heard, .ref q_laid_canSay, .ref q_laid_instead, .ref q_laid_traders, .ref q_laid_takes, .ref q_laid_needs, .int v_laid_speaks, .int v_laid_alikeFrom])), (q_laid_words, .inl (ca 0, 16, .inl v_laid_words)), (q_laid_canSay, .inl (ca 0, 2, .inl v_laid_canSay)), (q_laid_instead, .inl (ca 0, 16, .inl v_laid_instead))]) ⟨hx, hb, hml, hown, hts⟩ (c_X8_isPeople l D ca s.heap.size p1 r_1 hg_2) (va_cwS 1 hts gX8_lost_X8_isPeople rfl rfl rfl (by decide +kernel) ⟨(Nat.le_of_ble_eq_true rfl), (Nat.le_of_ble_eq_true rfl)⟩) hK hP hD hS hA [] [0, 1, 2, 3, 4] [0, 1, 2, 3, 4] rfl rfl rfl rfl (by decide) rfl rfl rfl hl.1 rfl (Nat.le_of_ble_eq_true rfl) dX8_lost_1 ⟨Nat.zero_le _, Nat.zero_le _⟩ (fun H locs hP hD hS => ?_)
  refine lv_if_ne (tgt := 9) hx hb dX8_lost_4 (by decide) (fun c_3 => ?_) (fun c_3 => ?_)
  · replace h := ifn_el c_3 h
    refine lv_iconst (v := (nI 0)) hx hb dX8_lost_9 (by decide) ?_
    refine lv_istore_n (lv' := [(2, .int (nI 0)), (0, .ref q_this), (1, .int p1)]) hx hb dX8_lost_10 rfl hl (by decide) rfl (fun ls hl => ?_)
    refine lv_iconst (v := (nI 0)) hx hb dX8_lost_11 (by decide) ?_
    refine lv_istore_n (lv' := [(3, .int (nI 0)), (2, .int (nI 0)), (0, .ref q_this), (1, .int p1)]) hx hb dX8_lost_12 rfl hl (by decide) rfl (fun ls hl => ?_)
    obtain ⟨o_6, hL, h⟩ := bd1_el h
    have hex : ∀ (H : Heap) (locs : List Loc) (ls : Array Slot), va_P D vwCl [(q_this, .inr (7, [.ref q_text, .ref q_item, .ref q_stands, .ref q_crowd, .ref q_measure, .ref q_laid, .ref q_tried])), (q_laid, .inr (0, [.ref q_laid_words, .ref q_laid_heard, .ref q_laid_canSay, .ref q_laid_instead, .ref q_laid_traders, .ref q_laid_takes, .ref q_laid_needs, .int v_laid_speaks, .int v_laid_alikeFrom])), (q_laid_words, .inl (ca 0, 16, .inl v_laid_words)), (q_laid_canSay, .inl (ca 0, 2, .inl v_laid_canSay)), (q_laid_instead, .inl (ca 0, 16, .inl v_laid_instead))] H → va_D A [(q_this, .inr (7, [.ref q_text, .ref q_item, .ref q_stands, .ref q_crowd, .ref q_measure, .ref q_laid, .ref q_tried])), (q_laid, .inr (0, [.ref q_laid_words, .ref q_laid_heard, .ref q_laid_canSay, .ref q_laid_instead, .ref q_laid_traders, .ref q_laid_takes, .ref q_laid_needs, .int v_laid_speaks, .int v_laid_alikeFrom])), (q_laid_words, .inl (ca 0, 16, .inl v_laid_words)), (q_laid_canSay, .inl (ca 0, 2, .inl v_laid_canSay)), (q_laid_instead, .inl (ca 0, 16, .inl v_laid_instead))] → va_S A s.heap H locs → lv_has ls 7 [(2, .int o_6)] → W p l e (headSpec wsX8_lost rm_X8_lost).room s m args below meth c H locs 0 0 Q (F0 m 88 ls []) := by
      intro H locs ls hP hD hS hl
      refine lv_iload_n hx hb dX8_lost_88 rfl (lv_at hl 0 rfl) ?_
      cases h
      rw [← hQe]
      exact W.iret hx hb hr (fun t ht hW => ⟨⟨_, (), rfl, rfl, by rw [ht]; exact hP, va_K.moved hW.alike hK, hD⟩, hS.F ht⟩) hS.2.2 dX8_lost_89
    have hlp : ∀ (n : Nat) (x2_4 : Int32) (x3_5 : Int32) (o_6 : Int32) (H : Heap) (locs : List Loc) (ls : Array Slot), lpg (T := Int32 → Int32 → Option (Int32)) (fun _ _ => none) (b_X8_lost_13 p1 v_laid_words v_laid_canSay v_laid_instead F) n x2_4 x3_5 = some (o_6) → (∀ (H : Heap) (locs : List Loc) (ls : Array Slot), va_P D vwCl [(q_this, .inr (7, [.ref q_text, .ref q_item, .ref q_stands, .ref q_crowd, .ref q_measure, .ref q_laid, .ref q_tried])), (q_laid, .inr (0, [.ref q_laid_words, .ref q_laid_heard, .ref q_laid_canSay, .ref q_laid_instead, .ref q_laid_traders, .ref q_laid_takes, .ref q_laid_needs, .int v_laid_speaks, .int v_laid_alikeFrom])), (q_laid_words, .inl (ca 0, 16, .inl v_laid_words)), (q_laid_canSay, .inl (ca 0, 2, .inl v_laid_canSay)), (q_laid_instead, .inl (ca 0, 16, .inl v_laid_instead))] H → va_D A [(q_this, .inr (7, [.ref q_text, .ref q_item, .ref q_stands, .ref q_crowd, .ref q_measure, .ref q_laid, .ref q_tried])), (q_laid, .inr (0, [.ref q_laid_words, .ref q_laid_heard, .ref q_laid_canSay, .ref q_laid_instead, .ref q_laid_traders, .ref q_laid_takes, .ref q_laid_needs, .int v_laid_speaks, .int v_laid_alikeFrom])), (q_laid_words, .inl (ca 0, 16, .inl v_laid_words)), (q_laid_canSay, .inl (ca 0, 2, .inl v_laid_canSay)), (q_laid_instead, .inl (ca 0, 16, .inl v_laid_instead))] → va_S A s.heap H locs → lv_has ls 7 [(2, .int o_6)] → W p l e (headSpec wsX8_lost rm_X8_lost).room s m args below meth c H locs 0 0 Q (F0 m 88 ls [])) → va_P D vwCl [(q_this, .inr (7, [.ref q_text, .ref q_item, .ref q_stands, .ref q_crowd, .ref q_measure, .ref q_laid, .ref q_tried])), (q_laid, .inr (0, [.ref q_laid_words, .ref q_laid_heard, .ref q_laid_canSay, .ref q_laid_instead, .ref q_laid_traders, .ref q_laid_takes, .ref q_laid_needs, .int v_laid_speaks, .int v_laid_alikeFrom])), (q_laid_words, .inl (ca 0, 16, .inl v_laid_words)), (q_laid_canSay, .inl (ca 0, 2, .inl v_laid_canSay)), (q_laid_instead, .inl (ca 0, 16, .inl v_laid_instead))] H → va_D A [(q_this, .inr (7, [.ref q_text, .ref q_item, .ref q_stands, .ref q_crowd, .ref q_measure, .ref q_laid, .ref q_tried])), (q_laid, .inr (0, [.ref q_laid_words, .ref q_laid_heard, .ref q_laid_canSay, .ref q_laid_instead, .ref q_laid_traders, .ref q_laid_takes, .ref q_laid_needs, .int v_laid_speaks, .int v_laid_alikeFrom])), (q_laid_words, .inl (ca 0, 16, .inl v_laid_words)), (q_laid_canSay, .inl (ca 0, 2, .inl v_laid_canSay)), (q_laid_instead, .inl (ca 0, 16, .inl v_laid_instead))] → va_S A s.heap H locs → lv_has ls 7 [(0, .ref q_this), (1, .int p1), (2, .int x2_4), (3, .int x3_5)] → W p l e (headSpec wsX8_lost rm_X8_lost).room s m args below meth c H locs 0 0 Q (F0 m 13 ls []) := by
      intro n
      induction n with
      | zero => intro x2_4 x3_5 o_6 H locs ls h; have h : (none : Option (Int32)) = some _ := h; cases h
      | succ n ih =>
        intro x2_4 x3_5 o_6 H locs ls h hex hP hD hS hl
        rw [lpg_succ, b_X8_lost_13] at h
        refine lv_iload_n hx hb dX8_lost_13 rfl (lv_at hl 3 rfl) ?_
        refine lv_bipush (v := (nI 8)) hx hb dX8_lost_14 (by decide) ?_
        refine lv_icmp_ge (tgt := 88) hx hb dX8_lost_16 (by decide) (fun c_7 => ?_) (fun c_7 => ?_)
        · replace h := ifp_el c_7 h
          cases h
          exact hex _ _ _ hP hD hS (lv_sub hl [2] rfl)
        · replace h := ifn_el c_7 h
          refine lv_aload_n hx hb dX8_lost_19 rfl (lv_at hl 0 rfl) ?_
          refine va_get (D := D) (ci := 7) (v := .ref q_laid) (C := RX8) (T := TX8) (N := 7) hx hb hts i_X8 hown hK hP 0 rfl rfl 5 (by decide) k_49 (fun _ h9 => h9) rfl dX8_lost_20 ?_
          refine lv_iload_n hx hb dX8_lost_23 rfl (lv_at hl 1 rfl) ?_
          refine lv_iload_n hx hb dX8_lost_24 rfl (lv_at hl 3 rfl) ?_
          obtain ⟨r_8, hg_9, h⟩ := bd1_el h
          refine kx_Vi (As := [.int p1, .int x3_5]) (rest := []) (wr := [(q_this, .inr (7, [.ref q_text, .ref q_item, .ref q_stands, .ref q_crowd, .ref q_measure, .ref q_laid, .ref q_tried])), (q_laid_canSay, .inl (ca 0, 2, .inl v_laid_canSay)), (q_laid_instead, .inl (ca 0, 16, .inl v_laid_instead))]) (w1 := [(q_laid, .inr (0, [.ref q_laid_words, .ref q_laid_heard, .ref q_laid_canSay, .ref q_laid_instead, .ref q_laid_traders, .ref q_laid_takes, .ref q_laid_needs, .int v_laid_speaks, .int v_laid_alikeFrom])), (q_laid_words, .inl (ca 0, 16, .inl v_laid_words))]) (wn := [(q_this, .inr (7, [.ref q_text, .ref q_item, .ref q_stands, .ref q_crowd, .ref q_measure, .ref q_laid, .ref q_tried])), (q_laid, .inr (0, [.ref q_laid_words, .ref q_laid_heard, .ref q_laid_canSay, .ref q_laid_instead, .ref q_laid_traders, .ref q_laid_takes, .ref q_laid_needs, .int v_laid_speaks, .int v_laid_alikeFrom])), (q_laid_words, .inl (ca 0, 16, .inl v_laid_words)), (q_laid_canSay, .inl (ca 0, 2, .inl v_laid_canSay)), (q_laid_instead, .inl (ca 0, 16, .inl v_laid_instead))]) ⟨hx, hb, hml, hown, hts⟩ (c_X0_wordOf l D ca H.size q_laid q_laid_words q_laid_heard q_laid_canSay q_laid_instead q_laid_traders q_laid_takes q_laid_needs p1 x3_5 v_laid_speaks v_laid_alikeFrom v_laid_words r_8 hg_9) (cwV 2 hts gX8_lost_X0_wordOf rfl rfl rfl (by decide +kernel) ⟨(Nat.le_of_ble_eq_true rfl), (Nat.le_of_ble_eq_true rfl)⟩) hK hP hD hS hA (ci := 0) (q0 := 0) rfl rfl [1, 2] [0, 3, 4] [0, 3, 4, 1, 2] rfl rfl rfl rfl (by decide) rfl rfl rfl hl.1 rfl (Nat.le_of_ble_eq_true rfl) dX8_lost_25 ⟨Nat.zero_le _, Nat.zero_le _⟩ (fun H locs hP hD hS => ?_)
          refine lv_istore (lv' := [(4, .int r_8), (0, .ref q_this), (1, .int p1), (2, .int x2_4), (3, .int x3_5)]) hx hb dX8_lost_28 hl (by decide) rfl (fun ls hl => ?_)
          refine lv_iconst (v := (nI 0)) hx hb dX8_lost_30 (by decide) ?_
          refine lv_istore (lv' := [(5, .int (nI 0)), (4, .int r_8), (0, .ref q_this), (1, .int p1), (2, .int x2_4), (3, .int x3_5)]) hx hb dX8_lost_31 hl (by decide) rfl (fun ls hl => ?_)
          obtain ⟨o_12, hL, h⟩ := bd1_el h
          have hex : ∀ (H : Heap) (locs : List Loc) (ls : Array Slot), va_P D vwCl [(q_this, .inr (7, [.ref q_text, .ref q_item, .ref q_stands, .ref q_crowd, .ref q_measure, .ref q_laid, .ref q_tried])), (q_laid, .inr (0, [.ref q_laid_words, .ref q_laid_heard, .ref q_laid_canSay, .ref q_laid_instead, .ref q_laid_traders, .ref q_laid_takes, .ref q_laid_needs, .int v_laid_speaks, .int v_laid_alikeFrom])), (q_laid_words, .inl (ca 0, 16, .inl v_laid_words)), (q_laid_canSay, .inl (ca 0, 2, .inl v_laid_canSay)), (q_laid_instead, .inl (ca 0, 16, .inl v_laid_instead))] H → va_D A [(q_this, .inr (7, [.ref q_text, .ref q_item, .ref q_stands, .ref q_crowd, .ref q_measure, .ref q_laid, .ref q_tried])), (q_laid, .inr (0, [.ref q_laid_words, .ref q_laid_heard, .ref q_laid_canSay, .ref q_laid_instead, .ref q_laid_traders, .ref q_laid_takes, .ref q_laid_needs, .int v_laid_speaks, .int v_laid_alikeFrom])), (q_laid_words, .inl (ca 0, 16, .inl v_laid_words)), (q_laid_canSay, .inl (ca 0, 2, .inl v_laid_canSay)), (q_laid_instead, .inl (ca 0, 16, .inl v_laid_instead))] → va_S A s.heap H locs → lv_has ls 7 [(0, .ref q_this), (1, .int p1), (2, .int o_12), (3, .int x3_5)] → W p l e (headSpec wsX8_lost rm_X8_lost).room s m args below meth c H locs 0 0 Q (F0 m 82 ls []) := by
            intro H locs ls hP hD hS hl
            obtain ⟨x3_26, e_27, h⟩ := nm_el h
            refine lv_iinc (v := x3_26) (lv' := [(3, .int x3_26), (0, .ref q_this), (1, .int p1), (2, .int o_12)]) hx hb dX8_lost_82 hl (k := 3) rfl (by rw [← e_27]; rfl) (by decide) rfl (fun ls hl => ?_)
            refine lv_goto (tgt := 13) hx hb dX8_lost_85 (by decide) ?_
            exact ih _ _ _ _ _ _ h hex hP hD hS (lv_sub hl [1, 2, 3, 0] rfl)
          have hlp : ∀ (n : Nat) (x2_10 : Int32) (x5_11 : Int32) (o_12 : Int32) (H : Heap) (locs : List Loc) (ls : Array Slot), lpg (T := Int32 → Int32 → Option (Int32)) (fun _ _ => none) (b_X8_lost_33 p1 v_laid_canSay v_laid_instead r_8) n x2_10 x5_11 = some (o_12) → (∀ (H : Heap) (locs : List Loc) (ls : Array Slot), va_P D vwCl [(q_this, .inr (7, [.ref q_text, .ref q_item, .ref q_stands, .ref q_crowd, .ref q_measure, .ref q_laid, .ref q_tried])), (q_laid, .inr (0, [.ref q_laid_words, .ref q_laid_heard, .ref q_laid_canSay, .ref q_laid_instead, .ref q_laid_traders, .ref q_laid_takes, .ref q_laid_needs, .int v_laid_speaks, .int v_laid_alikeFrom])), (q_laid_words, .inl (ca 0, 16, .inl v_laid_words)), (q_laid_canSay, .inl (ca 0, 2, .inl v_laid_canSay)), (q_laid_instead, .inl (ca 0, 16, .inl v_laid_instead))] H → va_D A [(q_this, .inr (7, [.ref q_text, .ref q_item, .ref q_stands, .ref q_crowd, .ref q_measure, .ref q_laid, .ref q_tried])), (q_laid, .inr (0, [.ref q_laid_words, .ref q_laid_heard, .ref q_laid_canSay, .ref q_laid_instead, .ref q_laid_traders, .ref q_laid_takes, .ref q_laid_needs, .int v_laid_speaks, .int v_laid_alikeFrom])), (q_laid_words, .inl (ca 0, 16, .inl v_laid_words)), (q_laid_canSay, .inl (ca 0, 2, .inl v_laid_canSay)), (q_laid_instead, .inl (ca 0, 16, .inl v_laid_instead))] → va_S A s.heap H locs → lv_has ls 7 [(0, .ref q_this), (1, .int p1), (2, .int o_12), (3, .int x3_5)] → W p l e (headSpec wsX8_lost rm_X8_lost).room s m args below meth c H locs 0 0 Q (F0 m 82 ls [])) → va_P D vwCl [(q_this, .inr (7, [.ref q_text, .ref q_item, .ref q_stands, .ref q_crowd, .ref q_measure, .ref q_laid, .ref q_tried])), (q_laid, .inr (0, [.ref q_laid_words, .ref q_laid_heard, .ref q_laid_canSay, .ref q_laid_instead, .ref q_laid_traders, .ref q_laid_takes, .ref q_laid_needs, .int v_laid_speaks, .int v_laid_alikeFrom])), (q_laid_words, .inl (ca 0, 16, .inl v_laid_words)), (q_laid_canSay, .inl (ca 0, 2, .inl v_laid_canSay)), (q_laid_instead, .inl (ca 0, 16, .inl v_laid_instead))] H → va_D A [(q_this, .inr (7, [.ref q_text, .ref q_item, .ref q_stands, .ref q_crowd, .ref q_measure, .ref q_laid, .ref q_tried])), (q_laid, .inr (0, [.ref q_laid_words, .ref q_laid_heard, .ref q_laid_canSay, .ref q_laid_instead, .ref q_laid_traders, .ref q_laid_takes, .ref q_laid_needs, .int v_laid_speaks, .int v_laid_alikeFrom])), (q_laid_words, .inl (ca 0, 16, .inl v_laid_words)), (q_laid_canSay, .inl (ca 0, 2, .inl v_laid_canSay)), (q_laid_instead, .inl (ca 0, 16, .inl v_laid_instead))] → va_S A s.heap H locs → lv_has ls 7 [(0, .ref q_this), (1, .int p1), (2, .int x2_10), (3, .int x3_5), (4, .int r_8), (5, .int x5_11)] → W p l e (headSpec wsX8_lost rm_X8_lost).room s m args below meth c H locs 0 0 Q (F0 m 33 ls []) := by
            intro n
            induction n with
            | zero => intro x2_10 x5_11 o_12 H locs ls h; have h : (none : Option (Int32)) = some _ := h; cases h
            | succ n ih =>
              intro x2_10 x5_11 o_12 H locs ls h hex hP hD hS hl
              rw [lpg_succ, b_X8_lost_33] at h
              refine lv_iload hx hb dX8_lost_33 (lv_at hl 5 rfl) ?_
              refine lv_iload hx hb dX8_lost_35 (lv_at hl 4 rfl) ?_
              obtain ⟨r_13, hg_14, h⟩ := bd1_el h
              refine kx_Si (As := [.int r_8]) (rest := [.int x5_11]) (wr := [(q_this, .inr (7, [.ref q_text, .ref q_item, .ref q_stands, .ref q_crowd, .ref q_measure, .ref q_laid, .ref q_tried])), (q_laid, .inr (0, [.ref q_laid_words, .ref q_laid_heard, .ref q_laid_canSay, .ref q_laid_instead, .ref q_laid_traders, .ref q_laid_takes, .ref q_laid_needs, .int v_laid_speaks, .int v_laid_alikeFrom])), (q_laid_words, .inl (ca 0, 16, .inl v_laid_words)), (q_laid_canSay, .inl (ca 0, 2, .inl v_laid_canSay)), (q_laid_instead, .inl (ca 0, 16, .inl v_laid_instead))]) (w1 := []) (wn := [(q_this, .inr (7, [.ref q_text, .ref q_item, .ref q_stands, .ref q_crowd, .ref q_measure, .ref q_laid, .ref q_tried])), (q_laid, .inr (0, [.ref q_laid_words, .ref q_laid_heard, .ref q_laid_canSay, .ref q_laid_instead, .ref q_laid_traders, .ref q_laid_takes, .ref q_laid_needs, .int v_laid_speaks, .int v_laid_alikeFrom])), (q_laid_words, .inl (ca 0, 16, .inl v_laid_words)), (q_laid_canSay, .inl (ca 0, 2, .inl v_laid_canSay)), (q_laid_instead, .inl (ca 0, 16, .inl v_laid_instead))]) ⟨hx, hb, hml, hown, hts⟩ (c_X7_length l D ca H.size r_8 r_13 hg_14) (va_cwS 1 hts gX8_lost_X7_length rfl rfl rfl (by decide +kernel) ⟨(Nat.le_of_ble_eq_true rfl), (Nat.le_of_ble_eq_true rfl)⟩) hK hP hD hS hA [] [0, 1, 2, 3, 4] [0, 1, 2, 3, 4] rfl rfl rfl rfl (by decide) rfl rfl rfl hl.1 rfl (Nat.le_of_ble_eq_true rfl) dX8_lost_37 ⟨Nat.zero_le _, Nat.zero_le _⟩ (fun H locs hP hD hS => ?_)
              refine lv_icmp_ge (tgt := 82) hx hb dX8_lost_40 (by decide) (fun c_15 => ?_) (fun c_15 => ?_)
              · replace h := ifp_el c_15 h
                cases h
                exact hex _ _ _ hP hD hS (lv_sub hl [0, 1, 2, 3] rfl)
              · replace h := ifn_el c_15 h
                refine lv_iload hx hb dX8_lost_43 (lv_at hl 4 rfl) ?_
                refine lv_iload hx hb dX8_lost_45 (lv_at hl 5 rfl) ?_
                obtain ⟨r_16, hg_17, h⟩ := bd1_el h
                refine kx_Si (As := [.int r_8, .int x5_11]) (rest := []) (wr := [(q_this, .inr (7, [.ref q_text, .ref q_item, .ref q_stands, .ref q_crowd, .ref q_measure, .ref q_laid, .ref q_tried])), (q_laid, .inr (0, [.ref q_laid_words, .ref q_laid_heard, .ref q_laid_canSay, .ref q_laid_instead, .ref q_laid_traders, .ref q_laid_takes, .ref q_laid_needs, .int v_laid_speaks, .int v_laid_alikeFrom])), (q_laid_words, .inl (ca 0, 16, .inl v_laid_words)), (q_laid_canSay, .inl (ca 0, 2, .inl v_laid_canSay)), (q_laid_instead, .inl (ca 0, 16, .inl v_laid_instead))]) (w1 := []) (wn := [(q_this, .inr (7, [.ref q_text, .ref q_item, .ref q_stands, .ref q_crowd, .ref q_measure, .ref q_laid, .ref q_tried])), (q_laid, .inr (0, [.ref q_laid_words, .ref q_laid_heard, .ref q_laid_canSay, .ref q_laid_instead, .ref q_laid_traders, .ref q_laid_takes, .ref q_laid_needs, .int v_laid_speaks, .int v_laid_alikeFrom])), (q_laid_words, .inl (ca 0, 16, .inl v_laid_words)), (q_laid_canSay, .inl (ca 0, 2, .inl v_laid_canSay)), (q_laid_instead, .inl (ca 0, 16, .inl v_laid_instead))]) ⟨hx, hb, hml, hown, hts⟩ (c_X7_soundAt l D ca H.size r_8 x5_11 r_16 hg_17) (va_cwS 2 hts gX8_lost_X7_soundAt rfl rfl rfl (by decide +kernel) ⟨(Nat.le_of_ble_eq_true rfl), (Nat.le_of_ble_eq_true rfl)⟩) hK hP hD hS hA [] [0, 1, 2, 3, 4] [0, 1, 2, 3, 4] rfl rfl rfl rfl (by decide) rfl rfl rfl hl.1 rfl (Nat.le_of_ble_eq_true rfl) dX8_lost_47 ⟨Nat.zero_le _, Nat.zero_le _⟩ (fun H locs hP hD hS => ?_)
                refine lv_istore (lv' := [(6, .int r_16), (0, .ref q_this), (1, .int p1), (2, .int x2_10), (3, .int x3_5), (4, .int r_8), (5, .int x5_11)]) hx hb dX8_lost_50 hl (by decide) rfl (fun ls hl => ?_)
                refine lv_aload_n hx hb dX8_lost_52 rfl (lv_at hl 1 rfl) ?_
                refine va_get (D := D) (ci := 7) (v := .ref q_laid) (C := RX8) (T := TX8) (N := 7) hx hb hts i_X8 hown hK hP 0 rfl rfl 5 (by decide) k_49 (fun _ h9 => h9) rfl dX8_lost_53 ?_
                refine lv_iconst (v := (nI 1)) hx hb dX8_lost_56 (by decide) ?_
                refine lv_iload_n hx hb dX8_lost_57 rfl (lv_at hl 2 rfl) ?_
                refine lv_isub hx hb dX8_lost_58 ?_
                refine lv_iload hx hb dX8_lost_59 (lv_at hl 0 rfl) ?_
                obtain ⟨r_18, hg_19, h⟩ := bd1_el h
                refine kx_Vi (As := [.int ((nI 1) - p1), .int r_16]) (rest := []) (wr := [(q_this, .inr (7, [.ref q_text, .ref q_item, .ref q_stands, .ref q_crowd, .ref q_measure, .ref q_laid, .ref q_tried])), (q_laid_words, .inl (ca 0, 16, .inl v_laid_words))]) (w1 := [(q_laid, .inr (0, [.ref q_laid_words, .ref q_laid_heard, .ref q_laid_canSay, .ref q_laid_instead, .ref q_laid_traders, .ref q_laid_takes, .ref q_laid_needs, .int v_laid_speaks, .int v_laid_alikeFrom])), (q_laid_canSay, .inl (ca 0, 2, .inl v_laid_canSay)), (q_laid_instead, .inl (ca 0, 16, .inl v_laid_instead))]) (wn := [(q_this, .inr (7, [.ref q_text, .ref q_item, .ref q_stands, .ref q_crowd, .ref q_measure, .ref q_laid, .ref q_tried])), (q_laid, .inr (0, [.ref q_laid_words, .ref q_laid_heard, .ref q_laid_canSay, .ref q_laid_instead, .ref q_laid_traders, .ref q_laid_takes, .ref q_laid_needs, .int v_laid_speaks, .int v_laid_alikeFrom])), (q_laid_words, .inl (ca 0, 16, .inl v_laid_words)), (q_laid_canSay, .inl (ca 0, 2, .inl v_laid_canSay)), (q_laid_instead, .inl (ca 0, 16, .inl v_laid_instead))]) ⟨hx, hb, hml, hown, hts⟩ (c_X0_soundSaidBy l D ca H.size q_laid q_laid_words q_laid_heard q_laid_canSay q_laid_instead q_laid_traders q_laid_takes q_laid_needs ((nI 1) - p1) r_16 v_laid_speaks v_laid_alikeFrom v_laid_canSay v_laid_instead r_18 hg_19) (cwV 2 hts gX8_lost_X0_soundSaidBy rfl rfl rfl (by decide +kernel) ⟨(Nat.le_of_ble_eq_true rfl), (Nat.le_of_ble_eq_true rfl)⟩) hK hP hD hS hA (ci := 0) (q0 := 0) rfl rfl [1, 3, 4] [0, 2] [0, 2, 1, 3, 4] rfl rfl rfl rfl (by decide) rfl rfl rfl hl.1 rfl (Nat.le_of_ble_eq_true rfl) dX8_lost_61 ⟨Nat.zero_le _, Nat.zero_le _⟩ (fun H locs hP hD hS => ?_)
                refine lv_bipush (v := (-4 : Int32)) hx hb dX8_lost_64 (by decide) ?_
                refine lv_icmp_ne (tgt := 76) hx hb dX8_lost_66 (by decide) (fun c_20 => ?_) (fun c_20 => ?_)
                · replace h := ifn_el c_20 h
                  obtain ⟨x5_21, e_22, h⟩ := nm_el h
                  refine lv_iinc (v := x5_21) (lv' := [(5, .int x5_21), (6, .int r_16), (0, .ref q_this), (1, .int p1), (2, .int x2_10), (3, .int x3_5), (4, .int r_8)]) hx hb dX8_lost_76 hl (k := 6) rfl (by rw [← e_22]; rfl) (by decide) rfl (fun ls hl => ?_)
                  refine lv_goto (tgt := 33) hx hb dX8_lost_79 (by decide) ?_
                  exact ih _ _ _ _ _ _ h hex hP hD hS (lv_sub hl [2, 3, 4, 5, 6, 0] rfl)
                · replace h := ifp_el c_20 h
                  refine lv_iload_n hx hb dX8_lost_69 rfl (lv_at hl 3 rfl) ?_
                  refine lv_iconst (v := (nI 1)) hx hb dX8_lost_70 (by decide) ?_
                  refine lv_iload hx hb dX8_lost_71 (lv_at hl 0 rfl) ?_
                  refine lv_ishl hx hb dX8_lost_73 ?_
                  refine lv_ior hx hb dX8_lost_74 ?_
                  refine lv_nmi h (fun x2_23 h => ?_)
                  refine lv_istore_n (lv' := [(2, .int x2_23), (6, .int r_16), (0, .ref q_this), (1, .int p1), (3, .int x3_5), (4, .int r_8), (5, .int x5_11)]) hx hb dX8_lost_75 rfl hl (by decide) rfl (fun ls hl => ?_)
                  obtain ⟨x5_24, e_25, h⟩ := nm_el h
                  refine lv_iinc (v := x5_24) (lv' := [(5, .int x5_24), (2, .int x2_23), (6, .int r_16), (0, .ref q_this), (1, .int p1), (3, .int x3_5), (4, .int r_8)]) hx hb dX8_lost_76 hl (k := 6) rfl (by rw [← e_25]; rfl) (by decide) rfl (fun ls hl => ?_)
                  refine lv_goto (tgt := 33) hx hb dX8_lost_79 (by decide) ?_
                  exact ih _ _ _ _ _ _ h hex hP hD hS (lv_sub hl [3, 4, 1, 5, 6, 0] rfl)
          exact hlp F x2_4 (nI 0) o_12 H locs ls hL hex hP hD hS (lv_sub hl [2, 3, 4, 5, 1, 0] rfl)
    exact hlp F (nI 0) (nI 0) o_6 H locs ls hL hex hP hD hS (lv_sub hl [2, 3, 1, 0] rfl)
  · replace h := ifp_el c_3 h
    refine lv_iconst (v := (-1 : Int32)) hx hb dX8_lost_7 (by decide) ?_
    cases h
    rw [← hQe]
    exact W.iret hx hb hr (fun t ht hW => ⟨⟨_, (), rfl, rfl, by rw [ht]; exact hP, va_K.moved hW.alike hK, hD⟩, hS.F ht⟩) hS.2.2 dX8_lost_8
def D_X8_keep (v_stands_kept : Int32) (v_stands_others : Nat → Int32) (v_stands_keptOthers : Nat → Int32) : Option (Int32 × Int32 × (Nat → Int32)) := bd3 (D_X5_push v_stands_kept v_stands_others v_stands_keptOthers) (fun r_1 y_stands_kept_2 y_stands_keptOthers_3 => (if r_1 = 0 then some ((-3 : Int32), y_stands_kept_2, y_stands_keptOthers_3) else bd1 (D_X5_kept y_stands_kept_2) (fun r_6 => some (r_6, y_stands_kept_2, y_stands_keptOthers_3))))
abbrev rm_X8_keep : Room := { frames := 2, cells := 0, slots := 0, locals := 46 }
set_option maxHeartbeats 4000000 in
set_option maxRecDepth 100000 in
theorem c_X8_keep (l : Launch) (D : va_G) (ca : Nat → ClassId) (sz : Nat) (q_this q_text q_item q_stands q_stands_others q_stands_keptOthers q_crowd q_measure q_laid q_tried : Nat) (v_stands_kept : Int32) (v_stands_others : Nat → Int32) (v_stands_keptOthers : Nat → Int32) (r : Int32) (o_stands_kept : Int32) (o_stands_keptOthers : Nat → Int32) (h : D_X8_keep v_stands_kept v_stands_others v_stands_keptOthers = some (r, o_stands_kept, o_stands_keptOthers)) : Met l yX8_keep wsX8_keep rm_X8_keep (va_Pc [.ref q_this] (kPre D ca [(q_this, .inr (7, [.ref q_text, .ref q_item, .ref q_stands, .ref q_crowd, .ref q_measure, .ref q_laid, .ref q_tried])), (q_stands, .inr (5, [.ref q_stands_others, .ref q_stands_keptOthers, .int v_stands_kept])), (q_stands_others, .inl (ca 0, 16, .inl v_stands_others)), (q_stands_keptOthers, .inl (ca 0, 32, .inl v_stands_keptOthers))] sz)) (kQi D ca (va_A [(q_this, .inr (7, [.ref q_text, .ref q_item, .ref q_stands, .ref q_crowd, .ref q_measure, .ref q_laid, .ref q_tried])), (q_stands, .inr (5, [.ref q_stands_others, .ref q_stands_keptOthers, .int v_stands_kept])), (q_stands_others, .inl (ca 0, 16, .inl v_stands_others)), (q_stands_keptOthers, .inl (ca 0, 32, .inl v_stands_keptOthers))] sz) [(q_this, .inr (7, [.ref q_text, .ref q_item, .ref q_stands, .ref q_crowd, .ref q_measure, .ref q_laid, .ref q_tried])), (q_stands, .inr (5, [.ref q_stands_others, .ref q_stands_keptOthers, .int o_stands_kept])), (q_stands_others, .inl (ca 0, 16, .inl v_stands_others)), (q_stands_keptOthers, .inl (ca 0, 32, .inl o_stands_keptOthers))] r) 0 0 (va_A [(q_this, .inr (7, [.ref q_text, .ref q_item, .ref q_stands, .ref q_crowd, .ref q_measure, .ref q_laid, .ref q_tried])), (q_stands, .inr (5, [.ref q_stands_others, .ref q_stands_keptOthers, .int v_stands_kept])), (q_stands_others, .inl (ca 0, 16, .inl v_stands_others)), (q_stands_keptOthers, .inl (ca 0, 32, .inl v_stands_keptOthers))] sz) := by
  refine Met.ofW (cc := cX8_keep) (maxL := 1) (ret := (some .int)) (by decide +kernel) rfl ?_
  intro p e s m args below meth c s₁ B hml hv
  obtain ⟨rfl, hsz, hP, hK, hD0⟩ := hv
  have hx := B.exec
  have hb := B.bytes
  have hr := B.returns
  have hts := atoms_spec (ws := wsX8_keep) B.pre
  have hown : s.vm.findClass RX8 = some m.cls := findClass_of_methodNamed B.named
  have hlocks := B.notSynchronized
  clear B
  subst hsz
  have hD := hD0.self (sz := s.heap.size)
  generalize hAe : va_A [(q_this, .inr (7, [.ref q_text, .ref q_item, .ref q_stands, .ref q_crowd, .ref q_measure, .ref q_laid, .ref q_tried])), (q_stands, .inr (5, [.ref q_stands_others, .ref q_stands_keptOthers, .int v_stands_kept])), (q_stands_others, .inl (ca 0, 16, .inl v_stands_others)), (q_stands_keptOthers, .inl (ca 0, 32, .inl v_stands_keptOthers))] s.heap.size = A at hD ⊢
  have hA : ∀ q : Nat, s.heap.size ≤ q → A q := fun q h => by rw [← hAe]; exact Or.inr h
  have hS : va_S A s.heap s.heap [] := va_S.rf
  have hl := lv_entry ([.ref q_this]) (n := 1) (Nat.le_of_ble_eq_true rfl)
  rw [lg_entry_eq]
  generalize (lg_sl ([.ref q_this]) ++ List.replicate (1 - (lg_sl ([.ref q_this])).length) Slot.unset).toArray = ls at hl ⊢
  have hl : lv_has ls 1 [(0, .ref q_this)] := hl
  generalize ([.ref q_this] : List Value).toArray = args at hts ⊢
  generalize hQe : MQ below (kQi D ca (A) [(q_this, .inr (7, [.ref q_text, .ref q_item, .ref q_stands, .ref q_crowd, .ref q_measure, .ref q_laid, .ref q_tried])), (q_stands, .inr (5, [.ref q_stands_others, .ref q_stands_keptOthers, .int o_stands_kept])), (q_stands_others, .inl (ca 0, 16, .inl v_stands_others)), (q_stands_keptOthers, .inl (ca 0, 32, .inl o_stands_keptOthers))] r) args s 0 0 A = Q
  have i_X8 : ∀ w ∈ u_ws RX8 TX8 7, w ∈ wsX8_keep := by decide +kernel
  have k_28 := hts (.fieldLink RX8 28 "TradeWords" "stands" "LTradeWords$Stands;") (by decide +kernel)
  rw [D_X8_keep] at h
  refine lv_aload_n hx hb dX8_keep_0 rfl (lv_at hl 0 rfl) ?_
  refine va_get (D := D) (ci := 7) (v := .ref q_stands) (C := RX8) (T := TX8) (N := 7) hx hb hts i_X8 hown hK hP 0 rfl rfl 2 (by decide) k_28 (fun _ h9 => h9) rfl dX8_keep_1 ?_
  obtain ⟨r_1, y_stands_kept_2, y_stands_keptOthers_3, hg_4, h⟩ := bd3_el h
  refine kx_Vi (As := []) (rest := []) (wr := [(q_this, .inr (7, [.ref q_text, .ref q_item, .ref q_stands, .ref q_crowd, .ref q_measure, .ref q_laid, .ref q_tried]))]) (w1 := [(q_stands, .inr (5, [.ref q_stands_others, .ref q_stands_keptOthers, .int y_stands_kept_2])), (q_stands_others, .inl (ca 0, 16, .inl v_stands_others)), (q_stands_keptOthers, .inl (ca 0, 32, .inl y_stands_keptOthers_3))]) (wn := [(q_this, .inr (7, [.ref q_text, .ref q_item, .ref q_stands, .ref q_crowd, .ref q_measure, .ref q_laid, .ref q_tried])), (q_stands, .inr (5, [.ref q_stands_others, .ref q_stands_keptOthers, .int y_stands_kept_2])), (q_stands_others, .inl (ca 0, 16, .inl v_stands_others)), (q_stands_keptOthers, .inl (ca 0, 32, .inl y_stands_keptOthers_3))]) ⟨hx, hb, hml, hown, hts⟩ (c_X5_push l D ca s.heap.size q_stands q_stands_others q_stands_keptOthers v_stands_kept v_stands_others v_stands_keptOthers r_1 y_stands_kept_2 y_stands_keptOthers_3 hg_4) (cwV 0 hts gX8_keep_X5_push rfl rfl rfl (by decide +kernel) ⟨(Nat.le_of_ble_eq_true rfl), (Nat.le_of_ble_eq_true rfl)⟩) hK hP hD hS hA (ci := 5) (q0 := 0) rfl rfl [1, 2, 3] [0] [0, 1, 2, 3] rfl rfl rfl rfl (by decide) rfl rfl rfl hl.1 rfl (Nat.le_of_ble_eq_true rfl) dX8_keep_4 ⟨Nat.zero_le _, Nat.zero_le _⟩ (fun H locs hP hD hS => ?_)
  refine lv_if_eq (tgt := 20) hx hb dX8_keep_7 (by decide) (fun c_5 => ?_) (fun c_5 => ?_)
  · replace h := ifp_el c_5 h
    refine lv_bipush (v := (-3 : Int32)) hx hb dX8_keep_20 (by decide) ?_
    cases h
    rw [← hQe]
    exact W.iret hx hb hr (fun t ht hW => ⟨⟨_, (), rfl, rfl, by rw [ht]; exact hP, va_K.moved hW.alike hK, hD⟩, hS.F ht⟩) hS.2.2 dX8_keep_22
  · replace h := ifn_el c_5 h
    refine lv_aload_n hx hb dX8_keep_10 rfl (lv_at hl 0 rfl) ?_
    refine va_get (D := D) (ci := 7) (v := .ref q_stands) (C := RX8) (T := TX8) (N := 7) hx hb hts i_X8 hown hK hP 0 rfl rfl 2 (by decide) k_28 (fun _ h9 => h9) rfl dX8_keep_11 ?_
    obtain ⟨r_6, hg_7, h⟩ := bd1_el h
    refine kx_Vi (As := []) (rest := []) (wr := [(q_this, .inr (7, [.ref q_text, .ref q_item, .ref q_stands, .ref q_crowd, .ref q_measure, .ref q_laid, .ref q_tried])), (q_stands_others, .inl (ca 0, 16, .inl v_stands_others)), (q_stands_keptOthers, .inl (ca 0, 32, .inl y_stands_keptOthers_3))]) (w1 := [(q_stands, .inr (5, [.ref q_stands_others, .ref q_stands_keptOthers, .int y_stands_kept_2]))]) (wn := [(q_this, .inr (7, [.ref q_text, .ref q_item, .ref q_stands, .ref q_crowd, .ref q_measure, .ref q_laid, .ref q_tried])), (q_stands, .inr (5, [.ref q_stands_others, .ref q_stands_keptOthers, .int y_stands_kept_2])), (q_stands_others, .inl (ca 0, 16, .inl v_stands_others)), (q_stands_keptOthers, .inl (ca 0, 32, .inl y_stands_keptOthers_3))]) ⟨hx, hb, hml, hown, hts⟩ (c_X5_kept l D ca H.size q_stands q_stands_others q_stands_keptOthers y_stands_kept_2 r_6 hg_7) (cwV 0 hts gX8_keep_X5_kept rfl rfl rfl (by decide +kernel) ⟨(Nat.le_of_ble_eq_true rfl), (Nat.le_of_ble_eq_true rfl)⟩) hK hP hD hS hA (ci := 5) (q0 := 0) rfl rfl [1] [0, 2, 3] [0, 3, 1, 2] rfl rfl rfl rfl (by decide) rfl rfl rfl hl.1 rfl (Nat.le_of_ble_eq_true rfl) dX8_keep_14 ⟨Nat.zero_le _, Nat.zero_le _⟩ (fun H locs hP hD hS => ?_)
    refine lv_goto (tgt := 22) hx hb dX8_keep_17 (by decide) ?_
    cases h
    rw [← hQe]
    exact W.iret hx hb hr (fun t ht hW => ⟨⟨_, (), rfl, rfl, by rw [ht]; exact hP, va_K.moved hW.alike hK, hD⟩, hS.F ht⟩) hS.2.2 dX8_keep_22
def D_X8_back (v_stands_kept : Int32) (v_stands_others : Nat → Int32) (v_stands_keptOthers : Nat → Int32) : Option (Int32 × Int32 × (Nat → Int32)) := bd3 (D_X5_pop v_stands_kept v_stands_others v_stands_keptOthers) (fun r_1 y_stands_kept_2 y_stands_others_3 => (if r_1 = 0 then some ((-2 : Int32), y_stands_kept_2, y_stands_others_3) else bd1 (D_X5_kept y_stands_kept_2) (fun r_6 => some (r_6, y_stands_kept_2, y_stands_others_3))))
abbrev rm_X8_back : Room := { frames := 2, cells := 0, slots := 0, locals := 46 }
set_option maxHeartbeats 4000000 in
set_option maxRecDepth 100000 in
theorem c_X8_back (l : Launch) (D : va_G) (ca : Nat → ClassId) (sz : Nat) (q_this q_text q_item q_stands q_stands_others q_stands_keptOthers q_crowd q_measure q_laid q_tried : Nat) (v_stands_kept : Int32) (v_stands_others : Nat → Int32) (v_stands_keptOthers : Nat → Int32) (r : Int32) (o_stands_kept : Int32) (o_stands_others : Nat → Int32) (h : D_X8_back v_stands_kept v_stands_others v_stands_keptOthers = some (r, o_stands_kept, o_stands_others)) : Met l yX8_back wsX8_back rm_X8_back (va_Pc [.ref q_this] (kPre D ca [(q_this, .inr (7, [.ref q_text, .ref q_item, .ref q_stands, .ref q_crowd, .ref q_measure, .ref q_laid, .ref q_tried])), (q_stands, .inr (5, [.ref q_stands_others, .ref q_stands_keptOthers, .int v_stands_kept])), (q_stands_others, .inl (ca 0, 16, .inl v_stands_others)), (q_stands_keptOthers, .inl (ca 0, 32, .inl v_stands_keptOthers))] sz)) (kQi D ca (va_A [(q_this, .inr (7, [.ref q_text, .ref q_item, .ref q_stands, .ref q_crowd, .ref q_measure, .ref q_laid, .ref q_tried])), (q_stands, .inr (5, [.ref q_stands_others, .ref q_stands_keptOthers, .int v_stands_kept])), (q_stands_others, .inl (ca 0, 16, .inl v_stands_others)), (q_stands_keptOthers, .inl (ca 0, 32, .inl v_stands_keptOthers))] sz) [(q_this, .inr (7, [.ref q_text, .ref q_item, .ref q_stands, .ref q_crowd, .ref q_measure, .ref q_laid, .ref q_tried])), (q_stands, .inr (5, [.ref q_stands_others, .ref q_stands_keptOthers, .int o_stands_kept])), (q_stands_others, .inl (ca 0, 16, .inl o_stands_others)), (q_stands_keptOthers, .inl (ca 0, 32, .inl v_stands_keptOthers))] r) 0 0 (va_A [(q_this, .inr (7, [.ref q_text, .ref q_item, .ref q_stands, .ref q_crowd, .ref q_measure, .ref q_laid, .ref q_tried])), (q_stands, .inr (5, [.ref q_stands_others, .ref q_stands_keptOthers, .int v_stands_kept])), (q_stands_others, .inl (ca 0, 16, .inl v_stands_others)), (q_stands_keptOthers, .inl (ca 0, 32, .inl v_stands_keptOthers))] sz) := by
  refine Met.ofW (cc := cX8_back) (maxL := 1) (ret := (some .int)) (by decide +kernel) rfl ?_
  intro p e s m args below meth c s₁ B hml hv
  obtain ⟨rfl, hsz, hP, hK, hD0⟩ := hv
  have hx := B.exec
  have hb := B.bytes
  have hr := B.returns
  have hts := atoms_spec (ws := wsX8_back) B.pre
  have hown : s.vm.findClass RX8 = some m.cls := findClass_of_methodNamed B.named
  have hlocks := B.notSynchronized
  clear B
  subst hsz
  have hD := hD0.self (sz := s.heap.size)
  generalize hAe : va_A [(q_this, .inr (7, [.ref q_text, .ref q_item, .ref q_stands, .ref q_crowd, .ref q_measure, .ref q_laid, .ref q_tried])), (q_stands, .inr (5, [.ref q_stands_others, .ref q_stands_keptOthers, .int v_stands_kept])), (q_stands_others, .inl (ca 0, 16, .inl v_stands_others)), (q_stands_keptOthers, .inl (ca 0, 32, .inl v_stands_keptOthers))] s.heap.size = A at hD ⊢
  have hA : ∀ q : Nat, s.heap.size ≤ q → A q := fun q h => by rw [← hAe]; exact Or.inr h
  have hS : va_S A s.heap s.heap [] := va_S.rf
  have hl := lv_entry ([.ref q_this]) (n := 1) (Nat.le_of_ble_eq_true rfl)
  rw [lg_entry_eq]
  generalize (lg_sl ([.ref q_this]) ++ List.replicate (1 - (lg_sl ([.ref q_this])).length) Slot.unset).toArray = ls at hl ⊢
  have hl : lv_has ls 1 [(0, .ref q_this)] := hl
  generalize ([.ref q_this] : List Value).toArray = args at hts ⊢
  generalize hQe : MQ below (kQi D ca (A) [(q_this, .inr (7, [.ref q_text, .ref q_item, .ref q_stands, .ref q_crowd, .ref q_measure, .ref q_laid, .ref q_tried])), (q_stands, .inr (5, [.ref q_stands_others, .ref q_stands_keptOthers, .int o_stands_kept])), (q_stands_others, .inl (ca 0, 16, .inl o_stands_others)), (q_stands_keptOthers, .inl (ca 0, 32, .inl v_stands_keptOthers))] r) args s 0 0 A = Q
  have i_X8 : ∀ w ∈ u_ws RX8 TX8 7, w ∈ wsX8_back := by decide +kernel
  have k_28 := hts (.fieldLink RX8 28 "TradeWords" "stands" "LTradeWords$Stands;") (by decide +kernel)
  rw [D_X8_back] at h
  refine lv_aload_n hx hb dX8_back_0 rfl (lv_at hl 0 rfl) ?_
  refine va_get (D := D) (ci := 7) (v := .ref q_stands) (C := RX8) (T := TX8) (N := 7) hx hb hts i_X8 hown hK hP 0 rfl rfl 2 (by decide) k_28 (fun _ h9 => h9) rfl dX8_back_1 ?_
  obtain ⟨r_1, y_stands_kept_2, y_stands_others_3, hg_4, h⟩ := bd3_el h
  refine kx_Vi (As := []) (rest := []) (wr := [(q_this, .inr (7, [.ref q_text, .ref q_item, .ref q_stands, .ref q_crowd, .ref q_measure, .ref q_laid, .ref q_tried]))]) (w1 := [(q_stands, .inr (5, [.ref q_stands_others, .ref q_stands_keptOthers, .int y_stands_kept_2])), (q_stands_others, .inl (ca 0, 16, .inl y_stands_others_3)), (q_stands_keptOthers, .inl (ca 0, 32, .inl v_stands_keptOthers))]) (wn := [(q_this, .inr (7, [.ref q_text, .ref q_item, .ref q_stands, .ref q_crowd, .ref q_measure, .ref q_laid, .ref q_tried])), (q_stands, .inr (5, [.ref q_stands_others, .ref q_stands_keptOthers, .int y_stands_kept_2])), (q_stands_others, .inl (ca 0, 16, .inl y_stands_others_3)), (q_stands_keptOthers, .inl (ca 0, 32, .inl v_stands_keptOthers))]) ⟨hx, hb, hml, hown, hts⟩ (c_X5_pop l D ca s.heap.size q_stands q_stands_others q_stands_keptOthers v_stands_kept v_stands_others v_stands_keptOthers r_1 y_stands_kept_2 y_stands_others_3 hg_4) (cwV 0 hts gX8_back_X5_pop rfl rfl rfl (by decide +kernel) ⟨(Nat.le_of_ble_eq_true rfl), (Nat.le_of_ble_eq_true rfl)⟩) hK hP hD hS hA (ci := 5) (q0 := 0) rfl rfl [1, 2, 3] [0] [0, 1, 2, 3] rfl rfl rfl rfl (by decide) rfl rfl rfl hl.1 rfl (Nat.le_of_ble_eq_true rfl) dX8_back_4 ⟨Nat.zero_le _, Nat.zero_le _⟩ (fun H locs hP hD hS => ?_)
  refine lv_if_eq (tgt := 20) hx hb dX8_back_7 (by decide) (fun c_5 => ?_) (fun c_5 => ?_)
  · replace h := ifp_el c_5 h
    refine lv_bipush (v := (-2 : Int32)) hx hb dX8_back_20 (by decide) ?_
    cases h
    rw [← hQe]
    exact W.iret hx hb hr (fun t ht hW => ⟨⟨_, (), rfl, rfl, by rw [ht]; exact hP, va_K.moved hW.alike hK, hD⟩, hS.F ht⟩) hS.2.2 dX8_back_22
  · replace h := ifn_el c_5 h
    refine lv_aload_n hx hb dX8_back_10 rfl (lv_at hl 0 rfl) ?_
    refine va_get (D := D) (ci := 7) (v := .ref q_stands) (C := RX8) (T := TX8) (N := 7) hx hb hts i_X8 hown hK hP 0 rfl rfl 2 (by decide) k_28 (fun _ h9 => h9) rfl dX8_back_11 ?_
    obtain ⟨r_6, hg_7, h⟩ := bd1_el h
    refine kx_Vi (As := []) (rest := []) (wr := [(q_this, .inr (7, [.ref q_text, .ref q_item, .ref q_stands, .ref q_crowd, .ref q_measure, .ref q_laid, .ref q_tried])), (q_stands_others, .inl (ca 0, 16, .inl y_stands_others_3)), (q_stands_keptOthers, .inl (ca 0, 32, .inl v_stands_keptOthers))]) (w1 := [(q_stands, .inr (5, [.ref q_stands_others, .ref q_stands_keptOthers, .int y_stands_kept_2]))]) (wn := [(q_this, .inr (7, [.ref q_text, .ref q_item, .ref q_stands, .ref q_crowd, .ref q_measure, .ref q_laid, .ref q_tried])), (q_stands, .inr (5, [.ref q_stands_others, .ref q_stands_keptOthers, .int y_stands_kept_2])), (q_stands_others, .inl (ca 0, 16, .inl y_stands_others_3)), (q_stands_keptOthers, .inl (ca 0, 32, .inl v_stands_keptOthers))]) ⟨hx, hb, hml, hown, hts⟩ (c_X5_kept l D ca H.size q_stands q_stands_others q_stands_keptOthers y_stands_kept_2 r_6 hg_7) (cwV 0 hts gX8_back_X5_kept rfl rfl rfl (by decide +kernel) ⟨(Nat.le_of_ble_eq_true rfl), (Nat.le_of_ble_eq_true rfl)⟩) hK hP hD hS hA (ci := 5) (q0 := 0) rfl rfl [1] [0, 2, 3] [0, 3, 1, 2] rfl rfl rfl rfl (by decide) rfl rfl rfl hl.1 rfl (Nat.le_of_ble_eq_true rfl) dX8_back_14 ⟨Nat.zero_le _, Nat.zero_le _⟩ (fun H locs hP hD hS => ?_)
    refine lv_goto (tgt := 22) hx hb dX8_back_17 (by decide) ?_
    cases h
    rw [← hQe]
    exact W.iret hx hb hr (fun t ht hW => ⟨⟨_, (), rfl, rfl, by rw [ht]; exact hP, va_K.moved hW.alike hK, hD⟩, hS.F ht⟩) hS.2.2 dX8_back_22
def D_X8_count (F : Nat) (p1 : Int32) (v_text_length : Int32) (v_stands_kept : Int32) (v_laid_words : Nat → Int32) (v_laid_traders : Nat → Int32) (v_laid_needs_joinedTold : Int32) (v_laid_needs_needsTold : Int32) : Option (Int32) := (if p1 = (nI 0) then bd1 (D_X8_toldMeanings F v_laid_words) (fun r_2 => some (r_2)) else (if p1 = (nI 1) then bd1 (D_X6_length v_text_length) (fun r_5 => some (r_5)) else (if p1 = (nI 2) then bd0 (D_X0_needs) (bd1 (D_X4_needsTold v_laid_needs_needsTold) (fun r_9 => some (r_9))) else (if p1 = (nI 3) then bd0 (D_X0_needs) (bd1 (D_X4_joinedTold v_laid_needs_joinedTold) (fun r_13 => some (r_13))) else (if p1 = (nI 4) then bd1 (D_X5_kept v_stands_kept) (fun r_16 => some (r_16)) else (if p1 = (nI 5) then bd1 (D_X0_tradersOf (nI 0) v_laid_traders) (fun r_19 => some (r_19)) else (if p1 = (nI 6) then bd1 (D_X0_tradersOf (nI 1) v_laid_traders) (fun r_22 => some (r_22)) else some ((-1 : Int32)))))))))
abbrev rm_X8_count : Room := { frames := 4, cells := 0, slots := 0, locals := 86 }
set_option maxHeartbeats 4000000 in
set_option maxRecDepth 100000 in
theorem c_X8_count (l : Launch) (D : va_G) (ca : Nat → ClassId) (F : Nat) (sz : Nat) (q_this q_text q_text_bytes q_item q_stands q_stands_others q_stands_keptOthers q_crowd q_measure q_laid q_laid_words q_laid_heard q_laid_canSay q_laid_instead q_laid_traders q_laid_takes q_laid_needs q_laid_needs_joinedMeaning q_laid_needs_joinedPair q_tried : Nat) (p1 : Int32) (v_text_length : Int32) (v_stands_kept : Int32) (v_laid_speaks : Int32) (v_laid_alikeFrom : Int32) (v_laid_words : Nat → Int32) (v_laid_traders : Nat → Int32) (v_laid_needs_joinedTold : Int32) (v_laid_needs_needsTold : Int32) (v_laid_needs_needed : Int32) (r : Int32) (h : D_X8_count F p1 v_text_length v_stands_kept v_laid_words v_laid_traders v_laid_needs_joinedTold v_laid_needs_needsTold = some (r)) : Met l yX8_count wsX8_count rm_X8_count (va_Pc [.ref q_this, .int p1] (kPre D ca [(q_this, .inr (7, [.ref q_text, .ref q_item, .ref q_stands, .ref q_crowd, .ref q_measure, .ref q_laid, .ref q_tried])), (q_text, .inr (6, [.ref q_text_bytes, .int v_text_length])), (q_stands, .inr (5, [.ref q_stands_others, .ref q_stands_keptOthers, .int v_stands_kept])), (q_laid, .inr (0, [.ref q_laid_words, .ref q_laid_heard, .ref q_laid_canSay, .ref q_laid_instead, .ref q_laid_traders, .ref q_laid_takes, .ref q_laid_needs, .int v_laid_speaks, .int v_laid_alikeFrom])), (q_laid_words, .inl (ca 0, 16, .inl v_laid_words)), (q_laid_traders, .inl (ca 0, 2, .inl v_laid_traders)), (q_laid_needs, .inr (4, [.ref q_laid_needs_joinedMeaning, .ref q_laid_needs_joinedPair, .int v_laid_needs_joinedTold, .int v_laid_needs_needsTold, .int v_laid_needs_needed]))] sz)) (kQi D ca (va_A [(q_this, .inr (7, [.ref q_text, .ref q_item, .ref q_stands, .ref q_crowd, .ref q_measure, .ref q_laid, .ref q_tried])), (q_text, .inr (6, [.ref q_text_bytes, .int v_text_length])), (q_stands, .inr (5, [.ref q_stands_others, .ref q_stands_keptOthers, .int v_stands_kept])), (q_laid, .inr (0, [.ref q_laid_words, .ref q_laid_heard, .ref q_laid_canSay, .ref q_laid_instead, .ref q_laid_traders, .ref q_laid_takes, .ref q_laid_needs, .int v_laid_speaks, .int v_laid_alikeFrom])), (q_laid_words, .inl (ca 0, 16, .inl v_laid_words)), (q_laid_traders, .inl (ca 0, 2, .inl v_laid_traders)), (q_laid_needs, .inr (4, [.ref q_laid_needs_joinedMeaning, .ref q_laid_needs_joinedPair, .int v_laid_needs_joinedTold, .int v_laid_needs_needsTold, .int v_laid_needs_needed]))] sz) [(q_this, .inr (7, [.ref q_text, .ref q_item, .ref q_stands, .ref q_crowd, .ref q_measure, .ref q_laid, .ref q_tried])), (q_text, .inr (6, [.ref q_text_bytes, .int v_text_length])), (q_stands, .inr (5, [.ref q_stands_others, .ref q_stands_keptOthers, .int v_stands_kept])), (q_laid, .inr (0, [.ref q_laid_words, .ref q_laid_heard, .ref q_laid_canSay, .ref q_laid_instead, .ref q_laid_traders, .ref q_laid_takes, .ref q_laid_needs, .int v_laid_speaks, .int v_laid_alikeFrom])), (q_laid_words, .inl (ca 0, 16, .inl v_laid_words)), (q_laid_traders, .inl (ca 0, 2, .inl v_laid_traders)), (q_laid_needs, .inr (4, [.ref q_laid_needs_joinedMeaning, .ref q_laid_needs_joinedPair, .int v_laid_needs_joinedTold, .int v_laid_needs_needsTold, .int v_laid_needs_needed]))] r) 0 0 (va_A [(q_this, .inr (7, [.ref q_text, .ref q_item, .ref q_stands, .ref q_crowd, .ref q_measure, .ref q_laid, .ref q_tried])), (q_text, .inr (6, [.ref q_text_bytes, .int v_text_length])), (q_stands, .inr (5, [.ref q_stands_others, .ref q_stands_keptOthers, .int v_stands_kept])), (q_laid, .inr (0, [.ref q_laid_words, .ref q_laid_heard, .ref q_laid_canSay, .ref q_laid_instead, .ref q_laid_traders, .ref q_laid_takes, .ref q_laid_needs, .int v_laid_speaks, .int v_laid_alikeFrom])), (q_laid_words, .inl (ca 0, 16, .inl v_laid_words)), (q_laid_traders, .inl (ca 0, 2, .inl v_laid_traders)), (q_laid_needs, .inr (4, [.ref q_laid_needs_joinedMeaning, .ref q_laid_needs_joinedPair, .int v_laid_needs_joinedTold, .int v_laid_needs_needsTold, .int v_laid_needs_needed]))] sz) := by
  refine Met.ofW (cc := cX8_count) (maxL := 2) (ret := (some .int)) (by decide +kernel) rfl ?_
  intro p e s m args below meth c s₁ B hml hv
  obtain ⟨rfl, hsz, hP, hK, hD0⟩ := hv
  have hx := B.exec
  have hb := B.bytes
  have hr := B.returns
  have hts := atoms_spec (ws := wsX8_count) B.pre
  have hown : s.vm.findClass RX8 = some m.cls := findClass_of_methodNamed B.named
  have hlocks := B.notSynchronized
  clear B
  subst hsz
  have hD := hD0.self (sz := s.heap.size)
  generalize hAe : va_A [(q_this, .inr (7, [.ref q_text, .ref q_item, .ref q_stands, .ref q_crowd, .ref q_measure, .ref q_laid, .ref q_tried])), (q_text, .inr (6, [.ref q_text_bytes, .int v_text_length])), (q_stands, .inr (5, [.ref q_stands_others, .ref q_stands_keptOthers, .int v_stands_kept])), (q_laid, .inr (0, [.ref q_laid_words, .ref q_laid_heard, .ref q_laid_canSay, .ref q_laid_instead, .ref q_laid_traders, .ref q_laid_takes, .ref q_laid_needs, .int v_laid_speaks, .int v_laid_alikeFrom])), (q_laid_words, .inl (ca 0, 16, .inl v_laid_words)), (q_laid_traders, .inl (ca 0, 2, .inl v_laid_traders)), (q_laid_needs, .inr (4, [.ref q_laid_needs_joinedMeaning, .ref q_laid_needs_joinedPair, .int v_laid_needs_joinedTold, .int v_laid_needs_needsTold, .int v_laid_needs_needed]))] s.heap.size = A at hD ⊢
  have hA : ∀ q : Nat, s.heap.size ≤ q → A q := fun q h => by rw [← hAe]; exact Or.inr h
  have hS : va_S A s.heap s.heap [] := va_S.rf
  have hl := lv_entry ([.ref q_this, .int p1]) (n := 2) (Nat.le_of_ble_eq_true rfl)
  rw [lg_entry_eq]
  generalize (lg_sl ([.ref q_this, .int p1]) ++ List.replicate (2 - (lg_sl ([.ref q_this, .int p1])).length) Slot.unset).toArray = ls at hl ⊢
  have hl : lv_has ls 2 [(0, .ref q_this), (1, .int p1)] := hl
  generalize ([.ref q_this, .int p1] : List Value).toArray = args at hts ⊢
  generalize hQe : MQ below (kQi D ca (A) [(q_this, .inr (7, [.ref q_text, .ref q_item, .ref q_stands, .ref q_crowd, .ref q_measure, .ref q_laid, .ref q_tried])), (q_text, .inr (6, [.ref q_text_bytes, .int v_text_length])), (q_stands, .inr (5, [.ref q_stands_others, .ref q_stands_keptOthers, .int v_stands_kept])), (q_laid, .inr (0, [.ref q_laid_words, .ref q_laid_heard, .ref q_laid_canSay, .ref q_laid_instead, .ref q_laid_traders, .ref q_laid_takes, .ref q_laid_needs, .int v_laid_speaks, .int v_laid_alikeFrom])), (q_laid_words, .inl (ca 0, 16, .inl v_laid_words)), (q_laid_traders, .inl (ca 0, 2, .inl v_laid_traders)), (q_laid_needs, .inr (4, [.ref q_laid_needs_joinedMeaning, .ref q_laid_needs_joinedPair, .int v_laid_needs_joinedTold, .int v_laid_needs_needsTold, .int v_laid_needs_needed]))] r) args s 0 0 A = Q
  have i_X8 : ∀ w ∈ u_ws RX8 TX8 7, w ∈ wsX8_count := by decide +kernel
  have k_10 := hts (.fieldLink RX8 10 "TradeWords" "text" "LTradeWords$Text;") (by decide +kernel)
  have k_49 := hts (.fieldLink RX8 49 "TradeWords" "laid" "LTradeWords$Beach;") (by decide +kernel)
  have k_28 := hts (.fieldLink RX8 28 "TradeWords" "stands" "LTradeWords$Stands;") (by decide +kernel)
  rw [D_X8_count] at h
  refine lv_iload_n hx hb dX8_count_0 rfl (lv_at hl 1 rfl) ?_
  by_cases c_1 : p1 = (nI 0)
  · replace h := ifp_el c_1 h
    refine lv_tableIn (off := 43) (tgt := 44) hx hb dX8_count_1 (by rw [c_1]; decide) (by rw [c_1]; decide) (by rw [c_1]; decide) (by decide) ?_
    refine lv_aload_n hx hb dX8_count_44 rfl (lv_at hl 0 rfl) ?_
    obtain ⟨r_2, hg_3, h⟩ := bd1_el h
    refine kx_Vi (As := []) (rest := []) (wr := [(q_text, .inr (6, [.ref q_text_bytes, .int v_text_length])), (q_stands, .inr (5, [.ref q_stands_others, .ref q_stands_keptOthers, .int v_stands_kept])), (q_laid_traders, .inl (ca 0, 2, .inl v_laid_traders)), (q_laid_needs, .inr (4, [.ref q_laid_needs_joinedMeaning, .ref q_laid_needs_joinedPair, .int v_laid_needs_joinedTold, .int v_laid_needs_needsTold, .int v_laid_needs_needed]))]) (w1 := [(q_this, .inr (7, [.ref q_text, .ref q_item, .ref q_stands, .ref q_crowd, .ref q_measure, .ref q_laid, .ref q_tried])), (q_laid, .inr (0, [.ref q_laid_words, .ref q_laid_heard, .ref q_laid_canSay, .ref q_laid_instead, .ref q_laid_traders, .ref q_laid_takes, .ref q_laid_needs, .int v_laid_speaks, .int v_laid_alikeFrom])), (q_laid_words, .inl (ca 0, 16, .inl v_laid_words))]) (wn := [(q_this, .inr (7, [.ref q_text, .ref q_item, .ref q_stands, .ref q_crowd, .ref q_measure, .ref q_laid, .ref q_tried])), (q_text, .inr (6, [.ref q_text_bytes, .int v_text_length])), (q_stands, .inr (5, [.ref q_stands_others, .ref q_stands_keptOthers, .int v_stands_kept])), (q_laid, .inr (0, [.ref q_laid_words, .ref q_laid_heard, .ref q_laid_canSay, .ref q_laid_instead, .ref q_laid_traders, .ref q_laid_takes, .ref q_laid_needs, .int v_laid_speaks, .int v_laid_alikeFrom])), (q_laid_words, .inl (ca 0, 16, .inl v_laid_words)), (q_laid_traders, .inl (ca 0, 2, .inl v_laid_traders)), (q_laid_needs, .inr (4, [.ref q_laid_needs_joinedMeaning, .ref q_laid_needs_joinedPair, .int v_laid_needs_joinedTold, .int v_laid_needs_needsTold, .int v_laid_needs_needed]))]) ⟨hx, hb, hml, hown, hts⟩ (c_X8_toldMeanings l D ca F s.heap.size q_this q_text q_item q_stands q_crowd q_measure q_laid q_laid_words q_laid_heard q_laid_canSay q_laid_instead q_laid_traders q_laid_takes q_laid_needs q_tried v_laid_speaks v_laid_alikeFrom v_laid_words r_2 hg_3) (cwV 0 hts gX8_count_X8_toldMeanings rfl rfl rfl (by decide +kernel) ⟨(Nat.le_of_ble_eq_true rfl), (Nat.le_of_ble_eq_true rfl)⟩) hK hP hD hS hA (ci := 7) (q0 := 0) rfl rfl [0, 3, 4] [1, 2, 5, 6] [4, 0, 1, 5, 6, 2, 3] rfl rfl rfl rfl (by decide) rfl rfl rfl hl.1 rfl (Nat.le_of_ble_eq_true rfl) dX8_count_45 ⟨Nat.zero_le _, Nat.zero_le _⟩ (fun H locs hP hD hS => ?_)
    cases h
    rw [← hQe]
    exact W.iret hx hb hr (fun t ht hW => ⟨⟨_, (), rfl, rfl, by rw [ht]; exact hP, va_K.moved hW.alike hK, hD⟩, hS.F ht⟩) hS.2.2 dX8_count_48
  replace h := ifn_el c_1 h
  by_cases c_4 : p1 = (nI 1)
  · replace h := ifp_el c_4 h
    refine lv_tableIn (off := 48) (tgt := 49) hx hb dX8_count_1 (by rw [c_4]; decide) (by rw [c_4]; decide) (by rw [c_4]; decide) (by decide) ?_
    refine lv_aload_n hx hb dX8_count_49 rfl (lv_at hl 0 rfl) ?_
    refine va_get (D := D) (ci := 7) (v := .ref q_text) (C := RX8) (T := TX8) (N := 7) hx hb hts i_X8 hown hK hP 0 rfl rfl 0 (by decide) k_10 (fun _ h9 => h9) rfl dX8_count_50 ?_
    obtain ⟨r_5, hg_6, h⟩ := bd1_el h
    refine kx_Vi (As := []) (rest := []) (wr := [(q_this, .inr (7, [.ref q_text, .ref q_item, .ref q_stands, .ref q_crowd, .ref q_measure, .ref q_laid, .ref q_tried])), (q_stands, .inr (5, [.ref q_stands_others, .ref q_stands_keptOthers, .int v_stands_kept])), (q_laid, .inr (0, [.ref q_laid_words, .ref q_laid_heard, .ref q_laid_canSay, .ref q_laid_instead, .ref q_laid_traders, .ref q_laid_takes, .ref q_laid_needs, .int v_laid_speaks, .int v_laid_alikeFrom])), (q_laid_words, .inl (ca 0, 16, .inl v_laid_words)), (q_laid_traders, .inl (ca 0, 2, .inl v_laid_traders)), (q_laid_needs, .inr (4, [.ref q_laid_needs_joinedMeaning, .ref q_laid_needs_joinedPair, .int v_laid_needs_joinedTold, .int v_laid_needs_needsTold, .int v_laid_needs_needed]))]) (w1 := [(q_text, .inr (6, [.ref q_text_bytes, .int v_text_length]))]) (wn := [(q_this, .inr (7, [.ref q_text, .ref q_item, .ref q_stands, .ref q_crowd, .ref q_measure, .ref q_laid, .ref q_tried])), (q_text, .inr (6, [.ref q_text_bytes, .int v_text_length])), (q_stands, .inr (5, [.ref q_stands_others, .ref q_stands_keptOthers, .int v_stands_kept])), (q_laid, .inr (0, [.ref q_laid_words, .ref q_laid_heard, .ref q_laid_canSay, .ref q_laid_instead, .ref q_laid_traders, .ref q_laid_takes, .ref q_laid_needs, .int v_laid_speaks, .int v_laid_alikeFrom])), (q_laid_words, .inl (ca 0, 16, .inl v_laid_words)), (q_laid_traders, .inl (ca 0, 2, .inl v_laid_traders)), (q_laid_needs, .inr (4, [.ref q_laid_needs_joinedMeaning, .ref q_laid_needs_joinedPair, .int v_laid_needs_joinedTold, .int v_laid_needs_needsTold, .int v_laid_needs_needed]))]) ⟨hx, hb, hml, hown, hts⟩ (c_X6_length l D ca s.heap.size q_text q_text_bytes v_text_length r_5 hg_6) (cwV 0 hts gX8_count_X6_length rfl rfl rfl (by decide +kernel) ⟨(Nat.le_of_ble_eq_true rfl), (Nat.le_of_ble_eq_true rfl)⟩) hK hP hD hS hA (ci := 6) (q0 := 0) rfl rfl [1] [0, 2, 3, 4, 5, 6] [0, 6, 1, 2, 3, 4, 5] rfl rfl rfl rfl (by decide) rfl rfl rfl hl.1 rfl (Nat.le_of_ble_eq_true rfl) dX8_count_53 ⟨Nat.zero_le _, Nat.zero_le _⟩ (fun H locs hP hD hS => ?_)
    cases h
    rw [← hQe]
    exact W.iret hx hb hr (fun t ht hW => ⟨⟨_, (), rfl, rfl, by rw [ht]; exact hP, va_K.moved hW.alike hK, hD⟩, hS.F ht⟩) hS.2.2 dX8_count_56
  replace h := ifn_el c_4 h
  by_cases c_7 : p1 = (nI 2)
  · replace h := ifp_el c_7 h
    refine lv_tableIn (off := 56) (tgt := 57) hx hb dX8_count_1 (by rw [c_7]; decide) (by rw [c_7]; decide) (by rw [c_7]; decide) (by decide) ?_
    refine lv_aload_n hx hb dX8_count_57 rfl (lv_at hl 0 rfl) ?_
    refine va_get (D := D) (ci := 7) (v := .ref q_laid) (C := RX8) (T := TX8) (N := 7) hx hb hts i_X8 hown hK hP 0 rfl rfl 5 (by decide) k_49 (fun _ h9 => h9) rfl dX8_count_58 ?_
    obtain ⟨hg_8, h⟩ := bd0_el h
    refine kx_Vr (As := []) (rest := []) (wr := [(q_this, .inr (7, [.ref q_text, .ref q_item, .ref q_stands, .ref q_crowd, .ref q_measure, .ref q_laid, .ref q_tried])), (q_text, .inr (6, [.ref q_text_bytes, .int v_text_length])), (q_stands, .inr (5, [.ref q_stands_others, .ref q_stands_keptOthers, .int v_stands_kept])), (q_laid_words, .inl (ca 0, 16, .inl v_laid_words)), (q_laid_traders, .inl (ca 0, 2, .inl v_laid_traders)), (q_laid_needs, .inr (4, [.ref q_laid_needs_joinedMeaning, .ref q_laid_needs_joinedPair, .int v_laid_needs_joinedTold, .int v_laid_needs_needsTold, .int v_laid_needs_needed]))]) (w1 := [(q_laid, .inr (0, [.ref q_laid_words, .ref q_laid_heard, .ref q_laid_canSay, .ref q_laid_instead, .ref q_laid_traders, .ref q_laid_takes, .ref q_laid_needs, .int v_laid_speaks, .int v_laid_alikeFrom]))]) (wn := [(q_this, .inr (7, [.ref q_text, .ref q_item, .ref q_stands, .ref q_crowd, .ref q_measure, .ref q_laid, .ref q_tried])), (q_text, .inr (6, [.ref q_text_bytes, .int v_text_length])), (q_stands, .inr (5, [.ref q_stands_others, .ref q_stands_keptOthers, .int v_stands_kept])), (q_laid, .inr (0, [.ref q_laid_words, .ref q_laid_heard, .ref q_laid_canSay, .ref q_laid_instead, .ref q_laid_traders, .ref q_laid_takes, .ref q_laid_needs, .int v_laid_speaks, .int v_laid_alikeFrom])), (q_laid_words, .inl (ca 0, 16, .inl v_laid_words)), (q_laid_traders, .inl (ca 0, 2, .inl v_laid_traders)), (q_laid_needs, .inr (4, [.ref q_laid_needs_joinedMeaning, .ref q_laid_needs_joinedPair, .int v_laid_needs_joinedTold, .int v_laid_needs_needsTold, .int v_laid_needs_needed]))]) ⟨hx, hb, hml, hown, hts⟩ (c_X0_needs l D ca s.heap.size q_laid q_laid_words q_laid_heard q_laid_canSay q_laid_instead q_laid_traders q_laid_takes q_laid_needs v_laid_speaks v_laid_alikeFrom hg_8) (cwV 0 hts gX8_count_X0_needs rfl rfl rfl (by decide +kernel) ⟨(Nat.le_of_ble_eq_true rfl), (Nat.le_of_ble_eq_true rfl)⟩) hK hP hD hS hA (ci := 0) (q0 := 0) rfl rfl [3] [0, 1, 2, 4, 5, 6] [0, 1, 2, 6, 3, 4, 5] rfl rfl rfl rfl (by decide) rfl rfl rfl hl.1 rfl (Nat.le_of_ble_eq_true rfl) dX8_count_61 ⟨Nat.zero_le _, Nat.zero_le _⟩ (fun H locs hP hD hS => ?_)
    obtain ⟨r_9, hg_10, h⟩ := bd1_el h
    refine kx_Vi (As := []) (rest := []) (wr := [(q_this, .inr (7, [.ref q_text, .ref q_item, .ref q_stands, .ref q_crowd, .ref q_measure, .ref q_laid, .ref q_tried])), (q_text, .inr (6, [.ref q_text_bytes, .int v_text_length])), (q_stands, .inr (5, [.ref q_stands_others, .ref q_stands_keptOthers, .int v_stands_kept])), (q_laid, .inr (0, [.ref q_laid_words, .ref q_laid_heard, .ref q_laid_canSay, .ref q_laid_instead, .ref q_laid_traders, .ref q_laid_takes, .ref q_laid_needs, .int v_laid_speaks, .int v_laid_alikeFrom])), (q_laid_words, .inl (ca 0, 16, .inl v_laid_words)), (q_laid_traders, .inl (ca 0, 2, .inl v_laid_traders))]) (w1 := [(q_laid_needs, .inr (4, [.ref q_laid_needs_joinedMeaning, .ref q_laid_needs_joinedPair, .int v_laid_needs_joinedTold, .int v_laid_needs_needsTold, .int v_laid_needs_needed]))]) (wn := [(q_this, .inr (7, [.ref q_text, .ref q_item, .ref q_stands, .ref q_crowd, .ref q_measure, .ref q_laid, .ref q_tried])), (q_text, .inr (6, [.ref q_text_bytes, .int v_text_length])), (q_stands, .inr (5, [.ref q_stands_others, .ref q_stands_keptOthers, .int v_stands_kept])), (q_laid, .inr (0, [.ref q_laid_words, .ref q_laid_heard, .ref q_laid_canSay, .ref q_laid_instead, .ref q_laid_traders, .ref q_laid_takes, .ref q_laid_needs, .int v_laid_speaks, .int v_laid_alikeFrom])), (q_laid_words, .inl (ca 0, 16, .inl v_laid_words)), (q_laid_traders, .inl (ca 0, 2, .inl v_laid_traders)), (q_laid_needs, .inr (4, [.ref q_laid_needs_joinedMeaning, .ref q_laid_needs_joinedPair, .int v_laid_needs_joinedTold, .int v_laid_needs_needsTold, .int v_laid_needs_needed]))]) ⟨hx, hb, hml, hown, hts⟩ (c_X4_needsTold l D ca H.size q_laid_needs q_laid_needs_joinedMeaning q_laid_needs_joinedPair v_laid_needs_joinedTold v_laid_needs_needsTold v_laid_needs_needed r_9 hg_10) (cwV 0 hts gX8_count_X4_needsTold rfl rfl rfl (by decide +kernel) ⟨(Nat.le_of_ble_eq_true rfl), (Nat.le_of_ble_eq_true rfl)⟩) hK hP hD hS hA (ci := 4) (q0 := 0) rfl rfl [6] [0, 1, 2, 3, 4, 5] [0, 1, 2, 3, 4, 5, 6] rfl rfl rfl rfl (by decide) rfl rfl rfl hl.1 rfl (Nat.le_of_ble_eq_true rfl) dX8_count_64 ⟨Nat.zero_le _, Nat.zero_le _⟩ (fun H locs hP hD hS => ?_)
    cases h
    rw [← hQe]
    exact W.iret hx hb hr (fun t ht hW => ⟨⟨_, (), rfl, rfl, by rw [ht]; exact hP, va_K.moved hW.alike hK, hD⟩, hS.F ht⟩) hS.2.2 dX8_count_67
  replace h := ifn_el c_7 h
  by_cases c_11 : p1 = (nI 3)
  · replace h := ifp_el c_11 h
    refine lv_tableIn (off := 67) (tgt := 68) hx hb dX8_count_1 (by rw [c_11]; decide) (by rw [c_11]; decide) (by rw [c_11]; decide) (by decide) ?_
    refine lv_aload_n hx hb dX8_count_68 rfl (lv_at hl 0 rfl) ?_
    refine va_get (D := D) (ci := 7) (v := .ref q_laid) (C := RX8) (T := TX8) (N := 7) hx hb hts i_X8 hown hK hP 0 rfl rfl 5 (by decide) k_49 (fun _ h9 => h9) rfl dX8_count_69 ?_
    obtain ⟨hg_12, h⟩ := bd0_el h
    refine kx_Vr (As := []) (rest := []) (wr := [(q_this, .inr (7, [.ref q_text, .ref q_item, .ref q_stands, .ref q_crowd, .ref q_measure, .ref q_laid, .ref q_tried])), (q_text, .inr (6, [.ref q_text_bytes, .int v_text_length])), (q_stands, .inr (5, [.ref q_stands_others, .ref q_stands_keptOthers, .int v_stands_kept])), (q_laid_words, .inl (ca 0, 16, .inl v_laid_words)), (q_laid_traders, .inl (ca 0, 2, .inl v_laid_traders)), (q_laid_needs, .inr (4, [.ref q_laid_needs_joinedMeaning, .ref q_laid_needs_joinedPair, .int v_laid_needs_joinedTold, .int v_laid_needs_needsTold, .int v_laid_needs_needed]))]) (w1 := [(q_laid, .inr (0, [.ref q_laid_words, .ref q_laid_heard, .ref q_laid_canSay, .ref q_laid_instead, .ref q_laid_traders, .ref q_laid_takes, .ref q_laid_needs, .int v_laid_speaks, .int v_laid_alikeFrom]))]) (wn := [(q_this, .inr (7, [.ref q_text, .ref q_item, .ref q_stands, .ref q_crowd, .ref q_measure, .ref q_laid, .ref q_tried])), (q_text, .inr (6, [.ref q_text_bytes, .int v_text_length])), (q_stands, .inr (5, [.ref q_stands_others, .ref q_stands_keptOthers, .int v_stands_kept])), (q_laid, .inr (0, [.ref q_laid_words, .ref q_laid_heard, .ref q_laid_canSay, .ref q_laid_instead, .ref q_laid_traders, .ref q_laid_takes, .ref q_laid_needs, .int v_laid_speaks, .int v_laid_alikeFrom])), (q_laid_words, .inl (ca 0, 16, .inl v_laid_words)), (q_laid_traders, .inl (ca 0, 2, .inl v_laid_traders)), (q_laid_needs, .inr (4, [.ref q_laid_needs_joinedMeaning, .ref q_laid_needs_joinedPair, .int v_laid_needs_joinedTold, .int v_laid_needs_needsTold, .int v_laid_needs_needed]))]) ⟨hx, hb, hml, hown, hts⟩ (c_X0_needs l D ca s.heap.size q_laid q_laid_words q_laid_heard q_laid_canSay q_laid_instead q_laid_traders q_laid_takes q_laid_needs v_laid_speaks v_laid_alikeFrom hg_12) (cwV 0 hts gX8_count_X0_needs rfl rfl rfl (by decide +kernel) ⟨(Nat.le_of_ble_eq_true rfl), (Nat.le_of_ble_eq_true rfl)⟩) hK hP hD hS hA (ci := 0) (q0 := 0) rfl rfl [3] [0, 1, 2, 4, 5, 6] [0, 1, 2, 6, 3, 4, 5] rfl rfl rfl rfl (by decide) rfl rfl rfl hl.1 rfl (Nat.le_of_ble_eq_true rfl) dX8_count_72 ⟨Nat.zero_le _, Nat.zero_le _⟩ (fun H locs hP hD hS => ?_)
    obtain ⟨r_13, hg_14, h⟩ := bd1_el h
    refine kx_Vi (As := []) (rest := []) (wr := [(q_this, .inr (7, [.ref q_text, .ref q_item, .ref q_stands, .ref q_crowd, .ref q_measure, .ref q_laid, .ref q_tried])), (q_text, .inr (6, [.ref q_text_bytes, .int v_text_length])), (q_stands, .inr (5, [.ref q_stands_others, .ref q_stands_keptOthers, .int v_stands_kept])), (q_laid, .inr (0, [.ref q_laid_words, .ref q_laid_heard, .ref q_laid_canSay, .ref q_laid_instead, .ref q_laid_traders, .ref q_laid_takes, .ref q_laid_needs, .int v_laid_speaks, .int v_laid_alikeFrom])), (q_laid_words, .inl (ca 0, 16, .inl v_laid_words)), (q_laid_traders, .inl (ca 0, 2, .inl v_laid_traders))]) (w1 := [(q_laid_needs, .inr (4, [.ref q_laid_needs_joinedMeaning, .ref q_laid_needs_joinedPair, .int v_laid_needs_joinedTold, .int v_laid_needs_needsTold, .int v_laid_needs_needed]))]) (wn := [(q_this, .inr (7, [.ref q_text, .ref q_item, .ref q_stands, .ref q_crowd, .ref q_measure, .ref q_laid, .ref q_tried])), (q_text, .inr (6, [.ref q_text_bytes, .int v_text_length])), (q_stands, .inr (5, [.ref q_stands_others, .ref q_stands_keptOthers, .int v_stands_kept])), (q_laid, .inr (0, [.ref q_laid_words, .ref q_laid_heard, .ref q_laid_canSay, .ref q_laid_instead, .ref q_laid_traders, .ref q_laid_takes, .ref q_laid_needs, .int v_laid_speaks, .int v_laid_alikeFrom])), (q_laid_words, .inl (ca 0, 16, .inl v_laid_words)), (q_laid_traders, .inl (ca 0, 2, .inl v_laid_traders)), (q_laid_needs, .inr (4, [.ref q_laid_needs_joinedMeaning, .ref q_laid_needs_joinedPair, .int v_laid_needs_joinedTold, .int v_laid_needs_needsTold, .int v_laid_needs_needed]))]) ⟨hx, hb, hml, hown, hts⟩ (c_X4_joinedTold l D ca H.size q_laid_needs q_laid_needs_joinedMeaning q_laid_needs_joinedPair v_laid_needs_joinedTold v_laid_needs_needsTold v_laid_needs_needed r_13 hg_14) (cwV 0 hts gX8_count_X4_joinedTold rfl rfl rfl (by decide +kernel) ⟨(Nat.le_of_ble_eq_true rfl), (Nat.le_of_ble_eq_true rfl)⟩) hK hP hD hS hA (ci := 4) (q0 := 0) rfl rfl [6] [0, 1, 2, 3, 4, 5] [0, 1, 2, 3, 4, 5, 6] rfl rfl rfl rfl (by decide) rfl rfl rfl hl.1 rfl (Nat.le_of_ble_eq_true rfl) dX8_count_75 ⟨Nat.zero_le _, Nat.zero_le _⟩ (fun H locs hP hD hS => ?_)
    cases h
    rw [← hQe]
    exact W.iret hx hb hr (fun t ht hW => ⟨⟨_, (), rfl, rfl, by rw [ht]; exact hP, va_K.moved hW.alike hK, hD⟩, hS.F ht⟩) hS.2.2 dX8_count_78
  replace h := ifn_el c_11 h
  by_cases c_15 : p1 = (nI 4)
  · replace h := ifp_el c_15 h
    refine lv_tableIn (off := 78) (tgt := 79) hx hb dX8_count_1 (by rw [c_15]; decide) (by rw [c_15]; decide) (by rw [c_15]; decide) (by decide) ?_
    refine lv_aload_n hx hb dX8_count_79 rfl (lv_at hl 0 rfl) ?_
    refine va_get (D := D) (ci := 7) (v := .ref q_stands) (C := RX8) (T := TX8) (N := 7) hx hb hts i_X8 hown hK hP 0 rfl rfl 2 (by decide) k_28 (fun _ h9 => h9) rfl dX8_count_80 ?_
    obtain ⟨r_16, hg_17, h⟩ := bd1_el h
    refine kx_Vi (As := []) (rest := []) (wr := [(q_this, .inr (7, [.ref q_text, .ref q_item, .ref q_stands, .ref q_crowd, .ref q_measure, .ref q_laid, .ref q_tried])), (q_text, .inr (6, [.ref q_text_bytes, .int v_text_length])), (q_laid, .inr (0, [.ref q_laid_words, .ref q_laid_heard, .ref q_laid_canSay, .ref q_laid_instead, .ref q_laid_traders, .ref q_laid_takes, .ref q_laid_needs, .int v_laid_speaks, .int v_laid_alikeFrom])), (q_laid_words, .inl (ca 0, 16, .inl v_laid_words)), (q_laid_traders, .inl (ca 0, 2, .inl v_laid_traders)), (q_laid_needs, .inr (4, [.ref q_laid_needs_joinedMeaning, .ref q_laid_needs_joinedPair, .int v_laid_needs_joinedTold, .int v_laid_needs_needsTold, .int v_laid_needs_needed]))]) (w1 := [(q_stands, .inr (5, [.ref q_stands_others, .ref q_stands_keptOthers, .int v_stands_kept]))]) (wn := [(q_this, .inr (7, [.ref q_text, .ref q_item, .ref q_stands, .ref q_crowd, .ref q_measure, .ref q_laid, .ref q_tried])), (q_text, .inr (6, [.ref q_text_bytes, .int v_text_length])), (q_stands, .inr (5, [.ref q_stands_others, .ref q_stands_keptOthers, .int v_stands_kept])), (q_laid, .inr (0, [.ref q_laid_words, .ref q_laid_heard, .ref q_laid_canSay, .ref q_laid_instead, .ref q_laid_traders, .ref q_laid_takes, .ref q_laid_needs, .int v_laid_speaks, .int v_laid_alikeFrom])), (q_laid_words, .inl (ca 0, 16, .inl v_laid_words)), (q_laid_traders, .inl (ca 0, 2, .inl v_laid_traders)), (q_laid_needs, .inr (4, [.ref q_laid_needs_joinedMeaning, .ref q_laid_needs_joinedPair, .int v_laid_needs_joinedTold, .int v_laid_needs_needsTold, .int v_laid_needs_needed]))]) ⟨hx, hb, hml, hown, hts⟩ (c_X5_kept l D ca s.heap.size q_stands q_stands_others q_stands_keptOthers v_stands_kept r_16 hg_17) (cwV 0 hts gX8_count_X5_kept rfl rfl rfl (by decide +kernel) ⟨(Nat.le_of_ble_eq_true rfl), (Nat.le_of_ble_eq_true rfl)⟩) hK hP hD hS hA (ci := 5) (q0 := 0) rfl rfl [2] [0, 1, 3, 4, 5, 6] [0, 1, 6, 2, 3, 4, 5] rfl rfl rfl rfl (by decide) rfl rfl rfl hl.1 rfl (Nat.le_of_ble_eq_true rfl) dX8_count_83 ⟨Nat.zero_le _, Nat.zero_le _⟩ (fun H locs hP hD hS => ?_)
    cases h
    rw [← hQe]
    exact W.iret hx hb hr (fun t ht hW => ⟨⟨_, (), rfl, rfl, by rw [ht]; exact hP, va_K.moved hW.alike hK, hD⟩, hS.F ht⟩) hS.2.2 dX8_count_86
  replace h := ifn_el c_15 h
  by_cases c_18 : p1 = (nI 5)
  · replace h := ifp_el c_18 h
    refine lv_tableIn (off := 86) (tgt := 87) hx hb dX8_count_1 (by rw [c_18]; decide) (by rw [c_18]; decide) (by rw [c_18]; decide) (by decide) ?_
    refine lv_aload_n hx hb dX8_count_87 rfl (lv_at hl 0 rfl) ?_
    refine va_get (D := D) (ci := 7) (v := .ref q_laid) (C := RX8) (T := TX8) (N := 7) hx hb hts i_X8 hown hK hP 0 rfl rfl 5 (by decide) k_49 (fun _ h9 => h9) rfl dX8_count_88 ?_
    refine lv_iconst (v := (nI 0)) hx hb dX8_count_91 (by decide) ?_
    obtain ⟨r_19, hg_20, h⟩ := bd1_el h
    refine kx_Vi (As := [.int (nI 0)]) (rest := []) (wr := [(q_this, .inr (7, [.ref q_text, .ref q_item, .ref q_stands, .ref q_crowd, .ref q_measure, .ref q_laid, .ref q_tried])), (q_text, .inr (6, [.ref q_text_bytes, .int v_text_length])), (q_stands, .inr (5, [.ref q_stands_others, .ref q_stands_keptOthers, .int v_stands_kept])), (q_laid_words, .inl (ca 0, 16, .inl v_laid_words)), (q_laid_needs, .inr (4, [.ref q_laid_needs_joinedMeaning, .ref q_laid_needs_joinedPair, .int v_laid_needs_joinedTold, .int v_laid_needs_needsTold, .int v_laid_needs_needed]))]) (w1 := [(q_laid, .inr (0, [.ref q_laid_words, .ref q_laid_heard, .ref q_laid_canSay, .ref q_laid_instead, .ref q_laid_traders, .ref q_laid_takes, .ref q_laid_needs, .int v_laid_speaks, .int v_laid_alikeFrom])), (q_laid_traders, .inl (ca 0, 2, .inl v_laid_traders))]) (wn := [(q_this, .inr (7, [.ref q_text, .ref q_item, .ref q_stands, .ref q_crowd, .ref q_measure, .ref q_laid, .ref q_tried])), (q_text, .inr (6, [.ref q_text_bytes, .int v_text_length])), (q_stands, .inr (5, [.ref q_stands_others, .ref q_stands_keptOthers, .int v_stands_kept])), (q_laid, .inr (0, [.ref q_laid_words, .ref q_laid_heard, .ref q_laid_canSay, .ref q_laid_instead, .ref q_laid_traders, .ref q_laid_takes, .ref q_laid_needs, .int v_laid_speaks, .int v_laid_alikeFrom])), (q_laid_words, .inl (ca 0, 16, .inl v_laid_words)), (q_laid_traders, .inl (ca 0, 2, .inl v_laid_traders)), (q_laid_needs, .inr (4, [.ref q_laid_needs_joinedMeaning, .ref q_laid_needs_joinedPair, .int v_laid_needs_joinedTold, .int v_laid_needs_needsTold, .int v_laid_needs_needed]))]) ⟨hx, hb, hml, hown, hts⟩ (c_X0_tradersOf l D ca s.heap.size q_laid q_laid_words q_laid_heard q_laid_canSay q_laid_instead q_laid_traders q_laid_takes q_laid_needs (nI 0) v_laid_speaks v_laid_alikeFrom v_laid_traders r_19 hg_20) (cwV 1 hts gX8_count_X0_tradersOf rfl rfl rfl (by decide +kernel) ⟨(Nat.le_of_ble_eq_true rfl), (Nat.le_of_ble_eq_true rfl)⟩) hK hP hD hS hA (ci := 0) (q0 := 0) rfl rfl [3, 5] [0, 1, 2, 4, 6] [0, 1, 2, 5, 3, 6, 4] rfl rfl rfl rfl (by decide) rfl rfl rfl hl.1 rfl (Nat.le_of_ble_eq_true rfl) dX8_count_92 ⟨Nat.zero_le _, Nat.zero_le _⟩ (fun H locs hP hD hS => ?_)
    cases h
    rw [← hQe]
    exact W.iret hx hb hr (fun t ht hW => ⟨⟨_, (), rfl, rfl, by rw [ht]; exact hP, va_K.moved hW.alike hK, hD⟩, hS.F ht⟩) hS.2.2 dX8_count_95
  replace h := ifn_el c_18 h
  by_cases c_21 : p1 = (nI 6)
  · replace h := ifp_el c_21 h
    refine lv_tableIn (off := 95) (tgt := 96) hx hb dX8_count_1 (by rw [c_21]; decide) (by rw [c_21]; decide) (by rw [c_21]; decide) (by decide) ?_
    refine lv_aload_n hx hb dX8_count_96 rfl (lv_at hl 0 rfl) ?_
    refine va_get (D := D) (ci := 7) (v := .ref q_laid) (C := RX8) (T := TX8) (N := 7) hx hb hts i_X8 hown hK hP 0 rfl rfl 5 (by decide) k_49 (fun _ h9 => h9) rfl dX8_count_97 ?_
    refine lv_iconst (v := (nI 1)) hx hb dX8_count_100 (by decide) ?_
    obtain ⟨r_22, hg_23, h⟩ := bd1_el h
    refine kx_Vi (As := [.int (nI 1)]) (rest := []) (wr := [(q_this, .inr (7, [.ref q_text, .ref q_item, .ref q_stands, .ref q_crowd, .ref q_measure, .ref q_laid, .ref q_tried])), (q_text, .inr (6, [.ref q_text_bytes, .int v_text_length])), (q_stands, .inr (5, [.ref q_stands_others, .ref q_stands_keptOthers, .int v_stands_kept])), (q_laid_words, .inl (ca 0, 16, .inl v_laid_words)), (q_laid_needs, .inr (4, [.ref q_laid_needs_joinedMeaning, .ref q_laid_needs_joinedPair, .int v_laid_needs_joinedTold, .int v_laid_needs_needsTold, .int v_laid_needs_needed]))]) (w1 := [(q_laid, .inr (0, [.ref q_laid_words, .ref q_laid_heard, .ref q_laid_canSay, .ref q_laid_instead, .ref q_laid_traders, .ref q_laid_takes, .ref q_laid_needs, .int v_laid_speaks, .int v_laid_alikeFrom])), (q_laid_traders, .inl (ca 0, 2, .inl v_laid_traders))]) (wn := [(q_this, .inr (7, [.ref q_text, .ref q_item, .ref q_stands, .ref q_crowd, .ref q_measure, .ref q_laid, .ref q_tried])), (q_text, .inr (6, [.ref q_text_bytes, .int v_text_length])), (q_stands, .inr (5, [.ref q_stands_others, .ref q_stands_keptOthers, .int v_stands_kept])), (q_laid, .inr (0, [.ref q_laid_words, .ref q_laid_heard, .ref q_laid_canSay, .ref q_laid_instead, .ref q_laid_traders, .ref q_laid_takes, .ref q_laid_needs, .int v_laid_speaks, .int v_laid_alikeFrom])), (q_laid_words, .inl (ca 0, 16, .inl v_laid_words)), (q_laid_traders, .inl (ca 0, 2, .inl v_laid_traders)), (q_laid_needs, .inr (4, [.ref q_laid_needs_joinedMeaning, .ref q_laid_needs_joinedPair, .int v_laid_needs_joinedTold, .int v_laid_needs_needsTold, .int v_laid_needs_needed]))]) ⟨hx, hb, hml, hown, hts⟩ (c_X0_tradersOf l D ca s.heap.size q_laid q_laid_words q_laid_heard q_laid_canSay q_laid_instead q_laid_traders q_laid_takes q_laid_needs (nI 1) v_laid_speaks v_laid_alikeFrom v_laid_traders r_22 hg_23) (cwV 1 hts gX8_count_X0_tradersOf rfl rfl rfl (by decide +kernel) ⟨(Nat.le_of_ble_eq_true rfl), (Nat.le_of_ble_eq_true rfl)⟩) hK hP hD hS hA (ci := 0) (q0 := 0) rfl rfl [3, 5] [0, 1, 2, 4, 6] [0, 1, 2, 5, 3, 6, 4] rfl rfl rfl rfl (by decide) rfl rfl rfl hl.1 rfl (Nat.le_of_ble_eq_true rfl) dX8_count_101 ⟨Nat.zero_le _, Nat.zero_le _⟩ (fun H locs hP hD hS => ?_)
    cases h
    rw [← hQe]
    exact W.iret hx hb hr (fun t ht hW => ⟨⟨_, (), rfl, rfl, by rw [ht]; exact hP, va_K.moved hW.alike hK, hD⟩, hS.F ht⟩) hS.2.2 dX8_count_104
  replace h := ifn_el c_21 h
  have hdf : W p l e (headSpec wsX8_count rm_X8_count).room s m args below meth c s.heap [] 0 0 Q (F0 m 105 ls []) := by
    refine lv_iconst (v := (-1 : Int32)) hx hb dX8_count_105 (by decide) ?_
    cases h
    rw [← hQe]
    exact W.iret hx hb hr (fun t ht hW => ⟨⟨_, (), rfl, rfl, by rw [ht]; exact hP, va_K.moved hW.alike hK, hD⟩, hS.F ht⟩) hS.2.2 dX8_count_106
  by_cases c_24 : (p1).toInt < 0 ∨ 6 < (p1).toInt
  · exact lv_tableOut hx hb dX8_count_1 c_24 (by decide) hdf
  have n_c_1 := lv_neT (a := 0) c_1 (by decide)
  have n_c_4 := lv_neT (a := 1) c_4 (by decide)
  have n_c_7 := lv_neT (a := 2) c_7 (by decide)
  have n_c_11 := lv_neT (a := 3) c_11 (by decide)
  have n_c_15 := lv_neT (a := 4) c_15 (by decide)
  have n_c_18 := lv_neT (a := 5) c_18 (by decide)
  have n_c_21 := lv_neT (a := 6) c_21 (by decide)
  omega
def D_X9_in (p1 : Int64) (p2 : Int64) (p3 : Int64) : Option (Int32) := (if (lg_cmp p1 p2) < 0 then some ((nI 0)) else (if 0 < (lg_cmp p1 p3) then some ((nI 0)) else some ((nI 1))))
abbrev rm_X9_in : Room := { frames := 0, cells := 0, slots := 0, locals := 0 }
set_option maxHeartbeats 4000000 in
set_option maxRecDepth 100000 in
theorem c_X9_in (l : Launch) (D : va_G) (ca : Nat → ClassId) (sz : Nat) (p1 : Int64) (p2 : Int64) (p3 : Int64) (r : Int32) (h : D_X9_in p1 p2 p3 = some (r)) : Met l yX9_in wsX9_in rm_X9_in (va_Pc [.long p1, .long p2, .long p3] (kPre D ca [] sz)) (kQi D ca (va_A [] sz) [] r) 0 0 (va_A [] sz) := by
  refine Met.ofW (cc := cX9_in) (maxL := 6) (ret := (some .boolean)) (by decide +kernel) rfl ?_
  intro p e s m args below meth c s₁ B hml hv
  obtain ⟨rfl, hsz, hP, hK, hD0⟩ := hv
  have hx := B.exec
  have hb := B.bytes
  have hr := B.returns
  have hts := atoms_spec (ws := wsX9_in) B.pre
  have hown : s.vm.findClass RX9 = some m.cls := findClass_of_methodNamed B.named
  have hlocks := B.notSynchronized
  clear B
  subst hsz
  have hD := hD0.self (sz := s.heap.size)
  generalize hAe : va_A [] s.heap.size = A at hD ⊢
  have hA : ∀ q : Nat, s.heap.size ≤ q → A q := fun q h => by rw [← hAe]; exact Or.inr h
  have hS : va_S A s.heap s.heap [] := va_S.rf
  have hl := lv_entry ([.long p1, .long p2, .long p3]) (n := 6) (Nat.le_of_ble_eq_true rfl)
  rw [lg_entry_eq]
  generalize (lg_sl ([.long p1, .long p2, .long p3]) ++ List.replicate (6 - (lg_sl ([.long p1, .long p2, .long p3])).length) Slot.unset).toArray = ls at hl ⊢
  have hl : lv_has ls 6 [(0, .long p1), (2, .long p2), (4, .long p3)] := hl
  generalize ([.long p1, .long p2, .long p3] : List Value).toArray = args at hts ⊢
  generalize hQe : MQ below (kQi D ca (A) [] r) args s 0 0 A = Q
  rw [D_X9_in] at h
  refine lv_lload_n hx hb dX9_in_0 rfl (lv_at hl 0 rfl) ?_
  refine lv_lload_n hx hb dX9_in_1 rfl (lv_at hl 1 rfl) ?_
  refine W.lcmp hx hb dX9_in_2 ?_
  refine lv_if_lt (tgt := 17) hx hb dX9_in_3 (by decide) (fun c_1 => ?_) (fun c_1 => ?_)
  · replace h := ifp_el c_1 h
    refine lv_iconst (v := (nI 0)) hx hb dX9_in_17 (by decide) ?_
    cases h
    rw [← hQe]
    exact W.zret hx hb hr rfl (fun t ht hW => ⟨⟨_, (), rfl, rfl, by rw [ht]; exact hP, va_K.moved hW.alike hK, hD⟩, hS.F ht⟩) hS.2.2 dX9_in_18
  · replace h := ifn_el c_1 h
    refine lv_lload_n hx hb dX9_in_6 rfl (lv_at hl 0 rfl) ?_
    refine lv_lload hx hb dX9_in_7 (lv_at hl 2 rfl) ?_
    refine W.lcmp hx hb dX9_in_9 ?_
    refine lv_if_gt (tgt := 17) hx hb dX9_in_10 (by decide) (fun c_2 => ?_) (fun c_2 => ?_)
    · replace h := ifp_el c_2 h
      refine lv_iconst (v := (nI 0)) hx hb dX9_in_17 (by decide) ?_
      cases h
      rw [← hQe]
      exact W.zret hx hb hr rfl (fun t ht hW => ⟨⟨_, (), rfl, rfl, by rw [ht]; exact hP, va_K.moved hW.alike hK, hD⟩, hS.F ht⟩) hS.2.2 dX9_in_18
    · replace h := ifn_el c_2 h
      refine lv_iconst (v := (nI 1)) hx hb dX9_in_13 (by decide) ?_
      refine lv_goto (tgt := 18) hx hb dX9_in_14 (by decide) ?_
      cases h
      rw [← hQe]
      exact W.zret hx hb hr rfl (fun t ht hW => ⟨⟨_, (), rfl, rfl, by rw [ht]; exact hP, va_K.moved hW.alike hK, hD⟩, hS.F ht⟩) hS.2.2 dX9_in_18
def D_X9_has (p1 : Int32) (p2 : Int32) : Option (Int32) := (if ((p1 >>> (p2 &&& 31)) &&& (nI 1)) = (nI 1) then some ((nI 1)) else some ((nI 0)))
abbrev rm_X9_has : Room := { frames := 0, cells := 0, slots := 0, locals := 0 }
set_option maxHeartbeats 4000000 in
set_option maxRecDepth 100000 in
theorem c_X9_has (l : Launch) (D : va_G) (ca : Nat → ClassId) (sz : Nat) (p1 : Int32) (p2 : Int32) (r : Int32) (h : D_X9_has p1 p2 = some (r)) : Met l yX9_has wsX9_has rm_X9_has (va_Pc [.int p1, .int p2] (kPre D ca [] sz)) (kQi D ca (va_A [] sz) [] r) 0 0 (va_A [] sz) := by
  refine Met.ofW (cc := cX9_has) (maxL := 2) (ret := (some .boolean)) (by decide +kernel) rfl ?_
  intro p e s m args below meth c s₁ B hml hv
  obtain ⟨rfl, hsz, hP, hK, hD0⟩ := hv
  have hx := B.exec
  have hb := B.bytes
  have hr := B.returns
  have hts := atoms_spec (ws := wsX9_has) B.pre
  have hown : s.vm.findClass RX9 = some m.cls := findClass_of_methodNamed B.named
  have hlocks := B.notSynchronized
  clear B
  subst hsz
  have hD := hD0.self (sz := s.heap.size)
  generalize hAe : va_A [] s.heap.size = A at hD ⊢
  have hA : ∀ q : Nat, s.heap.size ≤ q → A q := fun q h => by rw [← hAe]; exact Or.inr h
  have hS : va_S A s.heap s.heap [] := va_S.rf
  have hl := lv_entry ([.int p1, .int p2]) (n := 2) (Nat.le_of_ble_eq_true rfl)
  rw [lg_entry_eq]
  generalize (lg_sl ([.int p1, .int p2]) ++ List.replicate (2 - (lg_sl ([.int p1, .int p2])).length) Slot.unset).toArray = ls at hl ⊢
  have hl : lv_has ls 2 [(0, .int p1), (1, .int p2)] := hl
  generalize ([.int p1, .int p2] : List Value).toArray = args at hts ⊢
  generalize hQe : MQ below (kQi D ca (A) [] r) args s 0 0 A = Q
  rw [D_X9_has] at h
  refine lv_iload_n hx hb dX9_has_0 rfl (lv_at hl 0 rfl) ?_
  refine lv_iload_n hx hb dX9_has_1 rfl (lv_at hl 1 rfl) ?_
  refine lv_ishr hx hb dX9_has_2 ?_
  refine lv_iconst (v := (nI 1)) hx hb dX9_has_3 (by decide) ?_
  refine lv_iand hx hb dX9_has_4 ?_
  refine lv_iconst (v := (nI 1)) hx hb dX9_has_5 (by decide) ?_
  refine lv_icmp_ne (tgt := 13) hx hb dX9_has_6 (by decide) (fun c_1 => ?_) (fun c_1 => ?_)
  · replace h := ifn_el c_1 h
    refine lv_iconst (v := (nI 0)) hx hb dX9_has_13 (by decide) ?_
    cases h
    rw [← hQe]
    exact W.zret hx hb hr rfl (fun t ht hW => ⟨⟨_, (), rfl, rfl, by rw [ht]; exact hP, va_K.moved hW.alike hK, hD⟩, hS.F ht⟩) hS.2.2 dX9_has_14
  · replace h := ifp_el c_1 h
    refine lv_iconst (v := (nI 1)) hx hb dX9_has_9 (by decide) ?_
    refine lv_goto (tgt := 14) hx hb dX9_has_10 (by decide) ?_
    cases h
    rw [← hQe]
    exact W.zret hx hb hr rfl (fun t ht hW => ⟨⟨_, (), rfl, rfl, by rw [ht]; exact hP, va_K.moved hW.alike hK, hD⟩, hS.F ht⟩) hS.2.2 dX9_has_14
def b_X9_write_34 (p2 : Int64) (rec34 : Int32 → Int32 → (Nat → Int32) → Option (Int32 × (Nat → Int32))) (x4_6 : Int32) (y_size_7 : Int32) (y_text_8 : Nat → Int32) : Option (Int32 × (Nat → Int32)) := (if x4_6 < 0 then some (y_size_7, y_text_8) else nm (((p2 >>> (((nI 8) * x4_6).toInt64 &&& 63)) &&& (lN 255)).toInt32) (fun w_12 => ck 500 y_size_7 (nm (y_size_7 + (nI 1)) (fun w_14 => nm (x4_6 + (-1 : Int32)) (fun x4_15 => rec34 x4_15 w_14 (upd y_text_8 y_size_7.toNatClampNeg w_12))))))
def D_X9_write (F : Nat) (p1 : Int32) (p2 : Int64) (v_size : Int32) (v_text : Nat → Int32) : Option (Int32 × Int32 × (Nat → Int32)) := bd1 (D_X9_in p1.toInt64 (lN 1) (lN 8)) (fun r_1 => (if r_1 = 0 then some ((-1 : Int32), v_size, v_text) else (if (v_size + p1) ≤ (nI 500) then nm (p1 - (nI 1)) (fun x4_5 => bd2 (lpg (T := Int32 → Int32 → (Nat → Int32) → Option (Int32 × (Nat → Int32))) (fun _ _ _ => none) (b_X9_write_34 p2) F x4_5 v_size v_text) (fun o_9 o_10 => some (o_9, o_9, o_10))) else some ((-3 : Int32), v_size, v_text))))
abbrev rm_X9_write : Room := { frames := 1, cells := 0, slots := 0, locals := 25 }
set_option maxHeartbeats 4000000 in
set_option maxRecDepth 100000 in
theorem c_X9_write (l : Launch) (D : va_G) (ca : Nat → ClassId) (F : Nat) (sz : Nat) (q_this q_text q_read q_l q_stands q_kept q_one q_two q_ways q_now q_then : Nat) (p1 : Int32) (p2 : Int64) (v_size : Int32) (v_at : Int32) (v_keptMany : Int32) (v_text : Nat → Int32) (r : Int32) (o_size : Int32) (o_text : Nat → Int32) (h : D_X9_write F p1 p2 v_size v_text = some (r, o_size, o_text)) : Met l yX9_write wsX9_write rm_X9_write (va_Pc [.ref q_this, .int p1, .long p2] (kPre D ca [(q_this, .inr (8, [.ref q_text, .int v_size, .int v_at, .ref q_read, .ref q_l, .ref q_stands, .ref q_kept, .int v_keptMany, .ref q_one, .ref q_two, .ref q_ways, .ref q_now, .ref q_then])), (q_text, .inl (ca 0, 500, .inl v_text))] sz)) (kQi D ca (va_A [(q_this, .inr (8, [.ref q_text, .int v_size, .int v_at, .ref q_read, .ref q_l, .ref q_stands, .ref q_kept, .int v_keptMany, .ref q_one, .ref q_two, .ref q_ways, .ref q_now, .ref q_then])), (q_text, .inl (ca 0, 500, .inl v_text))] sz) [(q_this, .inr (8, [.ref q_text, .int o_size, .int v_at, .ref q_read, .ref q_l, .ref q_stands, .ref q_kept, .int v_keptMany, .ref q_one, .ref q_two, .ref q_ways, .ref q_now, .ref q_then])), (q_text, .inl (ca 0, 500, .inl o_text))] r) 0 0 (va_A [(q_this, .inr (8, [.ref q_text, .int v_size, .int v_at, .ref q_read, .ref q_l, .ref q_stands, .ref q_kept, .int v_keptMany, .ref q_one, .ref q_two, .ref q_ways, .ref q_now, .ref q_then])), (q_text, .inl (ca 0, 500, .inl v_text))] sz) := by
  refine Met.ofW (cc := cX9_write) (maxL := 5) (ret := (some .int)) (by decide +kernel) rfl ?_
  intro p e s m args below meth c s₁ B hml hv
  obtain ⟨rfl, hsz, hP, hK, hD0⟩ := hv
  have hx := B.exec
  have hb := B.bytes
  have hr := B.returns
  have hts := atoms_spec (ws := wsX9_write) B.pre
  have hown : s.vm.findClass RX9 = some m.cls := findClass_of_methodNamed B.named
  have hlocks := B.notSynchronized
  clear B
  subst hsz
  have hD := hD0.self (sz := s.heap.size)
  generalize hAe : va_A [(q_this, .inr (8, [.ref q_text, .int v_size, .int v_at, .ref q_read, .ref q_l, .ref q_stands, .ref q_kept, .int v_keptMany, .ref q_one, .ref q_two, .ref q_ways, .ref q_now, .ref q_then])), (q_text, .inl (ca 0, 500, .inl v_text))] s.heap.size = A at hD ⊢
  have hA : ∀ q : Nat, s.heap.size ≤ q → A q := fun q h => by rw [← hAe]; exact Or.inr h
  have hS : va_S A s.heap s.heap [] := va_S.rf
  have hl := lv_entry ([.ref q_this, .int p1, .long p2]) (n := 5) (Nat.le_of_ble_eq_true rfl)
  rw [lg_entry_eq]
  generalize (lg_sl ([.ref q_this, .int p1, .long p2]) ++ List.replicate (5 - (lg_sl ([.ref q_this, .int p1, .long p2])).length) Slot.unset).toArray = ls at hl ⊢
  have hl : lv_has ls 5 [(0, .ref q_this), (1, .int p1), (2, .long p2)] := hl
  generalize ([.ref q_this, .int p1, .long p2] : List Value).toArray = args at hts ⊢
  generalize hQe : MQ below (kQi D ca (A) [(q_this, .inr (8, [.ref q_text, .int o_size, .int v_at, .ref q_read, .ref q_l, .ref q_stands, .ref q_kept, .int v_keptMany, .ref q_one, .ref q_two, .ref q_ways, .ref q_now, .ref q_then])), (q_text, .inl (ca 0, 500, .inl o_text))] r) args s 0 0 A = Q
  have k_47 := hts (.constantLong RX9 47 (lN 8)) (by decide +kernel)
  have i_X9 : ∀ w ∈ u_ws RX9 TX9 13, w ∈ wsX9_write := by decide +kernel
  have k_53 := hts (.fieldLink RX9 53 "TradeWordsModel" "size" "I") (by decide +kernel)
  have k_7 := hts (.fieldLink RX9 7 "TradeWordsModel" "text" "[I") (by decide +kernel)
  have k_57 := hts (.constantLong RX9 57 (lN 255)) (by decide +kernel)
  rw [D_X9_write] at h
  refine lv_iload_n hx hb dX9_write_0 rfl (lv_at hl 1 rfl) ?_
  refine lv_i2l hx hb dX9_write_1 rfl ?_
  refine lv_lconst (v := (lN 1)) hx hb dX9_write_2 (by decide) ?_
  refine lv_ldc2 hx hb hown k_47 dX9_write_3 ?_
  obtain ⟨r_1, hg_2, h⟩ := bd1_el h
  refine kx_Si (As := [.long p1.toInt64, .long (lN 1), .long (lN 8)]) (rest := []) (wr := [(q_this, .inr (8, [.ref q_text, .int v_size, .int v_at, .ref q_read, .ref q_l, .ref q_stands, .ref q_kept, .int v_keptMany, .ref q_one, .ref q_two, .ref q_ways, .ref q_now, .ref q_then])), (q_text, .inl (ca 0, 500, .inl v_text))]) (w1 := []) (wn := [(q_this, .inr (8, [.ref q_text, .int v_size, .int v_at, .ref q_read, .ref q_l, .ref q_stands, .ref q_kept, .int v_keptMany, .ref q_one, .ref q_two, .ref q_ways, .ref q_now, .ref q_then])), (q_text, .inl (ca 0, 500, .inl v_text))]) ⟨hx, hb, hml, hown, hts⟩ (c_X9_in l D ca s.heap.size p1.toInt64 (lN 1) (lN 8) r_1 hg_2) (va_cwS 3 hts gX9_write_X9_in rfl rfl rfl (by decide +kernel) ⟨(Nat.le_of_ble_eq_true rfl), (Nat.le_of_ble_eq_true rfl)⟩) hK hP hD hS hA [] [0, 1] [0, 1] rfl rfl rfl rfl (by decide) rfl rfl rfl hl.1 rfl (Nat.le_of_ble_eq_true rfl) dX9_write_6 ⟨Nat.zero_le _, Nat.zero_le _⟩ (fun H locs hP hD hS => ?_)
  refine lv_if_ne (tgt := 14) hx hb dX9_write_9 (by decide) (fun c_3 => ?_) (fun c_3 => ?_)
  · replace h := ifn_el c_3 h
    refine lv_aload_n hx hb dX9_write_14 rfl (lv_at hl 0 rfl) ?_
    refine va_get (D := D) (ci := 8) (v := .int v_size) (C := RX9) (T := TX9) (N := 13) hx hb hts i_X9 hown hK hP 0 rfl rfl 1 (by decide) k_53 (fun _ h9 => h9) rfl dX9_write_15 ?_
    refine lv_iload_n hx hb dX9_write_18 rfl (lv_at hl 1 rfl) ?_
    refine lv_iadd hx hb dX9_write_19 ?_
    refine lv_sipush (v := (nI 500)) hx hb dX9_write_20 (by decide) ?_
    refine lv_icmp_le (tgt := 29) hx hb dX9_write_23 (by decide) (fun c_4 => ?_) (fun c_4 => ?_)
    · replace h := ifp_el c_4 h
      refine lv_iload_n hx hb dX9_write_29 rfl (lv_at hl 1 rfl) ?_
      refine lv_iconst (v := (nI 1)) hx hb dX9_write_30 (by decide) ?_
      refine lv_isub hx hb dX9_write_31 ?_
      refine lv_nmi h (fun x4_5 h => ?_)
      refine lv_istore (lv' := [(4, .int x4_5), (0, .ref q_this), (1, .int p1), (2, .long p2)]) hx hb dX9_write_32 hl (by decide) rfl (fun ls hl => ?_)
      obtain ⟨o_9, o_10, hL, h⟩ := bd2_el h
      have hex : ∀ (H : Heap) (locs : List Loc) (ls : Array Slot), va_P D vwCl [(q_this, .inr (8, [.ref q_text, .int o_9, .int v_at, .ref q_read, .ref q_l, .ref q_stands, .ref q_kept, .int v_keptMany, .ref q_one, .ref q_two, .ref q_ways, .ref q_now, .ref q_then])), (q_text, .inl (ca 0, 500, .inl o_10))] H → va_D A [(q_this, .inr (8, [.ref q_text, .int o_9, .int v_at, .ref q_read, .ref q_l, .ref q_stands, .ref q_kept, .int v_keptMany, .ref q_one, .ref q_two, .ref q_ways, .ref q_now, .ref q_then])), (q_text, .inl (ca 0, 500, .inl o_10))] → va_S A s.heap H locs → lv_has ls 5 [(0, .ref q_this)] → W p l e (headSpec wsX9_write rm_X9_write).room s m args below meth c H locs 0 0 Q (F0 m 76 ls []) := by
        intro H locs ls hP hD hS hl
        refine lv_aload_n hx hb dX9_write_76 rfl (lv_at hl 0 rfl) ?_
        refine va_get (D := D) (ci := 8) (v := .int o_9) (C := RX9) (T := TX9) (N := 13) hx hb hts i_X9 hown hK hP 0 rfl rfl 1 (by decide) k_53 (fun _ h9 => h9) rfl dX9_write_77 ?_
        cases h
        rw [← hQe]
        exact W.iret hx hb hr (fun t ht hW => ⟨⟨_, (), rfl, rfl, by rw [ht]; exact hP, va_K.moved hW.alike hK, hD⟩, hS.F ht⟩) hS.2.2 dX9_write_80
      have hlp : ∀ (n : Nat) (x4_6 : Int32) (y_size_7 : Int32) (y_text_8 : Nat → Int32) (o_9 : Int32) (o_10 : Nat → Int32) (H : Heap) (locs : List Loc) (ls : Array Slot), lpg (T := Int32 → Int32 → (Nat → Int32) → Option (Int32 × (Nat → Int32))) (fun _ _ _ => none) (b_X9_write_34 p2) n x4_6 y_size_7 y_text_8 = some (o_9, o_10) → (∀ (H : Heap) (locs : List Loc) (ls : Array Slot), va_P D vwCl [(q_this, .inr (8, [.ref q_text, .int o_9, .int v_at, .ref q_read, .ref q_l, .ref q_stands, .ref q_kept, .int v_keptMany, .ref q_one, .ref q_two, .ref q_ways, .ref q_now, .ref q_then])), (q_text, .inl (ca 0, 500, .inl o_10))] H → va_D A [(q_this, .inr (8, [.ref q_text, .int o_9, .int v_at, .ref q_read, .ref q_l, .ref q_stands, .ref q_kept, .int v_keptMany, .ref q_one, .ref q_two, .ref q_ways, .ref q_now, .ref q_then])), (q_text, .inl (ca 0, 500, .inl o_10))] → va_S A s.heap H locs → lv_has ls 5 [(0, .ref q_this)] → W p l e (headSpec wsX9_write rm_X9_write).room s m args below meth c H locs 0 0 Q (F0 m 76 ls [])) → va_P D vwCl [(q_this, .inr (8, [.ref q_text, .int y_size_7, .int v_at, .ref q_read, .ref q_l, .ref q_stands, .ref q_kept, .int v_keptMany, .ref q_one, .ref q_two, .ref q_ways, .ref q_now, .ref q_then])), (q_text, .inl (ca 0, 500, .inl y_text_8))] H → va_D A [(q_this, .inr (8, [.ref q_text, .int y_size_7, .int v_at, .ref q_read, .ref q_l, .ref q_stands, .ref q_kept, .int v_keptMany, .ref q_one, .ref q_two, .ref q_ways, .ref q_now, .ref q_then])), (q_text, .inl (ca 0, 500, .inl y_text_8))] → va_S A s.heap H locs → lv_has ls 5 [(0, .ref q_this), (2, .long p2), (4, .int x4_6)] → W p l e (headSpec wsX9_write rm_X9_write).room s m args below meth c H locs 0 0 Q (F0 m 34 ls []) := by
        intro n
        induction n with
        | zero => intro x4_6 y_size_7 y_text_8 o_9 o_10 H locs ls h; have h : (none : Option (Int32 × (Nat → Int32))) = some _ := h; cases h
        | succ n ih =>
          intro x4_6 y_size_7 y_text_8 o_9 o_10 H locs ls h hex hP hD hS hl
          rw [lpg_succ, b_X9_write_34] at h
          refine lv_iload hx hb dX9_write_34 (lv_at hl 2 rfl) ?_
          refine lv_if_lt (tgt := 76) hx hb dX9_write_36 (by decide) (fun c_11 => ?_) (fun c_11 => ?_)
          · replace h := ifp_el c_11 h
            cases h
            exact hex _ _ _ hP hD hS (lv_sub hl [0] rfl)
          · replace h := ifn_el c_11 h
            refine lv_aload_n hx hb dX9_write_39 rfl (lv_at hl 0 rfl) ?_
            refine va_get (D := D) (ci := 8) (v := .ref q_text) (C := RX9) (T := TX9) (N := 13) hx hb hts i_X9 hown hK hP 0 rfl rfl 0 (by decide) k_7 (fun _ h9 => h9) rfl dX9_write_40 ?_
            refine lv_aload_n hx hb dX9_write_43 rfl (lv_at hl 0 rfl) ?_
            refine va_get (D := D) (ci := 8) (v := .int y_size_7) (C := RX9) (T := TX9) (N := 13) hx hb hts i_X9 hown hK hP 0 rfl rfl 1 (by decide) k_53 (fun _ h9 => h9) rfl dX9_write_44 ?_
            refine lv_lload_n hx hb dX9_write_47 rfl (lv_at hl 1 rfl) ?_
            refine lv_bipush (v := (nI 8)) hx hb dX9_write_48 (by decide) ?_
            refine lv_iload hx hb dX9_write_50 (lv_at hl 2 rfl) ?_
            refine lv_imul hx hb dX9_write_52 ?_
            refine lv_lshr hx hb dX9_write_53 rfl ?_
            refine lv_ldc2 hx hb hown k_57 dX9_write_54 ?_
            refine lv_land hx hb dX9_write_57 ?_
            refine lv_l2i hx hb dX9_write_58 rfl ?_
            refine lv_nmi h (fun w_12 h => ?_)
            obtain ⟨hi_13, h⟩ := ck_el h
            refine va_iast hx hb hK hP hD hS 1 0 rfl rfl hi_13 dX9_write_59 (fun H locs hP hD hS => ?_)
            have hP : va_P D vwCl [(q_this, .inr (8, [.ref q_text, .int y_size_7, .int v_at, .ref q_read, .ref q_l, .ref q_stands, .ref q_kept, .int v_keptMany, .ref q_one, .ref q_two, .ref q_ways, .ref q_now, .ref q_then])), (q_text, .inl (ca 0, 500, .inl (upd y_text_8 y_size_7.toNatClampNeg w_12)))] H := hP
            have hD : va_D A [(q_this, .inr (8, [.ref q_text, .int y_size_7, .int v_at, .ref q_read, .ref q_l, .ref q_stands, .ref q_kept, .int v_keptMany, .ref q_one, .ref q_two, .ref q_ways, .ref q_now, .ref q_then])), (q_text, .inl (ca 0, 500, .inl (upd y_text_8 y_size_7.toNatClampNeg w_12)))] := hD
            refine lv_aload_n hx hb dX9_write_60 rfl (lv_at hl 0 rfl) ?_
            refine lv_dup hx hb dX9_write_61 rfl ?_
            refine va_get (D := D) (ci := 8) (v := .int y_size_7) (C := RX9) (T := TX9) (N := 13) hx hb hts i_X9 hown hK hP 0 rfl rfl 1 (by decide) k_53 (fun _ h9 => h9) rfl dX9_write_62 ?_
            refine lv_iconst (v := (nI 1)) hx hb dX9_write_65 (by decide) ?_
            refine lv_iadd hx hb dX9_write_66 ?_
            refine lv_nmi h (fun w_14 h => ?_)
            refine va_put (D := D) (ci := 8) (v := .int w_14) (ty := .int) (C := RX9) (T := TX9) (N := 13) hx hb hts i_X9 tyX9 tyX9_ok nmX9 hown hK hP hD hS 0 rfl rfl 1 (by decide) k_53 (fun _ h9 => h9) rfl (by decide +kernel) rfl rfl (Nat.le_of_ble_eq_true rfl) dX9_write_67 (fun H locs hP hD hS => ?_)
            have hP : va_P D vwCl [(q_this, .inr (8, [.ref q_text, .int w_14, .int v_at, .ref q_read, .ref q_l, .ref q_stands, .ref q_kept, .int v_keptMany, .ref q_one, .ref q_two, .ref q_ways, .ref q_now, .ref q_then])), (q_text, .inl (ca 0, 500, .inl (upd y_text_8 y_size_7.toNatClampNeg w_12)))] H := hP
            have hD : va_D A [(q_this, .inr (8, [.ref q_text, .int w_14, .int v_at, .ref q_read, .ref q_l, .ref q_stands, .ref q_kept, .int v_keptMany, .ref q_one, .ref q_two, .ref q_ways, .ref q_now, .ref q_then])), (q_text, .inl (ca 0, 500, .inl (upd y_text_8 y_size_7.toNatClampNeg w_12)))] := hD
            obtain ⟨x4_15, e_16, h⟩ := nm_el h
            refine lv_iinc (v := x4_15) (lv' := [(4, .int x4_15), (0, .ref q_this), (2, .long p2)]) hx hb dX9_write_70 hl (k := 2) rfl (by rw [← e_16]; rfl) (by decide) rfl (fun ls hl => ?_)
            refine lv_goto (tgt := 34) hx hb dX9_write_73 (by decide) ?_
            exact ih _ _ _ _ _ _ _ _ h hex hP hD hS (lv_sub hl [1, 2, 0] rfl)
      exact hlp F x4_5 v_size v_text o_9 o_10 H locs ls hL hex hP hD hS (lv_sub hl [1, 3, 0] rfl)
    · replace h := ifn_el c_4 h
      refine lv_bipush (v := (-3 : Int32)) hx hb dX9_write_26 (by decide) ?_
      cases h
      rw [← hQe]
      exact W.iret hx hb hr (fun t ht hW => ⟨⟨_, (), rfl, rfl, by rw [ht]; exact hP, va_K.moved hW.alike hK, hD⟩, hS.F ht⟩) hS.2.2 dX9_write_28
  · replace h := ifp_el c_3 h
    refine lv_iconst (v := (-1 : Int32)) hx hb dX9_write_12 (by decide) ?_
    cases h
    rw [← hQe]
    exact W.iret hx hb hr (fun t ht hW => ⟨⟨_, (), rfl, rfl, by rw [ht]; exact hP, va_K.moved hW.alike hK, hD⟩, hS.F ht⟩) hS.2.2 dX9_write_13
def D_X9_wipe (v_size : Int32) : Option (Int32 × Int32) := some (v_size, (nI 0))
abbrev rm_X9_wipe : Room := { frames := 0, cells := 0, slots := 0, locals := 0 }
set_option maxHeartbeats 4000000 in
set_option maxRecDepth 100000 in
theorem c_X9_wipe (l : Launch) (D : va_G) (ca : Nat → ClassId) (sz : Nat) (q_this q_text q_read q_l q_stands q_kept q_one q_two q_ways q_now q_then : Nat) (v_size : Int32) (v_at : Int32) (v_keptMany : Int32) (r : Int32) (o_size : Int32) (h : D_X9_wipe v_size = some (r, o_size)) : Met l yX9_wipe wsX9_wipe rm_X9_wipe (va_Pc [.ref q_this] (kPre D ca [(q_this, .inr (8, [.ref q_text, .int v_size, .int v_at, .ref q_read, .ref q_l, .ref q_stands, .ref q_kept, .int v_keptMany, .ref q_one, .ref q_two, .ref q_ways, .ref q_now, .ref q_then]))] sz)) (kQi D ca (va_A [(q_this, .inr (8, [.ref q_text, .int v_size, .int v_at, .ref q_read, .ref q_l, .ref q_stands, .ref q_kept, .int v_keptMany, .ref q_one, .ref q_two, .ref q_ways, .ref q_now, .ref q_then]))] sz) [(q_this, .inr (8, [.ref q_text, .int o_size, .int v_at, .ref q_read, .ref q_l, .ref q_stands, .ref q_kept, .int v_keptMany, .ref q_one, .ref q_two, .ref q_ways, .ref q_now, .ref q_then]))] r) 0 0 (va_A [(q_this, .inr (8, [.ref q_text, .int v_size, .int v_at, .ref q_read, .ref q_l, .ref q_stands, .ref q_kept, .int v_keptMany, .ref q_one, .ref q_two, .ref q_ways, .ref q_now, .ref q_then]))] sz) := by
  refine Met.ofW (cc := cX9_wipe) (maxL := 2) (ret := (some .int)) (by decide +kernel) rfl ?_
  intro p e s m args below meth c s₁ B hml hv
  obtain ⟨rfl, hsz, hP, hK, hD0⟩ := hv
  have hx := B.exec
  have hb := B.bytes
  have hr := B.returns
  have hts := atoms_spec (ws := wsX9_wipe) B.pre
  have hown : s.vm.findClass RX9 = some m.cls := findClass_of_methodNamed B.named
  have hlocks := B.notSynchronized
  clear B
  subst hsz
  have hD := hD0.self (sz := s.heap.size)
  generalize hAe : va_A [(q_this, .inr (8, [.ref q_text, .int v_size, .int v_at, .ref q_read, .ref q_l, .ref q_stands, .ref q_kept, .int v_keptMany, .ref q_one, .ref q_two, .ref q_ways, .ref q_now, .ref q_then]))] s.heap.size = A at hD ⊢
  have hA : ∀ q : Nat, s.heap.size ≤ q → A q := fun q h => by rw [← hAe]; exact Or.inr h
  have hS : va_S A s.heap s.heap [] := va_S.rf
  have hl := lv_entry ([.ref q_this]) (n := 2) (Nat.le_of_ble_eq_true rfl)
  rw [lg_entry_eq]
  generalize (lg_sl ([.ref q_this]) ++ List.replicate (2 - (lg_sl ([.ref q_this])).length) Slot.unset).toArray = ls at hl ⊢
  have hl : lv_has ls 2 [(0, .ref q_this)] := hl
  generalize ([.ref q_this] : List Value).toArray = args at hts ⊢
  generalize hQe : MQ below (kQi D ca (A) [(q_this, .inr (8, [.ref q_text, .int o_size, .int v_at, .ref q_read, .ref q_l, .ref q_stands, .ref q_kept, .int v_keptMany, .ref q_one, .ref q_two, .ref q_ways, .ref q_now, .ref q_then]))] r) args s 0 0 A = Q
  have i_X9 : ∀ w ∈ u_ws RX9 TX9 13, w ∈ wsX9_wipe := by decide +kernel
  have k_53 := hts (.fieldLink RX9 53 "TradeWordsModel" "size" "I") (by decide +kernel)
  rw [D_X9_wipe] at h
  refine lv_aload_n hx hb dX9_wipe_0 rfl (lv_at hl 0 rfl) ?_
  refine va_get (D := D) (ci := 8) (v := .int v_size) (C := RX9) (T := TX9) (N := 13) hx hb hts i_X9 hown hK hP 0 rfl rfl 1 (by decide) k_53 (fun _ h9 => h9) rfl dX9_wipe_1 ?_
  refine lv_istore_n (lv' := [(1, .int v_size), (0, .ref q_this)]) hx hb dX9_wipe_4 rfl hl (by decide) rfl (fun ls hl => ?_)
  refine lv_aload_n hx hb dX9_wipe_5 rfl (lv_at hl 1 rfl) ?_
  refine lv_iconst (v := (nI 0)) hx hb dX9_wipe_6 (by decide) ?_
  refine va_put (D := D) (ci := 8) (v := .int (nI 0)) (ty := .int) (C := RX9) (T := TX9) (N := 13) hx hb hts i_X9 tyX9 tyX9_ok nmX9 hown hK hP hD hS 0 rfl rfl 1 (by decide) k_53 (fun _ h9 => h9) rfl (by decide +kernel) rfl rfl (Nat.le_of_ble_eq_true rfl) dX9_wipe_7 (fun H locs hP hD hS => ?_)
  have hP : va_P D vwCl [(q_this, .inr (8, [.ref q_text, .int (nI 0), .int v_at, .ref q_read, .ref q_l, .ref q_stands, .ref q_kept, .int v_keptMany, .ref q_one, .ref q_two, .ref q_ways, .ref q_now, .ref q_then]))] H := hP
  have hD : va_D A [(q_this, .inr (8, [.ref q_text, .int (nI 0), .int v_at, .ref q_read, .ref q_l, .ref q_stands, .ref q_kept, .int v_keptMany, .ref q_one, .ref q_two, .ref q_ways, .ref q_now, .ref q_then]))] := hD
  refine lv_iload_n hx hb dX9_wipe_10 rfl (lv_at hl 0 rfl) ?_
  cases h
  rw [← hQe]
  exact W.iret hx hb hr (fun t ht hW => ⟨⟨_, (), rfl, rfl, by rw [ht]; exact hP, va_K.moved hW.alike hK, hD⟩, hS.F ht⟩) hS.2.2 dX9_wipe_11
def b_X9_begin_2  (rec2 : Int32 → (Nat → Int32) → Option ((Nat → Int32))) (x1_1 : Int32) (y_read_2 : Nat → Int32) : Option ((Nat → Int32)) := (if (nI 336) ≤ x1_1 then some (y_read_2) else ck 336 x1_1 (nm (x1_1 + (nI 1)) (fun x1_6 => rec2 x1_6 (upd y_read_2 x1_1.toNatClampNeg (nI 0)))))
def b_X9_begin_24  (rec24 : Int32 → (Nat → Int32) → Option ((Nat → Int32))) (x1_8 : Int32) (y_read_9 : Nat → Int32) : Option ((Nat → Int32)) := (if (nI 16) ≤ x1_8 then some (y_read_9) else ck 336 ((nI 282) + x1_8) (nm (x1_8 + (nI 1)) (fun x1_13 => rec24 x1_13 (upd y_read_9 ((nI 282) + x1_8).toNatClampNeg (-1 : Int32)))))
def D_X9_begin (F : Nat) (v_read : Nat → Int32) : Option ((Nat → Int32)) := bd1 (lpg (T := Int32 → (Nat → Int32) → Option ((Nat → Int32))) (fun _ _ => none) (b_X9_begin_2) F (nI 0) v_read) (fun o_3 => bd1 (lpg (T := Int32 → (Nat → Int32) → Option ((Nat → Int32))) (fun _ _ => none) (b_X9_begin_24) F (nI 0) o_3) (fun o_10 => ck 336 (nI 280) (ck 336 (nI 281) (ck 336 (nI 298) (ck 336 (nI 299) (ck 336 (nI 300) (ck 336 (nI 301) (ck 336 (nI 302) (ck 336 (nI 303) (some ((upd (upd (upd (upd (upd (upd (upd (upd o_10 (nI 280).toNatClampNeg (nI 65535)) (nI 281).toNatClampNeg (nI 65535)) (nI 298).toNatClampNeg (nI 4)) (nI 299).toNatClampNeg (nI 4)) (nI 300).toNatClampNeg (nI 5)) (nI 301).toNatClampNeg (nI 5)) (nI 302).toNatClampNeg (nI 5)) (nI 303).toNatClampNeg (nI 70)))))))))))))
abbrev rm_X9_begin : Room := { frames := 0, cells := 0, slots := 0, locals := 0 }
set_option maxHeartbeats 4000000 in
set_option maxRecDepth 100000 in
theorem c_X9_begin (l : Launch) (D : va_G) (ca : Nat → ClassId) (F : Nat) (sz : Nat) (q_this q_text q_read q_l q_stands q_kept q_one q_two q_ways q_now q_then : Nat) (v_size : Int32) (v_at : Int32) (v_keptMany : Int32) (v_read : Nat → Int32) (o_read : Nat → Int32) (h : D_X9_begin F v_read = some (o_read)) : Met l yX9_begin wsX9_begin rm_X9_begin (va_Pc [.ref q_this] (kPre D ca [(q_this, .inr (8, [.ref q_text, .int v_size, .int v_at, .ref q_read, .ref q_l, .ref q_stands, .ref q_kept, .int v_keptMany, .ref q_one, .ref q_two, .ref q_ways, .ref q_now, .ref q_then])), (q_read, .inl (ca 0, 336, .inl v_read))] sz)) (kQv D ca (va_A [(q_this, .inr (8, [.ref q_text, .int v_size, .int v_at, .ref q_read, .ref q_l, .ref q_stands, .ref q_kept, .int v_keptMany, .ref q_one, .ref q_two, .ref q_ways, .ref q_now, .ref q_then])), (q_read, .inl (ca 0, 336, .inl v_read))] sz) [(q_this, .inr (8, [.ref q_text, .int v_size, .int v_at, .ref q_read, .ref q_l, .ref q_stands, .ref q_kept, .int v_keptMany, .ref q_one, .ref q_two, .ref q_ways, .ref q_now, .ref q_then])), (q_read, .inl (ca 0, 336, .inl o_read))]) 0 0 (va_A [(q_this, .inr (8, [.ref q_text, .int v_size, .int v_at, .ref q_read, .ref q_l, .ref q_stands, .ref q_kept, .int v_keptMany, .ref q_one, .ref q_two, .ref q_ways, .ref q_now, .ref q_then])), (q_read, .inl (ca 0, 336, .inl v_read))] sz) := by
  refine Met.ofW (cc := cX9_begin) (maxL := 2) (ret := none) (by decide +kernel) rfl ?_
  intro p e s m args below meth c s₁ B hml hv
  obtain ⟨rfl, hsz, hP, hK, hD0⟩ := hv
  have hx := B.exec
  have hb := B.bytes
  have hr := B.returns
  have hts := atoms_spec (ws := wsX9_begin) B.pre
  have hown : s.vm.findClass RX9 = some m.cls := findClass_of_methodNamed B.named
  have hlocks := B.notSynchronized
  clear B
  subst hsz
  have hD := hD0.self (sz := s.heap.size)
  generalize hAe : va_A [(q_this, .inr (8, [.ref q_text, .int v_size, .int v_at, .ref q_read, .ref q_l, .ref q_stands, .ref q_kept, .int v_keptMany, .ref q_one, .ref q_two, .ref q_ways, .ref q_now, .ref q_then])), (q_read, .inl (ca 0, 336, .inl v_read))] s.heap.size = A at hD ⊢
  have hA : ∀ q : Nat, s.heap.size ≤ q → A q := fun q h => by rw [← hAe]; exact Or.inr h
  have hS : va_S A s.heap s.heap [] := va_S.rf
  have hl := lv_entry ([.ref q_this]) (n := 2) (Nat.le_of_ble_eq_true rfl)
  rw [lg_entry_eq]
  generalize (lg_sl ([.ref q_this]) ++ List.replicate (2 - (lg_sl ([.ref q_this])).length) Slot.unset).toArray = ls at hl ⊢
  have hl : lv_has ls 2 [(0, .ref q_this)] := hl
  generalize ([.ref q_this] : List Value).toArray = args at hts ⊢
  generalize hQe : MQ below (kQv D ca (A) [(q_this, .inr (8, [.ref q_text, .int v_size, .int v_at, .ref q_read, .ref q_l, .ref q_stands, .ref q_kept, .int v_keptMany, .ref q_one, .ref q_two, .ref q_ways, .ref q_now, .ref q_then])), (q_read, .inl (ca 0, 336, .inl o_read))]) args s 0 0 A = Q
  have i_X9 : ∀ w ∈ u_ws RX9 TX9 13, w ∈ wsX9_begin := by decide +kernel
  have k_13 := hts (.fieldLink RX9 13 "TradeWordsModel" "read" "[I") (by decide +kernel)
  have k_59 := hts (.constant RX9 59 (nI 65535)) (by decide +kernel)
  rw [D_X9_begin] at h
  refine lv_iconst (v := (nI 0)) hx hb dX9_begin_0 (by decide) ?_
  refine lv_istore_n (lv' := [(1, .int (nI 0)), (0, .ref q_this)]) hx hb dX9_begin_1 rfl hl (by decide) rfl (fun ls hl => ?_)
  obtain ⟨o_3, hL, h⟩ := bd1_el h
  have hex : ∀ (H : Heap) (locs : List Loc) (ls : Array Slot), va_P D vwCl [(q_this, .inr (8, [.ref q_text, .int v_size, .int v_at, .ref q_read, .ref q_l, .ref q_stands, .ref q_kept, .int v_keptMany, .ref q_one, .ref q_two, .ref q_ways, .ref q_now, .ref q_then])), (q_read, .inl (ca 0, 336, .inl o_3))] H → va_D A [(q_this, .inr (8, [.ref q_text, .int v_size, .int v_at, .ref q_read, .ref q_l, .ref q_stands, .ref q_kept, .int v_keptMany, .ref q_one, .ref q_two, .ref q_ways, .ref q_now, .ref q_then])), (q_read, .inl (ca 0, 336, .inl o_3))] → va_S A s.heap H locs → lv_has ls 2 [(0, .ref q_this)] → W p l e (headSpec wsX9_begin rm_X9_begin).room s m args below meth c H locs 0 0 Q (F0 m 22 ls []) := by
    intro H locs ls hP hD hS hl
    refine lv_iconst (v := (nI 0)) hx hb dX9_begin_22 (by decide) ?_
    refine lv_istore_n (lv' := [(1, .int (nI 0)), (0, .ref q_this)]) hx hb dX9_begin_23 rfl hl (by decide) rfl (fun ls hl => ?_)
    obtain ⟨o_10, hL, h⟩ := bd1_el h
    have hex : ∀ (H : Heap) (locs : List Loc) (ls : Array Slot), va_P D vwCl [(q_this, .inr (8, [.ref q_text, .int v_size, .int v_at, .ref q_read, .ref q_l, .ref q_stands, .ref q_kept, .int v_keptMany, .ref q_one, .ref q_two, .ref q_ways, .ref q_now, .ref q_then])), (q_read, .inl (ca 0, 336, .inl o_10))] H → va_D A [(q_this, .inr (8, [.ref q_text, .int v_size, .int v_at, .ref q_read, .ref q_l, .ref q_stands, .ref q_kept, .int v_keptMany, .ref q_one, .ref q_two, .ref q_ways, .ref q_now, .ref q_then])), (q_read, .inl (ca 0, 336, .inl o_10))] → va_S A s.heap H locs → lv_has ls 2 [(0, .ref q_this)] → W p l e (headSpec wsX9_begin rm_X9_begin).room s m args below meth c H locs 0 0 Q (F0 m 47 ls []) := by
      intro H locs ls hP hD hS hl
      refine lv_aload_n hx hb dX9_begin_47 rfl (lv_at hl 0 rfl) ?_
      refine va_get (D := D) (ci := 8) (v := .ref q_read) (C := RX9) (T := TX9) (N := 13) hx hb hts i_X9 hown hK hP 0 rfl rfl 3 (by decide) k_13 (fun _ h9 => h9) rfl dX9_begin_48 ?_
      refine lv_sipush (v := (nI 280)) hx hb dX9_begin_51 (by decide) ?_
      refine lv_ldc hx hb hown k_59 dX9_begin_54 ?_
      obtain ⟨hi_15, h⟩ := ck_el h
      refine va_iast hx hb hK hP hD hS 1 0 rfl rfl hi_15 dX9_begin_56 (fun H locs hP hD hS => ?_)
      have hP : va_P D vwCl [(q_this, .inr (8, [.ref q_text, .int v_size, .int v_at, .ref q_read, .ref q_l, .ref q_stands, .ref q_kept, .int v_keptMany, .ref q_one, .ref q_two, .ref q_ways, .ref q_now, .ref q_then])), (q_read, .inl (ca 0, 336, .inl (upd o_10 (nI 280).toNatClampNeg (nI 65535))))] H := hP
      have hD : va_D A [(q_this, .inr (8, [.ref q_text, .int v_size, .int v_at, .ref q_read, .ref q_l, .ref q_stands, .ref q_kept, .int v_keptMany, .ref q_one, .ref q_two, .ref q_ways, .ref q_now, .ref q_then])), (q_read, .inl (ca 0, 336, .inl (upd o_10 (nI 280).toNatClampNeg (nI 65535))))] := hD
      refine lv_aload_n hx hb dX9_begin_57 rfl (lv_at hl 0 rfl) ?_
      refine va_get (D := D) (ci := 8) (v := .ref q_read) (C := RX9) (T := TX9) (N := 13) hx hb hts i_X9 hown hK hP 0 rfl rfl 3 (by decide) k_13 (fun _ h9 => h9) rfl dX9_begin_58 ?_
      refine lv_sipush (v := (nI 281)) hx hb dX9_begin_61 (by decide) ?_
      refine lv_ldc hx hb hown k_59 dX9_begin_64 ?_
      obtain ⟨hi_16, h⟩ := ck_el h
      refine va_iast hx hb hK hP hD hS 1 0 rfl rfl hi_16 dX9_begin_66 (fun H locs hP hD hS => ?_)
      have hP : va_P D vwCl [(q_this, .inr (8, [.ref q_text, .int v_size, .int v_at, .ref q_read, .ref q_l, .ref q_stands, .ref q_kept, .int v_keptMany, .ref q_one, .ref q_two, .ref q_ways, .ref q_now, .ref q_then])), (q_read, .inl (ca 0, 336, .inl (upd (upd o_10 (nI 280).toNatClampNeg (nI 65535)) (nI 281).toNatClampNeg (nI 65535))))] H := hP
      have hD : va_D A [(q_this, .inr (8, [.ref q_text, .int v_size, .int v_at, .ref q_read, .ref q_l, .ref q_stands, .ref q_kept, .int v_keptMany, .ref q_one, .ref q_two, .ref q_ways, .ref q_now, .ref q_then])), (q_read, .inl (ca 0, 336, .inl (upd (upd o_10 (nI 280).toNatClampNeg (nI 65535)) (nI 281).toNatClampNeg (nI 65535))))] := hD
      refine lv_aload_n hx hb dX9_begin_67 rfl (lv_at hl 0 rfl) ?_
      refine va_get (D := D) (ci := 8) (v := .ref q_read) (C := RX9) (T := TX9) (N := 13) hx hb hts i_X9 hown hK hP 0 rfl rfl 3 (by decide) k_13 (fun _ h9 => h9) rfl dX9_begin_68 ?_
      refine lv_sipush (v := (nI 298)) hx hb dX9_begin_71 (by decide) ?_
      refine lv_iconst (v := (nI 4)) hx hb dX9_begin_74 (by decide) ?_
      obtain ⟨hi_17, h⟩ := ck_el h
      refine va_iast hx hb hK hP hD hS 1 0 rfl rfl hi_17 dX9_begin_75 (fun H locs hP hD hS => ?_)
      have hP : va_P D vwCl [(q_this, .inr (8, [.ref q_text, .int v_size, .int v_at, .ref q_read, .ref q_l, .ref q_stands, .ref q_kept, .int v_keptMany, .ref q_one, .ref q_two, .ref q_ways, .ref q_now, .ref q_then])), (q_read, .inl (ca 0, 336, .inl (upd (upd (upd o_10 (nI 280).toNatClampNeg (nI 65535)) (nI 281).toNatClampNeg (nI 65535)) (nI 298).toNatClampNeg (nI 4))))] H := hP
      have hD : va_D A [(q_this, .inr (8, [.ref q_text, .int v_size, .int v_at, .ref q_read, .ref q_l, .ref q_stands, .ref q_kept, .int v_keptMany, .ref q_one, .ref q_two, .ref q_ways, .ref q_now, .ref q_then])), (q_read, .inl (ca 0, 336, .inl (upd (upd (upd o_10 (nI 280).toNatClampNeg (nI 65535)) (nI 281).toNatClampNeg (nI 65535)) (nI 298).toNatClampNeg (nI 4))))] := hD
      refine lv_aload_n hx hb dX9_begin_76 rfl (lv_at hl 0 rfl) ?_
      refine va_get (D := D) (ci := 8) (v := .ref q_read) (C := RX9) (T := TX9) (N := 13) hx hb hts i_X9 hown hK hP 0 rfl rfl 3 (by decide) k_13 (fun _ h9 => h9) rfl dX9_begin_77 ?_
      refine lv_sipush (v := (nI 299)) hx hb dX9_begin_80 (by decide) ?_
      refine lv_iconst (v := (nI 4)) hx hb dX9_begin_83 (by decide) ?_
      obtain ⟨hi_18, h⟩ := ck_el h
      refine va_iast hx hb hK hP hD hS 1 0 rfl rfl hi_18 dX9_begin_84 (fun H locs hP hD hS => ?_)
      have hP : va_P D vwCl [(q_this, .inr (8, [.ref q_text, .int v_size, .int v_at, .ref q_read, .ref q_l, .ref q_stands, .ref q_kept, .int v_keptMany, .ref q_one, .ref q_two, .ref q_ways, .ref q_now, .ref q_then])), (q_read, .inl (ca 0, 336, .inl (upd (upd (upd (upd o_10 (nI 280).toNatClampNeg (nI 65535)) (nI 281).toNatClampNeg (nI 65535)) (nI 298).toNatClampNeg (nI 4)) (nI 299).toNatClampNeg (nI 4))))] H := hP
      have hD : va_D A [(q_this, .inr (8, [.ref q_text, .int v_size, .int v_at, .ref q_read, .ref q_l, .ref q_stands, .ref q_kept, .int v_keptMany, .ref q_one, .ref q_two, .ref q_ways, .ref q_now, .ref q_then])), (q_read, .inl (ca 0, 336, .inl (upd (upd (upd (upd o_10 (nI 280).toNatClampNeg (nI 65535)) (nI 281).toNatClampNeg (nI 65535)) (nI 298).toNatClampNeg (nI 4)) (nI 299).toNatClampNeg (nI 4))))] := hD
      refine lv_aload_n hx hb dX9_begin_85 rfl (lv_at hl 0 rfl) ?_
      refine va_get (D := D) (ci := 8) (v := .ref q_read) (C := RX9) (T := TX9) (N := 13) hx hb hts i_X9 hown hK hP 0 rfl rfl 3 (by decide) k_13 (fun _ h9 => h9) rfl dX9_begin_86 ?_
      refine lv_sipush (v := (nI 300)) hx hb dX9_begin_89 (by decide) ?_
      refine lv_iconst (v := (nI 5)) hx hb dX9_begin_92 (by decide) ?_
      obtain ⟨hi_19, h⟩ := ck_el h
      refine va_iast hx hb hK hP hD hS 1 0 rfl rfl hi_19 dX9_begin_93 (fun H locs hP hD hS => ?_)
      have hP : va_P D vwCl [(q_this, .inr (8, [.ref q_text, .int v_size, .int v_at, .ref q_read, .ref q_l, .ref q_stands, .ref q_kept, .int v_keptMany, .ref q_one, .ref q_two, .ref q_ways, .ref q_now, .ref q_then])), (q_read, .inl (ca 0, 336, .inl (upd (upd (upd (upd (upd o_10 (nI 280).toNatClampNeg (nI 65535)) (nI 281).toNatClampNeg (nI 65535)) (nI 298).toNatClampNeg (nI 4)) (nI 299).toNatClampNeg (nI 4)) (nI 300).toNatClampNeg (nI 5))))] H := hP
      have hD : va_D A [(q_this, .inr (8, [.ref q_text, .int v_size, .int v_at, .ref q_read, .ref q_l, .ref q_stands, .ref q_kept, .int v_keptMany, .ref q_one, .ref q_two, .ref q_ways, .ref q_now, .ref q_then])), (q_read, .inl (ca 0, 336, .inl (upd (upd (upd (upd (upd o_10 (nI 280).toNatClampNeg (nI 65535)) (nI 281).toNatClampNeg (nI 65535)) (nI 298).toNatClampNeg (nI 4)) (nI 299).toNatClampNeg (nI 4)) (nI 300).toNatClampNeg (nI 5))))] := hD
      refine lv_aload_n hx hb dX9_begin_94 rfl (lv_at hl 0 rfl) ?_
      refine va_get (D := D) (ci := 8) (v := .ref q_read) (C := RX9) (T := TX9) (N := 13) hx hb hts i_X9 hown hK hP 0 rfl rfl 3 (by decide) k_13 (fun _ h9 => h9) rfl dX9_begin_95 ?_
      refine lv_sipush (v := (nI 301)) hx hb dX9_begin_98 (by decide) ?_
      refine lv_iconst (v := (nI 5)) hx hb dX9_begin_101 (by decide) ?_
      obtain ⟨hi_20, h⟩ := ck_el h
      refine va_iast hx hb hK hP hD hS 1 0 rfl rfl hi_20 dX9_begin_102 (fun H locs hP hD hS => ?_)
      have hP : va_P D vwCl [(q_this, .inr (8, [.ref q_text, .int v_size, .int v_at, .ref q_read, .ref q_l, .ref q_stands, .ref q_kept, .int v_keptMany, .ref q_one, .ref q_two, .ref q_ways, .ref q_now, .ref q_then])), (q_read, .inl (ca 0, 336, .inl (upd (upd (upd (upd (upd (upd o_10 (nI 280).toNatClampNeg (nI 65535)) (nI 281).toNatClampNeg (nI 65535)) (nI 298).toNatClampNeg (nI 4)) (nI 299).toNatClampNeg (nI 4)) (nI 300).toNatClampNeg (nI 5)) (nI 301).toNatClampNeg (nI 5))))] H := hP
      have hD : va_D A [(q_this, .inr (8, [.ref q_text, .int v_size, .int v_at, .ref q_read, .ref q_l, .ref q_stands, .ref q_kept, .int v_keptMany, .ref q_one, .ref q_two, .ref q_ways, .ref q_now, .ref q_then])), (q_read, .inl (ca 0, 336, .inl (upd (upd (upd (upd (upd (upd o_10 (nI 280).toNatClampNeg (nI 65535)) (nI 281).toNatClampNeg (nI 65535)) (nI 298).toNatClampNeg (nI 4)) (nI 299).toNatClampNeg (nI 4)) (nI 300).toNatClampNeg (nI 5)) (nI 301).toNatClampNeg (nI 5))))] := hD
      refine lv_aload_n hx hb dX9_begin_103 rfl (lv_at hl 0 rfl) ?_
      refine va_get (D := D) (ci := 8) (v := .ref q_read) (C := RX9) (T := TX9) (N := 13) hx hb hts i_X9 hown hK hP 0 rfl rfl 3 (by decide) k_13 (fun _ h9 => h9) rfl dX9_begin_104 ?_
      refine lv_sipush (v := (nI 302)) hx hb dX9_begin_107 (by decide) ?_
      refine lv_iconst (v := (nI 5)) hx hb dX9_begin_110 (by decide) ?_
      obtain ⟨hi_21, h⟩ := ck_el h
      refine va_iast hx hb hK hP hD hS 1 0 rfl rfl hi_21 dX9_begin_111 (fun H locs hP hD hS => ?_)
      have hP : va_P D vwCl [(q_this, .inr (8, [.ref q_text, .int v_size, .int v_at, .ref q_read, .ref q_l, .ref q_stands, .ref q_kept, .int v_keptMany, .ref q_one, .ref q_two, .ref q_ways, .ref q_now, .ref q_then])), (q_read, .inl (ca 0, 336, .inl (upd (upd (upd (upd (upd (upd (upd o_10 (nI 280).toNatClampNeg (nI 65535)) (nI 281).toNatClampNeg (nI 65535)) (nI 298).toNatClampNeg (nI 4)) (nI 299).toNatClampNeg (nI 4)) (nI 300).toNatClampNeg (nI 5)) (nI 301).toNatClampNeg (nI 5)) (nI 302).toNatClampNeg (nI 5))))] H := hP
      have hD : va_D A [(q_this, .inr (8, [.ref q_text, .int v_size, .int v_at, .ref q_read, .ref q_l, .ref q_stands, .ref q_kept, .int v_keptMany, .ref q_one, .ref q_two, .ref q_ways, .ref q_now, .ref q_then])), (q_read, .inl (ca 0, 336, .inl (upd (upd (upd (upd (upd (upd (upd o_10 (nI 280).toNatClampNeg (nI 65535)) (nI 281).toNatClampNeg (nI 65535)) (nI 298).toNatClampNeg (nI 4)) (nI 299).toNatClampNeg (nI 4)) (nI 300).toNatClampNeg (nI 5)) (nI 301).toNatClampNeg (nI 5)) (nI 302).toNatClampNeg (nI 5))))] := hD
      refine lv_aload_n hx hb dX9_begin_112 rfl (lv_at hl 0 rfl) ?_
      refine va_get (D := D) (ci := 8) (v := .ref q_read) (C := RX9) (T := TX9) (N := 13) hx hb hts i_X9 hown hK hP 0 rfl rfl 3 (by decide) k_13 (fun _ h9 => h9) rfl dX9_begin_113 ?_
      refine lv_sipush (v := (nI 303)) hx hb dX9_begin_116 (by decide) ?_
      refine lv_bipush (v := (nI 70)) hx hb dX9_begin_119 (by decide) ?_
      obtain ⟨hi_22, h⟩ := ck_el h
      refine va_iast hx hb hK hP hD hS 1 0 rfl rfl hi_22 dX9_begin_121 (fun H locs hP hD hS => ?_)
      have hP : va_P D vwCl [(q_this, .inr (8, [.ref q_text, .int v_size, .int v_at, .ref q_read, .ref q_l, .ref q_stands, .ref q_kept, .int v_keptMany, .ref q_one, .ref q_two, .ref q_ways, .ref q_now, .ref q_then])), (q_read, .inl (ca 0, 336, .inl (upd (upd (upd (upd (upd (upd (upd (upd o_10 (nI 280).toNatClampNeg (nI 65535)) (nI 281).toNatClampNeg (nI 65535)) (nI 298).toNatClampNeg (nI 4)) (nI 299).toNatClampNeg (nI 4)) (nI 300).toNatClampNeg (nI 5)) (nI 301).toNatClampNeg (nI 5)) (nI 302).toNatClampNeg (nI 5)) (nI 303).toNatClampNeg (nI 70))))] H := hP
      have hD : va_D A [(q_this, .inr (8, [.ref q_text, .int v_size, .int v_at, .ref q_read, .ref q_l, .ref q_stands, .ref q_kept, .int v_keptMany, .ref q_one, .ref q_two, .ref q_ways, .ref q_now, .ref q_then])), (q_read, .inl (ca 0, 336, .inl (upd (upd (upd (upd (upd (upd (upd (upd o_10 (nI 280).toNatClampNeg (nI 65535)) (nI 281).toNatClampNeg (nI 65535)) (nI 298).toNatClampNeg (nI 4)) (nI 299).toNatClampNeg (nI 4)) (nI 300).toNatClampNeg (nI 5)) (nI 301).toNatClampNeg (nI 5)) (nI 302).toNatClampNeg (nI 5)) (nI 303).toNatClampNeg (nI 70))))] := hD
      cases h
      rw [← hQe]
      exact W.vret hx hb hr (fun t ht hW => ⟨⟨(), rfl, trivial, by rw [ht]; exact hP, va_K.moved hW.alike hK, hD⟩, hS.F ht⟩) hS.2.2 dX9_begin_122
    have hlp : ∀ (n : Nat) (x1_8 : Int32) (y_read_9 : Nat → Int32) (o_10 : Nat → Int32) (H : Heap) (locs : List Loc) (ls : Array Slot), lpg (T := Int32 → (Nat → Int32) → Option ((Nat → Int32))) (fun _ _ => none) (b_X9_begin_24) n x1_8 y_read_9 = some (o_10) → (∀ (H : Heap) (locs : List Loc) (ls : Array Slot), va_P D vwCl [(q_this, .inr (8, [.ref q_text, .int v_size, .int v_at, .ref q_read, .ref q_l, .ref q_stands, .ref q_kept, .int v_keptMany, .ref q_one, .ref q_two, .ref q_ways, .ref q_now, .ref q_then])), (q_read, .inl (ca 0, 336, .inl o_10))] H → va_D A [(q_this, .inr (8, [.ref q_text, .int v_size, .int v_at, .ref q_read, .ref q_l, .ref q_stands, .ref q_kept, .int v_keptMany, .ref q_one, .ref q_two, .ref q_ways, .ref q_now, .ref q_then])), (q_read, .inl (ca 0, 336, .inl o_10))] → va_S A s.heap H locs → lv_has ls 2 [(0, .ref q_this)] → W p l e (headSpec wsX9_begin rm_X9_begin).room s m args below meth c H locs 0 0 Q (F0 m 47 ls [])) → va_P D vwCl [(q_this, .inr (8, [.ref q_text, .int v_size, .int v_at, .ref q_read, .ref q_l, .ref q_stands, .ref q_kept, .int v_keptMany, .ref q_one, .ref q_two, .ref q_ways, .ref q_now, .ref q_then])), (q_read, .inl (ca 0, 336, .inl y_read_9))] H → va_D A [(q_this, .inr (8, [.ref q_text, .int v_size, .int v_at, .ref q_read, .ref q_l, .ref q_stands, .ref q_kept, .int v_keptMany, .ref q_one, .ref q_two, .ref q_ways, .ref q_now, .ref q_then])), (q_read, .inl (ca 0, 336, .inl y_read_9))] → va_S A s.heap H locs → lv_has ls 2 [(0, .ref q_this), (1, .int x1_8)] → W p l e (headSpec wsX9_begin rm_X9_begin).room s m args below meth c H locs 0 0 Q (F0 m 24 ls []) := by
      intro n
      induction n with
      | zero => intro x1_8 y_read_9 o_10 H locs ls h; have h : (none : Option ((Nat → Int32))) = some _ := h; cases h
      | succ n ih =>
        intro x1_8 y_read_9 o_10 H locs ls h hex hP hD hS hl
        rw [lpg_succ, b_X9_begin_24] at h
        refine lv_iload_n hx hb dX9_begin_24 rfl (lv_at hl 1 rfl) ?_
        refine lv_bipush (v := (nI 16)) hx hb dX9_begin_25 (by decide) ?_
        refine lv_icmp_ge (tgt := 47) hx hb dX9_begin_27 (by decide) (fun c_11 => ?_) (fun c_11 => ?_)
        · replace h := ifp_el c_11 h
          cases h
          exact hex _ _ _ hP hD hS (lv_sub hl [0] rfl)
        · replace h := ifn_el c_11 h
          refine lv_aload_n hx hb dX9_begin_30 rfl (lv_at hl 0 rfl) ?_
          refine va_get (D := D) (ci := 8) (v := .ref q_read) (C := RX9) (T := TX9) (N := 13) hx hb hts i_X9 hown hK hP 0 rfl rfl 3 (by decide) k_13 (fun _ h9 => h9) rfl dX9_begin_31 ?_
          refine lv_sipush (v := (nI 282)) hx hb dX9_begin_34 (by decide) ?_
          refine lv_iload_n hx hb dX9_begin_37 rfl (lv_at hl 1 rfl) ?_
          refine lv_iadd hx hb dX9_begin_38 ?_
          refine lv_iconst (v := (-1 : Int32)) hx hb dX9_begin_39 (by decide) ?_
          obtain ⟨hi_12, h⟩ := ck_el h
          refine va_iast hx hb hK hP hD hS 1 0 rfl rfl hi_12 dX9_begin_40 (fun H locs hP hD hS => ?_)
          have hP : va_P D vwCl [(q_this, .inr (8, [.ref q_text, .int v_size, .int v_at, .ref q_read, .ref q_l, .ref q_stands, .ref q_kept, .int v_keptMany, .ref q_one, .ref q_two, .ref q_ways, .ref q_now, .ref q_then])), (q_read, .inl (ca 0, 336, .inl (upd y_read_9 ((nI 282) + x1_8).toNatClampNeg (-1 : Int32))))] H := hP
          have hD : va_D A [(q_this, .inr (8, [.ref q_text, .int v_size, .int v_at, .ref q_read, .ref q_l, .ref q_stands, .ref q_kept, .int v_keptMany, .ref q_one, .ref q_two, .ref q_ways, .ref q_now, .ref q_then])), (q_read, .inl (ca 0, 336, .inl (upd y_read_9 ((nI 282) + x1_8).toNatClampNeg (-1 : Int32))))] := hD
          obtain ⟨x1_13, e_14, h⟩ := nm_el h
          refine lv_iinc (v := x1_13) (lv' := [(1, .int x1_13), (0, .ref q_this)]) hx hb dX9_begin_41 hl (k := 1) rfl (by rw [← e_14]; rfl) (by decide) rfl (fun ls hl => ?_)
          refine lv_goto (tgt := 24) hx hb dX9_begin_44 (by decide) ?_
          exact ih _ _ _ _ _ _ h hex hP hD hS (lv_sub hl [1, 0] rfl)
    exact hlp F (nI 0) o_3 o_10 H locs ls hL hex hP hD hS (lv_sub hl [1, 0] rfl)
  have hlp : ∀ (n : Nat) (x1_1 : Int32) (y_read_2 : Nat → Int32) (o_3 : Nat → Int32) (H : Heap) (locs : List Loc) (ls : Array Slot), lpg (T := Int32 → (Nat → Int32) → Option ((Nat → Int32))) (fun _ _ => none) (b_X9_begin_2) n x1_1 y_read_2 = some (o_3) → (∀ (H : Heap) (locs : List Loc) (ls : Array Slot), va_P D vwCl [(q_this, .inr (8, [.ref q_text, .int v_size, .int v_at, .ref q_read, .ref q_l, .ref q_stands, .ref q_kept, .int v_keptMany, .ref q_one, .ref q_two, .ref q_ways, .ref q_now, .ref q_then])), (q_read, .inl (ca 0, 336, .inl o_3))] H → va_D A [(q_this, .inr (8, [.ref q_text, .int v_size, .int v_at, .ref q_read, .ref q_l, .ref q_stands, .ref q_kept, .int v_keptMany, .ref q_one, .ref q_two, .ref q_ways, .ref q_now, .ref q_then])), (q_read, .inl (ca 0, 336, .inl o_3))] → va_S A s.heap H locs → lv_has ls 2 [(0, .ref q_this)] → W p l e (headSpec wsX9_begin rm_X9_begin).room s m args below meth c H locs 0 0 Q (F0 m 22 ls [])) → va_P D vwCl [(q_this, .inr (8, [.ref q_text, .int v_size, .int v_at, .ref q_read, .ref q_l, .ref q_stands, .ref q_kept, .int v_keptMany, .ref q_one, .ref q_two, .ref q_ways, .ref q_now, .ref q_then])), (q_read, .inl (ca 0, 336, .inl y_read_2))] H → va_D A [(q_this, .inr (8, [.ref q_text, .int v_size, .int v_at, .ref q_read, .ref q_l, .ref q_stands, .ref q_kept, .int v_keptMany, .ref q_one, .ref q_two, .ref q_ways, .ref q_now, .ref q_then])), (q_read, .inl (ca 0, 336, .inl y_read_2))] → va_S A s.heap H locs → lv_has ls 2 [(0, .ref q_this), (1, .int x1_1)] → W p l e (headSpec wsX9_begin rm_X9_begin).room s m args below meth c H locs 0 0 Q (F0 m 2 ls []) := by
    intro n
    induction n with
    | zero => intro x1_1 y_read_2 o_3 H locs ls h; have h : (none : Option ((Nat → Int32))) = some _ := h; cases h
    | succ n ih =>
      intro x1_1 y_read_2 o_3 H locs ls h hex hP hD hS hl
      rw [lpg_succ, b_X9_begin_2] at h
      refine lv_iload_n hx hb dX9_begin_2 rfl (lv_at hl 1 rfl) ?_
      refine lv_sipush (v := (nI 336)) hx hb dX9_begin_3 (by decide) ?_
      refine lv_icmp_ge (tgt := 22) hx hb dX9_begin_6 (by decide) (fun c_4 => ?_) (fun c_4 => ?_)
      · replace h := ifp_el c_4 h
        cases h
        exact hex _ _ _ hP hD hS (lv_sub hl [0] rfl)
      · replace h := ifn_el c_4 h
        refine lv_aload_n hx hb dX9_begin_9 rfl (lv_at hl 0 rfl) ?_
        refine va_get (D := D) (ci := 8) (v := .ref q_read) (C := RX9) (T := TX9) (N := 13) hx hb hts i_X9 hown hK hP 0 rfl rfl 3 (by decide) k_13 (fun _ h9 => h9) rfl dX9_begin_10 ?_
        refine lv_iload_n hx hb dX9_begin_13 rfl (lv_at hl 1 rfl) ?_
        refine lv_iconst (v := (nI 0)) hx hb dX9_begin_14 (by decide) ?_
        obtain ⟨hi_5, h⟩ := ck_el h
        refine va_iast hx hb hK hP hD hS 1 0 rfl rfl hi_5 dX9_begin_15 (fun H locs hP hD hS => ?_)
        have hP : va_P D vwCl [(q_this, .inr (8, [.ref q_text, .int v_size, .int v_at, .ref q_read, .ref q_l, .ref q_stands, .ref q_kept, .int v_keptMany, .ref q_one, .ref q_two, .ref q_ways, .ref q_now, .ref q_then])), (q_read, .inl (ca 0, 336, .inl (upd y_read_2 x1_1.toNatClampNeg (nI 0))))] H := hP
        have hD : va_D A [(q_this, .inr (8, [.ref q_text, .int v_size, .int v_at, .ref q_read, .ref q_l, .ref q_stands, .ref q_kept, .int v_keptMany, .ref q_one, .ref q_two, .ref q_ways, .ref q_now, .ref q_then])), (q_read, .inl (ca 0, 336, .inl (upd y_read_2 x1_1.toNatClampNeg (nI 0))))] := hD
        obtain ⟨x1_6, e_7, h⟩ := nm_el h
        refine lv_iinc (v := x1_6) (lv' := [(1, .int x1_6), (0, .ref q_this)]) hx hb dX9_begin_16 hl (k := 1) rfl (by rw [← e_7]; rfl) (by decide) rfl (fun ls hl => ?_)
        refine lv_goto (tgt := 2) hx hb dX9_begin_19 (by decide) ?_
        exact ih _ _ _ _ _ _ h hex hP hD hS (lv_sub hl [1, 0] rfl)
  exact hlp F (nI 0) v_read o_3 s.heap [] ls hL hex hP hD hS (lv_sub hl [1, 0] rfl)
def b_X9_layRead_2 (v_read : Nat → Int32) (rec2 : Int32 → (Nat → Int32) → Option ((Nat → Int32))) (x1_1 : Int32) (y_l_2 : Nat → Int32) : Option ((Nat → Int32)) := (if (nI 336) ≤ x1_1 then some (y_l_2) else ck 336 x1_1 (nm (v_read x1_1.toNatClampNeg) (fun w_6 => ck 336 x1_1 (nm (x1_1 + (nI 1)) (fun x1_8 => rec2 x1_8 (upd y_l_2 x1_1.toNatClampNeg w_6))))))
def D_X9_layRead (F : Nat) (v_read : Nat → Int32) (v_l : Nat → Int32) : Option ((Nat → Int32)) := bd1 (lpg (T := Int32 → (Nat → Int32) → Option ((Nat → Int32))) (fun _ _ => none) (b_X9_layRead_2 v_read) F (nI 0) v_l) (fun o_3 => some (o_3))
abbrev rm_X9_layRead : Room := { frames := 0, cells := 0, slots := 0, locals := 0 }
set_option maxHeartbeats 4000000 in
set_option maxRecDepth 100000 in
theorem c_X9_layRead (l : Launch) (D : va_G) (ca : Nat → ClassId) (F : Nat) (sz : Nat) (q_this q_text q_read q_l q_stands q_kept q_one q_two q_ways q_now q_then : Nat) (v_size : Int32) (v_at : Int32) (v_keptMany : Int32) (v_read : Nat → Int32) (v_l : Nat → Int32) (o_l : Nat → Int32) (h : D_X9_layRead F v_read v_l = some (o_l)) : Met l yX9_layRead wsX9_layRead rm_X9_layRead (va_Pc [.ref q_this] (kPre D ca [(q_this, .inr (8, [.ref q_text, .int v_size, .int v_at, .ref q_read, .ref q_l, .ref q_stands, .ref q_kept, .int v_keptMany, .ref q_one, .ref q_two, .ref q_ways, .ref q_now, .ref q_then])), (q_read, .inl (ca 0, 336, .inl v_read)), (q_l, .inl (ca 0, 336, .inl v_l))] sz)) (kQv D ca (va_A [(q_this, .inr (8, [.ref q_text, .int v_size, .int v_at, .ref q_read, .ref q_l, .ref q_stands, .ref q_kept, .int v_keptMany, .ref q_one, .ref q_two, .ref q_ways, .ref q_now, .ref q_then])), (q_read, .inl (ca 0, 336, .inl v_read)), (q_l, .inl (ca 0, 336, .inl v_l))] sz) [(q_this, .inr (8, [.ref q_text, .int v_size, .int v_at, .ref q_read, .ref q_l, .ref q_stands, .ref q_kept, .int v_keptMany, .ref q_one, .ref q_two, .ref q_ways, .ref q_now, .ref q_then])), (q_read, .inl (ca 0, 336, .inl v_read)), (q_l, .inl (ca 0, 336, .inl o_l))]) 0 0 (va_A [(q_this, .inr (8, [.ref q_text, .int v_size, .int v_at, .ref q_read, .ref q_l, .ref q_stands, .ref q_kept, .int v_keptMany, .ref q_one, .ref q_two, .ref q_ways, .ref q_now, .ref q_then])), (q_read, .inl (ca 0, 336, .inl v_read)), (q_l, .inl (ca 0, 336, .inl v_l))] sz) := by
  refine Met.ofW (cc := cX9_layRead) (maxL := 2) (ret := none) (by decide +kernel) rfl ?_
  intro p e s m args below meth c s₁ B hml hv
  obtain ⟨rfl, hsz, hP, hK, hD0⟩ := hv
  have hx := B.exec
  have hb := B.bytes
  have hr := B.returns
  have hts := atoms_spec (ws := wsX9_layRead) B.pre
  have hown : s.vm.findClass RX9 = some m.cls := findClass_of_methodNamed B.named
  have hlocks := B.notSynchronized
  clear B
  subst hsz
  have hD := hD0.self (sz := s.heap.size)
  generalize hAe : va_A [(q_this, .inr (8, [.ref q_text, .int v_size, .int v_at, .ref q_read, .ref q_l, .ref q_stands, .ref q_kept, .int v_keptMany, .ref q_one, .ref q_two, .ref q_ways, .ref q_now, .ref q_then])), (q_read, .inl (ca 0, 336, .inl v_read)), (q_l, .inl (ca 0, 336, .inl v_l))] s.heap.size = A at hD ⊢
  have hA : ∀ q : Nat, s.heap.size ≤ q → A q := fun q h => by rw [← hAe]; exact Or.inr h
  have hS : va_S A s.heap s.heap [] := va_S.rf
  have hl := lv_entry ([.ref q_this]) (n := 2) (Nat.le_of_ble_eq_true rfl)
  rw [lg_entry_eq]
  generalize (lg_sl ([.ref q_this]) ++ List.replicate (2 - (lg_sl ([.ref q_this])).length) Slot.unset).toArray = ls at hl ⊢
  have hl : lv_has ls 2 [(0, .ref q_this)] := hl
  generalize ([.ref q_this] : List Value).toArray = args at hts ⊢
  generalize hQe : MQ below (kQv D ca (A) [(q_this, .inr (8, [.ref q_text, .int v_size, .int v_at, .ref q_read, .ref q_l, .ref q_stands, .ref q_kept, .int v_keptMany, .ref q_one, .ref q_two, .ref q_ways, .ref q_now, .ref q_then])), (q_read, .inl (ca 0, 336, .inl v_read)), (q_l, .inl (ca 0, 336, .inl o_l))]) args s 0 0 A = Q
  have i_X9 : ∀ w ∈ u_ws RX9 TX9 13, w ∈ wsX9_layRead := by decide +kernel
  have k_16 := hts (.fieldLink RX9 16 "TradeWordsModel" "l" "[I") (by decide +kernel)
  have k_13 := hts (.fieldLink RX9 13 "TradeWordsModel" "read" "[I") (by decide +kernel)
  rw [D_X9_layRead] at h
  refine lv_iconst (v := (nI 0)) hx hb dX9_layRead_0 (by decide) ?_
  refine lv_istore_n (lv' := [(1, .int (nI 0)), (0, .ref q_this)]) hx hb dX9_layRead_1 rfl hl (by decide) rfl (fun ls hl => ?_)
  obtain ⟨o_3, hL, h⟩ := bd1_el h
  have hex : ∀ (H : Heap) (locs : List Loc) (ls : Array Slot), va_P D vwCl [(q_this, .inr (8, [.ref q_text, .int v_size, .int v_at, .ref q_read, .ref q_l, .ref q_stands, .ref q_kept, .int v_keptMany, .ref q_one, .ref q_two, .ref q_ways, .ref q_now, .ref q_then])), (q_read, .inl (ca 0, 336, .inl v_read)), (q_l, .inl (ca 0, 336, .inl o_3))] H → va_D A [(q_this, .inr (8, [.ref q_text, .int v_size, .int v_at, .ref q_read, .ref q_l, .ref q_stands, .ref q_kept, .int v_keptMany, .ref q_one, .ref q_two, .ref q_ways, .ref q_now, .ref q_then])), (q_read, .inl (ca 0, 336, .inl v_read)), (q_l, .inl (ca 0, 336, .inl o_3))] → va_S A s.heap H locs → lv_has ls 2 [] → W p l e (headSpec wsX9_layRead rm_X9_layRead).room s m args below meth c H locs 0 0 Q (F0 m 27 ls []) := by
    intro H locs ls hP hD hS hl
    cases h
    rw [← hQe]
    exact W.vret hx hb hr (fun t ht hW => ⟨⟨(), rfl, trivial, by rw [ht]; exact hP, va_K.moved hW.alike hK, hD⟩, hS.F ht⟩) hS.2.2 dX9_layRead_27
  have hlp : ∀ (n : Nat) (x1_1 : Int32) (y_l_2 : Nat → Int32) (o_3 : Nat → Int32) (H : Heap) (locs : List Loc) (ls : Array Slot), lpg (T := Int32 → (Nat → Int32) → Option ((Nat → Int32))) (fun _ _ => none) (b_X9_layRead_2 v_read) n x1_1 y_l_2 = some (o_3) → (∀ (H : Heap) (locs : List Loc) (ls : Array Slot), va_P D vwCl [(q_this, .inr (8, [.ref q_text, .int v_size, .int v_at, .ref q_read, .ref q_l, .ref q_stands, .ref q_kept, .int v_keptMany, .ref q_one, .ref q_two, .ref q_ways, .ref q_now, .ref q_then])), (q_read, .inl (ca 0, 336, .inl v_read)), (q_l, .inl (ca 0, 336, .inl o_3))] H → va_D A [(q_this, .inr (8, [.ref q_text, .int v_size, .int v_at, .ref q_read, .ref q_l, .ref q_stands, .ref q_kept, .int v_keptMany, .ref q_one, .ref q_two, .ref q_ways, .ref q_now, .ref q_then])), (q_read, .inl (ca 0, 336, .inl v_read)), (q_l, .inl (ca 0, 336, .inl o_3))] → va_S A s.heap H locs → lv_has ls 2 [] → W p l e (headSpec wsX9_layRead rm_X9_layRead).room s m args below meth c H locs 0 0 Q (F0 m 27 ls [])) → va_P D vwCl [(q_this, .inr (8, [.ref q_text, .int v_size, .int v_at, .ref q_read, .ref q_l, .ref q_stands, .ref q_kept, .int v_keptMany, .ref q_one, .ref q_two, .ref q_ways, .ref q_now, .ref q_then])), (q_read, .inl (ca 0, 336, .inl v_read)), (q_l, .inl (ca 0, 336, .inl y_l_2))] H → va_D A [(q_this, .inr (8, [.ref q_text, .int v_size, .int v_at, .ref q_read, .ref q_l, .ref q_stands, .ref q_kept, .int v_keptMany, .ref q_one, .ref q_two, .ref q_ways, .ref q_now, .ref q_then])), (q_read, .inl (ca 0, 336, .inl v_read)), (q_l, .inl (ca 0, 336, .inl y_l_2))] → va_S A s.heap H locs → lv_has ls 2 [(0, .ref q_this), (1, .int x1_1)] → W p l e (headSpec wsX9_layRead rm_X9_layRead).room s m args below meth c H locs 0 0 Q (F0 m 2 ls []) := by
    intro n
    induction n with
    | zero => intro x1_1 y_l_2 o_3 H locs ls h; have h : (none : Option ((Nat → Int32))) = some _ := h; cases h
    | succ n ih =>
      intro x1_1 y_l_2 o_3 H locs ls h hex hP hD hS hl
      rw [lpg_succ, b_X9_layRead_2] at h
      refine lv_iload_n hx hb dX9_layRead_2 rfl (lv_at hl 1 rfl) ?_
      refine lv_sipush (v := (nI 336)) hx hb dX9_layRead_3 (by decide) ?_
      refine lv_icmp_ge (tgt := 27) hx hb dX9_layRead_6 (by decide) (fun c_4 => ?_) (fun c_4 => ?_)
      · replace h := ifp_el c_4 h
        cases h
        exact hex _ _ _ hP hD hS (lv_sub hl [] rfl)
      · replace h := ifn_el c_4 h
        refine lv_aload_n hx hb dX9_layRead_9 rfl (lv_at hl 0 rfl) ?_
        refine va_get (D := D) (ci := 8) (v := .ref q_l) (C := RX9) (T := TX9) (N := 13) hx hb hts i_X9 hown hK hP 0 rfl rfl 4 (by decide) k_16 (fun _ h9 => h9) rfl dX9_layRead_10 ?_
        refine lv_iload_n hx hb dX9_layRead_13 rfl (lv_at hl 1 rfl) ?_
        refine lv_aload_n hx hb dX9_layRead_14 rfl (lv_at hl 0 rfl) ?_
        refine va_get (D := D) (ci := 8) (v := .ref q_read) (C := RX9) (T := TX9) (N := 13) hx hb hts i_X9 hown hK hP 0 rfl rfl 3 (by decide) k_13 (fun _ h9 => h9) rfl dX9_layRead_15 ?_
        refine lv_iload_n hx hb dX9_layRead_18 rfl (lv_at hl 1 rfl) ?_
        obtain ⟨hi_5, h⟩ := ck_el h
        refine va_iald hx hb hK hP 1 0 rfl rfl hi_5 dX9_layRead_19 ?_
        refine lv_nmi h (fun w_6 h => ?_)
        obtain ⟨hi_7, h⟩ := ck_el h
        refine va_iast hx hb hK hP hD hS 2 0 rfl rfl hi_7 dX9_layRead_20 (fun H locs hP hD hS => ?_)
        have hP : va_P D vwCl [(q_this, .inr (8, [.ref q_text, .int v_size, .int v_at, .ref q_read, .ref q_l, .ref q_stands, .ref q_kept, .int v_keptMany, .ref q_one, .ref q_two, .ref q_ways, .ref q_now, .ref q_then])), (q_read, .inl (ca 0, 336, .inl v_read)), (q_l, .inl (ca 0, 336, .inl (upd y_l_2 x1_1.toNatClampNeg w_6)))] H := hP
        have hD : va_D A [(q_this, .inr (8, [.ref q_text, .int v_size, .int v_at, .ref q_read, .ref q_l, .ref q_stands, .ref q_kept, .int v_keptMany, .ref q_one, .ref q_two, .ref q_ways, .ref q_now, .ref q_then])), (q_read, .inl (ca 0, 336, .inl v_read)), (q_l, .inl (ca 0, 336, .inl (upd y_l_2 x1_1.toNatClampNeg w_6)))] := hD
        obtain ⟨x1_8, e_9, h⟩ := nm_el h
        refine lv_iinc (v := x1_8) (lv' := [(1, .int x1_8), (0, .ref q_this)]) hx hb dX9_layRead_21 hl (k := 1) rfl (by rw [← e_9]; rfl) (by decide) rfl (fun ls hl => ?_)
        refine lv_goto (tgt := 2) hx hb dX9_layRead_24 (by decide) ?_
        exact ih _ _ _ _ _ _ h hex hP hD hS (lv_sub hl [1, 0] rfl)
  exact hlp F (nI 0) v_l o_3 s.heap [] ls hL hex hP hD hS (lv_sub hl [1, 0] rfl)
def D_X9_byteAt (v_size : Int32) (v_at : Int32) (v_text : Nat → Int32) : Option (Int32) := (if v_size ≤ v_at then some ((-1 : Int32)) else ck 500 v_at (some ((v_text v_at.toNatClampNeg))))
abbrev rm_X9_byteAt : Room := { frames := 0, cells := 0, slots := 0, locals := 0 }
set_option maxHeartbeats 4000000 in
set_option maxRecDepth 100000 in
theorem c_X9_byteAt (l : Launch) (D : va_G) (ca : Nat → ClassId) (sz : Nat) (q_this q_text q_read q_l q_stands q_kept q_one q_two q_ways q_now q_then : Nat) (v_size : Int32) (v_at : Int32) (v_keptMany : Int32) (v_text : Nat → Int32) (r : Int32) (h : D_X9_byteAt v_size v_at v_text = some (r)) : Met l yX9_byteAt wsX9_byteAt rm_X9_byteAt (va_Pc [.ref q_this] (kPre D ca [(q_this, .inr (8, [.ref q_text, .int v_size, .int v_at, .ref q_read, .ref q_l, .ref q_stands, .ref q_kept, .int v_keptMany, .ref q_one, .ref q_two, .ref q_ways, .ref q_now, .ref q_then])), (q_text, .inl (ca 0, 500, .inl v_text))] sz)) (kQi D ca (va_A [(q_this, .inr (8, [.ref q_text, .int v_size, .int v_at, .ref q_read, .ref q_l, .ref q_stands, .ref q_kept, .int v_keptMany, .ref q_one, .ref q_two, .ref q_ways, .ref q_now, .ref q_then])), (q_text, .inl (ca 0, 500, .inl v_text))] sz) [(q_this, .inr (8, [.ref q_text, .int v_size, .int v_at, .ref q_read, .ref q_l, .ref q_stands, .ref q_kept, .int v_keptMany, .ref q_one, .ref q_two, .ref q_ways, .ref q_now, .ref q_then])), (q_text, .inl (ca 0, 500, .inl v_text))] r) 0 0 (va_A [(q_this, .inr (8, [.ref q_text, .int v_size, .int v_at, .ref q_read, .ref q_l, .ref q_stands, .ref q_kept, .int v_keptMany, .ref q_one, .ref q_two, .ref q_ways, .ref q_now, .ref q_then])), (q_text, .inl (ca 0, 500, .inl v_text))] sz) := by
  refine Met.ofW (cc := cX9_byteAt) (maxL := 1) (ret := (some .int)) (by decide +kernel) rfl ?_
  intro p e s m args below meth c s₁ B hml hv
  obtain ⟨rfl, hsz, hP, hK, hD0⟩ := hv
  have hx := B.exec
  have hb := B.bytes
  have hr := B.returns
  have hts := atoms_spec (ws := wsX9_byteAt) B.pre
  have hown : s.vm.findClass RX9 = some m.cls := findClass_of_methodNamed B.named
  have hlocks := B.notSynchronized
  clear B
  subst hsz
  have hD := hD0.self (sz := s.heap.size)
  generalize hAe : va_A [(q_this, .inr (8, [.ref q_text, .int v_size, .int v_at, .ref q_read, .ref q_l, .ref q_stands, .ref q_kept, .int v_keptMany, .ref q_one, .ref q_two, .ref q_ways, .ref q_now, .ref q_then])), (q_text, .inl (ca 0, 500, .inl v_text))] s.heap.size = A at hD ⊢
  have hA : ∀ q : Nat, s.heap.size ≤ q → A q := fun q h => by rw [← hAe]; exact Or.inr h
  have hS : va_S A s.heap s.heap [] := va_S.rf
  have hl := lv_entry ([.ref q_this]) (n := 1) (Nat.le_of_ble_eq_true rfl)
  rw [lg_entry_eq]
  generalize (lg_sl ([.ref q_this]) ++ List.replicate (1 - (lg_sl ([.ref q_this])).length) Slot.unset).toArray = ls at hl ⊢
  have hl : lv_has ls 1 [(0, .ref q_this)] := hl
  generalize ([.ref q_this] : List Value).toArray = args at hts ⊢
  generalize hQe : MQ below (kQi D ca (A) [(q_this, .inr (8, [.ref q_text, .int v_size, .int v_at, .ref q_read, .ref q_l, .ref q_stands, .ref q_kept, .int v_keptMany, .ref q_one, .ref q_two, .ref q_ways, .ref q_now, .ref q_then])), (q_text, .inl (ca 0, 500, .inl v_text))] r) args s 0 0 A = Q
  have i_X9 : ∀ w ∈ u_ws RX9 TX9 13, w ∈ wsX9_byteAt := by decide +kernel
  have k_60 := hts (.fieldLink RX9 60 "TradeWordsModel" "at" "I") (by decide +kernel)
  have k_53 := hts (.fieldLink RX9 53 "TradeWordsModel" "size" "I") (by decide +kernel)
  have k_7 := hts (.fieldLink RX9 7 "TradeWordsModel" "text" "[I") (by decide +kernel)
  rw [D_X9_byteAt] at h
  refine lv_aload_n hx hb dX9_byteAt_0 rfl (lv_at hl 0 rfl) ?_
  refine va_get (D := D) (ci := 8) (v := .int v_at) (C := RX9) (T := TX9) (N := 13) hx hb hts i_X9 hown hK hP 0 rfl rfl 2 (by decide) k_60 (fun _ h9 => h9) rfl dX9_byteAt_1 ?_
  refine lv_aload_n hx hb dX9_byteAt_4 rfl (lv_at hl 0 rfl) ?_
  refine va_get (D := D) (ci := 8) (v := .int v_size) (C := RX9) (T := TX9) (N := 13) hx hb hts i_X9 hown hK hP 0 rfl rfl 1 (by decide) k_53 (fun _ h9 => h9) rfl dX9_byteAt_5 ?_
  refine lv_icmp_ge (tgt := 23) hx hb dX9_byteAt_8 (by decide) (fun c_1 => ?_) (fun c_1 => ?_)
  · replace h := ifp_el c_1 h
    refine lv_iconst (v := (-1 : Int32)) hx hb dX9_byteAt_23 (by decide) ?_
    cases h
    rw [← hQe]
    exact W.iret hx hb hr (fun t ht hW => ⟨⟨_, (), rfl, rfl, by rw [ht]; exact hP, va_K.moved hW.alike hK, hD⟩, hS.F ht⟩) hS.2.2 dX9_byteAt_24
  · replace h := ifn_el c_1 h
    refine lv_aload_n hx hb dX9_byteAt_11 rfl (lv_at hl 0 rfl) ?_
    refine va_get (D := D) (ci := 8) (v := .ref q_text) (C := RX9) (T := TX9) (N := 13) hx hb hts i_X9 hown hK hP 0 rfl rfl 0 (by decide) k_7 (fun _ h9 => h9) rfl dX9_byteAt_12 ?_
    refine lv_aload_n hx hb dX9_byteAt_15 rfl (lv_at hl 0 rfl) ?_
    refine va_get (D := D) (ci := 8) (v := .int v_at) (C := RX9) (T := TX9) (N := 13) hx hb hts i_X9 hown hK hP 0 rfl rfl 2 (by decide) k_60 (fun _ h9 => h9) rfl dX9_byteAt_16 ?_
    obtain ⟨hi_2, h⟩ := ck_el h
    refine va_iald hx hb hK hP 1 0 rfl rfl hi_2 dX9_byteAt_19 ?_
    refine lv_goto (tgt := 24) hx hb dX9_byteAt_20 (by decide) ?_
    cases h
    rw [← hQe]
    exact W.iret hx hb hr (fun t ht hW => ⟨⟨_, (), rfl, rfl, by rw [ht]; exact hP, va_K.moved hW.alike hK, hD⟩, hS.F ht⟩) hS.2.2 dX9_byteAt_24
def j_X9_takes_13 (v_at : Int32) (z0_3 : Int32) : Option (Int32 × Int32) := (if z0_3 = 0 then nm (v_at + (nI 0)) (fun w_5 => cz z0_3 (some (z0_3, w_5))) else nm (v_at + (nI 1)) (fun w_6 => cz z0_3 (some (z0_3, w_6))))
def D_X9_takes (p1 : Int32) (v_size : Int32) (v_at : Int32) (v_text : Nat → Int32) : Option (Int32 × Int32) := bd1 (D_X9_byteAt v_size v_at v_text) (fun r_1 => (if r_1 = p1 then j_X9_takes_13 v_at (nI 1) else j_X9_takes_13 v_at (nI 0)))
abbrev rm_X9_takes : Room := { frames := 1, cells := 0, slots := 0, locals := 20 }
set_option maxHeartbeats 4000000 in
set_option maxRecDepth 100000 in
theorem c_X9_takes (l : Launch) (D : va_G) (ca : Nat → ClassId) (sz : Nat) (q_this q_text q_read q_l q_stands q_kept q_one q_two q_ways q_now q_then : Nat) (p1 : Int32) (v_size : Int32) (v_at : Int32) (v_keptMany : Int32) (v_text : Nat → Int32) (r : Int32) (o_at : Int32) (h : D_X9_takes p1 v_size v_at v_text = some (r, o_at)) : Met l yX9_takes wsX9_takes rm_X9_takes (va_Pc [.ref q_this, .int p1] (kPre D ca [(q_this, .inr (8, [.ref q_text, .int v_size, .int v_at, .ref q_read, .ref q_l, .ref q_stands, .ref q_kept, .int v_keptMany, .ref q_one, .ref q_two, .ref q_ways, .ref q_now, .ref q_then])), (q_text, .inl (ca 0, 500, .inl v_text))] sz)) (kQi D ca (va_A [(q_this, .inr (8, [.ref q_text, .int v_size, .int v_at, .ref q_read, .ref q_l, .ref q_stands, .ref q_kept, .int v_keptMany, .ref q_one, .ref q_two, .ref q_ways, .ref q_now, .ref q_then])), (q_text, .inl (ca 0, 500, .inl v_text))] sz) [(q_this, .inr (8, [.ref q_text, .int v_size, .int o_at, .ref q_read, .ref q_l, .ref q_stands, .ref q_kept, .int v_keptMany, .ref q_one, .ref q_two, .ref q_ways, .ref q_now, .ref q_then])), (q_text, .inl (ca 0, 500, .inl v_text))] r) 0 0 (va_A [(q_this, .inr (8, [.ref q_text, .int v_size, .int v_at, .ref q_read, .ref q_l, .ref q_stands, .ref q_kept, .int v_keptMany, .ref q_one, .ref q_two, .ref q_ways, .ref q_now, .ref q_then])), (q_text, .inl (ca 0, 500, .inl v_text))] sz) := by
  refine Met.ofW (cc := cX9_takes) (maxL := 3) (ret := (some .boolean)) (by decide +kernel) rfl ?_
  intro p e s m args below meth c s₁ B hml hv
  obtain ⟨rfl, hsz, hP, hK, hD0⟩ := hv
  have hx := B.exec
  have hb := B.bytes
  have hr := B.returns
  have hts := atoms_spec (ws := wsX9_takes) B.pre
  have hown : s.vm.findClass RX9 = some m.cls := findClass_of_methodNamed B.named
  have hlocks := B.notSynchronized
  clear B
  subst hsz
  have hD := hD0.self (sz := s.heap.size)
  generalize hAe : va_A [(q_this, .inr (8, [.ref q_text, .int v_size, .int v_at, .ref q_read, .ref q_l, .ref q_stands, .ref q_kept, .int v_keptMany, .ref q_one, .ref q_two, .ref q_ways, .ref q_now, .ref q_then])), (q_text, .inl (ca 0, 500, .inl v_text))] s.heap.size = A at hD ⊢
  have hA : ∀ q : Nat, s.heap.size ≤ q → A q := fun q h => by rw [← hAe]; exact Or.inr h
  have hS : va_S A s.heap s.heap [] := va_S.rf
  have hl := lv_entry ([.ref q_this, .int p1]) (n := 3) (Nat.le_of_ble_eq_true rfl)
  rw [lg_entry_eq]
  generalize (lg_sl ([.ref q_this, .int p1]) ++ List.replicate (3 - (lg_sl ([.ref q_this, .int p1])).length) Slot.unset).toArray = ls at hl ⊢
  have hl : lv_has ls 3 [(0, .ref q_this), (1, .int p1)] := hl
  generalize ([.ref q_this, .int p1] : List Value).toArray = args at hts ⊢
  generalize hQe : MQ below (kQi D ca (A) [(q_this, .inr (8, [.ref q_text, .int v_size, .int o_at, .ref q_read, .ref q_l, .ref q_stands, .ref q_kept, .int v_keptMany, .ref q_one, .ref q_two, .ref q_ways, .ref q_now, .ref q_then])), (q_text, .inl (ca 0, 500, .inl v_text))] r) args s 0 0 A = Q
  have i_X9 : ∀ w ∈ u_ws RX9 TX9 13, w ∈ wsX9_takes := by decide +kernel
  have k_60 := hts (.fieldLink RX9 60 "TradeWordsModel" "at" "I") (by decide +kernel)
  rw [D_X9_takes] at h
  refine lv_aload_n hx hb dX9_takes_0 rfl (lv_at hl 0 rfl) ?_
  obtain ⟨r_1, hg_2, h⟩ := bd1_el h
  refine kx_Vi (As := []) (rest := []) (wr := []) (w1 := [(q_this, .inr (8, [.ref q_text, .int v_size, .int v_at, .ref q_read, .ref q_l, .ref q_stands, .ref q_kept, .int v_keptMany, .ref q_one, .ref q_two, .ref q_ways, .ref q_now, .ref q_then])), (q_text, .inl (ca 0, 500, .inl v_text))]) (wn := [(q_this, .inr (8, [.ref q_text, .int v_size, .int v_at, .ref q_read, .ref q_l, .ref q_stands, .ref q_kept, .int v_keptMany, .ref q_one, .ref q_two, .ref q_ways, .ref q_now, .ref q_then])), (q_text, .inl (ca 0, 500, .inl v_text))]) ⟨hx, hb, hml, hown, hts⟩ (c_X9_byteAt l D ca s.heap.size q_this q_text q_read q_l q_stands q_kept q_one q_two q_ways q_now q_then v_size v_at v_keptMany v_text r_1 hg_2) (cwV 0 hts gX9_takes_X9_byteAt rfl rfl rfl (by decide +kernel) ⟨(Nat.le_of_ble_eq_true rfl), (Nat.le_of_ble_eq_true rfl)⟩) hK hP hD hS hA (ci := 8) (q0 := 0) rfl rfl [0, 1] [] [0, 1] rfl rfl rfl rfl (by decide) rfl rfl rfl hl.1 rfl (Nat.le_of_ble_eq_true rfl) dX9_takes_1 ⟨Nat.zero_le _, Nat.zero_le _⟩ (fun H locs hP hD hS => ?_)
  refine lv_iload_n hx hb dX9_takes_4 rfl (lv_at hl 1 rfl) ?_
  have hj_13 : ∀ (z0_3 : Int32) (H : Heap) (locs : List Loc) (ls : Array Slot), j_X9_takes_13 v_at z0_3 = some (r, o_at) → va_P D vwCl [(q_this, .inr (8, [.ref q_text, .int v_size, .int v_at, .ref q_read, .ref q_l, .ref q_stands, .ref q_kept, .int v_keptMany, .ref q_one, .ref q_two, .ref q_ways, .ref q_now, .ref q_then])), (q_text, .inl (ca 0, 500, .inl v_text))] H → va_D A [(q_this, .inr (8, [.ref q_text, .int v_size, .int v_at, .ref q_read, .ref q_l, .ref q_stands, .ref q_kept, .int v_keptMany, .ref q_one, .ref q_two, .ref q_ways, .ref q_now, .ref q_then])), (q_text, .inl (ca 0, 500, .inl v_text))] → va_S A s.heap H locs → lv_has ls 3 [(0, .ref q_this)] → W p l e (headSpec wsX9_takes rm_X9_takes).room s m args below meth c H locs 0 0 Q (F0 m 13 ls [.int z0_3]) := by
    intro z0_3 H locs ls h hP hD hS hl
    rw [j_X9_takes_13] at h
    refine lv_istore_n (lv' := [(2, .int z0_3), (0, .ref q_this)]) hx hb dX9_takes_13 rfl hl (by decide) rfl (fun ls hl => ?_)
    refine lv_aload_n hx hb dX9_takes_14 rfl (lv_at hl 1 rfl) ?_
    refine lv_dup hx hb dX9_takes_15 rfl ?_
    refine va_get (D := D) (ci := 8) (v := .int v_at) (C := RX9) (T := TX9) (N := 13) hx hb hts i_X9 hown hK hP 0 rfl rfl 2 (by decide) k_60 (fun _ h9 => h9) rfl dX9_takes_16 ?_
    refine lv_iload_n hx hb dX9_takes_19 rfl (lv_at hl 0 rfl) ?_
    refine lv_if_eq (tgt := 27) hx hb dX9_takes_20 (by decide) (fun c_4 => ?_) (fun c_4 => ?_)
    · replace h := ifp_el c_4 h
      refine lv_iconst (v := (nI 0)) hx hb dX9_takes_27 (by decide) ?_
      refine lv_iadd hx hb dX9_takes_28 ?_
      refine lv_nmi h (fun w_5 h => ?_)
      refine va_put (D := D) (ci := 8) (v := .int w_5) (ty := .int) (C := RX9) (T := TX9) (N := 13) hx hb hts i_X9 tyX9 tyX9_ok nmX9 hown hK hP hD hS 0 rfl rfl 2 (by decide) k_60 (fun _ h9 => h9) rfl (by decide +kernel) rfl rfl (Nat.le_of_ble_eq_true rfl) dX9_takes_29 (fun H locs hP hD hS => ?_)
      have hP : va_P D vwCl [(q_this, .inr (8, [.ref q_text, .int v_size, .int w_5, .ref q_read, .ref q_l, .ref q_stands, .ref q_kept, .int v_keptMany, .ref q_one, .ref q_two, .ref q_ways, .ref q_now, .ref q_then])), (q_text, .inl (ca 0, 500, .inl v_text))] H := hP
      have hD : va_D A [(q_this, .inr (8, [.ref q_text, .int v_size, .int w_5, .ref q_read, .ref q_l, .ref q_stands, .ref q_kept, .int v_keptMany, .ref q_one, .ref q_two, .ref q_ways, .ref q_now, .ref q_then])), (q_text, .inl (ca 0, 500, .inl v_text))] := hD
      refine lv_iload_n hx hb dX9_takes_32 rfl (lv_at hl 0 rfl) ?_
      obtain ⟨hz, h⟩ := cz_el h
      cases h
      rw [← hQe]
      exact W.zret hx hb hr hz (fun t ht hW => ⟨⟨_, (), rfl, rfl, by rw [ht]; exact hP, va_K.moved hW.alike hK, hD⟩, hS.F ht⟩) hS.2.2 dX9_takes_33
    · replace h := ifn_el c_4 h
      refine lv_iconst (v := (nI 1)) hx hb dX9_takes_23 (by decide) ?_
      refine lv_goto (tgt := 28) hx hb dX9_takes_24 (by decide) ?_
      refine lv_iadd hx hb dX9_takes_28 ?_
      refine lv_nmi h (fun w_6 h => ?_)
      refine va_put (D := D) (ci := 8) (v := .int w_6) (ty := .int) (C := RX9) (T := TX9) (N := 13) hx hb hts i_X9 tyX9 tyX9_ok nmX9 hown hK hP hD hS 0 rfl rfl 2 (by decide) k_60 (fun _ h9 => h9) rfl (by decide +kernel) rfl rfl (Nat.le_of_ble_eq_true rfl) dX9_takes_29 (fun H locs hP hD hS => ?_)
      have hP : va_P D vwCl [(q_this, .inr (8, [.ref q_text, .int v_size, .int w_6, .ref q_read, .ref q_l, .ref q_stands, .ref q_kept, .int v_keptMany, .ref q_one, .ref q_two, .ref q_ways, .ref q_now, .ref q_then])), (q_text, .inl (ca 0, 500, .inl v_text))] H := hP
      have hD : va_D A [(q_this, .inr (8, [.ref q_text, .int v_size, .int w_6, .ref q_read, .ref q_l, .ref q_stands, .ref q_kept, .int v_keptMany, .ref q_one, .ref q_two, .ref q_ways, .ref q_now, .ref q_then])), (q_text, .inl (ca 0, 500, .inl v_text))] := hD
      refine lv_iload_n hx hb dX9_takes_32 rfl (lv_at hl 0 rfl) ?_
      obtain ⟨hz, h⟩ := cz_el h
      cases h
      rw [← hQe]
      exact W.zret hx hb hr hz (fun t ht hW => ⟨⟨_, (), rfl, rfl, by rw [ht]; exact hP, va_K.moved hW.alike hK, hD⟩, hS.F ht⟩) hS.2.2 dX9_takes_33
  refine lv_icmp_ne (tgt := 12) hx hb dX9_takes_5 (by decide) (fun c_7 => ?_) (fun c_7 => ?_)
  · replace h := ifn_el c_7 h
    refine lv_iconst (v := (nI 0)) hx hb dX9_takes_12 (by decide) ?_
    exact hj_13 _ _ _ _ h hP hD hS (lv_sub hl [0] rfl)
  · replace h := ifp_el c_7 h
    refine lv_iconst (v := (nI 1)) hx hb dX9_takes_8 (by decide) ?_
    refine lv_goto (tgt := 13) hx hb dX9_takes_9 (by decide) ?_
    exact hj_13 _ _ _ _ h hP hD hS (lv_sub hl [0] rfl)
def b_X9_number_5 (v_size : Int32) (v_text : Nat → Int32) (rec5 : Int32 → Int32 → Int32 → Option (Int32 × Int32 × Int32)) (x3_1 : Int32) (x4_2 : Int32) (y_at_3 : Int32) : Option (Int32 × Int32 × Int32) := (if (nI 2) ≤ x4_2 then some (x3_1, x4_2, y_at_3) else bd1 (D_X9_byteAt v_size y_at_3 v_text) (fun r_8 => bd1 (D_X9_in r_8.toInt64 (lN 48) (lN 57)) (fun r_10 => (if r_10 = 0 then some (x3_1, x4_2, y_at_3) else bd1 (D_X9_byteAt v_size y_at_3 v_text) (fun r_13 => nm ((((nI 10) * x3_1) + r_13) - (nI 48)) (fun x3_15 => nm (y_at_3 + (nI 1)) (fun w_16 => nm (x4_2 + (nI 1)) (fun x4_17 => rec5 x3_15 x4_17 w_16))))))))
def D_X9_number (F : Nat) (p1 : Int32) (p2 : Int32) (v_size : Int32) (v_at : Int32) (v_text : Nat → Int32) : Option (Int32 × Int32) := bd3 (lpg (T := Int32 → Int32 → Int32 → Option (Int32 × Int32 × Int32)) (fun _ _ _ => none) (b_X9_number_5 v_size v_text) F (nI 0) (nI 0) v_at) (fun o_4 o_5 o_6 => (if o_5 ≤ 0 then some ((-1 : Int32), o_6) else bd1 (D_X9_in o_4.toInt64 p1.toInt64 p2.toInt64) (fun r_20 => (if r_20 = 0 then some ((-1 : Int32), o_6) else some (o_4, o_6)))))
abbrev rm_X9_number : Room := { frames := 1, cells := 0, slots := 0, locals := 25 }
set_option maxHeartbeats 4000000 in
set_option maxRecDepth 100000 in
theorem c_X9_number (l : Launch) (D : va_G) (ca : Nat → ClassId) (F : Nat) (sz : Nat) (q_this q_text q_read q_l q_stands q_kept q_one q_two q_ways q_now q_then : Nat) (p1 : Int32) (p2 : Int32) (v_size : Int32) (v_at : Int32) (v_keptMany : Int32) (v_text : Nat → Int32) (r : Int32) (o_at : Int32) (h : D_X9_number F p1 p2 v_size v_at v_text = some (r, o_at)) : Met l yX9_number wsX9_number rm_X9_number (va_Pc [.ref q_this, .int p1, .int p2] (kPre D ca [(q_this, .inr (8, [.ref q_text, .int v_size, .int v_at, .ref q_read, .ref q_l, .ref q_stands, .ref q_kept, .int v_keptMany, .ref q_one, .ref q_two, .ref q_ways, .ref q_now, .ref q_then])), (q_text, .inl (ca 0, 500, .inl v_text))] sz)) (kQi D ca (va_A [(q_this, .inr (8, [.ref q_text, .int v_size, .int v_at, .ref q_read, .ref q_l, .ref q_stands, .ref q_kept, .int v_keptMany, .ref q_one, .ref q_two, .ref q_ways, .ref q_now, .ref q_then])), (q_text, .inl (ca 0, 500, .inl v_text))] sz) [(q_this, .inr (8, [.ref q_text, .int v_size, .int o_at, .ref q_read, .ref q_l, .ref q_stands, .ref q_kept, .int v_keptMany, .ref q_one, .ref q_two, .ref q_ways, .ref q_now, .ref q_then])), (q_text, .inl (ca 0, 500, .inl v_text))] r) 0 0 (va_A [(q_this, .inr (8, [.ref q_text, .int v_size, .int v_at, .ref q_read, .ref q_l, .ref q_stands, .ref q_kept, .int v_keptMany, .ref q_one, .ref q_two, .ref q_ways, .ref q_now, .ref q_then])), (q_text, .inl (ca 0, 500, .inl v_text))] sz) := by
  refine Met.ofW (cc := cX9_number) (maxL := 5) (ret := (some .int)) (by decide +kernel) rfl ?_
  intro p e s m args below meth c s₁ B hml hv
  obtain ⟨rfl, hsz, hP, hK, hD0⟩ := hv
  have hx := B.exec
  have hb := B.bytes
  have hr := B.returns
  have hts := atoms_spec (ws := wsX9_number) B.pre
  have hown : s.vm.findClass RX9 = some m.cls := findClass_of_methodNamed B.named
  have hlocks := B.notSynchronized
  clear B
  subst hsz
  have hD := hD0.self (sz := s.heap.size)
  generalize hAe : va_A [(q_this, .inr (8, [.ref q_text, .int v_size, .int v_at, .ref q_read, .ref q_l, .ref q_stands, .ref q_kept, .int v_keptMany, .ref q_one, .ref q_two, .ref q_ways, .ref q_now, .ref q_then])), (q_text, .inl (ca 0, 500, .inl v_text))] s.heap.size = A at hD ⊢
  have hA : ∀ q : Nat, s.heap.size ≤ q → A q := fun q h => by rw [← hAe]; exact Or.inr h
  have hS : va_S A s.heap s.heap [] := va_S.rf
  have hl := lv_entry ([.ref q_this, .int p1, .int p2]) (n := 5) (Nat.le_of_ble_eq_true rfl)
  rw [lg_entry_eq]
  generalize (lg_sl ([.ref q_this, .int p1, .int p2]) ++ List.replicate (5 - (lg_sl ([.ref q_this, .int p1, .int p2])).length) Slot.unset).toArray = ls at hl ⊢
  have hl : lv_has ls 5 [(0, .ref q_this), (1, .int p1), (2, .int p2)] := hl
  generalize ([.ref q_this, .int p1, .int p2] : List Value).toArray = args at hts ⊢
  generalize hQe : MQ below (kQi D ca (A) [(q_this, .inr (8, [.ref q_text, .int v_size, .int o_at, .ref q_read, .ref q_l, .ref q_stands, .ref q_kept, .int v_keptMany, .ref q_one, .ref q_two, .ref q_ways, .ref q_now, .ref q_then])), (q_text, .inl (ca 0, 500, .inl v_text))] r) args s 0 0 A = Q
  have k_67 := hts (.constantLong RX9 67 (lN 48)) (by decide +kernel)
  have k_69 := hts (.constantLong RX9 69 (lN 57)) (by decide +kernel)
  have i_X9 : ∀ w ∈ u_ws RX9 TX9 13, w ∈ wsX9_number := by decide +kernel
  have k_60 := hts (.fieldLink RX9 60 "TradeWordsModel" "at" "I") (by decide +kernel)
  rw [D_X9_number] at h
  refine lv_iconst (v := (nI 0)) hx hb dX9_number_0 (by decide) ?_
  refine lv_istore_n (lv' := [(3, .int (nI 0)), (0, .ref q_this), (1, .int p1), (2, .int p2)]) hx hb dX9_number_1 rfl hl (by decide) rfl (fun ls hl => ?_)
  refine lv_iconst (v := (nI 0)) hx hb dX9_number_2 (by decide) ?_
  refine lv_istore (lv' := [(4, .int (nI 0)), (3, .int (nI 0)), (0, .ref q_this), (1, .int p1), (2, .int p2)]) hx hb dX9_number_3 hl (by decide) rfl (fun ls hl => ?_)
  obtain ⟨o_4, o_5, o_6, hL, h⟩ := bd3_el h
  have hex : ∀ (H : Heap) (locs : List Loc) (ls : Array Slot), va_P D vwCl [(q_this, .inr (8, [.ref q_text, .int v_size, .int o_6, .ref q_read, .ref q_l, .ref q_stands, .ref q_kept, .int v_keptMany, .ref q_one, .ref q_two, .ref q_ways, .ref q_now, .ref q_then])), (q_text, .inl (ca 0, 500, .inl v_text))] H → va_D A [(q_this, .inr (8, [.ref q_text, .int v_size, .int o_6, .ref q_read, .ref q_l, .ref q_stands, .ref q_kept, .int v_keptMany, .ref q_one, .ref q_two, .ref q_ways, .ref q_now, .ref q_then])), (q_text, .inl (ca 0, 500, .inl v_text))] → va_S A s.heap H locs → lv_has ls 5 [(1, .int p1), (2, .int p2), (3, .int o_4), (4, .int o_5)] → W p l e (headSpec wsX9_number rm_X9_number).room s m args below meth c H locs 0 0 Q (F0 m 57 ls []) := by
    intro H locs ls hP hD hS hl
    refine lv_iload hx hb dX9_number_57 (lv_at hl 3 rfl) ?_
    refine lv_if_le (tgt := 78) hx hb dX9_number_59 (by decide) (fun c_19 => ?_) (fun c_19 => ?_)
    · replace h := ifp_el c_19 h
      refine lv_iconst (v := (-1 : Int32)) hx hb dX9_number_78 (by decide) ?_
      cases h
      rw [← hQe]
      exact W.iret hx hb hr (fun t ht hW => ⟨⟨_, (), rfl, rfl, by rw [ht]; exact hP, va_K.moved hW.alike hK, hD⟩, hS.F ht⟩) hS.2.2 dX9_number_79
    · replace h := ifn_el c_19 h
      refine lv_iload_n hx hb dX9_number_62 rfl (lv_at hl 2 rfl) ?_
      refine lv_i2l hx hb dX9_number_63 rfl ?_
      refine lv_iload_n hx hb dX9_number_64 rfl (lv_at hl 0 rfl) ?_
      refine lv_i2l hx hb dX9_number_65 rfl ?_
      refine lv_iload_n hx hb dX9_number_66 rfl (lv_at hl 1 rfl) ?_
      refine lv_i2l hx hb dX9_number_67 rfl ?_
      obtain ⟨r_20, hg_21, h⟩ := bd1_el h
      refine kx_Si (As := [.long o_4.toInt64, .long p1.toInt64, .long p2.toInt64]) (rest := []) (wr := [(q_this, .inr (8, [.ref q_text, .int v_size, .int o_6, .ref q_read, .ref q_l, .ref q_stands, .ref q_kept, .int v_keptMany, .ref q_one, .ref q_two, .ref q_ways, .ref q_now, .ref q_then])), (q_text, .inl (ca 0, 500, .inl v_text))]) (w1 := []) (wn := [(q_this, .inr (8, [.ref q_text, .int v_size, .int o_6, .ref q_read, .ref q_l, .ref q_stands, .ref q_kept, .int v_keptMany, .ref q_one, .ref q_two, .ref q_ways, .ref q_now, .ref q_then])), (q_text, .inl (ca 0, 500, .inl v_text))]) ⟨hx, hb, hml, hown, hts⟩ (c_X9_in l D ca H.size o_4.toInt64 p1.toInt64 p2.toInt64 r_20 hg_21) (va_cwS 3 hts gX9_number_X9_in rfl rfl rfl (by decide +kernel) ⟨(Nat.le_of_ble_eq_true rfl), (Nat.le_of_ble_eq_true rfl)⟩) hK hP hD hS hA [] [0, 1] [0, 1] rfl rfl rfl rfl (by decide) rfl rfl rfl hl.1 rfl (Nat.le_of_ble_eq_true rfl) dX9_number_68 ⟨Nat.zero_le _, Nat.zero_le _⟩ (fun H locs hP hD hS => ?_)
      refine lv_if_eq (tgt := 78) hx hb dX9_number_71 (by decide) (fun c_22 => ?_) (fun c_22 => ?_)
      · replace h := ifp_el c_22 h
        refine lv_iconst (v := (-1 : Int32)) hx hb dX9_number_78 (by decide) ?_
        cases h
        rw [← hQe]
        exact W.iret hx hb hr (fun t ht hW => ⟨⟨_, (), rfl, rfl, by rw [ht]; exact hP, va_K.moved hW.alike hK, hD⟩, hS.F ht⟩) hS.2.2 dX9_number_79
      · replace h := ifn_el c_22 h
        refine lv_iload_n hx hb dX9_number_74 rfl (lv_at hl 2 rfl) ?_
        refine lv_goto (tgt := 79) hx hb dX9_number_75 (by decide) ?_
        cases h
        rw [← hQe]
        exact W.iret hx hb hr (fun t ht hW => ⟨⟨_, (), rfl, rfl, by rw [ht]; exact hP, va_K.moved hW.alike hK, hD⟩, hS.F ht⟩) hS.2.2 dX9_number_79
  have hlp : ∀ (n : Nat) (x3_1 : Int32) (x4_2 : Int32) (y_at_3 : Int32) (o_4 : Int32) (o_5 : Int32) (o_6 : Int32) (H : Heap) (locs : List Loc) (ls : Array Slot), lpg (T := Int32 → Int32 → Int32 → Option (Int32 × Int32 × Int32)) (fun _ _ _ => none) (b_X9_number_5 v_size v_text) n x3_1 x4_2 y_at_3 = some (o_4, o_5, o_6) → (∀ (H : Heap) (locs : List Loc) (ls : Array Slot), va_P D vwCl [(q_this, .inr (8, [.ref q_text, .int v_size, .int o_6, .ref q_read, .ref q_l, .ref q_stands, .ref q_kept, .int v_keptMany, .ref q_one, .ref q_two, .ref q_ways, .ref q_now, .ref q_then])), (q_text, .inl (ca 0, 500, .inl v_text))] H → va_D A [(q_this, .inr (8, [.ref q_text, .int v_size, .int o_6, .ref q_read, .ref q_l, .ref q_stands, .ref q_kept, .int v_keptMany, .ref q_one, .ref q_two, .ref q_ways, .ref q_now, .ref q_then])), (q_text, .inl (ca 0, 500, .inl v_text))] → va_S A s.heap H locs → lv_has ls 5 [(1, .int p1), (2, .int p2), (3, .int o_4), (4, .int o_5)] → W p l e (headSpec wsX9_number rm_X9_number).room s m args below meth c H locs 0 0 Q (F0 m 57 ls [])) → va_P D vwCl [(q_this, .inr (8, [.ref q_text, .int v_size, .int y_at_3, .ref q_read, .ref q_l, .ref q_stands, .ref q_kept, .int v_keptMany, .ref q_one, .ref q_two, .ref q_ways, .ref q_now, .ref q_then])), (q_text, .inl (ca 0, 500, .inl v_text))] H → va_D A [(q_this, .inr (8, [.ref q_text, .int v_size, .int y_at_3, .ref q_read, .ref q_l, .ref q_stands, .ref q_kept, .int v_keptMany, .ref q_one, .ref q_two, .ref q_ways, .ref q_now, .ref q_then])), (q_text, .inl (ca 0, 500, .inl v_text))] → va_S A s.heap H locs → lv_has ls 5 [(0, .ref q_this), (1, .int p1), (2, .int p2), (3, .int x3_1), (4, .int x4_2)] → W p l e (headSpec wsX9_number rm_X9_number).room s m args below meth c H locs 0 0 Q (F0 m 5 ls []) := by
    intro n
    induction n with
    | zero => intro x3_1 x4_2 y_at_3 o_4 o_5 o_6 H locs ls h; have h : (none : Option (Int32 × Int32 × Int32)) = some _ := h; cases h
    | succ n ih =>
      intro x3_1 x4_2 y_at_3 o_4 o_5 o_6 H locs ls h hex hP hD hS hl
      rw [lpg_succ, b_X9_number_5] at h
      refine lv_iload hx hb dX9_number_5 (lv_at hl 4 rfl) ?_
      refine lv_iconst (v := (nI 2)) hx hb dX9_number_7 (by decide) ?_
      refine lv_icmp_ge (tgt := 57) hx hb dX9_number_8 (by decide) (fun c_7 => ?_) (fun c_7 => ?_)
      · replace h := ifp_el c_7 h
        cases h
        exact hex _ _ _ hP hD hS (lv_sub hl [1, 2, 3, 4] rfl)
      · replace h := ifn_el c_7 h
        refine lv_aload_n hx hb dX9_number_11 rfl (lv_at hl 0 rfl) ?_
        obtain ⟨r_8, hg_9, h⟩ := bd1_el h
        refine kx_Vi (As := []) (rest := []) (wr := []) (w1 := [(q_this, .inr (8, [.ref q_text, .int v_size, .int y_at_3, .ref q_read, .ref q_l, .ref q_stands, .ref q_kept, .int v_keptMany, .ref q_one, .ref q_two, .ref q_ways, .ref q_now, .ref q_then])), (q_text, .inl (ca 0, 500, .inl v_text))]) (wn := [(q_this, .inr (8, [.ref q_text, .int v_size, .int y_at_3, .ref q_read, .ref q_l, .ref q_stands, .ref q_kept, .int v_keptMany, .ref q_one, .ref q_two, .ref q_ways, .ref q_now, .ref q_then])), (q_text, .inl (ca 0, 500, .inl v_text))]) ⟨hx, hb, hml, hown, hts⟩ (c_X9_byteAt l D ca H.size q_this q_text q_read q_l q_stands q_kept q_one q_two q_ways q_now q_then v_size y_at_3 v_keptMany v_text r_8 hg_9) (cwV 0 hts gX9_number_X9_byteAt rfl rfl rfl (by decide +kernel) ⟨(Nat.le_of_ble_eq_true rfl), (Nat.le_of_ble_eq_true rfl)⟩) hK hP hD hS hA (ci := 8) (q0 := 0) rfl rfl [0, 1] [] [0, 1] rfl rfl rfl rfl (by decide) rfl rfl rfl hl.1 rfl (Nat.le_of_ble_eq_true rfl) dX9_number_12 ⟨Nat.zero_le _, Nat.zero_le _⟩ (fun H locs hP hD hS => ?_)
        refine lv_i2l hx hb dX9_number_15 rfl ?_
        refine lv_ldc2 hx hb hown k_67 dX9_number_16 ?_
        refine lv_ldc2 hx hb hown k_69 dX9_number_19 ?_
        obtain ⟨r_10, hg_11, h⟩ := bd1_el h
        refine kx_Si (As := [.long r_8.toInt64, .long (lN 48), .long (lN 57)]) (rest := []) (wr := [(q_this, .inr (8, [.ref q_text, .int v_size, .int y_at_3, .ref q_read, .ref q_l, .ref q_stands, .ref q_kept, .int v_keptMany, .ref q_one, .ref q_two, .ref q_ways, .ref q_now, .ref q_then])), (q_text, .inl (ca 0, 500, .inl v_text))]) (w1 := []) (wn := [(q_this, .inr (8, [.ref q_text, .int v_size, .int y_at_3, .ref q_read, .ref q_l, .ref q_stands, .ref q_kept, .int v_keptMany, .ref q_one, .ref q_two, .ref q_ways, .ref q_now, .ref q_then])), (q_text, .inl (ca 0, 500, .inl v_text))]) ⟨hx, hb, hml, hown, hts⟩ (c_X9_in l D ca H.size r_8.toInt64 (lN 48) (lN 57) r_10 hg_11) (va_cwS 3 hts gX9_number_X9_in rfl rfl rfl (by decide +kernel) ⟨(Nat.le_of_ble_eq_true rfl), (Nat.le_of_ble_eq_true rfl)⟩) hK hP hD hS hA [] [0, 1] [0, 1] rfl rfl rfl rfl (by decide) rfl rfl rfl hl.1 rfl (Nat.le_of_ble_eq_true rfl) dX9_number_22 ⟨Nat.zero_le _, Nat.zero_le _⟩ (fun H locs hP hD hS => ?_)
        refine lv_if_eq (tgt := 57) hx hb dX9_number_25 (by decide) (fun c_12 => ?_) (fun c_12 => ?_)
        · replace h := ifp_el c_12 h
          cases h
          exact hex _ _ _ hP hD hS (lv_sub hl [1, 2, 3, 4] rfl)
        · replace h := ifn_el c_12 h
          refine lv_bipush (v := (nI 10)) hx hb dX9_number_28 (by decide) ?_
          refine lv_iload_n hx hb dX9_number_30 rfl (lv_at hl 3 rfl) ?_
          refine lv_imul hx hb dX9_number_31 ?_
          refine lv_aload_n hx hb dX9_number_32 rfl (lv_at hl 0 rfl) ?_
          obtain ⟨r_13, hg_14, h⟩ := bd1_el h
          refine kx_Vi (As := []) (rest := [.int ((nI 10) * x3_1)]) (wr := []) (w1 := [(q_this, .inr (8, [.ref q_text, .int v_size, .int y_at_3, .ref q_read, .ref q_l, .ref q_stands, .ref q_kept, .int v_keptMany, .ref q_one, .ref q_two, .ref q_ways, .ref q_now, .ref q_then])), (q_text, .inl (ca 0, 500, .inl v_text))]) (wn := [(q_this, .inr (8, [.ref q_text, .int v_size, .int y_at_3, .ref q_read, .ref q_l, .ref q_stands, .ref q_kept, .int v_keptMany, .ref q_one, .ref q_two, .ref q_ways, .ref q_now, .ref q_then])), (q_text, .inl (ca 0, 500, .inl v_text))]) ⟨hx, hb, hml, hown, hts⟩ (c_X9_byteAt l D ca H.size q_this q_text q_read q_l q_stands q_kept q_one q_two q_ways q_now q_then v_size y_at_3 v_keptMany v_text r_13 hg_14) (cwV 0 hts gX9_number_X9_byteAt rfl rfl rfl (by decide +kernel) ⟨(Nat.le_of_ble_eq_true rfl), (Nat.le_of_ble_eq_true rfl)⟩) hK hP hD hS hA (ci := 8) (q0 := 0) rfl rfl [0, 1] [] [0, 1] rfl rfl rfl rfl (by decide) rfl rfl rfl hl.1 rfl (Nat.le_of_ble_eq_true rfl) dX9_number_33 ⟨Nat.zero_le _, Nat.zero_le _⟩ (fun H locs hP hD hS => ?_)
          refine lv_iadd hx hb dX9_number_36 ?_
          refine lv_bipush (v := (nI 48)) hx hb dX9_number_37 (by decide) ?_
          refine lv_isub hx hb dX9_number_39 ?_
          refine lv_nmi h (fun x3_15 h => ?_)
          refine lv_istore_n (lv' := [(3, .int x3_15), (0, .ref q_this), (1, .int p1), (2, .int p2), (4, .int x4_2)]) hx hb dX9_number_40 rfl hl (by decide) rfl (fun ls hl => ?_)
          refine lv_aload_n hx hb dX9_number_41 rfl (lv_at hl 1 rfl) ?_
          refine lv_dup hx hb dX9_number_42 rfl ?_
          refine va_get (D := D) (ci := 8) (v := .int y_at_3) (C := RX9) (T := TX9) (N := 13) hx hb hts i_X9 hown hK hP 0 rfl rfl 2 (by decide) k_60 (fun _ h9 => h9) rfl dX9_number_43 ?_
          refine lv_iconst (v := (nI 1)) hx hb dX9_number_46 (by decide) ?_
          refine lv_iadd hx hb dX9_number_47 ?_
          refine lv_nmi h (fun w_16 h => ?_)
          refine va_put (D := D) (ci := 8) (v := .int w_16) (ty := .int) (C := RX9) (T := TX9) (N := 13) hx hb hts i_X9 tyX9 tyX9_ok nmX9 hown hK hP hD hS 0 rfl rfl 2 (by decide) k_60 (fun _ h9 => h9) rfl (by decide +kernel) rfl rfl (Nat.le_of_ble_eq_true rfl) dX9_number_48 (fun H locs hP hD hS => ?_)
          have hP : va_P D vwCl [(q_this, .inr (8, [.ref q_text, .int v_size, .int w_16, .ref q_read, .ref q_l, .ref q_stands, .ref q_kept, .int v_keptMany, .ref q_one, .ref q_two, .ref q_ways, .ref q_now, .ref q_then])), (q_text, .inl (ca 0, 500, .inl v_text))] H := hP
          have hD : va_D A [(q_this, .inr (8, [.ref q_text, .int v_size, .int w_16, .ref q_read, .ref q_l, .ref q_stands, .ref q_kept, .int v_keptMany, .ref q_one, .ref q_two, .ref q_ways, .ref q_now, .ref q_then])), (q_text, .inl (ca 0, 500, .inl v_text))] := hD
          obtain ⟨x4_17, e_18, h⟩ := nm_el h
          refine lv_iinc (v := x4_17) (lv' := [(4, .int x4_17), (3, .int x3_15), (0, .ref q_this), (1, .int p1), (2, .int p2)]) hx hb dX9_number_51 hl (k := 4) rfl (by rw [← e_18]; rfl) (by decide) rfl (fun ls hl => ?_)
          refine lv_goto (tgt := 5) hx hb dX9_number_54 (by decide) ?_
          exact ih _ _ _ _ _ _ _ _ _ h hex hP hD hS (lv_sub hl [2, 3, 4, 1, 0] rfl)
  exact hlp F (nI 0) (nI 0) v_at o_4 o_5 o_6 s.heap [] ls hL hex hP hD hS (lv_sub hl [2, 3, 4, 1, 0] rfl)
def D_X9_sound (v_size : Int32) (v_at : Int32) (v_text : Nat → Int32) : Option (Int32 × Int32) := bd1 (D_X9_byteAt v_size v_at v_text) (fun r_1 => nm (r_1 - (nI 97)) (fun x1_3 => bd1 (D_X9_in x1_3.toInt64 (lN 0) (lN 15)) (fun r_4 => (if r_4 = 0 then some ((-1 : Int32), v_at) else nm (v_at + (nI 1)) (fun w_7 => some (x1_3, w_7))))))
abbrev rm_X9_sound : Room := { frames := 1, cells := 0, slots := 0, locals := 25 }
set_option maxHeartbeats 4000000 in
set_option maxRecDepth 100000 in
theorem c_X9_sound (l : Launch) (D : va_G) (ca : Nat → ClassId) (sz : Nat) (q_this q_text q_read q_l q_stands q_kept q_one q_two q_ways q_now q_then : Nat) (v_size : Int32) (v_at : Int32) (v_keptMany : Int32) (v_text : Nat → Int32) (r : Int32) (o_at : Int32) (h : D_X9_sound v_size v_at v_text = some (r, o_at)) : Met l yX9_sound wsX9_sound rm_X9_sound (va_Pc [.ref q_this] (kPre D ca [(q_this, .inr (8, [.ref q_text, .int v_size, .int v_at, .ref q_read, .ref q_l, .ref q_stands, .ref q_kept, .int v_keptMany, .ref q_one, .ref q_two, .ref q_ways, .ref q_now, .ref q_then])), (q_text, .inl (ca 0, 500, .inl v_text))] sz)) (kQi D ca (va_A [(q_this, .inr (8, [.ref q_text, .int v_size, .int v_at, .ref q_read, .ref q_l, .ref q_stands, .ref q_kept, .int v_keptMany, .ref q_one, .ref q_two, .ref q_ways, .ref q_now, .ref q_then])), (q_text, .inl (ca 0, 500, .inl v_text))] sz) [(q_this, .inr (8, [.ref q_text, .int v_size, .int o_at, .ref q_read, .ref q_l, .ref q_stands, .ref q_kept, .int v_keptMany, .ref q_one, .ref q_two, .ref q_ways, .ref q_now, .ref q_then])), (q_text, .inl (ca 0, 500, .inl v_text))] r) 0 0 (va_A [(q_this, .inr (8, [.ref q_text, .int v_size, .int v_at, .ref q_read, .ref q_l, .ref q_stands, .ref q_kept, .int v_keptMany, .ref q_one, .ref q_two, .ref q_ways, .ref q_now, .ref q_then])), (q_text, .inl (ca 0, 500, .inl v_text))] sz) := by
  refine Met.ofW (cc := cX9_sound) (maxL := 2) (ret := (some .int)) (by decide +kernel) rfl ?_
  intro p e s m args below meth c s₁ B hml hv
  obtain ⟨rfl, hsz, hP, hK, hD0⟩ := hv
  have hx := B.exec
  have hb := B.bytes
  have hr := B.returns
  have hts := atoms_spec (ws := wsX9_sound) B.pre
  have hown : s.vm.findClass RX9 = some m.cls := findClass_of_methodNamed B.named
  have hlocks := B.notSynchronized
  clear B
  subst hsz
  have hD := hD0.self (sz := s.heap.size)
  generalize hAe : va_A [(q_this, .inr (8, [.ref q_text, .int v_size, .int v_at, .ref q_read, .ref q_l, .ref q_stands, .ref q_kept, .int v_keptMany, .ref q_one, .ref q_two, .ref q_ways, .ref q_now, .ref q_then])), (q_text, .inl (ca 0, 500, .inl v_text))] s.heap.size = A at hD ⊢
  have hA : ∀ q : Nat, s.heap.size ≤ q → A q := fun q h => by rw [← hAe]; exact Or.inr h
  have hS : va_S A s.heap s.heap [] := va_S.rf
  have hl := lv_entry ([.ref q_this]) (n := 2) (Nat.le_of_ble_eq_true rfl)
  rw [lg_entry_eq]
  generalize (lg_sl ([.ref q_this]) ++ List.replicate (2 - (lg_sl ([.ref q_this])).length) Slot.unset).toArray = ls at hl ⊢
  have hl : lv_has ls 2 [(0, .ref q_this)] := hl
  generalize ([.ref q_this] : List Value).toArray = args at hts ⊢
  generalize hQe : MQ below (kQi D ca (A) [(q_this, .inr (8, [.ref q_text, .int v_size, .int o_at, .ref q_read, .ref q_l, .ref q_stands, .ref q_kept, .int v_keptMany, .ref q_one, .ref q_two, .ref q_ways, .ref q_now, .ref q_then])), (q_text, .inl (ca 0, 500, .inl v_text))] r) args s 0 0 A = Q
  have k_71 := hts (.constantLong RX9 71 (lN 15)) (by decide +kernel)
  have i_X9 : ∀ w ∈ u_ws RX9 TX9 13, w ∈ wsX9_sound := by decide +kernel
  have k_60 := hts (.fieldLink RX9 60 "TradeWordsModel" "at" "I") (by decide +kernel)
  rw [D_X9_sound] at h
  refine lv_aload_n hx hb dX9_sound_0 rfl (lv_at hl 0 rfl) ?_
  obtain ⟨r_1, hg_2, h⟩ := bd1_el h
  refine kx_Vi (As := []) (rest := []) (wr := []) (w1 := [(q_this, .inr (8, [.ref q_text, .int v_size, .int v_at, .ref q_read, .ref q_l, .ref q_stands, .ref q_kept, .int v_keptMany, .ref q_one, .ref q_two, .ref q_ways, .ref q_now, .ref q_then])), (q_text, .inl (ca 0, 500, .inl v_text))]) (wn := [(q_this, .inr (8, [.ref q_text, .int v_size, .int v_at, .ref q_read, .ref q_l, .ref q_stands, .ref q_kept, .int v_keptMany, .ref q_one, .ref q_two, .ref q_ways, .ref q_now, .ref q_then])), (q_text, .inl (ca 0, 500, .inl v_text))]) ⟨hx, hb, hml, hown, hts⟩ (c_X9_byteAt l D ca s.heap.size q_this q_text q_read q_l q_stands q_kept q_one q_two q_ways q_now q_then v_size v_at v_keptMany v_text r_1 hg_2) (cwV 0 hts gX9_sound_X9_byteAt rfl rfl rfl (by decide +kernel) ⟨(Nat.le_of_ble_eq_true rfl), (Nat.le_of_ble_eq_true rfl)⟩) hK hP hD hS hA (ci := 8) (q0 := 0) rfl rfl [0, 1] [] [0, 1] rfl rfl rfl rfl (by decide) rfl rfl rfl hl.1 rfl (Nat.le_of_ble_eq_true rfl) dX9_sound_1 ⟨Nat.zero_le _, Nat.zero_le _⟩ (fun H locs hP hD hS => ?_)
  refine lv_bipush (v := (nI 97)) hx hb dX9_sound_4 (by decide) ?_
  refine lv_isub hx hb dX9_sound_6 ?_
  refine lv_nmi h (fun x1_3 h => ?_)
  refine lv_istore_n (lv' := [(1, .int x1_3), (0, .ref q_this)]) hx hb dX9_sound_7 rfl hl (by decide) rfl (fun ls hl => ?_)
  refine lv_iload_n hx hb dX9_sound_8 rfl (lv_at hl 0 rfl) ?_
  refine lv_i2l hx hb dX9_sound_9 rfl ?_
  refine lv_lconst (v := (lN 0)) hx hb dX9_sound_10 (by decide) ?_
  refine lv_ldc2 hx hb hown k_71 dX9_sound_11 ?_
  obtain ⟨r_4, hg_5, h⟩ := bd1_el h
  refine kx_Si (As := [.long x1_3.toInt64, .long (lN 0), .long (lN 15)]) (rest := []) (wr := [(q_this, .inr (8, [.ref q_text, .int v_size, .int v_at, .ref q_read, .ref q_l, .ref q_stands, .ref q_kept, .int v_keptMany, .ref q_one, .ref q_two, .ref q_ways, .ref q_now, .ref q_then])), (q_text, .inl (ca 0, 500, .inl v_text))]) (w1 := []) (wn := [(q_this, .inr (8, [.ref q_text, .int v_size, .int v_at, .ref q_read, .ref q_l, .ref q_stands, .ref q_kept, .int v_keptMany, .ref q_one, .ref q_two, .ref q_ways, .ref q_now, .ref q_then])), (q_text, .inl (ca 0, 500, .inl v_text))]) ⟨hx, hb, hml, hown, hts⟩ (c_X9_in l D ca H.size x1_3.toInt64 (lN 0) (lN 15) r_4 hg_5) (va_cwS 3 hts gX9_sound_X9_in rfl rfl rfl (by decide +kernel) ⟨(Nat.le_of_ble_eq_true rfl), (Nat.le_of_ble_eq_true rfl)⟩) hK hP hD hS hA [] [0, 1] [0, 1] rfl rfl rfl rfl (by decide) rfl rfl rfl hl.1 rfl (Nat.le_of_ble_eq_true rfl) dX9_sound_14 ⟨Nat.zero_le _, Nat.zero_le _⟩ (fun H locs hP hD hS => ?_)
  refine lv_if_ne (tgt := 22) hx hb dX9_sound_17 (by decide) (fun c_6 => ?_) (fun c_6 => ?_)
  · replace h := ifn_el c_6 h
    refine lv_aload_n hx hb dX9_sound_22 rfl (lv_at hl 1 rfl) ?_
    refine lv_dup hx hb dX9_sound_23 rfl ?_
    refine va_get (D := D) (ci := 8) (v := .int v_at) (C := RX9) (T := TX9) (N := 13) hx hb hts i_X9 hown hK hP 0 rfl rfl 2 (by decide) k_60 (fun _ h9 => h9) rfl dX9_sound_24 ?_
    refine lv_iconst (v := (nI 1)) hx hb dX9_sound_27 (by decide) ?_
    refine lv_iadd hx hb dX9_sound_28 ?_
    refine lv_nmi h (fun w_7 h => ?_)
    refine va_put (D := D) (ci := 8) (v := .int w_7) (ty := .int) (C := RX9) (T := TX9) (N := 13) hx hb hts i_X9 tyX9 tyX9_ok nmX9 hown hK hP hD hS 0 rfl rfl 2 (by decide) k_60 (fun _ h9 => h9) rfl (by decide +kernel) rfl rfl (Nat.le_of_ble_eq_true rfl) dX9_sound_29 (fun H locs hP hD hS => ?_)
    have hP : va_P D vwCl [(q_this, .inr (8, [.ref q_text, .int v_size, .int w_7, .ref q_read, .ref q_l, .ref q_stands, .ref q_kept, .int v_keptMany, .ref q_one, .ref q_two, .ref q_ways, .ref q_now, .ref q_then])), (q_text, .inl (ca 0, 500, .inl v_text))] H := hP
    have hD : va_D A [(q_this, .inr (8, [.ref q_text, .int v_size, .int w_7, .ref q_read, .ref q_l, .ref q_stands, .ref q_kept, .int v_keptMany, .ref q_one, .ref q_two, .ref q_ways, .ref q_now, .ref q_then])), (q_text, .inl (ca 0, 500, .inl v_text))] := hD
    refine lv_iload_n hx hb dX9_sound_32 rfl (lv_at hl 0 rfl) ?_
    cases h
    rw [← hQe]
    exact W.iret hx hb hr (fun t ht hW => ⟨⟨_, (), rfl, rfl, by rw [ht]; exact hP, va_K.moved hW.alike hK, hD⟩, hS.F ht⟩) hS.2.2 dX9_sound_33
  · replace h := ifp_el c_6 h
    refine lv_iconst (v := (-1 : Int32)) hx hb dX9_sound_20 (by decide) ?_
    cases h
    rw [← hQe]
    exact W.iret hx hb hr (fun t ht hW => ⟨⟨_, (), rfl, rfl, by rw [ht]; exact hP, va_K.moved hW.alike hK, hD⟩, hS.F ht⟩) hS.2.2 dX9_sound_21
