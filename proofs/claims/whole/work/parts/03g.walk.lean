def D_X9_from (F : Nat) (p1 : Int32) (p2 : Int32) (v_measure_row : Nat → Int32) (v_laid_alikeFrom : Int32) (v_laid_words : Nat → Int32) (v_laid_heard : Nat → Int32) : Option (Int32 × (Nat → Int32)) := bd1 (D_X9_isEar p1) (fun r_1 => (if r_1 = 0 then some ((-1 : Int32), v_measure_row) else bd1 (D_X9_isMeaning p2) (fun r_4 => (if r_4 = 0 then some ((-1 : Int32), v_measure_row) else bd1 (D_X0_heardBy p1 p2 v_laid_heard) (fun r_7 => (if r_7 = 0 then some ((-2 : Int32), v_measure_row) else bd1 (D_X0_wordOf (nI 0) p2 v_laid_words) (fun r_10 => bd2 (D_X9_likeOfWordThere F r_7 r_10 v_measure_row) (fun r_12 y_measure_row_13 => bd1 (D_X0_wordOf (nI 1) p2 v_laid_words) (fun r_15 => bd2 (D_X9_likeOfWordThere F r_7 r_15 y_measure_row_13) (fun r_17 y_measure_row_18 => bd1 (D_X0_alikeFrom v_laid_alikeFrom) (fun r_20 => (if r_20 ≤ (if r_12 < r_17 then r_17 else r_12) then (if r_12 < r_17 then some ((nI 1), y_measure_row_18) else some ((nI 0), y_measure_row_18)) else some ((-4 : Int32), y_measure_row_18)))))))))))))
abbrev rm_X9_from : Room := { frames := 4, cells := 0, slots := 0, locals := 93 }
set_option maxHeartbeats 4000000 in
set_option maxRecDepth 100000 in
theorem c_X9_from (l : Launch) (D : va_G) (ca : Nat → ClassId) (F : Nat) (sz : Nat) (q_this q_text q_item q_stands q_crowd q_measure q_measure_row q_laid q_laid_words q_laid_heard q_laid_canSay q_laid_instead q_laid_traders q_laid_takes q_laid_needs q_tried : Nat) (p1 : Int32) (p2 : Int32) (v_measure_row : Nat → Int32) (v_laid_speaks : Int32) (v_laid_alikeFrom : Int32) (v_laid_words : Nat → Int32) (v_laid_heard : Nat → Int32) (r : Int32) (o_measure_row : Nat → Int32) (h : D_X9_from F p1 p2 v_measure_row v_laid_alikeFrom v_laid_words v_laid_heard = some (r, o_measure_row)) : Met l yX9_from wsX9_from rm_X9_from (va_Pc [.ref q_this, .int p1, .int p2] (kPre D ca [(q_this, .inr (7, [.ref q_text, .ref q_item, .ref q_stands, .ref q_crowd, .ref q_measure, .ref q_laid, .ref q_tried])), (q_measure, .inr (3, [.ref q_measure_row])), (q_measure_row, .inl (ca 0, 7, .inl v_measure_row)), (q_laid, .inr (0, [.ref q_laid_words, .ref q_laid_heard, .ref q_laid_canSay, .ref q_laid_instead, .ref q_laid_traders, .ref q_laid_takes, .ref q_laid_needs, .int v_laid_speaks, .int v_laid_alikeFrom])), (q_laid_words, .inl (ca 0, 16, .inl v_laid_words)), (q_laid_heard, .inl (ca 0, 24, .inl v_laid_heard))] sz)) (kQi D ca (va_A [(q_this, .inr (7, [.ref q_text, .ref q_item, .ref q_stands, .ref q_crowd, .ref q_measure, .ref q_laid, .ref q_tried])), (q_measure, .inr (3, [.ref q_measure_row])), (q_measure_row, .inl (ca 0, 7, .inl v_measure_row)), (q_laid, .inr (0, [.ref q_laid_words, .ref q_laid_heard, .ref q_laid_canSay, .ref q_laid_instead, .ref q_laid_traders, .ref q_laid_takes, .ref q_laid_needs, .int v_laid_speaks, .int v_laid_alikeFrom])), (q_laid_words, .inl (ca 0, 16, .inl v_laid_words)), (q_laid_heard, .inl (ca 0, 24, .inl v_laid_heard))] sz) [(q_this, .inr (7, [.ref q_text, .ref q_item, .ref q_stands, .ref q_crowd, .ref q_measure, .ref q_laid, .ref q_tried])), (q_measure, .inr (3, [.ref q_measure_row])), (q_measure_row, .inl (ca 0, 7, .inl o_measure_row)), (q_laid, .inr (0, [.ref q_laid_words, .ref q_laid_heard, .ref q_laid_canSay, .ref q_laid_instead, .ref q_laid_traders, .ref q_laid_takes, .ref q_laid_needs, .int v_laid_speaks, .int v_laid_alikeFrom])), (q_laid_words, .inl (ca 0, 16, .inl v_laid_words)), (q_laid_heard, .inl (ca 0, 24, .inl v_laid_heard))] r) 0 0 (va_A [(q_this, .inr (7, [.ref q_text, .ref q_item, .ref q_stands, .ref q_crowd, .ref q_measure, .ref q_laid, .ref q_tried])), (q_measure, .inr (3, [.ref q_measure_row])), (q_measure_row, .inl (ca 0, 7, .inl v_measure_row)), (q_laid, .inr (0, [.ref q_laid_words, .ref q_laid_heard, .ref q_laid_canSay, .ref q_laid_instead, .ref q_laid_traders, .ref q_laid_takes, .ref q_laid_needs, .int v_laid_speaks, .int v_laid_alikeFrom])), (q_laid_words, .inl (ca 0, 16, .inl v_laid_words)), (q_laid_heard, .inl (ca 0, 24, .inl v_laid_heard))] sz) := by
  refine Met.ofW (cc := cX9_from) (maxL := 6) (ret := (some .int)) (by decide +kernel) rfl ?_
  intro p e s m args below meth c s₁ B hml hv
  obtain ⟨rfl, hsz, hP, hK, hD0⟩ := hv
  have hx := B.exec
  have hb := B.bytes
  have hr := B.returns
  have hts := atoms_spec (ws := wsX9_from) B.pre
  have hown : s.vm.findClass RX9 = some m.cls := findClass_of_methodNamed B.named
  have hlocks := B.notSynchronized
  clear B
  subst hsz
  have hD := hD0.self (sz := s.heap.size)
  generalize hAe : va_A [(q_this, .inr (7, [.ref q_text, .ref q_item, .ref q_stands, .ref q_crowd, .ref q_measure, .ref q_laid, .ref q_tried])), (q_measure, .inr (3, [.ref q_measure_row])), (q_measure_row, .inl (ca 0, 7, .inl v_measure_row)), (q_laid, .inr (0, [.ref q_laid_words, .ref q_laid_heard, .ref q_laid_canSay, .ref q_laid_instead, .ref q_laid_traders, .ref q_laid_takes, .ref q_laid_needs, .int v_laid_speaks, .int v_laid_alikeFrom])), (q_laid_words, .inl (ca 0, 16, .inl v_laid_words)), (q_laid_heard, .inl (ca 0, 24, .inl v_laid_heard))] s.heap.size = A at hD ⊢
  have hA : ∀ q : Nat, s.heap.size ≤ q → A q := fun q h => by rw [← hAe]; exact Or.inr h
  have hS : va_S A s.heap s.heap [] := va_S.rf
  have hl := lv_entry ([.ref q_this, .int p1, .int p2]) (n := 6) (Nat.le_of_ble_eq_true rfl)
  rw [lg_entry_eq]
  generalize (lg_sl ([.ref q_this, .int p1, .int p2]) ++ List.replicate (6 - (lg_sl ([.ref q_this, .int p1, .int p2])).length) Slot.unset).toArray = ls at hl ⊢
  have hl : lv_has ls 6 [(0, .ref q_this), (1, .int p1), (2, .int p2)] := hl
  generalize ([.ref q_this, .int p1, .int p2] : List Value).toArray = args at hts ⊢
  generalize hQe : MQ below (kQi D ca (A) [(q_this, .inr (7, [.ref q_text, .ref q_item, .ref q_stands, .ref q_crowd, .ref q_measure, .ref q_laid, .ref q_tried])), (q_measure, .inr (3, [.ref q_measure_row])), (q_measure_row, .inl (ca 0, 7, .inl o_measure_row)), (q_laid, .inr (0, [.ref q_laid_words, .ref q_laid_heard, .ref q_laid_canSay, .ref q_laid_instead, .ref q_laid_traders, .ref q_laid_takes, .ref q_laid_needs, .int v_laid_speaks, .int v_laid_alikeFrom])), (q_laid_words, .inl (ca 0, 16, .inl v_laid_words)), (q_laid_heard, .inl (ca 0, 24, .inl v_laid_heard))] r) args s 0 0 A = Q
  have i_X9 : ∀ w ∈ u_ws RX9 TX9 7, w ∈ wsX9_from := by decide +kernel
  have k_49 := hts (.fieldLink RX9 49 "TradeWords" "laid" "LTradeWords$Beach;") (by decide +kernel)
  have k_191 := hts (.methodLink RX9 191 Lib.Math.max.name) (by decide +kernel)
  have ks_max := hts (.static Lib.Math.max.name) (by decide +kernel)
  have ki_math := hts (.initialized "java/lang/Math") (by decide +kernel)
  have kc_max := hts (.code Lib.Math.max.name Lib.Math.max.code 2 (some .int)) (by decide +kernel)
  rw [D_X9_from] at h
  refine lv_iload_n hx hb dX9_from_0 rfl (lv_at hl 1 rfl) ?_
  obtain ⟨r_1, hg_2, h⟩ := bd1_el h
  refine kx_Si (As := [.int p1]) (rest := []) (wr := [(q_this, .inr (7, [.ref q_text, .ref q_item, .ref q_stands, .ref q_crowd, .ref q_measure, .ref q_laid, .ref q_tried])), (q_measure, .inr (3, [.ref q_measure_row])), (q_measure_row, .inl (ca 0, 7, .inl v_measure_row)), (q_laid, .inr (0, [.ref q_laid_words, .ref q_laid_heard, .ref q_laid_canSay, .ref q_laid_instead, .ref q_laid_traders, .ref q_laid_takes, .ref q_laid_needs, .int v_laid_speaks, .int v_laid_alikeFrom])), (q_laid_words, .inl (ca 0, 16, .inl v_laid_words)), (q_laid_heard, .inl (ca 0, 24, .inl v_laid_heard))]) (w1 := []) (wn := [(q_this, .inr (7, [.ref q_text, .ref q_item, .ref q_stands, .ref q_crowd, .ref q_measure, .ref q_laid, .ref q_tried])), (q_measure, .inr (3, [.ref q_measure_row])), (q_measure_row, .inl (ca 0, 7, .inl v_measure_row)), (q_laid, .inr (0, [.ref q_laid_words, .ref q_laid_heard, .ref q_laid_canSay, .ref q_laid_instead, .ref q_laid_traders, .ref q_laid_takes, .ref q_laid_needs, .int v_laid_speaks, .int v_laid_alikeFrom])), (q_laid_words, .inl (ca 0, 16, .inl v_laid_words)), (q_laid_heard, .inl (ca 0, 24, .inl v_laid_heard))]) ⟨hx, hb, hml, hown, hts⟩ (c_X9_isEar l D ca s.heap.size p1 r_1 hg_2) (va_cwS 1 hts gX9_from_X9_isEar rfl rfl rfl (by decide +kernel) ⟨(Nat.le_of_ble_eq_true rfl), (Nat.le_of_ble_eq_true rfl)⟩) hK hP hD hS hA [] [0, 1, 2, 3, 4, 5] [0, 1, 2, 3, 4, 5] rfl rfl rfl rfl (by decide) rfl rfl rfl hl.1 rfl (Nat.le_of_ble_eq_true rfl) dX9_from_1 ⟨Nat.zero_le _, Nat.zero_le _⟩ (fun H locs hP hD hS => ?_)
  refine lv_if_eq (tgt := 14) hx hb dX9_from_4 (by decide) (fun c_3 => ?_) (fun c_3 => ?_)
  · replace h := ifp_el c_3 h
    refine lv_iconst (v := (-1 : Int32)) hx hb dX9_from_14 (by decide) ?_
    cases h
    rw [← hQe]
    exact W.iret hx hb hr (fun t ht hW => ⟨⟨_, (), rfl, rfl, by rw [ht]; exact hP, va_K.moved hW.alike hK, hD⟩, hS.F ht⟩) hS.2.2 dX9_from_15
  · replace h := ifn_el c_3 h
    refine lv_iload_n hx hb dX9_from_7 rfl (lv_at hl 2 rfl) ?_
    obtain ⟨r_4, hg_5, h⟩ := bd1_el h
    refine kx_Si (As := [.int p2]) (rest := []) (wr := [(q_this, .inr (7, [.ref q_text, .ref q_item, .ref q_stands, .ref q_crowd, .ref q_measure, .ref q_laid, .ref q_tried])), (q_measure, .inr (3, [.ref q_measure_row])), (q_measure_row, .inl (ca 0, 7, .inl v_measure_row)), (q_laid, .inr (0, [.ref q_laid_words, .ref q_laid_heard, .ref q_laid_canSay, .ref q_laid_instead, .ref q_laid_traders, .ref q_laid_takes, .ref q_laid_needs, .int v_laid_speaks, .int v_laid_alikeFrom])), (q_laid_words, .inl (ca 0, 16, .inl v_laid_words)), (q_laid_heard, .inl (ca 0, 24, .inl v_laid_heard))]) (w1 := []) (wn := [(q_this, .inr (7, [.ref q_text, .ref q_item, .ref q_stands, .ref q_crowd, .ref q_measure, .ref q_laid, .ref q_tried])), (q_measure, .inr (3, [.ref q_measure_row])), (q_measure_row, .inl (ca 0, 7, .inl v_measure_row)), (q_laid, .inr (0, [.ref q_laid_words, .ref q_laid_heard, .ref q_laid_canSay, .ref q_laid_instead, .ref q_laid_traders, .ref q_laid_takes, .ref q_laid_needs, .int v_laid_speaks, .int v_laid_alikeFrom])), (q_laid_words, .inl (ca 0, 16, .inl v_laid_words)), (q_laid_heard, .inl (ca 0, 24, .inl v_laid_heard))]) ⟨hx, hb, hml, hown, hts⟩ (c_X9_isMeaning l D ca H.size p2 r_4 hg_5) (va_cwS 1 hts gX9_from_X9_isMeaning rfl rfl rfl (by decide +kernel) ⟨(Nat.le_of_ble_eq_true rfl), (Nat.le_of_ble_eq_true rfl)⟩) hK hP hD hS hA [] [0, 1, 2, 3, 4, 5] [0, 1, 2, 3, 4, 5] rfl rfl rfl rfl (by decide) rfl rfl rfl hl.1 rfl (Nat.le_of_ble_eq_true rfl) dX9_from_8 ⟨Nat.zero_le _, Nat.zero_le _⟩ (fun H locs hP hD hS => ?_)
    refine lv_if_ne (tgt := 16) hx hb dX9_from_11 (by decide) (fun c_6 => ?_) (fun c_6 => ?_)
    · replace h := ifn_el c_6 h
      refine lv_aload_n hx hb dX9_from_16 rfl (lv_at hl 0 rfl) ?_
      refine va_get (D := D) (ci := 7) (v := .ref q_laid) (C := RX9) (T := TX9) (N := 7) hx hb hts i_X9 hown hK hP 0 rfl rfl 5 (by decide) k_49 (fun _ h9 => h9) rfl dX9_from_17 ?_
      refine lv_iload_n hx hb dX9_from_20 rfl (lv_at hl 1 rfl) ?_
      refine lv_iload_n hx hb dX9_from_21 rfl (lv_at hl 2 rfl) ?_
      obtain ⟨r_7, hg_8, h⟩ := bd1_el h
      refine kx_Vi (As := [.int p1, .int p2]) (rest := []) (wr := [(q_this, .inr (7, [.ref q_text, .ref q_item, .ref q_stands, .ref q_crowd, .ref q_measure, .ref q_laid, .ref q_tried])), (q_measure, .inr (3, [.ref q_measure_row])), (q_measure_row, .inl (ca 0, 7, .inl v_measure_row)), (q_laid_words, .inl (ca 0, 16, .inl v_laid_words))]) (w1 := [(q_laid, .inr (0, [.ref q_laid_words, .ref q_laid_heard, .ref q_laid_canSay, .ref q_laid_instead, .ref q_laid_traders, .ref q_laid_takes, .ref q_laid_needs, .int v_laid_speaks, .int v_laid_alikeFrom])), (q_laid_heard, .inl (ca 0, 24, .inl v_laid_heard))]) (wn := [(q_this, .inr (7, [.ref q_text, .ref q_item, .ref q_stands, .ref q_crowd, .ref q_measure, .ref q_laid, .ref q_tried])), (q_measure, .inr (3, [.ref q_measure_row])), (q_measure_row, .inl (ca 0, 7, .inl v_measure_row)), (q_laid, .inr (0, [.ref q_laid_words, .ref q_laid_heard, .ref q_laid_canSay, .ref q_laid_instead, .ref q_laid_traders, .ref q_laid_takes, .ref q_laid_needs, .int v_laid_speaks, .int v_laid_alikeFrom])), (q_laid_words, .inl (ca 0, 16, .inl v_laid_words)), (q_laid_heard, .inl (ca 0, 24, .inl v_laid_heard))]) ⟨hx, hb, hml, hown, hts⟩ (c_X0_heardBy l D ca H.size q_laid q_laid_words q_laid_heard q_laid_canSay q_laid_instead q_laid_traders q_laid_takes q_laid_needs p1 p2 v_laid_speaks v_laid_alikeFrom v_laid_heard r_7 hg_8) (cwV 2 hts gX9_from_X0_heardBy rfl rfl rfl (by decide +kernel) ⟨(Nat.le_of_ble_eq_true rfl), (Nat.le_of_ble_eq_true rfl)⟩) hK hP hD hS hA (ci := 0) (q0 := 0) rfl rfl [3, 5] [0, 1, 2, 4] [0, 1, 2, 4, 3, 5] rfl rfl rfl rfl (by decide) rfl rfl rfl hl.1 rfl (Nat.le_of_ble_eq_true rfl) dX9_from_22 ⟨Nat.zero_le _, Nat.zero_le _⟩ (fun H locs hP hD hS => ?_)
      refine lv_istore_n (lv' := [(3, .int r_7), (0, .ref q_this), (1, .int p1), (2, .int p2)]) hx hb dX9_from_25 rfl hl (by decide) rfl (fun ls hl => ?_)
      refine lv_iload_n hx hb dX9_from_26 rfl (lv_at hl 0 rfl) ?_
      refine lv_if_ne (tgt := 33) hx hb dX9_from_27 (by decide) (fun c_9 => ?_) (fun c_9 => ?_)
      · replace h := ifn_el c_9 h
        refine lv_aload_n hx hb dX9_from_33 rfl (lv_at hl 1 rfl) ?_
        refine lv_iload_n hx hb dX9_from_34 rfl (lv_at hl 0 rfl) ?_
        refine lv_aload_n hx hb dX9_from_35 rfl (lv_at hl 1 rfl) ?_
        refine va_get (D := D) (ci := 7) (v := .ref q_laid) (C := RX9) (T := TX9) (N := 7) hx hb hts i_X9 hown hK hP 0 rfl rfl 5 (by decide) k_49 (fun _ h9 => h9) rfl dX9_from_36 ?_
        refine lv_iconst (v := (nI 0)) hx hb dX9_from_39 (by decide) ?_
        refine lv_iload_n hx hb dX9_from_40 rfl (lv_at hl 3 rfl) ?_
        obtain ⟨r_10, hg_11, h⟩ := bd1_el h
        refine kx_Vi (As := [.int (nI 0), .int p2]) (rest := [.int r_7, .ref q_this]) (wr := [(q_this, .inr (7, [.ref q_text, .ref q_item, .ref q_stands, .ref q_crowd, .ref q_measure, .ref q_laid, .ref q_tried])), (q_measure, .inr (3, [.ref q_measure_row])), (q_measure_row, .inl (ca 0, 7, .inl v_measure_row)), (q_laid_heard, .inl (ca 0, 24, .inl v_laid_heard))]) (w1 := [(q_laid, .inr (0, [.ref q_laid_words, .ref q_laid_heard, .ref q_laid_canSay, .ref q_laid_instead, .ref q_laid_traders, .ref q_laid_takes, .ref q_laid_needs, .int v_laid_speaks, .int v_laid_alikeFrom])), (q_laid_words, .inl (ca 0, 16, .inl v_laid_words))]) (wn := [(q_this, .inr (7, [.ref q_text, .ref q_item, .ref q_stands, .ref q_crowd, .ref q_measure, .ref q_laid, .ref q_tried])), (q_measure, .inr (3, [.ref q_measure_row])), (q_measure_row, .inl (ca 0, 7, .inl v_measure_row)), (q_laid, .inr (0, [.ref q_laid_words, .ref q_laid_heard, .ref q_laid_canSay, .ref q_laid_instead, .ref q_laid_traders, .ref q_laid_takes, .ref q_laid_needs, .int v_laid_speaks, .int v_laid_alikeFrom])), (q_laid_words, .inl (ca 0, 16, .inl v_laid_words)), (q_laid_heard, .inl (ca 0, 24, .inl v_laid_heard))]) ⟨hx, hb, hml, hown, hts⟩ (c_X0_wordOf l D ca H.size q_laid q_laid_words q_laid_heard q_laid_canSay q_laid_instead q_laid_traders q_laid_takes q_laid_needs (nI 0) p2 v_laid_speaks v_laid_alikeFrom v_laid_words r_10 hg_11) (cwV 2 hts gX9_from_X0_wordOf rfl rfl rfl (by decide +kernel) ⟨(Nat.le_of_ble_eq_true rfl), (Nat.le_of_ble_eq_true rfl)⟩) hK hP hD hS hA (ci := 0) (q0 := 0) rfl rfl [3, 4] [0, 1, 2, 5] [0, 1, 2, 4, 5, 3] rfl rfl rfl rfl (by decide) rfl rfl rfl hl.1 rfl (Nat.le_of_ble_eq_true rfl) dX9_from_41 ⟨Nat.zero_le _, Nat.zero_le _⟩ (fun H locs hP hD hS => ?_)
        obtain ⟨r_12, y_measure_row_13, hg_14, h⟩ := bd2_el h
        refine kx_Vi (As := [.int r_7, .int r_10]) (rest := []) (wr := [(q_laid, .inr (0, [.ref q_laid_words, .ref q_laid_heard, .ref q_laid_canSay, .ref q_laid_instead, .ref q_laid_traders, .ref q_laid_takes, .ref q_laid_needs, .int v_laid_speaks, .int v_laid_alikeFrom])), (q_laid_words, .inl (ca 0, 16, .inl v_laid_words)), (q_laid_heard, .inl (ca 0, 24, .inl v_laid_heard))]) (w1 := [(q_this, .inr (7, [.ref q_text, .ref q_item, .ref q_stands, .ref q_crowd, .ref q_measure, .ref q_laid, .ref q_tried])), (q_measure, .inr (3, [.ref q_measure_row])), (q_measure_row, .inl (ca 0, 7, .inl y_measure_row_13))]) (wn := [(q_this, .inr (7, [.ref q_text, .ref q_item, .ref q_stands, .ref q_crowd, .ref q_measure, .ref q_laid, .ref q_tried])), (q_measure, .inr (3, [.ref q_measure_row])), (q_measure_row, .inl (ca 0, 7, .inl y_measure_row_13)), (q_laid, .inr (0, [.ref q_laid_words, .ref q_laid_heard, .ref q_laid_canSay, .ref q_laid_instead, .ref q_laid_traders, .ref q_laid_takes, .ref q_laid_needs, .int v_laid_speaks, .int v_laid_alikeFrom])), (q_laid_words, .inl (ca 0, 16, .inl v_laid_words)), (q_laid_heard, .inl (ca 0, 24, .inl v_laid_heard))]) ⟨hx, hb, hml, hown, hts⟩ (c_X9_likeOfWordThere l D ca F H.size q_this q_text q_item q_stands q_crowd q_measure q_measure_row q_laid q_tried r_7 r_10 v_measure_row r_12 y_measure_row_13 hg_14) (cwV 2 hts gX9_from_X9_likeOfWordThere rfl rfl rfl (by decide +kernel) ⟨(Nat.le_of_ble_eq_true rfl), (Nat.le_of_ble_eq_true rfl)⟩) hK hP hD hS hA (ci := 7) (q0 := 0) rfl rfl [0, 1, 2] [3, 4, 5] [3, 4, 5, 0, 1, 2] rfl rfl rfl rfl (by decide) rfl rfl rfl hl.1 rfl (Nat.le_of_ble_eq_true rfl) dX9_from_44 ⟨Nat.zero_le _, Nat.zero_le _⟩ (fun H locs hP hD hS => ?_)
        refine lv_istore (lv' := [(4, .int r_12), (3, .int r_7), (0, .ref q_this), (1, .int p1), (2, .int p2)]) hx hb dX9_from_47 hl (by decide) rfl (fun ls hl => ?_)
        refine lv_aload_n hx hb dX9_from_49 rfl (lv_at hl 2 rfl) ?_
        refine lv_iload_n hx hb dX9_from_50 rfl (lv_at hl 1 rfl) ?_
        refine lv_aload_n hx hb dX9_from_51 rfl (lv_at hl 2 rfl) ?_
        refine va_get (D := D) (ci := 7) (v := .ref q_laid) (C := RX9) (T := TX9) (N := 7) hx hb hts i_X9 hown hK hP 0 rfl rfl 5 (by decide) k_49 (fun _ h9 => h9) rfl dX9_from_52 ?_
        refine lv_iconst (v := (nI 1)) hx hb dX9_from_55 (by decide) ?_
        refine lv_iload_n hx hb dX9_from_56 rfl (lv_at hl 4 rfl) ?_
        obtain ⟨r_15, hg_16, h⟩ := bd1_el h
        refine kx_Vi (As := [.int (nI 1), .int p2]) (rest := [.int r_7, .ref q_this]) (wr := [(q_this, .inr (7, [.ref q_text, .ref q_item, .ref q_stands, .ref q_crowd, .ref q_measure, .ref q_laid, .ref q_tried])), (q_measure, .inr (3, [.ref q_measure_row])), (q_measure_row, .inl (ca 0, 7, .inl y_measure_row_13)), (q_laid_heard, .inl (ca 0, 24, .inl v_laid_heard))]) (w1 := [(q_laid, .inr (0, [.ref q_laid_words, .ref q_laid_heard, .ref q_laid_canSay, .ref q_laid_instead, .ref q_laid_traders, .ref q_laid_takes, .ref q_laid_needs, .int v_laid_speaks, .int v_laid_alikeFrom])), (q_laid_words, .inl (ca 0, 16, .inl v_laid_words))]) (wn := [(q_this, .inr (7, [.ref q_text, .ref q_item, .ref q_stands, .ref q_crowd, .ref q_measure, .ref q_laid, .ref q_tried])), (q_measure, .inr (3, [.ref q_measure_row])), (q_measure_row, .inl (ca 0, 7, .inl y_measure_row_13)), (q_laid, .inr (0, [.ref q_laid_words, .ref q_laid_heard, .ref q_laid_canSay, .ref q_laid_instead, .ref q_laid_traders, .ref q_laid_takes, .ref q_laid_needs, .int v_laid_speaks, .int v_laid_alikeFrom])), (q_laid_words, .inl (ca 0, 16, .inl v_laid_words)), (q_laid_heard, .inl (ca 0, 24, .inl v_laid_heard))]) ⟨hx, hb, hml, hown, hts⟩ (c_X0_wordOf l D ca H.size q_laid q_laid_words q_laid_heard q_laid_canSay q_laid_instead q_laid_traders q_laid_takes q_laid_needs (nI 1) p2 v_laid_speaks v_laid_alikeFrom v_laid_words r_15 hg_16) (cwV 2 hts gX9_from_X0_wordOf rfl rfl rfl (by decide +kernel) ⟨(Nat.le_of_ble_eq_true rfl), (Nat.le_of_ble_eq_true rfl)⟩) hK hP hD hS hA (ci := 0) (q0 := 0) rfl rfl [3, 4] [0, 1, 2, 5] [0, 1, 2, 4, 5, 3] rfl rfl rfl rfl (by decide) rfl rfl rfl hl.1 rfl (Nat.le_of_ble_eq_true rfl) dX9_from_57 ⟨Nat.zero_le _, Nat.zero_le _⟩ (fun H locs hP hD hS => ?_)
        obtain ⟨r_17, y_measure_row_18, hg_19, h⟩ := bd2_el h
        refine kx_Vi (As := [.int r_7, .int r_15]) (rest := []) (wr := [(q_laid, .inr (0, [.ref q_laid_words, .ref q_laid_heard, .ref q_laid_canSay, .ref q_laid_instead, .ref q_laid_traders, .ref q_laid_takes, .ref q_laid_needs, .int v_laid_speaks, .int v_laid_alikeFrom])), (q_laid_words, .inl (ca 0, 16, .inl v_laid_words)), (q_laid_heard, .inl (ca 0, 24, .inl v_laid_heard))]) (w1 := [(q_this, .inr (7, [.ref q_text, .ref q_item, .ref q_stands, .ref q_crowd, .ref q_measure, .ref q_laid, .ref q_tried])), (q_measure, .inr (3, [.ref q_measure_row])), (q_measure_row, .inl (ca 0, 7, .inl y_measure_row_18))]) (wn := [(q_this, .inr (7, [.ref q_text, .ref q_item, .ref q_stands, .ref q_crowd, .ref q_measure, .ref q_laid, .ref q_tried])), (q_measure, .inr (3, [.ref q_measure_row])), (q_measure_row, .inl (ca 0, 7, .inl y_measure_row_18)), (q_laid, .inr (0, [.ref q_laid_words, .ref q_laid_heard, .ref q_laid_canSay, .ref q_laid_instead, .ref q_laid_traders, .ref q_laid_takes, .ref q_laid_needs, .int v_laid_speaks, .int v_laid_alikeFrom])), (q_laid_words, .inl (ca 0, 16, .inl v_laid_words)), (q_laid_heard, .inl (ca 0, 24, .inl v_laid_heard))]) ⟨hx, hb, hml, hown, hts⟩ (c_X9_likeOfWordThere l D ca F H.size q_this q_text q_item q_stands q_crowd q_measure q_measure_row q_laid q_tried r_7 r_15 y_measure_row_13 r_17 y_measure_row_18 hg_19) (cwV 2 hts gX9_from_X9_likeOfWordThere rfl rfl rfl (by decide +kernel) ⟨(Nat.le_of_ble_eq_true rfl), (Nat.le_of_ble_eq_true rfl)⟩) hK hP hD hS hA (ci := 7) (q0 := 0) rfl rfl [0, 1, 2] [3, 4, 5] [3, 4, 5, 0, 1, 2] rfl rfl rfl rfl (by decide) rfl rfl rfl hl.1 rfl (Nat.le_of_ble_eq_true rfl) dX9_from_60 ⟨Nat.zero_le _, Nat.zero_le _⟩ (fun H locs hP hD hS => ?_)
        refine lv_istore (lv' := [(5, .int r_17), (4, .int r_12), (3, .int r_7), (0, .ref q_this), (1, .int p1), (2, .int p2)]) hx hb dX9_from_63 hl (by decide) rfl (fun ls hl => ?_)
        refine lv_iload hx hb dX9_from_65 (lv_at hl 1 rfl) ?_
        refine lv_iload hx hb dX9_from_67 (lv_at hl 0 rfl) ?_
        refine va_mmax hx hb (by rw [hml]; exact hl.1.symm) hown k_191 ks_max ki_math kc_max (Nat.le_of_ble_eq_true rfl) (Nat.le_of_ble_eq_true rfl) (Nat.zero_le _) (Nat.zero_le _) dX9_from_69 ?_
        refine lv_aload_n hx hb dX9_from_72 rfl (lv_at hl 3 rfl) ?_
        refine va_get (D := D) (ci := 7) (v := .ref q_laid) (C := RX9) (T := TX9) (N := 7) hx hb hts i_X9 hown hK hP 0 rfl rfl 5 (by decide) k_49 (fun _ h9 => h9) rfl dX9_from_73 ?_
        obtain ⟨r_20, hg_21, h⟩ := bd1_el h
        refine kx_Vi (As := []) (rest := [.int (if r_12 < r_17 then r_17 else r_12)]) (wr := [(q_this, .inr (7, [.ref q_text, .ref q_item, .ref q_stands, .ref q_crowd, .ref q_measure, .ref q_laid, .ref q_tried])), (q_measure, .inr (3, [.ref q_measure_row])), (q_measure_row, .inl (ca 0, 7, .inl y_measure_row_18)), (q_laid_words, .inl (ca 0, 16, .inl v_laid_words)), (q_laid_heard, .inl (ca 0, 24, .inl v_laid_heard))]) (w1 := [(q_laid, .inr (0, [.ref q_laid_words, .ref q_laid_heard, .ref q_laid_canSay, .ref q_laid_instead, .ref q_laid_traders, .ref q_laid_takes, .ref q_laid_needs, .int v_laid_speaks, .int v_laid_alikeFrom]))]) (wn := [(q_this, .inr (7, [.ref q_text, .ref q_item, .ref q_stands, .ref q_crowd, .ref q_measure, .ref q_laid, .ref q_tried])), (q_measure, .inr (3, [.ref q_measure_row])), (q_measure_row, .inl (ca 0, 7, .inl y_measure_row_18)), (q_laid, .inr (0, [.ref q_laid_words, .ref q_laid_heard, .ref q_laid_canSay, .ref q_laid_instead, .ref q_laid_traders, .ref q_laid_takes, .ref q_laid_needs, .int v_laid_speaks, .int v_laid_alikeFrom])), (q_laid_words, .inl (ca 0, 16, .inl v_laid_words)), (q_laid_heard, .inl (ca 0, 24, .inl v_laid_heard))]) ⟨hx, hb, hml, hown, hts⟩ (c_X0_alikeFrom l D ca H.size q_laid q_laid_words q_laid_heard q_laid_canSay q_laid_instead q_laid_traders q_laid_takes q_laid_needs v_laid_speaks v_laid_alikeFrom r_20 hg_21) (cwV 0 hts gX9_from_X0_alikeFrom rfl rfl rfl (by decide +kernel) ⟨(Nat.le_of_ble_eq_true rfl), (Nat.le_of_ble_eq_true rfl)⟩) hK hP hD hS hA (ci := 0) (q0 := 0) rfl rfl [3] [0, 1, 2, 4, 5] [0, 1, 2, 5, 3, 4] rfl rfl rfl rfl (by decide) rfl rfl rfl hl.1 rfl (Nat.le_of_ble_eq_true rfl) dX9_from_76 ⟨Nat.zero_le _, Nat.zero_le _⟩ (fun H locs hP hD hS => ?_)
        refine lv_icmp_ge (tgt := 85) hx hb dX9_from_79 (by decide) (fun c_22 => ?_) (fun c_22 => ?_)
        · replace h := ifp_el c_22 h
          refine lv_iload hx hb dX9_from_85 (lv_at hl 1 rfl) ?_
          refine lv_iload hx hb dX9_from_87 (lv_at hl 0 rfl) ?_
          refine lv_icmp_lt (tgt := 96) hx hb dX9_from_89 (by decide) (fun c_23 => ?_) (fun c_23 => ?_)
          · replace h := ifp_el c_23 h
            refine lv_iconst (v := (nI 1)) hx hb dX9_from_96 (by decide) ?_
            cases h
            rw [← hQe]
            exact W.iret hx hb hr (fun t ht hW => ⟨⟨_, (), rfl, rfl, by rw [ht]; exact hP, va_K.moved hW.alike hK, hD⟩, hS.F ht⟩) hS.2.2 dX9_from_97
          · replace h := ifn_el c_23 h
            refine lv_iconst (v := (nI 0)) hx hb dX9_from_92 (by decide) ?_
            refine lv_goto (tgt := 97) hx hb dX9_from_93 (by decide) ?_
            cases h
            rw [← hQe]
            exact W.iret hx hb hr (fun t ht hW => ⟨⟨_, (), rfl, rfl, by rw [ht]; exact hP, va_K.moved hW.alike hK, hD⟩, hS.F ht⟩) hS.2.2 dX9_from_97
        · replace h := ifn_el c_22 h
          refine lv_bipush (v := (-4 : Int32)) hx hb dX9_from_82 (by decide) ?_
          cases h
          rw [← hQe]
          exact W.iret hx hb hr (fun t ht hW => ⟨⟨_, (), rfl, rfl, by rw [ht]; exact hP, va_K.moved hW.alike hK, hD⟩, hS.F ht⟩) hS.2.2 dX9_from_84
      · replace h := ifp_el c_9 h
        refine lv_bipush (v := (-2 : Int32)) hx hb dX9_from_30 (by decide) ?_
        cases h
        rw [← hQe]
        exact W.iret hx hb hr (fun t ht hW => ⟨⟨_, (), rfl, rfl, by rw [ht]; exact hP, va_K.moved hW.alike hK, hD⟩, hS.F ht⟩) hS.2.2 dX9_from_32
    · replace h := ifp_el c_6 h
      refine lv_iconst (v := (-1 : Int32)) hx hb dX9_from_14 (by decide) ?_
      cases h
      rw [← hQe]
      exact W.iret hx hb hr (fun t ht hW => ⟨⟨_, (), rfl, rfl, by rw [ht]; exact hP, va_K.moved hW.alike hK, hD⟩, hS.F ht⟩) hS.2.2 dX9_from_15
def b_X9_chance_44 (p1 : Int32) (p2 : Int32) (v_laid_alikeFrom : Int32) (v_laid_words : Nat → Int32) (v_laid_heard : Nat → Int32) (F : Nat) (x6_11 : Int32) (rec44 : Int32 → Int32 → Int32 → (Nat → Int32) → Option (Int32 × Int32 × (Nat → Int32))) (x4_17 : Int32) (x5_18 : Int32) (x7_19 : Int32) (y_measure_row_20 : Nat → Int32) : Option (Int32 × Int32 × (Nat → Int32)) := (if (nI 8) ≤ x7_19 then some (x4_17, x5_18, y_measure_row_20) else bd1 (D_X0_heardBy p1 x6_11 v_laid_heard) (fun r_25 => bd1 (D_X0_wordOf p2 x7_19 v_laid_words) (fun r_27 => (if x6_11 = x7_19 then nm (x7_19 + (nI 1)) (fun x7_30 => rec44 x4_17 x5_18 x7_30 y_measure_row_20) else (if r_25 = 0 then nm (x7_19 + (nI 1)) (fun x7_33 => rec44 x4_17 x5_18 x7_33 y_measure_row_20) else (if r_27 = 0 then nm (x7_19 + (nI 1)) (fun x7_36 => rec44 x4_17 x5_18 x7_36 y_measure_row_20) else nm (x5_18 + (nI 1)) (fun x5_38 => bd2 (D_X3_likeness F r_25 r_27 y_measure_row_20) (fun r_40 y_measure_row_41 => bd1 (D_X0_alikeFrom v_laid_alikeFrom) (fun r_43 => (if r_40 < r_43 then nm (x7_19 + (nI 1)) (fun x7_46 => rec44 x4_17 x5_38 x7_46 y_measure_row_41) else nm (x4_17 + (nI 1)) (fun x4_48 => nm (x7_19 + (nI 1)) (fun x7_50 => rec44 x4_48 x5_38 x7_50 y_measure_row_41))))))))))))
def b_X9_chance_34 (p1 : Int32) (p2 : Int32) (v_laid_alikeFrom : Int32) (v_laid_words : Nat → Int32) (v_laid_heard : Nat → Int32) (F : Nat) (rec34 : Int32 → Int32 → Int32 → (Nat → Int32) → Option (Int32 × Int32 × (Nat → Int32))) (x4_9 : Int32) (x5_10 : Int32) (x6_11 : Int32) (y_measure_row_12 : Nat → Int32) : Option (Int32 × Int32 × (Nat → Int32)) := (if (nI 8) ≤ x6_11 then some (x4_9, x5_10, y_measure_row_12) else bd3 (lpg (T := Int32 → Int32 → Int32 → (Nat → Int32) → Option (Int32 × Int32 × (Nat → Int32))) (fun _ _ _ _ => none) (b_X9_chance_44 p1 p2 v_laid_alikeFrom v_laid_words v_laid_heard F x6_11) F x4_9 x5_10 (nI 0) y_measure_row_12) (fun o_21 o_22 o_23 => nm (x6_11 + (nI 1)) (fun x6_52 => rec34 o_21 o_22 x6_52 o_23)))
def D_X9_chance (F : Nat) (p1 : Int32) (p2 : Int32) (p3 : Int32) (v_measure_row : Nat → Int32) (v_laid_alikeFrom : Int32) (v_laid_words : Nat → Int32) (v_laid_heard : Nat → Int32) : Option (Int32 × (Nat → Int32)) := bd1 (D_X9_isEar p1) (fun r_1 => (if r_1 = 0 then some ((-1 : Int32), v_measure_row) else bd1 (D_X9_isPeople p2) (fun r_4 => (if r_4 = 0 then some ((-1 : Int32), v_measure_row) else (if p3 < 0 then some ((-1 : Int32), v_measure_row) else (if p3 ≤ (nI 1) then bd3 (lpg (T := Int32 → Int32 → Int32 → (Nat → Int32) → Option (Int32 × Int32 × (Nat → Int32))) (fun _ _ _ _ => none) (b_X9_chance_34 p1 p2 v_laid_alikeFrom v_laid_words v_laid_heard F) F (nI 0) (nI 0) (nI 0) v_measure_row) (fun o_13 o_14 o_15 => (if p3 = 0 then some (o_13, o_15) else some (o_14, o_15))) else some ((-1 : Int32), v_measure_row)))))))
abbrev rm_X9_chance : Room := { frames := 3, cells := 0, slots := 0, locals := 71 }
set_option maxHeartbeats 4000000 in
set_option maxRecDepth 100000 in
theorem c_X9_chance (l : Launch) (D : va_G) (ca : Nat → ClassId) (F : Nat) (sz : Nat) (q_this q_text q_item q_stands q_crowd q_measure q_measure_row q_laid q_laid_words q_laid_heard q_laid_canSay q_laid_instead q_laid_traders q_laid_takes q_laid_needs q_tried : Nat) (p1 : Int32) (p2 : Int32) (p3 : Int32) (v_measure_row : Nat → Int32) (v_laid_speaks : Int32) (v_laid_alikeFrom : Int32) (v_laid_words : Nat → Int32) (v_laid_heard : Nat → Int32) (r : Int32) (o_measure_row : Nat → Int32) (h : D_X9_chance F p1 p2 p3 v_measure_row v_laid_alikeFrom v_laid_words v_laid_heard = some (r, o_measure_row)) : Met l yX9_chance wsX9_chance rm_X9_chance (va_Pc [.ref q_this, .int p1, .int p2, .int p3] (kPre D ca [(q_this, .inr (7, [.ref q_text, .ref q_item, .ref q_stands, .ref q_crowd, .ref q_measure, .ref q_laid, .ref q_tried])), (q_measure, .inr (3, [.ref q_measure_row])), (q_measure_row, .inl (ca 0, 7, .inl v_measure_row)), (q_laid, .inr (0, [.ref q_laid_words, .ref q_laid_heard, .ref q_laid_canSay, .ref q_laid_instead, .ref q_laid_traders, .ref q_laid_takes, .ref q_laid_needs, .int v_laid_speaks, .int v_laid_alikeFrom])), (q_laid_words, .inl (ca 0, 16, .inl v_laid_words)), (q_laid_heard, .inl (ca 0, 24, .inl v_laid_heard))] sz)) (kQi D ca (va_A [(q_this, .inr (7, [.ref q_text, .ref q_item, .ref q_stands, .ref q_crowd, .ref q_measure, .ref q_laid, .ref q_tried])), (q_measure, .inr (3, [.ref q_measure_row])), (q_measure_row, .inl (ca 0, 7, .inl v_measure_row)), (q_laid, .inr (0, [.ref q_laid_words, .ref q_laid_heard, .ref q_laid_canSay, .ref q_laid_instead, .ref q_laid_traders, .ref q_laid_takes, .ref q_laid_needs, .int v_laid_speaks, .int v_laid_alikeFrom])), (q_laid_words, .inl (ca 0, 16, .inl v_laid_words)), (q_laid_heard, .inl (ca 0, 24, .inl v_laid_heard))] sz) [(q_this, .inr (7, [.ref q_text, .ref q_item, .ref q_stands, .ref q_crowd, .ref q_measure, .ref q_laid, .ref q_tried])), (q_measure, .inr (3, [.ref q_measure_row])), (q_measure_row, .inl (ca 0, 7, .inl o_measure_row)), (q_laid, .inr (0, [.ref q_laid_words, .ref q_laid_heard, .ref q_laid_canSay, .ref q_laid_instead, .ref q_laid_traders, .ref q_laid_takes, .ref q_laid_needs, .int v_laid_speaks, .int v_laid_alikeFrom])), (q_laid_words, .inl (ca 0, 16, .inl v_laid_words)), (q_laid_heard, .inl (ca 0, 24, .inl v_laid_heard))] r) 0 0 (va_A [(q_this, .inr (7, [.ref q_text, .ref q_item, .ref q_stands, .ref q_crowd, .ref q_measure, .ref q_laid, .ref q_tried])), (q_measure, .inr (3, [.ref q_measure_row])), (q_measure_row, .inl (ca 0, 7, .inl v_measure_row)), (q_laid, .inr (0, [.ref q_laid_words, .ref q_laid_heard, .ref q_laid_canSay, .ref q_laid_instead, .ref q_laid_traders, .ref q_laid_takes, .ref q_laid_needs, .int v_laid_speaks, .int v_laid_alikeFrom])), (q_laid_words, .inl (ca 0, 16, .inl v_laid_words)), (q_laid_heard, .inl (ca 0, 24, .inl v_laid_heard))] sz) := by
  refine Met.ofW (cc := cX9_chance) (maxL := 10) (ret := (some .int)) (by decide +kernel) rfl ?_
  intro p e s m args below meth c s₁ B hml hv
  obtain ⟨rfl, hsz, hP, hK, hD0⟩ := hv
  have hx := B.exec
  have hb := B.bytes
  have hr := B.returns
  have hts := atoms_spec (ws := wsX9_chance) B.pre
  have hown : s.vm.findClass RX9 = some m.cls := findClass_of_methodNamed B.named
  have hlocks := B.notSynchronized
  clear B
  subst hsz
  have hD := hD0.self (sz := s.heap.size)
  generalize hAe : va_A [(q_this, .inr (7, [.ref q_text, .ref q_item, .ref q_stands, .ref q_crowd, .ref q_measure, .ref q_laid, .ref q_tried])), (q_measure, .inr (3, [.ref q_measure_row])), (q_measure_row, .inl (ca 0, 7, .inl v_measure_row)), (q_laid, .inr (0, [.ref q_laid_words, .ref q_laid_heard, .ref q_laid_canSay, .ref q_laid_instead, .ref q_laid_traders, .ref q_laid_takes, .ref q_laid_needs, .int v_laid_speaks, .int v_laid_alikeFrom])), (q_laid_words, .inl (ca 0, 16, .inl v_laid_words)), (q_laid_heard, .inl (ca 0, 24, .inl v_laid_heard))] s.heap.size = A at hD ⊢
  have hA : ∀ q : Nat, s.heap.size ≤ q → A q := fun q h => by rw [← hAe]; exact Or.inr h
  have hS : va_S A s.heap s.heap [] := va_S.rf
  have hl := lv_entry ([.ref q_this, .int p1, .int p2, .int p3]) (n := 10) (Nat.le_of_ble_eq_true rfl)
  rw [lg_entry_eq]
  generalize (lg_sl ([.ref q_this, .int p1, .int p2, .int p3]) ++ List.replicate (10 - (lg_sl ([.ref q_this, .int p1, .int p2, .int p3])).length) Slot.unset).toArray = ls at hl ⊢
  have hl : lv_has ls 10 [(0, .ref q_this), (1, .int p1), (2, .int p2), (3, .int p3)] := hl
  generalize ([.ref q_this, .int p1, .int p2, .int p3] : List Value).toArray = args at hts ⊢
  generalize hQe : MQ below (kQi D ca (A) [(q_this, .inr (7, [.ref q_text, .ref q_item, .ref q_stands, .ref q_crowd, .ref q_measure, .ref q_laid, .ref q_tried])), (q_measure, .inr (3, [.ref q_measure_row])), (q_measure_row, .inl (ca 0, 7, .inl o_measure_row)), (q_laid, .inr (0, [.ref q_laid_words, .ref q_laid_heard, .ref q_laid_canSay, .ref q_laid_instead, .ref q_laid_traders, .ref q_laid_takes, .ref q_laid_needs, .int v_laid_speaks, .int v_laid_alikeFrom])), (q_laid_words, .inl (ca 0, 16, .inl v_laid_words)), (q_laid_heard, .inl (ca 0, 24, .inl v_laid_heard))] r) args s 0 0 A = Q
  have i_X9 : ∀ w ∈ u_ws RX9 TX9 7, w ∈ wsX9_chance := by decide +kernel
  have k_49 := hts (.fieldLink RX9 49 "TradeWords" "laid" "LTradeWords$Beach;") (by decide +kernel)
  have k_42 := hts (.fieldLink RX9 42 "TradeWords" "measure" "LTradeWords$Measure;") (by decide +kernel)
  rw [D_X9_chance] at h
  refine lv_iload_n hx hb dX9_chance_0 rfl (lv_at hl 1 rfl) ?_
  obtain ⟨r_1, hg_2, h⟩ := bd1_el h
  refine kx_Si (As := [.int p1]) (rest := []) (wr := [(q_this, .inr (7, [.ref q_text, .ref q_item, .ref q_stands, .ref q_crowd, .ref q_measure, .ref q_laid, .ref q_tried])), (q_measure, .inr (3, [.ref q_measure_row])), (q_measure_row, .inl (ca 0, 7, .inl v_measure_row)), (q_laid, .inr (0, [.ref q_laid_words, .ref q_laid_heard, .ref q_laid_canSay, .ref q_laid_instead, .ref q_laid_traders, .ref q_laid_takes, .ref q_laid_needs, .int v_laid_speaks, .int v_laid_alikeFrom])), (q_laid_words, .inl (ca 0, 16, .inl v_laid_words)), (q_laid_heard, .inl (ca 0, 24, .inl v_laid_heard))]) (w1 := []) (wn := [(q_this, .inr (7, [.ref q_text, .ref q_item, .ref q_stands, .ref q_crowd, .ref q_measure, .ref q_laid, .ref q_tried])), (q_measure, .inr (3, [.ref q_measure_row])), (q_measure_row, .inl (ca 0, 7, .inl v_measure_row)), (q_laid, .inr (0, [.ref q_laid_words, .ref q_laid_heard, .ref q_laid_canSay, .ref q_laid_instead, .ref q_laid_traders, .ref q_laid_takes, .ref q_laid_needs, .int v_laid_speaks, .int v_laid_alikeFrom])), (q_laid_words, .inl (ca 0, 16, .inl v_laid_words)), (q_laid_heard, .inl (ca 0, 24, .inl v_laid_heard))]) ⟨hx, hb, hml, hown, hts⟩ (c_X9_isEar l D ca s.heap.size p1 r_1 hg_2) (va_cwS 1 hts gX9_chance_X9_isEar rfl rfl rfl (by decide +kernel) ⟨(Nat.le_of_ble_eq_true rfl), (Nat.le_of_ble_eq_true rfl)⟩) hK hP hD hS hA [] [0, 1, 2, 3, 4, 5] [0, 1, 2, 3, 4, 5] rfl rfl rfl rfl (by decide) rfl rfl rfl hl.1 rfl (Nat.le_of_ble_eq_true rfl) dX9_chance_1 ⟨Nat.zero_le _, Nat.zero_le _⟩ (fun H locs hP hD hS => ?_)
  refine lv_if_eq (tgt := 23) hx hb dX9_chance_4 (by decide) (fun c_3 => ?_) (fun c_3 => ?_)
  · replace h := ifp_el c_3 h
    refine lv_iconst (v := (-1 : Int32)) hx hb dX9_chance_23 (by decide) ?_
    cases h
    rw [← hQe]
    exact W.iret hx hb hr (fun t ht hW => ⟨⟨_, (), rfl, rfl, by rw [ht]; exact hP, va_K.moved hW.alike hK, hD⟩, hS.F ht⟩) hS.2.2 dX9_chance_24
  · replace h := ifn_el c_3 h
    refine lv_iload_n hx hb dX9_chance_7 rfl (lv_at hl 2 rfl) ?_
    obtain ⟨r_4, hg_5, h⟩ := bd1_el h
    refine kx_Si (As := [.int p2]) (rest := []) (wr := [(q_this, .inr (7, [.ref q_text, .ref q_item, .ref q_stands, .ref q_crowd, .ref q_measure, .ref q_laid, .ref q_tried])), (q_measure, .inr (3, [.ref q_measure_row])), (q_measure_row, .inl (ca 0, 7, .inl v_measure_row)), (q_laid, .inr (0, [.ref q_laid_words, .ref q_laid_heard, .ref q_laid_canSay, .ref q_laid_instead, .ref q_laid_traders, .ref q_laid_takes, .ref q_laid_needs, .int v_laid_speaks, .int v_laid_alikeFrom])), (q_laid_words, .inl (ca 0, 16, .inl v_laid_words)), (q_laid_heard, .inl (ca 0, 24, .inl v_laid_heard))]) (w1 := []) (wn := [(q_this, .inr (7, [.ref q_text, .ref q_item, .ref q_stands, .ref q_crowd, .ref q_measure, .ref q_laid, .ref q_tried])), (q_measure, .inr (3, [.ref q_measure_row])), (q_measure_row, .inl (ca 0, 7, .inl v_measure_row)), (q_laid, .inr (0, [.ref q_laid_words, .ref q_laid_heard, .ref q_laid_canSay, .ref q_laid_instead, .ref q_laid_traders, .ref q_laid_takes, .ref q_laid_needs, .int v_laid_speaks, .int v_laid_alikeFrom])), (q_laid_words, .inl (ca 0, 16, .inl v_laid_words)), (q_laid_heard, .inl (ca 0, 24, .inl v_laid_heard))]) ⟨hx, hb, hml, hown, hts⟩ (c_X9_isPeople l D ca H.size p2 r_4 hg_5) (va_cwS 1 hts gX9_chance_X9_isPeople rfl rfl rfl (by decide +kernel) ⟨(Nat.le_of_ble_eq_true rfl), (Nat.le_of_ble_eq_true rfl)⟩) hK hP hD hS hA [] [0, 1, 2, 3, 4, 5] [0, 1, 2, 3, 4, 5] rfl rfl rfl rfl (by decide) rfl rfl rfl hl.1 rfl (Nat.le_of_ble_eq_true rfl) dX9_chance_8 ⟨Nat.zero_le _, Nat.zero_le _⟩ (fun H locs hP hD hS => ?_)
    refine lv_if_eq (tgt := 23) hx hb dX9_chance_11 (by decide) (fun c_6 => ?_) (fun c_6 => ?_)
    · replace h := ifp_el c_6 h
      refine lv_iconst (v := (-1 : Int32)) hx hb dX9_chance_23 (by decide) ?_
      cases h
      rw [← hQe]
      exact W.iret hx hb hr (fun t ht hW => ⟨⟨_, (), rfl, rfl, by rw [ht]; exact hP, va_K.moved hW.alike hK, hD⟩, hS.F ht⟩) hS.2.2 dX9_chance_24
    · replace h := ifn_el c_6 h
      refine lv_iload_n hx hb dX9_chance_14 rfl (lv_at hl 3 rfl) ?_
      refine lv_if_lt (tgt := 23) hx hb dX9_chance_15 (by decide) (fun c_7 => ?_) (fun c_7 => ?_)
      · replace h := ifp_el c_7 h
        refine lv_iconst (v := (-1 : Int32)) hx hb dX9_chance_23 (by decide) ?_
        cases h
        rw [← hQe]
        exact W.iret hx hb hr (fun t ht hW => ⟨⟨_, (), rfl, rfl, by rw [ht]; exact hP, va_K.moved hW.alike hK, hD⟩, hS.F ht⟩) hS.2.2 dX9_chance_24
      · replace h := ifn_el c_7 h
        refine lv_iload_n hx hb dX9_chance_18 rfl (lv_at hl 3 rfl) ?_
        refine lv_iconst (v := (nI 1)) hx hb dX9_chance_19 (by decide) ?_
        refine lv_icmp_le (tgt := 25) hx hb dX9_chance_20 (by decide) (fun c_8 => ?_) (fun c_8 => ?_)
        · replace h := ifp_el c_8 h
          refine lv_iconst (v := (nI 0)) hx hb dX9_chance_25 (by decide) ?_
          refine lv_istore (lv' := [(4, .int (nI 0)), (0, .ref q_this), (1, .int p1), (2, .int p2), (3, .int p3)]) hx hb dX9_chance_26 hl (by decide) rfl (fun ls hl => ?_)
          refine lv_iconst (v := (nI 0)) hx hb dX9_chance_28 (by decide) ?_
          refine lv_istore (lv' := [(5, .int (nI 0)), (4, .int (nI 0)), (0, .ref q_this), (1, .int p1), (2, .int p2), (3, .int p3)]) hx hb dX9_chance_29 hl (by decide) rfl (fun ls hl => ?_)
          refine lv_iconst (v := (nI 0)) hx hb dX9_chance_31 (by decide) ?_
          refine lv_istore (lv' := [(6, .int (nI 0)), (5, .int (nI 0)), (4, .int (nI 0)), (0, .ref q_this), (1, .int p1), (2, .int p2), (3, .int p3)]) hx hb dX9_chance_32 hl (by decide) rfl (fun ls hl => ?_)
          obtain ⟨o_13, o_14, o_15, hL, h⟩ := bd3_el h
          have hex : ∀ (H : Heap) (locs : List Loc) (ls : Array Slot), va_P D vwCl [(q_this, .inr (7, [.ref q_text, .ref q_item, .ref q_stands, .ref q_crowd, .ref q_measure, .ref q_laid, .ref q_tried])), (q_measure, .inr (3, [.ref q_measure_row])), (q_measure_row, .inl (ca 0, 7, .inl o_15)), (q_laid, .inr (0, [.ref q_laid_words, .ref q_laid_heard, .ref q_laid_canSay, .ref q_laid_instead, .ref q_laid_traders, .ref q_laid_takes, .ref q_laid_needs, .int v_laid_speaks, .int v_laid_alikeFrom])), (q_laid_words, .inl (ca 0, 16, .inl v_laid_words)), (q_laid_heard, .inl (ca 0, 24, .inl v_laid_heard))] H → va_D A [(q_this, .inr (7, [.ref q_text, .ref q_item, .ref q_stands, .ref q_crowd, .ref q_measure, .ref q_laid, .ref q_tried])), (q_measure, .inr (3, [.ref q_measure_row])), (q_measure_row, .inl (ca 0, 7, .inl o_15)), (q_laid, .inr (0, [.ref q_laid_words, .ref q_laid_heard, .ref q_laid_canSay, .ref q_laid_instead, .ref q_laid_traders, .ref q_laid_takes, .ref q_laid_needs, .int v_laid_speaks, .int v_laid_alikeFrom])), (q_laid_words, .inl (ca 0, 16, .inl v_laid_words)), (q_laid_heard, .inl (ca 0, 24, .inl v_laid_heard))] → va_S A s.heap H locs → lv_has ls 10 [(3, .int p3), (4, .int o_13), (5, .int o_14)] → W p l e (headSpec wsX9_chance rm_X9_chance).room s m args below meth c H locs 0 0 Q (F0 m 131 ls []) := by
            intro H locs ls hP hD hS hl
            refine lv_iload_n hx hb dX9_chance_131 rfl (lv_at hl 0 rfl) ?_
            refine lv_if_ne (tgt := 140) hx hb dX9_chance_132 (by decide) (fun c_54 => ?_) (fun c_54 => ?_)
            · replace h := ifn_el c_54 h
              refine lv_iload hx hb dX9_chance_140 (lv_at hl 2 rfl) ?_
              cases h
              rw [← hQe]
              exact W.iret hx hb hr (fun t ht hW => ⟨⟨_, (), rfl, rfl, by rw [ht]; exact hP, va_K.moved hW.alike hK, hD⟩, hS.F ht⟩) hS.2.2 dX9_chance_142
            · replace h := ifp_el c_54 h
              refine lv_iload hx hb dX9_chance_135 (lv_at hl 1 rfl) ?_
              refine lv_goto (tgt := 142) hx hb dX9_chance_137 (by decide) ?_
              cases h
              rw [← hQe]
              exact W.iret hx hb hr (fun t ht hW => ⟨⟨_, (), rfl, rfl, by rw [ht]; exact hP, va_K.moved hW.alike hK, hD⟩, hS.F ht⟩) hS.2.2 dX9_chance_142
          have hlp : ∀ (n : Nat) (x4_9 : Int32) (x5_10 : Int32) (x6_11 : Int32) (y_measure_row_12 : Nat → Int32) (o_13 : Int32) (o_14 : Int32) (o_15 : Nat → Int32) (H : Heap) (locs : List Loc) (ls : Array Slot), lpg (T := Int32 → Int32 → Int32 → (Nat → Int32) → Option (Int32 × Int32 × (Nat → Int32))) (fun _ _ _ _ => none) (b_X9_chance_34 p1 p2 v_laid_alikeFrom v_laid_words v_laid_heard F) n x4_9 x5_10 x6_11 y_measure_row_12 = some (o_13, o_14, o_15) → (∀ (H : Heap) (locs : List Loc) (ls : Array Slot), va_P D vwCl [(q_this, .inr (7, [.ref q_text, .ref q_item, .ref q_stands, .ref q_crowd, .ref q_measure, .ref q_laid, .ref q_tried])), (q_measure, .inr (3, [.ref q_measure_row])), (q_measure_row, .inl (ca 0, 7, .inl o_15)), (q_laid, .inr (0, [.ref q_laid_words, .ref q_laid_heard, .ref q_laid_canSay, .ref q_laid_instead, .ref q_laid_traders, .ref q_laid_takes, .ref q_laid_needs, .int v_laid_speaks, .int v_laid_alikeFrom])), (q_laid_words, .inl (ca 0, 16, .inl v_laid_words)), (q_laid_heard, .inl (ca 0, 24, .inl v_laid_heard))] H → va_D A [(q_this, .inr (7, [.ref q_text, .ref q_item, .ref q_stands, .ref q_crowd, .ref q_measure, .ref q_laid, .ref q_tried])), (q_measure, .inr (3, [.ref q_measure_row])), (q_measure_row, .inl (ca 0, 7, .inl o_15)), (q_laid, .inr (0, [.ref q_laid_words, .ref q_laid_heard, .ref q_laid_canSay, .ref q_laid_instead, .ref q_laid_traders, .ref q_laid_takes, .ref q_laid_needs, .int v_laid_speaks, .int v_laid_alikeFrom])), (q_laid_words, .inl (ca 0, 16, .inl v_laid_words)), (q_laid_heard, .inl (ca 0, 24, .inl v_laid_heard))] → va_S A s.heap H locs → lv_has ls 10 [(3, .int p3), (4, .int o_13), (5, .int o_14)] → W p l e (headSpec wsX9_chance rm_X9_chance).room s m args below meth c H locs 0 0 Q (F0 m 131 ls [])) → va_P D vwCl [(q_this, .inr (7, [.ref q_text, .ref q_item, .ref q_stands, .ref q_crowd, .ref q_measure, .ref q_laid, .ref q_tried])), (q_measure, .inr (3, [.ref q_measure_row])), (q_measure_row, .inl (ca 0, 7, .inl y_measure_row_12)), (q_laid, .inr (0, [.ref q_laid_words, .ref q_laid_heard, .ref q_laid_canSay, .ref q_laid_instead, .ref q_laid_traders, .ref q_laid_takes, .ref q_laid_needs, .int v_laid_speaks, .int v_laid_alikeFrom])), (q_laid_words, .inl (ca 0, 16, .inl v_laid_words)), (q_laid_heard, .inl (ca 0, 24, .inl v_laid_heard))] H → va_D A [(q_this, .inr (7, [.ref q_text, .ref q_item, .ref q_stands, .ref q_crowd, .ref q_measure, .ref q_laid, .ref q_tried])), (q_measure, .inr (3, [.ref q_measure_row])), (q_measure_row, .inl (ca 0, 7, .inl y_measure_row_12)), (q_laid, .inr (0, [.ref q_laid_words, .ref q_laid_heard, .ref q_laid_canSay, .ref q_laid_instead, .ref q_laid_traders, .ref q_laid_takes, .ref q_laid_needs, .int v_laid_speaks, .int v_laid_alikeFrom])), (q_laid_words, .inl (ca 0, 16, .inl v_laid_words)), (q_laid_heard, .inl (ca 0, 24, .inl v_laid_heard))] → va_S A s.heap H locs → lv_has ls 10 [(0, .ref q_this), (1, .int p1), (2, .int p2), (3, .int p3), (4, .int x4_9), (5, .int x5_10), (6, .int x6_11)] → W p l e (headSpec wsX9_chance rm_X9_chance).room s m args below meth c H locs 0 0 Q (F0 m 34 ls []) := by
            intro n
            induction n with
            | zero => intro x4_9 x5_10 x6_11 y_measure_row_12 o_13 o_14 o_15 H locs ls h; have h : (none : Option (Int32 × Int32 × (Nat → Int32))) = some _ := h; cases h
            | succ n ih =>
              intro x4_9 x5_10 x6_11 y_measure_row_12 o_13 o_14 o_15 H locs ls h hex hP hD hS hl
              rw [lpg_succ, b_X9_chance_34] at h
              refine lv_iload hx hb dX9_chance_34 (lv_at hl 6 rfl) ?_
              refine lv_bipush (v := (nI 8)) hx hb dX9_chance_36 (by decide) ?_
              refine lv_icmp_ge (tgt := 131) hx hb dX9_chance_38 (by decide) (fun c_16 => ?_) (fun c_16 => ?_)
              · replace h := ifp_el c_16 h
                cases h
                exact hex _ _ _ hP hD hS (lv_sub hl [3, 4, 5] rfl)
              · replace h := ifn_el c_16 h
                refine lv_iconst (v := (nI 0)) hx hb dX9_chance_41 (by decide) ?_
                refine lv_istore (lv' := [(7, .int (nI 0)), (0, .ref q_this), (1, .int p1), (2, .int p2), (3, .int p3), (4, .int x4_9), (5, .int x5_10), (6, .int x6_11)]) hx hb dX9_chance_42 hl (by decide) rfl (fun ls hl => ?_)
                obtain ⟨o_21, o_22, o_23, hL, h⟩ := bd3_el h
                have hex : ∀ (H : Heap) (locs : List Loc) (ls : Array Slot), va_P D vwCl [(q_this, .inr (7, [.ref q_text, .ref q_item, .ref q_stands, .ref q_crowd, .ref q_measure, .ref q_laid, .ref q_tried])), (q_measure, .inr (3, [.ref q_measure_row])), (q_measure_row, .inl (ca 0, 7, .inl o_23)), (q_laid, .inr (0, [.ref q_laid_words, .ref q_laid_heard, .ref q_laid_canSay, .ref q_laid_instead, .ref q_laid_traders, .ref q_laid_takes, .ref q_laid_needs, .int v_laid_speaks, .int v_laid_alikeFrom])), (q_laid_words, .inl (ca 0, 16, .inl v_laid_words)), (q_laid_heard, .inl (ca 0, 24, .inl v_laid_heard))] H → va_D A [(q_this, .inr (7, [.ref q_text, .ref q_item, .ref q_stands, .ref q_crowd, .ref q_measure, .ref q_laid, .ref q_tried])), (q_measure, .inr (3, [.ref q_measure_row])), (q_measure_row, .inl (ca 0, 7, .inl o_23)), (q_laid, .inr (0, [.ref q_laid_words, .ref q_laid_heard, .ref q_laid_canSay, .ref q_laid_instead, .ref q_laid_traders, .ref q_laid_takes, .ref q_laid_needs, .int v_laid_speaks, .int v_laid_alikeFrom])), (q_laid_words, .inl (ca 0, 16, .inl v_laid_words)), (q_laid_heard, .inl (ca 0, 24, .inl v_laid_heard))] → va_S A s.heap H locs → lv_has ls 10 [(0, .ref q_this), (1, .int p1), (2, .int p2), (3, .int p3), (4, .int o_21), (5, .int o_22), (6, .int x6_11)] → W p l e (headSpec wsX9_chance rm_X9_chance).room s m args below meth c H locs 0 0 Q (F0 m 125 ls []) := by
                  intro H locs ls hP hD hS hl
                  obtain ⟨x6_52, e_53, h⟩ := nm_el h
                  refine lv_iinc (v := x6_52) (lv' := [(6, .int x6_52), (0, .ref q_this), (1, .int p1), (2, .int p2), (3, .int p3), (4, .int o_21), (5, .int o_22)]) hx hb dX9_chance_125 hl (k := 6) rfl (by rw [← e_53]; rfl) (by decide) rfl (fun ls hl => ?_)
                  refine lv_goto (tgt := 34) hx hb dX9_chance_128 (by decide) ?_
                  exact ih _ _ _ _ _ _ _ _ _ _ h hex hP hD hS (lv_sub hl [1, 2, 3, 4, 5, 6, 0] rfl)
                have hlp : ∀ (n : Nat) (x4_17 : Int32) (x5_18 : Int32) (x7_19 : Int32) (y_measure_row_20 : Nat → Int32) (o_21 : Int32) (o_22 : Int32) (o_23 : Nat → Int32) (H : Heap) (locs : List Loc) (ls : Array Slot), lpg (T := Int32 → Int32 → Int32 → (Nat → Int32) → Option (Int32 × Int32 × (Nat → Int32))) (fun _ _ _ _ => none) (b_X9_chance_44 p1 p2 v_laid_alikeFrom v_laid_words v_laid_heard F x6_11) n x4_17 x5_18 x7_19 y_measure_row_20 = some (o_21, o_22, o_23) → (∀ (H : Heap) (locs : List Loc) (ls : Array Slot), va_P D vwCl [(q_this, .inr (7, [.ref q_text, .ref q_item, .ref q_stands, .ref q_crowd, .ref q_measure, .ref q_laid, .ref q_tried])), (q_measure, .inr (3, [.ref q_measure_row])), (q_measure_row, .inl (ca 0, 7, .inl o_23)), (q_laid, .inr (0, [.ref q_laid_words, .ref q_laid_heard, .ref q_laid_canSay, .ref q_laid_instead, .ref q_laid_traders, .ref q_laid_takes, .ref q_laid_needs, .int v_laid_speaks, .int v_laid_alikeFrom])), (q_laid_words, .inl (ca 0, 16, .inl v_laid_words)), (q_laid_heard, .inl (ca 0, 24, .inl v_laid_heard))] H → va_D A [(q_this, .inr (7, [.ref q_text, .ref q_item, .ref q_stands, .ref q_crowd, .ref q_measure, .ref q_laid, .ref q_tried])), (q_measure, .inr (3, [.ref q_measure_row])), (q_measure_row, .inl (ca 0, 7, .inl o_23)), (q_laid, .inr (0, [.ref q_laid_words, .ref q_laid_heard, .ref q_laid_canSay, .ref q_laid_instead, .ref q_laid_traders, .ref q_laid_takes, .ref q_laid_needs, .int v_laid_speaks, .int v_laid_alikeFrom])), (q_laid_words, .inl (ca 0, 16, .inl v_laid_words)), (q_laid_heard, .inl (ca 0, 24, .inl v_laid_heard))] → va_S A s.heap H locs → lv_has ls 10 [(0, .ref q_this), (1, .int p1), (2, .int p2), (3, .int p3), (4, .int o_21), (5, .int o_22), (6, .int x6_11)] → W p l e (headSpec wsX9_chance rm_X9_chance).room s m args below meth c H locs 0 0 Q (F0 m 125 ls [])) → va_P D vwCl [(q_this, .inr (7, [.ref q_text, .ref q_item, .ref q_stands, .ref q_crowd, .ref q_measure, .ref q_laid, .ref q_tried])), (q_measure, .inr (3, [.ref q_measure_row])), (q_measure_row, .inl (ca 0, 7, .inl y_measure_row_20)), (q_laid, .inr (0, [.ref q_laid_words, .ref q_laid_heard, .ref q_laid_canSay, .ref q_laid_instead, .ref q_laid_traders, .ref q_laid_takes, .ref q_laid_needs, .int v_laid_speaks, .int v_laid_alikeFrom])), (q_laid_words, .inl (ca 0, 16, .inl v_laid_words)), (q_laid_heard, .inl (ca 0, 24, .inl v_laid_heard))] H → va_D A [(q_this, .inr (7, [.ref q_text, .ref q_item, .ref q_stands, .ref q_crowd, .ref q_measure, .ref q_laid, .ref q_tried])), (q_measure, .inr (3, [.ref q_measure_row])), (q_measure_row, .inl (ca 0, 7, .inl y_measure_row_20)), (q_laid, .inr (0, [.ref q_laid_words, .ref q_laid_heard, .ref q_laid_canSay, .ref q_laid_instead, .ref q_laid_traders, .ref q_laid_takes, .ref q_laid_needs, .int v_laid_speaks, .int v_laid_alikeFrom])), (q_laid_words, .inl (ca 0, 16, .inl v_laid_words)), (q_laid_heard, .inl (ca 0, 24, .inl v_laid_heard))] → va_S A s.heap H locs → lv_has ls 10 [(0, .ref q_this), (1, .int p1), (2, .int p2), (3, .int p3), (4, .int x4_17), (5, .int x5_18), (6, .int x6_11), (7, .int x7_19)] → W p l e (headSpec wsX9_chance rm_X9_chance).room s m args below meth c H locs 0 0 Q (F0 m 44 ls []) := by
                  intro n
                  induction n with
                  | zero => intro x4_17 x5_18 x7_19 y_measure_row_20 o_21 o_22 o_23 H locs ls h; have h : (none : Option (Int32 × Int32 × (Nat → Int32))) = some _ := h; cases h
                  | succ n ih =>
                    intro x4_17 x5_18 x7_19 y_measure_row_20 o_21 o_22 o_23 H locs ls h hex hP hD hS hl
                    rw [lpg_succ, b_X9_chance_44] at h
                    refine lv_iload hx hb dX9_chance_44 (lv_at hl 7 rfl) ?_
                    refine lv_bipush (v := (nI 8)) hx hb dX9_chance_46 (by decide) ?_
                    refine lv_icmp_ge (tgt := 125) hx hb dX9_chance_48 (by decide) (fun c_24 => ?_) (fun c_24 => ?_)
                    · replace h := ifp_el c_24 h
                      cases h
                      exact hex _ _ _ hP hD hS (lv_sub hl [0, 1, 2, 3, 4, 5, 6] rfl)
                    · replace h := ifn_el c_24 h
                      refine lv_aload_n hx hb dX9_chance_51 rfl (lv_at hl 0 rfl) ?_
                      refine va_get (D := D) (ci := 7) (v := .ref q_laid) (C := RX9) (T := TX9) (N := 7) hx hb hts i_X9 hown hK hP 0 rfl rfl 5 (by decide) k_49 (fun _ h9 => h9) rfl dX9_chance_52 ?_
                      refine lv_iload_n hx hb dX9_chance_55 rfl (lv_at hl 1 rfl) ?_
                      refine lv_iload hx hb dX9_chance_56 (lv_at hl 6 rfl) ?_
                      obtain ⟨r_25, hg_26, h⟩ := bd1_el h
                      refine kx_Vi (As := [.int p1, .int x6_11]) (rest := []) (wr := [(q_this, .inr (7, [.ref q_text, .ref q_item, .ref q_stands, .ref q_crowd, .ref q_measure, .ref q_laid, .ref q_tried])), (q_measure, .inr (3, [.ref q_measure_row])), (q_measure_row, .inl (ca 0, 7, .inl y_measure_row_20)), (q_laid_words, .inl (ca 0, 16, .inl v_laid_words))]) (w1 := [(q_laid, .inr (0, [.ref q_laid_words, .ref q_laid_heard, .ref q_laid_canSay, .ref q_laid_instead, .ref q_laid_traders, .ref q_laid_takes, .ref q_laid_needs, .int v_laid_speaks, .int v_laid_alikeFrom])), (q_laid_heard, .inl (ca 0, 24, .inl v_laid_heard))]) (wn := [(q_this, .inr (7, [.ref q_text, .ref q_item, .ref q_stands, .ref q_crowd, .ref q_measure, .ref q_laid, .ref q_tried])), (q_measure, .inr (3, [.ref q_measure_row])), (q_measure_row, .inl (ca 0, 7, .inl y_measure_row_20)), (q_laid, .inr (0, [.ref q_laid_words, .ref q_laid_heard, .ref q_laid_canSay, .ref q_laid_instead, .ref q_laid_traders, .ref q_laid_takes, .ref q_laid_needs, .int v_laid_speaks, .int v_laid_alikeFrom])), (q_laid_words, .inl (ca 0, 16, .inl v_laid_words)), (q_laid_heard, .inl (ca 0, 24, .inl v_laid_heard))]) ⟨hx, hb, hml, hown, hts⟩ (c_X0_heardBy l D ca H.size q_laid q_laid_words q_laid_heard q_laid_canSay q_laid_instead q_laid_traders q_laid_takes q_laid_needs p1 x6_11 v_laid_speaks v_laid_alikeFrom v_laid_heard r_25 hg_26) (cwV 2 hts gX9_chance_X0_heardBy rfl rfl rfl (by decide +kernel) ⟨(Nat.le_of_ble_eq_true rfl), (Nat.le_of_ble_eq_true rfl)⟩) hK hP hD hS hA (ci := 0) (q0 := 0) rfl rfl [3, 5] [0, 1, 2, 4] [0, 1, 2, 4, 3, 5] rfl rfl rfl rfl (by decide) rfl rfl rfl hl.1 rfl (Nat.le_of_ble_eq_true rfl) dX9_chance_58 ⟨Nat.zero_le _, Nat.zero_le _⟩ (fun H locs hP hD hS => ?_)
                      refine lv_istore (lv' := [(8, .int r_25), (0, .ref q_this), (1, .int p1), (2, .int p2), (3, .int p3), (4, .int x4_17), (5, .int x5_18), (6, .int x6_11), (7, .int x7_19)]) hx hb dX9_chance_61 hl (by decide) rfl (fun ls hl => ?_)
                      refine lv_aload_n hx hb dX9_chance_63 rfl (lv_at hl 1 rfl) ?_
                      refine va_get (D := D) (ci := 7) (v := .ref q_laid) (C := RX9) (T := TX9) (N := 7) hx hb hts i_X9 hown hK hP 0 rfl rfl 5 (by decide) k_49 (fun _ h9 => h9) rfl dX9_chance_64 ?_
                      refine lv_iload_n hx hb dX9_chance_67 rfl (lv_at hl 3 rfl) ?_
                      refine lv_iload hx hb dX9_chance_68 (lv_at hl 8 rfl) ?_
                      obtain ⟨r_27, hg_28, h⟩ := bd1_el h
                      refine kx_Vi (As := [.int p2, .int x7_19]) (rest := []) (wr := [(q_this, .inr (7, [.ref q_text, .ref q_item, .ref q_stands, .ref q_crowd, .ref q_measure, .ref q_laid, .ref q_tried])), (q_measure, .inr (3, [.ref q_measure_row])), (q_measure_row, .inl (ca 0, 7, .inl y_measure_row_20)), (q_laid_heard, .inl (ca 0, 24, .inl v_laid_heard))]) (w1 := [(q_laid, .inr (0, [.ref q_laid_words, .ref q_laid_heard, .ref q_laid_canSay, .ref q_laid_instead, .ref q_laid_traders, .ref q_laid_takes, .ref q_laid_needs, .int v_laid_speaks, .int v_laid_alikeFrom])), (q_laid_words, .inl (ca 0, 16, .inl v_laid_words))]) (wn := [(q_this, .inr (7, [.ref q_text, .ref q_item, .ref q_stands, .ref q_crowd, .ref q_measure, .ref q_laid, .ref q_tried])), (q_measure, .inr (3, [.ref q_measure_row])), (q_measure_row, .inl (ca 0, 7, .inl y_measure_row_20)), (q_laid, .inr (0, [.ref q_laid_words, .ref q_laid_heard, .ref q_laid_canSay, .ref q_laid_instead, .ref q_laid_traders, .ref q_laid_takes, .ref q_laid_needs, .int v_laid_speaks, .int v_laid_alikeFrom])), (q_laid_words, .inl (ca 0, 16, .inl v_laid_words)), (q_laid_heard, .inl (ca 0, 24, .inl v_laid_heard))]) ⟨hx, hb, hml, hown, hts⟩ (c_X0_wordOf l D ca H.size q_laid q_laid_words q_laid_heard q_laid_canSay q_laid_instead q_laid_traders q_laid_takes q_laid_needs p2 x7_19 v_laid_speaks v_laid_alikeFrom v_laid_words r_27 hg_28) (cwV 2 hts gX9_chance_X0_wordOf rfl rfl rfl (by decide +kernel) ⟨(Nat.le_of_ble_eq_true rfl), (Nat.le_of_ble_eq_true rfl)⟩) hK hP hD hS hA (ci := 0) (q0 := 0) rfl rfl [3, 4] [0, 1, 2, 5] [0, 1, 2, 4, 5, 3] rfl rfl rfl rfl (by decide) rfl rfl rfl hl.1 rfl (Nat.le_of_ble_eq_true rfl) dX9_chance_70 ⟨Nat.zero_le _, Nat.zero_le _⟩ (fun H locs hP hD hS => ?_)
                      refine lv_istore (lv' := [(9, .int r_27), (8, .int r_25), (0, .ref q_this), (1, .int p1), (2, .int p2), (3, .int p3), (4, .int x4_17), (5, .int x5_18), (6, .int x6_11), (7, .int x7_19)]) hx hb dX9_chance_73 hl (by decide) rfl (fun ls hl => ?_)
                      refine lv_iload hx hb dX9_chance_75 (lv_at hl 8 rfl) ?_
                      refine lv_iload hx hb dX9_chance_77 (lv_at hl 9 rfl) ?_
                      refine lv_icmp_eq (tgt := 119) hx hb dX9_chance_79 (by decide) (fun c_29 => ?_) (fun c_29 => ?_)
                      · replace h := ifp_el c_29 h
                        obtain ⟨x7_30, e_31, h⟩ := nm_el h
                        refine lv_iinc (v := x7_30) (lv' := [(7, .int x7_30), (9, .int r_27), (8, .int r_25), (0, .ref q_this), (1, .int p1), (2, .int p2), (3, .int p3), (4, .int x4_17), (5, .int x5_18), (6, .int x6_11)]) hx hb dX9_chance_119 hl (k := 9) rfl (by rw [← e_31]; rfl) (by decide) rfl (fun ls hl => ?_)
                        refine lv_goto (tgt := 44) hx hb dX9_chance_122 (by decide) ?_
                        exact ih _ _ _ _ _ _ _ _ _ _ h hex hP hD hS (lv_sub hl [3, 4, 5, 6, 7, 8, 9, 0] rfl)
                      · replace h := ifn_el c_29 h
                        refine lv_iload hx hb dX9_chance_82 (lv_at hl 1 rfl) ?_
                        refine lv_if_eq (tgt := 119) hx hb dX9_chance_84 (by decide) (fun c_32 => ?_) (fun c_32 => ?_)
                        · replace h := ifp_el c_32 h
                          obtain ⟨x7_33, e_34, h⟩ := nm_el h
                          refine lv_iinc (v := x7_33) (lv' := [(7, .int x7_33), (9, .int r_27), (8, .int r_25), (0, .ref q_this), (1, .int p1), (2, .int p2), (3, .int p3), (4, .int x4_17), (5, .int x5_18), (6, .int x6_11)]) hx hb dX9_chance_119 hl (k := 9) rfl (by rw [← e_34]; rfl) (by decide) rfl (fun ls hl => ?_)
                          refine lv_goto (tgt := 44) hx hb dX9_chance_122 (by decide) ?_
                          exact ih _ _ _ _ _ _ _ _ _ _ h hex hP hD hS (lv_sub hl [3, 4, 5, 6, 7, 8, 9, 0] rfl)
                        · replace h := ifn_el c_32 h
                          refine lv_iload hx hb dX9_chance_87 (lv_at hl 0 rfl) ?_
                          refine lv_if_eq (tgt := 119) hx hb dX9_chance_89 (by decide) (fun c_35 => ?_) (fun c_35 => ?_)
                          · replace h := ifp_el c_35 h
                            obtain ⟨x7_36, e_37, h⟩ := nm_el h
                            refine lv_iinc (v := x7_36) (lv' := [(7, .int x7_36), (9, .int r_27), (8, .int r_25), (0, .ref q_this), (1, .int p1), (2, .int p2), (3, .int p3), (4, .int x4_17), (5, .int x5_18), (6, .int x6_11)]) hx hb dX9_chance_119 hl (k := 9) rfl (by rw [← e_37]; rfl) (by decide) rfl (fun ls hl => ?_)
                            refine lv_goto (tgt := 44) hx hb dX9_chance_122 (by decide) ?_
                            exact ih _ _ _ _ _ _ _ _ _ _ h hex hP hD hS (lv_sub hl [3, 4, 5, 6, 7, 8, 9, 0] rfl)
                          · replace h := ifn_el c_35 h
                            obtain ⟨x5_38, e_39, h⟩ := nm_el h
                            refine lv_iinc (v := x5_38) (lv' := [(5, .int x5_38), (9, .int r_27), (8, .int r_25), (0, .ref q_this), (1, .int p1), (2, .int p2), (3, .int p3), (4, .int x4_17), (6, .int x6_11), (7, .int x7_19)]) hx hb dX9_chance_92 hl (k := 7) rfl (by rw [← e_39]; rfl) (by decide) rfl (fun ls hl => ?_)
                            refine lv_aload_n hx hb dX9_chance_95 rfl (lv_at hl 3 rfl) ?_
                            refine va_get (D := D) (ci := 7) (v := .ref q_measure) (C := RX9) (T := TX9) (N := 7) hx hb hts i_X9 hown hK hP 0 rfl rfl 4 (by decide) k_42 (fun _ h9 => h9) rfl dX9_chance_96 ?_
                            refine lv_iload hx hb dX9_chance_99 (lv_at hl 2 rfl) ?_
                            refine lv_iload hx hb dX9_chance_101 (lv_at hl 1 rfl) ?_
                            obtain ⟨r_40, y_measure_row_41, hg_42, h⟩ := bd2_el h
                            refine kx_Vi (As := [.int r_25, .int r_27]) (rest := []) (wr := [(q_this, .inr (7, [.ref q_text, .ref q_item, .ref q_stands, .ref q_crowd, .ref q_measure, .ref q_laid, .ref q_tried])), (q_laid, .inr (0, [.ref q_laid_words, .ref q_laid_heard, .ref q_laid_canSay, .ref q_laid_instead, .ref q_laid_traders, .ref q_laid_takes, .ref q_laid_needs, .int v_laid_speaks, .int v_laid_alikeFrom])), (q_laid_words, .inl (ca 0, 16, .inl v_laid_words)), (q_laid_heard, .inl (ca 0, 24, .inl v_laid_heard))]) (w1 := [(q_measure, .inr (3, [.ref q_measure_row])), (q_measure_row, .inl (ca 0, 7, .inl y_measure_row_41))]) (wn := [(q_this, .inr (7, [.ref q_text, .ref q_item, .ref q_stands, .ref q_crowd, .ref q_measure, .ref q_laid, .ref q_tried])), (q_measure, .inr (3, [.ref q_measure_row])), (q_measure_row, .inl (ca 0, 7, .inl y_measure_row_41)), (q_laid, .inr (0, [.ref q_laid_words, .ref q_laid_heard, .ref q_laid_canSay, .ref q_laid_instead, .ref q_laid_traders, .ref q_laid_takes, .ref q_laid_needs, .int v_laid_speaks, .int v_laid_alikeFrom])), (q_laid_words, .inl (ca 0, 16, .inl v_laid_words)), (q_laid_heard, .inl (ca 0, 24, .inl v_laid_heard))]) ⟨hx, hb, hml, hown, hts⟩ (c_X3_likeness l D ca F H.size q_measure q_measure_row r_25 r_27 y_measure_row_20 r_40 y_measure_row_41 hg_42) (cwV 2 hts gX9_chance_X3_likeness rfl rfl rfl (by decide +kernel) ⟨(Nat.le_of_ble_eq_true rfl), (Nat.le_of_ble_eq_true rfl)⟩) hK hP hD hS hA (ci := 3) (q0 := 0) rfl rfl [1, 2] [0, 3, 4, 5] [0, 4, 5, 1, 2, 3] rfl rfl rfl rfl (by decide) rfl rfl rfl hl.1 rfl (Nat.le_of_ble_eq_true rfl) dX9_chance_103 ⟨Nat.zero_le _, Nat.zero_le _⟩ (fun H locs hP hD hS => ?_)
                            refine lv_aload_n hx hb dX9_chance_106 rfl (lv_at hl 3 rfl) ?_
                            refine va_get (D := D) (ci := 7) (v := .ref q_laid) (C := RX9) (T := TX9) (N := 7) hx hb hts i_X9 hown hK hP 0 rfl rfl 5 (by decide) k_49 (fun _ h9 => h9) rfl dX9_chance_107 ?_
                            obtain ⟨r_43, hg_44, h⟩ := bd1_el h
                            refine kx_Vi (As := []) (rest := [.int r_40]) (wr := [(q_this, .inr (7, [.ref q_text, .ref q_item, .ref q_stands, .ref q_crowd, .ref q_measure, .ref q_laid, .ref q_tried])), (q_measure, .inr (3, [.ref q_measure_row])), (q_measure_row, .inl (ca 0, 7, .inl y_measure_row_41)), (q_laid_words, .inl (ca 0, 16, .inl v_laid_words)), (q_laid_heard, .inl (ca 0, 24, .inl v_laid_heard))]) (w1 := [(q_laid, .inr (0, [.ref q_laid_words, .ref q_laid_heard, .ref q_laid_canSay, .ref q_laid_instead, .ref q_laid_traders, .ref q_laid_takes, .ref q_laid_needs, .int v_laid_speaks, .int v_laid_alikeFrom]))]) (wn := [(q_this, .inr (7, [.ref q_text, .ref q_item, .ref q_stands, .ref q_crowd, .ref q_measure, .ref q_laid, .ref q_tried])), (q_measure, .inr (3, [.ref q_measure_row])), (q_measure_row, .inl (ca 0, 7, .inl y_measure_row_41)), (q_laid, .inr (0, [.ref q_laid_words, .ref q_laid_heard, .ref q_laid_canSay, .ref q_laid_instead, .ref q_laid_traders, .ref q_laid_takes, .ref q_laid_needs, .int v_laid_speaks, .int v_laid_alikeFrom])), (q_laid_words, .inl (ca 0, 16, .inl v_laid_words)), (q_laid_heard, .inl (ca 0, 24, .inl v_laid_heard))]) ⟨hx, hb, hml, hown, hts⟩ (c_X0_alikeFrom l D ca H.size q_laid q_laid_words q_laid_heard q_laid_canSay q_laid_instead q_laid_traders q_laid_takes q_laid_needs v_laid_speaks v_laid_alikeFrom r_43 hg_44) (cwV 0 hts gX9_chance_X0_alikeFrom rfl rfl rfl (by decide +kernel) ⟨(Nat.le_of_ble_eq_true rfl), (Nat.le_of_ble_eq_true rfl)⟩) hK hP hD hS hA (ci := 0) (q0 := 0) rfl rfl [3] [0, 1, 2, 4, 5] [0, 1, 2, 5, 3, 4] rfl rfl rfl rfl (by decide) rfl rfl rfl hl.1 rfl (Nat.le_of_ble_eq_true rfl) dX9_chance_110 ⟨Nat.zero_le _, Nat.zero_le _⟩ (fun H locs hP hD hS => ?_)
                            refine lv_icmp_lt (tgt := 119) hx hb dX9_chance_113 (by decide) (fun c_45 => ?_) (fun c_45 => ?_)
                            · replace h := ifp_el c_45 h
                              obtain ⟨x7_46, e_47, h⟩ := nm_el h
                              refine lv_iinc (v := x7_46) (lv' := [(7, .int x7_46), (5, .int x5_38), (9, .int r_27), (8, .int r_25), (0, .ref q_this), (1, .int p1), (2, .int p2), (3, .int p3), (4, .int x4_17), (6, .int x6_11)]) hx hb dX9_chance_119 hl (k := 9) rfl (by rw [← e_47]; rfl) (by decide) rfl (fun ls hl => ?_)
                              refine lv_goto (tgt := 44) hx hb dX9_chance_122 (by decide) ?_
                              exact ih _ _ _ _ _ _ _ _ _ _ h hex hP hD hS (lv_sub hl [4, 5, 6, 7, 8, 1, 9, 0] rfl)
                            · replace h := ifn_el c_45 h
                              obtain ⟨x4_48, e_49, h⟩ := nm_el h
                              refine lv_iinc (v := x4_48) (lv' := [(4, .int x4_48), (5, .int x5_38), (9, .int r_27), (8, .int r_25), (0, .ref q_this), (1, .int p1), (2, .int p2), (3, .int p3), (6, .int x6_11), (7, .int x7_19)]) hx hb dX9_chance_116 hl (k := 7) rfl (by rw [← e_49]; rfl) (by decide) rfl (fun ls hl => ?_)
                              obtain ⟨x7_50, e_51, h⟩ := nm_el h
                              refine lv_iinc (v := x7_50) (lv' := [(7, .int x7_50), (4, .int x4_48), (5, .int x5_38), (9, .int r_27), (8, .int r_25), (0, .ref q_this), (1, .int p1), (2, .int p2), (3, .int p3), (6, .int x6_11)]) hx hb dX9_chance_119 hl (k := 9) rfl (by rw [← e_51]; rfl) (by decide) rfl (fun ls hl => ?_)
                              refine lv_goto (tgt := 44) hx hb dX9_chance_122 (by decide) ?_
                              exact ih _ _ _ _ _ _ _ _ _ _ h hex hP hD hS (lv_sub hl [5, 6, 7, 8, 1, 2, 9, 0] rfl)
                exact hlp F x4_9 x5_10 (nI 0) y_measure_row_12 o_21 o_22 o_23 H locs ls hL hex hP hD hS (lv_sub hl [1, 2, 3, 4, 5, 6, 7, 0] rfl)
          exact hlp F (nI 0) (nI 0) (nI 0) v_measure_row o_13 o_14 o_15 H locs ls hL hex hP hD hS (lv_sub hl [3, 4, 5, 6, 2, 1, 0] rfl)
        · replace h := ifn_el c_8 h
          refine lv_iconst (v := (-1 : Int32)) hx hb dX9_chance_23 (by decide) ?_
          cases h
          rw [← hQe]
          exact W.iret hx hb hr (fun t ht hW => ⟨⟨_, (), rfl, rfl, by rw [ht]; exact hP, va_K.moved hW.alike hK, hD⟩, hS.F ht⟩) hS.2.2 dX9_chance_24
def b_X9_apartFromOtherEars_5 (p1 : Int32) (p2 : Int32) (v_laid_heard : Nat → Int32) (F : Nat) (rec5 : Int32 → Int32 → (Nat → Int32) → Option (Int32 × (Nat → Int32))) (x3_1 : Int32) (x4_2 : Int32) (y_measure_row_3 : Nat → Int32) : Option (Int32 × (Nat → Int32)) := (if (nI 3) ≤ x4_2 then some (x3_1, y_measure_row_3) else bd1 (D_X0_heardBy x4_2 p2 v_laid_heard) (fun r_7 => (if x4_2 = p1 then nm (x4_2 + (nI 1)) (fun x4_10 => rec5 x3_1 x4_10 y_measure_row_3) else (if r_7 = 0 then nm (x4_2 + (nI 1)) (fun x4_13 => rec5 x3_1 x4_13 y_measure_row_3) else bd1 (D_X0_heardBy p1 p2 v_laid_heard) (fun r_15 => bd2 (D_X3_apart F r_15 r_7 y_measure_row_3) (fun r_17 y_measure_row_18 => nm (x3_1 + r_17) (fun x3_20 => nm (x4_2 + (nI 1)) (fun x4_21 => rec5 x3_20 x4_21 y_measure_row_18))))))))
def D_X9_apartFromOtherEars (F : Nat) (p1 : Int32) (p2 : Int32) (v_measure_row : Nat → Int32) (v_laid_heard : Nat → Int32) : Option (Int32 × (Nat → Int32)) := bd2 (lpg (T := Int32 → Int32 → (Nat → Int32) → Option (Int32 × (Nat → Int32))) (fun _ _ _ => none) (b_X9_apartFromOtherEars_5 p1 p2 v_laid_heard F) F (nI 0) (nI 0) v_measure_row) (fun o_4 o_5 => some (o_4, o_5))
abbrev rm_X9_apartFromOtherEars : Room := { frames := 2, cells := 0, slots := 0, locals := 48 }
set_option maxHeartbeats 4000000 in
set_option maxRecDepth 100000 in
theorem c_X9_apartFromOtherEars (l : Launch) (D : va_G) (ca : Nat → ClassId) (F : Nat) (sz : Nat) (q_this q_text q_item q_stands q_crowd q_measure q_measure_row q_laid q_laid_words q_laid_heard q_laid_canSay q_laid_instead q_laid_traders q_laid_takes q_laid_needs q_tried : Nat) (p1 : Int32) (p2 : Int32) (v_measure_row : Nat → Int32) (v_laid_speaks : Int32) (v_laid_alikeFrom : Int32) (v_laid_heard : Nat → Int32) (r : Int32) (o_measure_row : Nat → Int32) (h : D_X9_apartFromOtherEars F p1 p2 v_measure_row v_laid_heard = some (r, o_measure_row)) : Met l yX9_apartFromOtherEars wsX9_apartFromOtherEars rm_X9_apartFromOtherEars (va_Pc [.ref q_this, .int p1, .int p2] (kPre D ca [(q_this, .inr (7, [.ref q_text, .ref q_item, .ref q_stands, .ref q_crowd, .ref q_measure, .ref q_laid, .ref q_tried])), (q_measure, .inr (3, [.ref q_measure_row])), (q_measure_row, .inl (ca 0, 7, .inl v_measure_row)), (q_laid, .inr (0, [.ref q_laid_words, .ref q_laid_heard, .ref q_laid_canSay, .ref q_laid_instead, .ref q_laid_traders, .ref q_laid_takes, .ref q_laid_needs, .int v_laid_speaks, .int v_laid_alikeFrom])), (q_laid_heard, .inl (ca 0, 24, .inl v_laid_heard))] sz)) (kQi D ca (va_A [(q_this, .inr (7, [.ref q_text, .ref q_item, .ref q_stands, .ref q_crowd, .ref q_measure, .ref q_laid, .ref q_tried])), (q_measure, .inr (3, [.ref q_measure_row])), (q_measure_row, .inl (ca 0, 7, .inl v_measure_row)), (q_laid, .inr (0, [.ref q_laid_words, .ref q_laid_heard, .ref q_laid_canSay, .ref q_laid_instead, .ref q_laid_traders, .ref q_laid_takes, .ref q_laid_needs, .int v_laid_speaks, .int v_laid_alikeFrom])), (q_laid_heard, .inl (ca 0, 24, .inl v_laid_heard))] sz) [(q_this, .inr (7, [.ref q_text, .ref q_item, .ref q_stands, .ref q_crowd, .ref q_measure, .ref q_laid, .ref q_tried])), (q_measure, .inr (3, [.ref q_measure_row])), (q_measure_row, .inl (ca 0, 7, .inl o_measure_row)), (q_laid, .inr (0, [.ref q_laid_words, .ref q_laid_heard, .ref q_laid_canSay, .ref q_laid_instead, .ref q_laid_traders, .ref q_laid_takes, .ref q_laid_needs, .int v_laid_speaks, .int v_laid_alikeFrom])), (q_laid_heard, .inl (ca 0, 24, .inl v_laid_heard))] r) 0 0 (va_A [(q_this, .inr (7, [.ref q_text, .ref q_item, .ref q_stands, .ref q_crowd, .ref q_measure, .ref q_laid, .ref q_tried])), (q_measure, .inr (3, [.ref q_measure_row])), (q_measure_row, .inl (ca 0, 7, .inl v_measure_row)), (q_laid, .inr (0, [.ref q_laid_words, .ref q_laid_heard, .ref q_laid_canSay, .ref q_laid_instead, .ref q_laid_traders, .ref q_laid_takes, .ref q_laid_needs, .int v_laid_speaks, .int v_laid_alikeFrom])), (q_laid_heard, .inl (ca 0, 24, .inl v_laid_heard))] sz) := by
  refine Met.ofW (cc := cX9_apartFromOtherEars) (maxL := 6) (ret := (some .int)) (by decide +kernel) rfl ?_
  intro p e s m args below meth c s₁ B hml hv
  obtain ⟨rfl, hsz, hP, hK, hD0⟩ := hv
  have hx := B.exec
  have hb := B.bytes
  have hr := B.returns
  have hts := atoms_spec (ws := wsX9_apartFromOtherEars) B.pre
  have hown : s.vm.findClass RX9 = some m.cls := findClass_of_methodNamed B.named
  have hlocks := B.notSynchronized
  clear B
  subst hsz
  have hD := hD0.self (sz := s.heap.size)
  generalize hAe : va_A [(q_this, .inr (7, [.ref q_text, .ref q_item, .ref q_stands, .ref q_crowd, .ref q_measure, .ref q_laid, .ref q_tried])), (q_measure, .inr (3, [.ref q_measure_row])), (q_measure_row, .inl (ca 0, 7, .inl v_measure_row)), (q_laid, .inr (0, [.ref q_laid_words, .ref q_laid_heard, .ref q_laid_canSay, .ref q_laid_instead, .ref q_laid_traders, .ref q_laid_takes, .ref q_laid_needs, .int v_laid_speaks, .int v_laid_alikeFrom])), (q_laid_heard, .inl (ca 0, 24, .inl v_laid_heard))] s.heap.size = A at hD ⊢
  have hA : ∀ q : Nat, s.heap.size ≤ q → A q := fun q h => by rw [← hAe]; exact Or.inr h
  have hS : va_S A s.heap s.heap [] := va_S.rf
  have hl := lv_entry ([.ref q_this, .int p1, .int p2]) (n := 6) (Nat.le_of_ble_eq_true rfl)
  rw [lg_entry_eq]
  generalize (lg_sl ([.ref q_this, .int p1, .int p2]) ++ List.replicate (6 - (lg_sl ([.ref q_this, .int p1, .int p2])).length) Slot.unset).toArray = ls at hl ⊢
  have hl : lv_has ls 6 [(0, .ref q_this), (1, .int p1), (2, .int p2)] := hl
  generalize ([.ref q_this, .int p1, .int p2] : List Value).toArray = args at hts ⊢
  generalize hQe : MQ below (kQi D ca (A) [(q_this, .inr (7, [.ref q_text, .ref q_item, .ref q_stands, .ref q_crowd, .ref q_measure, .ref q_laid, .ref q_tried])), (q_measure, .inr (3, [.ref q_measure_row])), (q_measure_row, .inl (ca 0, 7, .inl o_measure_row)), (q_laid, .inr (0, [.ref q_laid_words, .ref q_laid_heard, .ref q_laid_canSay, .ref q_laid_instead, .ref q_laid_traders, .ref q_laid_takes, .ref q_laid_needs, .int v_laid_speaks, .int v_laid_alikeFrom])), (q_laid_heard, .inl (ca 0, 24, .inl v_laid_heard))] r) args s 0 0 A = Q
  have i_X9 : ∀ w ∈ u_ws RX9 TX9 7, w ∈ wsX9_apartFromOtherEars := by decide +kernel
  have k_49 := hts (.fieldLink RX9 49 "TradeWords" "laid" "LTradeWords$Beach;") (by decide +kernel)
  have k_42 := hts (.fieldLink RX9 42 "TradeWords" "measure" "LTradeWords$Measure;") (by decide +kernel)
  rw [D_X9_apartFromOtherEars] at h
  refine lv_iconst (v := (nI 0)) hx hb dX9_apartFromOtherEars_0 (by decide) ?_
  refine lv_istore_n (lv' := [(3, .int (nI 0)), (0, .ref q_this), (1, .int p1), (2, .int p2)]) hx hb dX9_apartFromOtherEars_1 rfl hl (by decide) rfl (fun ls hl => ?_)
  refine lv_iconst (v := (nI 0)) hx hb dX9_apartFromOtherEars_2 (by decide) ?_
  refine lv_istore (lv' := [(4, .int (nI 0)), (3, .int (nI 0)), (0, .ref q_this), (1, .int p1), (2, .int p2)]) hx hb dX9_apartFromOtherEars_3 hl (by decide) rfl (fun ls hl => ?_)
  obtain ⟨o_4, o_5, hL, h⟩ := bd2_el h
  have hex : ∀ (H : Heap) (locs : List Loc) (ls : Array Slot), va_P D vwCl [(q_this, .inr (7, [.ref q_text, .ref q_item, .ref q_stands, .ref q_crowd, .ref q_measure, .ref q_laid, .ref q_tried])), (q_measure, .inr (3, [.ref q_measure_row])), (q_measure_row, .inl (ca 0, 7, .inl o_5)), (q_laid, .inr (0, [.ref q_laid_words, .ref q_laid_heard, .ref q_laid_canSay, .ref q_laid_instead, .ref q_laid_traders, .ref q_laid_takes, .ref q_laid_needs, .int v_laid_speaks, .int v_laid_alikeFrom])), (q_laid_heard, .inl (ca 0, 24, .inl v_laid_heard))] H → va_D A [(q_this, .inr (7, [.ref q_text, .ref q_item, .ref q_stands, .ref q_crowd, .ref q_measure, .ref q_laid, .ref q_tried])), (q_measure, .inr (3, [.ref q_measure_row])), (q_measure_row, .inl (ca 0, 7, .inl o_5)), (q_laid, .inr (0, [.ref q_laid_words, .ref q_laid_heard, .ref q_laid_canSay, .ref q_laid_instead, .ref q_laid_traders, .ref q_laid_takes, .ref q_laid_needs, .int v_laid_speaks, .int v_laid_alikeFrom])), (q_laid_heard, .inl (ca 0, 24, .inl v_laid_heard))] → va_S A s.heap H locs → lv_has ls 6 [(3, .int o_4)] → W p l e (headSpec wsX9_apartFromOtherEars rm_X9_apartFromOtherEars).room s m args below meth c H locs 0 0 Q (F0 m 61 ls []) := by
    intro H locs ls hP hD hS hl
    refine lv_iload_n hx hb dX9_apartFromOtherEars_61 rfl (lv_at hl 0 rfl) ?_
    cases h
    rw [← hQe]
    exact W.iret hx hb hr (fun t ht hW => ⟨⟨_, (), rfl, rfl, by rw [ht]; exact hP, va_K.moved hW.alike hK, hD⟩, hS.F ht⟩) hS.2.2 dX9_apartFromOtherEars_62
  have hlp : ∀ (n : Nat) (x3_1 : Int32) (x4_2 : Int32) (y_measure_row_3 : Nat → Int32) (o_4 : Int32) (o_5 : Nat → Int32) (H : Heap) (locs : List Loc) (ls : Array Slot), lpg (T := Int32 → Int32 → (Nat → Int32) → Option (Int32 × (Nat → Int32))) (fun _ _ _ => none) (b_X9_apartFromOtherEars_5 p1 p2 v_laid_heard F) n x3_1 x4_2 y_measure_row_3 = some (o_4, o_5) → (∀ (H : Heap) (locs : List Loc) (ls : Array Slot), va_P D vwCl [(q_this, .inr (7, [.ref q_text, .ref q_item, .ref q_stands, .ref q_crowd, .ref q_measure, .ref q_laid, .ref q_tried])), (q_measure, .inr (3, [.ref q_measure_row])), (q_measure_row, .inl (ca 0, 7, .inl o_5)), (q_laid, .inr (0, [.ref q_laid_words, .ref q_laid_heard, .ref q_laid_canSay, .ref q_laid_instead, .ref q_laid_traders, .ref q_laid_takes, .ref q_laid_needs, .int v_laid_speaks, .int v_laid_alikeFrom])), (q_laid_heard, .inl (ca 0, 24, .inl v_laid_heard))] H → va_D A [(q_this, .inr (7, [.ref q_text, .ref q_item, .ref q_stands, .ref q_crowd, .ref q_measure, .ref q_laid, .ref q_tried])), (q_measure, .inr (3, [.ref q_measure_row])), (q_measure_row, .inl (ca 0, 7, .inl o_5)), (q_laid, .inr (0, [.ref q_laid_words, .ref q_laid_heard, .ref q_laid_canSay, .ref q_laid_instead, .ref q_laid_traders, .ref q_laid_takes, .ref q_laid_needs, .int v_laid_speaks, .int v_laid_alikeFrom])), (q_laid_heard, .inl (ca 0, 24, .inl v_laid_heard))] → va_S A s.heap H locs → lv_has ls 6 [(3, .int o_4)] → W p l e (headSpec wsX9_apartFromOtherEars rm_X9_apartFromOtherEars).room s m args below meth c H locs 0 0 Q (F0 m 61 ls [])) → va_P D vwCl [(q_this, .inr (7, [.ref q_text, .ref q_item, .ref q_stands, .ref q_crowd, .ref q_measure, .ref q_laid, .ref q_tried])), (q_measure, .inr (3, [.ref q_measure_row])), (q_measure_row, .inl (ca 0, 7, .inl y_measure_row_3)), (q_laid, .inr (0, [.ref q_laid_words, .ref q_laid_heard, .ref q_laid_canSay, .ref q_laid_instead, .ref q_laid_traders, .ref q_laid_takes, .ref q_laid_needs, .int v_laid_speaks, .int v_laid_alikeFrom])), (q_laid_heard, .inl (ca 0, 24, .inl v_laid_heard))] H → va_D A [(q_this, .inr (7, [.ref q_text, .ref q_item, .ref q_stands, .ref q_crowd, .ref q_measure, .ref q_laid, .ref q_tried])), (q_measure, .inr (3, [.ref q_measure_row])), (q_measure_row, .inl (ca 0, 7, .inl y_measure_row_3)), (q_laid, .inr (0, [.ref q_laid_words, .ref q_laid_heard, .ref q_laid_canSay, .ref q_laid_instead, .ref q_laid_traders, .ref q_laid_takes, .ref q_laid_needs, .int v_laid_speaks, .int v_laid_alikeFrom])), (q_laid_heard, .inl (ca 0, 24, .inl v_laid_heard))] → va_S A s.heap H locs → lv_has ls 6 [(0, .ref q_this), (1, .int p1), (2, .int p2), (3, .int x3_1), (4, .int x4_2)] → W p l e (headSpec wsX9_apartFromOtherEars rm_X9_apartFromOtherEars).room s m args below meth c H locs 0 0 Q (F0 m 5 ls []) := by
    intro n
    induction n with
    | zero => intro x3_1 x4_2 y_measure_row_3 o_4 o_5 H locs ls h; have h : (none : Option (Int32 × (Nat → Int32))) = some _ := h; cases h
    | succ n ih =>
      intro x3_1 x4_2 y_measure_row_3 o_4 o_5 H locs ls h hex hP hD hS hl
      rw [lpg_succ, b_X9_apartFromOtherEars_5] at h
      refine lv_iload hx hb dX9_apartFromOtherEars_5 (lv_at hl 4 rfl) ?_
      refine lv_iconst (v := (nI 3)) hx hb dX9_apartFromOtherEars_7 (by decide) ?_
      refine lv_icmp_ge (tgt := 61) hx hb dX9_apartFromOtherEars_8 (by decide) (fun c_6 => ?_) (fun c_6 => ?_)
      · replace h := ifp_el c_6 h
        cases h
        exact hex _ _ _ hP hD hS (lv_sub hl [3] rfl)
      · replace h := ifn_el c_6 h
        refine lv_aload_n hx hb dX9_apartFromOtherEars_11 rfl (lv_at hl 0 rfl) ?_
        refine va_get (D := D) (ci := 7) (v := .ref q_laid) (C := RX9) (T := TX9) (N := 7) hx hb hts i_X9 hown hK hP 0 rfl rfl 5 (by decide) k_49 (fun _ h9 => h9) rfl dX9_apartFromOtherEars_12 ?_
        refine lv_iload hx hb dX9_apartFromOtherEars_15 (lv_at hl 4 rfl) ?_
        refine lv_iload_n hx hb dX9_apartFromOtherEars_17 rfl (lv_at hl 2 rfl) ?_
        obtain ⟨r_7, hg_8, h⟩ := bd1_el h
        refine kx_Vi (As := [.int x4_2, .int p2]) (rest := []) (wr := [(q_this, .inr (7, [.ref q_text, .ref q_item, .ref q_stands, .ref q_crowd, .ref q_measure, .ref q_laid, .ref q_tried])), (q_measure, .inr (3, [.ref q_measure_row])), (q_measure_row, .inl (ca 0, 7, .inl y_measure_row_3))]) (w1 := [(q_laid, .inr (0, [.ref q_laid_words, .ref q_laid_heard, .ref q_laid_canSay, .ref q_laid_instead, .ref q_laid_traders, .ref q_laid_takes, .ref q_laid_needs, .int v_laid_speaks, .int v_laid_alikeFrom])), (q_laid_heard, .inl (ca 0, 24, .inl v_laid_heard))]) (wn := [(q_this, .inr (7, [.ref q_text, .ref q_item, .ref q_stands, .ref q_crowd, .ref q_measure, .ref q_laid, .ref q_tried])), (q_measure, .inr (3, [.ref q_measure_row])), (q_measure_row, .inl (ca 0, 7, .inl y_measure_row_3)), (q_laid, .inr (0, [.ref q_laid_words, .ref q_laid_heard, .ref q_laid_canSay, .ref q_laid_instead, .ref q_laid_traders, .ref q_laid_takes, .ref q_laid_needs, .int v_laid_speaks, .int v_laid_alikeFrom])), (q_laid_heard, .inl (ca 0, 24, .inl v_laid_heard))]) ⟨hx, hb, hml, hown, hts⟩ (c_X0_heardBy l D ca H.size q_laid q_laid_words q_laid_heard q_laid_canSay q_laid_instead q_laid_traders q_laid_takes q_laid_needs x4_2 p2 v_laid_speaks v_laid_alikeFrom v_laid_heard r_7 hg_8) (cwV 2 hts gX9_apartFromOtherEars_X0_heardBy rfl rfl rfl (by decide +kernel) ⟨(Nat.le_of_ble_eq_true rfl), (Nat.le_of_ble_eq_true rfl)⟩) hK hP hD hS hA (ci := 0) (q0 := 0) rfl rfl [3, 4] [0, 1, 2] [0, 1, 2, 3, 4] rfl rfl rfl rfl (by decide) rfl rfl rfl hl.1 rfl (Nat.le_of_ble_eq_true rfl) dX9_apartFromOtherEars_18 ⟨Nat.zero_le _, Nat.zero_le _⟩ (fun H locs hP hD hS => ?_)
        refine lv_istore (lv' := [(5, .int r_7), (0, .ref q_this), (1, .int p1), (2, .int p2), (3, .int x3_1), (4, .int x4_2)]) hx hb dX9_apartFromOtherEars_21 hl (by decide) rfl (fun ls hl => ?_)
        refine lv_iload hx hb dX9_apartFromOtherEars_23 (lv_at hl 5 rfl) ?_
        refine lv_iload_n hx hb dX9_apartFromOtherEars_25 rfl (lv_at hl 2 rfl) ?_
        refine lv_icmp_eq (tgt := 55) hx hb dX9_apartFromOtherEars_26 (by decide) (fun c_9 => ?_) (fun c_9 => ?_)
        · replace h := ifp_el c_9 h
          obtain ⟨x4_10, e_11, h⟩ := nm_el h
          refine lv_iinc (v := x4_10) (lv' := [(4, .int x4_10), (5, .int r_7), (0, .ref q_this), (1, .int p1), (2, .int p2), (3, .int x3_1)]) hx hb dX9_apartFromOtherEars_55 hl (k := 5) rfl (by rw [← e_11]; rfl) (by decide) rfl (fun ls hl => ?_)
          refine lv_goto (tgt := 5) hx hb dX9_apartFromOtherEars_58 (by decide) ?_
          exact ih _ _ _ _ _ _ _ _ h hex hP hD hS (lv_sub hl [2, 3, 4, 5, 0] rfl)
        · replace h := ifn_el c_9 h
          refine lv_iload hx hb dX9_apartFromOtherEars_29 (lv_at hl 0 rfl) ?_
          refine lv_if_eq (tgt := 55) hx hb dX9_apartFromOtherEars_31 (by decide) (fun c_12 => ?_) (fun c_12 => ?_)
          · replace h := ifp_el c_12 h
            obtain ⟨x4_13, e_14, h⟩ := nm_el h
            refine lv_iinc (v := x4_13) (lv' := [(4, .int x4_13), (5, .int r_7), (0, .ref q_this), (1, .int p1), (2, .int p2), (3, .int x3_1)]) hx hb dX9_apartFromOtherEars_55 hl (k := 5) rfl (by rw [← e_14]; rfl) (by decide) rfl (fun ls hl => ?_)
            refine lv_goto (tgt := 5) hx hb dX9_apartFromOtherEars_58 (by decide) ?_
            exact ih _ _ _ _ _ _ _ _ h hex hP hD hS (lv_sub hl [2, 3, 4, 5, 0] rfl)
          · replace h := ifn_el c_12 h
            refine lv_iload_n hx hb dX9_apartFromOtherEars_34 rfl (lv_at hl 4 rfl) ?_
            refine lv_aload_n hx hb dX9_apartFromOtherEars_35 rfl (lv_at hl 1 rfl) ?_
            refine va_get (D := D) (ci := 7) (v := .ref q_measure) (C := RX9) (T := TX9) (N := 7) hx hb hts i_X9 hown hK hP 0 rfl rfl 4 (by decide) k_42 (fun _ h9 => h9) rfl dX9_apartFromOtherEars_36 ?_
            refine lv_aload_n hx hb dX9_apartFromOtherEars_39 rfl (lv_at hl 1 rfl) ?_
            refine va_get (D := D) (ci := 7) (v := .ref q_laid) (C := RX9) (T := TX9) (N := 7) hx hb hts i_X9 hown hK hP 0 rfl rfl 5 (by decide) k_49 (fun _ h9 => h9) rfl dX9_apartFromOtherEars_40 ?_
            refine lv_iload_n hx hb dX9_apartFromOtherEars_43 rfl (lv_at hl 2 rfl) ?_
            refine lv_iload_n hx hb dX9_apartFromOtherEars_44 rfl (lv_at hl 3 rfl) ?_
            obtain ⟨r_15, hg_16, h⟩ := bd1_el h
            refine kx_Vi (As := [.int p1, .int p2]) (rest := [.ref q_measure, .int x3_1]) (wr := [(q_this, .inr (7, [.ref q_text, .ref q_item, .ref q_stands, .ref q_crowd, .ref q_measure, .ref q_laid, .ref q_tried])), (q_measure, .inr (3, [.ref q_measure_row])), (q_measure_row, .inl (ca 0, 7, .inl y_measure_row_3))]) (w1 := [(q_laid, .inr (0, [.ref q_laid_words, .ref q_laid_heard, .ref q_laid_canSay, .ref q_laid_instead, .ref q_laid_traders, .ref q_laid_takes, .ref q_laid_needs, .int v_laid_speaks, .int v_laid_alikeFrom])), (q_laid_heard, .inl (ca 0, 24, .inl v_laid_heard))]) (wn := [(q_this, .inr (7, [.ref q_text, .ref q_item, .ref q_stands, .ref q_crowd, .ref q_measure, .ref q_laid, .ref q_tried])), (q_measure, .inr (3, [.ref q_measure_row])), (q_measure_row, .inl (ca 0, 7, .inl y_measure_row_3)), (q_laid, .inr (0, [.ref q_laid_words, .ref q_laid_heard, .ref q_laid_canSay, .ref q_laid_instead, .ref q_laid_traders, .ref q_laid_takes, .ref q_laid_needs, .int v_laid_speaks, .int v_laid_alikeFrom])), (q_laid_heard, .inl (ca 0, 24, .inl v_laid_heard))]) ⟨hx, hb, hml, hown, hts⟩ (c_X0_heardBy l D ca H.size q_laid q_laid_words q_laid_heard q_laid_canSay q_laid_instead q_laid_traders q_laid_takes q_laid_needs p1 p2 v_laid_speaks v_laid_alikeFrom v_laid_heard r_15 hg_16) (cwV 2 hts gX9_apartFromOtherEars_X0_heardBy rfl rfl rfl (by decide +kernel) ⟨(Nat.le_of_ble_eq_true rfl), (Nat.le_of_ble_eq_true rfl)⟩) hK hP hD hS hA (ci := 0) (q0 := 0) rfl rfl [3, 4] [0, 1, 2] [0, 1, 2, 3, 4] rfl rfl rfl rfl (by decide) rfl rfl rfl hl.1 rfl (Nat.le_of_ble_eq_true rfl) dX9_apartFromOtherEars_45 ⟨Nat.zero_le _, Nat.zero_le _⟩ (fun H locs hP hD hS => ?_)
            refine lv_iload hx hb dX9_apartFromOtherEars_48 (lv_at hl 0 rfl) ?_
            obtain ⟨r_17, y_measure_row_18, hg_19, h⟩ := bd2_el h
            refine kx_Vi (As := [.int r_15, .int r_7]) (rest := [.int x3_1]) (wr := [(q_this, .inr (7, [.ref q_text, .ref q_item, .ref q_stands, .ref q_crowd, .ref q_measure, .ref q_laid, .ref q_tried])), (q_laid, .inr (0, [.ref q_laid_words, .ref q_laid_heard, .ref q_laid_canSay, .ref q_laid_instead, .ref q_laid_traders, .ref q_laid_takes, .ref q_laid_needs, .int v_laid_speaks, .int v_laid_alikeFrom])), (q_laid_heard, .inl (ca 0, 24, .inl v_laid_heard))]) (w1 := [(q_measure, .inr (3, [.ref q_measure_row])), (q_measure_row, .inl (ca 0, 7, .inl y_measure_row_18))]) (wn := [(q_this, .inr (7, [.ref q_text, .ref q_item, .ref q_stands, .ref q_crowd, .ref q_measure, .ref q_laid, .ref q_tried])), (q_measure, .inr (3, [.ref q_measure_row])), (q_measure_row, .inl (ca 0, 7, .inl y_measure_row_18)), (q_laid, .inr (0, [.ref q_laid_words, .ref q_laid_heard, .ref q_laid_canSay, .ref q_laid_instead, .ref q_laid_traders, .ref q_laid_takes, .ref q_laid_needs, .int v_laid_speaks, .int v_laid_alikeFrom])), (q_laid_heard, .inl (ca 0, 24, .inl v_laid_heard))]) ⟨hx, hb, hml, hown, hts⟩ (c_X3_apart l D ca F H.size q_measure q_measure_row r_15 r_7 y_measure_row_3 r_17 y_measure_row_18 hg_19) (cwV 2 hts gX9_apartFromOtherEars_X3_apart rfl rfl rfl (by decide +kernel) ⟨(Nat.le_of_ble_eq_true rfl), (Nat.le_of_ble_eq_true rfl)⟩) hK hP hD hS hA (ci := 3) (q0 := 0) rfl rfl [1, 2] [0, 3, 4] [0, 3, 4, 1, 2] rfl rfl rfl rfl (by decide) rfl rfl rfl hl.1 rfl (Nat.le_of_ble_eq_true rfl) dX9_apartFromOtherEars_50 ⟨Nat.zero_le _, Nat.zero_le _⟩ (fun H locs hP hD hS => ?_)
            refine lv_iadd hx hb dX9_apartFromOtherEars_53 ?_
            refine lv_nmi h (fun x3_20 h => ?_)
            refine lv_istore_n (lv' := [(3, .int x3_20), (5, .int r_7), (0, .ref q_this), (1, .int p1), (2, .int p2), (4, .int x4_2)]) hx hb dX9_apartFromOtherEars_54 rfl hl (by decide) rfl (fun ls hl => ?_)
            obtain ⟨x4_21, e_22, h⟩ := nm_el h
            refine lv_iinc (v := x4_21) (lv' := [(4, .int x4_21), (3, .int x3_20), (5, .int r_7), (0, .ref q_this), (1, .int p1), (2, .int p2)]) hx hb dX9_apartFromOtherEars_55 hl (k := 5) rfl (by rw [← e_22]; rfl) (by decide) rfl (fun ls hl => ?_)
            refine lv_goto (tgt := 5) hx hb dX9_apartFromOtherEars_58 (by decide) ?_
            exact ih _ _ _ _ _ _ _ _ h hex hP hD hS (lv_sub hl [3, 4, 5, 1, 0] rfl)
  exact hlp F (nI 0) (nI 0) v_measure_row o_4 o_5 s.heap [] ls hL hex hP hD hS (lv_sub hl [2, 3, 4, 1, 0] rfl)
def b_X9_joined_18 (p1 : Int32) (v_laid_heard : Nat → Int32) (F : Nat) (rec18 : Int32 → Int32 → Int32 → (Nat → Int32) → Option (Int32 × (Nat → Int32))) (x2_4 : Int32) (x3_5 : Int32) (x4_6 : Int32) (y_measure_row_7 : Nat → Int32) : Option (Int32 × (Nat → Int32)) := (if (nI 3) ≤ x4_6 then some (x2_4, y_measure_row_7) else bd1 (D_X0_heardBy x4_6 p1 v_laid_heard) (fun r_11 => (if r_11 = 0 then nm (x4_6 + (nI 1)) (fun x4_14 => rec18 x2_4 x3_5 x4_14 y_measure_row_7) else bd2 (D_X9_apartFromOtherEars F x4_6 p1 y_measure_row_7 v_laid_heard) (fun r_16 y_measure_row_17 => (if x3_5 ≤ r_16 then nm (x4_6 + (nI 1)) (fun x4_20 => rec18 x2_4 x3_5 x4_20 y_measure_row_17) else nm (x4_6 + (nI 1)) (fun x4_22 => rec18 x4_6 r_16 x4_22 y_measure_row_17))))))
def D_X9_joined (F : Nat) (p1 : Int32) (v_measure_row : Nat → Int32) (v_laid_heard : Nat → Int32) : Option (Int32 × (Nat → Int32)) := bd1 (D_X9_isMeaning p1) (fun r_1 => (if r_1 = 0 then some ((-1 : Int32), v_measure_row) else bd2 (lpg (T := Int32 → Int32 → Int32 → (Nat → Int32) → Option (Int32 × (Nat → Int32))) (fun _ _ _ _ => none) (b_X9_joined_18 p1 v_laid_heard F) F (-4 : Int32) (nI 18) (nI 0) v_measure_row) (fun o_8 o_9 => some (o_8, o_9))))
abbrev rm_X9_joined : Room := { frames := 3, cells := 0, slots := 0, locals := 73 }
set_option maxHeartbeats 4000000 in
set_option maxRecDepth 100000 in
theorem c_X9_joined (l : Launch) (D : va_G) (ca : Nat → ClassId) (F : Nat) (sz : Nat) (q_this q_text q_item q_stands q_crowd q_measure q_measure_row q_laid q_laid_words q_laid_heard q_laid_canSay q_laid_instead q_laid_traders q_laid_takes q_laid_needs q_tried : Nat) (p1 : Int32) (v_measure_row : Nat → Int32) (v_laid_speaks : Int32) (v_laid_alikeFrom : Int32) (v_laid_heard : Nat → Int32) (r : Int32) (o_measure_row : Nat → Int32) (h : D_X9_joined F p1 v_measure_row v_laid_heard = some (r, o_measure_row)) : Met l yX9_joined wsX9_joined rm_X9_joined (va_Pc [.ref q_this, .int p1] (kPre D ca [(q_this, .inr (7, [.ref q_text, .ref q_item, .ref q_stands, .ref q_crowd, .ref q_measure, .ref q_laid, .ref q_tried])), (q_measure, .inr (3, [.ref q_measure_row])), (q_measure_row, .inl (ca 0, 7, .inl v_measure_row)), (q_laid, .inr (0, [.ref q_laid_words, .ref q_laid_heard, .ref q_laid_canSay, .ref q_laid_instead, .ref q_laid_traders, .ref q_laid_takes, .ref q_laid_needs, .int v_laid_speaks, .int v_laid_alikeFrom])), (q_laid_heard, .inl (ca 0, 24, .inl v_laid_heard))] sz)) (kQi D ca (va_A [(q_this, .inr (7, [.ref q_text, .ref q_item, .ref q_stands, .ref q_crowd, .ref q_measure, .ref q_laid, .ref q_tried])), (q_measure, .inr (3, [.ref q_measure_row])), (q_measure_row, .inl (ca 0, 7, .inl v_measure_row)), (q_laid, .inr (0, [.ref q_laid_words, .ref q_laid_heard, .ref q_laid_canSay, .ref q_laid_instead, .ref q_laid_traders, .ref q_laid_takes, .ref q_laid_needs, .int v_laid_speaks, .int v_laid_alikeFrom])), (q_laid_heard, .inl (ca 0, 24, .inl v_laid_heard))] sz) [(q_this, .inr (7, [.ref q_text, .ref q_item, .ref q_stands, .ref q_crowd, .ref q_measure, .ref q_laid, .ref q_tried])), (q_measure, .inr (3, [.ref q_measure_row])), (q_measure_row, .inl (ca 0, 7, .inl o_measure_row)), (q_laid, .inr (0, [.ref q_laid_words, .ref q_laid_heard, .ref q_laid_canSay, .ref q_laid_instead, .ref q_laid_traders, .ref q_laid_takes, .ref q_laid_needs, .int v_laid_speaks, .int v_laid_alikeFrom])), (q_laid_heard, .inl (ca 0, 24, .inl v_laid_heard))] r) 0 0 (va_A [(q_this, .inr (7, [.ref q_text, .ref q_item, .ref q_stands, .ref q_crowd, .ref q_measure, .ref q_laid, .ref q_tried])), (q_measure, .inr (3, [.ref q_measure_row])), (q_measure_row, .inl (ca 0, 7, .inl v_measure_row)), (q_laid, .inr (0, [.ref q_laid_words, .ref q_laid_heard, .ref q_laid_canSay, .ref q_laid_instead, .ref q_laid_traders, .ref q_laid_takes, .ref q_laid_needs, .int v_laid_speaks, .int v_laid_alikeFrom])), (q_laid_heard, .inl (ca 0, 24, .inl v_laid_heard))] sz) := by
  refine Met.ofW (cc := cX9_joined) (maxL := 6) (ret := (some .int)) (by decide +kernel) rfl ?_
  intro p e s m args below meth c s₁ B hml hv
  obtain ⟨rfl, hsz, hP, hK, hD0⟩ := hv
  have hx := B.exec
  have hb := B.bytes
  have hr := B.returns
  have hts := atoms_spec (ws := wsX9_joined) B.pre
  have hown : s.vm.findClass RX9 = some m.cls := findClass_of_methodNamed B.named
  have hlocks := B.notSynchronized
  clear B
  subst hsz
  have hD := hD0.self (sz := s.heap.size)
  generalize hAe : va_A [(q_this, .inr (7, [.ref q_text, .ref q_item, .ref q_stands, .ref q_crowd, .ref q_measure, .ref q_laid, .ref q_tried])), (q_measure, .inr (3, [.ref q_measure_row])), (q_measure_row, .inl (ca 0, 7, .inl v_measure_row)), (q_laid, .inr (0, [.ref q_laid_words, .ref q_laid_heard, .ref q_laid_canSay, .ref q_laid_instead, .ref q_laid_traders, .ref q_laid_takes, .ref q_laid_needs, .int v_laid_speaks, .int v_laid_alikeFrom])), (q_laid_heard, .inl (ca 0, 24, .inl v_laid_heard))] s.heap.size = A at hD ⊢
  have hA : ∀ q : Nat, s.heap.size ≤ q → A q := fun q h => by rw [← hAe]; exact Or.inr h
  have hS : va_S A s.heap s.heap [] := va_S.rf
  have hl := lv_entry ([.ref q_this, .int p1]) (n := 6) (Nat.le_of_ble_eq_true rfl)
  rw [lg_entry_eq]
  generalize (lg_sl ([.ref q_this, .int p1]) ++ List.replicate (6 - (lg_sl ([.ref q_this, .int p1])).length) Slot.unset).toArray = ls at hl ⊢
  have hl : lv_has ls 6 [(0, .ref q_this), (1, .int p1)] := hl
  generalize ([.ref q_this, .int p1] : List Value).toArray = args at hts ⊢
  generalize hQe : MQ below (kQi D ca (A) [(q_this, .inr (7, [.ref q_text, .ref q_item, .ref q_stands, .ref q_crowd, .ref q_measure, .ref q_laid, .ref q_tried])), (q_measure, .inr (3, [.ref q_measure_row])), (q_measure_row, .inl (ca 0, 7, .inl o_measure_row)), (q_laid, .inr (0, [.ref q_laid_words, .ref q_laid_heard, .ref q_laid_canSay, .ref q_laid_instead, .ref q_laid_traders, .ref q_laid_takes, .ref q_laid_needs, .int v_laid_speaks, .int v_laid_alikeFrom])), (q_laid_heard, .inl (ca 0, 24, .inl v_laid_heard))] r) args s 0 0 A = Q
  have i_X9 : ∀ w ∈ u_ws RX9 TX9 7, w ∈ wsX9_joined := by decide +kernel
  have k_49 := hts (.fieldLink RX9 49 "TradeWords" "laid" "LTradeWords$Beach;") (by decide +kernel)
  rw [D_X9_joined] at h
  refine lv_iload_n hx hb dX9_joined_0 rfl (lv_at hl 1 rfl) ?_
  obtain ⟨r_1, hg_2, h⟩ := bd1_el h
  refine kx_Si (As := [.int p1]) (rest := []) (wr := [(q_this, .inr (7, [.ref q_text, .ref q_item, .ref q_stands, .ref q_crowd, .ref q_measure, .ref q_laid, .ref q_tried])), (q_measure, .inr (3, [.ref q_measure_row])), (q_measure_row, .inl (ca 0, 7, .inl v_measure_row)), (q_laid, .inr (0, [.ref q_laid_words, .ref q_laid_heard, .ref q_laid_canSay, .ref q_laid_instead, .ref q_laid_traders, .ref q_laid_takes, .ref q_laid_needs, .int v_laid_speaks, .int v_laid_alikeFrom])), (q_laid_heard, .inl (ca 0, 24, .inl v_laid_heard))]) (w1 := []) (wn := [(q_this, .inr (7, [.ref q_text, .ref q_item, .ref q_stands, .ref q_crowd, .ref q_measure, .ref q_laid, .ref q_tried])), (q_measure, .inr (3, [.ref q_measure_row])), (q_measure_row, .inl (ca 0, 7, .inl v_measure_row)), (q_laid, .inr (0, [.ref q_laid_words, .ref q_laid_heard, .ref q_laid_canSay, .ref q_laid_instead, .ref q_laid_traders, .ref q_laid_takes, .ref q_laid_needs, .int v_laid_speaks, .int v_laid_alikeFrom])), (q_laid_heard, .inl (ca 0, 24, .inl v_laid_heard))]) ⟨hx, hb, hml, hown, hts⟩ (c_X9_isMeaning l D ca s.heap.size p1 r_1 hg_2) (va_cwS 1 hts gX9_joined_X9_isMeaning rfl rfl rfl (by decide +kernel) ⟨(Nat.le_of_ble_eq_true rfl), (Nat.le_of_ble_eq_true rfl)⟩) hK hP hD hS hA [] [0, 1, 2, 3, 4] [0, 1, 2, 3, 4] rfl rfl rfl rfl (by decide) rfl rfl rfl hl.1 rfl (Nat.le_of_ble_eq_true rfl) dX9_joined_1 ⟨Nat.zero_le _, Nat.zero_le _⟩ (fun H locs hP hD hS => ?_)
  refine lv_if_ne (tgt := 9) hx hb dX9_joined_4 (by decide) (fun c_3 => ?_) (fun c_3 => ?_)
  · replace h := ifn_el c_3 h
    refine lv_bipush (v := (-4 : Int32)) hx hb dX9_joined_9 (by decide) ?_
    refine lv_istore_n (lv' := [(2, .int (-4 : Int32)), (0, .ref q_this), (1, .int p1)]) hx hb dX9_joined_11 rfl hl (by decide) rfl (fun ls hl => ?_)
    refine lv_bipush (v := (nI 18)) hx hb dX9_joined_12 (by decide) ?_
    refine lv_istore_n (lv' := [(3, .int (nI 18)), (2, .int (-4 : Int32)), (0, .ref q_this), (1, .int p1)]) hx hb dX9_joined_14 rfl hl (by decide) rfl (fun ls hl => ?_)
    refine lv_iconst (v := (nI 0)) hx hb dX9_joined_15 (by decide) ?_
    refine lv_istore (lv' := [(4, .int (nI 0)), (3, .int (nI 18)), (2, .int (-4 : Int32)), (0, .ref q_this), (1, .int p1)]) hx hb dX9_joined_16 hl (by decide) rfl (fun ls hl => ?_)
    obtain ⟨o_8, o_9, hL, h⟩ := bd2_el h
    have hex : ∀ (H : Heap) (locs : List Loc) (ls : Array Slot), va_P D vwCl [(q_this, .inr (7, [.ref q_text, .ref q_item, .ref q_stands, .ref q_crowd, .ref q_measure, .ref q_laid, .ref q_tried])), (q_measure, .inr (3, [.ref q_measure_row])), (q_measure_row, .inl (ca 0, 7, .inl o_9)), (q_laid, .inr (0, [.ref q_laid_words, .ref q_laid_heard, .ref q_laid_canSay, .ref q_laid_instead, .ref q_laid_traders, .ref q_laid_takes, .ref q_laid_needs, .int v_laid_speaks, .int v_laid_alikeFrom])), (q_laid_heard, .inl (ca 0, 24, .inl v_laid_heard))] H → va_D A [(q_this, .inr (7, [.ref q_text, .ref q_item, .ref q_stands, .ref q_crowd, .ref q_measure, .ref q_laid, .ref q_tried])), (q_measure, .inr (3, [.ref q_measure_row])), (q_measure_row, .inl (ca 0, 7, .inl o_9)), (q_laid, .inr (0, [.ref q_laid_words, .ref q_laid_heard, .ref q_laid_canSay, .ref q_laid_instead, .ref q_laid_traders, .ref q_laid_takes, .ref q_laid_needs, .int v_laid_speaks, .int v_laid_alikeFrom])), (q_laid_heard, .inl (ca 0, 24, .inl v_laid_heard))] → va_S A s.heap H locs → lv_has ls 6 [(2, .int o_8)] → W p l e (headSpec wsX9_joined rm_X9_joined).room s m args below meth c H locs 0 0 Q (F0 m 64 ls []) := by
      intro H locs ls hP hD hS hl
      refine lv_iload_n hx hb dX9_joined_64 rfl (lv_at hl 0 rfl) ?_
      cases h
      rw [← hQe]
      exact W.iret hx hb hr (fun t ht hW => ⟨⟨_, (), rfl, rfl, by rw [ht]; exact hP, va_K.moved hW.alike hK, hD⟩, hS.F ht⟩) hS.2.2 dX9_joined_65
    have hlp : ∀ (n : Nat) (x2_4 : Int32) (x3_5 : Int32) (x4_6 : Int32) (y_measure_row_7 : Nat → Int32) (o_8 : Int32) (o_9 : Nat → Int32) (H : Heap) (locs : List Loc) (ls : Array Slot), lpg (T := Int32 → Int32 → Int32 → (Nat → Int32) → Option (Int32 × (Nat → Int32))) (fun _ _ _ _ => none) (b_X9_joined_18 p1 v_laid_heard F) n x2_4 x3_5 x4_6 y_measure_row_7 = some (o_8, o_9) → (∀ (H : Heap) (locs : List Loc) (ls : Array Slot), va_P D vwCl [(q_this, .inr (7, [.ref q_text, .ref q_item, .ref q_stands, .ref q_crowd, .ref q_measure, .ref q_laid, .ref q_tried])), (q_measure, .inr (3, [.ref q_measure_row])), (q_measure_row, .inl (ca 0, 7, .inl o_9)), (q_laid, .inr (0, [.ref q_laid_words, .ref q_laid_heard, .ref q_laid_canSay, .ref q_laid_instead, .ref q_laid_traders, .ref q_laid_takes, .ref q_laid_needs, .int v_laid_speaks, .int v_laid_alikeFrom])), (q_laid_heard, .inl (ca 0, 24, .inl v_laid_heard))] H → va_D A [(q_this, .inr (7, [.ref q_text, .ref q_item, .ref q_stands, .ref q_crowd, .ref q_measure, .ref q_laid, .ref q_tried])), (q_measure, .inr (3, [.ref q_measure_row])), (q_measure_row, .inl (ca 0, 7, .inl o_9)), (q_laid, .inr (0, [.ref q_laid_words, .ref q_laid_heard, .ref q_laid_canSay, .ref q_laid_instead, .ref q_laid_traders, .ref q_laid_takes, .ref q_laid_needs, .int v_laid_speaks, .int v_laid_alikeFrom])), (q_laid_heard, .inl (ca 0, 24, .inl v_laid_heard))] → va_S A s.heap H locs → lv_has ls 6 [(2, .int o_8)] → W p l e (headSpec wsX9_joined rm_X9_joined).room s m args below meth c H locs 0 0 Q (F0 m 64 ls [])) → va_P D vwCl [(q_this, .inr (7, [.ref q_text, .ref q_item, .ref q_stands, .ref q_crowd, .ref q_measure, .ref q_laid, .ref q_tried])), (q_measure, .inr (3, [.ref q_measure_row])), (q_measure_row, .inl (ca 0, 7, .inl y_measure_row_7)), (q_laid, .inr (0, [.ref q_laid_words, .ref q_laid_heard, .ref q_laid_canSay, .ref q_laid_instead, .ref q_laid_traders, .ref q_laid_takes, .ref q_laid_needs, .int v_laid_speaks, .int v_laid_alikeFrom])), (q_laid_heard, .inl (ca 0, 24, .inl v_laid_heard))] H → va_D A [(q_this, .inr (7, [.ref q_text, .ref q_item, .ref q_stands, .ref q_crowd, .ref q_measure, .ref q_laid, .ref q_tried])), (q_measure, .inr (3, [.ref q_measure_row])), (q_measure_row, .inl (ca 0, 7, .inl y_measure_row_7)), (q_laid, .inr (0, [.ref q_laid_words, .ref q_laid_heard, .ref q_laid_canSay, .ref q_laid_instead, .ref q_laid_traders, .ref q_laid_takes, .ref q_laid_needs, .int v_laid_speaks, .int v_laid_alikeFrom])), (q_laid_heard, .inl (ca 0, 24, .inl v_laid_heard))] → va_S A s.heap H locs → lv_has ls 6 [(0, .ref q_this), (1, .int p1), (2, .int x2_4), (3, .int x3_5), (4, .int x4_6)] → W p l e (headSpec wsX9_joined rm_X9_joined).room s m args below meth c H locs 0 0 Q (F0 m 18 ls []) := by
      intro n
      induction n with
      | zero => intro x2_4 x3_5 x4_6 y_measure_row_7 o_8 o_9 H locs ls h; have h : (none : Option (Int32 × (Nat → Int32))) = some _ := h; cases h
      | succ n ih =>
        intro x2_4 x3_5 x4_6 y_measure_row_7 o_8 o_9 H locs ls h hex hP hD hS hl
        rw [lpg_succ, b_X9_joined_18] at h
        refine lv_iload hx hb dX9_joined_18 (lv_at hl 4 rfl) ?_
        refine lv_iconst (v := (nI 3)) hx hb dX9_joined_20 (by decide) ?_
        refine lv_icmp_ge (tgt := 64) hx hb dX9_joined_21 (by decide) (fun c_10 => ?_) (fun c_10 => ?_)
        · replace h := ifp_el c_10 h
          cases h
          exact hex _ _ _ hP hD hS (lv_sub hl [2] rfl)
        · replace h := ifn_el c_10 h
          refine lv_aload_n hx hb dX9_joined_24 rfl (lv_at hl 0 rfl) ?_
          refine va_get (D := D) (ci := 7) (v := .ref q_laid) (C := RX9) (T := TX9) (N := 7) hx hb hts i_X9 hown hK hP 0 rfl rfl 5 (by decide) k_49 (fun _ h9 => h9) rfl dX9_joined_25 ?_
          refine lv_iload hx hb dX9_joined_28 (lv_at hl 4 rfl) ?_
          refine lv_iload_n hx hb dX9_joined_30 rfl (lv_at hl 1 rfl) ?_
          obtain ⟨r_11, hg_12, h⟩ := bd1_el h
          refine kx_Vi (As := [.int x4_6, .int p1]) (rest := []) (wr := [(q_this, .inr (7, [.ref q_text, .ref q_item, .ref q_stands, .ref q_crowd, .ref q_measure, .ref q_laid, .ref q_tried])), (q_measure, .inr (3, [.ref q_measure_row])), (q_measure_row, .inl (ca 0, 7, .inl y_measure_row_7))]) (w1 := [(q_laid, .inr (0, [.ref q_laid_words, .ref q_laid_heard, .ref q_laid_canSay, .ref q_laid_instead, .ref q_laid_traders, .ref q_laid_takes, .ref q_laid_needs, .int v_laid_speaks, .int v_laid_alikeFrom])), (q_laid_heard, .inl (ca 0, 24, .inl v_laid_heard))]) (wn := [(q_this, .inr (7, [.ref q_text, .ref q_item, .ref q_stands, .ref q_crowd, .ref q_measure, .ref q_laid, .ref q_tried])), (q_measure, .inr (3, [.ref q_measure_row])), (q_measure_row, .inl (ca 0, 7, .inl y_measure_row_7)), (q_laid, .inr (0, [.ref q_laid_words, .ref q_laid_heard, .ref q_laid_canSay, .ref q_laid_instead, .ref q_laid_traders, .ref q_laid_takes, .ref q_laid_needs, .int v_laid_speaks, .int v_laid_alikeFrom])), (q_laid_heard, .inl (ca 0, 24, .inl v_laid_heard))]) ⟨hx, hb, hml, hown, hts⟩ (c_X0_heardBy l D ca H.size q_laid q_laid_words q_laid_heard q_laid_canSay q_laid_instead q_laid_traders q_laid_takes q_laid_needs x4_6 p1 v_laid_speaks v_laid_alikeFrom v_laid_heard r_11 hg_12) (cwV 2 hts gX9_joined_X0_heardBy rfl rfl rfl (by decide +kernel) ⟨(Nat.le_of_ble_eq_true rfl), (Nat.le_of_ble_eq_true rfl)⟩) hK hP hD hS hA (ci := 0) (q0 := 0) rfl rfl [3, 4] [0, 1, 2] [0, 1, 2, 3, 4] rfl rfl rfl rfl (by decide) rfl rfl rfl hl.1 rfl (Nat.le_of_ble_eq_true rfl) dX9_joined_31 ⟨Nat.zero_le _, Nat.zero_le _⟩ (fun H locs hP hD hS => ?_)
          refine lv_if_eq (tgt := 58) hx hb dX9_joined_34 (by decide) (fun c_13 => ?_) (fun c_13 => ?_)
          · replace h := ifp_el c_13 h
            obtain ⟨x4_14, e_15, h⟩ := nm_el h
            refine lv_iinc (v := x4_14) (lv' := [(4, .int x4_14), (0, .ref q_this), (1, .int p1), (2, .int x2_4), (3, .int x3_5)]) hx hb dX9_joined_58 hl (k := 4) rfl (by rw [← e_15]; rfl) (by decide) rfl (fun ls hl => ?_)
            refine lv_goto (tgt := 18) hx hb dX9_joined_61 (by decide) ?_
            exact ih _ _ _ _ _ _ _ _ _ h hex hP hD hS (lv_sub hl [1, 2, 3, 4, 0] rfl)
          · replace h := ifn_el c_13 h
            refine lv_aload_n hx hb dX9_joined_37 rfl (lv_at hl 0 rfl) ?_
            refine lv_iload hx hb dX9_joined_38 (lv_at hl 4 rfl) ?_
            refine lv_iload_n hx hb dX9_joined_40 rfl (lv_at hl 1 rfl) ?_
            obtain ⟨r_16, y_measure_row_17, hg_18, h⟩ := bd2_el h
            refine kx_Vi (As := [.int x4_6, .int p1]) (rest := []) (wr := []) (w1 := [(q_this, .inr (7, [.ref q_text, .ref q_item, .ref q_stands, .ref q_crowd, .ref q_measure, .ref q_laid, .ref q_tried])), (q_measure, .inr (3, [.ref q_measure_row])), (q_measure_row, .inl (ca 0, 7, .inl y_measure_row_17)), (q_laid, .inr (0, [.ref q_laid_words, .ref q_laid_heard, .ref q_laid_canSay, .ref q_laid_instead, .ref q_laid_traders, .ref q_laid_takes, .ref q_laid_needs, .int v_laid_speaks, .int v_laid_alikeFrom])), (q_laid_heard, .inl (ca 0, 24, .inl v_laid_heard))]) (wn := [(q_this, .inr (7, [.ref q_text, .ref q_item, .ref q_stands, .ref q_crowd, .ref q_measure, .ref q_laid, .ref q_tried])), (q_measure, .inr (3, [.ref q_measure_row])), (q_measure_row, .inl (ca 0, 7, .inl y_measure_row_17)), (q_laid, .inr (0, [.ref q_laid_words, .ref q_laid_heard, .ref q_laid_canSay, .ref q_laid_instead, .ref q_laid_traders, .ref q_laid_takes, .ref q_laid_needs, .int v_laid_speaks, .int v_laid_alikeFrom])), (q_laid_heard, .inl (ca 0, 24, .inl v_laid_heard))]) ⟨hx, hb, hml, hown, hts⟩ (c_X9_apartFromOtherEars l D ca F H.size q_this q_text q_item q_stands q_crowd q_measure q_measure_row q_laid q_laid_words q_laid_heard q_laid_canSay q_laid_instead q_laid_traders q_laid_takes q_laid_needs q_tried x4_6 p1 y_measure_row_7 v_laid_speaks v_laid_alikeFrom v_laid_heard r_16 y_measure_row_17 hg_18) (cwV 2 hts gX9_joined_X9_apartFromOtherEars rfl rfl rfl (by decide +kernel) ⟨(Nat.le_of_ble_eq_true rfl), (Nat.le_of_ble_eq_true rfl)⟩) hK hP hD hS hA (ci := 7) (q0 := 0) rfl rfl [0, 1, 2, 3, 4] [] [0, 1, 2, 3, 4] rfl rfl rfl rfl (by decide) rfl rfl rfl hl.1 rfl (Nat.le_of_ble_eq_true rfl) dX9_joined_41 ⟨Nat.zero_le _, Nat.zero_le _⟩ (fun H locs hP hD hS => ?_)
            refine lv_istore (lv' := [(5, .int r_16), (0, .ref q_this), (1, .int p1), (2, .int x2_4), (3, .int x3_5), (4, .int x4_6)]) hx hb dX9_joined_44 hl (by decide) rfl (fun ls hl => ?_)
            refine lv_iload hx hb dX9_joined_46 (lv_at hl 0 rfl) ?_
            refine lv_iload_n hx hb dX9_joined_48 rfl (lv_at hl 4 rfl) ?_
            refine lv_icmp_ge (tgt := 58) hx hb dX9_joined_49 (by decide) (fun c_19 => ?_) (fun c_19 => ?_)
            · replace h := ifp_el c_19 h
              obtain ⟨x4_20, e_21, h⟩ := nm_el h
              refine lv_iinc (v := x4_20) (lv' := [(4, .int x4_20), (5, .int r_16), (0, .ref q_this), (1, .int p1), (2, .int x2_4), (3, .int x3_5)]) hx hb dX9_joined_58 hl (k := 5) rfl (by rw [← e_21]; rfl) (by decide) rfl (fun ls hl => ?_)
              refine lv_goto (tgt := 18) hx hb dX9_joined_61 (by decide) ?_
              exact ih _ _ _ _ _ _ _ _ _ h hex hP hD hS (lv_sub hl [2, 3, 4, 5, 0] rfl)
            · replace h := ifn_el c_19 h
              refine lv_iload hx hb dX9_joined_52 (lv_at hl 0 rfl) ?_
              refine lv_istore_n (lv' := [(3, .int r_16), (5, .int r_16), (0, .ref q_this), (1, .int p1), (2, .int x2_4), (4, .int x4_6)]) hx hb dX9_joined_54 rfl hl (by decide) rfl (fun ls hl => ?_)
              refine lv_iload hx hb dX9_joined_55 (lv_at hl 5 rfl) ?_
              refine lv_istore_n (lv' := [(2, .int x4_6), (3, .int r_16), (5, .int r_16), (0, .ref q_this), (1, .int p1), (4, .int x4_6)]) hx hb dX9_joined_57 rfl hl (by decide) rfl (fun ls hl => ?_)
              obtain ⟨x4_22, e_23, h⟩ := nm_el h
              refine lv_iinc (v := x4_22) (lv' := [(4, .int x4_22), (2, .int x4_6), (3, .int r_16), (5, .int r_16), (0, .ref q_this), (1, .int p1)]) hx hb dX9_joined_58 hl (k := 5) rfl (by rw [← e_23]; rfl) (by decide) rfl (fun ls hl => ?_)
              refine lv_goto (tgt := 18) hx hb dX9_joined_61 (by decide) ?_
              exact ih _ _ _ _ _ _ _ _ _ h hex hP hD hS (lv_sub hl [4, 5, 1, 2, 0] rfl)
    exact hlp F (-4 : Int32) (nI 18) (nI 0) v_measure_row o_8 o_9 H locs ls hL hex hP hD hS (lv_sub hl [3, 4, 2, 1, 0] rfl)
  · replace h := ifp_el c_3 h
    refine lv_iconst (v := (-1 : Int32)) hx hb dX9_joined_7 (by decide) ?_
    cases h
    rw [← hQe]
    exact W.iret hx hb hr (fun t ht hW => ⟨⟨_, (), rfl, rfl, by rw [ht]; exact hP, va_K.moved hW.alike hK, hD⟩, hS.F ht⟩) hS.2.2 dX9_joined_8
def D_X9_isOfThousand (p1 : Int32) : Option (Int32) := (if p1 < 0 then some ((nI 0)) else (if (nI 1000) < p1 then some ((nI 0)) else some ((nI 1))))
abbrev rm_X9_isOfThousand : Room := { frames := 0, cells := 0, slots := 0, locals := 0 }
set_option maxHeartbeats 4000000 in
set_option maxRecDepth 100000 in
theorem c_X9_isOfThousand (l : Launch) (D : va_G) (ca : Nat → ClassId) (sz : Nat) (p1 : Int32) (r : Int32) (h : D_X9_isOfThousand p1 = some (r)) : Met l yX9_isOfThousand wsX9_isOfThousand rm_X9_isOfThousand (va_Pc [.int p1] (kPre D ca [] sz)) (kQi D ca (va_A [] sz) [] r) 0 0 (va_A [] sz) := by
  refine Met.ofW (cc := cX9_isOfThousand) (maxL := 1) (ret := (some .boolean)) (by decide +kernel) rfl ?_
  intro p e s m args below meth c s₁ B hml hv
  obtain ⟨rfl, hsz, hP, hK, hD0⟩ := hv
  have hx := B.exec
  have hb := B.bytes
  have hr := B.returns
  have hts := atoms_spec (ws := wsX9_isOfThousand) B.pre
  have hown : s.vm.findClass RX9 = some m.cls := findClass_of_methodNamed B.named
  have hlocks := B.notSynchronized
  clear B
  subst hsz
  have hD := hD0.self (sz := s.heap.size)
  generalize hAe : va_A [] s.heap.size = A at hD ⊢
  have hA : ∀ q : Nat, s.heap.size ≤ q → A q := fun q h => by rw [← hAe]; exact Or.inr h
  have hS : va_S A s.heap s.heap [] := va_S.rf
  have hl := lv_entry ([.int p1]) (n := 1) (Nat.le_of_ble_eq_true rfl)
  rw [lg_entry_eq]
  generalize (lg_sl ([.int p1]) ++ List.replicate (1 - (lg_sl ([.int p1])).length) Slot.unset).toArray = ls at hl ⊢
  have hl : lv_has ls 1 [(0, .int p1)] := hl
  generalize ([.int p1] : List Value).toArray = args at hts ⊢
  generalize hQe : MQ below (kQi D ca (A) [] r) args s 0 0 A = Q
  rw [D_X9_isOfThousand] at h
  refine lv_iload_n hx hb dX9_isOfThousand_0 rfl (lv_at hl 0 rfl) ?_
  refine lv_if_lt (tgt := 15) hx hb dX9_isOfThousand_1 (by decide) (fun c_1 => ?_) (fun c_1 => ?_)
  · replace h := ifp_el c_1 h
    refine lv_iconst (v := (nI 0)) hx hb dX9_isOfThousand_15 (by decide) ?_
    cases h
    rw [← hQe]
    exact W.zret hx hb hr rfl (fun t ht hW => ⟨⟨_, (), rfl, rfl, by rw [ht]; exact hP, va_K.moved hW.alike hK, hD⟩, hS.F ht⟩) hS.2.2 dX9_isOfThousand_16
  · replace h := ifn_el c_1 h
    refine lv_iload_n hx hb dX9_isOfThousand_4 rfl (lv_at hl 0 rfl) ?_
    refine lv_sipush (v := (nI 1000)) hx hb dX9_isOfThousand_5 (by decide) ?_
    refine lv_icmp_gt (tgt := 15) hx hb dX9_isOfThousand_8 (by decide) (fun c_2 => ?_) (fun c_2 => ?_)
    · replace h := ifp_el c_2 h
      refine lv_iconst (v := (nI 0)) hx hb dX9_isOfThousand_15 (by decide) ?_
      cases h
      rw [← hQe]
      exact W.zret hx hb hr rfl (fun t ht hW => ⟨⟨_, (), rfl, rfl, by rw [ht]; exact hP, va_K.moved hW.alike hK, hD⟩, hS.F ht⟩) hS.2.2 dX9_isOfThousand_16
    · replace h := ifn_el c_2 h
      refine lv_iconst (v := (nI 1)) hx hb dX9_isOfThousand_11 (by decide) ?_
      refine lv_goto (tgt := 16) hx hb dX9_isOfThousand_12 (by decide) ?_
      cases h
      rw [← hQe]
      exact W.zret hx hb hr rfl (fun t ht hW => ⟨⟨_, (), rfl, rfl, by rw [ht]; exact hP, va_K.moved hW.alike hK, hD⟩, hS.F ht⟩) hS.2.2 dX9_isOfThousand_16
def D_X9_isBent (p1 : Int32) : Option (Int32) := (if p1 < (nI 1) then some ((nI 0)) else (if (nI 3) < p1 then some ((nI 0)) else some ((nI 1))))
abbrev rm_X9_isBent : Room := { frames := 0, cells := 0, slots := 0, locals := 0 }
set_option maxHeartbeats 4000000 in
set_option maxRecDepth 100000 in
theorem c_X9_isBent (l : Launch) (D : va_G) (ca : Nat → ClassId) (sz : Nat) (p1 : Int32) (r : Int32) (h : D_X9_isBent p1 = some (r)) : Met l yX9_isBent wsX9_isBent rm_X9_isBent (va_Pc [.int p1] (kPre D ca [] sz)) (kQi D ca (va_A [] sz) [] r) 0 0 (va_A [] sz) := by
  refine Met.ofW (cc := cX9_isBent) (maxL := 1) (ret := (some .boolean)) (by decide +kernel) rfl ?_
  intro p e s m args below meth c s₁ B hml hv
  obtain ⟨rfl, hsz, hP, hK, hD0⟩ := hv
  have hx := B.exec
  have hb := B.bytes
  have hr := B.returns
  have hts := atoms_spec (ws := wsX9_isBent) B.pre
  have hown : s.vm.findClass RX9 = some m.cls := findClass_of_methodNamed B.named
  have hlocks := B.notSynchronized
  clear B
  subst hsz
  have hD := hD0.self (sz := s.heap.size)
  generalize hAe : va_A [] s.heap.size = A at hD ⊢
  have hA : ∀ q : Nat, s.heap.size ≤ q → A q := fun q h => by rw [← hAe]; exact Or.inr h
  have hS : va_S A s.heap s.heap [] := va_S.rf
  have hl := lv_entry ([.int p1]) (n := 1) (Nat.le_of_ble_eq_true rfl)
  rw [lg_entry_eq]
  generalize (lg_sl ([.int p1]) ++ List.replicate (1 - (lg_sl ([.int p1])).length) Slot.unset).toArray = ls at hl ⊢
  have hl : lv_has ls 1 [(0, .int p1)] := hl
  generalize ([.int p1] : List Value).toArray = args at hts ⊢
  generalize hQe : MQ below (kQi D ca (A) [] r) args s 0 0 A = Q
  rw [D_X9_isBent] at h
  refine lv_iload_n hx hb dX9_isBent_0 rfl (lv_at hl 0 rfl) ?_
  refine lv_iconst (v := (nI 1)) hx hb dX9_isBent_1 (by decide) ?_
  refine lv_icmp_lt (tgt := 14) hx hb dX9_isBent_2 (by decide) (fun c_1 => ?_) (fun c_1 => ?_)
  · replace h := ifp_el c_1 h
    refine lv_iconst (v := (nI 0)) hx hb dX9_isBent_14 (by decide) ?_
    cases h
    rw [← hQe]
    exact W.zret hx hb hr rfl (fun t ht hW => ⟨⟨_, (), rfl, rfl, by rw [ht]; exact hP, va_K.moved hW.alike hK, hD⟩, hS.F ht⟩) hS.2.2 dX9_isBent_15
  · replace h := ifn_el c_1 h
    refine lv_iload_n hx hb dX9_isBent_5 rfl (lv_at hl 0 rfl) ?_
    refine lv_iconst (v := (nI 3)) hx hb dX9_isBent_6 (by decide) ?_
    refine lv_icmp_gt (tgt := 14) hx hb dX9_isBent_7 (by decide) (fun c_2 => ?_) (fun c_2 => ?_)
    · replace h := ifp_el c_2 h
      refine lv_iconst (v := (nI 0)) hx hb dX9_isBent_14 (by decide) ?_
      cases h
      rw [← hQe]
      exact W.zret hx hb hr rfl (fun t ht hW => ⟨⟨_, (), rfl, rfl, by rw [ht]; exact hP, va_K.moved hW.alike hK, hD⟩, hS.F ht⟩) hS.2.2 dX9_isBent_15
    · replace h := ifn_el c_2 h
      refine lv_iconst (v := (nI 1)) hx hb dX9_isBent_10 (by decide) ?_
      refine lv_goto (tgt := 15) hx hb dX9_isBent_11 (by decide) ?_
      cases h
      rw [← hQe]
      exact W.zret hx hb hr rfl (fun t ht hW => ⟨⟨_, (), rfl, rfl, by rw [ht]; exact hP, va_K.moved hW.alike hK, hD⟩, hS.F ht⟩) hS.2.2 dX9_isBent_15
def b_X9_nextGeneration_8 (p1 : Int32) (p2 : Int32) (rec8 : Int64 → Int64 → Int32 → Option (Int64 × Int64)) (x2_1 : Int64) (x4_2 : Int64) (x6_3 : Int32) : Option (Int64 × Int64) := (if p2 ≤ x6_3 then some (x2_1, x4_2) else nm (x2_1 * p1.toInt64) (fun x2_7 => nm (x4_2 * (((nI 1000) - p1).toInt64)) (fun x4_8 => nm (x6_3 + (nI 1)) (fun x6_9 => rec8 x2_7 x4_8 x6_9))))
def D_X9_nextGeneration (F : Nat) (p1 : Int32) (p2 : Int32) : Option (Int32) := bd2 (lpg (T := Int64 → Int64 → Int32 → Option (Int64 × Int64)) (fun _ _ _ => none) (b_X9_nextGeneration_8 p1 p2) F (lN 1) (lN 1) (nI 0)) (fun o_4 o_5 => nm (o_4 + o_5) (fun x6_11 => (if (lg_cmp x6_11 (lN 0)) ≤ 0 then some ((nI 0)) else dzl x6_11 (some (((o_4 * (lN 1000)) / x6_11).toInt32)))))
abbrev rm_X9_nextGeneration : Room := { frames := 0, cells := 0, slots := 0, locals := 0 }
set_option maxHeartbeats 4000000 in
set_option maxRecDepth 100000 in
theorem c_X9_nextGeneration (l : Launch) (D : va_G) (ca : Nat → ClassId) (F : Nat) (sz : Nat) (p1 : Int32) (p2 : Int32) (r : Int32) (h : D_X9_nextGeneration F p1 p2 = some (r)) : Met l yX9_nextGeneration wsX9_nextGeneration rm_X9_nextGeneration (va_Pc [.int p1, .int p2] (kPre D ca [] sz)) (kQi D ca (va_A [] sz) [] r) 0 0 (va_A [] sz) := by
  refine Met.ofW (cc := cX9_nextGeneration) (maxL := 8) (ret := (some .int)) (by decide +kernel) rfl ?_
  intro p e s m args below meth c s₁ B hml hv
  obtain ⟨rfl, hsz, hP, hK, hD0⟩ := hv
  have hx := B.exec
  have hb := B.bytes
  have hr := B.returns
  have hts := atoms_spec (ws := wsX9_nextGeneration) B.pre
  have hown : s.vm.findClass RX9 = some m.cls := findClass_of_methodNamed B.named
  have hlocks := B.notSynchronized
  clear B
  subst hsz
  have hD := hD0.self (sz := s.heap.size)
  generalize hAe : va_A [] s.heap.size = A at hD ⊢
  have hA : ∀ q : Nat, s.heap.size ≤ q → A q := fun q h => by rw [← hAe]; exact Or.inr h
  have hS : va_S A s.heap s.heap [] := va_S.rf
  have hl := lv_entry ([.int p1, .int p2]) (n := 8) (Nat.le_of_ble_eq_true rfl)
  rw [lg_entry_eq]
  generalize (lg_sl ([.int p1, .int p2]) ++ List.replicate (8 - (lg_sl ([.int p1, .int p2])).length) Slot.unset).toArray = ls at hl ⊢
  have hl : lv_has ls 8 [(0, .int p1), (1, .int p2)] := hl
  generalize ([.int p1, .int p2] : List Value).toArray = args at hts ⊢
  generalize hQe : MQ below (kQi D ca (A) [] r) args s 0 0 A = Q
  have k_146 := hts (.constantLong RX9 146 (lN 1000)) (by decide +kernel)
  rw [D_X9_nextGeneration] at h
  refine lv_lconst (v := (lN 1)) hx hb dX9_nextGeneration_0 (by decide) ?_
  refine lv_lstore_n (lv' := [(2, .long (lN 1)), (0, .int p1), (1, .int p2)]) hx hb dX9_nextGeneration_1 rfl hl (by decide) rfl (fun ls hl => ?_)
  refine lv_lconst (v := (lN 1)) hx hb dX9_nextGeneration_2 (by decide) ?_
  refine lv_lstore (lv' := [(4, .long (lN 1)), (2, .long (lN 1)), (0, .int p1), (1, .int p2)]) hx hb dX9_nextGeneration_3 hl (by decide) rfl (fun ls hl => ?_)
  refine lv_iconst (v := (nI 0)) hx hb dX9_nextGeneration_5 (by decide) ?_
  refine lv_istore (lv' := [(6, .int (nI 0)), (4, .long (lN 1)), (2, .long (lN 1)), (0, .int p1), (1, .int p2)]) hx hb dX9_nextGeneration_6 hl (by decide) rfl (fun ls hl => ?_)
  obtain ⟨o_4, o_5, hL, h⟩ := bd2_el h
  have hex : ∀ (H : Heap) (locs : List Loc) (ls : Array Slot), va_P D vwCl [] H → va_D A [] → va_S A s.heap H locs → lv_has ls 8 [(2, .long o_4), (4, .long o_5)] → W p l e (headSpec wsX9_nextGeneration rm_X9_nextGeneration).room s m args below meth c H locs 0 0 Q (F0 m 36 ls []) := by
    intro H locs ls hP hD hS hl
    refine lv_lload_n hx hb dX9_nextGeneration_36 rfl (lv_at hl 0 rfl) ?_
    refine lv_lload hx hb dX9_nextGeneration_37 (lv_at hl 1 rfl) ?_
    refine lv_ladd hx hb dX9_nextGeneration_39 ?_
    refine lv_nml h (fun x6_11 h => ?_)
    refine lv_lstore (lv' := [(6, .long x6_11), (2, .long o_4), (4, .long o_5)]) hx hb dX9_nextGeneration_40 hl (by decide) rfl (fun ls hl => ?_)
    refine lv_lload hx hb dX9_nextGeneration_42 (lv_at hl 0 rfl) ?_
    refine lv_lconst (v := (lN 0)) hx hb dX9_nextGeneration_44 (by decide) ?_
    refine W.lcmp hx hb dX9_nextGeneration_45 ?_
    refine lv_if_le (tgt := 61) hx hb dX9_nextGeneration_46 (by decide) (fun c_12 => ?_) (fun c_12 => ?_)
    · replace h := ifp_el c_12 h
      refine lv_iconst (v := (nI 0)) hx hb dX9_nextGeneration_61 (by decide) ?_
      cases h
      rw [← hQe]
      exact W.iret hx hb hr (fun t ht hW => ⟨⟨_, (), rfl, rfl, by rw [ht]; exact hP, va_K.moved hW.alike hK, hD⟩, hS.F ht⟩) hS.2.2 dX9_nextGeneration_62
    · replace h := ifn_el c_12 h
      refine lv_lload_n hx hb dX9_nextGeneration_49 rfl (lv_at hl 1 rfl) ?_
      refine lv_ldc2 hx hb hown k_146 dX9_nextGeneration_50 ?_
      refine lv_lmul hx hb dX9_nextGeneration_53 ?_
      refine lv_lload hx hb dX9_nextGeneration_54 (lv_at hl 0 rfl) ?_
      obtain ⟨hn_13, h⟩ := dzl_el h
      refine lv_ldiv hx hb dX9_nextGeneration_56 hn_13 ?_
      refine lv_l2i hx hb dX9_nextGeneration_57 rfl ?_
      refine lv_goto (tgt := 62) hx hb dX9_nextGeneration_58 (by decide) ?_
      cases h
      rw [← hQe]
      exact W.iret hx hb hr (fun t ht hW => ⟨⟨_, (), rfl, rfl, by rw [ht]; exact hP, va_K.moved hW.alike hK, hD⟩, hS.F ht⟩) hS.2.2 dX9_nextGeneration_62
  have hlp : ∀ (n : Nat) (x2_1 : Int64) (x4_2 : Int64) (x6_3 : Int32) (o_4 : Int64) (o_5 : Int64) (H : Heap) (locs : List Loc) (ls : Array Slot), lpg (T := Int64 → Int64 → Int32 → Option (Int64 × Int64)) (fun _ _ _ => none) (b_X9_nextGeneration_8 p1 p2) n x2_1 x4_2 x6_3 = some (o_4, o_5) → (∀ (H : Heap) (locs : List Loc) (ls : Array Slot), va_P D vwCl [] H → va_D A [] → va_S A s.heap H locs → lv_has ls 8 [(2, .long o_4), (4, .long o_5)] → W p l e (headSpec wsX9_nextGeneration rm_X9_nextGeneration).room s m args below meth c H locs 0 0 Q (F0 m 36 ls [])) → va_P D vwCl [] H → va_D A [] → va_S A s.heap H locs → lv_has ls 8 [(0, .int p1), (1, .int p2), (2, .long x2_1), (4, .long x4_2), (6, .int x6_3)] → W p l e (headSpec wsX9_nextGeneration rm_X9_nextGeneration).room s m args below meth c H locs 0 0 Q (F0 m 8 ls []) := by
    intro n
    induction n with
    | zero => intro x2_1 x4_2 x6_3 o_4 o_5 H locs ls h; have h : (none : Option (Int64 × Int64)) = some _ := h; cases h
    | succ n ih =>
      intro x2_1 x4_2 x6_3 o_4 o_5 H locs ls h hex hP hD hS hl
      rw [lpg_succ, b_X9_nextGeneration_8] at h
      refine lv_iload hx hb dX9_nextGeneration_8 (lv_at hl 4 rfl) ?_
      refine lv_iload_n hx hb dX9_nextGeneration_10 rfl (lv_at hl 1 rfl) ?_
      refine lv_icmp_ge (tgt := 36) hx hb dX9_nextGeneration_11 (by decide) (fun c_6 => ?_) (fun c_6 => ?_)
      · replace h := ifp_el c_6 h
        cases h
        exact hex _ _ _ hP hD hS (lv_sub hl [2, 3] rfl)
      · replace h := ifn_el c_6 h
        refine lv_lload_n hx hb dX9_nextGeneration_14 rfl (lv_at hl 2 rfl) ?_
        refine lv_iload_n hx hb dX9_nextGeneration_15 rfl (lv_at hl 0 rfl) ?_
        refine lv_i2l hx hb dX9_nextGeneration_16 rfl ?_
        refine lv_lmul hx hb dX9_nextGeneration_17 ?_
        refine lv_nml h (fun x2_7 h => ?_)
        refine lv_lstore_n (lv' := [(2, .long x2_7), (0, .int p1), (1, .int p2), (4, .long x4_2), (6, .int x6_3)]) hx hb dX9_nextGeneration_18 rfl hl (by decide) rfl (fun ls hl => ?_)
        refine lv_lload hx hb dX9_nextGeneration_19 (lv_at hl 3 rfl) ?_
        refine lv_sipush (v := (nI 1000)) hx hb dX9_nextGeneration_21 (by decide) ?_
        refine lv_iload_n hx hb dX9_nextGeneration_24 rfl (lv_at hl 1 rfl) ?_
        refine lv_isub hx hb dX9_nextGeneration_25 ?_
        refine lv_i2l hx hb dX9_nextGeneration_26 rfl ?_
        refine lv_lmul hx hb dX9_nextGeneration_27 ?_
        refine lv_nml h (fun x4_8 h => ?_)
        refine lv_lstore (lv' := [(4, .long x4_8), (2, .long x2_7), (0, .int p1), (1, .int p2), (6, .int x6_3)]) hx hb dX9_nextGeneration_28 hl (by decide) rfl (fun ls hl => ?_)
        obtain ⟨x6_9, e_10, h⟩ := nm_el h
        refine lv_iinc (v := x6_9) (lv' := [(6, .int x6_9), (4, .long x4_8), (2, .long x2_7), (0, .int p1), (1, .int p2)]) hx hb dX9_nextGeneration_30 hl (k := 4) rfl (by rw [← e_10]; rfl) (by decide) rfl (fun ls hl => ?_)
        refine lv_goto (tgt := 8) hx hb dX9_nextGeneration_33 (by decide) ?_
        exact ih _ _ _ _ _ _ _ _ h hex hP hD hS (lv_sub hl [3, 4, 2, 1, 0] rfl)
  exact hlp F (lN 1) (lN 1) (nI 0) o_4 o_5 s.heap [] ls hL hex hP hD hS (lv_sub hl [3, 4, 2, 1, 0] rfl)
def b_X9_children_32 (p2 : Int32) (p3 : Int32) (F : Nat) (rec32 : Int32 → Int32 → Option (Int32)) (x4_9 : Int32) (x5_10 : Int32) : Option (Int32) := (if p3 ≤ x5_10 then some (x4_9) else bd1 (D_X9_nextGeneration F x4_9 p2) (fun r_13 => nm (x5_10 + (nI 1)) (fun x5_15 => rec32 r_13 x5_15)))
def D_X9_children (F : Nat) (p1 : Int32) (p2 : Int32) (p3 : Int32) : Option (Int32) := bd1 (D_X9_isOfThousand p1) (fun r_1 => (if r_1 = 0 then some ((-1 : Int32)) else bd1 (D_X9_isBent p2) (fun r_4 => (if r_4 = 0 then some ((-1 : Int32)) else (if p3 < 0 then some ((-1 : Int32)) else (if p3 ≤ (nI 20) then bd1 (lpg (T := Int32 → Int32 → Option (Int32)) (fun _ _ => none) (b_X9_children_32 p2 p3 F) F p1 (nI 0)) (fun o_11 => some (o_11)) else some ((-1 : Int32))))))))
abbrev rm_X9_children : Room := { frames := 1, cells := 0, slots := 0, locals := 27 }
set_option maxHeartbeats 4000000 in
set_option maxRecDepth 100000 in
theorem c_X9_children (l : Launch) (D : va_G) (ca : Nat → ClassId) (F : Nat) (sz : Nat) (q_this : Nat) (p1 : Int32) (p2 : Int32) (p3 : Int32) (r : Int32) (h : D_X9_children F p1 p2 p3 = some (r)) : Met l yX9_children wsX9_children rm_X9_children (va_Pc [.ref q_this, .int p1, .int p2, .int p3] (kPre D ca [] sz)) (kQi D ca (va_A [] sz) [] r) 0 0 (va_A [] sz) := by
  refine Met.ofW (cc := cX9_children) (maxL := 6) (ret := (some .int)) (by decide +kernel) rfl ?_
  intro p e s m args below meth c s₁ B hml hv
  obtain ⟨rfl, hsz, hP, hK, hD0⟩ := hv
  have hx := B.exec
  have hb := B.bytes
  have hr := B.returns
  have hts := atoms_spec (ws := wsX9_children) B.pre
  have hown : s.vm.findClass RX9 = some m.cls := findClass_of_methodNamed B.named
  have hlocks := B.notSynchronized
  clear B
  subst hsz
  have hD := hD0.self (sz := s.heap.size)
  generalize hAe : va_A [] s.heap.size = A at hD ⊢
  have hA : ∀ q : Nat, s.heap.size ≤ q → A q := fun q h => by rw [← hAe]; exact Or.inr h
  have hS : va_S A s.heap s.heap [] := va_S.rf
  have hl := lv_entry ([.ref q_this, .int p1, .int p2, .int p3]) (n := 6) (Nat.le_of_ble_eq_true rfl)
  rw [lg_entry_eq]
  generalize (lg_sl ([.ref q_this, .int p1, .int p2, .int p3]) ++ List.replicate (6 - (lg_sl ([.ref q_this, .int p1, .int p2, .int p3])).length) Slot.unset).toArray = ls at hl ⊢
  have hl : lv_has ls 6 [(0, .ref q_this), (1, .int p1), (2, .int p2), (3, .int p3)] := hl
  generalize ([.ref q_this, .int p1, .int p2, .int p3] : List Value).toArray = args at hts ⊢
  generalize hQe : MQ below (kQi D ca (A) [] r) args s 0 0 A = Q
  rw [D_X9_children] at h
  refine lv_iload_n hx hb dX9_children_0 rfl (lv_at hl 1 rfl) ?_
  obtain ⟨r_1, hg_2, h⟩ := bd1_el h
  refine kx_Si (As := [.int p1]) (rest := []) (wr := []) (w1 := []) (wn := []) ⟨hx, hb, hml, hown, hts⟩ (c_X9_isOfThousand l D ca s.heap.size p1 r_1 hg_2) (va_cwS 1 hts gX9_children_X9_isOfThousand rfl rfl rfl (by decide +kernel) ⟨(Nat.le_of_ble_eq_true rfl), (Nat.le_of_ble_eq_true rfl)⟩) hK hP hD hS hA [] [] [] rfl rfl rfl rfl (by decide) rfl rfl rfl hl.1 rfl (Nat.le_of_ble_eq_true rfl) dX9_children_1 ⟨Nat.zero_le _, Nat.zero_le _⟩ (fun H locs hP hD hS => ?_)
  refine lv_if_eq (tgt := 24) hx hb dX9_children_4 (by decide) (fun c_3 => ?_) (fun c_3 => ?_)
  · replace h := ifp_el c_3 h
    refine lv_iconst (v := (-1 : Int32)) hx hb dX9_children_24 (by decide) ?_
    cases h
    rw [← hQe]
    exact W.iret hx hb hr (fun t ht hW => ⟨⟨_, (), rfl, rfl, by rw [ht]; exact hP, va_K.moved hW.alike hK, hD⟩, hS.F ht⟩) hS.2.2 dX9_children_25
  · replace h := ifn_el c_3 h
    refine lv_iload_n hx hb dX9_children_7 rfl (lv_at hl 2 rfl) ?_
    obtain ⟨r_4, hg_5, h⟩ := bd1_el h
    refine kx_Si (As := [.int p2]) (rest := []) (wr := []) (w1 := []) (wn := []) ⟨hx, hb, hml, hown, hts⟩ (c_X9_isBent l D ca H.size p2 r_4 hg_5) (va_cwS 1 hts gX9_children_X9_isBent rfl rfl rfl (by decide +kernel) ⟨(Nat.le_of_ble_eq_true rfl), (Nat.le_of_ble_eq_true rfl)⟩) hK hP hD hS hA [] [] [] rfl rfl rfl rfl (by decide) rfl rfl rfl hl.1 rfl (Nat.le_of_ble_eq_true rfl) dX9_children_8 ⟨Nat.zero_le _, Nat.zero_le _⟩ (fun H locs hP hD hS => ?_)
    refine lv_if_eq (tgt := 24) hx hb dX9_children_11 (by decide) (fun c_6 => ?_) (fun c_6 => ?_)
    · replace h := ifp_el c_6 h
      refine lv_iconst (v := (-1 : Int32)) hx hb dX9_children_24 (by decide) ?_
      cases h
      rw [← hQe]
      exact W.iret hx hb hr (fun t ht hW => ⟨⟨_, (), rfl, rfl, by rw [ht]; exact hP, va_K.moved hW.alike hK, hD⟩, hS.F ht⟩) hS.2.2 dX9_children_25
    · replace h := ifn_el c_6 h
      refine lv_iload_n hx hb dX9_children_14 rfl (lv_at hl 3 rfl) ?_
      refine lv_if_lt (tgt := 24) hx hb dX9_children_15 (by decide) (fun c_7 => ?_) (fun c_7 => ?_)
      · replace h := ifp_el c_7 h
        refine lv_iconst (v := (-1 : Int32)) hx hb dX9_children_24 (by decide) ?_
        cases h
        rw [← hQe]
        exact W.iret hx hb hr (fun t ht hW => ⟨⟨_, (), rfl, rfl, by rw [ht]; exact hP, va_K.moved hW.alike hK, hD⟩, hS.F ht⟩) hS.2.2 dX9_children_25
      · replace h := ifn_el c_7 h
        refine lv_iload_n hx hb dX9_children_18 rfl (lv_at hl 3 rfl) ?_
        refine lv_bipush (v := (nI 20)) hx hb dX9_children_19 (by decide) ?_
        refine lv_icmp_le (tgt := 26) hx hb dX9_children_21 (by decide) (fun c_8 => ?_) (fun c_8 => ?_)
        · replace h := ifp_el c_8 h
          refine lv_iload_n hx hb dX9_children_26 rfl (lv_at hl 1 rfl) ?_
          refine lv_istore (lv' := [(4, .int p1), (0, .ref q_this), (1, .int p1), (2, .int p2), (3, .int p3)]) hx hb dX9_children_27 hl (by decide) rfl (fun ls hl => ?_)
          refine lv_iconst (v := (nI 0)) hx hb dX9_children_29 (by decide) ?_
          refine lv_istore (lv' := [(5, .int (nI 0)), (4, .int p1), (0, .ref q_this), (1, .int p1), (2, .int p2), (3, .int p3)]) hx hb dX9_children_30 hl (by decide) rfl (fun ls hl => ?_)
          obtain ⟨o_11, hL, h⟩ := bd1_el h
          have hex : ∀ (H : Heap) (locs : List Loc) (ls : Array Slot), va_P D vwCl [] H → va_D A [] → va_S A s.heap H locs → lv_has ls 6 [(4, .int o_11)] → W p l e (headSpec wsX9_children rm_X9_children).room s m args below meth c H locs 0 0 Q (F0 m 52 ls []) := by
            intro H locs ls hP hD hS hl
            refine lv_iload hx hb dX9_children_52 (lv_at hl 0 rfl) ?_
            cases h
            rw [← hQe]
            exact W.iret hx hb hr (fun t ht hW => ⟨⟨_, (), rfl, rfl, by rw [ht]; exact hP, va_K.moved hW.alike hK, hD⟩, hS.F ht⟩) hS.2.2 dX9_children_54
          have hlp : ∀ (n : Nat) (x4_9 : Int32) (x5_10 : Int32) (o_11 : Int32) (H : Heap) (locs : List Loc) (ls : Array Slot), lpg (T := Int32 → Int32 → Option (Int32)) (fun _ _ => none) (b_X9_children_32 p2 p3 F) n x4_9 x5_10 = some (o_11) → (∀ (H : Heap) (locs : List Loc) (ls : Array Slot), va_P D vwCl [] H → va_D A [] → va_S A s.heap H locs → lv_has ls 6 [(4, .int o_11)] → W p l e (headSpec wsX9_children rm_X9_children).room s m args below meth c H locs 0 0 Q (F0 m 52 ls [])) → va_P D vwCl [] H → va_D A [] → va_S A s.heap H locs → lv_has ls 6 [(2, .int p2), (3, .int p3), (4, .int x4_9), (5, .int x5_10)] → W p l e (headSpec wsX9_children rm_X9_children).room s m args below meth c H locs 0 0 Q (F0 m 32 ls []) := by
            intro n
            induction n with
            | zero => intro x4_9 x5_10 o_11 H locs ls h; have h : (none : Option (Int32)) = some _ := h; cases h
            | succ n ih =>
              intro x4_9 x5_10 o_11 H locs ls h hex hP hD hS hl
              rw [lpg_succ, b_X9_children_32] at h
              refine lv_iload hx hb dX9_children_32 (lv_at hl 3 rfl) ?_
              refine lv_iload_n hx hb dX9_children_34 rfl (lv_at hl 1 rfl) ?_
              refine lv_icmp_ge (tgt := 52) hx hb dX9_children_35 (by decide) (fun c_12 => ?_) (fun c_12 => ?_)
              · replace h := ifp_el c_12 h
                cases h
                exact hex _ _ _ hP hD hS (lv_sub hl [2] rfl)
              · replace h := ifn_el c_12 h
                refine lv_iload hx hb dX9_children_38 (lv_at hl 2 rfl) ?_
                refine lv_iload_n hx hb dX9_children_40 rfl (lv_at hl 0 rfl) ?_
                obtain ⟨r_13, hg_14, h⟩ := bd1_el h
                refine kx_Si (As := [.int x4_9, .int p2]) (rest := []) (wr := []) (w1 := []) (wn := []) ⟨hx, hb, hml, hown, hts⟩ (c_X9_nextGeneration l D ca F H.size x4_9 p2 r_13 hg_14) (va_cwS 2 hts gX9_children_X9_nextGeneration rfl rfl rfl (by decide +kernel) ⟨(Nat.le_of_ble_eq_true rfl), (Nat.le_of_ble_eq_true rfl)⟩) hK hP hD hS hA [] [] [] rfl rfl rfl rfl (by decide) rfl rfl rfl hl.1 rfl (Nat.le_of_ble_eq_true rfl) dX9_children_41 ⟨Nat.zero_le _, Nat.zero_le _⟩ (fun H locs hP hD hS => ?_)
                refine lv_istore (lv' := [(4, .int r_13), (2, .int p2), (3, .int p3), (5, .int x5_10)]) hx hb dX9_children_44 hl (by decide) rfl (fun ls hl => ?_)
                obtain ⟨x5_15, e_16, h⟩ := nm_el h
                refine lv_iinc (v := x5_15) (lv' := [(5, .int x5_15), (4, .int r_13), (2, .int p2), (3, .int p3)]) hx hb dX9_children_46 hl (k := 3) rfl (by rw [← e_16]; rfl) (by decide) rfl (fun ls hl => ?_)
                refine lv_goto (tgt := 32) hx hb dX9_children_49 (by decide) ?_
                exact ih _ _ _ _ _ _ h hex hP hD hS (lv_sub hl [2, 3, 1, 0] rfl)
          exact hlp F p1 (nI 0) o_11 H locs ls hL hex hP hD hS (lv_sub hl [4, 5, 1, 0] rfl)
        · replace h := ifn_el c_8 h
          refine lv_iconst (v := (-1 : Int32)) hx hb dX9_children_24 (by decide) ?_
          cases h
          rw [← hQe]
          exact W.iret hx hb hr (fun t ht hW => ⟨⟨_, (), rfl, rfl, by rw [ht]; exact hP, va_K.moved hW.alike hK, hD⟩, hS.F ht⟩) hS.2.2 dX9_children_25
def b_X9_even_21 (p2 : Int32) (F : Nat) (rec21 : Int32 → Int32 → Option (Int32)) (x3_7 : Int32) (x4_8 : Int32) : Option (Int32) := (if (nI 20) < x4_8 then some ((-4 : Int32)) else (if (nI 950) ≤ x3_7 then some (x4_8) else (if (nI 50) < x3_7 then bd1 (D_X9_nextGeneration F x3_7 p2) (fun r_12 => nm (x4_8 + (nI 1)) (fun x4_14 => rec21 r_12 x4_14)) else some (x4_8))))
def D_X9_even (F : Nat) (p1 : Int32) (p2 : Int32) : Option (Int32) := bd1 (D_X9_isOfThousand p1) (fun r_1 => (if r_1 = 0 then some ((-1 : Int32)) else bd1 (D_X9_isBent p2) (fun r_4 => (if r_4 = 0 then some ((-1 : Int32)) else lpg (T := Int32 → Int32 → Option (Int32)) (fun _ _ => none) (b_X9_even_21 p2 F) F p1 (nI 0)))))
abbrev rm_X9_even : Room := { frames := 1, cells := 0, slots := 0, locals := 27 }
set_option maxHeartbeats 4000000 in
set_option maxRecDepth 100000 in
theorem c_X9_even (l : Launch) (D : va_G) (ca : Nat → ClassId) (F : Nat) (sz : Nat) (q_this : Nat) (p1 : Int32) (p2 : Int32) (r : Int32) (h : D_X9_even F p1 p2 = some (r)) : Met l yX9_even wsX9_even rm_X9_even (va_Pc [.ref q_this, .int p1, .int p2] (kPre D ca [] sz)) (kQi D ca (va_A [] sz) [] r) 0 0 (va_A [] sz) := by
  refine Met.ofW (cc := cX9_even) (maxL := 5) (ret := (some .int)) (by decide +kernel) rfl ?_
  intro p e s m args below meth c s₁ B hml hv
  obtain ⟨rfl, hsz, hP, hK, hD0⟩ := hv
  have hx := B.exec
  have hb := B.bytes
  have hr := B.returns
  have hts := atoms_spec (ws := wsX9_even) B.pre
  have hown : s.vm.findClass RX9 = some m.cls := findClass_of_methodNamed B.named
  have hlocks := B.notSynchronized
  clear B
  subst hsz
  have hD := hD0.self (sz := s.heap.size)
  generalize hAe : va_A [] s.heap.size = A at hD ⊢
  have hA : ∀ q : Nat, s.heap.size ≤ q → A q := fun q h => by rw [← hAe]; exact Or.inr h
  have hS : va_S A s.heap s.heap [] := va_S.rf
  have hl := lv_entry ([.ref q_this, .int p1, .int p2]) (n := 5) (Nat.le_of_ble_eq_true rfl)
  rw [lg_entry_eq]
  generalize (lg_sl ([.ref q_this, .int p1, .int p2]) ++ List.replicate (5 - (lg_sl ([.ref q_this, .int p1, .int p2])).length) Slot.unset).toArray = ls at hl ⊢
  have hl : lv_has ls 5 [(0, .ref q_this), (1, .int p1), (2, .int p2)] := hl
  generalize ([.ref q_this, .int p1, .int p2] : List Value).toArray = args at hts ⊢
  generalize hQe : MQ below (kQi D ca (A) [] r) args s 0 0 A = Q
  rw [D_X9_even] at h
  refine lv_iload_n hx hb dX9_even_0 rfl (lv_at hl 1 rfl) ?_
  obtain ⟨r_1, hg_2, h⟩ := bd1_el h
  refine kx_Si (As := [.int p1]) (rest := []) (wr := []) (w1 := []) (wn := []) ⟨hx, hb, hml, hown, hts⟩ (c_X9_isOfThousand l D ca s.heap.size p1 r_1 hg_2) (va_cwS 1 hts gX9_even_X9_isOfThousand rfl rfl rfl (by decide +kernel) ⟨(Nat.le_of_ble_eq_true rfl), (Nat.le_of_ble_eq_true rfl)⟩) hK hP hD hS hA [] [] [] rfl rfl rfl rfl (by decide) rfl rfl rfl hl.1 rfl (Nat.le_of_ble_eq_true rfl) dX9_even_1 ⟨Nat.zero_le _, Nat.zero_le _⟩ (fun H locs hP hD hS => ?_)
  refine lv_if_eq (tgt := 14) hx hb dX9_even_4 (by decide) (fun c_3 => ?_) (fun c_3 => ?_)
  · replace h := ifp_el c_3 h
    refine lv_iconst (v := (-1 : Int32)) hx hb dX9_even_14 (by decide) ?_
    cases h
    rw [← hQe]
    exact W.iret hx hb hr (fun t ht hW => ⟨⟨_, (), rfl, rfl, by rw [ht]; exact hP, va_K.moved hW.alike hK, hD⟩, hS.F ht⟩) hS.2.2 dX9_even_15
  · replace h := ifn_el c_3 h
    refine lv_iload_n hx hb dX9_even_7 rfl (lv_at hl 2 rfl) ?_
    obtain ⟨r_4, hg_5, h⟩ := bd1_el h
    refine kx_Si (As := [.int p2]) (rest := []) (wr := []) (w1 := []) (wn := []) ⟨hx, hb, hml, hown, hts⟩ (c_X9_isBent l D ca H.size p2 r_4 hg_5) (va_cwS 1 hts gX9_even_X9_isBent rfl rfl rfl (by decide +kernel) ⟨(Nat.le_of_ble_eq_true rfl), (Nat.le_of_ble_eq_true rfl)⟩) hK hP hD hS hA [] [] [] rfl rfl rfl rfl (by decide) rfl rfl rfl hl.1 rfl (Nat.le_of_ble_eq_true rfl) dX9_even_8 ⟨Nat.zero_le _, Nat.zero_le _⟩ (fun H locs hP hD hS => ?_)
    refine lv_if_ne (tgt := 16) hx hb dX9_even_11 (by decide) (fun c_6 => ?_) (fun c_6 => ?_)
    · replace h := ifn_el c_6 h
      refine lv_iload_n hx hb dX9_even_16 rfl (lv_at hl 1 rfl) ?_
      refine lv_istore_n (lv' := [(3, .int p1), (0, .ref q_this), (1, .int p1), (2, .int p2)]) hx hb dX9_even_17 rfl hl (by decide) rfl (fun ls hl => ?_)
      refine lv_iconst (v := (nI 0)) hx hb dX9_even_18 (by decide) ?_
      refine lv_istore (lv' := [(4, .int (nI 0)), (3, .int p1), (0, .ref q_this), (1, .int p1), (2, .int p2)]) hx hb dX9_even_19 hl (by decide) rfl (fun ls hl => ?_)
      have hlp : ∀ (n : Nat) (x3_7 : Int32) (x4_8 : Int32) (H : Heap) (locs : List Loc) (ls : Array Slot), lpg (T := Int32 → Int32 → Option (Int32)) (fun _ _ => none) (b_X9_even_21 p2 F) n x3_7 x4_8 = some (r) → va_P D vwCl [] H → va_D A [] → va_S A s.heap H locs → lv_has ls 5 [(2, .int p2), (3, .int x3_7), (4, .int x4_8)] → W p l e (headSpec wsX9_even rm_X9_even).room s m args below meth c H locs 0 0 Q (F0 m 21 ls []) := by
        intro n
        induction n with
        | zero => intro x3_7 x4_8 H locs ls h; have h : (none : Option (Int32)) = some _ := h; cases h
        | succ n ih =>
          intro x3_7 x4_8 H locs ls h hP hD hS hl
          rw [lpg_succ, b_X9_even_21] at h
          refine lv_iload hx hb dX9_even_21 (lv_at hl 2 rfl) ?_
          refine lv_bipush (v := (nI 20)) hx hb dX9_even_23 (by decide) ?_
          refine lv_icmp_gt (tgt := 56) hx hb dX9_even_25 (by decide) (fun c_9 => ?_) (fun c_9 => ?_)
          · replace h := ifp_el c_9 h
            refine lv_bipush (v := (-4 : Int32)) hx hb dX9_even_56 (by decide) ?_
            cases h
            rw [← hQe]
            exact W.iret hx hb hr (fun t ht hW => ⟨⟨_, (), rfl, rfl, by rw [ht]; exact hP, va_K.moved hW.alike hK, hD⟩, hS.F ht⟩) hS.2.2 dX9_even_58
          · replace h := ifn_el c_9 h
            refine lv_iload_n hx hb dX9_even_28 rfl (lv_at hl 1 rfl) ?_
            refine lv_sipush (v := (nI 950)) hx hb dX9_even_29 (by decide) ?_
            refine lv_icmp_ge (tgt := 41) hx hb dX9_even_32 (by decide) (fun c_10 => ?_) (fun c_10 => ?_)
            · replace h := ifp_el c_10 h
              refine lv_iload hx hb dX9_even_41 (lv_at hl 2 rfl) ?_
              cases h
              rw [← hQe]
              exact W.iret hx hb hr (fun t ht hW => ⟨⟨_, (), rfl, rfl, by rw [ht]; exact hP, va_K.moved hW.alike hK, hD⟩, hS.F ht⟩) hS.2.2 dX9_even_43
            · replace h := ifn_el c_10 h
              refine lv_iload_n hx hb dX9_even_35 rfl (lv_at hl 1 rfl) ?_
              refine lv_bipush (v := (nI 50)) hx hb dX9_even_36 (by decide) ?_
              refine lv_icmp_gt (tgt := 44) hx hb dX9_even_38 (by decide) (fun c_11 => ?_) (fun c_11 => ?_)
              · replace h := ifp_el c_11 h
                refine lv_iload_n hx hb dX9_even_44 rfl (lv_at hl 1 rfl) ?_
                refine lv_iload_n hx hb dX9_even_45 rfl (lv_at hl 0 rfl) ?_
                obtain ⟨r_12, hg_13, h⟩ := bd1_el h
                refine kx_Si (As := [.int x3_7, .int p2]) (rest := []) (wr := []) (w1 := []) (wn := []) ⟨hx, hb, hml, hown, hts⟩ (c_X9_nextGeneration l D ca F H.size x3_7 p2 r_12 hg_13) (va_cwS 2 hts gX9_even_X9_nextGeneration rfl rfl rfl (by decide +kernel) ⟨(Nat.le_of_ble_eq_true rfl), (Nat.le_of_ble_eq_true rfl)⟩) hK hP hD hS hA [] [] [] rfl rfl rfl rfl (by decide) rfl rfl rfl hl.1 rfl (Nat.le_of_ble_eq_true rfl) dX9_even_46 ⟨Nat.zero_le _, Nat.zero_le _⟩ (fun H locs hP hD hS => ?_)
                refine lv_istore_n (lv' := [(3, .int r_12), (2, .int p2), (4, .int x4_8)]) hx hb dX9_even_49 rfl hl (by decide) rfl (fun ls hl => ?_)
                obtain ⟨x4_14, e_15, h⟩ := nm_el h
                refine lv_iinc (v := x4_14) (lv' := [(4, .int x4_14), (3, .int r_12), (2, .int p2)]) hx hb dX9_even_50 hl (k := 2) rfl (by rw [← e_15]; rfl) (by decide) rfl (fun ls hl => ?_)
                refine lv_goto (tgt := 21) hx hb dX9_even_53 (by decide) ?_
                exact ih _ _ _ _ _ h hP hD hS (lv_sub hl [2, 1, 0] rfl)
              · replace h := ifn_el c_11 h
                refine lv_iload hx hb dX9_even_41 (lv_at hl 2 rfl) ?_
                cases h
                rw [← hQe]
                exact W.iret hx hb hr (fun t ht hW => ⟨⟨_, (), rfl, rfl, by rw [ht]; exact hP, va_K.moved hW.alike hK, hD⟩, hS.F ht⟩) hS.2.2 dX9_even_43
      exact hlp F p1 (nI 0) H locs ls h hP hD hS (lv_sub hl [4, 1, 0] rfl)
    · replace h := ifp_el c_6 h
      refine lv_iconst (v := (-1 : Int32)) hx hb dX9_even_14 (by decide) ?_
      cases h
      rw [← hQe]
      exact W.iret hx hb hr (fun t ht hW => ⟨⟨_, (), rfl, rfl, by rw [ht]; exact hP, va_K.moved hW.alike hK, hD⟩, hS.F ht⟩) hS.2.2 dX9_even_15
def D_X9_fewest (F : Nat) (p1 : Int32) (v_laid_needs_joinedTold : Int32) (v_laid_needs_needed : Int32) (v_laid_needs_joinedMeaning : Nat → Int32) (v_laid_needs_joinedPair : Nat → Int32) : Option (Int32) := (if p1 < 0 then some ((-1 : Int32)) else (if p1 ≤ (nI 1) then bd0 (D_X0_needs) (bd1 (D_X4_leastSet F v_laid_needs_joinedTold v_laid_needs_needed v_laid_needs_joinedMeaning v_laid_needs_joinedPair) (fun r_4 => (if p1 = 0 then some (r_4) else bd1 (D_J6_bitCount_0f7a4 r_4) (fun r_7 => some (r_7))))) else some ((-1 : Int32))))
abbrev rm_X9_fewest : Room := { frames := 3, cells := 0, slots := 0, locals := 67 }
set_option maxHeartbeats 4000000 in
set_option maxRecDepth 100000 in
theorem c_X9_fewest (l : Launch) (D : va_G) (ca : Nat → ClassId) (F : Nat) (sz : Nat) (q_this q_text q_item q_stands q_crowd q_measure q_laid q_laid_words q_laid_heard q_laid_canSay q_laid_instead q_laid_traders q_laid_takes q_laid_needs q_laid_needs_joinedMeaning q_laid_needs_joinedPair q_tried : Nat) (p1 : Int32) (v_laid_speaks : Int32) (v_laid_alikeFrom : Int32) (v_laid_needs_joinedTold : Int32) (v_laid_needs_needsTold : Int32) (v_laid_needs_needed : Int32) (v_laid_needs_joinedMeaning : Nat → Int32) (v_laid_needs_joinedPair : Nat → Int32) (r : Int32) (h : D_X9_fewest F p1 v_laid_needs_joinedTold v_laid_needs_needed v_laid_needs_joinedMeaning v_laid_needs_joinedPair = some (r)) : Met l yX9_fewest wsX9_fewest rm_X9_fewest (va_Pc [.ref q_this, .int p1] (kPre D ca [(q_this, .inr (7, [.ref q_text, .ref q_item, .ref q_stands, .ref q_crowd, .ref q_measure, .ref q_laid, .ref q_tried])), (q_laid, .inr (0, [.ref q_laid_words, .ref q_laid_heard, .ref q_laid_canSay, .ref q_laid_instead, .ref q_laid_traders, .ref q_laid_takes, .ref q_laid_needs, .int v_laid_speaks, .int v_laid_alikeFrom])), (q_laid_needs, .inr (4, [.ref q_laid_needs_joinedMeaning, .ref q_laid_needs_joinedPair, .int v_laid_needs_joinedTold, .int v_laid_needs_needsTold, .int v_laid_needs_needed])), (q_laid_needs_joinedMeaning, .inl (ca 0, 8, .inl v_laid_needs_joinedMeaning)), (q_laid_needs_joinedPair, .inl (ca 0, 8, .inl v_laid_needs_joinedPair))] sz)) (kQi D ca (va_A [(q_this, .inr (7, [.ref q_text, .ref q_item, .ref q_stands, .ref q_crowd, .ref q_measure, .ref q_laid, .ref q_tried])), (q_laid, .inr (0, [.ref q_laid_words, .ref q_laid_heard, .ref q_laid_canSay, .ref q_laid_instead, .ref q_laid_traders, .ref q_laid_takes, .ref q_laid_needs, .int v_laid_speaks, .int v_laid_alikeFrom])), (q_laid_needs, .inr (4, [.ref q_laid_needs_joinedMeaning, .ref q_laid_needs_joinedPair, .int v_laid_needs_joinedTold, .int v_laid_needs_needsTold, .int v_laid_needs_needed])), (q_laid_needs_joinedMeaning, .inl (ca 0, 8, .inl v_laid_needs_joinedMeaning)), (q_laid_needs_joinedPair, .inl (ca 0, 8, .inl v_laid_needs_joinedPair))] sz) [(q_this, .inr (7, [.ref q_text, .ref q_item, .ref q_stands, .ref q_crowd, .ref q_measure, .ref q_laid, .ref q_tried])), (q_laid, .inr (0, [.ref q_laid_words, .ref q_laid_heard, .ref q_laid_canSay, .ref q_laid_instead, .ref q_laid_traders, .ref q_laid_takes, .ref q_laid_needs, .int v_laid_speaks, .int v_laid_alikeFrom])), (q_laid_needs, .inr (4, [.ref q_laid_needs_joinedMeaning, .ref q_laid_needs_joinedPair, .int v_laid_needs_joinedTold, .int v_laid_needs_needsTold, .int v_laid_needs_needed])), (q_laid_needs_joinedMeaning, .inl (ca 0, 8, .inl v_laid_needs_joinedMeaning)), (q_laid_needs_joinedPair, .inl (ca 0, 8, .inl v_laid_needs_joinedPair))] r) 0 0 (va_A [(q_this, .inr (7, [.ref q_text, .ref q_item, .ref q_stands, .ref q_crowd, .ref q_measure, .ref q_laid, .ref q_tried])), (q_laid, .inr (0, [.ref q_laid_words, .ref q_laid_heard, .ref q_laid_canSay, .ref q_laid_instead, .ref q_laid_traders, .ref q_laid_takes, .ref q_laid_needs, .int v_laid_speaks, .int v_laid_alikeFrom])), (q_laid_needs, .inr (4, [.ref q_laid_needs_joinedMeaning, .ref q_laid_needs_joinedPair, .int v_laid_needs_joinedTold, .int v_laid_needs_needsTold, .int v_laid_needs_needed])), (q_laid_needs_joinedMeaning, .inl (ca 0, 8, .inl v_laid_needs_joinedMeaning)), (q_laid_needs_joinedPair, .inl (ca 0, 8, .inl v_laid_needs_joinedPair))] sz) := by
  refine Met.ofW (cc := cX9_fewest) (maxL := 3) (ret := (some .int)) (by decide +kernel) rfl ?_
  intro p e s m args below meth c s₁ B hml hv
  obtain ⟨rfl, hsz, hP, hK, hD0⟩ := hv
  have hx := B.exec
  have hb := B.bytes
  have hr := B.returns
  have hts := atoms_spec (ws := wsX9_fewest) B.pre
  have hown : s.vm.findClass RX9 = some m.cls := findClass_of_methodNamed B.named
  have hlocks := B.notSynchronized
  clear B
  subst hsz
  have hD := hD0.self (sz := s.heap.size)
  generalize hAe : va_A [(q_this, .inr (7, [.ref q_text, .ref q_item, .ref q_stands, .ref q_crowd, .ref q_measure, .ref q_laid, .ref q_tried])), (q_laid, .inr (0, [.ref q_laid_words, .ref q_laid_heard, .ref q_laid_canSay, .ref q_laid_instead, .ref q_laid_traders, .ref q_laid_takes, .ref q_laid_needs, .int v_laid_speaks, .int v_laid_alikeFrom])), (q_laid_needs, .inr (4, [.ref q_laid_needs_joinedMeaning, .ref q_laid_needs_joinedPair, .int v_laid_needs_joinedTold, .int v_laid_needs_needsTold, .int v_laid_needs_needed])), (q_laid_needs_joinedMeaning, .inl (ca 0, 8, .inl v_laid_needs_joinedMeaning)), (q_laid_needs_joinedPair, .inl (ca 0, 8, .inl v_laid_needs_joinedPair))] s.heap.size = A at hD ⊢
  have hA : ∀ q : Nat, s.heap.size ≤ q → A q := fun q h => by rw [← hAe]; exact Or.inr h
  have hS : va_S A s.heap s.heap [] := va_S.rf
  have hl := lv_entry ([.ref q_this, .int p1]) (n := 3) (Nat.le_of_ble_eq_true rfl)
  rw [lg_entry_eq]
  generalize (lg_sl ([.ref q_this, .int p1]) ++ List.replicate (3 - (lg_sl ([.ref q_this, .int p1])).length) Slot.unset).toArray = ls at hl ⊢
  have hl : lv_has ls 3 [(0, .ref q_this), (1, .int p1)] := hl
  generalize ([.ref q_this, .int p1] : List Value).toArray = args at hts ⊢
  generalize hQe : MQ below (kQi D ca (A) [(q_this, .inr (7, [.ref q_text, .ref q_item, .ref q_stands, .ref q_crowd, .ref q_measure, .ref q_laid, .ref q_tried])), (q_laid, .inr (0, [.ref q_laid_words, .ref q_laid_heard, .ref q_laid_canSay, .ref q_laid_instead, .ref q_laid_traders, .ref q_laid_takes, .ref q_laid_needs, .int v_laid_speaks, .int v_laid_alikeFrom])), (q_laid_needs, .inr (4, [.ref q_laid_needs_joinedMeaning, .ref q_laid_needs_joinedPair, .int v_laid_needs_joinedTold, .int v_laid_needs_needsTold, .int v_laid_needs_needed])), (q_laid_needs_joinedMeaning, .inl (ca 0, 8, .inl v_laid_needs_joinedMeaning)), (q_laid_needs_joinedPair, .inl (ca 0, 8, .inl v_laid_needs_joinedPair))] r) args s 0 0 A = Q
  have i_X9 : ∀ w ∈ u_ws RX9 TX9 7, w ∈ wsX9_fewest := by decide +kernel
  have k_49 := hts (.fieldLink RX9 49 "TradeWords" "laid" "LTradeWords$Beach;") (by decide +kernel)
  rw [D_X9_fewest] at h
  refine lv_iload_n hx hb dX9_fewest_0 rfl (lv_at hl 1 rfl) ?_
  refine lv_if_lt (tgt := 9) hx hb dX9_fewest_1 (by decide) (fun c_1 => ?_) (fun c_1 => ?_)
  · replace h := ifp_el c_1 h
    refine lv_iconst (v := (-1 : Int32)) hx hb dX9_fewest_9 (by decide) ?_
    cases h
    rw [← hQe]
    exact W.iret hx hb hr (fun t ht hW => ⟨⟨_, (), rfl, rfl, by rw [ht]; exact hP, va_K.moved hW.alike hK, hD⟩, hS.F ht⟩) hS.2.2 dX9_fewest_10
  · replace h := ifn_el c_1 h
    refine lv_iload_n hx hb dX9_fewest_4 rfl (lv_at hl 1 rfl) ?_
    refine lv_iconst (v := (nI 1)) hx hb dX9_fewest_5 (by decide) ?_
    refine lv_icmp_le (tgt := 11) hx hb dX9_fewest_6 (by decide) (fun c_2 => ?_) (fun c_2 => ?_)
    · replace h := ifp_el c_2 h
      refine lv_aload_n hx hb dX9_fewest_11 rfl (lv_at hl 0 rfl) ?_
      refine va_get (D := D) (ci := 7) (v := .ref q_laid) (C := RX9) (T := TX9) (N := 7) hx hb hts i_X9 hown hK hP 0 rfl rfl 5 (by decide) k_49 (fun _ h9 => h9) rfl dX9_fewest_12 ?_
      obtain ⟨hg_3, h⟩ := bd0_el h
      refine kx_Vr (As := []) (rest := []) (wr := [(q_this, .inr (7, [.ref q_text, .ref q_item, .ref q_stands, .ref q_crowd, .ref q_measure, .ref q_laid, .ref q_tried])), (q_laid_needs, .inr (4, [.ref q_laid_needs_joinedMeaning, .ref q_laid_needs_joinedPair, .int v_laid_needs_joinedTold, .int v_laid_needs_needsTold, .int v_laid_needs_needed])), (q_laid_needs_joinedMeaning, .inl (ca 0, 8, .inl v_laid_needs_joinedMeaning)), (q_laid_needs_joinedPair, .inl (ca 0, 8, .inl v_laid_needs_joinedPair))]) (w1 := [(q_laid, .inr (0, [.ref q_laid_words, .ref q_laid_heard, .ref q_laid_canSay, .ref q_laid_instead, .ref q_laid_traders, .ref q_laid_takes, .ref q_laid_needs, .int v_laid_speaks, .int v_laid_alikeFrom]))]) (wn := [(q_this, .inr (7, [.ref q_text, .ref q_item, .ref q_stands, .ref q_crowd, .ref q_measure, .ref q_laid, .ref q_tried])), (q_laid, .inr (0, [.ref q_laid_words, .ref q_laid_heard, .ref q_laid_canSay, .ref q_laid_instead, .ref q_laid_traders, .ref q_laid_takes, .ref q_laid_needs, .int v_laid_speaks, .int v_laid_alikeFrom])), (q_laid_needs, .inr (4, [.ref q_laid_needs_joinedMeaning, .ref q_laid_needs_joinedPair, .int v_laid_needs_joinedTold, .int v_laid_needs_needsTold, .int v_laid_needs_needed])), (q_laid_needs_joinedMeaning, .inl (ca 0, 8, .inl v_laid_needs_joinedMeaning)), (q_laid_needs_joinedPair, .inl (ca 0, 8, .inl v_laid_needs_joinedPair))]) ⟨hx, hb, hml, hown, hts⟩ (c_X0_needs l D ca s.heap.size q_laid q_laid_words q_laid_heard q_laid_canSay q_laid_instead q_laid_traders q_laid_takes q_laid_needs v_laid_speaks v_laid_alikeFrom hg_3) (cwV 0 hts gX9_fewest_X0_needs rfl rfl rfl (by decide +kernel) ⟨(Nat.le_of_ble_eq_true rfl), (Nat.le_of_ble_eq_true rfl)⟩) hK hP hD hS hA (ci := 0) (q0 := 0) rfl rfl [1] [0, 2, 3, 4] [0, 4, 1, 2, 3] rfl rfl rfl rfl (by decide) rfl rfl rfl hl.1 rfl (Nat.le_of_ble_eq_true rfl) dX9_fewest_15 ⟨Nat.zero_le _, Nat.zero_le _⟩ (fun H locs hP hD hS => ?_)
      obtain ⟨r_4, hg_5, h⟩ := bd1_el h
      refine kx_Vi (As := []) (rest := []) (wr := [(q_this, .inr (7, [.ref q_text, .ref q_item, .ref q_stands, .ref q_crowd, .ref q_measure, .ref q_laid, .ref q_tried])), (q_laid, .inr (0, [.ref q_laid_words, .ref q_laid_heard, .ref q_laid_canSay, .ref q_laid_instead, .ref q_laid_traders, .ref q_laid_takes, .ref q_laid_needs, .int v_laid_speaks, .int v_laid_alikeFrom]))]) (w1 := [(q_laid_needs, .inr (4, [.ref q_laid_needs_joinedMeaning, .ref q_laid_needs_joinedPair, .int v_laid_needs_joinedTold, .int v_laid_needs_needsTold, .int v_laid_needs_needed])), (q_laid_needs_joinedMeaning, .inl (ca 0, 8, .inl v_laid_needs_joinedMeaning)), (q_laid_needs_joinedPair, .inl (ca 0, 8, .inl v_laid_needs_joinedPair))]) (wn := [(q_this, .inr (7, [.ref q_text, .ref q_item, .ref q_stands, .ref q_crowd, .ref q_measure, .ref q_laid, .ref q_tried])), (q_laid, .inr (0, [.ref q_laid_words, .ref q_laid_heard, .ref q_laid_canSay, .ref q_laid_instead, .ref q_laid_traders, .ref q_laid_takes, .ref q_laid_needs, .int v_laid_speaks, .int v_laid_alikeFrom])), (q_laid_needs, .inr (4, [.ref q_laid_needs_joinedMeaning, .ref q_laid_needs_joinedPair, .int v_laid_needs_joinedTold, .int v_laid_needs_needsTold, .int v_laid_needs_needed])), (q_laid_needs_joinedMeaning, .inl (ca 0, 8, .inl v_laid_needs_joinedMeaning)), (q_laid_needs_joinedPair, .inl (ca 0, 8, .inl v_laid_needs_joinedPair))]) ⟨hx, hb, hml, hown, hts⟩ (c_X4_leastSet l D ca F H.size q_laid_needs q_laid_needs_joinedMeaning q_laid_needs_joinedPair v_laid_needs_joinedTold v_laid_needs_needsTold v_laid_needs_needed v_laid_needs_joinedMeaning v_laid_needs_joinedPair r_4 hg_5) (cwV 0 hts gX9_fewest_X4_leastSet rfl rfl rfl (by decide +kernel) ⟨(Nat.le_of_ble_eq_true rfl), (Nat.le_of_ble_eq_true rfl)⟩) hK hP hD hS hA (ci := 4) (q0 := 0) rfl rfl [2, 3, 4] [0, 1] [0, 1, 2, 3, 4] rfl rfl rfl rfl (by decide) rfl rfl rfl hl.1 rfl (Nat.le_of_ble_eq_true rfl) dX9_fewest_18 ⟨Nat.zero_le _, Nat.zero_le _⟩ (fun H locs hP hD hS => ?_)
      refine lv_istore_n (lv' := [(2, .int r_4), (0, .ref q_this), (1, .int p1)]) hx hb dX9_fewest_21 rfl hl (by decide) rfl (fun ls hl => ?_)
      refine lv_iload_n hx hb dX9_fewest_22 rfl (lv_at hl 2 rfl) ?_
      refine lv_if_ne (tgt := 30) hx hb dX9_fewest_23 (by decide) (fun c_6 => ?_) (fun c_6 => ?_)
      · replace h := ifn_el c_6 h
        refine lv_iload_n hx hb dX9_fewest_30 rfl (lv_at hl 0 rfl) ?_
        obtain ⟨r_7, hg_8, h⟩ := bd1_el h
        refine kx_Si (As := [.int r_4]) (rest := []) (wr := [(q_this, .inr (7, [.ref q_text, .ref q_item, .ref q_stands, .ref q_crowd, .ref q_measure, .ref q_laid, .ref q_tried])), (q_laid, .inr (0, [.ref q_laid_words, .ref q_laid_heard, .ref q_laid_canSay, .ref q_laid_instead, .ref q_laid_traders, .ref q_laid_takes, .ref q_laid_needs, .int v_laid_speaks, .int v_laid_alikeFrom])), (q_laid_needs, .inr (4, [.ref q_laid_needs_joinedMeaning, .ref q_laid_needs_joinedPair, .int v_laid_needs_joinedTold, .int v_laid_needs_needsTold, .int v_laid_needs_needed])), (q_laid_needs_joinedMeaning, .inl (ca 0, 8, .inl v_laid_needs_joinedMeaning)), (q_laid_needs_joinedPair, .inl (ca 0, 8, .inl v_laid_needs_joinedPair))]) (w1 := []) (wn := [(q_this, .inr (7, [.ref q_text, .ref q_item, .ref q_stands, .ref q_crowd, .ref q_measure, .ref q_laid, .ref q_tried])), (q_laid, .inr (0, [.ref q_laid_words, .ref q_laid_heard, .ref q_laid_canSay, .ref q_laid_instead, .ref q_laid_traders, .ref q_laid_takes, .ref q_laid_needs, .int v_laid_speaks, .int v_laid_alikeFrom])), (q_laid_needs, .inr (4, [.ref q_laid_needs_joinedMeaning, .ref q_laid_needs_joinedPair, .int v_laid_needs_joinedTold, .int v_laid_needs_needsTold, .int v_laid_needs_needed])), (q_laid_needs_joinedMeaning, .inl (ca 0, 8, .inl v_laid_needs_joinedMeaning)), (q_laid_needs_joinedPair, .inl (ca 0, 8, .inl v_laid_needs_joinedPair))]) ⟨hx, hb, hml, hown, hts⟩ (c_J6_bitCount_0f7a4 l D ca H.size r_4 r_7 hg_8) (va_cwS 1 hts gX9_fewest_J6_bitCount_0f7a4 rfl rfl rfl (by decide +kernel) ⟨(Nat.le_of_ble_eq_true rfl), (Nat.le_of_ble_eq_true rfl)⟩) hK hP hD hS hA [] [0, 1, 2, 3, 4] [0, 1, 2, 3, 4] rfl rfl rfl rfl (by decide) rfl rfl rfl hl.1 rfl (Nat.le_of_ble_eq_true rfl) dX9_fewest_31 ⟨Nat.zero_le _, Nat.zero_le _⟩ (fun H locs hP hD hS => ?_)
        cases h
        rw [← hQe]
        exact W.iret hx hb hr (fun t ht hW => ⟨⟨_, (), rfl, rfl, by rw [ht]; exact hP, va_K.moved hW.alike hK, hD⟩, hS.F ht⟩) hS.2.2 dX9_fewest_34
      · replace h := ifp_el c_6 h
        refine lv_iload_n hx hb dX9_fewest_26 rfl (lv_at hl 0 rfl) ?_
        refine lv_goto (tgt := 34) hx hb dX9_fewest_27 (by decide) ?_
        cases h
        rw [← hQe]
        exact W.iret hx hb hr (fun t ht hW => ⟨⟨_, (), rfl, rfl, by rw [ht]; exact hP, va_K.moved hW.alike hK, hD⟩, hS.F ht⟩) hS.2.2 dX9_fewest_34
    · replace h := ifn_el c_2 h
      refine lv_iconst (v := (-1 : Int32)) hx hb dX9_fewest_9 (by decide) ?_
      cases h
      rw [← hQe]
      exact W.iret hx hb hr (fun t ht hW => ⟨⟨_, (), rfl, rfl, by rw [ht]; exact hP, va_K.moved hW.alike hK, hD⟩, hS.F ht⟩) hS.2.2 dX9_fewest_10
def D_X9_both (v_laid_canSay : Nat → Int32) : Option (Int32) := bd1 (D_X0_soundsOf (nI 0) v_laid_canSay) (fun r_1 => bd1 (D_X0_soundsOf (nI 1) v_laid_canSay) (fun r_3 => some ((r_1 &&& r_3))))
abbrev rm_X9_both : Room := { frames := 2, cells := 0, slots := 0, locals := 42 }
set_option maxHeartbeats 4000000 in
set_option maxRecDepth 100000 in
theorem c_X9_both (l : Launch) (D : va_G) (ca : Nat → ClassId) (sz : Nat) (q_this q_text q_item q_stands q_crowd q_measure q_laid q_laid_words q_laid_heard q_laid_canSay q_laid_instead q_laid_traders q_laid_takes q_laid_needs q_tried : Nat) (v_laid_speaks : Int32) (v_laid_alikeFrom : Int32) (v_laid_canSay : Nat → Int32) (r : Int32) (h : D_X9_both v_laid_canSay = some (r)) : Met l yX9_both wsX9_both rm_X9_both (va_Pc [.ref q_this] (kPre D ca [(q_this, .inr (7, [.ref q_text, .ref q_item, .ref q_stands, .ref q_crowd, .ref q_measure, .ref q_laid, .ref q_tried])), (q_laid, .inr (0, [.ref q_laid_words, .ref q_laid_heard, .ref q_laid_canSay, .ref q_laid_instead, .ref q_laid_traders, .ref q_laid_takes, .ref q_laid_needs, .int v_laid_speaks, .int v_laid_alikeFrom])), (q_laid_canSay, .inl (ca 0, 2, .inl v_laid_canSay))] sz)) (kQi D ca (va_A [(q_this, .inr (7, [.ref q_text, .ref q_item, .ref q_stands, .ref q_crowd, .ref q_measure, .ref q_laid, .ref q_tried])), (q_laid, .inr (0, [.ref q_laid_words, .ref q_laid_heard, .ref q_laid_canSay, .ref q_laid_instead, .ref q_laid_traders, .ref q_laid_takes, .ref q_laid_needs, .int v_laid_speaks, .int v_laid_alikeFrom])), (q_laid_canSay, .inl (ca 0, 2, .inl v_laid_canSay))] sz) [(q_this, .inr (7, [.ref q_text, .ref q_item, .ref q_stands, .ref q_crowd, .ref q_measure, .ref q_laid, .ref q_tried])), (q_laid, .inr (0, [.ref q_laid_words, .ref q_laid_heard, .ref q_laid_canSay, .ref q_laid_instead, .ref q_laid_traders, .ref q_laid_takes, .ref q_laid_needs, .int v_laid_speaks, .int v_laid_alikeFrom])), (q_laid_canSay, .inl (ca 0, 2, .inl v_laid_canSay))] r) 0 0 (va_A [(q_this, .inr (7, [.ref q_text, .ref q_item, .ref q_stands, .ref q_crowd, .ref q_measure, .ref q_laid, .ref q_tried])), (q_laid, .inr (0, [.ref q_laid_words, .ref q_laid_heard, .ref q_laid_canSay, .ref q_laid_instead, .ref q_laid_traders, .ref q_laid_takes, .ref q_laid_needs, .int v_laid_speaks, .int v_laid_alikeFrom])), (q_laid_canSay, .inl (ca 0, 2, .inl v_laid_canSay))] sz) := by
  refine Met.ofW (cc := cX9_both) (maxL := 1) (ret := (some .int)) (by decide +kernel) rfl ?_
  intro p e s m args below meth c s₁ B hml hv
  obtain ⟨rfl, hsz, hP, hK, hD0⟩ := hv
  have hx := B.exec
  have hb := B.bytes
  have hr := B.returns
  have hts := atoms_spec (ws := wsX9_both) B.pre
  have hown : s.vm.findClass RX9 = some m.cls := findClass_of_methodNamed B.named
  have hlocks := B.notSynchronized
  clear B
  subst hsz
  have hD := hD0.self (sz := s.heap.size)
  generalize hAe : va_A [(q_this, .inr (7, [.ref q_text, .ref q_item, .ref q_stands, .ref q_crowd, .ref q_measure, .ref q_laid, .ref q_tried])), (q_laid, .inr (0, [.ref q_laid_words, .ref q_laid_heard, .ref q_laid_canSay, .ref q_laid_instead, .ref q_laid_traders, .ref q_laid_takes, .ref q_laid_needs, .int v_laid_speaks, .int v_laid_alikeFrom])), (q_laid_canSay, .inl (ca 0, 2, .inl v_laid_canSay))] s.heap.size = A at hD ⊢
  have hA : ∀ q : Nat, s.heap.size ≤ q → A q := fun q h => by rw [← hAe]; exact Or.inr h
  have hS : va_S A s.heap s.heap [] := va_S.rf
  have hl := lv_entry ([.ref q_this]) (n := 1) (Nat.le_of_ble_eq_true rfl)
  rw [lg_entry_eq]
  generalize (lg_sl ([.ref q_this]) ++ List.replicate (1 - (lg_sl ([.ref q_this])).length) Slot.unset).toArray = ls at hl ⊢
  have hl : lv_has ls 1 [(0, .ref q_this)] := hl
  generalize ([.ref q_this] : List Value).toArray = args at hts ⊢
  generalize hQe : MQ below (kQi D ca (A) [(q_this, .inr (7, [.ref q_text, .ref q_item, .ref q_stands, .ref q_crowd, .ref q_measure, .ref q_laid, .ref q_tried])), (q_laid, .inr (0, [.ref q_laid_words, .ref q_laid_heard, .ref q_laid_canSay, .ref q_laid_instead, .ref q_laid_traders, .ref q_laid_takes, .ref q_laid_needs, .int v_laid_speaks, .int v_laid_alikeFrom])), (q_laid_canSay, .inl (ca 0, 2, .inl v_laid_canSay))] r) args s 0 0 A = Q
  have i_X9 : ∀ w ∈ u_ws RX9 TX9 7, w ∈ wsX9_both := by decide +kernel
  have k_49 := hts (.fieldLink RX9 49 "TradeWords" "laid" "LTradeWords$Beach;") (by decide +kernel)
  rw [D_X9_both] at h
  refine lv_aload_n hx hb dX9_both_0 rfl (lv_at hl 0 rfl) ?_
  refine va_get (D := D) (ci := 7) (v := .ref q_laid) (C := RX9) (T := TX9) (N := 7) hx hb hts i_X9 hown hK hP 0 rfl rfl 5 (by decide) k_49 (fun _ h9 => h9) rfl dX9_both_1 ?_
  refine lv_iconst (v := (nI 0)) hx hb dX9_both_4 (by decide) ?_
  obtain ⟨r_1, hg_2, h⟩ := bd1_el h
  refine kx_Vi (As := [.int (nI 0)]) (rest := []) (wr := [(q_this, .inr (7, [.ref q_text, .ref q_item, .ref q_stands, .ref q_crowd, .ref q_measure, .ref q_laid, .ref q_tried]))]) (w1 := [(q_laid, .inr (0, [.ref q_laid_words, .ref q_laid_heard, .ref q_laid_canSay, .ref q_laid_instead, .ref q_laid_traders, .ref q_laid_takes, .ref q_laid_needs, .int v_laid_speaks, .int v_laid_alikeFrom])), (q_laid_canSay, .inl (ca 0, 2, .inl v_laid_canSay))]) (wn := [(q_this, .inr (7, [.ref q_text, .ref q_item, .ref q_stands, .ref q_crowd, .ref q_measure, .ref q_laid, .ref q_tried])), (q_laid, .inr (0, [.ref q_laid_words, .ref q_laid_heard, .ref q_laid_canSay, .ref q_laid_instead, .ref q_laid_traders, .ref q_laid_takes, .ref q_laid_needs, .int v_laid_speaks, .int v_laid_alikeFrom])), (q_laid_canSay, .inl (ca 0, 2, .inl v_laid_canSay))]) ⟨hx, hb, hml, hown, hts⟩ (c_X0_soundsOf l D ca s.heap.size q_laid q_laid_words q_laid_heard q_laid_canSay q_laid_instead q_laid_traders q_laid_takes q_laid_needs (nI 0) v_laid_speaks v_laid_alikeFrom v_laid_canSay r_1 hg_2) (cwV 1 hts gX9_both_X0_soundsOf rfl rfl rfl (by decide +kernel) ⟨(Nat.le_of_ble_eq_true rfl), (Nat.le_of_ble_eq_true rfl)⟩) hK hP hD hS hA (ci := 0) (q0 := 0) rfl rfl [1, 2] [0] [0, 1, 2] rfl rfl rfl rfl (by decide) rfl rfl rfl hl.1 rfl (Nat.le_of_ble_eq_true rfl) dX9_both_5 ⟨Nat.zero_le _, Nat.zero_le _⟩ (fun H locs hP hD hS => ?_)
  refine lv_aload_n hx hb dX9_both_8 rfl (lv_at hl 0 rfl) ?_
  refine va_get (D := D) (ci := 7) (v := .ref q_laid) (C := RX9) (T := TX9) (N := 7) hx hb hts i_X9 hown hK hP 0 rfl rfl 5 (by decide) k_49 (fun _ h9 => h9) rfl dX9_both_9 ?_
  refine lv_iconst (v := (nI 1)) hx hb dX9_both_12 (by decide) ?_
  obtain ⟨r_3, hg_4, h⟩ := bd1_el h
  refine kx_Vi (As := [.int (nI 1)]) (rest := [.int r_1]) (wr := [(q_this, .inr (7, [.ref q_text, .ref q_item, .ref q_stands, .ref q_crowd, .ref q_measure, .ref q_laid, .ref q_tried]))]) (w1 := [(q_laid, .inr (0, [.ref q_laid_words, .ref q_laid_heard, .ref q_laid_canSay, .ref q_laid_instead, .ref q_laid_traders, .ref q_laid_takes, .ref q_laid_needs, .int v_laid_speaks, .int v_laid_alikeFrom])), (q_laid_canSay, .inl (ca 0, 2, .inl v_laid_canSay))]) (wn := [(q_this, .inr (7, [.ref q_text, .ref q_item, .ref q_stands, .ref q_crowd, .ref q_measure, .ref q_laid, .ref q_tried])), (q_laid, .inr (0, [.ref q_laid_words, .ref q_laid_heard, .ref q_laid_canSay, .ref q_laid_instead, .ref q_laid_traders, .ref q_laid_takes, .ref q_laid_needs, .int v_laid_speaks, .int v_laid_alikeFrom])), (q_laid_canSay, .inl (ca 0, 2, .inl v_laid_canSay))]) ⟨hx, hb, hml, hown, hts⟩ (c_X0_soundsOf l D ca H.size q_laid q_laid_words q_laid_heard q_laid_canSay q_laid_instead q_laid_traders q_laid_takes q_laid_needs (nI 1) v_laid_speaks v_laid_alikeFrom v_laid_canSay r_3 hg_4) (cwV 1 hts gX9_both_X0_soundsOf rfl rfl rfl (by decide +kernel) ⟨(Nat.le_of_ble_eq_true rfl), (Nat.le_of_ble_eq_true rfl)⟩) hK hP hD hS hA (ci := 0) (q0 := 0) rfl rfl [1, 2] [0] [0, 1, 2] rfl rfl rfl rfl (by decide) rfl rfl rfl hl.1 rfl (Nat.le_of_ble_eq_true rfl) dX9_both_13 ⟨Nat.zero_le _, Nat.zero_le _⟩ (fun H locs hP hD hS => ?_)
  refine lv_iand hx hb dX9_both_16 ?_
  cases h
  rw [← hQe]
  exact W.iret hx hb hr (fun t ht hW => ⟨⟨_, (), rfl, rfl, by rw [ht]; exact hP, va_K.moved hW.alike hK, hD⟩, hS.F ht⟩) hS.2.2 dX9_both_17
def b_X9_lost_33 (p1 : Int32) (v_laid_canSay : Nat → Int32) (v_laid_instead : Nat → Int32) (r_8 : Int32) (rec33 : Int32 → Int32 → Option (Int32)) (x2_10 : Int32) (x5_11 : Int32) : Option (Int32) := bd1 (D_X8_length r_8) (fun r_13 => (if r_13 ≤ x5_11 then some (x2_10) else bd1 (D_X8_soundAt r_8 x5_11) (fun r_16 => bd1 (D_X0_soundSaidBy ((nI 1) - p1) r_16 v_laid_canSay v_laid_instead) (fun r_18 => (if r_18 = (-4 : Int32) then nm (x2_10 ||| ((nI 1) <<< (r_16 &&& 31))) (fun x2_23 => nm (x5_11 + (nI 1)) (fun x5_24 => rec33 x2_23 x5_24)) else nm (x5_11 + (nI 1)) (fun x5_21 => rec33 x2_10 x5_21))))))
def b_X9_lost_13 (p1 : Int32) (v_laid_words : Nat → Int32) (v_laid_canSay : Nat → Int32) (v_laid_instead : Nat → Int32) (F : Nat) (rec13 : Int32 → Int32 → Option (Int32)) (x2_4 : Int32) (x3_5 : Int32) : Option (Int32) := (if (nI 8) ≤ x3_5 then some (x2_4) else bd1 (D_X0_wordOf p1 x3_5 v_laid_words) (fun r_8 => bd1 (lpg (T := Int32 → Int32 → Option (Int32)) (fun _ _ => none) (b_X9_lost_33 p1 v_laid_canSay v_laid_instead r_8) F x2_4 (nI 0)) (fun o_12 => nm (x3_5 + (nI 1)) (fun x3_26 => rec13 o_12 x3_26))))
def D_X9_lost (F : Nat) (p1 : Int32) (v_laid_words : Nat → Int32) (v_laid_canSay : Nat → Int32) (v_laid_instead : Nat → Int32) : Option (Int32) := bd1 (D_X9_isPeople p1) (fun r_1 => (if r_1 = 0 then some ((-1 : Int32)) else bd1 (lpg (T := Int32 → Int32 → Option (Int32)) (fun _ _ => none) (b_X9_lost_13 p1 v_laid_words v_laid_canSay v_laid_instead F) F (nI 0) (nI 0)) (fun o_6 => some (o_6))))
abbrev rm_X9_lost : Room := { frames := 2, cells := 0, slots := 0, locals := 45 }
set_option maxHeartbeats 4000000 in
set_option maxRecDepth 100000 in
theorem c_X9_lost (l : Launch) (D : va_G) (ca : Nat → ClassId) (F : Nat) (sz : Nat) (q_this q_text q_item q_stands q_crowd q_measure q_laid q_laid_words q_laid_heard q_laid_canSay q_laid_instead q_laid_traders q_laid_takes q_laid_needs q_tried : Nat) (p1 : Int32) (v_laid_speaks : Int32) (v_laid_alikeFrom : Int32) (v_laid_words : Nat → Int32) (v_laid_canSay : Nat → Int32) (v_laid_instead : Nat → Int32) (r : Int32) (h : D_X9_lost F p1 v_laid_words v_laid_canSay v_laid_instead = some (r)) : Met l yX9_lost wsX9_lost rm_X9_lost (va_Pc [.ref q_this, .int p1] (kPre D ca [(q_this, .inr (7, [.ref q_text, .ref q_item, .ref q_stands, .ref q_crowd, .ref q_measure, .ref q_laid, .ref q_tried])), (q_laid, .inr (0, [.ref q_laid_words, .ref q_laid_heard, .ref q_laid_canSay, .ref q_laid_instead, .ref q_laid_traders, .ref q_laid_takes, .ref q_laid_needs, .int v_laid_speaks, .int v_laid_alikeFrom])), (q_laid_words, .inl (ca 0, 16, .inl v_laid_words)), (q_laid_canSay, .inl (ca 0, 2, .inl v_laid_canSay)), (q_laid_instead, .inl (ca 0, 16, .inl v_laid_instead))] sz)) (kQi D ca (va_A [(q_this, .inr (7, [.ref q_text, .ref q_item, .ref q_stands, .ref q_crowd, .ref q_measure, .ref q_laid, .ref q_tried])), (q_laid, .inr (0, [.ref q_laid_words, .ref q_laid_heard, .ref q_laid_canSay, .ref q_laid_instead, .ref q_laid_traders, .ref q_laid_takes, .ref q_laid_needs, .int v_laid_speaks, .int v_laid_alikeFrom])), (q_laid_words, .inl (ca 0, 16, .inl v_laid_words)), (q_laid_canSay, .inl (ca 0, 2, .inl v_laid_canSay)), (q_laid_instead, .inl (ca 0, 16, .inl v_laid_instead))] sz) [(q_this, .inr (7, [.ref q_text, .ref q_item, .ref q_stands, .ref q_crowd, .ref q_measure, .ref q_laid, .ref q_tried])), (q_laid, .inr (0, [.ref q_laid_words, .ref q_laid_heard, .ref q_laid_canSay, .ref q_laid_instead, .ref q_laid_traders, .ref q_laid_takes, .ref q_laid_needs, .int v_laid_speaks, .int v_laid_alikeFrom])), (q_laid_words, .inl (ca 0, 16, .inl v_laid_words)), (q_laid_canSay, .inl (ca 0, 2, .inl v_laid_canSay)), (q_laid_instead, .inl (ca 0, 16, .inl v_laid_instead))] r) 0 0 (va_A [(q_this, .inr (7, [.ref q_text, .ref q_item, .ref q_stands, .ref q_crowd, .ref q_measure, .ref q_laid, .ref q_tried])), (q_laid, .inr (0, [.ref q_laid_words, .ref q_laid_heard, .ref q_laid_canSay, .ref q_laid_instead, .ref q_laid_traders, .ref q_laid_takes, .ref q_laid_needs, .int v_laid_speaks, .int v_laid_alikeFrom])), (q_laid_words, .inl (ca 0, 16, .inl v_laid_words)), (q_laid_canSay, .inl (ca 0, 2, .inl v_laid_canSay)), (q_laid_instead, .inl (ca 0, 16, .inl v_laid_instead))] sz) := by
  refine Met.ofW (cc := cX9_lost) (maxL := 7) (ret := (some .int)) (by decide +kernel) rfl ?_
  intro p e s m args below meth c s₁ B hml hv
  obtain ⟨rfl, hsz, hP, hK, hD0⟩ := hv
  have hx := B.exec
  have hb := B.bytes
  have hr := B.returns
  have hts := atoms_spec (ws := wsX9_lost) B.pre
  have hown : s.vm.findClass RX9 = some m.cls := findClass_of_methodNamed B.named
  have hlocks := B.notSynchronized
  clear B
  subst hsz
  have hD := hD0.self (sz := s.heap.size)
  generalize hAe : va_A [(q_this, .inr (7, [.ref q_text, .ref q_item, .ref q_stands, .ref q_crowd, .ref q_measure, .ref q_laid, .ref q_tried])), (q_laid, .inr (0, [.ref q_laid_words, .ref q_laid_heard, .ref q_laid_canSay, .ref q_laid_instead, .ref q_laid_traders, .ref q_laid_takes, .ref q_laid_needs, .int v_laid_speaks, .int v_laid_alikeFrom])), (q_laid_words, .inl (ca 0, 16, .inl v_laid_words)), (q_laid_canSay, .inl (ca 0, 2, .inl v_laid_canSay)), (q_laid_instead, .inl (ca 0, 16, .inl v_laid_instead))] s.heap.size = A at hD ⊢
  have hA : ∀ q : Nat, s.heap.size ≤ q → A q := fun q h => by rw [← hAe]; exact Or.inr h
  have hS : va_S A s.heap s.heap [] := va_S.rf
  have hl := lv_entry ([.ref q_this, .int p1]) (n := 7) (Nat.le_of_ble_eq_true rfl)
  rw [lg_entry_eq]
  generalize (lg_sl ([.ref q_this, .int p1]) ++ List.replicate (7 - (lg_sl ([.ref q_this, .int p1])).length) Slot.unset).toArray = ls at hl ⊢
  have hl : lv_has ls 7 [(0, .ref q_this), (1, .int p1)] := hl
  generalize ([.ref q_this, .int p1] : List Value).toArray = args at hts ⊢
  generalize hQe : MQ below (kQi D ca (A) [(q_this, .inr (7, [.ref q_text, .ref q_item, .ref q_stands, .ref q_crowd, .ref q_measure, .ref q_laid, .ref q_tried])), (q_laid, .inr (0, [.ref q_laid_words, .ref q_laid_heard, .ref q_laid_canSay, .ref q_laid_instead, .ref q_laid_traders, .ref q_laid_takes, .ref q_laid_needs, .int v_laid_speaks, .int v_laid_alikeFrom])), (q_laid_words, .inl (ca 0, 16, .inl v_laid_words)), (q_laid_canSay, .inl (ca 0, 2, .inl v_laid_canSay)), (q_laid_instead, .inl (ca 0, 16, .inl v_laid_instead))] r) args s 0 0 A = Q
  have i_X9 : ∀ w ∈ u_ws RX9 TX9 7, w ∈ wsX9_lost := by decide +kernel
  have k_49 := hts (.fieldLink RX9 49 "TradeWords" "laid" "LTradeWords$Beach;") (by decide +kernel)
  rw [D_X9_lost] at h
  refine lv_iload_n hx hb dX9_lost_0 rfl (lv_at hl 1 rfl) ?_
  obtain ⟨r_1, hg_2, h⟩ := bd1_el h
  refine kx_Si (As := [.int p1]) (rest := []) (wr := [(q_this, .inr (7, [.ref q_text, .ref q_item, .ref q_stands, .ref q_crowd, .ref q_measure, .ref q_laid, .ref q_tried])), (q_laid, .inr (0, [.ref q_laid_words, .ref q_laid_heard, .ref q_laid_canSay, .ref q_laid_instead, .ref q_laid_traders, .ref q_laid_takes, .ref q_laid_needs, .int v_laid_speaks, .int v_laid_alikeFrom])), (q_laid_words, .inl (ca 0, 16, .inl v_laid_words)), (q_laid_canSay, .inl (ca 0, 2, .inl v_laid_canSay)), (q_laid_instead, .inl (ca 0, 16, .inl v_laid_instead))]) (w1 := []) (wn := [(q_this, .inr (7, [.ref q_text, .ref q_item, .ref q_stands, .ref q_crowd, .ref q_measure, .ref q_laid, .ref q_tried])), (q_laid, .inr (0, [.ref q_laid_words, .ref q_laid_heard, .ref q_laid_canSay, .ref q_laid_instead, .ref q_laid_traders, .ref q_laid_takes, .ref q_laid_needs, .int v_laid_speaks, .int v_laid_alikeFrom])), (q_laid_words, .inl (ca 0, 16, .inl v_laid_words)), (q_laid_canSay, .inl (ca 0, 2, .inl v_laid_canSay)), (q_laid_instead, .inl (ca 0, 16, .inl v_laid_instead))]) ⟨hx, hb, hml, hown, hts⟩ (c_X9_isPeople l D ca s.heap.size p1 r_1 hg_2) (va_cwS 1 hts gX9_lost_X9_isPeople rfl rfl rfl (by decide +kernel) ⟨(Nat.le_of_ble_eq_true rfl), (Nat.le_of_ble_eq_true rfl)⟩) hK hP hD hS hA [] [0, 1, 2, 3, 4] [0, 1, 2, 3, 4] rfl rfl rfl rfl (by decide) rfl rfl rfl hl.1 rfl (Nat.le_of_ble_eq_true rfl) dX9_lost_1 ⟨Nat.zero_le _, Nat.zero_le _⟩ (fun H locs hP hD hS => ?_)
  refine lv_if_ne (tgt := 9) hx hb dX9_lost_4 (by decide) (fun c_3 => ?_) (fun c_3 => ?_)
  · replace h := ifn_el c_3 h
    refine lv_iconst (v := (nI 0)) hx hb dX9_lost_9 (by decide) ?_
    refine lv_istore_n (lv' := [(2, .int (nI 0)), (0, .ref q_this), (1, .int p1)]) hx hb dX9_lost_10 rfl hl (by decide) rfl (fun ls hl => ?_)
    refine lv_iconst (v := (nI 0)) hx hb dX9_lost_11 (by decide) ?_
    refine lv_istore_n (lv' := [(3, .int (nI 0)), (2, .int (nI 0)), (0, .ref q_this), (1, .int p1)]) hx hb dX9_lost_12 rfl hl (by decide) rfl (fun ls hl => ?_)
    obtain ⟨o_6, hL, h⟩ := bd1_el h
    have hex : ∀ (H : Heap) (locs : List Loc) (ls : Array Slot), va_P D vwCl [(q_this, .inr (7, [.ref q_text, .ref q_item, .ref q_stands, .ref q_crowd, .ref q_measure, .ref q_laid, .ref q_tried])), (q_laid, .inr (0, [.ref q_laid_words, .ref q_laid_heard, .ref q_laid_canSay, .ref q_laid_instead, .ref q_laid_traders, .ref q_laid_takes, .ref q_laid_needs, .int v_laid_speaks, .int v_laid_alikeFrom])), (q_laid_words, .inl (ca 0, 16, .inl v_laid_words)), (q_laid_canSay, .inl (ca 0, 2, .inl v_laid_canSay)), (q_laid_instead, .inl (ca 0, 16, .inl v_laid_instead))] H → va_D A [(q_this, .inr (7, [.ref q_text, .ref q_item, .ref q_stands, .ref q_crowd, .ref q_measure, .ref q_laid, .ref q_tried])), (q_laid, .inr (0, [.ref q_laid_words, .ref q_laid_heard, .ref q_laid_canSay, .ref q_laid_instead, .ref q_laid_traders, .ref q_laid_takes, .ref q_laid_needs, .int v_laid_speaks, .int v_laid_alikeFrom])), (q_laid_words, .inl (ca 0, 16, .inl v_laid_words)), (q_laid_canSay, .inl (ca 0, 2, .inl v_laid_canSay)), (q_laid_instead, .inl (ca 0, 16, .inl v_laid_instead))] → va_S A s.heap H locs → lv_has ls 7 [(2, .int o_6)] → W p l e (headSpec wsX9_lost rm_X9_lost).room s m args below meth c H locs 0 0 Q (F0 m 88 ls []) := by
      intro H locs ls hP hD hS hl
      refine lv_iload_n hx hb dX9_lost_88 rfl (lv_at hl 0 rfl) ?_
      cases h
      rw [← hQe]
      exact W.iret hx hb hr (fun t ht hW => ⟨⟨_, (), rfl, rfl, by rw [ht]; exact hP, va_K.moved hW.alike hK, hD⟩, hS.F ht⟩) hS.2.2 dX9_lost_89
    have hlp : ∀ (n : Nat) (x2_4 : Int32) (x3_5 : Int32) (o_6 : Int32) (H : Heap) (locs : List Loc) (ls : Array Slot), lpg (T := Int32 → Int32 → Option (Int32)) (fun _ _ => none) (b_X9_lost_13 p1 v_laid_words v_laid_canSay v_laid_instead F) n x2_4 x3_5 = some (o_6) → (∀ (H : Heap) (locs : List Loc) (ls : Array Slot), va_P D vwCl [(q_this, .inr (7, [.ref q_text, .ref q_item, .ref q_stands, .ref q_crowd, .ref q_measure, .ref q_laid, .ref q_tried])), (q_laid, .inr (0, [.ref q_laid_words, .ref q_laid_heard, .ref q_laid_canSay, .ref q_laid_instead, .ref q_laid_traders, .ref q_laid_takes, .ref q_laid_needs, .int v_laid_speaks, .int v_laid_alikeFrom])), (q_laid_words, .inl (ca 0, 16, .inl v_laid_words)), (q_laid_canSay, .inl (ca 0, 2, .inl v_laid_canSay)), (q_laid_instead, .inl (ca 0, 16, .inl v_laid_instead))] H → va_D A [(q_this, .inr (7, [.ref q_text, .ref q_item, .ref q_stands, .ref q_crowd, .ref q_measure, .ref q_laid, .ref q_tried])), (q_laid, .inr (0, [.ref q_laid_words, .ref q_laid_heard, .ref q_laid_canSay, .ref q_laid_instead, .ref q_laid_traders, .ref q_laid_takes, .ref q_laid_needs, .int v_laid_speaks, .int v_laid_alikeFrom])), (q_laid_words, .inl (ca 0, 16, .inl v_laid_words)), (q_laid_canSay, .inl (ca 0, 2, .inl v_laid_canSay)), (q_laid_instead, .inl (ca 0, 16, .inl v_laid_instead))] → va_S A s.heap H locs → lv_has ls 7 [(2, .int o_6)] → W p l e (headSpec wsX9_lost rm_X9_lost).room s m args below meth c H locs 0 0 Q (F0 m 88 ls [])) → va_P D vwCl [(q_this, .inr (7, [.ref q_text, .ref q_item, .ref q_stands, .ref q_crowd, .ref q_measure, .ref q_laid, .ref q_tried])), (q_laid, .inr (0, [.ref q_laid_words, .ref q_laid_heard, .ref q_laid_canSay, .ref q_laid_instead, .ref q_laid_traders, .ref q_laid_takes, .ref q_laid_needs, .int v_laid_speaks, .int v_laid_alikeFrom])), (q_laid_words, .inl (ca 0, 16, .inl v_laid_words)), (q_laid_canSay, .inl (ca 0, 2, .inl v_laid_canSay)), (q_laid_instead, .inl (ca 0, 16, .inl v_laid_instead))] H → va_D A [(q_this, .inr (7, [.ref q_text, .ref q_item, .ref q_stands, .ref q_crowd, .ref q_measure, .ref q_laid, .ref q_tried])), (q_laid, .inr (0, [.ref q_laid_words, .ref q_laid_heard, .ref q_laid_canSay, .ref q_laid_instead, .ref q_laid_traders, .ref q_laid_takes, .ref q_laid_needs, .int v_laid_speaks, .int v_laid_alikeFrom])), (q_laid_words, .inl (ca 0, 16, .inl v_laid_words)), (q_laid_canSay, .inl (ca 0, 2, .inl v_laid_canSay)), (q_laid_instead, .inl (ca 0, 16, .inl v_laid_instead))] → va_S A s.heap H locs → lv_has ls 7 [(0, .ref q_this), (1, .int p1), (2, .int x2_4), (3, .int x3_5)] → W p l e (headSpec wsX9_lost rm_X9_lost).room s m args below meth c H locs 0 0 Q (F0 m 13 ls []) := by
      intro n
      induction n with
      | zero => intro x2_4 x3_5 o_6 H locs ls h; have h : (none : Option (Int32)) = some _ := h; cases h
      | succ n ih =>
        intro x2_4 x3_5 o_6 H locs ls h hex hP hD hS hl
        rw [lpg_succ, b_X9_lost_13] at h
        refine lv_iload_n hx hb dX9_lost_13 rfl (lv_at hl 3 rfl) ?_
        refine lv_bipush (v := (nI 8)) hx hb dX9_lost_14 (by decide) ?_
        refine lv_icmp_ge (tgt := 88) hx hb dX9_lost_16 (by decide) (fun c_7 => ?_) (fun c_7 => ?_)
        · replace h := ifp_el c_7 h
          cases h
          exact hex _ _ _ hP hD hS (lv_sub hl [2] rfl)
        · replace h := ifn_el c_7 h
          refine lv_aload_n hx hb dX9_lost_19 rfl (lv_at hl 0 rfl) ?_
          refine va_get (D := D) (ci := 7) (v := .ref q_laid) (C := RX9) (T := TX9) (N := 7) hx hb hts i_X9 hown hK hP 0 rfl rfl 5 (by decide) k_49 (fun _ h9 => h9) rfl dX9_lost_20 ?_
          refine lv_iload_n hx hb dX9_lost_23 rfl (lv_at hl 1 rfl) ?_
          refine lv_iload_n hx hb dX9_lost_24 rfl (lv_at hl 3 rfl) ?_
          obtain ⟨r_8, hg_9, h⟩ := bd1_el h
          refine kx_Vi (As := [.int p1, .int x3_5]) (rest := []) (wr := [(q_this, .inr (7, [.ref q_text, .ref q_item, .ref q_stands, .ref q_crowd, .ref q_measure, .ref q_laid, .ref q_tried])), (q_laid_canSay, .inl (ca 0, 2, .inl v_laid_canSay)), (q_laid_instead, .inl (ca 0, 16, .inl v_laid_instead))]) (w1 := [(q_laid, .inr (0, [.ref q_laid_words, .ref q_laid_heard, .ref q_laid_canSay, .ref q_laid_instead, .ref q_laid_traders, .ref q_laid_takes, .ref q_laid_needs, .int v_laid_speaks, .int v_laid_alikeFrom])), (q_laid_words, .inl (ca 0, 16, .inl v_laid_words))]) (wn := [(q_this, .inr (7, [.ref q_text, .ref q_item, .ref q_stands, .ref q_crowd, .ref q_measure, .ref q_laid, .ref q_tried])), (q_laid, .inr (0, [.ref q_laid_words, .ref q_laid_heard, .ref q_laid_canSay, .ref q_laid_instead, .ref q_laid_traders, .ref q_laid_takes, .ref q_laid_needs, .int v_laid_speaks, .int v_laid_alikeFrom])), (q_laid_words, .inl (ca 0, 16, .inl v_laid_words)), (q_laid_canSay, .inl (ca 0, 2, .inl v_laid_canSay)), (q_laid_instead, .inl (ca 0, 16, .inl v_laid_instead))]) ⟨hx, hb, hml, hown, hts⟩ (c_X0_wordOf l D ca H.size q_laid q_laid_words q_laid_heard q_laid_canSay q_laid_instead q_laid_traders q_laid_takes q_laid_needs p1 x3_5 v_laid_speaks v_laid_alikeFrom v_laid_words r_8 hg_9) (cwV 2 hts gX9_lost_X0_wordOf rfl rfl rfl (by decide +kernel) ⟨(Nat.le_of_ble_eq_true rfl), (Nat.le_of_ble_eq_true rfl)⟩) hK hP hD hS hA (ci := 0) (q0 := 0) rfl rfl [1, 2] [0, 3, 4] [0, 3, 4, 1, 2] rfl rfl rfl rfl (by decide) rfl rfl rfl hl.1 rfl (Nat.le_of_ble_eq_true rfl) dX9_lost_25 ⟨Nat.zero_le _, Nat.zero_le _⟩ (fun H locs hP hD hS => ?_)
          refine lv_istore (lv' := [(4, .int r_8), (0, .ref q_this), (1, .int p1), (2, .int x2_4), (3, .int x3_5)]) hx hb dX9_lost_28 hl (by decide) rfl (fun ls hl => ?_)
          refine lv_iconst (v := (nI 0)) hx hb dX9_lost_30 (by decide) ?_
          refine lv_istore (lv' := [(5, .int (nI 0)), (4, .int r_8), (0, .ref q_this), (1, .int p1), (2, .int x2_4), (3, .int x3_5)]) hx hb dX9_lost_31 hl (by decide) rfl (fun ls hl => ?_)
          obtain ⟨o_12, hL, h⟩ := bd1_el h
          have hex : ∀ (H : Heap) (locs : List Loc) (ls : Array Slot), va_P D vwCl [(q_this, .inr (7, [.ref q_text, .ref q_item, .ref q_stands, .ref q_crowd, .ref q_measure, .ref q_laid, .ref q_tried])), (q_laid, .inr (0, [.ref q_laid_words, .ref q_laid_heard, .ref q_laid_canSay, .ref q_laid_instead, .ref q_laid_traders, .ref q_laid_takes, .ref q_laid_needs, .int v_laid_speaks, .int v_laid_alikeFrom])), (q_laid_words, .inl (ca 0, 16, .inl v_laid_words)), (q_laid_canSay, .inl (ca 0, 2, .inl v_laid_canSay)), (q_laid_instead, .inl (ca 0, 16, .inl v_laid_instead))] H → va_D A [(q_this, .inr (7, [.ref q_text, .ref q_item, .ref q_stands, .ref q_crowd, .ref q_measure, .ref q_laid, .ref q_tried])), (q_laid, .inr (0, [.ref q_laid_words, .ref q_laid_heard, .ref q_laid_canSay, .ref q_laid_instead, .ref q_laid_traders, .ref q_laid_takes, .ref q_laid_needs, .int v_laid_speaks, .int v_laid_alikeFrom])), (q_laid_words, .inl (ca 0, 16, .inl v_laid_words)), (q_laid_canSay, .inl (ca 0, 2, .inl v_laid_canSay)), (q_laid_instead, .inl (ca 0, 16, .inl v_laid_instead))] → va_S A s.heap H locs → lv_has ls 7 [(0, .ref q_this), (1, .int p1), (2, .int o_12), (3, .int x3_5)] → W p l e (headSpec wsX9_lost rm_X9_lost).room s m args below meth c H locs 0 0 Q (F0 m 82 ls []) := by
            intro H locs ls hP hD hS hl
            obtain ⟨x3_26, e_27, h⟩ := nm_el h
            refine lv_iinc (v := x3_26) (lv' := [(3, .int x3_26), (0, .ref q_this), (1, .int p1), (2, .int o_12)]) hx hb dX9_lost_82 hl (k := 3) rfl (by rw [← e_27]; rfl) (by decide) rfl (fun ls hl => ?_)
            refine lv_goto (tgt := 13) hx hb dX9_lost_85 (by decide) ?_
            exact ih _ _ _ _ _ _ h hex hP hD hS (lv_sub hl [1, 2, 3, 0] rfl)
          have hlp : ∀ (n : Nat) (x2_10 : Int32) (x5_11 : Int32) (o_12 : Int32) (H : Heap) (locs : List Loc) (ls : Array Slot), lpg (T := Int32 → Int32 → Option (Int32)) (fun _ _ => none) (b_X9_lost_33 p1 v_laid_canSay v_laid_instead r_8) n x2_10 x5_11 = some (o_12) → (∀ (H : Heap) (locs : List Loc) (ls : Array Slot), va_P D vwCl [(q_this, .inr (7, [.ref q_text, .ref q_item, .ref q_stands, .ref q_crowd, .ref q_measure, .ref q_laid, .ref q_tried])), (q_laid, .inr (0, [.ref q_laid_words, .ref q_laid_heard, .ref q_laid_canSay, .ref q_laid_instead, .ref q_laid_traders, .ref q_laid_takes, .ref q_laid_needs, .int v_laid_speaks, .int v_laid_alikeFrom])), (q_laid_words, .inl (ca 0, 16, .inl v_laid_words)), (q_laid_canSay, .inl (ca 0, 2, .inl v_laid_canSay)), (q_laid_instead, .inl (ca 0, 16, .inl v_laid_instead))] H → va_D A [(q_this, .inr (7, [.ref q_text, .ref q_item, .ref q_stands, .ref q_crowd, .ref q_measure, .ref q_laid, .ref q_tried])), (q_laid, .inr (0, [.ref q_laid_words, .ref q_laid_heard, .ref q_laid_canSay, .ref q_laid_instead, .ref q_laid_traders, .ref q_laid_takes, .ref q_laid_needs, .int v_laid_speaks, .int v_laid_alikeFrom])), (q_laid_words, .inl (ca 0, 16, .inl v_laid_words)), (q_laid_canSay, .inl (ca 0, 2, .inl v_laid_canSay)), (q_laid_instead, .inl (ca 0, 16, .inl v_laid_instead))] → va_S A s.heap H locs → lv_has ls 7 [(0, .ref q_this), (1, .int p1), (2, .int o_12), (3, .int x3_5)] → W p l e (headSpec wsX9_lost rm_X9_lost).room s m args below meth c H locs 0 0 Q (F0 m 82 ls [])) → va_P D vwCl [(q_this, .inr (7, [.ref q_text, .ref q_item, .ref q_stands, .ref q_crowd, .ref q_measure, .ref q_laid, .ref q_tried])), (q_laid, .inr (0, [.ref q_laid_words, .ref q_laid_heard, .ref q_laid_canSay, .ref q_laid_instead, .ref q_laid_traders, .ref q_laid_takes, .ref q_laid_needs, .int v_laid_speaks, .int v_laid_alikeFrom])), (q_laid_words, .inl (ca 0, 16, .inl v_laid_words)), (q_laid_canSay, .inl (ca 0, 2, .inl v_laid_canSay)), (q_laid_instead, .inl (ca 0, 16, .inl v_laid_instead))] H → va_D A [(q_this, .inr (7, [.ref q_text, .ref q_item, .ref q_stands, .ref q_crowd, .ref q_measure, .ref q_laid, .ref q_tried])), (q_laid, .inr (0, [.ref q_laid_words, .ref q_laid_heard, .ref q_laid_canSay, .ref q_laid_instead, .ref q_laid_traders, .ref q_laid_takes, .ref q_laid_needs, .int v_laid_speaks, .int v_laid_alikeFrom])), (q_laid_words, .inl (ca 0, 16, .inl v_laid_words)), (q_laid_canSay, .inl (ca 0, 2, .inl v_laid_canSay)), (q_laid_instead, .inl (ca 0, 16, .inl v_laid_instead))] → va_S A s.heap H locs → lv_has ls 7 [(0, .ref q_this), (1, .int p1), (2, .int x2_10), (3, .int x3_5), (4, .int r_8), (5, .int x5_11)] → W p l e (headSpec wsX9_lost rm_X9_lost).room s m args below meth c H locs 0 0 Q (F0 m 33 ls []) := by
            intro n
            induction n with
            | zero => intro x2_10 x5_11 o_12 H locs ls h; have h : (none : Option (Int32)) = some _ := h; cases h
            | succ n ih =>
              intro x2_10 x5_11 o_12 H locs ls h hex hP hD hS hl
              rw [lpg_succ, b_X9_lost_33] at h
              refine lv_iload hx hb dX9_lost_33 (lv_at hl 5 rfl) ?_
              refine lv_iload hx hb dX9_lost_35 (lv_at hl 4 rfl) ?_
              obtain ⟨r_13, hg_14, h⟩ := bd1_el h
              refine kx_Si (As := [.int r_8]) (rest := [.int x5_11]) (wr := [(q_this, .inr (7, [.ref q_text, .ref q_item, .ref q_stands, .ref q_crowd, .ref q_measure, .ref q_laid, .ref q_tried])), (q_laid, .inr (0, [.ref q_laid_words, .ref q_laid_heard, .ref q_laid_canSay, .ref q_laid_instead, .ref q_laid_traders, .ref q_laid_takes, .ref q_laid_needs, .int v_laid_speaks, .int v_laid_alikeFrom])), (q_laid_words, .inl (ca 0, 16, .inl v_laid_words)), (q_laid_canSay, .inl (ca 0, 2, .inl v_laid_canSay)), (q_laid_instead, .inl (ca 0, 16, .inl v_laid_instead))]) (w1 := []) (wn := [(q_this, .inr (7, [.ref q_text, .ref q_item, .ref q_stands, .ref q_crowd, .ref q_measure, .ref q_laid, .ref q_tried])), (q_laid, .inr (0, [.ref q_laid_words, .ref q_laid_heard, .ref q_laid_canSay, .ref q_laid_instead, .ref q_laid_traders, .ref q_laid_takes, .ref q_laid_needs, .int v_laid_speaks, .int v_laid_alikeFrom])), (q_laid_words, .inl (ca 0, 16, .inl v_laid_words)), (q_laid_canSay, .inl (ca 0, 2, .inl v_laid_canSay)), (q_laid_instead, .inl (ca 0, 16, .inl v_laid_instead))]) ⟨hx, hb, hml, hown, hts⟩ (c_X8_length l D ca H.size r_8 r_13 hg_14) (va_cwS 1 hts gX9_lost_X8_length rfl rfl rfl (by decide +kernel) ⟨(Nat.le_of_ble_eq_true rfl), (Nat.le_of_ble_eq_true rfl)⟩) hK hP hD hS hA [] [0, 1, 2, 3, 4] [0, 1, 2, 3, 4] rfl rfl rfl rfl (by decide) rfl rfl rfl hl.1 rfl (Nat.le_of_ble_eq_true rfl) dX9_lost_37 ⟨Nat.zero_le _, Nat.zero_le _⟩ (fun H locs hP hD hS => ?_)
              refine lv_icmp_ge (tgt := 82) hx hb dX9_lost_40 (by decide) (fun c_15 => ?_) (fun c_15 => ?_)
              · replace h := ifp_el c_15 h
                cases h
                exact hex _ _ _ hP hD hS (lv_sub hl [0, 1, 2, 3] rfl)
              · replace h := ifn_el c_15 h
                refine lv_iload hx hb dX9_lost_43 (lv_at hl 4 rfl) ?_
                refine lv_iload hx hb dX9_lost_45 (lv_at hl 5 rfl) ?_
                obtain ⟨r_16, hg_17, h⟩ := bd1_el h
                refine kx_Si (As := [.int r_8, .int x5_11]) (rest := []) (wr := [(q_this, .inr (7, [.ref q_text, .ref q_item, .ref q_stands, .ref q_crowd, .ref q_measure, .ref q_laid, .ref q_tried])), (q_laid, .inr (0, [.ref q_laid_words, .ref q_laid_heard, .ref q_laid_canSay, .ref q_laid_instead, .ref q_laid_traders, .ref q_laid_takes, .ref q_laid_needs, .int v_laid_speaks, .int v_laid_alikeFrom])), (q_laid_words, .inl (ca 0, 16, .inl v_laid_words)), (q_laid_canSay, .inl (ca 0, 2, .inl v_laid_canSay)), (q_laid_instead, .inl (ca 0, 16, .inl v_laid_instead))]) (w1 := []) (wn := [(q_this, .inr (7, [.ref q_text, .ref q_item, .ref q_stands, .ref q_crowd, .ref q_measure, .ref q_laid, .ref q_tried])), (q_laid, .inr (0, [.ref q_laid_words, .ref q_laid_heard, .ref q_laid_canSay, .ref q_laid_instead, .ref q_laid_traders, .ref q_laid_takes, .ref q_laid_needs, .int v_laid_speaks, .int v_laid_alikeFrom])), (q_laid_words, .inl (ca 0, 16, .inl v_laid_words)), (q_laid_canSay, .inl (ca 0, 2, .inl v_laid_canSay)), (q_laid_instead, .inl (ca 0, 16, .inl v_laid_instead))]) ⟨hx, hb, hml, hown, hts⟩ (c_X8_soundAt l D ca H.size r_8 x5_11 r_16 hg_17) (va_cwS 2 hts gX9_lost_X8_soundAt rfl rfl rfl (by decide +kernel) ⟨(Nat.le_of_ble_eq_true rfl), (Nat.le_of_ble_eq_true rfl)⟩) hK hP hD hS hA [] [0, 1, 2, 3, 4] [0, 1, 2, 3, 4] rfl rfl rfl rfl (by decide) rfl rfl rfl hl.1 rfl (Nat.le_of_ble_eq_true rfl) dX9_lost_47 ⟨Nat.zero_le _, Nat.zero_le _⟩ (fun H locs hP hD hS => ?_)
                refine lv_istore (lv' := [(6, .int r_16), (0, .ref q_this), (1, .int p1), (2, .int x2_10), (3, .int x3_5), (4, .int r_8), (5, .int x5_11)]) hx hb dX9_lost_50 hl (by decide) rfl (fun ls hl => ?_)
                refine lv_aload_n hx hb dX9_lost_52 rfl (lv_at hl 1 rfl) ?_
                refine va_get (D := D) (ci := 7) (v := .ref q_laid) (C := RX9) (T := TX9) (N := 7) hx hb hts i_X9 hown hK hP 0 rfl rfl 5 (by decide) k_49 (fun _ h9 => h9) rfl dX9_lost_53 ?_
                refine lv_iconst (v := (nI 1)) hx hb dX9_lost_56 (by decide) ?_
                refine lv_iload_n hx hb dX9_lost_57 rfl (lv_at hl 2 rfl) ?_
                refine lv_isub hx hb dX9_lost_58 ?_
                refine lv_iload hx hb dX9_lost_59 (lv_at hl 0 rfl) ?_
                obtain ⟨r_18, hg_19, h⟩ := bd1_el h
                refine kx_Vi (As := [.int ((nI 1) - p1), .int r_16]) (rest := []) (wr := [(q_this, .inr (7, [.ref q_text, .ref q_item, .ref q_stands, .ref q_crowd, .ref q_measure, .ref q_laid, .ref q_tried])), (q_laid_words, .inl (ca 0, 16, .inl v_laid_words))]) (w1 := [(q_laid, .inr (0, [.ref q_laid_words, .ref q_laid_heard, .ref q_laid_canSay, .ref q_laid_instead, .ref q_laid_traders, .ref q_laid_takes, .ref q_laid_needs, .int v_laid_speaks, .int v_laid_alikeFrom])), (q_laid_canSay, .inl (ca 0, 2, .inl v_laid_canSay)), (q_laid_instead, .inl (ca 0, 16, .inl v_laid_instead))]) (wn := [(q_this, .inr (7, [.ref q_text, .ref q_item, .ref q_stands, .ref q_crowd, .ref q_measure, .ref q_laid, .ref q_tried])), (q_laid, .inr (0, [.ref q_laid_words, .ref q_laid_heard, .ref q_laid_canSay, .ref q_laid_instead, .ref q_laid_traders, .ref q_laid_takes, .ref q_laid_needs, .int v_laid_speaks, .int v_laid_alikeFrom])), (q_laid_words, .inl (ca 0, 16, .inl v_laid_words)), (q_laid_canSay, .inl (ca 0, 2, .inl v_laid_canSay)), (q_laid_instead, .inl (ca 0, 16, .inl v_laid_instead))]) ⟨hx, hb, hml, hown, hts⟩ (c_X0_soundSaidBy l D ca H.size q_laid q_laid_words q_laid_heard q_laid_canSay q_laid_instead q_laid_traders q_laid_takes q_laid_needs ((nI 1) - p1) r_16 v_laid_speaks v_laid_alikeFrom v_laid_canSay v_laid_instead r_18 hg_19) (cwV 2 hts gX9_lost_X0_soundSaidBy rfl rfl rfl (by decide +kernel) ⟨(Nat.le_of_ble_eq_true rfl), (Nat.le_of_ble_eq_true rfl)⟩) hK hP hD hS hA (ci := 0) (q0 := 0) rfl rfl [1, 3, 4] [0, 2] [0, 2, 1, 3, 4] rfl rfl rfl rfl (by decide) rfl rfl rfl hl.1 rfl (Nat.le_of_ble_eq_true rfl) dX9_lost_61 ⟨Nat.zero_le _, Nat.zero_le _⟩ (fun H locs hP hD hS => ?_)
                refine lv_bipush (v := (-4 : Int32)) hx hb dX9_lost_64 (by decide) ?_
                refine lv_icmp_ne (tgt := 76) hx hb dX9_lost_66 (by decide) (fun c_20 => ?_) (fun c_20 => ?_)
                · replace h := ifn_el c_20 h
                  obtain ⟨x5_21, e_22, h⟩ := nm_el h
                  refine lv_iinc (v := x5_21) (lv' := [(5, .int x5_21), (6, .int r_16), (0, .ref q_this), (1, .int p1), (2, .int x2_10), (3, .int x3_5), (4, .int r_8)]) hx hb dX9_lost_76 hl (k := 6) rfl (by rw [← e_22]; rfl) (by decide) rfl (fun ls hl => ?_)
                  refine lv_goto (tgt := 33) hx hb dX9_lost_79 (by decide) ?_
                  exact ih _ _ _ _ _ _ h hex hP hD hS (lv_sub hl [2, 3, 4, 5, 6, 0] rfl)
                · replace h := ifp_el c_20 h
                  refine lv_iload_n hx hb dX9_lost_69 rfl (lv_at hl 3 rfl) ?_
                  refine lv_iconst (v := (nI 1)) hx hb dX9_lost_70 (by decide) ?_
                  refine lv_iload hx hb dX9_lost_71 (lv_at hl 0 rfl) ?_
                  refine lv_ishl hx hb dX9_lost_73 ?_
                  refine lv_ior hx hb dX9_lost_74 ?_
                  refine lv_nmi h (fun x2_23 h => ?_)
                  refine lv_istore_n (lv' := [(2, .int x2_23), (6, .int r_16), (0, .ref q_this), (1, .int p1), (3, .int x3_5), (4, .int r_8), (5, .int x5_11)]) hx hb dX9_lost_75 rfl hl (by decide) rfl (fun ls hl => ?_)
                  obtain ⟨x5_24, e_25, h⟩ := nm_el h
                  refine lv_iinc (v := x5_24) (lv' := [(5, .int x5_24), (2, .int x2_23), (6, .int r_16), (0, .ref q_this), (1, .int p1), (3, .int x3_5), (4, .int r_8)]) hx hb dX9_lost_76 hl (k := 6) rfl (by rw [← e_25]; rfl) (by decide) rfl (fun ls hl => ?_)
                  refine lv_goto (tgt := 33) hx hb dX9_lost_79 (by decide) ?_
                  exact ih _ _ _ _ _ _ h hex hP hD hS (lv_sub hl [3, 4, 1, 5, 6, 0] rfl)
          exact hlp F x2_4 (nI 0) o_12 H locs ls hL hex hP hD hS (lv_sub hl [2, 3, 4, 5, 1, 0] rfl)
    exact hlp F (nI 0) (nI 0) o_6 H locs ls hL hex hP hD hS (lv_sub hl [2, 3, 1, 0] rfl)
  · replace h := ifp_el c_3 h
    refine lv_iconst (v := (-1 : Int32)) hx hb dX9_lost_7 (by decide) ?_
    cases h
    rw [← hQe]
    exact W.iret hx hb hr (fun t ht hW => ⟨⟨_, (), rfl, rfl, by rw [ht]; exact hP, va_K.moved hW.alike hK, hD⟩, hS.F ht⟩) hS.2.2 dX9_lost_8
def D_X9_keep (v_stands_kept : Int32) (v_stands_others : Nat → Int32) (v_stands_keptOthers : Nat → Int32) : Option (Int32 × Int32 × (Nat → Int32)) := bd3 (D_X6_push v_stands_kept v_stands_others v_stands_keptOthers) (fun r_1 y_stands_kept_2 y_stands_keptOthers_3 => (if r_1 = 0 then some ((-3 : Int32), y_stands_kept_2, y_stands_keptOthers_3) else bd1 (D_X6_kept y_stands_kept_2) (fun r_6 => some (r_6, y_stands_kept_2, y_stands_keptOthers_3))))
abbrev rm_X9_keep : Room := { frames := 2, cells := 0, slots := 0, locals := 46 }
set_option maxHeartbeats 4000000 in
set_option maxRecDepth 100000 in
theorem c_X9_keep (l : Launch) (D : va_G) (ca : Nat → ClassId) (sz : Nat) (q_this q_text q_item q_stands q_stands_others q_stands_keptOthers q_crowd q_measure q_laid q_tried : Nat) (v_stands_kept : Int32) (v_stands_others : Nat → Int32) (v_stands_keptOthers : Nat → Int32) (r : Int32) (o_stands_kept : Int32) (o_stands_keptOthers : Nat → Int32) (h : D_X9_keep v_stands_kept v_stands_others v_stands_keptOthers = some (r, o_stands_kept, o_stands_keptOthers)) : Met l yX9_keep wsX9_keep rm_X9_keep (va_Pc [.ref q_this] (kPre D ca [(q_this, .inr (7, [.ref q_text, .ref q_item, .ref q_stands, .ref q_crowd, .ref q_measure, .ref q_laid, .ref q_tried])), (q_stands, .inr (5, [.ref q_stands_others, .ref q_stands_keptOthers, .int v_stands_kept])), (q_stands_others, .inl (ca 0, 16, .inl v_stands_others)), (q_stands_keptOthers, .inl (ca 0, 32, .inl v_stands_keptOthers))] sz)) (kQi D ca (va_A [(q_this, .inr (7, [.ref q_text, .ref q_item, .ref q_stands, .ref q_crowd, .ref q_measure, .ref q_laid, .ref q_tried])), (q_stands, .inr (5, [.ref q_stands_others, .ref q_stands_keptOthers, .int v_stands_kept])), (q_stands_others, .inl (ca 0, 16, .inl v_stands_others)), (q_stands_keptOthers, .inl (ca 0, 32, .inl v_stands_keptOthers))] sz) [(q_this, .inr (7, [.ref q_text, .ref q_item, .ref q_stands, .ref q_crowd, .ref q_measure, .ref q_laid, .ref q_tried])), (q_stands, .inr (5, [.ref q_stands_others, .ref q_stands_keptOthers, .int o_stands_kept])), (q_stands_others, .inl (ca 0, 16, .inl v_stands_others)), (q_stands_keptOthers, .inl (ca 0, 32, .inl o_stands_keptOthers))] r) 0 0 (va_A [(q_this, .inr (7, [.ref q_text, .ref q_item, .ref q_stands, .ref q_crowd, .ref q_measure, .ref q_laid, .ref q_tried])), (q_stands, .inr (5, [.ref q_stands_others, .ref q_stands_keptOthers, .int v_stands_kept])), (q_stands_others, .inl (ca 0, 16, .inl v_stands_others)), (q_stands_keptOthers, .inl (ca 0, 32, .inl v_stands_keptOthers))] sz) := by
  refine Met.ofW (cc := cX9_keep) (maxL := 1) (ret := (some .int)) (by decide +kernel) rfl ?_
  intro p e s m args below meth c s₁ B hml hv
  obtain ⟨rfl, hsz, hP, hK, hD0⟩ := hv
  have hx := B.exec
  have hb := B.bytes
  have hr := B.returns
  have hts := atoms_spec (ws := wsX9_keep) B.pre
  have hown : s.vm.findClass RX9 = some m.cls := findClass_of_methodNamed B.named
  have hlocks := B.notSynchronized
  clear B
  subst hsz
  have hD := hD0.self (sz := s.heap.size)
  generalize hAe : va_A [(q_this, .inr (7, [.ref q_text, .ref q_item, .ref q_stands, .ref q_crowd, .ref q_measure, .ref q_laid, .ref q_tried])), (q_stands, .inr (5, [.ref q_stands_others, .ref q_stands_keptOthers, .int v_stands_kept])), (q_stands_others, .inl (ca 0, 16, .inl v_stands_others)), (q_stands_keptOthers, .inl (ca 0, 32, .inl v_stands_keptOthers))] s.heap.size = A at hD ⊢
  have hA : ∀ q : Nat, s.heap.size ≤ q → A q := fun q h => by rw [← hAe]; exact Or.inr h
  have hS : va_S A s.heap s.heap [] := va_S.rf
  have hl := lv_entry ([.ref q_this]) (n := 1) (Nat.le_of_ble_eq_true rfl)
  rw [lg_entry_eq]
  generalize (lg_sl ([.ref q_this]) ++ List.replicate (1 - (lg_sl ([.ref q_this])).length) Slot.unset).toArray = ls at hl ⊢
  have hl : lv_has ls 1 [(0, .ref q_this)] := hl
  generalize ([.ref q_this] : List Value).toArray = args at hts ⊢
  generalize hQe : MQ below (kQi D ca (A) [(q_this, .inr (7, [.ref q_text, .ref q_item, .ref q_stands, .ref q_crowd, .ref q_measure, .ref q_laid, .ref q_tried])), (q_stands, .inr (5, [.ref q_stands_others, .ref q_stands_keptOthers, .int o_stands_kept])), (q_stands_others, .inl (ca 0, 16, .inl v_stands_others)), (q_stands_keptOthers, .inl (ca 0, 32, .inl o_stands_keptOthers))] r) args s 0 0 A = Q
  have i_X9 : ∀ w ∈ u_ws RX9 TX9 7, w ∈ wsX9_keep := by decide +kernel
  have k_28 := hts (.fieldLink RX9 28 "TradeWords" "stands" "LTradeWords$Stands;") (by decide +kernel)
  rw [D_X9_keep] at h
  refine lv_aload_n hx hb dX9_keep_0 rfl (lv_at hl 0 rfl) ?_
  refine va_get (D := D) (ci := 7) (v := .ref q_stands) (C := RX9) (T := TX9) (N := 7) hx hb hts i_X9 hown hK hP 0 rfl rfl 2 (by decide) k_28 (fun _ h9 => h9) rfl dX9_keep_1 ?_
  obtain ⟨r_1, y_stands_kept_2, y_stands_keptOthers_3, hg_4, h⟩ := bd3_el h
  refine kx_Vi (As := []) (rest := []) (wr := [(q_this, .inr (7, [.ref q_text, .ref q_item, .ref q_stands, .ref q_crowd, .ref q_measure, .ref q_laid, .ref q_tried]))]) (w1 := [(q_stands, .inr (5, [.ref q_stands_others, .ref q_stands_keptOthers, .int y_stands_kept_2])), (q_stands_others, .inl (ca 0, 16, .inl v_stands_others)), (q_stands_keptOthers, .inl (ca 0, 32, .inl y_stands_keptOthers_3))]) (wn := [(q_this, .inr (7, [.ref q_text, .ref q_item, .ref q_stands, .ref q_crowd, .ref q_measure, .ref q_laid, .ref q_tried])), (q_stands, .inr (5, [.ref q_stands_others, .ref q_stands_keptOthers, .int y_stands_kept_2])), (q_stands_others, .inl (ca 0, 16, .inl v_stands_others)), (q_stands_keptOthers, .inl (ca 0, 32, .inl y_stands_keptOthers_3))]) ⟨hx, hb, hml, hown, hts⟩ (c_X6_push l D ca s.heap.size q_stands q_stands_others q_stands_keptOthers v_stands_kept v_stands_others v_stands_keptOthers r_1 y_stands_kept_2 y_stands_keptOthers_3 hg_4) (cwV 0 hts gX9_keep_X6_push rfl rfl rfl (by decide +kernel) ⟨(Nat.le_of_ble_eq_true rfl), (Nat.le_of_ble_eq_true rfl)⟩) hK hP hD hS hA (ci := 5) (q0 := 0) rfl rfl [1, 2, 3] [0] [0, 1, 2, 3] rfl rfl rfl rfl (by decide) rfl rfl rfl hl.1 rfl (Nat.le_of_ble_eq_true rfl) dX9_keep_4 ⟨Nat.zero_le _, Nat.zero_le _⟩ (fun H locs hP hD hS => ?_)
  refine lv_if_eq (tgt := 20) hx hb dX9_keep_7 (by decide) (fun c_5 => ?_) (fun c_5 => ?_)
  · replace h := ifp_el c_5 h
    refine lv_bipush (v := (-3 : Int32)) hx hb dX9_keep_20 (by decide) ?_
    cases h
    rw [← hQe]
    exact W.iret hx hb hr (fun t ht hW => ⟨⟨_, (), rfl, rfl, by rw [ht]; exact hP, va_K.moved hW.alike hK, hD⟩, hS.F ht⟩) hS.2.2 dX9_keep_22
  · replace h := ifn_el c_5 h
    refine lv_aload_n hx hb dX9_keep_10 rfl (lv_at hl 0 rfl) ?_
    refine va_get (D := D) (ci := 7) (v := .ref q_stands) (C := RX9) (T := TX9) (N := 7) hx hb hts i_X9 hown hK hP 0 rfl rfl 2 (by decide) k_28 (fun _ h9 => h9) rfl dX9_keep_11 ?_
    obtain ⟨r_6, hg_7, h⟩ := bd1_el h
    refine kx_Vi (As := []) (rest := []) (wr := [(q_this, .inr (7, [.ref q_text, .ref q_item, .ref q_stands, .ref q_crowd, .ref q_measure, .ref q_laid, .ref q_tried])), (q_stands_others, .inl (ca 0, 16, .inl v_stands_others)), (q_stands_keptOthers, .inl (ca 0, 32, .inl y_stands_keptOthers_3))]) (w1 := [(q_stands, .inr (5, [.ref q_stands_others, .ref q_stands_keptOthers, .int y_stands_kept_2]))]) (wn := [(q_this, .inr (7, [.ref q_text, .ref q_item, .ref q_stands, .ref q_crowd, .ref q_measure, .ref q_laid, .ref q_tried])), (q_stands, .inr (5, [.ref q_stands_others, .ref q_stands_keptOthers, .int y_stands_kept_2])), (q_stands_others, .inl (ca 0, 16, .inl v_stands_others)), (q_stands_keptOthers, .inl (ca 0, 32, .inl y_stands_keptOthers_3))]) ⟨hx, hb, hml, hown, hts⟩ (c_X6_kept l D ca H.size q_stands q_stands_others q_stands_keptOthers y_stands_kept_2 r_6 hg_7) (cwV 0 hts gX9_keep_X6_kept rfl rfl rfl (by decide +kernel) ⟨(Nat.le_of_ble_eq_true rfl), (Nat.le_of_ble_eq_true rfl)⟩) hK hP hD hS hA (ci := 5) (q0 := 0) rfl rfl [1] [0, 2, 3] [0, 3, 1, 2] rfl rfl rfl rfl (by decide) rfl rfl rfl hl.1 rfl (Nat.le_of_ble_eq_true rfl) dX9_keep_14 ⟨Nat.zero_le _, Nat.zero_le _⟩ (fun H locs hP hD hS => ?_)
    refine lv_goto (tgt := 22) hx hb dX9_keep_17 (by decide) ?_
    cases h
    rw [← hQe]
    exact W.iret hx hb hr (fun t ht hW => ⟨⟨_, (), rfl, rfl, by rw [ht]; exact hP, va_K.moved hW.alike hK, hD⟩, hS.F ht⟩) hS.2.2 dX9_keep_22
def D_X9_back (v_stands_kept : Int32) (v_stands_others : Nat → Int32) (v_stands_keptOthers : Nat → Int32) : Option (Int32 × Int32 × (Nat → Int32)) := bd3 (D_X6_pop v_stands_kept v_stands_others v_stands_keptOthers) (fun r_1 y_stands_kept_2 y_stands_others_3 => (if r_1 = 0 then some ((-2 : Int32), y_stands_kept_2, y_stands_others_3) else bd1 (D_X6_kept y_stands_kept_2) (fun r_6 => some (r_6, y_stands_kept_2, y_stands_others_3))))
abbrev rm_X9_back : Room := { frames := 2, cells := 0, slots := 0, locals := 46 }
set_option maxHeartbeats 4000000 in
set_option maxRecDepth 100000 in
theorem c_X9_back (l : Launch) (D : va_G) (ca : Nat → ClassId) (sz : Nat) (q_this q_text q_item q_stands q_stands_others q_stands_keptOthers q_crowd q_measure q_laid q_tried : Nat) (v_stands_kept : Int32) (v_stands_others : Nat → Int32) (v_stands_keptOthers : Nat → Int32) (r : Int32) (o_stands_kept : Int32) (o_stands_others : Nat → Int32) (h : D_X9_back v_stands_kept v_stands_others v_stands_keptOthers = some (r, o_stands_kept, o_stands_others)) : Met l yX9_back wsX9_back rm_X9_back (va_Pc [.ref q_this] (kPre D ca [(q_this, .inr (7, [.ref q_text, .ref q_item, .ref q_stands, .ref q_crowd, .ref q_measure, .ref q_laid, .ref q_tried])), (q_stands, .inr (5, [.ref q_stands_others, .ref q_stands_keptOthers, .int v_stands_kept])), (q_stands_others, .inl (ca 0, 16, .inl v_stands_others)), (q_stands_keptOthers, .inl (ca 0, 32, .inl v_stands_keptOthers))] sz)) (kQi D ca (va_A [(q_this, .inr (7, [.ref q_text, .ref q_item, .ref q_stands, .ref q_crowd, .ref q_measure, .ref q_laid, .ref q_tried])), (q_stands, .inr (5, [.ref q_stands_others, .ref q_stands_keptOthers, .int v_stands_kept])), (q_stands_others, .inl (ca 0, 16, .inl v_stands_others)), (q_stands_keptOthers, .inl (ca 0, 32, .inl v_stands_keptOthers))] sz) [(q_this, .inr (7, [.ref q_text, .ref q_item, .ref q_stands, .ref q_crowd, .ref q_measure, .ref q_laid, .ref q_tried])), (q_stands, .inr (5, [.ref q_stands_others, .ref q_stands_keptOthers, .int o_stands_kept])), (q_stands_others, .inl (ca 0, 16, .inl o_stands_others)), (q_stands_keptOthers, .inl (ca 0, 32, .inl v_stands_keptOthers))] r) 0 0 (va_A [(q_this, .inr (7, [.ref q_text, .ref q_item, .ref q_stands, .ref q_crowd, .ref q_measure, .ref q_laid, .ref q_tried])), (q_stands, .inr (5, [.ref q_stands_others, .ref q_stands_keptOthers, .int v_stands_kept])), (q_stands_others, .inl (ca 0, 16, .inl v_stands_others)), (q_stands_keptOthers, .inl (ca 0, 32, .inl v_stands_keptOthers))] sz) := by
  refine Met.ofW (cc := cX9_back) (maxL := 1) (ret := (some .int)) (by decide +kernel) rfl ?_
  intro p e s m args below meth c s₁ B hml hv
  obtain ⟨rfl, hsz, hP, hK, hD0⟩ := hv
  have hx := B.exec
  have hb := B.bytes
  have hr := B.returns
  have hts := atoms_spec (ws := wsX9_back) B.pre
  have hown : s.vm.findClass RX9 = some m.cls := findClass_of_methodNamed B.named
  have hlocks := B.notSynchronized
  clear B
  subst hsz
  have hD := hD0.self (sz := s.heap.size)
  generalize hAe : va_A [(q_this, .inr (7, [.ref q_text, .ref q_item, .ref q_stands, .ref q_crowd, .ref q_measure, .ref q_laid, .ref q_tried])), (q_stands, .inr (5, [.ref q_stands_others, .ref q_stands_keptOthers, .int v_stands_kept])), (q_stands_others, .inl (ca 0, 16, .inl v_stands_others)), (q_stands_keptOthers, .inl (ca 0, 32, .inl v_stands_keptOthers))] s.heap.size = A at hD ⊢
  have hA : ∀ q : Nat, s.heap.size ≤ q → A q := fun q h => by rw [← hAe]; exact Or.inr h
  have hS : va_S A s.heap s.heap [] := va_S.rf
  have hl := lv_entry ([.ref q_this]) (n := 1) (Nat.le_of_ble_eq_true rfl)
  rw [lg_entry_eq]
  generalize (lg_sl ([.ref q_this]) ++ List.replicate (1 - (lg_sl ([.ref q_this])).length) Slot.unset).toArray = ls at hl ⊢
  have hl : lv_has ls 1 [(0, .ref q_this)] := hl
  generalize ([.ref q_this] : List Value).toArray = args at hts ⊢
  generalize hQe : MQ below (kQi D ca (A) [(q_this, .inr (7, [.ref q_text, .ref q_item, .ref q_stands, .ref q_crowd, .ref q_measure, .ref q_laid, .ref q_tried])), (q_stands, .inr (5, [.ref q_stands_others, .ref q_stands_keptOthers, .int o_stands_kept])), (q_stands_others, .inl (ca 0, 16, .inl o_stands_others)), (q_stands_keptOthers, .inl (ca 0, 32, .inl v_stands_keptOthers))] r) args s 0 0 A = Q
  have i_X9 : ∀ w ∈ u_ws RX9 TX9 7, w ∈ wsX9_back := by decide +kernel
  have k_28 := hts (.fieldLink RX9 28 "TradeWords" "stands" "LTradeWords$Stands;") (by decide +kernel)
  rw [D_X9_back] at h
  refine lv_aload_n hx hb dX9_back_0 rfl (lv_at hl 0 rfl) ?_
  refine va_get (D := D) (ci := 7) (v := .ref q_stands) (C := RX9) (T := TX9) (N := 7) hx hb hts i_X9 hown hK hP 0 rfl rfl 2 (by decide) k_28 (fun _ h9 => h9) rfl dX9_back_1 ?_
  obtain ⟨r_1, y_stands_kept_2, y_stands_others_3, hg_4, h⟩ := bd3_el h
  refine kx_Vi (As := []) (rest := []) (wr := [(q_this, .inr (7, [.ref q_text, .ref q_item, .ref q_stands, .ref q_crowd, .ref q_measure, .ref q_laid, .ref q_tried]))]) (w1 := [(q_stands, .inr (5, [.ref q_stands_others, .ref q_stands_keptOthers, .int y_stands_kept_2])), (q_stands_others, .inl (ca 0, 16, .inl y_stands_others_3)), (q_stands_keptOthers, .inl (ca 0, 32, .inl v_stands_keptOthers))]) (wn := [(q_this, .inr (7, [.ref q_text, .ref q_item, .ref q_stands, .ref q_crowd, .ref q_measure, .ref q_laid, .ref q_tried])), (q_stands, .inr (5, [.ref q_stands_others, .ref q_stands_keptOthers, .int y_stands_kept_2])), (q_stands_others, .inl (ca 0, 16, .inl y_stands_others_3)), (q_stands_keptOthers, .inl (ca 0, 32, .inl v_stands_keptOthers))]) ⟨hx, hb, hml, hown, hts⟩ (c_X6_pop l D ca s.heap.size q_stands q_stands_others q_stands_keptOthers v_stands_kept v_stands_others v_stands_keptOthers r_1 y_stands_kept_2 y_stands_others_3 hg_4) (cwV 0 hts gX9_back_X6_pop rfl rfl rfl (by decide +kernel) ⟨(Nat.le_of_ble_eq_true rfl), (Nat.le_of_ble_eq_true rfl)⟩) hK hP hD hS hA (ci := 5) (q0 := 0) rfl rfl [1, 2, 3] [0] [0, 1, 2, 3] rfl rfl rfl rfl (by decide) rfl rfl rfl hl.1 rfl (Nat.le_of_ble_eq_true rfl) dX9_back_4 ⟨Nat.zero_le _, Nat.zero_le _⟩ (fun H locs hP hD hS => ?_)
  refine lv_if_eq (tgt := 20) hx hb dX9_back_7 (by decide) (fun c_5 => ?_) (fun c_5 => ?_)
  · replace h := ifp_el c_5 h
    refine lv_bipush (v := (-2 : Int32)) hx hb dX9_back_20 (by decide) ?_
    cases h
    rw [← hQe]
    exact W.iret hx hb hr (fun t ht hW => ⟨⟨_, (), rfl, rfl, by rw [ht]; exact hP, va_K.moved hW.alike hK, hD⟩, hS.F ht⟩) hS.2.2 dX9_back_22
  · replace h := ifn_el c_5 h
    refine lv_aload_n hx hb dX9_back_10 rfl (lv_at hl 0 rfl) ?_
    refine va_get (D := D) (ci := 7) (v := .ref q_stands) (C := RX9) (T := TX9) (N := 7) hx hb hts i_X9 hown hK hP 0 rfl rfl 2 (by decide) k_28 (fun _ h9 => h9) rfl dX9_back_11 ?_
    obtain ⟨r_6, hg_7, h⟩ := bd1_el h
    refine kx_Vi (As := []) (rest := []) (wr := [(q_this, .inr (7, [.ref q_text, .ref q_item, .ref q_stands, .ref q_crowd, .ref q_measure, .ref q_laid, .ref q_tried])), (q_stands_others, .inl (ca 0, 16, .inl y_stands_others_3)), (q_stands_keptOthers, .inl (ca 0, 32, .inl v_stands_keptOthers))]) (w1 := [(q_stands, .inr (5, [.ref q_stands_others, .ref q_stands_keptOthers, .int y_stands_kept_2]))]) (wn := [(q_this, .inr (7, [.ref q_text, .ref q_item, .ref q_stands, .ref q_crowd, .ref q_measure, .ref q_laid, .ref q_tried])), (q_stands, .inr (5, [.ref q_stands_others, .ref q_stands_keptOthers, .int y_stands_kept_2])), (q_stands_others, .inl (ca 0, 16, .inl y_stands_others_3)), (q_stands_keptOthers, .inl (ca 0, 32, .inl v_stands_keptOthers))]) ⟨hx, hb, hml, hown, hts⟩ (c_X6_kept l D ca H.size q_stands q_stands_others q_stands_keptOthers y_stands_kept_2 r_6 hg_7) (cwV 0 hts gX9_back_X6_kept rfl rfl rfl (by decide +kernel) ⟨(Nat.le_of_ble_eq_true rfl), (Nat.le_of_ble_eq_true rfl)⟩) hK hP hD hS hA (ci := 5) (q0 := 0) rfl rfl [1] [0, 2, 3] [0, 3, 1, 2] rfl rfl rfl rfl (by decide) rfl rfl rfl hl.1 rfl (Nat.le_of_ble_eq_true rfl) dX9_back_14 ⟨Nat.zero_le _, Nat.zero_le _⟩ (fun H locs hP hD hS => ?_)
    refine lv_goto (tgt := 22) hx hb dX9_back_17 (by decide) ?_
    cases h
    rw [← hQe]
    exact W.iret hx hb hr (fun t ht hW => ⟨⟨_, (), rfl, rfl, by rw [ht]; exact hP, va_K.moved hW.alike hK, hD⟩, hS.F ht⟩) hS.2.2 dX9_back_22
def D_X9_count (F : Nat) (p1 : Int32) (v_text_length : Int32) (v_stands_kept : Int32) (v_laid_words : Nat → Int32) (v_laid_traders : Nat → Int32) (v_laid_needs_joinedTold : Int32) (v_laid_needs_needsTold : Int32) : Option (Int32) := (if p1 = (nI 0) then bd1 (D_X9_toldMeanings F v_laid_words) (fun r_2 => some (r_2)) else (if p1 = (nI 1) then bd1 (D_X7_length v_text_length) (fun r_5 => some (r_5)) else (if p1 = (nI 2) then bd0 (D_X0_needs) (bd1 (D_X4_needsTold v_laid_needs_needsTold) (fun r_9 => some (r_9))) else (if p1 = (nI 3) then bd0 (D_X0_needs) (bd1 (D_X4_joinedTold v_laid_needs_joinedTold) (fun r_13 => some (r_13))) else (if p1 = (nI 4) then bd1 (D_X6_kept v_stands_kept) (fun r_16 => some (r_16)) else (if p1 = (nI 5) then bd1 (D_X0_tradersOf (nI 0) v_laid_traders) (fun r_19 => some (r_19)) else (if p1 = (nI 6) then bd1 (D_X0_tradersOf (nI 1) v_laid_traders) (fun r_22 => some (r_22)) else some ((-1 : Int32)))))))))
abbrev rm_X9_count : Room := { frames := 4, cells := 0, slots := 0, locals := 86 }
set_option maxHeartbeats 4000000 in
set_option maxRecDepth 100000 in
theorem c_X9_count (l : Launch) (D : va_G) (ca : Nat → ClassId) (F : Nat) (sz : Nat) (q_this q_text q_text_bytes q_item q_stands q_stands_others q_stands_keptOthers q_crowd q_measure q_laid q_laid_words q_laid_heard q_laid_canSay q_laid_instead q_laid_traders q_laid_takes q_laid_needs q_laid_needs_joinedMeaning q_laid_needs_joinedPair q_tried : Nat) (p1 : Int32) (v_text_length : Int32) (v_stands_kept : Int32) (v_laid_speaks : Int32) (v_laid_alikeFrom : Int32) (v_laid_words : Nat → Int32) (v_laid_traders : Nat → Int32) (v_laid_needs_joinedTold : Int32) (v_laid_needs_needsTold : Int32) (v_laid_needs_needed : Int32) (r : Int32) (h : D_X9_count F p1 v_text_length v_stands_kept v_laid_words v_laid_traders v_laid_needs_joinedTold v_laid_needs_needsTold = some (r)) : Met l yX9_count wsX9_count rm_X9_count (va_Pc [.ref q_this, .int p1] (kPre D ca [(q_this, .inr (7, [.ref q_text, .ref q_item, .ref q_stands, .ref q_crowd, .ref q_measure, .ref q_laid, .ref q_tried])), (q_text, .inr (6, [.ref q_text_bytes, .int v_text_length])), (q_stands, .inr (5, [.ref q_stands_others, .ref q_stands_keptOthers, .int v_stands_kept])), (q_laid, .inr (0, [.ref q_laid_words, .ref q_laid_heard, .ref q_laid_canSay, .ref q_laid_instead, .ref q_laid_traders, .ref q_laid_takes, .ref q_laid_needs, .int v_laid_speaks, .int v_laid_alikeFrom])), (q_laid_words, .inl (ca 0, 16, .inl v_laid_words)), (q_laid_traders, .inl (ca 0, 2, .inl v_laid_traders)), (q_laid_needs, .inr (4, [.ref q_laid_needs_joinedMeaning, .ref q_laid_needs_joinedPair, .int v_laid_needs_joinedTold, .int v_laid_needs_needsTold, .int v_laid_needs_needed]))] sz)) (kQi D ca (va_A [(q_this, .inr (7, [.ref q_text, .ref q_item, .ref q_stands, .ref q_crowd, .ref q_measure, .ref q_laid, .ref q_tried])), (q_text, .inr (6, [.ref q_text_bytes, .int v_text_length])), (q_stands, .inr (5, [.ref q_stands_others, .ref q_stands_keptOthers, .int v_stands_kept])), (q_laid, .inr (0, [.ref q_laid_words, .ref q_laid_heard, .ref q_laid_canSay, .ref q_laid_instead, .ref q_laid_traders, .ref q_laid_takes, .ref q_laid_needs, .int v_laid_speaks, .int v_laid_alikeFrom])), (q_laid_words, .inl (ca 0, 16, .inl v_laid_words)), (q_laid_traders, .inl (ca 0, 2, .inl v_laid_traders)), (q_laid_needs, .inr (4, [.ref q_laid_needs_joinedMeaning, .ref q_laid_needs_joinedPair, .int v_laid_needs_joinedTold, .int v_laid_needs_needsTold, .int v_laid_needs_needed]))] sz) [(q_this, .inr (7, [.ref q_text, .ref q_item, .ref q_stands, .ref q_crowd, .ref q_measure, .ref q_laid, .ref q_tried])), (q_text, .inr (6, [.ref q_text_bytes, .int v_text_length])), (q_stands, .inr (5, [.ref q_stands_others, .ref q_stands_keptOthers, .int v_stands_kept])), (q_laid, .inr (0, [.ref q_laid_words, .ref q_laid_heard, .ref q_laid_canSay, .ref q_laid_instead, .ref q_laid_traders, .ref q_laid_takes, .ref q_laid_needs, .int v_laid_speaks, .int v_laid_alikeFrom])), (q_laid_words, .inl (ca 0, 16, .inl v_laid_words)), (q_laid_traders, .inl (ca 0, 2, .inl v_laid_traders)), (q_laid_needs, .inr (4, [.ref q_laid_needs_joinedMeaning, .ref q_laid_needs_joinedPair, .int v_laid_needs_joinedTold, .int v_laid_needs_needsTold, .int v_laid_needs_needed]))] r) 0 0 (va_A [(q_this, .inr (7, [.ref q_text, .ref q_item, .ref q_stands, .ref q_crowd, .ref q_measure, .ref q_laid, .ref q_tried])), (q_text, .inr (6, [.ref q_text_bytes, .int v_text_length])), (q_stands, .inr (5, [.ref q_stands_others, .ref q_stands_keptOthers, .int v_stands_kept])), (q_laid, .inr (0, [.ref q_laid_words, .ref q_laid_heard, .ref q_laid_canSay, .ref q_laid_instead, .ref q_laid_traders, .ref q_laid_takes, .ref q_laid_needs, .int v_laid_speaks, .int v_laid_alikeFrom])), (q_laid_words, .inl (ca 0, 16, .inl v_laid_words)), (q_laid_traders, .inl (ca 0, 2, .inl v_laid_traders)), (q_laid_needs, .inr (4, [.ref q_laid_needs_joinedMeaning, .ref q_laid_needs_joinedPair, .int v_laid_needs_joinedTold, .int v_laid_needs_needsTold, .int v_laid_needs_needed]))] sz) := by
  refine Met.ofW (cc := cX9_count) (maxL := 2) (ret := (some .int)) (by decide +kernel) rfl ?_
  intro p e s m args below meth c s₁ B hml hv
  obtain ⟨rfl, hsz, hP, hK, hD0⟩ := hv
  have hx := B.exec
  have hb := B.bytes
  have hr := B.returns
  have hts := atoms_spec (ws := wsX9_count) B.pre
  have hown : s.vm.findClass RX9 = some m.cls := findClass_of_methodNamed B.named
  have hlocks := B.notSynchronized
  clear B
  subst hsz
  have hD := hD0.self (sz := s.heap.size)
  generalize hAe : va_A [(q_this, .inr (7, [.ref q_text, .ref q_item, .ref q_stands, .ref q_crowd, .ref q_measure, .ref q_laid, .ref q_tried])), (q_text, .inr (6, [.ref q_text_bytes, .int v_text_length])), (q_stands, .inr (5, [.ref q_stands_others, .ref q_stands_keptOthers, .int v_stands_kept])), (q_laid, .inr (0, [.ref q_laid_words, .ref q_laid_heard, .ref q_laid_canSay, .ref q_laid_instead, .ref q_laid_traders, .ref q_laid_takes, .ref q_laid_needs, .int v_laid_speaks, .int v_laid_alikeFrom])), (q_laid_words, .inl (ca 0, 16, .inl v_laid_words)), (q_laid_traders, .inl (ca 0, 2, .inl v_laid_traders)), (q_laid_needs, .inr (4, [.ref q_laid_needs_joinedMeaning, .ref q_laid_needs_joinedPair, .int v_laid_needs_joinedTold, .int v_laid_needs_needsTold, .int v_laid_needs_needed]))] s.heap.size = A at hD ⊢
  have hA : ∀ q : Nat, s.heap.size ≤ q → A q := fun q h => by rw [← hAe]; exact Or.inr h
  have hS : va_S A s.heap s.heap [] := va_S.rf
  have hl := lv_entry ([.ref q_this, .int p1]) (n := 2) (Nat.le_of_ble_eq_true rfl)
  rw [lg_entry_eq]
  generalize (lg_sl ([.ref q_this, .int p1]) ++ List.replicate (2 - (lg_sl ([.ref q_this, .int p1])).length) Slot.unset).toArray = ls at hl ⊢
  have hl : lv_has ls 2 [(0, .ref q_this), (1, .int p1)] := hl
  generalize ([.ref q_this, .int p1] : List Value).toArray = args at hts ⊢
  generalize hQe : MQ below (kQi D ca (A) [(q_this, .inr (7, [.ref q_text, .ref q_item, .ref q_stands, .ref q_crowd, .ref q_measure, .ref q_laid, .ref q_tried])), (q_text, .inr (6, [.ref q_text_bytes, .int v_text_length])), (q_stands, .inr (5, [.ref q_stands_others, .ref q_stands_keptOthers, .int v_stands_kept])), (q_laid, .inr (0, [.ref q_laid_words, .ref q_laid_heard, .ref q_laid_canSay, .ref q_laid_instead, .ref q_laid_traders, .ref q_laid_takes, .ref q_laid_needs, .int v_laid_speaks, .int v_laid_alikeFrom])), (q_laid_words, .inl (ca 0, 16, .inl v_laid_words)), (q_laid_traders, .inl (ca 0, 2, .inl v_laid_traders)), (q_laid_needs, .inr (4, [.ref q_laid_needs_joinedMeaning, .ref q_laid_needs_joinedPair, .int v_laid_needs_joinedTold, .int v_laid_needs_needsTold, .int v_laid_needs_needed]))] r) args s 0 0 A = Q
  have i_X9 : ∀ w ∈ u_ws RX9 TX9 7, w ∈ wsX9_count := by decide +kernel
  have k_10 := hts (.fieldLink RX9 10 "TradeWords" "text" "LTradeWords$Text;") (by decide +kernel)
  have k_49 := hts (.fieldLink RX9 49 "TradeWords" "laid" "LTradeWords$Beach;") (by decide +kernel)
  have k_28 := hts (.fieldLink RX9 28 "TradeWords" "stands" "LTradeWords$Stands;") (by decide +kernel)
  rw [D_X9_count] at h
  refine lv_iload_n hx hb dX9_count_0 rfl (lv_at hl 1 rfl) ?_
  by_cases c_1 : p1 = (nI 0)
  · replace h := ifp_el c_1 h
    refine lv_tableIn (off := 43) (tgt := 44) hx hb dX9_count_1 (by rw [c_1]; decide) (by rw [c_1]; decide) (by rw [c_1]; decide) (by decide) ?_
    refine lv_aload_n hx hb dX9_count_44 rfl (lv_at hl 0 rfl) ?_
    obtain ⟨r_2, hg_3, h⟩ := bd1_el h
    refine kx_Vi (As := []) (rest := []) (wr := [(q_text, .inr (6, [.ref q_text_bytes, .int v_text_length])), (q_stands, .inr (5, [.ref q_stands_others, .ref q_stands_keptOthers, .int v_stands_kept])), (q_laid_traders, .inl (ca 0, 2, .inl v_laid_traders)), (q_laid_needs, .inr (4, [.ref q_laid_needs_joinedMeaning, .ref q_laid_needs_joinedPair, .int v_laid_needs_joinedTold, .int v_laid_needs_needsTold, .int v_laid_needs_needed]))]) (w1 := [(q_this, .inr (7, [.ref q_text, .ref q_item, .ref q_stands, .ref q_crowd, .ref q_measure, .ref q_laid, .ref q_tried])), (q_laid, .inr (0, [.ref q_laid_words, .ref q_laid_heard, .ref q_laid_canSay, .ref q_laid_instead, .ref q_laid_traders, .ref q_laid_takes, .ref q_laid_needs, .int v_laid_speaks, .int v_laid_alikeFrom])), (q_laid_words, .inl (ca 0, 16, .inl v_laid_words))]) (wn := [(q_this, .inr (7, [.ref q_text, .ref q_item, .ref q_stands, .ref q_crowd, .ref q_measure, .ref q_laid, .ref q_tried])), (q_text, .inr (6, [.ref q_text_bytes, .int v_text_length])), (q_stands, .inr (5, [.ref q_stands_others, .ref q_stands_keptOthers, .int v_stands_kept])), (q_laid, .inr (0, [.ref q_laid_words, .ref q_laid_heard, .ref q_laid_canSay, .ref q_laid_instead, .ref q_laid_traders, .ref q_laid_takes, .ref q_laid_needs, .int v_laid_speaks, .int v_laid_alikeFrom])), (q_laid_words, .inl (ca 0, 16, .inl v_laid_words)), (q_laid_traders, .inl (ca 0, 2, .inl v_laid_traders)), (q_laid_needs, .inr (4, [.ref q_laid_needs_joinedMeaning, .ref q_laid_needs_joinedPair, .int v_laid_needs_joinedTold, .int v_laid_needs_needsTold, .int v_laid_needs_needed]))]) ⟨hx, hb, hml, hown, hts⟩ (c_X9_toldMeanings l D ca F s.heap.size q_this q_text q_item q_stands q_crowd q_measure q_laid q_laid_words q_laid_heard q_laid_canSay q_laid_instead q_laid_traders q_laid_takes q_laid_needs q_tried v_laid_speaks v_laid_alikeFrom v_laid_words r_2 hg_3) (cwV 0 hts gX9_count_X9_toldMeanings rfl rfl rfl (by decide +kernel) ⟨(Nat.le_of_ble_eq_true rfl), (Nat.le_of_ble_eq_true rfl)⟩) hK hP hD hS hA (ci := 7) (q0 := 0) rfl rfl [0, 3, 4] [1, 2, 5, 6] [4, 0, 1, 5, 6, 2, 3] rfl rfl rfl rfl (by decide) rfl rfl rfl hl.1 rfl (Nat.le_of_ble_eq_true rfl) dX9_count_45 ⟨Nat.zero_le _, Nat.zero_le _⟩ (fun H locs hP hD hS => ?_)
    cases h
    rw [← hQe]
    exact W.iret hx hb hr (fun t ht hW => ⟨⟨_, (), rfl, rfl, by rw [ht]; exact hP, va_K.moved hW.alike hK, hD⟩, hS.F ht⟩) hS.2.2 dX9_count_48
  replace h := ifn_el c_1 h
  by_cases c_4 : p1 = (nI 1)
  · replace h := ifp_el c_4 h
    refine lv_tableIn (off := 48) (tgt := 49) hx hb dX9_count_1 (by rw [c_4]; decide) (by rw [c_4]; decide) (by rw [c_4]; decide) (by decide) ?_
    refine lv_aload_n hx hb dX9_count_49 rfl (lv_at hl 0 rfl) ?_
    refine va_get (D := D) (ci := 7) (v := .ref q_text) (C := RX9) (T := TX9) (N := 7) hx hb hts i_X9 hown hK hP 0 rfl rfl 0 (by decide) k_10 (fun _ h9 => h9) rfl dX9_count_50 ?_
    obtain ⟨r_5, hg_6, h⟩ := bd1_el h
    refine kx_Vi (As := []) (rest := []) (wr := [(q_this, .inr (7, [.ref q_text, .ref q_item, .ref q_stands, .ref q_crowd, .ref q_measure, .ref q_laid, .ref q_tried])), (q_stands, .inr (5, [.ref q_stands_others, .ref q_stands_keptOthers, .int v_stands_kept])), (q_laid, .inr (0, [.ref q_laid_words, .ref q_laid_heard, .ref q_laid_canSay, .ref q_laid_instead, .ref q_laid_traders, .ref q_laid_takes, .ref q_laid_needs, .int v_laid_speaks, .int v_laid_alikeFrom])), (q_laid_words, .inl (ca 0, 16, .inl v_laid_words)), (q_laid_traders, .inl (ca 0, 2, .inl v_laid_traders)), (q_laid_needs, .inr (4, [.ref q_laid_needs_joinedMeaning, .ref q_laid_needs_joinedPair, .int v_laid_needs_joinedTold, .int v_laid_needs_needsTold, .int v_laid_needs_needed]))]) (w1 := [(q_text, .inr (6, [.ref q_text_bytes, .int v_text_length]))]) (wn := [(q_this, .inr (7, [.ref q_text, .ref q_item, .ref q_stands, .ref q_crowd, .ref q_measure, .ref q_laid, .ref q_tried])), (q_text, .inr (6, [.ref q_text_bytes, .int v_text_length])), (q_stands, .inr (5, [.ref q_stands_others, .ref q_stands_keptOthers, .int v_stands_kept])), (q_laid, .inr (0, [.ref q_laid_words, .ref q_laid_heard, .ref q_laid_canSay, .ref q_laid_instead, .ref q_laid_traders, .ref q_laid_takes, .ref q_laid_needs, .int v_laid_speaks, .int v_laid_alikeFrom])), (q_laid_words, .inl (ca 0, 16, .inl v_laid_words)), (q_laid_traders, .inl (ca 0, 2, .inl v_laid_traders)), (q_laid_needs, .inr (4, [.ref q_laid_needs_joinedMeaning, .ref q_laid_needs_joinedPair, .int v_laid_needs_joinedTold, .int v_laid_needs_needsTold, .int v_laid_needs_needed]))]) ⟨hx, hb, hml, hown, hts⟩ (c_X7_length l D ca s.heap.size q_text q_text_bytes v_text_length r_5 hg_6) (cwV 0 hts gX9_count_X7_length rfl rfl rfl (by decide +kernel) ⟨(Nat.le_of_ble_eq_true rfl), (Nat.le_of_ble_eq_true rfl)⟩) hK hP hD hS hA (ci := 6) (q0 := 0) rfl rfl [1] [0, 2, 3, 4, 5, 6] [0, 6, 1, 2, 3, 4, 5] rfl rfl rfl rfl (by decide) rfl rfl rfl hl.1 rfl (Nat.le_of_ble_eq_true rfl) dX9_count_53 ⟨Nat.zero_le _, Nat.zero_le _⟩ (fun H locs hP hD hS => ?_)
    cases h
    rw [← hQe]
    exact W.iret hx hb hr (fun t ht hW => ⟨⟨_, (), rfl, rfl, by rw [ht]; exact hP, va_K.moved hW.alike hK, hD⟩, hS.F ht⟩) hS.2.2 dX9_count_56
  replace h := ifn_el c_4 h
  by_cases c_7 : p1 = (nI 2)
  · replace h := ifp_el c_7 h
    refine lv_tableIn (off := 56) (tgt := 57) hx hb dX9_count_1 (by rw [c_7]; decide) (by rw [c_7]; decide) (by rw [c_7]; decide) (by decide) ?_
    refine lv_aload_n hx hb dX9_count_57 rfl (lv_at hl 0 rfl) ?_
    refine va_get (D := D) (ci := 7) (v := .ref q_laid) (C := RX9) (T := TX9) (N := 7) hx hb hts i_X9 hown hK hP 0 rfl rfl 5 (by decide) k_49 (fun _ h9 => h9) rfl dX9_count_58 ?_
    obtain ⟨hg_8, h⟩ := bd0_el h
    refine kx_Vr (As := []) (rest := []) (wr := [(q_this, .inr (7, [.ref q_text, .ref q_item, .ref q_stands, .ref q_crowd, .ref q_measure, .ref q_laid, .ref q_tried])), (q_text, .inr (6, [.ref q_text_bytes, .int v_text_length])), (q_stands, .inr (5, [.ref q_stands_others, .ref q_stands_keptOthers, .int v_stands_kept])), (q_laid_words, .inl (ca 0, 16, .inl v_laid_words)), (q_laid_traders, .inl (ca 0, 2, .inl v_laid_traders)), (q_laid_needs, .inr (4, [.ref q_laid_needs_joinedMeaning, .ref q_laid_needs_joinedPair, .int v_laid_needs_joinedTold, .int v_laid_needs_needsTold, .int v_laid_needs_needed]))]) (w1 := [(q_laid, .inr (0, [.ref q_laid_words, .ref q_laid_heard, .ref q_laid_canSay, .ref q_laid_instead, .ref q_laid_traders, .ref q_laid_takes, .ref q_laid_needs, .int v_laid_speaks, .int v_laid_alikeFrom]))]) (wn := [(q_this, .inr (7, [.ref q_text, .ref q_item, .ref q_stands, .ref q_crowd, .ref q_measure, .ref q_laid, .ref q_tried])), (q_text, .inr (6, [.ref q_text_bytes, .int v_text_length])), (q_stands, .inr (5, [.ref q_stands_others, .ref q_stands_keptOthers, .int v_stands_kept])), (q_laid, .inr (0, [.ref q_laid_words, .ref q_laid_heard, .ref q_laid_canSay, .ref q_laid_instead, .ref q_laid_traders, .ref q_laid_takes, .ref q_laid_needs, .int v_laid_speaks, .int v_laid_alikeFrom])), (q_laid_words, .inl (ca 0, 16, .inl v_laid_words)), (q_laid_traders, .inl (ca 0, 2, .inl v_laid_traders)), (q_laid_needs, .inr (4, [.ref q_laid_needs_joinedMeaning, .ref q_laid_needs_joinedPair, .int v_laid_needs_joinedTold, .int v_laid_needs_needsTold, .int v_laid_needs_needed]))]) ⟨hx, hb, hml, hown, hts⟩ (c_X0_needs l D ca s.heap.size q_laid q_laid_words q_laid_heard q_laid_canSay q_laid_instead q_laid_traders q_laid_takes q_laid_needs v_laid_speaks v_laid_alikeFrom hg_8) (cwV 0 hts gX9_count_X0_needs rfl rfl rfl (by decide +kernel) ⟨(Nat.le_of_ble_eq_true rfl), (Nat.le_of_ble_eq_true rfl)⟩) hK hP hD hS hA (ci := 0) (q0 := 0) rfl rfl [3] [0, 1, 2, 4, 5, 6] [0, 1, 2, 6, 3, 4, 5] rfl rfl rfl rfl (by decide) rfl rfl rfl hl.1 rfl (Nat.le_of_ble_eq_true rfl) dX9_count_61 ⟨Nat.zero_le _, Nat.zero_le _⟩ (fun H locs hP hD hS => ?_)
    obtain ⟨r_9, hg_10, h⟩ := bd1_el h
    refine kx_Vi (As := []) (rest := []) (wr := [(q_this, .inr (7, [.ref q_text, .ref q_item, .ref q_stands, .ref q_crowd, .ref q_measure, .ref q_laid, .ref q_tried])), (q_text, .inr (6, [.ref q_text_bytes, .int v_text_length])), (q_stands, .inr (5, [.ref q_stands_others, .ref q_stands_keptOthers, .int v_stands_kept])), (q_laid, .inr (0, [.ref q_laid_words, .ref q_laid_heard, .ref q_laid_canSay, .ref q_laid_instead, .ref q_laid_traders, .ref q_laid_takes, .ref q_laid_needs, .int v_laid_speaks, .int v_laid_alikeFrom])), (q_laid_words, .inl (ca 0, 16, .inl v_laid_words)), (q_laid_traders, .inl (ca 0, 2, .inl v_laid_traders))]) (w1 := [(q_laid_needs, .inr (4, [.ref q_laid_needs_joinedMeaning, .ref q_laid_needs_joinedPair, .int v_laid_needs_joinedTold, .int v_laid_needs_needsTold, .int v_laid_needs_needed]))]) (wn := [(q_this, .inr (7, [.ref q_text, .ref q_item, .ref q_stands, .ref q_crowd, .ref q_measure, .ref q_laid, .ref q_tried])), (q_text, .inr (6, [.ref q_text_bytes, .int v_text_length])), (q_stands, .inr (5, [.ref q_stands_others, .ref q_stands_keptOthers, .int v_stands_kept])), (q_laid, .inr (0, [.ref q_laid_words, .ref q_laid_heard, .ref q_laid_canSay, .ref q_laid_instead, .ref q_laid_traders, .ref q_laid_takes, .ref q_laid_needs, .int v_laid_speaks, .int v_laid_alikeFrom])), (q_laid_words, .inl (ca 0, 16, .inl v_laid_words)), (q_laid_traders, .inl (ca 0, 2, .inl v_laid_traders)), (q_laid_needs, .inr (4, [.ref q_laid_needs_joinedMeaning, .ref q_laid_needs_joinedPair, .int v_laid_needs_joinedTold, .int v_laid_needs_needsTold, .int v_laid_needs_needed]))]) ⟨hx, hb, hml, hown, hts⟩ (c_X4_needsTold l D ca H.size q_laid_needs q_laid_needs_joinedMeaning q_laid_needs_joinedPair v_laid_needs_joinedTold v_laid_needs_needsTold v_laid_needs_needed r_9 hg_10) (cwV 0 hts gX9_count_X4_needsTold rfl rfl rfl (by decide +kernel) ⟨(Nat.le_of_ble_eq_true rfl), (Nat.le_of_ble_eq_true rfl)⟩) hK hP hD hS hA (ci := 4) (q0 := 0) rfl rfl [6] [0, 1, 2, 3, 4, 5] [0, 1, 2, 3, 4, 5, 6] rfl rfl rfl rfl (by decide) rfl rfl rfl hl.1 rfl (Nat.le_of_ble_eq_true rfl) dX9_count_64 ⟨Nat.zero_le _, Nat.zero_le _⟩ (fun H locs hP hD hS => ?_)
    cases h
    rw [← hQe]
    exact W.iret hx hb hr (fun t ht hW => ⟨⟨_, (), rfl, rfl, by rw [ht]; exact hP, va_K.moved hW.alike hK, hD⟩, hS.F ht⟩) hS.2.2 dX9_count_67
  replace h := ifn_el c_7 h
  by_cases c_11 : p1 = (nI 3)
  · replace h := ifp_el c_11 h
    refine lv_tableIn (off := 67) (tgt := 68) hx hb dX9_count_1 (by rw [c_11]; decide) (by rw [c_11]; decide) (by rw [c_11]; decide) (by decide) ?_
    refine lv_aload_n hx hb dX9_count_68 rfl (lv_at hl 0 rfl) ?_
    refine va_get (D := D) (ci := 7) (v := .ref q_laid) (C := RX9) (T := TX9) (N := 7) hx hb hts i_X9 hown hK hP 0 rfl rfl 5 (by decide) k_49 (fun _ h9 => h9) rfl dX9_count_69 ?_
    obtain ⟨hg_12, h⟩ := bd0_el h
    refine kx_Vr (As := []) (rest := []) (wr := [(q_this, .inr (7, [.ref q_text, .ref q_item, .ref q_stands, .ref q_crowd, .ref q_measure, .ref q_laid, .ref q_tried])), (q_text, .inr (6, [.ref q_text_bytes, .int v_text_length])), (q_stands, .inr (5, [.ref q_stands_others, .ref q_stands_keptOthers, .int v_stands_kept])), (q_laid_words, .inl (ca 0, 16, .inl v_laid_words)), (q_laid_traders, .inl (ca 0, 2, .inl v_laid_traders)), (q_laid_needs, .inr (4, [.ref q_laid_needs_joinedMeaning, .ref q_laid_needs_joinedPair, .int v_laid_needs_joinedTold, .int v_laid_needs_needsTold, .int v_laid_needs_needed]))]) (w1 := [(q_laid, .inr (0, [.ref q_laid_words, .ref q_laid_heard, .ref q_laid_canSay, .ref q_laid_instead, .ref q_laid_traders, .ref q_laid_takes, .ref q_laid_needs, .int v_laid_speaks, .int v_laid_alikeFrom]))]) (wn := [(q_this, .inr (7, [.ref q_text, .ref q_item, .ref q_stands, .ref q_crowd, .ref q_measure, .ref q_laid, .ref q_tried])), (q_text, .inr (6, [.ref q_text_bytes, .int v_text_length])), (q_stands, .inr (5, [.ref q_stands_others, .ref q_stands_keptOthers, .int v_stands_kept])), (q_laid, .inr (0, [.ref q_laid_words, .ref q_laid_heard, .ref q_laid_canSay, .ref q_laid_instead, .ref q_laid_traders, .ref q_laid_takes, .ref q_laid_needs, .int v_laid_speaks, .int v_laid_alikeFrom])), (q_laid_words, .inl (ca 0, 16, .inl v_laid_words)), (q_laid_traders, .inl (ca 0, 2, .inl v_laid_traders)), (q_laid_needs, .inr (4, [.ref q_laid_needs_joinedMeaning, .ref q_laid_needs_joinedPair, .int v_laid_needs_joinedTold, .int v_laid_needs_needsTold, .int v_laid_needs_needed]))]) ⟨hx, hb, hml, hown, hts⟩ (c_X0_needs l D ca s.heap.size q_laid q_laid_words q_laid_heard q_laid_canSay q_laid_instead q_laid_traders q_laid_takes q_laid_needs v_laid_speaks v_laid_alikeFrom hg_12) (cwV 0 hts gX9_count_X0_needs rfl rfl rfl (by decide +kernel) ⟨(Nat.le_of_ble_eq_true rfl), (Nat.le_of_ble_eq_true rfl)⟩) hK hP hD hS hA (ci := 0) (q0 := 0) rfl rfl [3] [0, 1, 2, 4, 5, 6] [0, 1, 2, 6, 3, 4, 5] rfl rfl rfl rfl (by decide) rfl rfl rfl hl.1 rfl (Nat.le_of_ble_eq_true rfl) dX9_count_72 ⟨Nat.zero_le _, Nat.zero_le _⟩ (fun H locs hP hD hS => ?_)
    obtain ⟨r_13, hg_14, h⟩ := bd1_el h
    refine kx_Vi (As := []) (rest := []) (wr := [(q_this, .inr (7, [.ref q_text, .ref q_item, .ref q_stands, .ref q_crowd, .ref q_measure, .ref q_laid, .ref q_tried])), (q_text, .inr (6, [.ref q_text_bytes, .int v_text_length])), (q_stands, .inr (5, [.ref q_stands_others, .ref q_stands_keptOthers, .int v_stands_kept])), (q_laid, .inr (0, [.ref q_laid_words, .ref q_laid_heard, .ref q_laid_canSay, .ref q_laid_instead, .ref q_laid_traders, .ref q_laid_takes, .ref q_laid_needs, .int v_laid_speaks, .int v_laid_alikeFrom])), (q_laid_words, .inl (ca 0, 16, .inl v_laid_words)), (q_laid_traders, .inl (ca 0, 2, .inl v_laid_traders))]) (w1 := [(q_laid_needs, .inr (4, [.ref q_laid_needs_joinedMeaning, .ref q_laid_needs_joinedPair, .int v_laid_needs_joinedTold, .int v_laid_needs_needsTold, .int v_laid_needs_needed]))]) (wn := [(q_this, .inr (7, [.ref q_text, .ref q_item, .ref q_stands, .ref q_crowd, .ref q_measure, .ref q_laid, .ref q_tried])), (q_text, .inr (6, [.ref q_text_bytes, .int v_text_length])), (q_stands, .inr (5, [.ref q_stands_others, .ref q_stands_keptOthers, .int v_stands_kept])), (q_laid, .inr (0, [.ref q_laid_words, .ref q_laid_heard, .ref q_laid_canSay, .ref q_laid_instead, .ref q_laid_traders, .ref q_laid_takes, .ref q_laid_needs, .int v_laid_speaks, .int v_laid_alikeFrom])), (q_laid_words, .inl (ca 0, 16, .inl v_laid_words)), (q_laid_traders, .inl (ca 0, 2, .inl v_laid_traders)), (q_laid_needs, .inr (4, [.ref q_laid_needs_joinedMeaning, .ref q_laid_needs_joinedPair, .int v_laid_needs_joinedTold, .int v_laid_needs_needsTold, .int v_laid_needs_needed]))]) ⟨hx, hb, hml, hown, hts⟩ (c_X4_joinedTold l D ca H.size q_laid_needs q_laid_needs_joinedMeaning q_laid_needs_joinedPair v_laid_needs_joinedTold v_laid_needs_needsTold v_laid_needs_needed r_13 hg_14) (cwV 0 hts gX9_count_X4_joinedTold rfl rfl rfl (by decide +kernel) ⟨(Nat.le_of_ble_eq_true rfl), (Nat.le_of_ble_eq_true rfl)⟩) hK hP hD hS hA (ci := 4) (q0 := 0) rfl rfl [6] [0, 1, 2, 3, 4, 5] [0, 1, 2, 3, 4, 5, 6] rfl rfl rfl rfl (by decide) rfl rfl rfl hl.1 rfl (Nat.le_of_ble_eq_true rfl) dX9_count_75 ⟨Nat.zero_le _, Nat.zero_le _⟩ (fun H locs hP hD hS => ?_)
    cases h
    rw [← hQe]
    exact W.iret hx hb hr (fun t ht hW => ⟨⟨_, (), rfl, rfl, by rw [ht]; exact hP, va_K.moved hW.alike hK, hD⟩, hS.F ht⟩) hS.2.2 dX9_count_78
  replace h := ifn_el c_11 h
  by_cases c_15 : p1 = (nI 4)
  · replace h := ifp_el c_15 h
    refine lv_tableIn (off := 78) (tgt := 79) hx hb dX9_count_1 (by rw [c_15]; decide) (by rw [c_15]; decide) (by rw [c_15]; decide) (by decide) ?_
    refine lv_aload_n hx hb dX9_count_79 rfl (lv_at hl 0 rfl) ?_
    refine va_get (D := D) (ci := 7) (v := .ref q_stands) (C := RX9) (T := TX9) (N := 7) hx hb hts i_X9 hown hK hP 0 rfl rfl 2 (by decide) k_28 (fun _ h9 => h9) rfl dX9_count_80 ?_
    obtain ⟨r_16, hg_17, h⟩ := bd1_el h
    refine kx_Vi (As := []) (rest := []) (wr := [(q_this, .inr (7, [.ref q_text, .ref q_item, .ref q_stands, .ref q_crowd, .ref q_measure, .ref q_laid, .ref q_tried])), (q_text, .inr (6, [.ref q_text_bytes, .int v_text_length])), (q_laid, .inr (0, [.ref q_laid_words, .ref q_laid_heard, .ref q_laid_canSay, .ref q_laid_instead, .ref q_laid_traders, .ref q_laid_takes, .ref q_laid_needs, .int v_laid_speaks, .int v_laid_alikeFrom])), (q_laid_words, .inl (ca 0, 16, .inl v_laid_words)), (q_laid_traders, .inl (ca 0, 2, .inl v_laid_traders)), (q_laid_needs, .inr (4, [.ref q_laid_needs_joinedMeaning, .ref q_laid_needs_joinedPair, .int v_laid_needs_joinedTold, .int v_laid_needs_needsTold, .int v_laid_needs_needed]))]) (w1 := [(q_stands, .inr (5, [.ref q_stands_others, .ref q_stands_keptOthers, .int v_stands_kept]))]) (wn := [(q_this, .inr (7, [.ref q_text, .ref q_item, .ref q_stands, .ref q_crowd, .ref q_measure, .ref q_laid, .ref q_tried])), (q_text, .inr (6, [.ref q_text_bytes, .int v_text_length])), (q_stands, .inr (5, [.ref q_stands_others, .ref q_stands_keptOthers, .int v_stands_kept])), (q_laid, .inr (0, [.ref q_laid_words, .ref q_laid_heard, .ref q_laid_canSay, .ref q_laid_instead, .ref q_laid_traders, .ref q_laid_takes, .ref q_laid_needs, .int v_laid_speaks, .int v_laid_alikeFrom])), (q_laid_words, .inl (ca 0, 16, .inl v_laid_words)), (q_laid_traders, .inl (ca 0, 2, .inl v_laid_traders)), (q_laid_needs, .inr (4, [.ref q_laid_needs_joinedMeaning, .ref q_laid_needs_joinedPair, .int v_laid_needs_joinedTold, .int v_laid_needs_needsTold, .int v_laid_needs_needed]))]) ⟨hx, hb, hml, hown, hts⟩ (c_X6_kept l D ca s.heap.size q_stands q_stands_others q_stands_keptOthers v_stands_kept r_16 hg_17) (cwV 0 hts gX9_count_X6_kept rfl rfl rfl (by decide +kernel) ⟨(Nat.le_of_ble_eq_true rfl), (Nat.le_of_ble_eq_true rfl)⟩) hK hP hD hS hA (ci := 5) (q0 := 0) rfl rfl [2] [0, 1, 3, 4, 5, 6] [0, 1, 6, 2, 3, 4, 5] rfl rfl rfl rfl (by decide) rfl rfl rfl hl.1 rfl (Nat.le_of_ble_eq_true rfl) dX9_count_83 ⟨Nat.zero_le _, Nat.zero_le _⟩ (fun H locs hP hD hS => ?_)
    cases h
    rw [← hQe]
    exact W.iret hx hb hr (fun t ht hW => ⟨⟨_, (), rfl, rfl, by rw [ht]; exact hP, va_K.moved hW.alike hK, hD⟩, hS.F ht⟩) hS.2.2 dX9_count_86
  replace h := ifn_el c_15 h
  by_cases c_18 : p1 = (nI 5)
  · replace h := ifp_el c_18 h
    refine lv_tableIn (off := 86) (tgt := 87) hx hb dX9_count_1 (by rw [c_18]; decide) (by rw [c_18]; decide) (by rw [c_18]; decide) (by decide) ?_
    refine lv_aload_n hx hb dX9_count_87 rfl (lv_at hl 0 rfl) ?_
    refine va_get (D := D) (ci := 7) (v := .ref q_laid) (C := RX9) (T := TX9) (N := 7) hx hb hts i_X9 hown hK hP 0 rfl rfl 5 (by decide) k_49 (fun _ h9 => h9) rfl dX9_count_88 ?_
    refine lv_iconst (v := (nI 0)) hx hb dX9_count_91 (by decide) ?_
    obtain ⟨r_19, hg_20, h⟩ := bd1_el h
    refine kx_Vi (As := [.int (nI 0)]) (rest := []) (wr := [(q_this, .inr (7, [.ref q_text, .ref q_item, .ref q_stands, .ref q_crowd, .ref q_measure, .ref q_laid, .ref q_tried])), (q_text, .inr (6, [.ref q_text_bytes, .int v_text_length])), (q_stands, .inr (5, [.ref q_stands_others, .ref q_stands_keptOthers, .int v_stands_kept])), (q_laid_words, .inl (ca 0, 16, .inl v_laid_words)), (q_laid_needs, .inr (4, [.ref q_laid_needs_joinedMeaning, .ref q_laid_needs_joinedPair, .int v_laid_needs_joinedTold, .int v_laid_needs_needsTold, .int v_laid_needs_needed]))]) (w1 := [(q_laid, .inr (0, [.ref q_laid_words, .ref q_laid_heard, .ref q_laid_canSay, .ref q_laid_instead, .ref q_laid_traders, .ref q_laid_takes, .ref q_laid_needs, .int v_laid_speaks, .int v_laid_alikeFrom])), (q_laid_traders, .inl (ca 0, 2, .inl v_laid_traders))]) (wn := [(q_this, .inr (7, [.ref q_text, .ref q_item, .ref q_stands, .ref q_crowd, .ref q_measure, .ref q_laid, .ref q_tried])), (q_text, .inr (6, [.ref q_text_bytes, .int v_text_length])), (q_stands, .inr (5, [.ref q_stands_others, .ref q_stands_keptOthers, .int v_stands_kept])), (q_laid, .inr (0, [.ref q_laid_words, .ref q_laid_heard, .ref q_laid_canSay, .ref q_laid_instead, .ref q_laid_traders, .ref q_laid_takes, .ref q_laid_needs, .int v_laid_speaks, .int v_laid_alikeFrom])), (q_laid_words, .inl (ca 0, 16, .inl v_laid_words)), (q_laid_traders, .inl (ca 0, 2, .inl v_laid_traders)), (q_laid_needs, .inr (4, [.ref q_laid_needs_joinedMeaning, .ref q_laid_needs_joinedPair, .int v_laid_needs_joinedTold, .int v_laid_needs_needsTold, .int v_laid_needs_needed]))]) ⟨hx, hb, hml, hown, hts⟩ (c_X0_tradersOf l D ca s.heap.size q_laid q_laid_words q_laid_heard q_laid_canSay q_laid_instead q_laid_traders q_laid_takes q_laid_needs (nI 0) v_laid_speaks v_laid_alikeFrom v_laid_traders r_19 hg_20) (cwV 1 hts gX9_count_X0_tradersOf rfl rfl rfl (by decide +kernel) ⟨(Nat.le_of_ble_eq_true rfl), (Nat.le_of_ble_eq_true rfl)⟩) hK hP hD hS hA (ci := 0) (q0 := 0) rfl rfl [3, 5] [0, 1, 2, 4, 6] [0, 1, 2, 5, 3, 6, 4] rfl rfl rfl rfl (by decide) rfl rfl rfl hl.1 rfl (Nat.le_of_ble_eq_true rfl) dX9_count_92 ⟨Nat.zero_le _, Nat.zero_le _⟩ (fun H locs hP hD hS => ?_)
    cases h
    rw [← hQe]
    exact W.iret hx hb hr (fun t ht hW => ⟨⟨_, (), rfl, rfl, by rw [ht]; exact hP, va_K.moved hW.alike hK, hD⟩, hS.F ht⟩) hS.2.2 dX9_count_95
  replace h := ifn_el c_18 h
  by_cases c_21 : p1 = (nI 6)
  · replace h := ifp_el c_21 h
    refine lv_tableIn (off := 95) (tgt := 96) hx hb dX9_count_1 (by rw [c_21]; decide) (by rw [c_21]; decide) (by rw [c_21]; decide) (by decide) ?_
    refine lv_aload_n hx hb dX9_count_96 rfl (lv_at hl 0 rfl) ?_
    refine va_get (D := D) (ci := 7) (v := .ref q_laid) (C := RX9) (T := TX9) (N := 7) hx hb hts i_X9 hown hK hP 0 rfl rfl 5 (by decide) k_49 (fun _ h9 => h9) rfl dX9_count_97 ?_
    refine lv_iconst (v := (nI 1)) hx hb dX9_count_100 (by decide) ?_
    obtain ⟨r_22, hg_23, h⟩ := bd1_el h
    refine kx_Vi (As := [.int (nI 1)]) (rest := []) (wr := [(q_this, .inr (7, [.ref q_text, .ref q_item, .ref q_stands, .ref q_crowd, .ref q_measure, .ref q_laid, .ref q_tried])), (q_text, .inr (6, [.ref q_text_bytes, .int v_text_length])), (q_stands, .inr (5, [.ref q_stands_others, .ref q_stands_keptOthers, .int v_stands_kept])), (q_laid_words, .inl (ca 0, 16, .inl v_laid_words)), (q_laid_needs, .inr (4, [.ref q_laid_needs_joinedMeaning, .ref q_laid_needs_joinedPair, .int v_laid_needs_joinedTold, .int v_laid_needs_needsTold, .int v_laid_needs_needed]))]) (w1 := [(q_laid, .inr (0, [.ref q_laid_words, .ref q_laid_heard, .ref q_laid_canSay, .ref q_laid_instead, .ref q_laid_traders, .ref q_laid_takes, .ref q_laid_needs, .int v_laid_speaks, .int v_laid_alikeFrom])), (q_laid_traders, .inl (ca 0, 2, .inl v_laid_traders))]) (wn := [(q_this, .inr (7, [.ref q_text, .ref q_item, .ref q_stands, .ref q_crowd, .ref q_measure, .ref q_laid, .ref q_tried])), (q_text, .inr (6, [.ref q_text_bytes, .int v_text_length])), (q_stands, .inr (5, [.ref q_stands_others, .ref q_stands_keptOthers, .int v_stands_kept])), (q_laid, .inr (0, [.ref q_laid_words, .ref q_laid_heard, .ref q_laid_canSay, .ref q_laid_instead, .ref q_laid_traders, .ref q_laid_takes, .ref q_laid_needs, .int v_laid_speaks, .int v_laid_alikeFrom])), (q_laid_words, .inl (ca 0, 16, .inl v_laid_words)), (q_laid_traders, .inl (ca 0, 2, .inl v_laid_traders)), (q_laid_needs, .inr (4, [.ref q_laid_needs_joinedMeaning, .ref q_laid_needs_joinedPair, .int v_laid_needs_joinedTold, .int v_laid_needs_needsTold, .int v_laid_needs_needed]))]) ⟨hx, hb, hml, hown, hts⟩ (c_X0_tradersOf l D ca s.heap.size q_laid q_laid_words q_laid_heard q_laid_canSay q_laid_instead q_laid_traders q_laid_takes q_laid_needs (nI 1) v_laid_speaks v_laid_alikeFrom v_laid_traders r_22 hg_23) (cwV 1 hts gX9_count_X0_tradersOf rfl rfl rfl (by decide +kernel) ⟨(Nat.le_of_ble_eq_true rfl), (Nat.le_of_ble_eq_true rfl)⟩) hK hP hD hS hA (ci := 0) (q0 := 0) rfl rfl [3, 5] [0, 1, 2, 4, 6] [0, 1, 2, 5, 3, 6, 4] rfl rfl rfl rfl (by decide) rfl rfl rfl hl.1 rfl (Nat.le_of_ble_eq_true rfl) dX9_count_101 ⟨Nat.zero_le _, Nat.zero_le _⟩ (fun H locs hP hD hS => ?_)
    cases h
    rw [← hQe]
    exact W.iret hx hb hr (fun t ht hW => ⟨⟨_, (), rfl, rfl, by rw [ht]; exact hP, va_K.moved hW.alike hK, hD⟩, hS.F ht⟩) hS.2.2 dX9_count_104
  replace h := ifn_el c_21 h
  have hdf : W p l e (headSpec wsX9_count rm_X9_count).room s m args below meth c s.heap [] 0 0 Q (F0 m 105 ls []) := by
    refine lv_iconst (v := (-1 : Int32)) hx hb dX9_count_105 (by decide) ?_
    cases h
    rw [← hQe]
    exact W.iret hx hb hr (fun t ht hW => ⟨⟨_, (), rfl, rfl, by rw [ht]; exact hP, va_K.moved hW.alike hK, hD⟩, hS.F ht⟩) hS.2.2 dX9_count_106
  by_cases c_24 : (p1).toInt < 0 ∨ 6 < (p1).toInt
  · exact lv_tableOut hx hb dX9_count_1 c_24 (by decide) hdf
  have n_c_1 := lv_neT (a := 0) c_1 (by decide)
  have n_c_4 := lv_neT (a := 1) c_4 (by decide)
  have n_c_7 := lv_neT (a := 2) c_7 (by decide)
  have n_c_11 := lv_neT (a := 3) c_11 (by decide)
  have n_c_15 := lv_neT (a := 4) c_15 (by decide)
  have n_c_18 := lv_neT (a := 5) c_18 (by decide)
  have n_c_21 := lv_neT (a := 6) c_21 (by decide)
  omega
def D_X10_in (p1 : Int64) (p2 : Int64) (p3 : Int64) : Option (Int32) := (if (lg_cmp p1 p2) < 0 then some ((nI 0)) else (if 0 < (lg_cmp p1 p3) then some ((nI 0)) else some ((nI 1))))
abbrev rm_X10_in : Room := { frames := 0, cells := 0, slots := 0, locals := 0 }
set_option maxHeartbeats 4000000 in
set_option maxRecDepth 100000 in
theorem c_X10_in (l : Launch) (D : va_G) (ca : Nat → ClassId) (sz : Nat) (p1 : Int64) (p2 : Int64) (p3 : Int64) (r : Int32) (h : D_X10_in p1 p2 p3 = some (r)) : Met l yX10_in wsX10_in rm_X10_in (va_Pc [.long p1, .long p2, .long p3] (kPre D ca [] sz)) (kQi D ca (va_A [] sz) [] r) 0 0 (va_A [] sz) := by
  refine Met.ofW (cc := cX10_in) (maxL := 6) (ret := (some .boolean)) (by decide +kernel) rfl ?_
  intro p e s m args below meth c s₁ B hml hv
  obtain ⟨rfl, hsz, hP, hK, hD0⟩ := hv
  have hx := B.exec
  have hb := B.bytes
  have hr := B.returns
  have hts := atoms_spec (ws := wsX10_in) B.pre
  have hown : s.vm.findClass RX10 = some m.cls := findClass_of_methodNamed B.named
  have hlocks := B.notSynchronized
  clear B
  subst hsz
  have hD := hD0.self (sz := s.heap.size)
  generalize hAe : va_A [] s.heap.size = A at hD ⊢
  have hA : ∀ q : Nat, s.heap.size ≤ q → A q := fun q h => by rw [← hAe]; exact Or.inr h
  have hS : va_S A s.heap s.heap [] := va_S.rf
  have hl := lv_entry ([.long p1, .long p2, .long p3]) (n := 6) (Nat.le_of_ble_eq_true rfl)
  rw [lg_entry_eq]
  generalize (lg_sl ([.long p1, .long p2, .long p3]) ++ List.replicate (6 - (lg_sl ([.long p1, .long p2, .long p3])).length) Slot.unset).toArray = ls at hl ⊢
  have hl : lv_has ls 6 [(0, .long p1), (2, .long p2), (4, .long p3)] := hl
  generalize ([.long p1, .long p2, .long p3] : List Value).toArray = args at hts ⊢
  generalize hQe : MQ below (kQi D ca (A) [] r) args s 0 0 A = Q
  rw [D_X10_in] at h
  refine lv_lload_n hx hb dX10_in_0 rfl (lv_at hl 0 rfl) ?_
  refine lv_lload_n hx hb dX10_in_1 rfl (lv_at hl 1 rfl) ?_
  refine W.lcmp hx hb dX10_in_2 ?_
  refine lv_if_lt (tgt := 17) hx hb dX10_in_3 (by decide) (fun c_1 => ?_) (fun c_1 => ?_)
  · replace h := ifp_el c_1 h
    refine lv_iconst (v := (nI 0)) hx hb dX10_in_17 (by decide) ?_
    cases h
    rw [← hQe]
    exact W.zret hx hb hr rfl (fun t ht hW => ⟨⟨_, (), rfl, rfl, by rw [ht]; exact hP, va_K.moved hW.alike hK, hD⟩, hS.F ht⟩) hS.2.2 dX10_in_18
  · replace h := ifn_el c_1 h
    refine lv_lload_n hx hb dX10_in_6 rfl (lv_at hl 0 rfl) ?_
    refine lv_lload hx hb dX10_in_7 (lv_at hl 2 rfl) ?_
    refine W.lcmp hx hb dX10_in_9 ?_
    refine lv_if_gt (tgt := 17) hx hb dX10_in_10 (by decide) (fun c_2 => ?_) (fun c_2 => ?_)
    · replace h := ifp_el c_2 h
      refine lv_iconst (v := (nI 0)) hx hb dX10_in_17 (by decide) ?_
      cases h
      rw [← hQe]
      exact W.zret hx hb hr rfl (fun t ht hW => ⟨⟨_, (), rfl, rfl, by rw [ht]; exact hP, va_K.moved hW.alike hK, hD⟩, hS.F ht⟩) hS.2.2 dX10_in_18
    · replace h := ifn_el c_2 h
      refine lv_iconst (v := (nI 1)) hx hb dX10_in_13 (by decide) ?_
      refine lv_goto (tgt := 18) hx hb dX10_in_14 (by decide) ?_
      cases h
      rw [← hQe]
      exact W.zret hx hb hr rfl (fun t ht hW => ⟨⟨_, (), rfl, rfl, by rw [ht]; exact hP, va_K.moved hW.alike hK, hD⟩, hS.F ht⟩) hS.2.2 dX10_in_18
def D_X10_has (p1 : Int32) (p2 : Int32) : Option (Int32) := (if ((p1 >>> (p2 &&& 31)) &&& (nI 1)) = (nI 1) then some ((nI 1)) else some ((nI 0)))
abbrev rm_X10_has : Room := { frames := 0, cells := 0, slots := 0, locals := 0 }
set_option maxHeartbeats 4000000 in
set_option maxRecDepth 100000 in
theorem c_X10_has (l : Launch) (D : va_G) (ca : Nat → ClassId) (sz : Nat) (p1 : Int32) (p2 : Int32) (r : Int32) (h : D_X10_has p1 p2 = some (r)) : Met l yX10_has wsX10_has rm_X10_has (va_Pc [.int p1, .int p2] (kPre D ca [] sz)) (kQi D ca (va_A [] sz) [] r) 0 0 (va_A [] sz) := by
  refine Met.ofW (cc := cX10_has) (maxL := 2) (ret := (some .boolean)) (by decide +kernel) rfl ?_
  intro p e s m args below meth c s₁ B hml hv
  obtain ⟨rfl, hsz, hP, hK, hD0⟩ := hv
  have hx := B.exec
  have hb := B.bytes
  have hr := B.returns
  have hts := atoms_spec (ws := wsX10_has) B.pre
  have hown : s.vm.findClass RX10 = some m.cls := findClass_of_methodNamed B.named
  have hlocks := B.notSynchronized
  clear B
  subst hsz
  have hD := hD0.self (sz := s.heap.size)
  generalize hAe : va_A [] s.heap.size = A at hD ⊢
  have hA : ∀ q : Nat, s.heap.size ≤ q → A q := fun q h => by rw [← hAe]; exact Or.inr h
  have hS : va_S A s.heap s.heap [] := va_S.rf
  have hl := lv_entry ([.int p1, .int p2]) (n := 2) (Nat.le_of_ble_eq_true rfl)
  rw [lg_entry_eq]
  generalize (lg_sl ([.int p1, .int p2]) ++ List.replicate (2 - (lg_sl ([.int p1, .int p2])).length) Slot.unset).toArray = ls at hl ⊢
  have hl : lv_has ls 2 [(0, .int p1), (1, .int p2)] := hl
  generalize ([.int p1, .int p2] : List Value).toArray = args at hts ⊢
  generalize hQe : MQ below (kQi D ca (A) [] r) args s 0 0 A = Q
  rw [D_X10_has] at h
  refine lv_iload_n hx hb dX10_has_0 rfl (lv_at hl 0 rfl) ?_
  refine lv_iload_n hx hb dX10_has_1 rfl (lv_at hl 1 rfl) ?_
  refine lv_ishr hx hb dX10_has_2 ?_
  refine lv_iconst (v := (nI 1)) hx hb dX10_has_3 (by decide) ?_
  refine lv_iand hx hb dX10_has_4 ?_
  refine lv_iconst (v := (nI 1)) hx hb dX10_has_5 (by decide) ?_
  refine lv_icmp_ne (tgt := 13) hx hb dX10_has_6 (by decide) (fun c_1 => ?_) (fun c_1 => ?_)
  · replace h := ifn_el c_1 h
    refine lv_iconst (v := (nI 0)) hx hb dX10_has_13 (by decide) ?_
    cases h
    rw [← hQe]
    exact W.zret hx hb hr rfl (fun t ht hW => ⟨⟨_, (), rfl, rfl, by rw [ht]; exact hP, va_K.moved hW.alike hK, hD⟩, hS.F ht⟩) hS.2.2 dX10_has_14
  · replace h := ifp_el c_1 h
    refine lv_iconst (v := (nI 1)) hx hb dX10_has_9 (by decide) ?_
    refine lv_goto (tgt := 14) hx hb dX10_has_10 (by decide) ?_
    cases h
    rw [← hQe]
    exact W.zret hx hb hr rfl (fun t ht hW => ⟨⟨_, (), rfl, rfl, by rw [ht]; exact hP, va_K.moved hW.alike hK, hD⟩, hS.F ht⟩) hS.2.2 dX10_has_14
