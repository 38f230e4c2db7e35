def D_X2_readTold (F : Nat) (v_place : Int32) (v_letter : Int32) (v_word : Int32) (v_bits : Int32) (v_text_length : Int32) (v_text_bytes : Nat → Int32) (v_numbers : Nat → Int32) : Option (Int32 × Int32 × Int32 × Int32 × (Nat → Int32)) := (if v_letter = (nI 101) then bd3 (D_X2_readNumbers (nI 2) (nI 7) v_place v_text_length v_text_bytes v_numbers) (fun r_2 y_place_3 y_numbers_4 => (if r_2 = 0 then some ((nI 0), y_place_3, v_word, v_bits, y_numbers_4) else bd2 (D_X2_passes (nI 44) y_place_3 v_text_length v_text_bytes) (fun r_7 y_place_8 => (if r_7 = 0 then some ((nI 0), y_place_8, v_word, v_bits, y_numbers_4) else bd3 (D_X2_readWord F y_place_8 v_word v_text_length v_text_bytes) (fun r_11 y_place_12 y_word_13 => (if r_11 = 0 then some ((nI 0), y_place_12, y_word_13, v_bits, y_numbers_4) else some ((nI 1), y_place_12, y_word_13, v_bits, y_numbers_4))))))) else (if v_letter = (nI 103) then bd3 (D_X2_readNumber (nI 0) (nI 1) (nI 99) v_place v_text_length v_text_bytes v_numbers) (fun r_17 y_place_18 y_numbers_19 => cz r_17 (some (r_17, y_place_18, v_word, v_bits, y_numbers_19))) else (if v_letter = (nI 106) then bd3 (D_X2_readJoined v_place v_text_length v_text_bytes v_numbers) (fun r_22 y_place_23 y_numbers_24 => cz r_22 (some (r_22, y_place_23, v_word, v_bits, y_numbers_24))) else (if v_letter = (nI 107) then bd3 (D_X2_readNumbers (nI 10) (nI 10) v_place v_text_length v_text_bytes v_numbers) (fun r_27 y_place_28 y_numbers_29 => cz r_27 (some (r_27, y_place_28, v_word, v_bits, y_numbers_29))) else (if v_letter = (nI 110) then bd3 (D_X2_readNumber (nI 0) (nI 1) (nI 8) v_place v_text_length v_text_bytes v_numbers) (fun r_32 y_place_33 y_numbers_34 => (if r_32 = 0 then some ((nI 0), y_place_33, v_word, v_bits, y_numbers_34) else bd2 (D_X2_passes (nI 44) y_place_33 v_text_length v_text_bytes) (fun r_37 y_place_38 => (if r_37 = 0 then some ((nI 0), y_place_38, v_word, v_bits, y_numbers_34) else bd3 (D_X2_readNumber (nI 1) (nI 1) (nI 8) y_place_38 v_text_length v_text_bytes y_numbers_34) (fun r_41 y_place_42 y_numbers_43 => (if r_41 = 0 then some ((nI 0), y_place_42, v_word, v_bits, y_numbers_43) else some ((nI 1), y_place_42, v_word, v_bits, y_numbers_43))))))) else (if v_letter = (nI 111) then bd3 (D_X2_readNumber (nI 0) (nI 0) (nI 10) v_place v_text_length v_text_bytes v_numbers) (fun r_47 y_place_48 y_numbers_49 => cz r_47 (some (r_47, y_place_48, v_word, v_bits, y_numbers_49))) else (if v_letter = (nI 114) then bd3 (D_X2_readWord F v_place v_word v_text_length v_text_bytes) (fun r_52 y_place_53 y_word_54 => (if r_52 = 0 then some ((nI 0), y_place_53, y_word_54, v_bits, v_numbers) else bd1 (D_X8_length y_word_54) (fun r_57 => (if r_57 = (nI 2) then bd1 (D_X8_soundAt y_word_54 (nI 0)) (fun r_60 => bd1 (D_X8_soundAt y_word_54 (nI 1)) (fun r_62 => (if r_60 = r_62 then some ((nI 0), y_place_53, y_word_54, v_bits, v_numbers) else some ((nI 1), y_place_53, y_word_54, v_bits, v_numbers)))) else some ((nI 0), y_place_53, y_word_54, v_bits, v_numbers))))) else (if v_letter = (nI 115) then bd3 (D_X2_readNumber (nI 0) (nI 0) (nI 1) v_place v_text_length v_text_bytes v_numbers) (fun r_66 y_place_67 y_numbers_68 => (if r_66 = 0 then some ((nI 0), y_place_67, v_word, v_bits, y_numbers_68) else bd2 (D_X2_passes (nI 44) y_place_67 v_text_length v_text_bytes) (fun r_71 y_place_72 => (if r_71 = 0 then some ((nI 0), y_place_72, v_word, v_bits, y_numbers_68) else bd3 (D_X2_readRising F (nI 97) (nI 16) y_place_72 v_bits v_text_length v_text_bytes) (fun r_75 y_place_76 y_bits_77 => (if r_75 = 0 then some ((nI 0), y_place_76, v_word, y_bits_77, y_numbers_68) else some ((nI 1), y_place_76, v_word, y_bits_77, y_numbers_68))))))) else (if v_letter = (nI 117) then bd3 (D_X2_readRising F (nI 48) (nI 8) v_place v_bits v_text_length v_text_bytes) (fun r_81 y_place_82 y_bits_83 => cz r_81 (some (r_81, y_place_82, v_word, y_bits_83, v_numbers))) else (if v_letter = (nI 119) then bd3 (D_X2_readNumbers (nI 1) (nI 7) v_place v_text_length v_text_bytes v_numbers) (fun r_86 y_place_87 y_numbers_88 => (if r_86 = 0 then some ((nI 0), y_place_87, v_word, v_bits, y_numbers_88) else bd2 (D_X2_passes (nI 44) y_place_87 v_text_length v_text_bytes) (fun r_91 y_place_92 => (if r_91 = 0 then some ((nI 0), y_place_92, v_word, v_bits, y_numbers_88) else bd3 (D_X2_readWord F y_place_92 v_word v_text_length v_text_bytes) (fun r_95 y_place_96 y_word_97 => (if r_95 = 0 then some ((nI 0), y_place_96, y_word_97, v_bits, y_numbers_88) else some ((nI 1), y_place_96, y_word_97, v_bits, y_numbers_88))))))) else some ((nI 0), v_place, v_word, v_bits, v_numbers)))))))))))
abbrev rm_X2_readTold : Room := { frames := 3, cells := 0, slots := 0, locals := 68 }
set_option maxHeartbeats 4000000 in
set_option maxRecDepth 100000 in
theorem c_X2_readTold (l : Launch) (D : va_G) (ca : Nat → ClassId) (F : Nat) (sz : Nat) (q_this q_text q_text_bytes q_numbers : Nat) (v_place : Int32) (v_letter : Int32) (v_word : Int32) (v_bits : Int32) (v_text_length : Int32) (v_text_bytes : Nat → Int32) (v_numbers : Nat → Int32) (r : Int32) (o_place : Int32) (o_word : Int32) (o_bits : Int32) (o_numbers : Nat → Int32) (h : D_X2_readTold F v_place v_letter v_word v_bits v_text_length v_text_bytes v_numbers = some (r, o_place, o_word, o_bits, o_numbers)) : Met l yX2_readTold wsX2_readTold rm_X2_readTold (va_Pc [.ref q_this] (kPre D ca [(q_this, .inr (2, [.ref q_text, .ref q_numbers, .int v_place, .int v_letter, .int v_word, .int v_bits])), (q_text, .inr (6, [.ref q_text_bytes, .int v_text_length])), (q_text_bytes, .inl (ca 2, 500, .inl v_text_bytes)), (q_numbers, .inl (ca 0, 3, .inl v_numbers))] sz)) (kQi D ca (va_A [(q_this, .inr (2, [.ref q_text, .ref q_numbers, .int v_place, .int v_letter, .int v_word, .int v_bits])), (q_text, .inr (6, [.ref q_text_bytes, .int v_text_length])), (q_text_bytes, .inl (ca 2, 500, .inl v_text_bytes)), (q_numbers, .inl (ca 0, 3, .inl v_numbers))] sz) [(q_this, .inr (2, [.ref q_text, .ref q_numbers, .int o_place, .int v_letter, .int o_word, .int o_bits])), (q_text, .inr (6, [.ref q_text_bytes, .int v_text_length])), (q_text_bytes, .inl (ca 2, 500, .inl v_text_bytes)), (q_numbers, .inl (ca 0, 3, .inl o_numbers))] r) 0 0 (va_A [(q_this, .inr (2, [.ref q_text, .ref q_numbers, .int v_place, .int v_letter, .int v_word, .int v_bits])), (q_text, .inr (6, [.ref q_text_bytes, .int v_text_length])), (q_text_bytes, .inl (ca 2, 500, .inl v_text_bytes)), (q_numbers, .inl (ca 0, 3, .inl v_numbers))] sz) := by
  refine Met.ofW (cc := cX2_readTold) (maxL := 1) (ret := (some .boolean)) (by decide +kernel) rfl ?_
  intro p e s m args below meth c s₁ B hml hv
  obtain ⟨rfl, hsz, hP, hK, hD0⟩ := hv
  have hx := B.exec
  have hb := B.bytes
  have hr := B.returns
  have hts := atoms_spec (ws := wsX2_readTold) B.pre
  have hown : s.vm.findClass RX2 = some m.cls := findClass_of_methodNamed B.named
  have hlocks := B.notSynchronized
  clear B
  subst hsz
  have hD := hD0.self (sz := s.heap.size)
  generalize hAe : va_A [(q_this, .inr (2, [.ref q_text, .ref q_numbers, .int v_place, .int v_letter, .int v_word, .int v_bits])), (q_text, .inr (6, [.ref q_text_bytes, .int v_text_length])), (q_text_bytes, .inl (ca 2, 500, .inl v_text_bytes)), (q_numbers, .inl (ca 0, 3, .inl v_numbers))] s.heap.size = A at hD ⊢
  have hA : ∀ q : Nat, s.heap.size ≤ q → A q := fun q h => by rw [← hAe]; exact Or.inr h
  have hS : va_S A s.heap s.heap [] := va_S.rf
  have hl := lv_entry ([.ref q_this]) (n := 1) (Nat.le_of_ble_eq_true rfl)
  rw [lg_entry_eq]
  generalize (lg_sl ([.ref q_this]) ++ List.replicate (1 - (lg_sl ([.ref q_this])).length) Slot.unset).toArray = ls at hl ⊢
  have hl : lv_has ls 1 [(0, .ref q_this)] := hl
  generalize ([.ref q_this] : List Value).toArray = args at hts ⊢
  generalize hQe : MQ below (kQi D ca (A) [(q_this, .inr (2, [.ref q_text, .ref q_numbers, .int o_place, .int v_letter, .int o_word, .int o_bits])), (q_text, .inr (6, [.ref q_text_bytes, .int v_text_length])), (q_text_bytes, .inl (ca 2, 500, .inl v_text_bytes)), (q_numbers, .inl (ca 0, 3, .inl o_numbers))] r) args s 0 0 A = Q
  have i_X2 : ∀ w ∈ u_ws RX2 TX2 6, w ∈ wsX2_readTold := by decide +kernel
  have k_29 := hts (.fieldLink RX2 29 "TradeWords$Item" "letter" "I") (by decide +kernel)
  have k_45 := hts (.fieldLink RX2 45 "TradeWords$Item" "word" "I") (by decide +kernel)
  rw [D_X2_readTold] at h
  refine lv_aload_n hx hb dX2_readTold_0 rfl (lv_at hl 0 rfl) ?_
  refine va_get (D := D) (ci := 2) (v := .int v_letter) (C := RX2) (T := TX2) (N := 6) hx hb hts i_X2 hown hK hP 0 rfl rfl 3 (by decide) k_29 (fun _ h9 => h9) rfl dX2_readTold_1 ?_
  by_cases c_1 : v_letter = (nI 101)
  · replace h := ifp_el c_1 h
    refine lv_tableIn (off := 124) (tgt := 128) hx hb dX2_readTold_4 (by rw [c_1]; decide) (by rw [c_1]; decide) (by rw [c_1]; decide) (by decide) ?_
    refine lv_aload_n hx hb dX2_readTold_128 rfl (lv_at hl 0 rfl) ?_
    refine lv_iconst (v := (nI 2)) hx hb dX2_readTold_129 (by decide) ?_
    refine lv_bipush (v := (nI 7)) hx hb dX2_readTold_130 (by decide) ?_
    obtain ⟨r_2, y_place_3, y_numbers_4, hg_5, h⟩ := bd3_el h
    refine kx_Vi (As := [.int (nI 2), .int (nI 7)]) (rest := []) (wr := []) (w1 := [(q_this, .inr (2, [.ref q_text, .ref q_numbers, .int y_place_3, .int v_letter, .int v_word, .int v_bits])), (q_text, .inr (6, [.ref q_text_bytes, .int v_text_length])), (q_text_bytes, .inl (ca 2, 500, .inl v_text_bytes)), (q_numbers, .inl (ca 0, 3, .inl y_numbers_4))]) (wn := [(q_this, .inr (2, [.ref q_text, .ref q_numbers, .int y_place_3, .int v_letter, .int v_word, .int v_bits])), (q_text, .inr (6, [.ref q_text_bytes, .int v_text_length])), (q_text_bytes, .inl (ca 2, 500, .inl v_text_bytes)), (q_numbers, .inl (ca 0, 3, .inl y_numbers_4))]) ⟨hx, hb, hml, hown, hts⟩ (c_X2_readNumbers l D ca s.heap.size q_this q_text q_text_bytes q_numbers (nI 2) (nI 7) v_place v_letter v_word v_bits v_text_length v_text_bytes v_numbers r_2 y_place_3 y_numbers_4 hg_5) (cwV 2 hts gX2_readTold_X2_readNumbers rfl rfl rfl (by decide +kernel) ⟨(Nat.le_of_ble_eq_true rfl), (Nat.le_of_ble_eq_true rfl)⟩) hK hP hD hS hA (ci := 2) (q0 := 0) rfl rfl [0, 1, 2, 3] [] [0, 1, 2, 3] rfl rfl rfl rfl (by decide) rfl rfl rfl hl.1 rfl (Nat.le_of_ble_eq_true rfl) dX2_readTold_132 ⟨Nat.zero_le _, Nat.zero_le _⟩ (fun H locs hP hD hS => ?_)
    refine lv_if_eq (tgt := 158) hx hb dX2_readTold_135 (by decide) (fun c_6 => ?_) (fun c_6 => ?_)
    · replace h := ifp_el c_6 h
      refine lv_iconst (v := (nI 0)) hx hb dX2_readTold_158 (by decide) ?_
      cases h
      rw [← hQe]
      exact W.zret hx hb hr rfl (fun t ht hW => ⟨⟨_, (), rfl, rfl, by rw [ht]; exact hP, va_K.moved hW.alike hK, hD⟩, hS.F ht⟩) hS.2.2 dX2_readTold_159
    · replace h := ifn_el c_6 h
      refine lv_aload_n hx hb dX2_readTold_138 rfl (lv_at hl 0 rfl) ?_
      refine lv_bipush (v := (nI 44)) hx hb dX2_readTold_139 (by decide) ?_
      obtain ⟨r_7, y_place_8, hg_9, h⟩ := bd2_el h
      refine kx_Vi (As := [.int (nI 44)]) (rest := []) (wr := [(q_numbers, .inl (ca 0, 3, .inl y_numbers_4))]) (w1 := [(q_this, .inr (2, [.ref q_text, .ref q_numbers, .int y_place_8, .int v_letter, .int v_word, .int v_bits])), (q_text, .inr (6, [.ref q_text_bytes, .int v_text_length])), (q_text_bytes, .inl (ca 2, 500, .inl v_text_bytes))]) (wn := [(q_this, .inr (2, [.ref q_text, .ref q_numbers, .int y_place_8, .int v_letter, .int v_word, .int v_bits])), (q_text, .inr (6, [.ref q_text_bytes, .int v_text_length])), (q_text_bytes, .inl (ca 2, 500, .inl v_text_bytes)), (q_numbers, .inl (ca 0, 3, .inl y_numbers_4))]) ⟨hx, hb, hml, hown, hts⟩ (c_X2_passes l D ca H.size q_this q_text q_text_bytes q_numbers (nI 44) y_place_3 v_letter v_word v_bits v_text_length v_text_bytes r_7 y_place_8 hg_9) (cwV 1 hts gX2_readTold_X2_passes rfl rfl rfl (by decide +kernel) ⟨(Nat.le_of_ble_eq_true rfl), (Nat.le_of_ble_eq_true rfl)⟩) hK hP hD hS hA (ci := 2) (q0 := 0) rfl rfl [0, 1, 2] [3] [1, 2, 3, 0] rfl rfl rfl rfl (by decide) rfl rfl rfl hl.1 rfl (Nat.le_of_ble_eq_true rfl) dX2_readTold_141 ⟨Nat.zero_le _, Nat.zero_le _⟩ (fun H locs hP hD hS => ?_)
      refine lv_if_eq (tgt := 158) hx hb dX2_readTold_144 (by decide) (fun c_10 => ?_) (fun c_10 => ?_)
      · replace h := ifp_el c_10 h
        refine lv_iconst (v := (nI 0)) hx hb dX2_readTold_158 (by decide) ?_
        cases h
        rw [← hQe]
        exact W.zret hx hb hr rfl (fun t ht hW => ⟨⟨_, (), rfl, rfl, by rw [ht]; exact hP, va_K.moved hW.alike hK, hD⟩, hS.F ht⟩) hS.2.2 dX2_readTold_159
      · replace h := ifn_el c_10 h
        refine lv_aload_n hx hb dX2_readTold_147 rfl (lv_at hl 0 rfl) ?_
        obtain ⟨r_11, y_place_12, y_word_13, hg_14, h⟩ := bd3_el h
        refine kx_Vi (As := []) (rest := []) (wr := [(q_numbers, .inl (ca 0, 3, .inl y_numbers_4))]) (w1 := [(q_this, .inr (2, [.ref q_text, .ref q_numbers, .int y_place_12, .int v_letter, .int y_word_13, .int v_bits])), (q_text, .inr (6, [.ref q_text_bytes, .int v_text_length])), (q_text_bytes, .inl (ca 2, 500, .inl v_text_bytes))]) (wn := [(q_this, .inr (2, [.ref q_text, .ref q_numbers, .int y_place_12, .int v_letter, .int y_word_13, .int v_bits])), (q_text, .inr (6, [.ref q_text_bytes, .int v_text_length])), (q_text_bytes, .inl (ca 2, 500, .inl v_text_bytes)), (q_numbers, .inl (ca 0, 3, .inl y_numbers_4))]) ⟨hx, hb, hml, hown, hts⟩ (c_X2_readWord l D ca F H.size q_this q_text q_text_bytes q_numbers y_place_8 v_letter v_word v_bits v_text_length v_text_bytes r_11 y_place_12 y_word_13 hg_14) (cwV 0 hts gX2_readTold_X2_readWord rfl rfl rfl (by decide +kernel) ⟨(Nat.le_of_ble_eq_true rfl), (Nat.le_of_ble_eq_true rfl)⟩) hK hP hD hS hA (ci := 2) (q0 := 0) rfl rfl [0, 1, 2] [3] [1, 2, 3, 0] rfl rfl rfl rfl (by decide) rfl rfl rfl hl.1 rfl (Nat.le_of_ble_eq_true rfl) dX2_readTold_148 ⟨Nat.zero_le _, Nat.zero_le _⟩ (fun H locs hP hD hS => ?_)
        refine lv_if_eq (tgt := 158) hx hb dX2_readTold_151 (by decide) (fun c_15 => ?_) (fun c_15 => ?_)
        · replace h := ifp_el c_15 h
          refine lv_iconst (v := (nI 0)) hx hb dX2_readTold_158 (by decide) ?_
          cases h
          rw [← hQe]
          exact W.zret hx hb hr rfl (fun t ht hW => ⟨⟨_, (), rfl, rfl, by rw [ht]; exact hP, va_K.moved hW.alike hK, hD⟩, hS.F ht⟩) hS.2.2 dX2_readTold_159
        · replace h := ifn_el c_15 h
          refine lv_iconst (v := (nI 1)) hx hb dX2_readTold_154 (by decide) ?_
          refine lv_goto (tgt := 159) hx hb dX2_readTold_155 (by decide) ?_
          cases h
          rw [← hQe]
          exact W.zret hx hb hr rfl (fun t ht hW => ⟨⟨_, (), rfl, rfl, by rw [ht]; exact hP, va_K.moved hW.alike hK, hD⟩, hS.F ht⟩) hS.2.2 dX2_readTold_159
  replace h := ifn_el c_1 h
  by_cases c_16 : v_letter = (nI 103)
  · replace h := ifp_el c_16 h
    refine lv_tableIn (off := 290) (tgt := 294) hx hb dX2_readTold_4 (by rw [c_16]; decide) (by rw [c_16]; decide) (by rw [c_16]; decide) (by decide) ?_
    refine lv_aload_n hx hb dX2_readTold_294 rfl (lv_at hl 0 rfl) ?_
    refine lv_iconst (v := (nI 0)) hx hb dX2_readTold_295 (by decide) ?_
    refine lv_iconst (v := (nI 1)) hx hb dX2_readTold_296 (by decide) ?_
    refine lv_bipush (v := (nI 99)) hx hb dX2_readTold_297 (by decide) ?_
    obtain ⟨r_17, y_place_18, y_numbers_19, hg_20, h⟩ := bd3_el h
    refine kx_Vi (As := [.int (nI 0), .int (nI 1), .int (nI 99)]) (rest := []) (wr := []) (w1 := [(q_this, .inr (2, [.ref q_text, .ref q_numbers, .int y_place_18, .int v_letter, .int v_word, .int v_bits])), (q_text, .inr (6, [.ref q_text_bytes, .int v_text_length])), (q_text_bytes, .inl (ca 2, 500, .inl v_text_bytes)), (q_numbers, .inl (ca 0, 3, .inl y_numbers_19))]) (wn := [(q_this, .inr (2, [.ref q_text, .ref q_numbers, .int y_place_18, .int v_letter, .int v_word, .int v_bits])), (q_text, .inr (6, [.ref q_text_bytes, .int v_text_length])), (q_text_bytes, .inl (ca 2, 500, .inl v_text_bytes)), (q_numbers, .inl (ca 0, 3, .inl y_numbers_19))]) ⟨hx, hb, hml, hown, hts⟩ (c_X2_readNumber l D ca s.heap.size q_this q_text q_text_bytes q_numbers (nI 0) (nI 1) (nI 99) v_place v_letter v_word v_bits v_text_length v_text_bytes v_numbers r_17 y_place_18 y_numbers_19 hg_20) (cwV 3 hts gX2_readTold_X2_readNumber rfl rfl rfl (by decide +kernel) ⟨(Nat.le_of_ble_eq_true rfl), (Nat.le_of_ble_eq_true rfl)⟩) hK hP hD hS hA (ci := 2) (q0 := 0) rfl rfl [0, 1, 2, 3] [] [0, 1, 2, 3] rfl rfl rfl rfl (by decide) rfl rfl rfl hl.1 rfl (Nat.le_of_ble_eq_true rfl) dX2_readTold_299 ⟨Nat.zero_le _, Nat.zero_le _⟩ (fun H locs hP hD hS => ?_)
    obtain ⟨hz, h⟩ := cz_el h
    cases h
    rw [← hQe]
    exact W.zret hx hb hr hz (fun t ht hW => ⟨⟨_, (), rfl, rfl, by rw [ht]; exact hP, va_K.moved hW.alike hK, hD⟩, hS.F ht⟩) hS.2.2 dX2_readTold_302
  replace h := ifn_el c_16 h
  by_cases c_21 : v_letter = (nI 106)
  · replace h := ifp_el c_21 h
    refine lv_tableIn (off := 299) (tgt := 303) hx hb dX2_readTold_4 (by rw [c_21]; decide) (by rw [c_21]; decide) (by rw [c_21]; decide) (by decide) ?_
    refine lv_aload_n hx hb dX2_readTold_303 rfl (lv_at hl 0 rfl) ?_
    obtain ⟨r_22, y_place_23, y_numbers_24, hg_25, h⟩ := bd3_el h
    refine kx_Vi (As := []) (rest := []) (wr := []) (w1 := [(q_this, .inr (2, [.ref q_text, .ref q_numbers, .int y_place_23, .int v_letter, .int v_word, .int v_bits])), (q_text, .inr (6, [.ref q_text_bytes, .int v_text_length])), (q_text_bytes, .inl (ca 2, 500, .inl v_text_bytes)), (q_numbers, .inl (ca 0, 3, .inl y_numbers_24))]) (wn := [(q_this, .inr (2, [.ref q_text, .ref q_numbers, .int y_place_23, .int v_letter, .int v_word, .int v_bits])), (q_text, .inr (6, [.ref q_text_bytes, .int v_text_length])), (q_text_bytes, .inl (ca 2, 500, .inl v_text_bytes)), (q_numbers, .inl (ca 0, 3, .inl y_numbers_24))]) ⟨hx, hb, hml, hown, hts⟩ (c_X2_readJoined l D ca s.heap.size q_this q_text q_text_bytes q_numbers v_place v_letter v_word v_bits v_text_length v_text_bytes v_numbers r_22 y_place_23 y_numbers_24 hg_25) (cwV 0 hts gX2_readTold_X2_readJoined rfl rfl rfl (by decide +kernel) ⟨(Nat.le_of_ble_eq_true rfl), (Nat.le_of_ble_eq_true rfl)⟩) hK hP hD hS hA (ci := 2) (q0 := 0) rfl rfl [0, 1, 2, 3] [] [0, 1, 2, 3] rfl rfl rfl rfl (by decide) rfl rfl rfl hl.1 rfl (Nat.le_of_ble_eq_true rfl) dX2_readTold_304 ⟨Nat.zero_le _, Nat.zero_le _⟩ (fun H locs hP hD hS => ?_)
    obtain ⟨hz, h⟩ := cz_el h
    cases h
    rw [← hQe]
    exact W.zret hx hb hr hz (fun t ht hW => ⟨⟨_, (), rfl, rfl, by rw [ht]; exact hP, va_K.moved hW.alike hK, hD⟩, hS.F ht⟩) hS.2.2 dX2_readTold_307
  replace h := ifn_el c_21 h
  by_cases c_26 : v_letter = (nI 107)
  · replace h := ifp_el c_26 h
    refine lv_tableIn (off := 272) (tgt := 276) hx hb dX2_readTold_4 (by rw [c_26]; decide) (by rw [c_26]; decide) (by rw [c_26]; decide) (by decide) ?_
    refine lv_aload_n hx hb dX2_readTold_276 rfl (lv_at hl 0 rfl) ?_
    refine lv_bipush (v := (nI 10)) hx hb dX2_readTold_277 (by decide) ?_
    refine lv_bipush (v := (nI 10)) hx hb dX2_readTold_279 (by decide) ?_
    obtain ⟨r_27, y_place_28, y_numbers_29, hg_30, h⟩ := bd3_el h
    refine kx_Vi (As := [.int (nI 10), .int (nI 10)]) (rest := []) (wr := []) (w1 := [(q_this, .inr (2, [.ref q_text, .ref q_numbers, .int y_place_28, .int v_letter, .int v_word, .int v_bits])), (q_text, .inr (6, [.ref q_text_bytes, .int v_text_length])), (q_text_bytes, .inl (ca 2, 500, .inl v_text_bytes)), (q_numbers, .inl (ca 0, 3, .inl y_numbers_29))]) (wn := [(q_this, .inr (2, [.ref q_text, .ref q_numbers, .int y_place_28, .int v_letter, .int v_word, .int v_bits])), (q_text, .inr (6, [.ref q_text_bytes, .int v_text_length])), (q_text_bytes, .inl (ca 2, 500, .inl v_text_bytes)), (q_numbers, .inl (ca 0, 3, .inl y_numbers_29))]) ⟨hx, hb, hml, hown, hts⟩ (c_X2_readNumbers l D ca s.heap.size q_this q_text q_text_bytes q_numbers (nI 10) (nI 10) v_place v_letter v_word v_bits v_text_length v_text_bytes v_numbers r_27 y_place_28 y_numbers_29 hg_30) (cwV 2 hts gX2_readTold_X2_readNumbers rfl rfl rfl (by decide +kernel) ⟨(Nat.le_of_ble_eq_true rfl), (Nat.le_of_ble_eq_true rfl)⟩) hK hP hD hS hA (ci := 2) (q0 := 0) rfl rfl [0, 1, 2, 3] [] [0, 1, 2, 3] rfl rfl rfl rfl (by decide) rfl rfl rfl hl.1 rfl (Nat.le_of_ble_eq_true rfl) dX2_readTold_281 ⟨Nat.zero_le _, Nat.zero_le _⟩ (fun H locs hP hD hS => ?_)
    obtain ⟨hz, h⟩ := cz_el h
    cases h
    rw [← hQe]
    exact W.zret hx hb hr hz (fun t ht hW => ⟨⟨_, (), rfl, rfl, by rw [ht]; exact hP, va_K.moved hW.alike hK, hD⟩, hS.F ht⟩) hS.2.2 dX2_readTold_284
  replace h := ifn_el c_26 h
  by_cases c_31 : v_letter = (nI 110)
  · replace h := ifp_el c_31 h
    refine lv_tableIn (off := 235) (tgt := 239) hx hb dX2_readTold_4 (by rw [c_31]; decide) (by rw [c_31]; decide) (by rw [c_31]; decide) (by decide) ?_
    refine lv_aload_n hx hb dX2_readTold_239 rfl (lv_at hl 0 rfl) ?_
    refine lv_iconst (v := (nI 0)) hx hb dX2_readTold_240 (by decide) ?_
    refine lv_iconst (v := (nI 1)) hx hb dX2_readTold_241 (by decide) ?_
    refine lv_bipush (v := (nI 8)) hx hb dX2_readTold_242 (by decide) ?_
    obtain ⟨r_32, y_place_33, y_numbers_34, hg_35, h⟩ := bd3_el h
    refine kx_Vi (As := [.int (nI 0), .int (nI 1), .int (nI 8)]) (rest := []) (wr := []) (w1 := [(q_this, .inr (2, [.ref q_text, .ref q_numbers, .int y_place_33, .int v_letter, .int v_word, .int v_bits])), (q_text, .inr (6, [.ref q_text_bytes, .int v_text_length])), (q_text_bytes, .inl (ca 2, 500, .inl v_text_bytes)), (q_numbers, .inl (ca 0, 3, .inl y_numbers_34))]) (wn := [(q_this, .inr (2, [.ref q_text, .ref q_numbers, .int y_place_33, .int v_letter, .int v_word, .int v_bits])), (q_text, .inr (6, [.ref q_text_bytes, .int v_text_length])), (q_text_bytes, .inl (ca 2, 500, .inl v_text_bytes)), (q_numbers, .inl (ca 0, 3, .inl y_numbers_34))]) ⟨hx, hb, hml, hown, hts⟩ (c_X2_readNumber l D ca s.heap.size q_this q_text q_text_bytes q_numbers (nI 0) (nI 1) (nI 8) v_place v_letter v_word v_bits v_text_length v_text_bytes v_numbers r_32 y_place_33 y_numbers_34 hg_35) (cwV 3 hts gX2_readTold_X2_readNumber rfl rfl rfl (by decide +kernel) ⟨(Nat.le_of_ble_eq_true rfl), (Nat.le_of_ble_eq_true rfl)⟩) hK hP hD hS hA (ci := 2) (q0 := 0) rfl rfl [0, 1, 2, 3] [] [0, 1, 2, 3] rfl rfl rfl rfl (by decide) rfl rfl rfl hl.1 rfl (Nat.le_of_ble_eq_true rfl) dX2_readTold_244 ⟨Nat.zero_le _, Nat.zero_le _⟩ (fun H locs hP hD hS => ?_)
    refine lv_if_eq (tgt := 274) hx hb dX2_readTold_247 (by decide) (fun c_36 => ?_) (fun c_36 => ?_)
    · replace h := ifp_el c_36 h
      refine lv_iconst (v := (nI 0)) hx hb dX2_readTold_274 (by decide) ?_
      cases h
      rw [← hQe]
      exact W.zret hx hb hr rfl (fun t ht hW => ⟨⟨_, (), rfl, rfl, by rw [ht]; exact hP, va_K.moved hW.alike hK, hD⟩, hS.F ht⟩) hS.2.2 dX2_readTold_275
    · replace h := ifn_el c_36 h
      refine lv_aload_n hx hb dX2_readTold_250 rfl (lv_at hl 0 rfl) ?_
      refine lv_bipush (v := (nI 44)) hx hb dX2_readTold_251 (by decide) ?_
      obtain ⟨r_37, y_place_38, hg_39, h⟩ := bd2_el h
      refine kx_Vi (As := [.int (nI 44)]) (rest := []) (wr := [(q_numbers, .inl (ca 0, 3, .inl y_numbers_34))]) (w1 := [(q_this, .inr (2, [.ref q_text, .ref q_numbers, .int y_place_38, .int v_letter, .int v_word, .int v_bits])), (q_text, .inr (6, [.ref q_text_bytes, .int v_text_length])), (q_text_bytes, .inl (ca 2, 500, .inl v_text_bytes))]) (wn := [(q_this, .inr (2, [.ref q_text, .ref q_numbers, .int y_place_38, .int v_letter, .int v_word, .int v_bits])), (q_text, .inr (6, [.ref q_text_bytes, .int v_text_length])), (q_text_bytes, .inl (ca 2, 500, .inl v_text_bytes)), (q_numbers, .inl (ca 0, 3, .inl y_numbers_34))]) ⟨hx, hb, hml, hown, hts⟩ (c_X2_passes l D ca H.size q_this q_text q_text_bytes q_numbers (nI 44) y_place_33 v_letter v_word v_bits v_text_length v_text_bytes r_37 y_place_38 hg_39) (cwV 1 hts gX2_readTold_X2_passes rfl rfl rfl (by decide +kernel) ⟨(Nat.le_of_ble_eq_true rfl), (Nat.le_of_ble_eq_true rfl)⟩) hK hP hD hS hA (ci := 2) (q0 := 0) rfl rfl [0, 1, 2] [3] [1, 2, 3, 0] rfl rfl rfl rfl (by decide) rfl rfl rfl hl.1 rfl (Nat.le_of_ble_eq_true rfl) dX2_readTold_253 ⟨Nat.zero_le _, Nat.zero_le _⟩ (fun H locs hP hD hS => ?_)
      refine lv_if_eq (tgt := 274) hx hb dX2_readTold_256 (by decide) (fun c_40 => ?_) (fun c_40 => ?_)
      · replace h := ifp_el c_40 h
        refine lv_iconst (v := (nI 0)) hx hb dX2_readTold_274 (by decide) ?_
        cases h
        rw [← hQe]
        exact W.zret hx hb hr rfl (fun t ht hW => ⟨⟨_, (), rfl, rfl, by rw [ht]; exact hP, va_K.moved hW.alike hK, hD⟩, hS.F ht⟩) hS.2.2 dX2_readTold_275
      · replace h := ifn_el c_40 h
        refine lv_aload_n hx hb dX2_readTold_259 rfl (lv_at hl 0 rfl) ?_
        refine lv_iconst (v := (nI 1)) hx hb dX2_readTold_260 (by decide) ?_
        refine lv_iconst (v := (nI 1)) hx hb dX2_readTold_261 (by decide) ?_
        refine lv_bipush (v := (nI 8)) hx hb dX2_readTold_262 (by decide) ?_
        obtain ⟨r_41, y_place_42, y_numbers_43, hg_44, h⟩ := bd3_el h
        refine kx_Vi (As := [.int (nI 1), .int (nI 1), .int (nI 8)]) (rest := []) (wr := []) (w1 := [(q_this, .inr (2, [.ref q_text, .ref q_numbers, .int y_place_42, .int v_letter, .int v_word, .int v_bits])), (q_text, .inr (6, [.ref q_text_bytes, .int v_text_length])), (q_text_bytes, .inl (ca 2, 500, .inl v_text_bytes)), (q_numbers, .inl (ca 0, 3, .inl y_numbers_43))]) (wn := [(q_this, .inr (2, [.ref q_text, .ref q_numbers, .int y_place_42, .int v_letter, .int v_word, .int v_bits])), (q_text, .inr (6, [.ref q_text_bytes, .int v_text_length])), (q_text_bytes, .inl (ca 2, 500, .inl v_text_bytes)), (q_numbers, .inl (ca 0, 3, .inl y_numbers_43))]) ⟨hx, hb, hml, hown, hts⟩ (c_X2_readNumber l D ca H.size q_this q_text q_text_bytes q_numbers (nI 1) (nI 1) (nI 8) y_place_38 v_letter v_word v_bits v_text_length v_text_bytes y_numbers_34 r_41 y_place_42 y_numbers_43 hg_44) (cwV 3 hts gX2_readTold_X2_readNumber rfl rfl rfl (by decide +kernel) ⟨(Nat.le_of_ble_eq_true rfl), (Nat.le_of_ble_eq_true rfl)⟩) hK hP hD hS hA (ci := 2) (q0 := 0) rfl rfl [0, 1, 2, 3] [] [0, 1, 2, 3] rfl rfl rfl rfl (by decide) rfl rfl rfl hl.1 rfl (Nat.le_of_ble_eq_true rfl) dX2_readTold_264 ⟨Nat.zero_le _, Nat.zero_le _⟩ (fun H locs hP hD hS => ?_)
        refine lv_if_eq (tgt := 274) hx hb dX2_readTold_267 (by decide) (fun c_45 => ?_) (fun c_45 => ?_)
        · replace h := ifp_el c_45 h
          refine lv_iconst (v := (nI 0)) hx hb dX2_readTold_274 (by decide) ?_
          cases h
          rw [← hQe]
          exact W.zret hx hb hr rfl (fun t ht hW => ⟨⟨_, (), rfl, rfl, by rw [ht]; exact hP, va_K.moved hW.alike hK, hD⟩, hS.F ht⟩) hS.2.2 dX2_readTold_275
        · replace h := ifn_el c_45 h
          refine lv_iconst (v := (nI 1)) hx hb dX2_readTold_270 (by decide) ?_
          refine lv_goto (tgt := 275) hx hb dX2_readTold_271 (by decide) ?_
          cases h
          rw [← hQe]
          exact W.zret hx hb hr rfl (fun t ht hW => ⟨⟨_, (), rfl, rfl, by rw [ht]; exact hP, va_K.moved hW.alike hK, hD⟩, hS.F ht⟩) hS.2.2 dX2_readTold_275
  replace h := ifn_el c_31 h
  by_cases c_46 : v_letter = (nI 111)
  · replace h := ifp_el c_46 h
    refine lv_tableIn (off := 281) (tgt := 285) hx hb dX2_readTold_4 (by rw [c_46]; decide) (by rw [c_46]; decide) (by rw [c_46]; decide) (by decide) ?_
    refine lv_aload_n hx hb dX2_readTold_285 rfl (lv_at hl 0 rfl) ?_
    refine lv_iconst (v := (nI 0)) hx hb dX2_readTold_286 (by decide) ?_
    refine lv_iconst (v := (nI 0)) hx hb dX2_readTold_287 (by decide) ?_
    refine lv_bipush (v := (nI 10)) hx hb dX2_readTold_288 (by decide) ?_
    obtain ⟨r_47, y_place_48, y_numbers_49, hg_50, h⟩ := bd3_el h
    refine kx_Vi (As := [.int (nI 0), .int (nI 0), .int (nI 10)]) (rest := []) (wr := []) (w1 := [(q_this, .inr (2, [.ref q_text, .ref q_numbers, .int y_place_48, .int v_letter, .int v_word, .int v_bits])), (q_text, .inr (6, [.ref q_text_bytes, .int v_text_length])), (q_text_bytes, .inl (ca 2, 500, .inl v_text_bytes)), (q_numbers, .inl (ca 0, 3, .inl y_numbers_49))]) (wn := [(q_this, .inr (2, [.ref q_text, .ref q_numbers, .int y_place_48, .int v_letter, .int v_word, .int v_bits])), (q_text, .inr (6, [.ref q_text_bytes, .int v_text_length])), (q_text_bytes, .inl (ca 2, 500, .inl v_text_bytes)), (q_numbers, .inl (ca 0, 3, .inl y_numbers_49))]) ⟨hx, hb, hml, hown, hts⟩ (c_X2_readNumber l D ca s.heap.size q_this q_text q_text_bytes q_numbers (nI 0) (nI 0) (nI 10) v_place v_letter v_word v_bits v_text_length v_text_bytes v_numbers r_47 y_place_48 y_numbers_49 hg_50) (cwV 3 hts gX2_readTold_X2_readNumber rfl rfl rfl (by decide +kernel) ⟨(Nat.le_of_ble_eq_true rfl), (Nat.le_of_ble_eq_true rfl)⟩) hK hP hD hS hA (ci := 2) (q0 := 0) rfl rfl [0, 1, 2, 3] [] [0, 1, 2, 3] rfl rfl rfl rfl (by decide) rfl rfl rfl hl.1 rfl (Nat.le_of_ble_eq_true rfl) dX2_readTold_290 ⟨Nat.zero_le _, Nat.zero_le _⟩ (fun H locs hP hD hS => ?_)
    obtain ⟨hz, h⟩ := cz_el h
    cases h
    rw [← hQe]
    exact W.zret hx hb hr hz (fun t ht hW => ⟨⟨_, (), rfl, rfl, by rw [ht]; exact hP, va_K.moved hW.alike hK, hD⟩, hS.F ht⟩) hS.2.2 dX2_readTold_293
  replace h := ifn_el c_46 h
  by_cases c_51 : v_letter = (nI 114)
  · replace h := ifp_el c_51 h
    refine lv_tableIn (off := 192) (tgt := 196) hx hb dX2_readTold_4 (by rw [c_51]; decide) (by rw [c_51]; decide) (by rw [c_51]; decide) (by decide) ?_
    refine lv_aload_n hx hb dX2_readTold_196 rfl (lv_at hl 0 rfl) ?_
    obtain ⟨r_52, y_place_53, y_word_54, hg_55, h⟩ := bd3_el h
    refine kx_Vi (As := []) (rest := []) (wr := [(q_numbers, .inl (ca 0, 3, .inl v_numbers))]) (w1 := [(q_this, .inr (2, [.ref q_text, .ref q_numbers, .int y_place_53, .int v_letter, .int y_word_54, .int v_bits])), (q_text, .inr (6, [.ref q_text_bytes, .int v_text_length])), (q_text_bytes, .inl (ca 2, 500, .inl v_text_bytes))]) (wn := [(q_this, .inr (2, [.ref q_text, .ref q_numbers, .int y_place_53, .int v_letter, .int y_word_54, .int v_bits])), (q_text, .inr (6, [.ref q_text_bytes, .int v_text_length])), (q_text_bytes, .inl (ca 2, 500, .inl v_text_bytes)), (q_numbers, .inl (ca 0, 3, .inl v_numbers))]) ⟨hx, hb, hml, hown, hts⟩ (c_X2_readWord l D ca F s.heap.size q_this q_text q_text_bytes q_numbers v_place v_letter v_word v_bits v_text_length v_text_bytes r_52 y_place_53 y_word_54 hg_55) (cwV 0 hts gX2_readTold_X2_readWord rfl rfl rfl (by decide +kernel) ⟨(Nat.le_of_ble_eq_true rfl), (Nat.le_of_ble_eq_true rfl)⟩) hK hP hD hS hA (ci := 2) (q0 := 0) rfl rfl [0, 1, 2] [3] [1, 2, 3, 0] rfl rfl rfl rfl (by decide) rfl rfl rfl hl.1 rfl (Nat.le_of_ble_eq_true rfl) dX2_readTold_197 ⟨Nat.zero_le _, Nat.zero_le _⟩ (fun H locs hP hD hS => ?_)
    refine lv_if_eq (tgt := 237) hx hb dX2_readTold_200 (by decide) (fun c_56 => ?_) (fun c_56 => ?_)
    · replace h := ifp_el c_56 h
      refine lv_iconst (v := (nI 0)) hx hb dX2_readTold_237 (by decide) ?_
      cases h
      rw [← hQe]
      exact W.zret hx hb hr rfl (fun t ht hW => ⟨⟨_, (), rfl, rfl, by rw [ht]; exact hP, va_K.moved hW.alike hK, hD⟩, hS.F ht⟩) hS.2.2 dX2_readTold_238
    · replace h := ifn_el c_56 h
      refine lv_aload_n hx hb dX2_readTold_203 rfl (lv_at hl 0 rfl) ?_
      refine va_get (D := D) (ci := 2) (v := .int y_word_54) (C := RX2) (T := TX2) (N := 6) hx hb hts i_X2 hown hK hP 0 rfl rfl 4 (by decide) k_45 (fun _ h9 => h9) rfl dX2_readTold_204 ?_
      obtain ⟨r_57, hg_58, h⟩ := bd1_el h
      refine kx_Si (As := [.int y_word_54]) (rest := []) (wr := [(q_this, .inr (2, [.ref q_text, .ref q_numbers, .int y_place_53, .int v_letter, .int y_word_54, .int v_bits])), (q_text, .inr (6, [.ref q_text_bytes, .int v_text_length])), (q_text_bytes, .inl (ca 2, 500, .inl v_text_bytes)), (q_numbers, .inl (ca 0, 3, .inl v_numbers))]) (w1 := []) (wn := [(q_this, .inr (2, [.ref q_text, .ref q_numbers, .int y_place_53, .int v_letter, .int y_word_54, .int v_bits])), (q_text, .inr (6, [.ref q_text_bytes, .int v_text_length])), (q_text_bytes, .inl (ca 2, 500, .inl v_text_bytes)), (q_numbers, .inl (ca 0, 3, .inl v_numbers))]) ⟨hx, hb, hml, hown, hts⟩ (c_X8_length l D ca H.size y_word_54 r_57 hg_58) (va_cwS 1 hts gX2_readTold_X8_length rfl rfl rfl (by decide +kernel) ⟨(Nat.le_of_ble_eq_true rfl), (Nat.le_of_ble_eq_true rfl)⟩) hK hP hD hS hA [] [0, 1, 2, 3] [0, 1, 2, 3] rfl rfl rfl rfl (by decide) rfl rfl rfl hl.1 rfl (Nat.le_of_ble_eq_true rfl) dX2_readTold_207 ⟨Nat.zero_le _, Nat.zero_le _⟩ (fun H locs hP hD hS => ?_)
      refine lv_iconst (v := (nI 2)) hx hb dX2_readTold_210 (by decide) ?_
      refine lv_icmp_ne (tgt := 237) hx hb dX2_readTold_211 (by decide) (fun c_59 => ?_) (fun c_59 => ?_)
      · replace h := ifn_el c_59 h
        refine lv_iconst (v := (nI 0)) hx hb dX2_readTold_237 (by decide) ?_
        cases h
        rw [← hQe]
        exact W.zret hx hb hr rfl (fun t ht hW => ⟨⟨_, (), rfl, rfl, by rw [ht]; exact hP, va_K.moved hW.alike hK, hD⟩, hS.F ht⟩) hS.2.2 dX2_readTold_238
      · replace h := ifp_el c_59 h
        refine lv_aload_n hx hb dX2_readTold_214 rfl (lv_at hl 0 rfl) ?_
        refine va_get (D := D) (ci := 2) (v := .int y_word_54) (C := RX2) (T := TX2) (N := 6) hx hb hts i_X2 hown hK hP 0 rfl rfl 4 (by decide) k_45 (fun _ h9 => h9) rfl dX2_readTold_215 ?_
        refine lv_iconst (v := (nI 0)) hx hb dX2_readTold_218 (by decide) ?_
        obtain ⟨r_60, hg_61, h⟩ := bd1_el h
        refine kx_Si (As := [.int y_word_54, .int (nI 0)]) (rest := []) (wr := [(q_this, .inr (2, [.ref q_text, .ref q_numbers, .int y_place_53, .int v_letter, .int y_word_54, .int v_bits])), (q_text, .inr (6, [.ref q_text_bytes, .int v_text_length])), (q_text_bytes, .inl (ca 2, 500, .inl v_text_bytes)), (q_numbers, .inl (ca 0, 3, .inl v_numbers))]) (w1 := []) (wn := [(q_this, .inr (2, [.ref q_text, .ref q_numbers, .int y_place_53, .int v_letter, .int y_word_54, .int v_bits])), (q_text, .inr (6, [.ref q_text_bytes, .int v_text_length])), (q_text_bytes, .inl (ca 2, 500, .inl v_text_bytes)), (q_numbers, .inl (ca 0, 3, .inl v_numbers))]) ⟨hx, hb, hml, hown, hts⟩ (c_X8_soundAt l D ca H.size y_word_54 (nI 0) r_60 hg_61) (va_cwS 2 hts gX2_readTold_X8_soundAt rfl rfl rfl (by decide +kernel) ⟨(Nat.le_of_ble_eq_true rfl), (Nat.le_of_ble_eq_true rfl)⟩) hK hP hD hS hA [] [0, 1, 2, 3] [0, 1, 2, 3] rfl rfl rfl rfl (by decide) rfl rfl rfl hl.1 rfl (Nat.le_of_ble_eq_true rfl) dX2_readTold_219 ⟨Nat.zero_le _, Nat.zero_le _⟩ (fun H locs hP hD hS => ?_)
        refine lv_aload_n hx hb dX2_readTold_222 rfl (lv_at hl 0 rfl) ?_
        refine va_get (D := D) (ci := 2) (v := .int y_word_54) (C := RX2) (T := TX2) (N := 6) hx hb hts i_X2 hown hK hP 0 rfl rfl 4 (by decide) k_45 (fun _ h9 => h9) rfl dX2_readTold_223 ?_
        refine lv_iconst (v := (nI 1)) hx hb dX2_readTold_226 (by decide) ?_
        obtain ⟨r_62, hg_63, h⟩ := bd1_el h
        refine kx_Si (As := [.int y_word_54, .int (nI 1)]) (rest := [.int r_60]) (wr := [(q_this, .inr (2, [.ref q_text, .ref q_numbers, .int y_place_53, .int v_letter, .int y_word_54, .int v_bits])), (q_text, .inr (6, [.ref q_text_bytes, .int v_text_length])), (q_text_bytes, .inl (ca 2, 500, .inl v_text_bytes)), (q_numbers, .inl (ca 0, 3, .inl v_numbers))]) (w1 := []) (wn := [(q_this, .inr (2, [.ref q_text, .ref q_numbers, .int y_place_53, .int v_letter, .int y_word_54, .int v_bits])), (q_text, .inr (6, [.ref q_text_bytes, .int v_text_length])), (q_text_bytes, .inl (ca 2, 500, .inl v_text_bytes)), (q_numbers, .inl (ca 0, 3, .inl v_numbers))]) ⟨hx, hb, hml, hown, hts⟩ (c_X8_soundAt l D ca H.size y_word_54 (nI 1) r_62 hg_63) (va_cwS 2 hts gX2_readTold_X8_soundAt rfl rfl rfl (by decide +kernel) ⟨(Nat.le_of_ble_eq_true rfl), (Nat.le_of_ble_eq_true rfl)⟩) hK hP hD hS hA [] [0, 1, 2, 3] [0, 1, 2, 3] rfl rfl rfl rfl (by decide) rfl rfl rfl hl.1 rfl (Nat.le_of_ble_eq_true rfl) dX2_readTold_227 ⟨Nat.zero_le _, Nat.zero_le _⟩ (fun H locs hP hD hS => ?_)
        refine lv_icmp_eq (tgt := 237) hx hb dX2_readTold_230 (by decide) (fun c_64 => ?_) (fun c_64 => ?_)
        · replace h := ifp_el c_64 h
          refine lv_iconst (v := (nI 0)) hx hb dX2_readTold_237 (by decide) ?_
          cases h
          rw [← hQe]
          exact W.zret hx hb hr rfl (fun t ht hW => ⟨⟨_, (), rfl, rfl, by rw [ht]; exact hP, va_K.moved hW.alike hK, hD⟩, hS.F ht⟩) hS.2.2 dX2_readTold_238
        · replace h := ifn_el c_64 h
          refine lv_iconst (v := (nI 1)) hx hb dX2_readTold_233 (by decide) ?_
          refine lv_goto (tgt := 238) hx hb dX2_readTold_234 (by decide) ?_
          cases h
          rw [← hQe]
          exact W.zret hx hb hr rfl (fun t ht hW => ⟨⟨_, (), rfl, rfl, by rw [ht]; exact hP, va_K.moved hW.alike hK, hD⟩, hS.F ht⟩) hS.2.2 dX2_readTold_238
  replace h := ifn_el c_51 h
  by_cases c_65 : v_letter = (nI 115)
  · replace h := ifp_el c_65 h
    refine lv_tableIn (off := 156) (tgt := 160) hx hb dX2_readTold_4 (by rw [c_65]; decide) (by rw [c_65]; decide) (by rw [c_65]; decide) (by decide) ?_
    refine lv_aload_n hx hb dX2_readTold_160 rfl (lv_at hl 0 rfl) ?_
    refine lv_iconst (v := (nI 0)) hx hb dX2_readTold_161 (by decide) ?_
    refine lv_iconst (v := (nI 0)) hx hb dX2_readTold_162 (by decide) ?_
    refine lv_iconst (v := (nI 1)) hx hb dX2_readTold_163 (by decide) ?_
    obtain ⟨r_66, y_place_67, y_numbers_68, hg_69, h⟩ := bd3_el h
    refine kx_Vi (As := [.int (nI 0), .int (nI 0), .int (nI 1)]) (rest := []) (wr := []) (w1 := [(q_this, .inr (2, [.ref q_text, .ref q_numbers, .int y_place_67, .int v_letter, .int v_word, .int v_bits])), (q_text, .inr (6, [.ref q_text_bytes, .int v_text_length])), (q_text_bytes, .inl (ca 2, 500, .inl v_text_bytes)), (q_numbers, .inl (ca 0, 3, .inl y_numbers_68))]) (wn := [(q_this, .inr (2, [.ref q_text, .ref q_numbers, .int y_place_67, .int v_letter, .int v_word, .int v_bits])), (q_text, .inr (6, [.ref q_text_bytes, .int v_text_length])), (q_text_bytes, .inl (ca 2, 500, .inl v_text_bytes)), (q_numbers, .inl (ca 0, 3, .inl y_numbers_68))]) ⟨hx, hb, hml, hown, hts⟩ (c_X2_readNumber l D ca s.heap.size q_this q_text q_text_bytes q_numbers (nI 0) (nI 0) (nI 1) v_place v_letter v_word v_bits v_text_length v_text_bytes v_numbers r_66 y_place_67 y_numbers_68 hg_69) (cwV 3 hts gX2_readTold_X2_readNumber rfl rfl rfl (by decide +kernel) ⟨(Nat.le_of_ble_eq_true rfl), (Nat.le_of_ble_eq_true rfl)⟩) hK hP hD hS hA (ci := 2) (q0 := 0) rfl rfl [0, 1, 2, 3] [] [0, 1, 2, 3] rfl rfl rfl rfl (by decide) rfl rfl rfl hl.1 rfl (Nat.le_of_ble_eq_true rfl) dX2_readTold_164 ⟨Nat.zero_le _, Nat.zero_le _⟩ (fun H locs hP hD hS => ?_)
    refine lv_if_eq (tgt := 194) hx hb dX2_readTold_167 (by decide) (fun c_70 => ?_) (fun c_70 => ?_)
    · replace h := ifp_el c_70 h
      refine lv_iconst (v := (nI 0)) hx hb dX2_readTold_194 (by decide) ?_
      cases h
      rw [← hQe]
      exact W.zret hx hb hr rfl (fun t ht hW => ⟨⟨_, (), rfl, rfl, by rw [ht]; exact hP, va_K.moved hW.alike hK, hD⟩, hS.F ht⟩) hS.2.2 dX2_readTold_195
    · replace h := ifn_el c_70 h
      refine lv_aload_n hx hb dX2_readTold_170 rfl (lv_at hl 0 rfl) ?_
      refine lv_bipush (v := (nI 44)) hx hb dX2_readTold_171 (by decide) ?_
      obtain ⟨r_71, y_place_72, hg_73, h⟩ := bd2_el h
      refine kx_Vi (As := [.int (nI 44)]) (rest := []) (wr := [(q_numbers, .inl (ca 0, 3, .inl y_numbers_68))]) (w1 := [(q_this, .inr (2, [.ref q_text, .ref q_numbers, .int y_place_72, .int v_letter, .int v_word, .int v_bits])), (q_text, .inr (6, [.ref q_text_bytes, .int v_text_length])), (q_text_bytes, .inl (ca 2, 500, .inl v_text_bytes))]) (wn := [(q_this, .inr (2, [.ref q_text, .ref q_numbers, .int y_place_72, .int v_letter, .int v_word, .int v_bits])), (q_text, .inr (6, [.ref q_text_bytes, .int v_text_length])), (q_text_bytes, .inl (ca 2, 500, .inl v_text_bytes)), (q_numbers, .inl (ca 0, 3, .inl y_numbers_68))]) ⟨hx, hb, hml, hown, hts⟩ (c_X2_passes l D ca H.size q_this q_text q_text_bytes q_numbers (nI 44) y_place_67 v_letter v_word v_bits v_text_length v_text_bytes r_71 y_place_72 hg_73) (cwV 1 hts gX2_readTold_X2_passes rfl rfl rfl (by decide +kernel) ⟨(Nat.le_of_ble_eq_true rfl), (Nat.le_of_ble_eq_true rfl)⟩) hK hP hD hS hA (ci := 2) (q0 := 0) rfl rfl [0, 1, 2] [3] [1, 2, 3, 0] rfl rfl rfl rfl (by decide) rfl rfl rfl hl.1 rfl (Nat.le_of_ble_eq_true rfl) dX2_readTold_173 ⟨Nat.zero_le _, Nat.zero_le _⟩ (fun H locs hP hD hS => ?_)
      refine lv_if_eq (tgt := 194) hx hb dX2_readTold_176 (by decide) (fun c_74 => ?_) (fun c_74 => ?_)
      · replace h := ifp_el c_74 h
        refine lv_iconst (v := (nI 0)) hx hb dX2_readTold_194 (by decide) ?_
        cases h
        rw [← hQe]
        exact W.zret hx hb hr rfl (fun t ht hW => ⟨⟨_, (), rfl, rfl, by rw [ht]; exact hP, va_K.moved hW.alike hK, hD⟩, hS.F ht⟩) hS.2.2 dX2_readTold_195
      · replace h := ifn_el c_74 h
        refine lv_aload_n hx hb dX2_readTold_179 rfl (lv_at hl 0 rfl) ?_
        refine lv_bipush (v := (nI 97)) hx hb dX2_readTold_180 (by decide) ?_
        refine lv_bipush (v := (nI 16)) hx hb dX2_readTold_182 (by decide) ?_
        obtain ⟨r_75, y_place_76, y_bits_77, hg_78, h⟩ := bd3_el h
        refine kx_Vi (As := [.int (nI 97), .int (nI 16)]) (rest := []) (wr := [(q_numbers, .inl (ca 0, 3, .inl y_numbers_68))]) (w1 := [(q_this, .inr (2, [.ref q_text, .ref q_numbers, .int y_place_76, .int v_letter, .int v_word, .int y_bits_77])), (q_text, .inr (6, [.ref q_text_bytes, .int v_text_length])), (q_text_bytes, .inl (ca 2, 500, .inl v_text_bytes))]) (wn := [(q_this, .inr (2, [.ref q_text, .ref q_numbers, .int y_place_76, .int v_letter, .int v_word, .int y_bits_77])), (q_text, .inr (6, [.ref q_text_bytes, .int v_text_length])), (q_text_bytes, .inl (ca 2, 500, .inl v_text_bytes)), (q_numbers, .inl (ca 0, 3, .inl y_numbers_68))]) ⟨hx, hb, hml, hown, hts⟩ (c_X2_readRising l D ca F H.size q_this q_text q_text_bytes q_numbers (nI 97) (nI 16) y_place_72 v_letter v_word v_bits v_text_length v_text_bytes r_75 y_place_76 y_bits_77 hg_78) (cwV 2 hts gX2_readTold_X2_readRising rfl rfl rfl (by decide +kernel) ⟨(Nat.le_of_ble_eq_true rfl), (Nat.le_of_ble_eq_true rfl)⟩) hK hP hD hS hA (ci := 2) (q0 := 0) rfl rfl [0, 1, 2] [3] [1, 2, 3, 0] rfl rfl rfl rfl (by decide) rfl rfl rfl hl.1 rfl (Nat.le_of_ble_eq_true rfl) dX2_readTold_184 ⟨Nat.zero_le _, Nat.zero_le _⟩ (fun H locs hP hD hS => ?_)
        refine lv_if_eq (tgt := 194) hx hb dX2_readTold_187 (by decide) (fun c_79 => ?_) (fun c_79 => ?_)
        · replace h := ifp_el c_79 h
          refine lv_iconst (v := (nI 0)) hx hb dX2_readTold_194 (by decide) ?_
          cases h
          rw [← hQe]
          exact W.zret hx hb hr rfl (fun t ht hW => ⟨⟨_, (), rfl, rfl, by rw [ht]; exact hP, va_K.moved hW.alike hK, hD⟩, hS.F ht⟩) hS.2.2 dX2_readTold_195
        · replace h := ifn_el c_79 h
          refine lv_iconst (v := (nI 1)) hx hb dX2_readTold_190 (by decide) ?_
          refine lv_goto (tgt := 195) hx hb dX2_readTold_191 (by decide) ?_
          cases h
          rw [← hQe]
          exact W.zret hx hb hr rfl (fun t ht hW => ⟨⟨_, (), rfl, rfl, by rw [ht]; exact hP, va_K.moved hW.alike hK, hD⟩, hS.F ht⟩) hS.2.2 dX2_readTold_195
  replace h := ifn_el c_65 h
  by_cases c_80 : v_letter = (nI 117)
  · replace h := ifp_el c_80 h
    refine lv_tableIn (off := 304) (tgt := 308) hx hb dX2_readTold_4 (by rw [c_80]; decide) (by rw [c_80]; decide) (by rw [c_80]; decide) (by decide) ?_
    refine lv_aload_n hx hb dX2_readTold_308 rfl (lv_at hl 0 rfl) ?_
    refine lv_bipush (v := (nI 48)) hx hb dX2_readTold_309 (by decide) ?_
    refine lv_bipush (v := (nI 8)) hx hb dX2_readTold_311 (by decide) ?_
    obtain ⟨r_81, y_place_82, y_bits_83, hg_84, h⟩ := bd3_el h
    refine kx_Vi (As := [.int (nI 48), .int (nI 8)]) (rest := []) (wr := [(q_numbers, .inl (ca 0, 3, .inl v_numbers))]) (w1 := [(q_this, .inr (2, [.ref q_text, .ref q_numbers, .int y_place_82, .int v_letter, .int v_word, .int y_bits_83])), (q_text, .inr (6, [.ref q_text_bytes, .int v_text_length])), (q_text_bytes, .inl (ca 2, 500, .inl v_text_bytes))]) (wn := [(q_this, .inr (2, [.ref q_text, .ref q_numbers, .int y_place_82, .int v_letter, .int v_word, .int y_bits_83])), (q_text, .inr (6, [.ref q_text_bytes, .int v_text_length])), (q_text_bytes, .inl (ca 2, 500, .inl v_text_bytes)), (q_numbers, .inl (ca 0, 3, .inl v_numbers))]) ⟨hx, hb, hml, hown, hts⟩ (c_X2_readRising l D ca F s.heap.size q_this q_text q_text_bytes q_numbers (nI 48) (nI 8) v_place v_letter v_word v_bits v_text_length v_text_bytes r_81 y_place_82 y_bits_83 hg_84) (cwV 2 hts gX2_readTold_X2_readRising rfl rfl rfl (by decide +kernel) ⟨(Nat.le_of_ble_eq_true rfl), (Nat.le_of_ble_eq_true rfl)⟩) hK hP hD hS hA (ci := 2) (q0 := 0) rfl rfl [0, 1, 2] [3] [1, 2, 3, 0] rfl rfl rfl rfl (by decide) rfl rfl rfl hl.1 rfl (Nat.le_of_ble_eq_true rfl) dX2_readTold_313 ⟨Nat.zero_le _, Nat.zero_le _⟩ (fun H locs hP hD hS => ?_)
    obtain ⟨hz, h⟩ := cz_el h
    cases h
    rw [← hQe]
    exact W.zret hx hb hr hz (fun t ht hW => ⟨⟨_, (), rfl, rfl, by rw [ht]; exact hP, va_K.moved hW.alike hK, hD⟩, hS.F ht⟩) hS.2.2 dX2_readTold_316
  replace h := ifn_el c_80 h
  by_cases c_85 : v_letter = (nI 119)
  · replace h := ifp_el c_85 h
    refine lv_tableIn (off := 92) (tgt := 96) hx hb dX2_readTold_4 (by rw [c_85]; decide) (by rw [c_85]; decide) (by rw [c_85]; decide) (by decide) ?_
    refine lv_aload_n hx hb dX2_readTold_96 rfl (lv_at hl 0 rfl) ?_
    refine lv_iconst (v := (nI 1)) hx hb dX2_readTold_97 (by decide) ?_
    refine lv_bipush (v := (nI 7)) hx hb dX2_readTold_98 (by decide) ?_
    obtain ⟨r_86, y_place_87, y_numbers_88, hg_89, h⟩ := bd3_el h
    refine kx_Vi (As := [.int (nI 1), .int (nI 7)]) (rest := []) (wr := []) (w1 := [(q_this, .inr (2, [.ref q_text, .ref q_numbers, .int y_place_87, .int v_letter, .int v_word, .int v_bits])), (q_text, .inr (6, [.ref q_text_bytes, .int v_text_length])), (q_text_bytes, .inl (ca 2, 500, .inl v_text_bytes)), (q_numbers, .inl (ca 0, 3, .inl y_numbers_88))]) (wn := [(q_this, .inr (2, [.ref q_text, .ref q_numbers, .int y_place_87, .int v_letter, .int v_word, .int v_bits])), (q_text, .inr (6, [.ref q_text_bytes, .int v_text_length])), (q_text_bytes, .inl (ca 2, 500, .inl v_text_bytes)), (q_numbers, .inl (ca 0, 3, .inl y_numbers_88))]) ⟨hx, hb, hml, hown, hts⟩ (c_X2_readNumbers l D ca s.heap.size q_this q_text q_text_bytes q_numbers (nI 1) (nI 7) v_place v_letter v_word v_bits v_text_length v_text_bytes v_numbers r_86 y_place_87 y_numbers_88 hg_89) (cwV 2 hts gX2_readTold_X2_readNumbers rfl rfl rfl (by decide +kernel) ⟨(Nat.le_of_ble_eq_true rfl), (Nat.le_of_ble_eq_true rfl)⟩) hK hP hD hS hA (ci := 2) (q0 := 0) rfl rfl [0, 1, 2, 3] [] [0, 1, 2, 3] rfl rfl rfl rfl (by decide) rfl rfl rfl hl.1 rfl (Nat.le_of_ble_eq_true rfl) dX2_readTold_100 ⟨Nat.zero_le _, Nat.zero_le _⟩ (fun H locs hP hD hS => ?_)
    refine lv_if_eq (tgt := 126) hx hb dX2_readTold_103 (by decide) (fun c_90 => ?_) (fun c_90 => ?_)
    · replace h := ifp_el c_90 h
      refine lv_iconst (v := (nI 0)) hx hb dX2_readTold_126 (by decide) ?_
      cases h
      rw [← hQe]
      exact W.zret hx hb hr rfl (fun t ht hW => ⟨⟨_, (), rfl, rfl, by rw [ht]; exact hP, va_K.moved hW.alike hK, hD⟩, hS.F ht⟩) hS.2.2 dX2_readTold_127
    · replace h := ifn_el c_90 h
      refine lv_aload_n hx hb dX2_readTold_106 rfl (lv_at hl 0 rfl) ?_
      refine lv_bipush (v := (nI 44)) hx hb dX2_readTold_107 (by decide) ?_
      obtain ⟨r_91, y_place_92, hg_93, h⟩ := bd2_el h
      refine kx_Vi (As := [.int (nI 44)]) (rest := []) (wr := [(q_numbers, .inl (ca 0, 3, .inl y_numbers_88))]) (w1 := [(q_this, .inr (2, [.ref q_text, .ref q_numbers, .int y_place_92, .int v_letter, .int v_word, .int v_bits])), (q_text, .inr (6, [.ref q_text_bytes, .int v_text_length])), (q_text_bytes, .inl (ca 2, 500, .inl v_text_bytes))]) (wn := [(q_this, .inr (2, [.ref q_text, .ref q_numbers, .int y_place_92, .int v_letter, .int v_word, .int v_bits])), (q_text, .inr (6, [.ref q_text_bytes, .int v_text_length])), (q_text_bytes, .inl (ca 2, 500, .inl v_text_bytes)), (q_numbers, .inl (ca 0, 3, .inl y_numbers_88))]) ⟨hx, hb, hml, hown, hts⟩ (c_X2_passes l D ca H.size q_this q_text q_text_bytes q_numbers (nI 44) y_place_87 v_letter v_word v_bits v_text_length v_text_bytes r_91 y_place_92 hg_93) (cwV 1 hts gX2_readTold_X2_passes rfl rfl rfl (by decide +kernel) ⟨(Nat.le_of_ble_eq_true rfl), (Nat.le_of_ble_eq_true rfl)⟩) hK hP hD hS hA (ci := 2) (q0 := 0) rfl rfl [0, 1, 2] [3] [1, 2, 3, 0] rfl rfl rfl rfl (by decide) rfl rfl rfl hl.1 rfl (Nat.le_of_ble_eq_true rfl) dX2_readTold_109 ⟨Nat.zero_le _, Nat.zero_le _⟩ (fun H locs hP hD hS => ?_)
      refine lv_if_eq (tgt := 126) hx hb dX2_readTold_112 (by decide) (fun c_94 => ?_) (fun c_94 => ?_)
      · replace h := ifp_el c_94 h
        refine lv_iconst (v := (nI 0)) hx hb dX2_readTold_126 (by decide) ?_
        cases h
        rw [← hQe]
        exact W.zret hx hb hr rfl (fun t ht hW => ⟨⟨_, (), rfl, rfl, by rw [ht]; exact hP, va_K.moved hW.alike hK, hD⟩, hS.F ht⟩) hS.2.2 dX2_readTold_127
      · replace h := ifn_el c_94 h
        refine lv_aload_n hx hb dX2_readTold_115 rfl (lv_at hl 0 rfl) ?_
        obtain ⟨r_95, y_place_96, y_word_97, hg_98, h⟩ := bd3_el h
        refine kx_Vi (As := []) (rest := []) (wr := [(q_numbers, .inl (ca 0, 3, .inl y_numbers_88))]) (w1 := [(q_this, .inr (2, [.ref q_text, .ref q_numbers, .int y_place_96, .int v_letter, .int y_word_97, .int v_bits])), (q_text, .inr (6, [.ref q_text_bytes, .int v_text_length])), (q_text_bytes, .inl (ca 2, 500, .inl v_text_bytes))]) (wn := [(q_this, .inr (2, [.ref q_text, .ref q_numbers, .int y_place_96, .int v_letter, .int y_word_97, .int v_bits])), (q_text, .inr (6, [.ref q_text_bytes, .int v_text_length])), (q_text_bytes, .inl (ca 2, 500, .inl v_text_bytes)), (q_numbers, .inl (ca 0, 3, .inl y_numbers_88))]) ⟨hx, hb, hml, hown, hts⟩ (c_X2_readWord l D ca F H.size q_this q_text q_text_bytes q_numbers y_place_92 v_letter v_word v_bits v_text_length v_text_bytes r_95 y_place_96 y_word_97 hg_98) (cwV 0 hts gX2_readTold_X2_readWord rfl rfl rfl (by decide +kernel) ⟨(Nat.le_of_ble_eq_true rfl), (Nat.le_of_ble_eq_true rfl)⟩) hK hP hD hS hA (ci := 2) (q0 := 0) rfl rfl [0, 1, 2] [3] [1, 2, 3, 0] rfl rfl rfl rfl (by decide) rfl rfl rfl hl.1 rfl (Nat.le_of_ble_eq_true rfl) dX2_readTold_116 ⟨Nat.zero_le _, Nat.zero_le _⟩ (fun H locs hP hD hS => ?_)
        refine lv_if_eq (tgt := 126) hx hb dX2_readTold_119 (by decide) (fun c_99 => ?_) (fun c_99 => ?_)
        · replace h := ifp_el c_99 h
          refine lv_iconst (v := (nI 0)) hx hb dX2_readTold_126 (by decide) ?_
          cases h
          rw [← hQe]
          exact W.zret hx hb hr rfl (fun t ht hW => ⟨⟨_, (), rfl, rfl, by rw [ht]; exact hP, va_K.moved hW.alike hK, hD⟩, hS.F ht⟩) hS.2.2 dX2_readTold_127
        · replace h := ifn_el c_99 h
          refine lv_iconst (v := (nI 1)) hx hb dX2_readTold_122 (by decide) ?_
          refine lv_goto (tgt := 127) hx hb dX2_readTold_123 (by decide) ?_
          cases h
          rw [← hQe]
          exact W.zret hx hb hr rfl (fun t ht hW => ⟨⟨_, (), rfl, rfl, by rw [ht]; exact hP, va_K.moved hW.alike hK, hD⟩, hS.F ht⟩) hS.2.2 dX2_readTold_127
  replace h := ifn_el c_85 h
  have hdf : W p l e (headSpec wsX2_readTold rm_X2_readTold).room s m args below meth c s.heap [] 0 0 Q (F0 m 317 ls []) := by
    refine lv_iconst (v := (nI 0)) hx hb dX2_readTold_317 (by decide) ?_
    cases h
    rw [← hQe]
    exact W.zret hx hb hr rfl (fun t ht hW => ⟨⟨_, (), rfl, rfl, by rw [ht]; exact hP, va_K.moved hW.alike hK, hD⟩, hS.F ht⟩) hS.2.2 dX2_readTold_318
  by_cases c_100 : (v_letter).toInt < 101 ∨ 119 < (v_letter).toInt
  · exact lv_tableOut hx hb dX2_readTold_4 c_100 (by decide) hdf
  have n_c_1 := lv_neT (a := 101) c_1 (by decide)
  have n_c_16 := lv_neT (a := 103) c_16 (by decide)
  have n_c_21 := lv_neT (a := 106) c_21 (by decide)
  have n_c_26 := lv_neT (a := 107) c_26 (by decide)
  have n_c_31 := lv_neT (a := 110) c_31 (by decide)
  have n_c_46 := lv_neT (a := 111) c_46 (by decide)
  have n_c_51 := lv_neT (a := 114) c_51 (by decide)
  have n_c_65 := lv_neT (a := 115) c_65 (by decide)
  have n_c_80 := lv_neT (a := 117) c_80 (by decide)
  have n_c_85 := lv_neT (a := 119) c_85 (by decide)
  have n_h : (v_letter).toInt = 102 ∨ (v_letter).toInt = 104 ∨ (v_letter).toInt = 105 ∨ (v_letter).toInt = 108 ∨ (v_letter).toInt = 109 ∨ (v_letter).toInt = 112 ∨ (v_letter).toInt = 113 ∨ (v_letter).toInt = 116 ∨ (v_letter).toInt = 118 := by omega
  refine lv_tableIn (off := 313) (tgt := 317) hx hb dX2_readTold_4 (by omega) (by omega) ?_ (by decide) hdf
  rcases n_h with n_h | n_h | n_h | n_h | n_h | n_h | n_h | n_h | n_h <;> rw [n_h] <;> decide
def D_X2_readAt (F : Nat) (p1 : Int32) (v_place : Int32) (v_letter : Int32) (v_word : Int32) (v_bits : Int32) (v_text_length : Int32) (v_text_bytes : Nat → Int32) (v_numbers : Nat → Int32) : Option (Int32 × Int32 × Int32 × Int32 × Int32 × (Nat → Int32)) := bd1 (D_X7_at p1 v_text_length v_text_bytes) (fun r_1 => nm (p1 + (nI 1)) (fun w_3 => bd5 (D_X2_readTold F w_3 r_1 v_word v_bits v_text_length v_text_bytes v_numbers) (fun r_4 y_place_5 y_word_6 y_bits_7 y_numbers_8 => (if r_4 = 0 then some ((nI 0), y_place_5, r_1, y_word_6, y_bits_7, y_numbers_8) else bd2 (D_X2_passes (nI 59) y_place_5 v_text_length v_text_bytes) (fun r_11 y_place_12 => (if r_11 = 0 then some ((nI 0), y_place_12, r_1, y_word_6, y_bits_7, y_numbers_8) else some ((nI 1), y_place_12, r_1, y_word_6, y_bits_7, y_numbers_8)))))))
abbrev rm_X2_readAt : Room := { frames := 4, cells := 0, slots := 0, locals := 88 }
set_option maxHeartbeats 4000000 in
set_option maxRecDepth 100000 in
theorem c_X2_readAt (l : Launch) (D : va_G) (ca : Nat → ClassId) (F : Nat) (sz : Nat) (q_this q_text q_text_bytes q_numbers : Nat) (p1 : Int32) (v_place : Int32) (v_letter : Int32) (v_word : Int32) (v_bits : Int32) (v_text_length : Int32) (v_text_bytes : Nat → Int32) (v_numbers : Nat → Int32) (r : Int32) (o_place : Int32) (o_letter : Int32) (o_word : Int32) (o_bits : Int32) (o_numbers : Nat → Int32) (h : D_X2_readAt F p1 v_place v_letter v_word v_bits v_text_length v_text_bytes v_numbers = some (r, o_place, o_letter, o_word, o_bits, o_numbers)) : Met l yX2_readAt wsX2_readAt rm_X2_readAt (va_Pc [.ref q_this, .int p1] (kPre D ca [(q_this, .inr (2, [.ref q_text, .ref q_numbers, .int v_place, .int v_letter, .int v_word, .int v_bits])), (q_text, .inr (6, [.ref q_text_bytes, .int v_text_length])), (q_text_bytes, .inl (ca 2, 500, .inl v_text_bytes)), (q_numbers, .inl (ca 0, 3, .inl v_numbers))] sz)) (kQi D ca (va_A [(q_this, .inr (2, [.ref q_text, .ref q_numbers, .int v_place, .int v_letter, .int v_word, .int v_bits])), (q_text, .inr (6, [.ref q_text_bytes, .int v_text_length])), (q_text_bytes, .inl (ca 2, 500, .inl v_text_bytes)), (q_numbers, .inl (ca 0, 3, .inl v_numbers))] sz) [(q_this, .inr (2, [.ref q_text, .ref q_numbers, .int o_place, .int o_letter, .int o_word, .int o_bits])), (q_text, .inr (6, [.ref q_text_bytes, .int v_text_length])), (q_text_bytes, .inl (ca 2, 500, .inl v_text_bytes)), (q_numbers, .inl (ca 0, 3, .inl o_numbers))] r) 0 0 (va_A [(q_this, .inr (2, [.ref q_text, .ref q_numbers, .int v_place, .int v_letter, .int v_word, .int v_bits])), (q_text, .inr (6, [.ref q_text_bytes, .int v_text_length])), (q_text_bytes, .inl (ca 2, 500, .inl v_text_bytes)), (q_numbers, .inl (ca 0, 3, .inl v_numbers))] sz) := by
  refine Met.ofW (cc := cX2_readAt) (maxL := 2) (ret := (some .boolean)) (by decide +kernel) rfl ?_
  intro p e s m args below meth c s₁ B hml hv
  obtain ⟨rfl, hsz, hP, hK, hD0⟩ := hv
  have hx := B.exec
  have hb := B.bytes
  have hr := B.returns
  have hts := atoms_spec (ws := wsX2_readAt) B.pre
  have hown : s.vm.findClass RX2 = some m.cls := findClass_of_methodNamed B.named
  have hlocks := B.notSynchronized
  clear B
  subst hsz
  have hD := hD0.self (sz := s.heap.size)
  generalize hAe : va_A [(q_this, .inr (2, [.ref q_text, .ref q_numbers, .int v_place, .int v_letter, .int v_word, .int v_bits])), (q_text, .inr (6, [.ref q_text_bytes, .int v_text_length])), (q_text_bytes, .inl (ca 2, 500, .inl v_text_bytes)), (q_numbers, .inl (ca 0, 3, .inl v_numbers))] s.heap.size = A at hD ⊢
  have hA : ∀ q : Nat, s.heap.size ≤ q → A q := fun q h => by rw [← hAe]; exact Or.inr h
  have hS : va_S A s.heap s.heap [] := va_S.rf
  have hl := lv_entry ([.ref q_this, .int p1]) (n := 2) (Nat.le_of_ble_eq_true rfl)
  rw [lg_entry_eq]
  generalize (lg_sl ([.ref q_this, .int p1]) ++ List.replicate (2 - (lg_sl ([.ref q_this, .int p1])).length) Slot.unset).toArray = ls at hl ⊢
  have hl : lv_has ls 2 [(0, .ref q_this), (1, .int p1)] := hl
  generalize ([.ref q_this, .int p1] : List Value).toArray = args at hts ⊢
  generalize hQe : MQ below (kQi D ca (A) [(q_this, .inr (2, [.ref q_text, .ref q_numbers, .int o_place, .int o_letter, .int o_word, .int o_bits])), (q_text, .inr (6, [.ref q_text_bytes, .int v_text_length])), (q_text_bytes, .inl (ca 2, 500, .inl v_text_bytes)), (q_numbers, .inl (ca 0, 3, .inl o_numbers))] r) args s 0 0 A = Q
  have i_X2 : ∀ w ∈ u_ws RX2 TX2 6, w ∈ wsX2_readAt := by decide +kernel
  have k_19 := hts (.fieldLink RX2 19 "TradeWords$Item" "place" "I") (by decide +kernel)
  have k_15 := hts (.fieldLink RX2 15 "TradeWords$Item" "text" "LTradeWords$Text;") (by decide +kernel)
  have k_29 := hts (.fieldLink RX2 29 "TradeWords$Item" "letter" "I") (by decide +kernel)
  rw [D_X2_readAt] at h
  refine lv_aload_n hx hb dX2_readAt_0 rfl (lv_at hl 0 rfl) ?_
  refine lv_iload_n hx hb dX2_readAt_1 rfl (lv_at hl 1 rfl) ?_
  refine va_put (D := D) (ci := 2) (v := .int p1) (ty := .int) (C := RX2) (T := TX2) (N := 6) hx hb hts i_X2 tyX2 tyX2_ok nmX2 hown hK hP hD hS 0 rfl rfl 2 (by decide) k_19 (fun _ h9 => h9) rfl (by decide +kernel) rfl rfl (Nat.le_of_ble_eq_true rfl) dX2_readAt_2 (fun H locs hP hD hS => ?_)
  have hP : va_P D vwCl [(q_this, .inr (2, [.ref q_text, .ref q_numbers, .int p1, .int v_letter, .int v_word, .int v_bits])), (q_text, .inr (6, [.ref q_text_bytes, .int v_text_length])), (q_text_bytes, .inl (ca 2, 500, .inl v_text_bytes)), (q_numbers, .inl (ca 0, 3, .inl v_numbers))] H := hP
  have hD : va_D A [(q_this, .inr (2, [.ref q_text, .ref q_numbers, .int p1, .int v_letter, .int v_word, .int v_bits])), (q_text, .inr (6, [.ref q_text_bytes, .int v_text_length])), (q_text_bytes, .inl (ca 2, 500, .inl v_text_bytes)), (q_numbers, .inl (ca 0, 3, .inl v_numbers))] := hD
  refine lv_aload_n hx hb dX2_readAt_5 rfl (lv_at hl 0 rfl) ?_
  refine lv_aload_n hx hb dX2_readAt_6 rfl (lv_at hl 0 rfl) ?_
  refine va_get (D := D) (ci := 2) (v := .ref q_text) (C := RX2) (T := TX2) (N := 6) hx hb hts i_X2 hown hK hP 0 rfl rfl 0 (by decide) k_15 (fun _ h9 => h9) rfl dX2_readAt_7 ?_
  refine lv_aload_n hx hb dX2_readAt_10 rfl (lv_at hl 0 rfl) ?_
  refine va_get (D := D) (ci := 2) (v := .int p1) (C := RX2) (T := TX2) (N := 6) hx hb hts i_X2 hown hK hP 0 rfl rfl 2 (by decide) k_19 (fun _ h9 => h9) rfl dX2_readAt_11 ?_
  obtain ⟨r_1, hg_2, h⟩ := bd1_el h
  refine kx_Vi (As := [.int p1]) (rest := [.ref q_this]) (wr := [(q_this, .inr (2, [.ref q_text, .ref q_numbers, .int p1, .int v_letter, .int v_word, .int v_bits])), (q_numbers, .inl (ca 0, 3, .inl v_numbers))]) (w1 := [(q_text, .inr (6, [.ref q_text_bytes, .int v_text_length])), (q_text_bytes, .inl (ca 2, 500, .inl v_text_bytes))]) (wn := [(q_this, .inr (2, [.ref q_text, .ref q_numbers, .int p1, .int v_letter, .int v_word, .int v_bits])), (q_text, .inr (6, [.ref q_text_bytes, .int v_text_length])), (q_text_bytes, .inl (ca 2, 500, .inl v_text_bytes)), (q_numbers, .inl (ca 0, 3, .inl v_numbers))]) ⟨hx, hb, hml, hown, hts⟩ (c_X7_at l D ca H.size q_text q_text_bytes p1 v_text_length v_text_bytes r_1 hg_2) (cwV 1 hts gX2_readAt_X7_at rfl rfl rfl (by decide +kernel) ⟨(Nat.le_of_ble_eq_true rfl), (Nat.le_of_ble_eq_true rfl)⟩) hK hP hD hS hA (ci := 6) (q0 := 0) rfl rfl [1, 2] [0, 3] [0, 2, 3, 1] rfl rfl rfl rfl (by decide) rfl rfl rfl hl.1 rfl (Nat.le_of_ble_eq_true rfl) dX2_readAt_14 ⟨Nat.zero_le _, Nat.zero_le _⟩ (fun H locs hP hD hS => ?_)
  refine va_put (D := D) (ci := 2) (v := .int r_1) (ty := .int) (C := RX2) (T := TX2) (N := 6) hx hb hts i_X2 tyX2 tyX2_ok nmX2 hown hK hP hD hS 0 rfl rfl 3 (by decide) k_29 (fun _ h9 => h9) rfl (by decide +kernel) rfl rfl (Nat.le_of_ble_eq_true rfl) dX2_readAt_17 (fun H locs hP hD hS => ?_)
  have hP : va_P D vwCl [(q_this, .inr (2, [.ref q_text, .ref q_numbers, .int p1, .int r_1, .int v_word, .int v_bits])), (q_text, .inr (6, [.ref q_text_bytes, .int v_text_length])), (q_text_bytes, .inl (ca 2, 500, .inl v_text_bytes)), (q_numbers, .inl (ca 0, 3, .inl v_numbers))] H := hP
  have hD : va_D A [(q_this, .inr (2, [.ref q_text, .ref q_numbers, .int p1, .int r_1, .int v_word, .int v_bits])), (q_text, .inr (6, [.ref q_text_bytes, .int v_text_length])), (q_text_bytes, .inl (ca 2, 500, .inl v_text_bytes)), (q_numbers, .inl (ca 0, 3, .inl v_numbers))] := hD
  refine lv_aload_n hx hb dX2_readAt_20 rfl (lv_at hl 0 rfl) ?_
  refine lv_dup hx hb dX2_readAt_21 rfl ?_
  refine va_get (D := D) (ci := 2) (v := .int p1) (C := RX2) (T := TX2) (N := 6) hx hb hts i_X2 hown hK hP 0 rfl rfl 2 (by decide) k_19 (fun _ h9 => h9) rfl dX2_readAt_22 ?_
  refine lv_iconst (v := (nI 1)) hx hb dX2_readAt_25 (by decide) ?_
  refine lv_iadd hx hb dX2_readAt_26 ?_
  refine lv_nmi h (fun w_3 h => ?_)
  refine va_put (D := D) (ci := 2) (v := .int w_3) (ty := .int) (C := RX2) (T := TX2) (N := 6) hx hb hts i_X2 tyX2 tyX2_ok nmX2 hown hK hP hD hS 0 rfl rfl 2 (by decide) k_19 (fun _ h9 => h9) rfl (by decide +kernel) rfl rfl (Nat.le_of_ble_eq_true rfl) dX2_readAt_27 (fun H locs hP hD hS => ?_)
  have hP : va_P D vwCl [(q_this, .inr (2, [.ref q_text, .ref q_numbers, .int w_3, .int r_1, .int v_word, .int v_bits])), (q_text, .inr (6, [.ref q_text_bytes, .int v_text_length])), (q_text_bytes, .inl (ca 2, 500, .inl v_text_bytes)), (q_numbers, .inl (ca 0, 3, .inl v_numbers))] H := hP
  have hD : va_D A [(q_this, .inr (2, [.ref q_text, .ref q_numbers, .int w_3, .int r_1, .int v_word, .int v_bits])), (q_text, .inr (6, [.ref q_text_bytes, .int v_text_length])), (q_text_bytes, .inl (ca 2, 500, .inl v_text_bytes)), (q_numbers, .inl (ca 0, 3, .inl v_numbers))] := hD
  refine lv_aload_n hx hb dX2_readAt_30 rfl (lv_at hl 0 rfl) ?_
  obtain ⟨r_4, y_place_5, y_word_6, y_bits_7, y_numbers_8, hg_9, h⟩ := bd5_el h
  refine kx_Vi (As := []) (rest := []) (wr := []) (w1 := [(q_this, .inr (2, [.ref q_text, .ref q_numbers, .int y_place_5, .int r_1, .int y_word_6, .int y_bits_7])), (q_text, .inr (6, [.ref q_text_bytes, .int v_text_length])), (q_text_bytes, .inl (ca 2, 500, .inl v_text_bytes)), (q_numbers, .inl (ca 0, 3, .inl y_numbers_8))]) (wn := [(q_this, .inr (2, [.ref q_text, .ref q_numbers, .int y_place_5, .int r_1, .int y_word_6, .int y_bits_7])), (q_text, .inr (6, [.ref q_text_bytes, .int v_text_length])), (q_text_bytes, .inl (ca 2, 500, .inl v_text_bytes)), (q_numbers, .inl (ca 0, 3, .inl y_numbers_8))]) ⟨hx, hb, hml, hown, hts⟩ (c_X2_readTold l D ca F H.size q_this q_text q_text_bytes q_numbers w_3 r_1 v_word v_bits v_text_length v_text_bytes v_numbers r_4 y_place_5 y_word_6 y_bits_7 y_numbers_8 hg_9) (cwV 0 hts gX2_readAt_X2_readTold rfl rfl rfl (by decide +kernel) ⟨(Nat.le_of_ble_eq_true rfl), (Nat.le_of_ble_eq_true rfl)⟩) hK hP hD hS hA (ci := 2) (q0 := 0) rfl rfl [0, 1, 2, 3] [] [0, 1, 2, 3] rfl rfl rfl rfl (by decide) rfl rfl rfl hl.1 rfl (Nat.le_of_ble_eq_true rfl) dX2_readAt_31 ⟨Nat.zero_le _, Nat.zero_le _⟩ (fun H locs hP hD hS => ?_)
  refine lv_if_eq (tgt := 50) hx hb dX2_readAt_34 (by decide) (fun c_10 => ?_) (fun c_10 => ?_)
  · replace h := ifp_el c_10 h
    refine lv_iconst (v := (nI 0)) hx hb dX2_readAt_50 (by decide) ?_
    cases h
    rw [← hQe]
    exact W.zret hx hb hr rfl (fun t ht hW => ⟨⟨_, (), rfl, rfl, by rw [ht]; exact hP, va_K.moved hW.alike hK, hD⟩, hS.F ht⟩) hS.2.2 dX2_readAt_51
  · replace h := ifn_el c_10 h
    refine lv_aload_n hx hb dX2_readAt_37 rfl (lv_at hl 0 rfl) ?_
    refine lv_bipush (v := (nI 59)) hx hb dX2_readAt_38 (by decide) ?_
    obtain ⟨r_11, y_place_12, hg_13, h⟩ := bd2_el h
    refine kx_Vi (As := [.int (nI 59)]) (rest := []) (wr := [(q_numbers, .inl (ca 0, 3, .inl y_numbers_8))]) (w1 := [(q_this, .inr (2, [.ref q_text, .ref q_numbers, .int y_place_12, .int r_1, .int y_word_6, .int y_bits_7])), (q_text, .inr (6, [.ref q_text_bytes, .int v_text_length])), (q_text_bytes, .inl (ca 2, 500, .inl v_text_bytes))]) (wn := [(q_this, .inr (2, [.ref q_text, .ref q_numbers, .int y_place_12, .int r_1, .int y_word_6, .int y_bits_7])), (q_text, .inr (6, [.ref q_text_bytes, .int v_text_length])), (q_text_bytes, .inl (ca 2, 500, .inl v_text_bytes)), (q_numbers, .inl (ca 0, 3, .inl y_numbers_8))]) ⟨hx, hb, hml, hown, hts⟩ (c_X2_passes l D ca H.size q_this q_text q_text_bytes q_numbers (nI 59) y_place_5 r_1 y_word_6 y_bits_7 v_text_length v_text_bytes r_11 y_place_12 hg_13) (cwV 1 hts gX2_readAt_X2_passes rfl rfl rfl (by decide +kernel) ⟨(Nat.le_of_ble_eq_true rfl), (Nat.le_of_ble_eq_true rfl)⟩) hK hP hD hS hA (ci := 2) (q0 := 0) rfl rfl [0, 1, 2] [3] [1, 2, 3, 0] rfl rfl rfl rfl (by decide) rfl rfl rfl hl.1 rfl (Nat.le_of_ble_eq_true rfl) dX2_readAt_40 ⟨Nat.zero_le _, Nat.zero_le _⟩ (fun H locs hP hD hS => ?_)
    refine lv_if_eq (tgt := 50) hx hb dX2_readAt_43 (by decide) (fun c_14 => ?_) (fun c_14 => ?_)
    · replace h := ifp_el c_14 h
      refine lv_iconst (v := (nI 0)) hx hb dX2_readAt_50 (by decide) ?_
      cases h
      rw [← hQe]
      exact W.zret hx hb hr rfl (fun t ht hW => ⟨⟨_, (), rfl, rfl, by rw [ht]; exact hP, va_K.moved hW.alike hK, hD⟩, hS.F ht⟩) hS.2.2 dX2_readAt_51
    · replace h := ifn_el c_14 h
      refine lv_iconst (v := (nI 1)) hx hb dX2_readAt_46 (by decide) ?_
      refine lv_goto (tgt := 51) hx hb dX2_readAt_47 (by decide) ?_
      cases h
      rw [← hQe]
      exact W.zret hx hb hr rfl (fun t ht hW => ⟨⟨_, (), rfl, rfl, by rw [ht]; exact hP, va_K.moved hW.alike hK, hD⟩, hS.F ht⟩) hS.2.2 dX2_readAt_51
def D_X2_behind (v_place : Int32) : Option (Int32) := some (v_place)
abbrev rm_X2_behind : Room := { frames := 0, cells := 0, slots := 0, locals := 0 }
set_option maxHeartbeats 4000000 in
set_option maxRecDepth 100000 in
theorem c_X2_behind (l : Launch) (D : va_G) (ca : Nat → ClassId) (sz : Nat) (q_this q_text q_numbers : Nat) (v_place : Int32) (v_letter : Int32) (v_word : Int32) (v_bits : Int32) (r : Int32) (h : D_X2_behind v_place = some (r)) : Met l yX2_behind wsX2_behind rm_X2_behind (va_Pc [.ref q_this] (kPre D ca [(q_this, .inr (2, [.ref q_text, .ref q_numbers, .int v_place, .int v_letter, .int v_word, .int v_bits]))] sz)) (kQi D ca (va_A [(q_this, .inr (2, [.ref q_text, .ref q_numbers, .int v_place, .int v_letter, .int v_word, .int v_bits]))] sz) [(q_this, .inr (2, [.ref q_text, .ref q_numbers, .int v_place, .int v_letter, .int v_word, .int v_bits]))] r) 0 0 (va_A [(q_this, .inr (2, [.ref q_text, .ref q_numbers, .int v_place, .int v_letter, .int v_word, .int v_bits]))] sz) := by
  refine Met.ofW (cc := cX2_behind) (maxL := 1) (ret := (some .int)) (by decide +kernel) rfl ?_
  intro p e s m args below meth c s₁ B hml hv
  obtain ⟨rfl, hsz, hP, hK, hD0⟩ := hv
  have hx := B.exec
  have hb := B.bytes
  have hr := B.returns
  have hts := atoms_spec (ws := wsX2_behind) B.pre
  have hown : s.vm.findClass RX2 = some m.cls := findClass_of_methodNamed B.named
  have hlocks := B.notSynchronized
  clear B
  subst hsz
  have hD := hD0.self (sz := s.heap.size)
  generalize hAe : va_A [(q_this, .inr (2, [.ref q_text, .ref q_numbers, .int v_place, .int v_letter, .int v_word, .int v_bits]))] s.heap.size = A at hD ⊢
  have hA : ∀ q : Nat, s.heap.size ≤ q → A q := fun q h => by rw [← hAe]; exact Or.inr h
  have hS : va_S A s.heap s.heap [] := va_S.rf
  have hl := lv_entry ([.ref q_this]) (n := 1) (Nat.le_of_ble_eq_true rfl)
  rw [lg_entry_eq]
  generalize (lg_sl ([.ref q_this]) ++ List.replicate (1 - (lg_sl ([.ref q_this])).length) Slot.unset).toArray = ls at hl ⊢
  have hl : lv_has ls 1 [(0, .ref q_this)] := hl
  generalize ([.ref q_this] : List Value).toArray = args at hts ⊢
  generalize hQe : MQ below (kQi D ca (A) [(q_this, .inr (2, [.ref q_text, .ref q_numbers, .int v_place, .int v_letter, .int v_word, .int v_bits]))] r) args s 0 0 A = Q
  have i_X2 : ∀ w ∈ u_ws RX2 TX2 6, w ∈ wsX2_behind := by decide +kernel
  have k_19 := hts (.fieldLink RX2 19 "TradeWords$Item" "place" "I") (by decide +kernel)
  rw [D_X2_behind] at h
  refine lv_aload_n hx hb dX2_behind_0 rfl (lv_at hl 0 rfl) ?_
  refine va_get (D := D) (ci := 2) (v := .int v_place) (C := RX2) (T := TX2) (N := 6) hx hb hts i_X2 hown hK hP 0 rfl rfl 2 (by decide) k_19 (fun _ h9 => h9) rfl dX2_behind_1 ?_
  cases h
  rw [← hQe]
  exact W.iret hx hb hr (fun t ht hW => ⟨⟨_, (), rfl, rfl, by rw [ht]; exact hP, va_K.moved hW.alike hK, hD⟩, hS.F ht⟩) hS.2.2 dX2_behind_4
def b_X3_apart_13 (x3_3 : Int32) (rec13 : Int32 → (Nat → Int32) → Option ((Nat → Int32))) (x4_4 : Int32) (y_row_5 : Nat → Int32) : Option ((Nat → Int32)) := (if x3_3 < x4_4 then some (y_row_5) else ck 7 x4_4 (nm (x4_4 + (nI 1)) (fun x4_9 => rec13 x4_9 (upd y_row_5 x4_4.toNatClampNeg x4_4))))
def j_X3_apart_99 (x6_21 : Int32) (y_row_22 : Nat → Int32) (rec65 : Int32 → Int32 → (Nat → Int32) → Option ((Nat → Int32))) (z0_29 : Int32) : Option ((Nat → Int32)) := ck 7 x6_21 (nm (y_row_22 x6_21.toNatClampNeg) (fun x5_31 => ck 7 x6_21 (ck 7 (x6_21 - (nI 1)) (nm (if ((if (y_row_22 (x6_21 - (nI 1)).toNatClampNeg) < (y_row_22 x6_21.toNatClampNeg) then (y_row_22 (x6_21 - (nI 1)).toNatClampNeg) else (y_row_22 x6_21.toNatClampNeg)) + (nI 1)) < z0_29 then ((if (y_row_22 (x6_21 - (nI 1)).toNatClampNeg) < (y_row_22 x6_21.toNatClampNeg) then (y_row_22 (x6_21 - (nI 1)).toNatClampNeg) else (y_row_22 x6_21.toNatClampNeg)) + (nI 1)) else z0_29) (fun w_34 => ck 7 x6_21 (nm (x6_21 + (nI 1)) (fun x6_36 => rec65 x5_31 x6_36 (upd y_row_22 x6_21.toNatClampNeg w_34))))))))
def b_X3_apart_65 (p1 : Int32) (p2 : Int32) (x3_3 : Int32) (x4_11 : Int32) (rec65 : Int32 → Int32 → (Nat → Int32) → Option ((Nat → Int32))) (x5_20 : Int32) (x6_21 : Int32) (y_row_22 : Nat → Int32) : Option ((Nat → Int32)) := (if x3_3 < x6_21 then some (y_row_22) else bd1 (D_X8_soundAt p1 (x4_11 - (nI 1))) (fun r_25 => bd1 (D_X8_soundAt p2 (x6_21 - (nI 1))) (fun r_27 => (if r_25 = r_27 then j_X3_apart_99 x6_21 y_row_22 rec65 x5_20 else j_X3_apart_99 x6_21 y_row_22 rec65 (x5_20 + (nI 1))))))
def b_X3_apart_37 (p1 : Int32) (p2 : Int32) (F : Nat) (x3_3 : Int32) (rec37 : Int32 → (Nat → Int32) → Option ((Nat → Int32))) (x4_11 : Int32) (y_row_12 : Nat → Int32) : Option ((Nat → Int32)) := bd1 (D_X8_length p1) (fun r_14 => (if r_14 < x4_11 then some (y_row_12) else ck 7 (nI 0) (nm (y_row_12 (nI 0).toNatClampNeg) (fun x5_18 => ck 7 (nI 0) (bd1 (lpg (T := Int32 → Int32 → (Nat → Int32) → Option ((Nat → Int32))) (fun _ _ _ => none) (b_X3_apart_65 p1 p2 x3_3 x4_11) F x5_18 (nI 1) (upd y_row_12 (nI 0).toNatClampNeg x4_11)) (fun o_23 => nm (x4_11 + (nI 1)) (fun x4_39 => rec37 x4_39 o_23)))))))
def D_X3_apart (F : Nat) (p1 : Int32) (p2 : Int32) (v_row : Nat → Int32) : Option (Int32 × (Nat → Int32)) := bd1 (D_X8_length p2) (fun r_1 => nm (if (nI 6) < r_1 then (nI 6) else r_1) (fun x3_3 => bd1 (lpg (T := Int32 → (Nat → Int32) → Option ((Nat → Int32))) (fun _ _ => none) (b_X3_apart_13 x3_3) F (nI 0) v_row) (fun o_6 => bd1 (lpg (T := Int32 → (Nat → Int32) → Option ((Nat → Int32))) (fun _ _ => none) (b_X3_apart_37 p1 p2 F x3_3) F (nI 1) o_6) (fun o_13 => ck 7 x3_3 (some ((o_13 x3_3.toNatClampNeg), o_13))))))
abbrev rm_X3_apart : Room := { frames := 1, cells := 0, slots := 0, locals := 21 }
set_option maxHeartbeats 4000000 in
set_option maxRecDepth 100000 in
theorem c_X3_apart (l : Launch) (D : va_G) (ca : Nat → ClassId) (F : Nat) (sz : Nat) (q_this q_row : Nat) (p1 : Int32) (p2 : Int32) (v_row : Nat → Int32) (r : Int32) (o_row : Nat → Int32) (h : D_X3_apart F p1 p2 v_row = some (r, o_row)) : Met l yX3_apart wsX3_apart rm_X3_apart (va_Pc [.ref q_this, .int p1, .int p2] (kPre D ca [(q_this, .inr (3, [.ref q_row])), (q_row, .inl (ca 0, 7, .inl v_row))] sz)) (kQi D ca (va_A [(q_this, .inr (3, [.ref q_row])), (q_row, .inl (ca 0, 7, .inl v_row))] sz) [(q_this, .inr (3, [.ref q_row])), (q_row, .inl (ca 0, 7, .inl o_row))] r) 0 0 (va_A [(q_this, .inr (3, [.ref q_row])), (q_row, .inl (ca 0, 7, .inl v_row))] sz) := by
  refine Met.ofW (cc := cX3_apart) (maxL := 8) (ret := (some .int)) (by decide +kernel) rfl ?_
  intro p e s m args below meth c s₁ B hml hv
  obtain ⟨rfl, hsz, hP, hK, hD0⟩ := hv
  have hx := B.exec
  have hb := B.bytes
  have hr := B.returns
  have hts := atoms_spec (ws := wsX3_apart) B.pre
  have hown : s.vm.findClass RX3 = some m.cls := findClass_of_methodNamed B.named
  have hlocks := B.notSynchronized
  clear B
  subst hsz
  have hD := hD0.self (sz := s.heap.size)
  generalize hAe : va_A [(q_this, .inr (3, [.ref q_row])), (q_row, .inl (ca 0, 7, .inl v_row))] s.heap.size = A at hD ⊢
  have hA : ∀ q : Nat, s.heap.size ≤ q → A q := fun q h => by rw [← hAe]; exact Or.inr h
  have hS : va_S A s.heap s.heap [] := va_S.rf
  have hl := lv_entry ([.ref q_this, .int p1, .int p2]) (n := 8) (Nat.le_of_ble_eq_true rfl)
  rw [lg_entry_eq]
  generalize (lg_sl ([.ref q_this, .int p1, .int p2]) ++ List.replicate (8 - (lg_sl ([.ref q_this, .int p1, .int p2])).length) Slot.unset).toArray = ls at hl ⊢
  have hl : lv_has ls 8 [(0, .ref q_this), (1, .int p1), (2, .int p2)] := hl
  generalize ([.ref q_this, .int p1, .int p2] : List Value).toArray = args at hts ⊢
  generalize hQe : MQ below (kQi D ca (A) [(q_this, .inr (3, [.ref q_row])), (q_row, .inl (ca 0, 7, .inl o_row))] r) args s 0 0 A = Q
  have k_21 := hts (.methodLink RX3 21 Lib.Math.min.name) (by decide +kernel)
  have ks_min := hts (.static Lib.Math.min.name) (by decide +kernel)
  have ki_math := hts (.initialized "java/lang/Math") (by decide +kernel)
  have kc_min := hts (.code Lib.Math.min.name Lib.Math.min.code 2 (some .int)) (by decide +kernel)
  have i_X3 : ∀ w ∈ u_ws RX3 TX3 1, w ∈ wsX3_apart := by decide +kernel
  have k_9 := hts (.fieldLink RX3 9 "TradeWords$Measure" "row" "[I") (by decide +kernel)
  rw [D_X3_apart] at h
  refine lv_iload_n hx hb dX3_apart_0 rfl (lv_at hl 2 rfl) ?_
  obtain ⟨r_1, hg_2, h⟩ := bd1_el h
  refine kx_Si (As := [.int p2]) (rest := []) (wr := [(q_this, .inr (3, [.ref q_row])), (q_row, .inl (ca 0, 7, .inl v_row))]) (w1 := []) (wn := [(q_this, .inr (3, [.ref q_row])), (q_row, .inl (ca 0, 7, .inl v_row))]) ⟨hx, hb, hml, hown, hts⟩ (c_X8_length l D ca s.heap.size p2 r_1 hg_2) (va_cwS 1 hts gX3_apart_X8_length rfl rfl rfl (by decide +kernel) ⟨(Nat.le_of_ble_eq_true rfl), (Nat.le_of_ble_eq_true rfl)⟩) hK hP hD hS hA [] [0, 1] [0, 1] rfl rfl rfl rfl (by decide) rfl rfl rfl hl.1 rfl (Nat.le_of_ble_eq_true rfl) dX3_apart_1 ⟨Nat.zero_le _, Nat.zero_le _⟩ (fun H locs hP hD hS => ?_)
  refine lv_bipush (v := (nI 6)) hx hb dX3_apart_4 (by decide) ?_
  refine va_mmin hx hb (by rw [hml]; exact hl.1.symm) hown k_21 ks_min ki_math kc_min (Nat.le_of_ble_eq_true rfl) (Nat.le_of_ble_eq_true rfl) (Nat.zero_le _) (Nat.zero_le _) dX3_apart_6 ?_
  refine lv_nmi h (fun x3_3 h => ?_)
  refine lv_istore_n (lv' := [(3, .int x3_3), (0, .ref q_this), (1, .int p1), (2, .int p2)]) hx hb dX3_apart_9 rfl hl (by decide) rfl (fun ls hl => ?_)
  refine lv_iconst (v := (nI 0)) hx hb dX3_apart_10 (by decide) ?_
  refine lv_istore (lv' := [(4, .int (nI 0)), (3, .int x3_3), (0, .ref q_this), (1, .int p1), (2, .int p2)]) hx hb dX3_apart_11 hl (by decide) rfl (fun ls hl => ?_)
  obtain ⟨o_6, hL, h⟩ := bd1_el h
  have hex : ∀ (H : Heap) (locs : List Loc) (ls : Array Slot), va_P D vwCl [(q_this, .inr (3, [.ref q_row])), (q_row, .inl (ca 0, 7, .inl o_6))] H → va_D A [(q_this, .inr (3, [.ref q_row])), (q_row, .inl (ca 0, 7, .inl o_6))] → va_S A s.heap H locs → lv_has ls 8 [(0, .ref q_this), (1, .int p1), (2, .int p2), (3, .int x3_3)] → W p l e (headSpec wsX3_apart rm_X3_apart).room s m args below meth c H locs 0 0 Q (F0 m 34 ls []) := by
    intro H locs ls hP hD hS hl
    refine lv_iconst (v := (nI 1)) hx hb dX3_apart_34 (by decide) ?_
    refine lv_istore (lv' := [(4, .int (nI 1)), (0, .ref q_this), (1, .int p1), (2, .int p2), (3, .int x3_3)]) hx hb dX3_apart_35 hl (by decide) rfl (fun ls hl => ?_)
    obtain ⟨o_13, hL, h⟩ := bd1_el h
    have hex : ∀ (H : Heap) (locs : List Loc) (ls : Array Slot), va_P D vwCl [(q_this, .inr (3, [.ref q_row])), (q_row, .inl (ca 0, 7, .inl o_13))] H → va_D A [(q_this, .inr (3, [.ref q_row])), (q_row, .inl (ca 0, 7, .inl o_13))] → va_S A s.heap H locs → lv_has ls 8 [(0, .ref q_this), (3, .int x3_3)] → W p l e (headSpec wsX3_apart rm_X3_apart).room s m args below meth c H locs 0 0 Q (F0 m 155 ls []) := by
      intro H locs ls hP hD hS hl
      refine lv_aload_n hx hb dX3_apart_155 rfl (lv_at hl 0 rfl) ?_
      refine va_get (D := D) (ci := 3) (v := .ref q_row) (C := RX3) (T := TX3) (N := 1) hx hb hts i_X3 hown hK hP 0 rfl rfl 0 (by decide) k_9 (fun _ h9 => h9) rfl dX3_apart_156 ?_
      refine lv_iload_n hx hb dX3_apart_159 rfl (lv_at hl 1 rfl) ?_
      obtain ⟨hi_41, h⟩ := ck_el h
      refine va_iald hx hb hK hP 1 0 rfl rfl hi_41 dX3_apart_160 ?_
      cases h
      rw [← hQe]
      exact W.iret hx hb hr (fun t ht hW => ⟨⟨_, (), rfl, rfl, by rw [ht]; exact hP, va_K.moved hW.alike hK, hD⟩, hS.F ht⟩) hS.2.2 dX3_apart_161
    have hlp : ∀ (n : Nat) (x4_11 : Int32) (y_row_12 : Nat → Int32) (o_13 : Nat → Int32) (H : Heap) (locs : List Loc) (ls : Array Slot), lpg (T := Int32 → (Nat → Int32) → Option ((Nat → Int32))) (fun _ _ => none) (b_X3_apart_37 p1 p2 F x3_3) n x4_11 y_row_12 = some (o_13) → (∀ (H : Heap) (locs : List Loc) (ls : Array Slot), va_P D vwCl [(q_this, .inr (3, [.ref q_row])), (q_row, .inl (ca 0, 7, .inl o_13))] H → va_D A [(q_this, .inr (3, [.ref q_row])), (q_row, .inl (ca 0, 7, .inl o_13))] → va_S A s.heap H locs → lv_has ls 8 [(0, .ref q_this), (3, .int x3_3)] → W p l e (headSpec wsX3_apart rm_X3_apart).room s m args below meth c H locs 0 0 Q (F0 m 155 ls [])) → va_P D vwCl [(q_this, .inr (3, [.ref q_row])), (q_row, .inl (ca 0, 7, .inl y_row_12))] H → va_D A [(q_this, .inr (3, [.ref q_row])), (q_row, .inl (ca 0, 7, .inl y_row_12))] → va_S A s.heap H locs → lv_has ls 8 [(0, .ref q_this), (1, .int p1), (2, .int p2), (3, .int x3_3), (4, .int x4_11)] → W p l e (headSpec wsX3_apart rm_X3_apart).room s m args below meth c H locs 0 0 Q (F0 m 37 ls []) := by
      intro n
      induction n with
      | zero => intro x4_11 y_row_12 o_13 H locs ls h; have h : (none : Option ((Nat → Int32))) = some _ := h; cases h
      | succ n ih =>
        intro x4_11 y_row_12 o_13 H locs ls h hex hP hD hS hl
        rw [lpg_succ, b_X3_apart_37] at h
        refine lv_iload hx hb dX3_apart_37 (lv_at hl 4 rfl) ?_
        refine lv_iload_n hx hb dX3_apart_39 rfl (lv_at hl 1 rfl) ?_
        obtain ⟨r_14, hg_15, h⟩ := bd1_el h
        refine kx_Si (As := [.int p1]) (rest := [.int x4_11]) (wr := [(q_this, .inr (3, [.ref q_row])), (q_row, .inl (ca 0, 7, .inl y_row_12))]) (w1 := []) (wn := [(q_this, .inr (3, [.ref q_row])), (q_row, .inl (ca 0, 7, .inl y_row_12))]) ⟨hx, hb, hml, hown, hts⟩ (c_X8_length l D ca H.size p1 r_14 hg_15) (va_cwS 1 hts gX3_apart_X8_length rfl rfl rfl (by decide +kernel) ⟨(Nat.le_of_ble_eq_true rfl), (Nat.le_of_ble_eq_true rfl)⟩) hK hP hD hS hA [] [0, 1] [0, 1] rfl rfl rfl rfl (by decide) rfl rfl rfl hl.1 rfl (Nat.le_of_ble_eq_true rfl) dX3_apart_40 ⟨Nat.zero_le _, Nat.zero_le _⟩ (fun H locs hP hD hS => ?_)
        refine lv_icmp_gt (tgt := 155) hx hb dX3_apart_43 (by decide) (fun c_16 => ?_) (fun c_16 => ?_)
        · replace h := ifp_el c_16 h
          cases h
          exact hex _ _ _ hP hD hS (lv_sub hl [0, 3] rfl)
        · replace h := ifn_el c_16 h
          refine lv_aload_n hx hb dX3_apart_46 rfl (lv_at hl 0 rfl) ?_
          refine va_get (D := D) (ci := 3) (v := .ref q_row) (C := RX3) (T := TX3) (N := 1) hx hb hts i_X3 hown hK hP 0 rfl rfl 0 (by decide) k_9 (fun _ h9 => h9) rfl dX3_apart_47 ?_
          refine lv_iconst (v := (nI 0)) hx hb dX3_apart_50 (by decide) ?_
          obtain ⟨hi_17, h⟩ := ck_el h
          refine va_iald hx hb hK hP 1 0 rfl rfl hi_17 dX3_apart_51 ?_
          refine lv_nmi h (fun x5_18 h => ?_)
          refine lv_istore (lv' := [(5, .int x5_18), (0, .ref q_this), (1, .int p1), (2, .int p2), (3, .int x3_3), (4, .int x4_11)]) hx hb dX3_apart_52 hl (by decide) rfl (fun ls hl => ?_)
          refine lv_aload_n hx hb dX3_apart_54 rfl (lv_at hl 1 rfl) ?_
          refine va_get (D := D) (ci := 3) (v := .ref q_row) (C := RX3) (T := TX3) (N := 1) hx hb hts i_X3 hown hK hP 0 rfl rfl 0 (by decide) k_9 (fun _ h9 => h9) rfl dX3_apart_55 ?_
          refine lv_iconst (v := (nI 0)) hx hb dX3_apart_58 (by decide) ?_
          refine lv_iload hx hb dX3_apart_59 (lv_at hl 5 rfl) ?_
          obtain ⟨hi_19, h⟩ := ck_el h
          refine va_iast hx hb hK hP hD hS 1 0 rfl rfl hi_19 dX3_apart_61 (fun H locs hP hD hS => ?_)
          have hP : va_P D vwCl [(q_this, .inr (3, [.ref q_row])), (q_row, .inl (ca 0, 7, .inl (upd y_row_12 (nI 0).toNatClampNeg x4_11)))] H := hP
          have hD : va_D A [(q_this, .inr (3, [.ref q_row])), (q_row, .inl (ca 0, 7, .inl (upd y_row_12 (nI 0).toNatClampNeg x4_11)))] := hD
          refine lv_iconst (v := (nI 1)) hx hb dX3_apart_62 (by decide) ?_
          refine lv_istore (lv' := [(6, .int (nI 1)), (5, .int x5_18), (0, .ref q_this), (1, .int p1), (2, .int p2), (3, .int x3_3), (4, .int x4_11)]) hx hb dX3_apart_63 hl (by decide) rfl (fun ls hl => ?_)
          obtain ⟨o_23, hL, h⟩ := bd1_el h
          have hex : ∀ (H : Heap) (locs : List Loc) (ls : Array Slot), va_P D vwCl [(q_this, .inr (3, [.ref q_row])), (q_row, .inl (ca 0, 7, .inl o_23))] H → va_D A [(q_this, .inr (3, [.ref q_row])), (q_row, .inl (ca 0, 7, .inl o_23))] → va_S A s.heap H locs → lv_has ls 8 [(0, .ref q_this), (1, .int p1), (2, .int p2), (3, .int x3_3), (4, .int x4_11)] → W p l e (headSpec wsX3_apart rm_X3_apart).room s m args below meth c H locs 0 0 Q (F0 m 149 ls []) := by
            intro H locs ls hP hD hS hl
            obtain ⟨x4_39, e_40, h⟩ := nm_el h
            refine lv_iinc (v := x4_39) (lv' := [(4, .int x4_39), (0, .ref q_this), (1, .int p1), (2, .int p2), (3, .int x3_3)]) hx hb dX3_apart_149 hl (k := 4) rfl (by rw [← e_40]; rfl) (by decide) rfl (fun ls hl => ?_)
            refine lv_goto (tgt := 37) hx hb dX3_apart_152 (by decide) ?_
            exact ih _ _ _ _ _ _ h hex hP hD hS (lv_sub hl [1, 2, 3, 4, 0] rfl)
          have hlp : ∀ (n : Nat) (x5_20 : Int32) (x6_21 : Int32) (y_row_22 : Nat → Int32) (o_23 : Nat → Int32) (H : Heap) (locs : List Loc) (ls : Array Slot), lpg (T := Int32 → Int32 → (Nat → Int32) → Option ((Nat → Int32))) (fun _ _ _ => none) (b_X3_apart_65 p1 p2 x3_3 x4_11) n x5_20 x6_21 y_row_22 = some (o_23) → (∀ (H : Heap) (locs : List Loc) (ls : Array Slot), va_P D vwCl [(q_this, .inr (3, [.ref q_row])), (q_row, .inl (ca 0, 7, .inl o_23))] H → va_D A [(q_this, .inr (3, [.ref q_row])), (q_row, .inl (ca 0, 7, .inl o_23))] → va_S A s.heap H locs → lv_has ls 8 [(0, .ref q_this), (1, .int p1), (2, .int p2), (3, .int x3_3), (4, .int x4_11)] → W p l e (headSpec wsX3_apart rm_X3_apart).room s m args below meth c H locs 0 0 Q (F0 m 149 ls [])) → va_P D vwCl [(q_this, .inr (3, [.ref q_row])), (q_row, .inl (ca 0, 7, .inl y_row_22))] H → va_D A [(q_this, .inr (3, [.ref q_row])), (q_row, .inl (ca 0, 7, .inl y_row_22))] → va_S A s.heap H locs → lv_has ls 8 [(0, .ref q_this), (1, .int p1), (2, .int p2), (3, .int x3_3), (4, .int x4_11), (5, .int x5_20), (6, .int x6_21)] → W p l e (headSpec wsX3_apart rm_X3_apart).room s m args below meth c H locs 0 0 Q (F0 m 65 ls []) := by
            intro n
            induction n with
            | zero => intro x5_20 x6_21 y_row_22 o_23 H locs ls h; have h : (none : Option ((Nat → Int32))) = some _ := h; cases h
            | succ n ih =>
              intro x5_20 x6_21 y_row_22 o_23 H locs ls h hex hP hD hS hl
              rw [lpg_succ, b_X3_apart_65] at h
              refine lv_iload hx hb dX3_apart_65 (lv_at hl 6 rfl) ?_
              refine lv_iload_n hx hb dX3_apart_67 rfl (lv_at hl 3 rfl) ?_
              refine lv_icmp_gt (tgt := 149) hx hb dX3_apart_68 (by decide) (fun c_24 => ?_) (fun c_24 => ?_)
              · replace h := ifp_el c_24 h
                cases h
                exact hex _ _ _ hP hD hS (lv_sub hl [0, 1, 2, 3, 4] rfl)
              · replace h := ifn_el c_24 h
                refine lv_iload_n hx hb dX3_apart_71 rfl (lv_at hl 1 rfl) ?_
                refine lv_iload hx hb dX3_apart_72 (lv_at hl 4 rfl) ?_
                refine lv_iconst (v := (nI 1)) hx hb dX3_apart_74 (by decide) ?_
                refine lv_isub hx hb dX3_apart_75 ?_
                obtain ⟨r_25, hg_26, h⟩ := bd1_el h
                refine kx_Si (As := [.int p1, .int (x4_11 - (nI 1))]) (rest := []) (wr := [(q_this, .inr (3, [.ref q_row])), (q_row, .inl (ca 0, 7, .inl y_row_22))]) (w1 := []) (wn := [(q_this, .inr (3, [.ref q_row])), (q_row, .inl (ca 0, 7, .inl y_row_22))]) ⟨hx, hb, hml, hown, hts⟩ (c_X8_soundAt l D ca H.size p1 (x4_11 - (nI 1)) r_25 hg_26) (va_cwS 2 hts gX3_apart_X8_soundAt rfl rfl rfl (by decide +kernel) ⟨(Nat.le_of_ble_eq_true rfl), (Nat.le_of_ble_eq_true rfl)⟩) hK hP hD hS hA [] [0, 1] [0, 1] rfl rfl rfl rfl (by decide) rfl rfl rfl hl.1 rfl (Nat.le_of_ble_eq_true rfl) dX3_apart_76 ⟨Nat.zero_le _, Nat.zero_le _⟩ (fun H locs hP hD hS => ?_)
                refine lv_iload_n hx hb dX3_apart_79 rfl (lv_at hl 2 rfl) ?_
                refine lv_iload hx hb dX3_apart_80 (lv_at hl 6 rfl) ?_
                refine lv_iconst (v := (nI 1)) hx hb dX3_apart_82 (by decide) ?_
                refine lv_isub hx hb dX3_apart_83 ?_
                obtain ⟨r_27, hg_28, h⟩ := bd1_el h
                refine kx_Si (As := [.int p2, .int (x6_21 - (nI 1))]) (rest := [.int r_25]) (wr := [(q_this, .inr (3, [.ref q_row])), (q_row, .inl (ca 0, 7, .inl y_row_22))]) (w1 := []) (wn := [(q_this, .inr (3, [.ref q_row])), (q_row, .inl (ca 0, 7, .inl y_row_22))]) ⟨hx, hb, hml, hown, hts⟩ (c_X8_soundAt l D ca H.size p2 (x6_21 - (nI 1)) r_27 hg_28) (va_cwS 2 hts gX3_apart_X8_soundAt rfl rfl rfl (by decide +kernel) ⟨(Nat.le_of_ble_eq_true rfl), (Nat.le_of_ble_eq_true rfl)⟩) hK hP hD hS hA [] [0, 1] [0, 1] rfl rfl rfl rfl (by decide) rfl rfl rfl hl.1 rfl (Nat.le_of_ble_eq_true rfl) dX3_apart_84 ⟨Nat.zero_le _, Nat.zero_le _⟩ (fun H locs hP hD hS => ?_)
                have hj_99 : ∀ (z0_29 : Int32) (H : Heap) (locs : List Loc) (ls : Array Slot), j_X3_apart_99 x6_21 y_row_22 (lpg (T := Int32 → Int32 → (Nat → Int32) → Option ((Nat → Int32))) (fun _ _ _ => none) (b_X3_apart_65 p1 p2 x3_3 x4_11) n) z0_29 = some (o_23) → va_P D vwCl [(q_this, .inr (3, [.ref q_row])), (q_row, .inl (ca 0, 7, .inl y_row_22))] H → va_D A [(q_this, .inr (3, [.ref q_row])), (q_row, .inl (ca 0, 7, .inl y_row_22))] → va_S A s.heap H locs → lv_has ls 8 [(0, .ref q_this), (1, .int p1), (2, .int p2), (3, .int x3_3), (4, .int x4_11), (6, .int x6_21)] → W p l e (headSpec wsX3_apart rm_X3_apart).room s m args below meth c H locs 0 0 Q (F0 m 99 ls [.int z0_29]) := by
                  intro z0_29 H locs ls h hP hD hS hl
                  rw [j_X3_apart_99] at h
                  refine lv_istore (lv' := [(7, .int z0_29), (0, .ref q_this), (1, .int p1), (2, .int p2), (3, .int x3_3), (4, .int x4_11), (6, .int x6_21)]) hx hb dX3_apart_99 hl (by decide) rfl (fun ls hl => ?_)
                  refine lv_aload_n hx hb dX3_apart_101 rfl (lv_at hl 1 rfl) ?_
                  refine va_get (D := D) (ci := 3) (v := .ref q_row) (C := RX3) (T := TX3) (N := 1) hx hb hts i_X3 hown hK hP 0 rfl rfl 0 (by decide) k_9 (fun _ h9 => h9) rfl dX3_apart_102 ?_
                  refine lv_iload hx hb dX3_apart_105 (lv_at hl 6 rfl) ?_
                  obtain ⟨hi_30, h⟩ := ck_el h
                  refine va_iald hx hb hK hP 1 0 rfl rfl hi_30 dX3_apart_107 ?_
                  refine lv_nmi h (fun x5_31 h => ?_)
                  refine lv_istore (lv' := [(5, .int x5_31), (7, .int z0_29), (0, .ref q_this), (1, .int p1), (2, .int p2), (3, .int x3_3), (4, .int x4_11), (6, .int x6_21)]) hx hb dX3_apart_108 hl (by decide) rfl (fun ls hl => ?_)
                  refine lv_aload_n hx hb dX3_apart_110 rfl (lv_at hl 2 rfl) ?_
                  refine va_get (D := D) (ci := 3) (v := .ref q_row) (C := RX3) (T := TX3) (N := 1) hx hb hts i_X3 hown hK hP 0 rfl rfl 0 (by decide) k_9 (fun _ h9 => h9) rfl dX3_apart_111 ?_
                  refine lv_iload hx hb dX3_apart_114 (lv_at hl 7 rfl) ?_
                  refine lv_iload hx hb dX3_apart_116 (lv_at hl 1 rfl) ?_
                  refine lv_aload_n hx hb dX3_apart_118 rfl (lv_at hl 2 rfl) ?_
                  refine va_get (D := D) (ci := 3) (v := .ref q_row) (C := RX3) (T := TX3) (N := 1) hx hb hts i_X3 hown hK hP 0 rfl rfl 0 (by decide) k_9 (fun _ h9 => h9) rfl dX3_apart_119 ?_
                  refine lv_iload hx hb dX3_apart_122 (lv_at hl 7 rfl) ?_
                  obtain ⟨hi_32, h⟩ := ck_el h
                  refine va_iald hx hb hK hP 1 0 rfl rfl hi_32 dX3_apart_124 ?_
                  refine lv_aload_n hx hb dX3_apart_125 rfl (lv_at hl 2 rfl) ?_
                  refine va_get (D := D) (ci := 3) (v := .ref q_row) (C := RX3) (T := TX3) (N := 1) hx hb hts i_X3 hown hK hP 0 rfl rfl 0 (by decide) k_9 (fun _ h9 => h9) rfl dX3_apart_126 ?_
                  refine lv_iload hx hb dX3_apart_129 (lv_at hl 7 rfl) ?_
                  refine lv_iconst (v := (nI 1)) hx hb dX3_apart_131 (by decide) ?_
                  refine lv_isub hx hb dX3_apart_132 ?_
                  obtain ⟨hi_33, h⟩ := ck_el h
                  refine va_iald hx hb hK hP 1 0 rfl rfl hi_33 dX3_apart_133 ?_
                  refine va_mmin hx hb (by rw [hml]; exact hl.1.symm) hown k_21 ks_min ki_math kc_min (Nat.le_of_ble_eq_true rfl) (Nat.le_of_ble_eq_true rfl) (Nat.zero_le _) (Nat.zero_le _) dX3_apart_134 ?_
                  refine lv_iconst (v := (nI 1)) hx hb dX3_apart_137 (by decide) ?_
                  refine lv_iadd hx hb dX3_apart_138 ?_
                  refine va_mmin hx hb (by rw [hml]; exact hl.1.symm) hown k_21 ks_min ki_math kc_min (Nat.le_of_ble_eq_true rfl) (Nat.le_of_ble_eq_true rfl) (Nat.zero_le _) (Nat.zero_le _) dX3_apart_139 ?_
                  refine lv_nmi h (fun w_34 h => ?_)
                  obtain ⟨hi_35, h⟩ := ck_el h
                  refine va_iast hx hb hK hP hD hS 1 0 rfl rfl hi_35 dX3_apart_142 (fun H locs hP hD hS => ?_)
                  have hP : va_P D vwCl [(q_this, .inr (3, [.ref q_row])), (q_row, .inl (ca 0, 7, .inl (upd y_row_22 x6_21.toNatClampNeg w_34)))] H := hP
                  have hD : va_D A [(q_this, .inr (3, [.ref q_row])), (q_row, .inl (ca 0, 7, .inl (upd y_row_22 x6_21.toNatClampNeg w_34)))] := hD
                  obtain ⟨x6_36, e_37, h⟩ := nm_el h
                  refine lv_iinc (v := x6_36) (lv' := [(6, .int x6_36), (5, .int x5_31), (7, .int z0_29), (0, .ref q_this), (1, .int p1), (2, .int p2), (3, .int x3_3), (4, .int x4_11)]) hx hb dX3_apart_143 hl (k := 7) rfl (by rw [← e_37]; rfl) (by decide) rfl (fun ls hl => ?_)
                  refine lv_goto (tgt := 65) hx hb dX3_apart_146 (by decide) ?_
                  exact ih _ _ _ _ _ _ _ h hex hP hD hS (lv_sub hl [3, 4, 5, 6, 7, 1, 0] rfl)
                refine lv_icmp_ne (tgt := 95) hx hb dX3_apart_87 (by decide) (fun c_38 => ?_) (fun c_38 => ?_)
                · replace h := ifn_el c_38 h
                  refine lv_iload hx hb dX3_apart_95 (lv_at hl 5 rfl) ?_
                  refine lv_iconst (v := (nI 1)) hx hb dX3_apart_97 (by decide) ?_
                  refine lv_iadd hx hb dX3_apart_98 ?_
                  exact hj_99 _ _ _ _ h hP hD hS (lv_sub hl [0, 1, 2, 3, 4, 6] rfl)
                · replace h := ifp_el c_38 h
                  refine lv_iload hx hb dX3_apart_90 (lv_at hl 5 rfl) ?_
                  refine lv_goto (tgt := 99) hx hb dX3_apart_92 (by decide) ?_
                  exact hj_99 _ _ _ _ h hP hD hS (lv_sub hl [0, 1, 2, 3, 4, 6] rfl)
          exact hlp F x5_18 (nI 1) (upd y_row_12 (nI 0).toNatClampNeg x4_11) o_23 H locs ls hL hex hP hD hS (lv_sub hl [2, 3, 4, 5, 6, 1, 0] rfl)
    exact hlp F (nI 1) o_6 o_13 H locs ls hL hex hP hD hS (lv_sub hl [1, 2, 3, 4, 0] rfl)
  have hlp : ∀ (n : Nat) (x4_4 : Int32) (y_row_5 : Nat → Int32) (o_6 : Nat → Int32) (H : Heap) (locs : List Loc) (ls : Array Slot), lpg (T := Int32 → (Nat → Int32) → Option ((Nat → Int32))) (fun _ _ => none) (b_X3_apart_13 x3_3) n x4_4 y_row_5 = some (o_6) → (∀ (H : Heap) (locs : List Loc) (ls : Array Slot), va_P D vwCl [(q_this, .inr (3, [.ref q_row])), (q_row, .inl (ca 0, 7, .inl o_6))] H → va_D A [(q_this, .inr (3, [.ref q_row])), (q_row, .inl (ca 0, 7, .inl o_6))] → va_S A s.heap H locs → lv_has ls 8 [(0, .ref q_this), (1, .int p1), (2, .int p2), (3, .int x3_3)] → W p l e (headSpec wsX3_apart rm_X3_apart).room s m args below meth c H locs 0 0 Q (F0 m 34 ls [])) → va_P D vwCl [(q_this, .inr (3, [.ref q_row])), (q_row, .inl (ca 0, 7, .inl y_row_5))] H → va_D A [(q_this, .inr (3, [.ref q_row])), (q_row, .inl (ca 0, 7, .inl y_row_5))] → va_S A s.heap H locs → lv_has ls 8 [(0, .ref q_this), (1, .int p1), (2, .int p2), (3, .int x3_3), (4, .int x4_4)] → W p l e (headSpec wsX3_apart rm_X3_apart).room s m args below meth c H locs 0 0 Q (F0 m 13 ls []) := by
    intro n
    induction n with
    | zero => intro x4_4 y_row_5 o_6 H locs ls h; have h : (none : Option ((Nat → Int32))) = some _ := h; cases h
    | succ n ih =>
      intro x4_4 y_row_5 o_6 H locs ls h hex hP hD hS hl
      rw [lpg_succ, b_X3_apart_13] at h
      refine lv_iload hx hb dX3_apart_13 (lv_at hl 4 rfl) ?_
      refine lv_iload_n hx hb dX3_apart_15 rfl (lv_at hl 3 rfl) ?_
      refine lv_icmp_gt (tgt := 34) hx hb dX3_apart_16 (by decide) (fun c_7 => ?_) (fun c_7 => ?_)
      · replace h := ifp_el c_7 h
        cases h
        exact hex _ _ _ hP hD hS (lv_sub hl [0, 1, 2, 3] rfl)
      · replace h := ifn_el c_7 h
        refine lv_aload_n hx hb dX3_apart_19 rfl (lv_at hl 0 rfl) ?_
        refine va_get (D := D) (ci := 3) (v := .ref q_row) (C := RX3) (T := TX3) (N := 1) hx hb hts i_X3 hown hK hP 0 rfl rfl 0 (by decide) k_9 (fun _ h9 => h9) rfl dX3_apart_20 ?_
        refine lv_iload hx hb dX3_apart_23 (lv_at hl 4 rfl) ?_
        refine lv_iload hx hb dX3_apart_25 (lv_at hl 4 rfl) ?_
        obtain ⟨hi_8, h⟩ := ck_el h
        refine va_iast hx hb hK hP hD hS 1 0 rfl rfl hi_8 dX3_apart_27 (fun H locs hP hD hS => ?_)
        have hP : va_P D vwCl [(q_this, .inr (3, [.ref q_row])), (q_row, .inl (ca 0, 7, .inl (upd y_row_5 x4_4.toNatClampNeg x4_4)))] H := hP
        have hD : va_D A [(q_this, .inr (3, [.ref q_row])), (q_row, .inl (ca 0, 7, .inl (upd y_row_5 x4_4.toNatClampNeg x4_4)))] := hD
        obtain ⟨x4_9, e_10, h⟩ := nm_el h
        refine lv_iinc (v := x4_9) (lv' := [(4, .int x4_9), (0, .ref q_this), (1, .int p1), (2, .int p2), (3, .int x3_3)]) hx hb dX3_apart_28 hl (k := 4) rfl (by rw [← e_10]; rfl) (by decide) rfl (fun ls hl => ?_)
        refine lv_goto (tgt := 13) hx hb dX3_apart_31 (by decide) ?_
        exact ih _ _ _ _ _ _ h hex hP hD hS (lv_sub hl [1, 2, 3, 4, 0] rfl)
  exact hlp F (nI 0) v_row o_6 H locs ls hL hex hP hD hS (lv_sub hl [2, 3, 4, 1, 0] rfl)
def D_X3_likeness (F : Nat) (p1 : Int32) (p2 : Int32) (v_row : Nat → Int32) : Option (Int32 × (Nat → Int32)) := bd1 (D_X8_length p1) (fun r_1 => bd1 (D_X8_length p2) (fun r_3 => nm (if r_1 < r_3 then r_3 else r_1) (fun x3_5 => (if x3_5 = 0 then some ((nI 100), v_row) else bd2 (D_X3_apart F p1 p2 v_row) (fun r_7 y_row_8 => dz x3_5 (some (((nI 100) - (((nI 100) * r_7) / x3_5)), y_row_8)))))))
abbrev rm_X3_likeness : Room := { frames := 2, cells := 0, slots := 0, locals := 48 }
set_option maxHeartbeats 4000000 in
set_option maxRecDepth 100000 in
theorem c_X3_likeness (l : Launch) (D : va_G) (ca : Nat → ClassId) (F : Nat) (sz : Nat) (q_this q_row : Nat) (p1 : Int32) (p2 : Int32) (v_row : Nat → Int32) (r : Int32) (o_row : Nat → Int32) (h : D_X3_likeness F p1 p2 v_row = some (r, o_row)) : Met l yX3_likeness wsX3_likeness rm_X3_likeness (va_Pc [.ref q_this, .int p1, .int p2] (kPre D ca [(q_this, .inr (3, [.ref q_row])), (q_row, .inl (ca 0, 7, .inl v_row))] sz)) (kQi D ca (va_A [(q_this, .inr (3, [.ref q_row])), (q_row, .inl (ca 0, 7, .inl v_row))] sz) [(q_this, .inr (3, [.ref q_row])), (q_row, .inl (ca 0, 7, .inl o_row))] r) 0 0 (va_A [(q_this, .inr (3, [.ref q_row])), (q_row, .inl (ca 0, 7, .inl v_row))] sz) := by
  refine Met.ofW (cc := cX3_likeness) (maxL := 4) (ret := (some .int)) (by decide +kernel) rfl ?_
  intro p e s m args below meth c s₁ B hml hv
  obtain ⟨rfl, hsz, hP, hK, hD0⟩ := hv
  have hx := B.exec
  have hb := B.bytes
  have hr := B.returns
  have hts := atoms_spec (ws := wsX3_likeness) B.pre
  have hown : s.vm.findClass RX3 = some m.cls := findClass_of_methodNamed B.named
  have hlocks := B.notSynchronized
  clear B
  subst hsz
  have hD := hD0.self (sz := s.heap.size)
  generalize hAe : va_A [(q_this, .inr (3, [.ref q_row])), (q_row, .inl (ca 0, 7, .inl v_row))] s.heap.size = A at hD ⊢
  have hA : ∀ q : Nat, s.heap.size ≤ q → A q := fun q h => by rw [← hAe]; exact Or.inr h
  have hS : va_S A s.heap s.heap [] := va_S.rf
  have hl := lv_entry ([.ref q_this, .int p1, .int p2]) (n := 4) (Nat.le_of_ble_eq_true rfl)
  rw [lg_entry_eq]
  generalize (lg_sl ([.ref q_this, .int p1, .int p2]) ++ List.replicate (4 - (lg_sl ([.ref q_this, .int p1, .int p2])).length) Slot.unset).toArray = ls at hl ⊢
  have hl : lv_has ls 4 [(0, .ref q_this), (1, .int p1), (2, .int p2)] := hl
  generalize ([.ref q_this, .int p1, .int p2] : List Value).toArray = args at hts ⊢
  generalize hQe : MQ below (kQi D ca (A) [(q_this, .inr (3, [.ref q_row])), (q_row, .inl (ca 0, 7, .inl o_row))] r) args s 0 0 A = Q
  have k_30 := hts (.methodLink RX3 30 Lib.Math.max.name) (by decide +kernel)
  have ks_max := hts (.static Lib.Math.max.name) (by decide +kernel)
  have ki_math := hts (.initialized "java/lang/Math") (by decide +kernel)
  have kc_max := hts (.code Lib.Math.max.name Lib.Math.max.code 2 (some .int)) (by decide +kernel)
  rw [D_X3_likeness] at h
  refine lv_iload_n hx hb dX3_likeness_0 rfl (lv_at hl 1 rfl) ?_
  obtain ⟨r_1, hg_2, h⟩ := bd1_el h
  refine kx_Si (As := [.int p1]) (rest := []) (wr := [(q_this, .inr (3, [.ref q_row])), (q_row, .inl (ca 0, 7, .inl v_row))]) (w1 := []) (wn := [(q_this, .inr (3, [.ref q_row])), (q_row, .inl (ca 0, 7, .inl v_row))]) ⟨hx, hb, hml, hown, hts⟩ (c_X8_length l D ca s.heap.size p1 r_1 hg_2) (va_cwS 1 hts gX3_likeness_X8_length rfl rfl rfl (by decide +kernel) ⟨(Nat.le_of_ble_eq_true rfl), (Nat.le_of_ble_eq_true rfl)⟩) hK hP hD hS hA [] [0, 1] [0, 1] rfl rfl rfl rfl (by decide) rfl rfl rfl hl.1 rfl (Nat.le_of_ble_eq_true rfl) dX3_likeness_1 ⟨Nat.zero_le _, Nat.zero_le _⟩ (fun H locs hP hD hS => ?_)
  refine lv_iload_n hx hb dX3_likeness_4 rfl (lv_at hl 2 rfl) ?_
  obtain ⟨r_3, hg_4, h⟩ := bd1_el h
  refine kx_Si (As := [.int p2]) (rest := [.int r_1]) (wr := [(q_this, .inr (3, [.ref q_row])), (q_row, .inl (ca 0, 7, .inl v_row))]) (w1 := []) (wn := [(q_this, .inr (3, [.ref q_row])), (q_row, .inl (ca 0, 7, .inl v_row))]) ⟨hx, hb, hml, hown, hts⟩ (c_X8_length l D ca H.size p2 r_3 hg_4) (va_cwS 1 hts gX3_likeness_X8_length rfl rfl rfl (by decide +kernel) ⟨(Nat.le_of_ble_eq_true rfl), (Nat.le_of_ble_eq_true rfl)⟩) hK hP hD hS hA [] [0, 1] [0, 1] rfl rfl rfl rfl (by decide) rfl rfl rfl hl.1 rfl (Nat.le_of_ble_eq_true rfl) dX3_likeness_5 ⟨Nat.zero_le _, Nat.zero_le _⟩ (fun H locs hP hD hS => ?_)
  refine va_mmax hx hb (by rw [hml]; exact hl.1.symm) hown k_30 ks_max ki_math kc_max (Nat.le_of_ble_eq_true rfl) (Nat.le_of_ble_eq_true rfl) (Nat.zero_le _) (Nat.zero_le _) dX3_likeness_8 ?_
  refine lv_nmi h (fun x3_5 h => ?_)
  refine lv_istore_n (lv' := [(3, .int x3_5), (0, .ref q_this), (1, .int p1), (2, .int p2)]) hx hb dX3_likeness_11 rfl hl (by decide) rfl (fun ls hl => ?_)
  refine lv_iload_n hx hb dX3_likeness_12 rfl (lv_at hl 0 rfl) ?_
  refine lv_if_ne (tgt := 21) hx hb dX3_likeness_13 (by decide) (fun c_6 => ?_) (fun c_6 => ?_)
  · replace h := ifn_el c_6 h
    refine lv_bipush (v := (nI 100)) hx hb dX3_likeness_21 (by decide) ?_
    refine lv_bipush (v := (nI 100)) hx hb dX3_likeness_23 (by decide) ?_
    refine lv_aload_n hx hb dX3_likeness_25 rfl (lv_at hl 1 rfl) ?_
    refine lv_iload_n hx hb dX3_likeness_26 rfl (lv_at hl 2 rfl) ?_
    refine lv_iload_n hx hb dX3_likeness_27 rfl (lv_at hl 3 rfl) ?_
    obtain ⟨r_7, y_row_8, hg_9, h⟩ := bd2_el h
    refine kx_Vi (As := [.int p1, .int p2]) (rest := [.int (nI 100), .int (nI 100)]) (wr := []) (w1 := [(q_this, .inr (3, [.ref q_row])), (q_row, .inl (ca 0, 7, .inl y_row_8))]) (wn := [(q_this, .inr (3, [.ref q_row])), (q_row, .inl (ca 0, 7, .inl y_row_8))]) ⟨hx, hb, hml, hown, hts⟩ (c_X3_apart l D ca F H.size q_this q_row p1 p2 v_row r_7 y_row_8 hg_9) (cwV 2 hts gX3_likeness_X3_apart rfl rfl rfl (by decide +kernel) ⟨(Nat.le_of_ble_eq_true rfl), (Nat.le_of_ble_eq_true rfl)⟩) hK hP hD hS hA (ci := 3) (q0 := 0) rfl rfl [0, 1] [] [0, 1] rfl rfl rfl rfl (by decide) rfl rfl rfl hl.1 rfl (Nat.le_of_ble_eq_true rfl) dX3_likeness_28 ⟨Nat.zero_le _, Nat.zero_le _⟩ (fun H locs hP hD hS => ?_)
    refine lv_imul hx hb dX3_likeness_31 ?_
    refine lv_iload_n hx hb dX3_likeness_32 rfl (lv_at hl 0 rfl) ?_
    obtain ⟨hn_10, h⟩ := dz_el h
    refine lv_idiv hx hb dX3_likeness_33 hn_10 ?_
    refine lv_isub hx hb dX3_likeness_34 ?_
    cases h
    rw [← hQe]
    exact W.iret hx hb hr (fun t ht hW => ⟨⟨_, (), rfl, rfl, by rw [ht]; exact hP, va_K.moved hW.alike hK, hD⟩, hS.F ht⟩) hS.2.2 dX3_likeness_35
  · replace h := ifp_el c_6 h
    refine lv_bipush (v := (nI 100)) hx hb dX3_likeness_16 (by decide) ?_
    refine lv_goto (tgt := 35) hx hb dX3_likeness_18 (by decide) ?_
    cases h
    rw [← hQe]
    exact W.iret hx hb hr (fun t ht hW => ⟨⟨_, (), rfl, rfl, by rw [ht]; exact hP, va_K.moved hW.alike hK, hD⟩, hS.F ht⟩) hS.2.2 dX3_likeness_35
def D_X4_needsTold (v_needsTold : Int32) : Option (Int32) := some (v_needsTold)
abbrev rm_X4_needsTold : Room := { frames := 0, cells := 0, slots := 0, locals := 0 }
set_option maxHeartbeats 4000000 in
set_option maxRecDepth 100000 in
theorem c_X4_needsTold (l : Launch) (D : va_G) (ca : Nat → ClassId) (sz : Nat) (q_this q_joinedMeaning q_joinedPair : Nat) (v_joinedTold : Int32) (v_needsTold : Int32) (v_needed : Int32) (r : Int32) (h : D_X4_needsTold v_needsTold = some (r)) : Met l yX4_needsTold wsX4_needsTold rm_X4_needsTold (va_Pc [.ref q_this] (kPre D ca [(q_this, .inr (4, [.ref q_joinedMeaning, .ref q_joinedPair, .int v_joinedTold, .int v_needsTold, .int v_needed]))] sz)) (kQi D ca (va_A [(q_this, .inr (4, [.ref q_joinedMeaning, .ref q_joinedPair, .int v_joinedTold, .int v_needsTold, .int v_needed]))] sz) [(q_this, .inr (4, [.ref q_joinedMeaning, .ref q_joinedPair, .int v_joinedTold, .int v_needsTold, .int v_needed]))] r) 0 0 (va_A [(q_this, .inr (4, [.ref q_joinedMeaning, .ref q_joinedPair, .int v_joinedTold, .int v_needsTold, .int v_needed]))] sz) := by
  refine Met.ofW (cc := cX4_needsTold) (maxL := 1) (ret := (some .int)) (by decide +kernel) rfl ?_
  intro p e s m args below meth c s₁ B hml hv
  obtain ⟨rfl, hsz, hP, hK, hD0⟩ := hv
  have hx := B.exec
  have hb := B.bytes
  have hr := B.returns
  have hts := atoms_spec (ws := wsX4_needsTold) B.pre
  have hown : s.vm.findClass RX4 = some m.cls := findClass_of_methodNamed B.named
  have hlocks := B.notSynchronized
  clear B
  subst hsz
  have hD := hD0.self (sz := s.heap.size)
  generalize hAe : va_A [(q_this, .inr (4, [.ref q_joinedMeaning, .ref q_joinedPair, .int v_joinedTold, .int v_needsTold, .int v_needed]))] s.heap.size = A at hD ⊢
  have hA : ∀ q : Nat, s.heap.size ≤ q → A q := fun q h => by rw [← hAe]; exact Or.inr h
  have hS : va_S A s.heap s.heap [] := va_S.rf
  have hl := lv_entry ([.ref q_this]) (n := 1) (Nat.le_of_ble_eq_true rfl)
  rw [lg_entry_eq]
  generalize (lg_sl ([.ref q_this]) ++ List.replicate (1 - (lg_sl ([.ref q_this])).length) Slot.unset).toArray = ls at hl ⊢
  have hl : lv_has ls 1 [(0, .ref q_this)] := hl
  generalize ([.ref q_this] : List Value).toArray = args at hts ⊢
  generalize hQe : MQ below (kQi D ca (A) [(q_this, .inr (4, [.ref q_joinedMeaning, .ref q_joinedPair, .int v_joinedTold, .int v_needsTold, .int v_needed]))] r) args s 0 0 A = Q
  have i_X4 : ∀ w ∈ u_ws RX4 TX4 5, w ∈ wsX4_needsTold := by decide +kernel
  have k_22 := hts (.fieldLink RX4 22 "TradeWords$Needs" "needsTold" "I") (by decide +kernel)
  rw [D_X4_needsTold] at h
  refine lv_aload_n hx hb dX4_needsTold_0 rfl (lv_at hl 0 rfl) ?_
  refine va_get (D := D) (ci := 4) (v := .int v_needsTold) (C := RX4) (T := TX4) (N := 5) hx hb hts i_X4 hown hK hP 0 rfl rfl 3 (by decide) k_22 (fun _ h9 => h9) rfl dX4_needsTold_1 ?_
  cases h
  rw [← hQe]
  exact W.iret hx hb hr (fun t ht hW => ⟨⟨_, (), rfl, rfl, by rw [ht]; exact hP, va_K.moved hW.alike hK, hD⟩, hS.F ht⟩) hS.2.2 dX4_needsTold_4
def D_X4_joinedTold (v_joinedTold : Int32) : Option (Int32) := some (v_joinedTold)
abbrev rm_X4_joinedTold : Room := { frames := 0, cells := 0, slots := 0, locals := 0 }
set_option maxHeartbeats 4000000 in
set_option maxRecDepth 100000 in
theorem c_X4_joinedTold (l : Launch) (D : va_G) (ca : Nat → ClassId) (sz : Nat) (q_this q_joinedMeaning q_joinedPair : Nat) (v_joinedTold : Int32) (v_needsTold : Int32) (v_needed : Int32) (r : Int32) (h : D_X4_joinedTold v_joinedTold = some (r)) : Met l yX4_joinedTold wsX4_joinedTold rm_X4_joinedTold (va_Pc [.ref q_this] (kPre D ca [(q_this, .inr (4, [.ref q_joinedMeaning, .ref q_joinedPair, .int v_joinedTold, .int v_needsTold, .int v_needed]))] sz)) (kQi D ca (va_A [(q_this, .inr (4, [.ref q_joinedMeaning, .ref q_joinedPair, .int v_joinedTold, .int v_needsTold, .int v_needed]))] sz) [(q_this, .inr (4, [.ref q_joinedMeaning, .ref q_joinedPair, .int v_joinedTold, .int v_needsTold, .int v_needed]))] r) 0 0 (va_A [(q_this, .inr (4, [.ref q_joinedMeaning, .ref q_joinedPair, .int v_joinedTold, .int v_needsTold, .int v_needed]))] sz) := by
  refine Met.ofW (cc := cX4_joinedTold) (maxL := 1) (ret := (some .int)) (by decide +kernel) rfl ?_
  intro p e s m args below meth c s₁ B hml hv
  obtain ⟨rfl, hsz, hP, hK, hD0⟩ := hv
  have hx := B.exec
  have hb := B.bytes
  have hr := B.returns
  have hts := atoms_spec (ws := wsX4_joinedTold) B.pre
  have hown : s.vm.findClass RX4 = some m.cls := findClass_of_methodNamed B.named
  have hlocks := B.notSynchronized
  clear B
  subst hsz
  have hD := hD0.self (sz := s.heap.size)
  generalize hAe : va_A [(q_this, .inr (4, [.ref q_joinedMeaning, .ref q_joinedPair, .int v_joinedTold, .int v_needsTold, .int v_needed]))] s.heap.size = A at hD ⊢
  have hA : ∀ q : Nat, s.heap.size ≤ q → A q := fun q h => by rw [← hAe]; exact Or.inr h
  have hS : va_S A s.heap s.heap [] := va_S.rf
  have hl := lv_entry ([.ref q_this]) (n := 1) (Nat.le_of_ble_eq_true rfl)
  rw [lg_entry_eq]
  generalize (lg_sl ([.ref q_this]) ++ List.replicate (1 - (lg_sl ([.ref q_this])).length) Slot.unset).toArray = ls at hl ⊢
  have hl : lv_has ls 1 [(0, .ref q_this)] := hl
  generalize ([.ref q_this] : List Value).toArray = args at hts ⊢
  generalize hQe : MQ below (kQi D ca (A) [(q_this, .inr (4, [.ref q_joinedMeaning, .ref q_joinedPair, .int v_joinedTold, .int v_needsTold, .int v_needed]))] r) args s 0 0 A = Q
  have i_X4 : ∀ w ∈ u_ws RX4 TX4 5, w ∈ wsX4_joinedTold := by decide +kernel
  have k_18 := hts (.fieldLink RX4 18 "TradeWords$Needs" "joinedTold" "I") (by decide +kernel)
  rw [D_X4_joinedTold] at h
  refine lv_aload_n hx hb dX4_joinedTold_0 rfl (lv_at hl 0 rfl) ?_
  refine va_get (D := D) (ci := 4) (v := .int v_joinedTold) (C := RX4) (T := TX4) (N := 5) hx hb hts i_X4 hown hK hP 0 rfl rfl 2 (by decide) k_18 (fun _ h9 => h9) rfl dX4_joinedTold_1 ?_
  cases h
  rw [← hQe]
  exact W.iret hx hb hr (fun t ht hW => ⟨⟨_, (), rfl, rfl, by rw [ht]; exact hP, va_K.moved hW.alike hK, hD⟩, hS.F ht⟩) hS.2.2 dX4_joinedTold_4
def b_X4_sayableBy_4 (p1 : Int32) (v_joinedTold : Int32) (v_joinedMeaning : Nat → Int32) (v_joinedPair : Nat → Int32) (rec4 : Int32 → Int32 → Option (Int32)) (x2_1 : Int32) (x3_2 : Int32) : Option (Int32) := (if v_joinedTold ≤ x3_2 then some (x2_1) else bd1 (D_X5_at 8 x3_2 v_joinedPair) (fun r_5 => (if (r_5 &&& (p1 ^^^ (-1 : Int32))) = 0 then bd1 (D_X5_at 8 x3_2 v_joinedMeaning) (fun r_10 => nm (x2_1 ||| r_10) (fun x2_12 => nm (x3_2 + (nI 1)) (fun x3_13 => rec4 x2_12 x3_13))) else nm (x3_2 + (nI 1)) (fun x3_8 => rec4 x2_1 x3_8))))
def D_X4_sayableBy (F : Nat) (p1 : Int32) (v_joinedTold : Int32) (v_joinedMeaning : Nat → Int32) (v_joinedPair : Nat → Int32) : Option (Int32) := bd1 (lpg (T := Int32 → Int32 → Option (Int32)) (fun _ _ => none) (b_X4_sayableBy_4 p1 v_joinedTold v_joinedMeaning v_joinedPair) F p1 (nI 0)) (fun o_3 => some (o_3))
abbrev rm_X4_sayableBy : Room := { frames := 1, cells := 0, slots := 0, locals := 21 }
set_option maxHeartbeats 4000000 in
set_option maxRecDepth 100000 in
theorem c_X4_sayableBy (l : Launch) (D : va_G) (ca : Nat → ClassId) (F : Nat) (sz : Nat) (q_this q_joinedMeaning q_joinedPair : Nat) (p1 : Int32) (v_joinedTold : Int32) (v_needsTold : Int32) (v_needed : Int32) (v_joinedMeaning : Nat → Int32) (v_joinedPair : Nat → Int32) (r : Int32) (h : D_X4_sayableBy F p1 v_joinedTold v_joinedMeaning v_joinedPair = some (r)) : Met l yX4_sayableBy wsX4_sayableBy rm_X4_sayableBy (va_Pc [.ref q_this, .int p1] (kPre D ca [(q_this, .inr (4, [.ref q_joinedMeaning, .ref q_joinedPair, .int v_joinedTold, .int v_needsTold, .int v_needed])), (q_joinedMeaning, .inl (ca 0, 8, .inl v_joinedMeaning)), (q_joinedPair, .inl (ca 0, 8, .inl v_joinedPair))] sz)) (kQi D ca (va_A [(q_this, .inr (4, [.ref q_joinedMeaning, .ref q_joinedPair, .int v_joinedTold, .int v_needsTold, .int v_needed])), (q_joinedMeaning, .inl (ca 0, 8, .inl v_joinedMeaning)), (q_joinedPair, .inl (ca 0, 8, .inl v_joinedPair))] sz) [(q_this, .inr (4, [.ref q_joinedMeaning, .ref q_joinedPair, .int v_joinedTold, .int v_needsTold, .int v_needed])), (q_joinedMeaning, .inl (ca 0, 8, .inl v_joinedMeaning)), (q_joinedPair, .inl (ca 0, 8, .inl v_joinedPair))] r) 0 0 (va_A [(q_this, .inr (4, [.ref q_joinedMeaning, .ref q_joinedPair, .int v_joinedTold, .int v_needsTold, .int v_needed])), (q_joinedMeaning, .inl (ca 0, 8, .inl v_joinedMeaning)), (q_joinedPair, .inl (ca 0, 8, .inl v_joinedPair))] sz) := by
  refine Met.ofW (cc := cX4_sayableBy) (maxL := 4) (ret := (some .int)) (by decide +kernel) rfl ?_
  intro p e s m args below meth c s₁ B hml hv
  obtain ⟨rfl, hsz, hP, hK, hD0⟩ := hv
  have hx := B.exec
  have hb := B.bytes
  have hr := B.returns
  have hts := atoms_spec (ws := wsX4_sayableBy) B.pre
  have hown : s.vm.findClass RX4 = some m.cls := findClass_of_methodNamed B.named
  have hlocks := B.notSynchronized
  clear B
  subst hsz
  have hD := hD0.self (sz := s.heap.size)
  generalize hAe : va_A [(q_this, .inr (4, [.ref q_joinedMeaning, .ref q_joinedPair, .int v_joinedTold, .int v_needsTold, .int v_needed])), (q_joinedMeaning, .inl (ca 0, 8, .inl v_joinedMeaning)), (q_joinedPair, .inl (ca 0, 8, .inl v_joinedPair))] s.heap.size = A at hD ⊢
  have hA : ∀ q : Nat, s.heap.size ≤ q → A q := fun q h => by rw [← hAe]; exact Or.inr h
  have hS : va_S A s.heap s.heap [] := va_S.rf
  have hl := lv_entry ([.ref q_this, .int p1]) (n := 4) (Nat.le_of_ble_eq_true rfl)
  rw [lg_entry_eq]
  generalize (lg_sl ([.ref q_this, .int p1]) ++ List.replicate (4 - (lg_sl ([.ref q_this, .int p1])).length) Slot.unset).toArray = ls at hl ⊢
  have hl : lv_has ls 4 [(0, .ref q_this), (1, .int p1)] := hl
  generalize ([.ref q_this, .int p1] : List Value).toArray = args at hts ⊢
  generalize hQe : MQ below (kQi D ca (A) [(q_this, .inr (4, [.ref q_joinedMeaning, .ref q_joinedPair, .int v_joinedTold, .int v_needsTold, .int v_needed])), (q_joinedMeaning, .inl (ca 0, 8, .inl v_joinedMeaning)), (q_joinedPair, .inl (ca 0, 8, .inl v_joinedPair))] r) args s 0 0 A = Q
  have i_X4 : ∀ w ∈ u_ws RX4 TX4 5, w ∈ wsX4_sayableBy := by decide +kernel
  have k_18 := hts (.fieldLink RX4 18 "TradeWords$Needs" "joinedTold" "I") (by decide +kernel)
  have k_15 := hts (.fieldLink RX4 15 "TradeWords$Needs" "joinedPair" "[I") (by decide +kernel)
  have k_9 := hts (.fieldLink RX4 9 "TradeWords$Needs" "joinedMeaning" "[I") (by decide +kernel)
  rw [D_X4_sayableBy] at h
  refine lv_iload_n hx hb dX4_sayableBy_0 rfl (lv_at hl 1 rfl) ?_
  refine lv_istore_n (lv' := [(2, .int p1), (0, .ref q_this), (1, .int p1)]) hx hb dX4_sayableBy_1 rfl hl (by decide) rfl (fun ls hl => ?_)
  refine lv_iconst (v := (nI 0)) hx hb dX4_sayableBy_2 (by decide) ?_
  refine lv_istore_n (lv' := [(3, .int (nI 0)), (2, .int p1), (0, .ref q_this), (1, .int p1)]) hx hb dX4_sayableBy_3 rfl hl (by decide) rfl (fun ls hl => ?_)
  obtain ⟨o_3, hL, h⟩ := bd1_el h
  have hex : ∀ (H : Heap) (locs : List Loc) (ls : Array Slot), va_P D vwCl [(q_this, .inr (4, [.ref q_joinedMeaning, .ref q_joinedPair, .int v_joinedTold, .int v_needsTold, .int v_needed])), (q_joinedMeaning, .inl (ca 0, 8, .inl v_joinedMeaning)), (q_joinedPair, .inl (ca 0, 8, .inl v_joinedPair))] H → va_D A [(q_this, .inr (4, [.ref q_joinedMeaning, .ref q_joinedPair, .int v_joinedTold, .int v_needsTold, .int v_needed])), (q_joinedMeaning, .inl (ca 0, 8, .inl v_joinedMeaning)), (q_joinedPair, .inl (ca 0, 8, .inl v_joinedPair))] → va_S A s.heap H locs → lv_has ls 4 [(2, .int o_3)] → W p l e (headSpec wsX4_sayableBy rm_X4_sayableBy).room s m args below meth c H locs 0 0 Q (F0 m 44 ls []) := by
    intro H locs ls hP hD hS hl
    refine lv_iload_n hx hb dX4_sayableBy_44 rfl (lv_at hl 0 rfl) ?_
    cases h
    rw [← hQe]
    exact W.iret hx hb hr (fun t ht hW => ⟨⟨_, (), rfl, rfl, by rw [ht]; exact hP, va_K.moved hW.alike hK, hD⟩, hS.F ht⟩) hS.2.2 dX4_sayableBy_45
  have hlp : ∀ (n : Nat) (x2_1 : Int32) (x3_2 : Int32) (o_3 : Int32) (H : Heap) (locs : List Loc) (ls : Array Slot), lpg (T := Int32 → Int32 → Option (Int32)) (fun _ _ => none) (b_X4_sayableBy_4 p1 v_joinedTold v_joinedMeaning v_joinedPair) n x2_1 x3_2 = some (o_3) → (∀ (H : Heap) (locs : List Loc) (ls : Array Slot), va_P D vwCl [(q_this, .inr (4, [.ref q_joinedMeaning, .ref q_joinedPair, .int v_joinedTold, .int v_needsTold, .int v_needed])), (q_joinedMeaning, .inl (ca 0, 8, .inl v_joinedMeaning)), (q_joinedPair, .inl (ca 0, 8, .inl v_joinedPair))] H → va_D A [(q_this, .inr (4, [.ref q_joinedMeaning, .ref q_joinedPair, .int v_joinedTold, .int v_needsTold, .int v_needed])), (q_joinedMeaning, .inl (ca 0, 8, .inl v_joinedMeaning)), (q_joinedPair, .inl (ca 0, 8, .inl v_joinedPair))] → va_S A s.heap H locs → lv_has ls 4 [(2, .int o_3)] → W p l e (headSpec wsX4_sayableBy rm_X4_sayableBy).room s m args below meth c H locs 0 0 Q (F0 m 44 ls [])) → va_P D vwCl [(q_this, .inr (4, [.ref q_joinedMeaning, .ref q_joinedPair, .int v_joinedTold, .int v_needsTold, .int v_needed])), (q_joinedMeaning, .inl (ca 0, 8, .inl v_joinedMeaning)), (q_joinedPair, .inl (ca 0, 8, .inl v_joinedPair))] H → va_D A [(q_this, .inr (4, [.ref q_joinedMeaning, .ref q_joinedPair, .int v_joinedTold, .int v_needsTold, .int v_needed])), (q_joinedMeaning, .inl (ca 0, 8, .inl v_joinedMeaning)), (q_joinedPair, .inl (ca 0, 8, .inl v_joinedPair))] → va_S A s.heap H locs → lv_has ls 4 [(0, .ref q_this), (1, .int p1), (2, .int x2_1), (3, .int x3_2)] → W p l e (headSpec wsX4_sayableBy rm_X4_sayableBy).room s m args below meth c H locs 0 0 Q (F0 m 4 ls []) := by
    intro n
    induction n with
    | zero => intro x2_1 x3_2 o_3 H locs ls h; have h : (none : Option (Int32)) = some _ := h; cases h
    | succ n ih =>
      intro x2_1 x3_2 o_3 H locs ls h hex hP hD hS hl
      rw [lpg_succ, b_X4_sayableBy_4] at h
      refine lv_iload_n hx hb dX4_sayableBy_4 rfl (lv_at hl 3 rfl) ?_
      refine lv_aload_n hx hb dX4_sayableBy_5 rfl (lv_at hl 0 rfl) ?_
      refine va_get (D := D) (ci := 4) (v := .int v_joinedTold) (C := RX4) (T := TX4) (N := 5) hx hb hts i_X4 hown hK hP 0 rfl rfl 2 (by decide) k_18 (fun _ h9 => h9) rfl dX4_sayableBy_6 ?_
      refine lv_icmp_ge (tgt := 44) hx hb dX4_sayableBy_9 (by decide) (fun c_4 => ?_) (fun c_4 => ?_)
      · replace h := ifp_el c_4 h
        cases h
        exact hex _ _ _ hP hD hS (lv_sub hl [2] rfl)
      · replace h := ifn_el c_4 h
        refine lv_aload_n hx hb dX4_sayableBy_12 rfl (lv_at hl 0 rfl) ?_
        refine va_get (D := D) (ci := 4) (v := .ref q_joinedPair) (C := RX4) (T := TX4) (N := 5) hx hb hts i_X4 hown hK hP 0 rfl rfl 1 (by decide) k_15 (fun _ h9 => h9) rfl dX4_sayableBy_13 ?_
        refine lv_iload_n hx hb dX4_sayableBy_16 rfl (lv_at hl 3 rfl) ?_
        obtain ⟨r_5, hg_6, h⟩ := bd1_el h
        refine kx_Si (As := [.ref q_joinedPair, .int x3_2]) (rest := []) (wr := [(q_this, .inr (4, [.ref q_joinedMeaning, .ref q_joinedPair, .int v_joinedTold, .int v_needsTold, .int v_needed])), (q_joinedMeaning, .inl (ca 0, 8, .inl v_joinedMeaning))]) (w1 := [(q_joinedPair, .inl (ca 0, 8, .inl v_joinedPair))]) (wn := [(q_this, .inr (4, [.ref q_joinedMeaning, .ref q_joinedPair, .int v_joinedTold, .int v_needsTold, .int v_needed])), (q_joinedMeaning, .inl (ca 0, 8, .inl v_joinedMeaning)), (q_joinedPair, .inl (ca 0, 8, .inl v_joinedPair))]) ⟨hx, hb, hml, hown, hts⟩ (c_X5_at l D ca H.size q_joinedPair 8 x3_2 v_joinedPair r_5 hg_6) (va_cwS 2 hts gX4_sayableBy_X5_at rfl rfl rfl (by decide +kernel) ⟨(Nat.le_of_ble_eq_true rfl), (Nat.le_of_ble_eq_true rfl)⟩) hK hP hD hS hA [2] [0, 1] [0, 1, 2] rfl rfl rfl rfl (by decide) rfl rfl rfl hl.1 rfl (Nat.le_of_ble_eq_true rfl) dX4_sayableBy_17 ⟨Nat.zero_le _, Nat.zero_le _⟩ (fun H locs hP hD hS => ?_)
        refine lv_iload_n hx hb dX4_sayableBy_20 rfl (lv_at hl 1 rfl) ?_
        refine lv_iconst (v := (-1 : Int32)) hx hb dX4_sayableBy_21 (by decide) ?_
        refine lv_ixor hx hb dX4_sayableBy_22 ?_
        refine lv_iand hx hb dX4_sayableBy_23 ?_
        refine lv_if_ne (tgt := 38) hx hb dX4_sayableBy_24 (by decide) (fun c_7 => ?_) (fun c_7 => ?_)
        · replace h := ifn_el c_7 h
          obtain ⟨x3_8, e_9, h⟩ := nm_el h
          refine lv_iinc (v := x3_8) (lv' := [(3, .int x3_8), (0, .ref q_this), (1, .int p1), (2, .int x2_1)]) hx hb dX4_sayableBy_38 hl (k := 3) rfl (by rw [← e_9]; rfl) (by decide) rfl (fun ls hl => ?_)
          refine lv_goto (tgt := 4) hx hb dX4_sayableBy_41 (by decide) ?_
          exact ih _ _ _ _ _ _ h hex hP hD hS (lv_sub hl [1, 2, 3, 0] rfl)
        · replace h := ifp_el c_7 h
          refine lv_iload_n hx hb dX4_sayableBy_27 rfl (lv_at hl 2 rfl) ?_
          refine lv_aload_n hx hb dX4_sayableBy_28 rfl (lv_at hl 0 rfl) ?_
          refine va_get (D := D) (ci := 4) (v := .ref q_joinedMeaning) (C := RX4) (T := TX4) (N := 5) hx hb hts i_X4 hown hK hP 0 rfl rfl 0 (by decide) k_9 (fun _ h9 => h9) rfl dX4_sayableBy_29 ?_
          refine lv_iload_n hx hb dX4_sayableBy_32 rfl (lv_at hl 3 rfl) ?_
          obtain ⟨r_10, hg_11, h⟩ := bd1_el h
          refine kx_Si (As := [.ref q_joinedMeaning, .int x3_2]) (rest := [.int x2_1]) (wr := [(q_this, .inr (4, [.ref q_joinedMeaning, .ref q_joinedPair, .int v_joinedTold, .int v_needsTold, .int v_needed])), (q_joinedPair, .inl (ca 0, 8, .inl v_joinedPair))]) (w1 := [(q_joinedMeaning, .inl (ca 0, 8, .inl v_joinedMeaning))]) (wn := [(q_this, .inr (4, [.ref q_joinedMeaning, .ref q_joinedPair, .int v_joinedTold, .int v_needsTold, .int v_needed])), (q_joinedMeaning, .inl (ca 0, 8, .inl v_joinedMeaning)), (q_joinedPair, .inl (ca 0, 8, .inl v_joinedPair))]) ⟨hx, hb, hml, hown, hts⟩ (c_X5_at l D ca H.size q_joinedMeaning 8 x3_2 v_joinedMeaning r_10 hg_11) (va_cwS 2 hts gX4_sayableBy_X5_at rfl rfl rfl (by decide +kernel) ⟨(Nat.le_of_ble_eq_true rfl), (Nat.le_of_ble_eq_true rfl)⟩) hK hP hD hS hA [1] [0, 2] [0, 2, 1] rfl rfl rfl rfl (by decide) rfl rfl rfl hl.1 rfl (Nat.le_of_ble_eq_true rfl) dX4_sayableBy_33 ⟨Nat.zero_le _, Nat.zero_le _⟩ (fun H locs hP hD hS => ?_)
          refine lv_ior hx hb dX4_sayableBy_36 ?_
          refine lv_nmi h (fun x2_12 h => ?_)
          refine lv_istore_n (lv' := [(2, .int x2_12), (0, .ref q_this), (1, .int p1), (3, .int x3_2)]) hx hb dX4_sayableBy_37 rfl hl (by decide) rfl (fun ls hl => ?_)
          obtain ⟨x3_13, e_14, h⟩ := nm_el h
          refine lv_iinc (v := x3_13) (lv' := [(3, .int x3_13), (2, .int x2_12), (0, .ref q_this), (1, .int p1)]) hx hb dX4_sayableBy_38 hl (k := 3) rfl (by rw [← e_14]; rfl) (by decide) rfl (fun ls hl => ?_)
          refine lv_goto (tgt := 4) hx hb dX4_sayableBy_41 (by decide) ?_
          exact ih _ _ _ _ _ _ h hex hP hD hS (lv_sub hl [2, 3, 1, 0] rfl)
  exact hlp F p1 (nI 0) o_3 s.heap [] ls hL hex hP hD hS (lv_sub hl [2, 3, 1, 0] rfl)
def D_J6_bitCount_0f7a4 (p1 : Int32) : Option (Int32) := nm (p1 - (((p1.toUInt32 >>> ((nI 1).toUInt32 &&& Int32.toUInt32 31)).toInt32) &&& (nI 1431655765))) (fun x0_1 => nm ((x0_1 &&& (nI 858993459)) + (((x0_1.toUInt32 >>> ((nI 2).toUInt32 &&& Int32.toUInt32 31)).toInt32) &&& (nI 858993459))) (fun x0_2 => nm ((x0_2 + ((x0_2.toUInt32 >>> ((nI 4).toUInt32 &&& Int32.toUInt32 31)).toInt32)) &&& (nI 252645135)) (fun x0_3 => nm (x0_3 + ((x0_3.toUInt32 >>> ((nI 8).toUInt32 &&& Int32.toUInt32 31)).toInt32)) (fun x0_4 => nm (x0_4 + ((x0_4.toUInt32 >>> ((nI 16).toUInt32 &&& Int32.toUInt32 31)).toInt32)) (fun x0_5 => some ((x0_5 &&& (nI 63))))))))
abbrev rm_J6_bitCount_0f7a4 : Room := { frames := 0, cells := 0, slots := 0, locals := 0 }
set_option maxHeartbeats 4000000 in
set_option maxRecDepth 100000 in
theorem c_J6_bitCount_0f7a4 (l : Launch) (D : va_G) (ca : Nat → ClassId) (sz : Nat) (p1 : Int32) (r : Int32) (h : D_J6_bitCount_0f7a4 p1 = some (r)) : Met l yJ6_bitCount_0f7a4 wsJ6_bitCount_0f7a4 rm_J6_bitCount_0f7a4 (va_Pc [.int p1] (kPre D ca [] sz)) (kQi D ca (va_A [] sz) [] r) 0 0 (va_A [] sz) := by
  refine Met.ofW (cc := cJ6_bitCount_0f7a4) (maxL := 1) (ret := (some .int)) (by decide +kernel) rfl ?_
  intro p e s m args below meth c s₁ B hml hv
  obtain ⟨rfl, hsz, hP, hK, hD0⟩ := hv
  have hx := B.exec
  have hb := B.bytes
  have hr := B.returns
  have hts := atoms_spec (ws := wsJ6_bitCount_0f7a4) B.pre
  have hown : s.vm.findClass RJ6 = some m.cls := findClass_of_methodNamed B.named
  have hlocks := B.notSynchronized
  clear B
  subst hsz
  have hD := hD0.self (sz := s.heap.size)
  generalize hAe : va_A [] s.heap.size = A at hD ⊢
  have hA : ∀ q : Nat, s.heap.size ≤ q → A q := fun q h => by rw [← hAe]; exact Or.inr h
  have hS : va_S A s.heap s.heap [] := va_S.rf
  have hl := lv_entry ([.int p1]) (n := 1) (Nat.le_of_ble_eq_true rfl)
  rw [lg_entry_eq]
  generalize (lg_sl ([.int p1]) ++ List.replicate (1 - (lg_sl ([.int p1])).length) Slot.unset).toArray = ls at hl ⊢
  have hl : lv_has ls 1 [(0, .int p1)] := hl
  generalize ([.int p1] : List Value).toArray = args at hts ⊢
  generalize hQe : MQ below (kQi D ca (A) [] r) args s 0 0 A = Q
  have k_265 := hts (.constant RJ6 265 (nI 1431655765)) (by decide +kernel)
  have k_266 := hts (.constant RJ6 266 (nI 858993459)) (by decide +kernel)
  have k_267 := hts (.constant RJ6 267 (nI 252645135)) (by decide +kernel)
  rw [D_J6_bitCount_0f7a4] at h
  refine lv_iload_n hx hb dJ6_bitCount_0f7a4_0 rfl (lv_at hl 0 rfl) ?_
  refine lv_iload_n hx hb dJ6_bitCount_0f7a4_1 rfl (lv_at hl 0 rfl) ?_
  refine lv_iconst (v := (nI 1)) hx hb dJ6_bitCount_0f7a4_2 (by decide) ?_
  refine lv_iushr hx hb dJ6_bitCount_0f7a4_3 rfl ?_
  refine lv_ldcw hx hb hown k_265 dJ6_bitCount_0f7a4_4 ?_
  refine lv_iand hx hb dJ6_bitCount_0f7a4_7 ?_
  refine lv_isub hx hb dJ6_bitCount_0f7a4_8 ?_
  refine lv_nmi h (fun x0_1 h => ?_)
  refine lv_istore_n (lv' := [(0, .int x0_1)]) hx hb dJ6_bitCount_0f7a4_9 rfl hl (by decide) rfl (fun ls hl => ?_)
  refine lv_iload_n hx hb dJ6_bitCount_0f7a4_10 rfl (lv_at hl 0 rfl) ?_
  refine lv_ldcw hx hb hown k_266 dJ6_bitCount_0f7a4_11 ?_
  refine lv_iand hx hb dJ6_bitCount_0f7a4_14 ?_
  refine lv_iload_n hx hb dJ6_bitCount_0f7a4_15 rfl (lv_at hl 0 rfl) ?_
  refine lv_iconst (v := (nI 2)) hx hb dJ6_bitCount_0f7a4_16 (by decide) ?_
  refine lv_iushr hx hb dJ6_bitCount_0f7a4_17 rfl ?_
  refine lv_ldcw hx hb hown k_266 dJ6_bitCount_0f7a4_18 ?_
  refine lv_iand hx hb dJ6_bitCount_0f7a4_21 ?_
  refine lv_iadd hx hb dJ6_bitCount_0f7a4_22 ?_
  refine lv_nmi h (fun x0_2 h => ?_)
  refine lv_istore_n (lv' := [(0, .int x0_2)]) hx hb dJ6_bitCount_0f7a4_23 rfl hl (by decide) rfl (fun ls hl => ?_)
  refine lv_iload_n hx hb dJ6_bitCount_0f7a4_24 rfl (lv_at hl 0 rfl) ?_
  refine lv_iload_n hx hb dJ6_bitCount_0f7a4_25 rfl (lv_at hl 0 rfl) ?_
  refine lv_iconst (v := (nI 4)) hx hb dJ6_bitCount_0f7a4_26 (by decide) ?_
  refine lv_iushr hx hb dJ6_bitCount_0f7a4_27 rfl ?_
  refine lv_iadd hx hb dJ6_bitCount_0f7a4_28 ?_
  refine lv_ldcw hx hb hown k_267 dJ6_bitCount_0f7a4_29 ?_
  refine lv_iand hx hb dJ6_bitCount_0f7a4_32 ?_
  refine lv_nmi h (fun x0_3 h => ?_)
  refine lv_istore_n (lv' := [(0, .int x0_3)]) hx hb dJ6_bitCount_0f7a4_33 rfl hl (by decide) rfl (fun ls hl => ?_)
  refine lv_iload_n hx hb dJ6_bitCount_0f7a4_34 rfl (lv_at hl 0 rfl) ?_
  refine lv_iload_n hx hb dJ6_bitCount_0f7a4_35 rfl (lv_at hl 0 rfl) ?_
  refine lv_bipush (v := (nI 8)) hx hb dJ6_bitCount_0f7a4_36 (by decide) ?_
  refine lv_iushr hx hb dJ6_bitCount_0f7a4_38 rfl ?_
  refine lv_iadd hx hb dJ6_bitCount_0f7a4_39 ?_
  refine lv_nmi h (fun x0_4 h => ?_)
  refine lv_istore_n (lv' := [(0, .int x0_4)]) hx hb dJ6_bitCount_0f7a4_40 rfl hl (by decide) rfl (fun ls hl => ?_)
  refine lv_iload_n hx hb dJ6_bitCount_0f7a4_41 rfl (lv_at hl 0 rfl) ?_
  refine lv_iload_n hx hb dJ6_bitCount_0f7a4_42 rfl (lv_at hl 0 rfl) ?_
  refine lv_bipush (v := (nI 16)) hx hb dJ6_bitCount_0f7a4_43 (by decide) ?_
  refine lv_iushr hx hb dJ6_bitCount_0f7a4_45 rfl ?_
  refine lv_iadd hx hb dJ6_bitCount_0f7a4_46 ?_
  refine lv_nmi h (fun x0_5 h => ?_)
  refine lv_istore_n (lv' := [(0, .int x0_5)]) hx hb dJ6_bitCount_0f7a4_47 rfl hl (by decide) rfl (fun ls hl => ?_)
  refine lv_iload_n hx hb dJ6_bitCount_0f7a4_48 rfl (lv_at hl 0 rfl) ?_
  refine lv_bipush (v := (nI 63)) hx hb dJ6_bitCount_0f7a4_49 (by decide) ?_
  refine lv_iand hx hb dJ6_bitCount_0f7a4_51 ?_
  cases h
  rw [← hQe]
  exact W.iret hx hb hr (fun t ht hW => ⟨⟨_, (), rfl, rfl, by rw [ht]; exact hP, va_K.moved hW.alike hK, hD⟩, hS.F ht⟩) hS.2.2 dJ6_bitCount_0f7a4_52
def b_X4_leastSet_8 (v_joinedTold : Int32) (v_needed : Int32) (v_joinedMeaning : Nat → Int32) (v_joinedPair : Nat → Int32) (F : Nat) (rec8 : Int32 → Int32 → Option (Int32)) (x2_1 : Int32) (x3_2 : Int32) : Option (Int32) := (if (nI 255) ≤ x3_2 then some (x2_1) else bd1 (D_J6_bitCount_0f7a4 x3_2) (fun r_5 => bd1 (D_J6_bitCount_0f7a4 x2_1) (fun r_7 => (if r_7 ≤ r_5 then nm (x3_2 + (nI 1)) (fun x3_10 => rec8 x2_1 x3_10) else bd1 (D_X4_sayableBy F x3_2 v_joinedTold v_joinedMeaning v_joinedPair) (fun r_12 => (if (v_needed &&& (r_12 ^^^ (-1 : Int32))) = 0 then nm (x3_2 + (nI 1)) (fun x3_17 => rec8 x3_2 x3_17) else nm (x3_2 + (nI 1)) (fun x3_15 => rec8 x2_1 x3_15)))))))
def D_X4_leastSet (F : Nat) (v_joinedTold : Int32) (v_needed : Int32) (v_joinedMeaning : Nat → Int32) (v_joinedPair : Nat → Int32) : Option (Int32) := bd1 (lpg (T := Int32 → Int32 → Option (Int32)) (fun _ _ => none) (b_X4_leastSet_8 v_joinedTold v_needed v_joinedMeaning v_joinedPair F) F (nI 255) (nI 0)) (fun o_3 => some (o_3))
abbrev rm_X4_leastSet : Room := { frames := 2, cells := 0, slots := 0, locals := 44 }
set_option maxHeartbeats 4000000 in
set_option maxRecDepth 100000 in
theorem c_X4_leastSet (l : Launch) (D : va_G) (ca : Nat → ClassId) (F : Nat) (sz : Nat) (q_this q_joinedMeaning q_joinedPair : Nat) (v_joinedTold : Int32) (v_needsTold : Int32) (v_needed : Int32) (v_joinedMeaning : Nat → Int32) (v_joinedPair : Nat → Int32) (r : Int32) (h : D_X4_leastSet F v_joinedTold v_needed v_joinedMeaning v_joinedPair = some (r)) : Met l yX4_leastSet wsX4_leastSet rm_X4_leastSet (va_Pc [.ref q_this] (kPre D ca [(q_this, .inr (4, [.ref q_joinedMeaning, .ref q_joinedPair, .int v_joinedTold, .int v_needsTold, .int v_needed])), (q_joinedMeaning, .inl (ca 0, 8, .inl v_joinedMeaning)), (q_joinedPair, .inl (ca 0, 8, .inl v_joinedPair))] sz)) (kQi D ca (va_A [(q_this, .inr (4, [.ref q_joinedMeaning, .ref q_joinedPair, .int v_joinedTold, .int v_needsTold, .int v_needed])), (q_joinedMeaning, .inl (ca 0, 8, .inl v_joinedMeaning)), (q_joinedPair, .inl (ca 0, 8, .inl v_joinedPair))] sz) [(q_this, .inr (4, [.ref q_joinedMeaning, .ref q_joinedPair, .int v_joinedTold, .int v_needsTold, .int v_needed])), (q_joinedMeaning, .inl (ca 0, 8, .inl v_joinedMeaning)), (q_joinedPair, .inl (ca 0, 8, .inl v_joinedPair))] r) 0 0 (va_A [(q_this, .inr (4, [.ref q_joinedMeaning, .ref q_joinedPair, .int v_joinedTold, .int v_needsTold, .int v_needed])), (q_joinedMeaning, .inl (ca 0, 8, .inl v_joinedMeaning)), (q_joinedPair, .inl (ca 0, 8, .inl v_joinedPair))] sz) := by
  refine Met.ofW (cc := cX4_leastSet) (maxL := 4) (ret := (some .int)) (by decide +kernel) rfl ?_
  intro p e s m args below meth c s₁ B hml hv
  obtain ⟨rfl, hsz, hP, hK, hD0⟩ := hv
  have hx := B.exec
  have hb := B.bytes
  have hr := B.returns
  have hts := atoms_spec (ws := wsX4_leastSet) B.pre
  have hown : s.vm.findClass RX4 = some m.cls := findClass_of_methodNamed B.named
  have hlocks := B.notSynchronized
  clear B
  subst hsz
  have hD := hD0.self (sz := s.heap.size)
  generalize hAe : va_A [(q_this, .inr (4, [.ref q_joinedMeaning, .ref q_joinedPair, .int v_joinedTold, .int v_needsTold, .int v_needed])), (q_joinedMeaning, .inl (ca 0, 8, .inl v_joinedMeaning)), (q_joinedPair, .inl (ca 0, 8, .inl v_joinedPair))] s.heap.size = A at hD ⊢
  have hA : ∀ q : Nat, s.heap.size ≤ q → A q := fun q h => by rw [← hAe]; exact Or.inr h
  have hS : va_S A s.heap s.heap [] := va_S.rf
  have hl := lv_entry ([.ref q_this]) (n := 4) (Nat.le_of_ble_eq_true rfl)
  rw [lg_entry_eq]
  generalize (lg_sl ([.ref q_this]) ++ List.replicate (4 - (lg_sl ([.ref q_this])).length) Slot.unset).toArray = ls at hl ⊢
  have hl : lv_has ls 4 [(0, .ref q_this)] := hl
  generalize ([.ref q_this] : List Value).toArray = args at hts ⊢
  generalize hQe : MQ below (kQi D ca (A) [(q_this, .inr (4, [.ref q_joinedMeaning, .ref q_joinedPair, .int v_joinedTold, .int v_needsTold, .int v_needed])), (q_joinedMeaning, .inl (ca 0, 8, .inl v_joinedMeaning)), (q_joinedPair, .inl (ca 0, 8, .inl v_joinedPair))] r) args s 0 0 A = Q
  have i_X4 : ∀ w ∈ u_ws RX4 TX4 5, w ∈ wsX4_leastSet := by decide +kernel
  have k_25 := hts (.fieldLink RX4 25 "TradeWords$Needs" "needed" "I") (by decide +kernel)
  rw [D_X4_leastSet] at h
  refine lv_sipush (v := (nI 255)) hx hb dX4_leastSet_0 (by decide) ?_
  refine lv_istore_n (lv' := [(1, .int (nI 255)), (0, .ref q_this)]) hx hb dX4_leastSet_3 rfl hl (by decide) rfl (fun ls hl => ?_)
  refine lv_iload_n hx hb dX4_leastSet_4 rfl (lv_at hl 0 rfl) ?_
  refine lv_istore_n (lv' := [(2, .int (nI 255)), (1, .int (nI 255)), (0, .ref q_this)]) hx hb dX4_leastSet_5 rfl hl (by decide) rfl (fun ls hl => ?_)
  refine lv_iconst (v := (nI 0)) hx hb dX4_leastSet_6 (by decide) ?_
  refine lv_istore_n (lv' := [(3, .int (nI 0)), (2, .int (nI 255)), (1, .int (nI 255)), (0, .ref q_this)]) hx hb dX4_leastSet_7 rfl hl (by decide) rfl (fun ls hl => ?_)
  obtain ⟨o_3, hL, h⟩ := bd1_el h
  have hex : ∀ (H : Heap) (locs : List Loc) (ls : Array Slot), va_P D vwCl [(q_this, .inr (4, [.ref q_joinedMeaning, .ref q_joinedPair, .int v_joinedTold, .int v_needsTold, .int v_needed])), (q_joinedMeaning, .inl (ca 0, 8, .inl v_joinedMeaning)), (q_joinedPair, .inl (ca 0, 8, .inl v_joinedPair))] H → va_D A [(q_this, .inr (4, [.ref q_joinedMeaning, .ref q_joinedPair, .int v_joinedTold, .int v_needsTold, .int v_needed])), (q_joinedMeaning, .inl (ca 0, 8, .inl v_joinedMeaning)), (q_joinedPair, .inl (ca 0, 8, .inl v_joinedPair))] → va_S A s.heap H locs → lv_has ls 4 [(2, .int o_3)] → W p l e (headSpec wsX4_leastSet rm_X4_leastSet).room s m args below meth c H locs 0 0 Q (F0 m 47 ls []) := by
    intro H locs ls hP hD hS hl
    refine lv_iload_n hx hb dX4_leastSet_47 rfl (lv_at hl 0 rfl) ?_
    cases h
    rw [← hQe]
    exact W.iret hx hb hr (fun t ht hW => ⟨⟨_, (), rfl, rfl, by rw [ht]; exact hP, va_K.moved hW.alike hK, hD⟩, hS.F ht⟩) hS.2.2 dX4_leastSet_48
  have hlp : ∀ (n : Nat) (x2_1 : Int32) (x3_2 : Int32) (o_3 : Int32) (H : Heap) (locs : List Loc) (ls : Array Slot), lpg (T := Int32 → Int32 → Option (Int32)) (fun _ _ => none) (b_X4_leastSet_8 v_joinedTold v_needed v_joinedMeaning v_joinedPair F) n x2_1 x3_2 = some (o_3) → (∀ (H : Heap) (locs : List Loc) (ls : Array Slot), va_P D vwCl [(q_this, .inr (4, [.ref q_joinedMeaning, .ref q_joinedPair, .int v_joinedTold, .int v_needsTold, .int v_needed])), (q_joinedMeaning, .inl (ca 0, 8, .inl v_joinedMeaning)), (q_joinedPair, .inl (ca 0, 8, .inl v_joinedPair))] H → va_D A [(q_this, .inr (4, [.ref q_joinedMeaning, .ref q_joinedPair, .int v_joinedTold, .int v_needsTold, .int v_needed])), (q_joinedMeaning, .inl (ca 0, 8, .inl v_joinedMeaning)), (q_joinedPair, .inl (ca 0, 8, .inl v_joinedPair))] → va_S A s.heap H locs → lv_has ls 4 [(2, .int o_3)] → W p l e (headSpec wsX4_leastSet rm_X4_leastSet).room s m args below meth c H locs 0 0 Q (F0 m 47 ls [])) → va_P D vwCl [(q_this, .inr (4, [.ref q_joinedMeaning, .ref q_joinedPair, .int v_joinedTold, .int v_needsTold, .int v_needed])), (q_joinedMeaning, .inl (ca 0, 8, .inl v_joinedMeaning)), (q_joinedPair, .inl (ca 0, 8, .inl v_joinedPair))] H → va_D A [(q_this, .inr (4, [.ref q_joinedMeaning, .ref q_joinedPair, .int v_joinedTold, .int v_needsTold, .int v_needed])), (q_joinedMeaning, .inl (ca 0, 8, .inl v_joinedMeaning)), (q_joinedPair, .inl (ca 0, 8, .inl v_joinedPair))] → va_S A s.heap H locs → lv_has ls 4 [(0, .ref q_this), (1, .int (nI 255)), (2, .int x2_1), (3, .int x3_2)] → W p l e (headSpec wsX4_leastSet rm_X4_leastSet).room s m args below meth c H locs 0 0 Q (F0 m 8 ls []) := by
    intro n
    induction n with
    | zero => intro x2_1 x3_2 o_3 H locs ls h; have h : (none : Option (Int32)) = some _ := h; cases h
    | succ n ih =>
      intro x2_1 x3_2 o_3 H locs ls h hex hP hD hS hl
      rw [lpg_succ, b_X4_leastSet_8] at h
      refine lv_iload_n hx hb dX4_leastSet_8 rfl (lv_at hl 3 rfl) ?_
      refine lv_iload_n hx hb dX4_leastSet_9 rfl (lv_at hl 1 rfl) ?_
      refine lv_icmp_ge (tgt := 47) hx hb dX4_leastSet_10 (by decide) (fun c_4 => ?_) (fun c_4 => ?_)
      · replace h := ifp_el c_4 h
        cases h
        exact hex _ _ _ hP hD hS (lv_sub hl [2] rfl)
      · replace h := ifn_el c_4 h
        refine lv_iload_n hx hb dX4_leastSet_13 rfl (lv_at hl 3 rfl) ?_
        obtain ⟨r_5, hg_6, h⟩ := bd1_el h
        refine kx_Si (As := [.int x3_2]) (rest := []) (wr := [(q_this, .inr (4, [.ref q_joinedMeaning, .ref q_joinedPair, .int v_joinedTold, .int v_needsTold, .int v_needed])), (q_joinedMeaning, .inl (ca 0, 8, .inl v_joinedMeaning)), (q_joinedPair, .inl (ca 0, 8, .inl v_joinedPair))]) (w1 := []) (wn := [(q_this, .inr (4, [.ref q_joinedMeaning, .ref q_joinedPair, .int v_joinedTold, .int v_needsTold, .int v_needed])), (q_joinedMeaning, .inl (ca 0, 8, .inl v_joinedMeaning)), (q_joinedPair, .inl (ca 0, 8, .inl v_joinedPair))]) ⟨hx, hb, hml, hown, hts⟩ (c_J6_bitCount_0f7a4 l D ca H.size x3_2 r_5 hg_6) (va_cwS 1 hts gX4_leastSet_J6_bitCount_0f7a4 rfl rfl rfl (by decide +kernel) ⟨(Nat.le_of_ble_eq_true rfl), (Nat.le_of_ble_eq_true rfl)⟩) hK hP hD hS hA [] [0, 1, 2] [0, 1, 2] rfl rfl rfl rfl (by decide) rfl rfl rfl hl.1 rfl (Nat.le_of_ble_eq_true rfl) dX4_leastSet_14 ⟨Nat.zero_le _, Nat.zero_le _⟩ (fun H locs hP hD hS => ?_)
        refine lv_iload_n hx hb dX4_leastSet_17 rfl (lv_at hl 2 rfl) ?_
        obtain ⟨r_7, hg_8, h⟩ := bd1_el h
        refine kx_Si (As := [.int x2_1]) (rest := [.int r_5]) (wr := [(q_this, .inr (4, [.ref q_joinedMeaning, .ref q_joinedPair, .int v_joinedTold, .int v_needsTold, .int v_needed])), (q_joinedMeaning, .inl (ca 0, 8, .inl v_joinedMeaning)), (q_joinedPair, .inl (ca 0, 8, .inl v_joinedPair))]) (w1 := []) (wn := [(q_this, .inr (4, [.ref q_joinedMeaning, .ref q_joinedPair, .int v_joinedTold, .int v_needsTold, .int v_needed])), (q_joinedMeaning, .inl (ca 0, 8, .inl v_joinedMeaning)), (q_joinedPair, .inl (ca 0, 8, .inl v_joinedPair))]) ⟨hx, hb, hml, hown, hts⟩ (c_J6_bitCount_0f7a4 l D ca H.size x2_1 r_7 hg_8) (va_cwS 1 hts gX4_leastSet_J6_bitCount_0f7a4 rfl rfl rfl (by decide +kernel) ⟨(Nat.le_of_ble_eq_true rfl), (Nat.le_of_ble_eq_true rfl)⟩) hK hP hD hS hA [] [0, 1, 2] [0, 1, 2] rfl rfl rfl rfl (by decide) rfl rfl rfl hl.1 rfl (Nat.le_of_ble_eq_true rfl) dX4_leastSet_18 ⟨Nat.zero_le _, Nat.zero_le _⟩ (fun H locs hP hD hS => ?_)
        refine lv_icmp_ge (tgt := 41) hx hb dX4_leastSet_21 (by decide) (fun c_9 => ?_) (fun c_9 => ?_)
        · replace h := ifp_el c_9 h
          obtain ⟨x3_10, e_11, h⟩ := nm_el h
          refine lv_iinc (v := x3_10) (lv' := [(3, .int x3_10), (0, .ref q_this), (1, .int (nI 255)), (2, .int x2_1)]) hx hb dX4_leastSet_41 hl (k := 3) rfl (by rw [← e_11]; rfl) (by decide) rfl (fun ls hl => ?_)
          refine lv_goto (tgt := 8) hx hb dX4_leastSet_44 (by decide) ?_
          exact ih _ _ _ _ _ _ h hex hP hD hS (lv_sub hl [1, 2, 3, 0] rfl)
        · replace h := ifn_el c_9 h
          refine lv_aload_n hx hb dX4_leastSet_24 rfl (lv_at hl 0 rfl) ?_
          refine va_get (D := D) (ci := 4) (v := .int v_needed) (C := RX4) (T := TX4) (N := 5) hx hb hts i_X4 hown hK hP 0 rfl rfl 4 (by decide) k_25 (fun _ h9 => h9) rfl dX4_leastSet_25 ?_
          refine lv_aload_n hx hb dX4_leastSet_28 rfl (lv_at hl 0 rfl) ?_
          refine lv_iload_n hx hb dX4_leastSet_29 rfl (lv_at hl 3 rfl) ?_
          obtain ⟨r_12, hg_13, h⟩ := bd1_el h
          refine kx_Vi (As := [.int x3_2]) (rest := [.int v_needed]) (wr := []) (w1 := [(q_this, .inr (4, [.ref q_joinedMeaning, .ref q_joinedPair, .int v_joinedTold, .int v_needsTold, .int v_needed])), (q_joinedMeaning, .inl (ca 0, 8, .inl v_joinedMeaning)), (q_joinedPair, .inl (ca 0, 8, .inl v_joinedPair))]) (wn := [(q_this, .inr (4, [.ref q_joinedMeaning, .ref q_joinedPair, .int v_joinedTold, .int v_needsTold, .int v_needed])), (q_joinedMeaning, .inl (ca 0, 8, .inl v_joinedMeaning)), (q_joinedPair, .inl (ca 0, 8, .inl v_joinedPair))]) ⟨hx, hb, hml, hown, hts⟩ (c_X4_sayableBy l D ca F H.size q_this q_joinedMeaning q_joinedPair x3_2 v_joinedTold v_needsTold v_needed v_joinedMeaning v_joinedPair r_12 hg_13) (cwV 1 hts gX4_leastSet_X4_sayableBy rfl rfl rfl (by decide +kernel) ⟨(Nat.le_of_ble_eq_true rfl), (Nat.le_of_ble_eq_true rfl)⟩) hK hP hD hS hA (ci := 4) (q0 := 0) rfl rfl [0, 1, 2] [] [0, 1, 2] rfl rfl rfl rfl (by decide) rfl rfl rfl hl.1 rfl (Nat.le_of_ble_eq_true rfl) dX4_leastSet_30 ⟨Nat.zero_le _, Nat.zero_le _⟩ (fun H locs hP hD hS => ?_)
          refine lv_iconst (v := (-1 : Int32)) hx hb dX4_leastSet_33 (by decide) ?_
          refine lv_ixor hx hb dX4_leastSet_34 ?_
          refine lv_iand hx hb dX4_leastSet_35 ?_
          refine lv_if_ne (tgt := 41) hx hb dX4_leastSet_36 (by decide) (fun c_14 => ?_) (fun c_14 => ?_)
          · replace h := ifn_el c_14 h
            obtain ⟨x3_15, e_16, h⟩ := nm_el h
            refine lv_iinc (v := x3_15) (lv' := [(3, .int x3_15), (0, .ref q_this), (1, .int (nI 255)), (2, .int x2_1)]) hx hb dX4_leastSet_41 hl (k := 3) rfl (by rw [← e_16]; rfl) (by decide) rfl (fun ls hl => ?_)
            refine lv_goto (tgt := 8) hx hb dX4_leastSet_44 (by decide) ?_
            exact ih _ _ _ _ _ _ h hex hP hD hS (lv_sub hl [1, 2, 3, 0] rfl)
          · replace h := ifp_el c_14 h
            refine lv_iload_n hx hb dX4_leastSet_39 rfl (lv_at hl 3 rfl) ?_
            refine lv_istore_n (lv' := [(2, .int x3_2), (0, .ref q_this), (1, .int (nI 255)), (3, .int x3_2)]) hx hb dX4_leastSet_40 rfl hl (by decide) rfl (fun ls hl => ?_)
            obtain ⟨x3_17, e_18, h⟩ := nm_el h
            refine lv_iinc (v := x3_17) (lv' := [(3, .int x3_17), (2, .int x3_2), (0, .ref q_this), (1, .int (nI 255))]) hx hb dX4_leastSet_41 hl (k := 3) rfl (by rw [← e_18]; rfl) (by decide) rfl (fun ls hl => ?_)
            refine lv_goto (tgt := 8) hx hb dX4_leastSet_44 (by decide) ?_
            exact ih _ _ _ _ _ _ h hex hP hD hS (lv_sub hl [2, 3, 1, 0] rfl)
  exact hlp F (nI 255) (nI 0) o_3 s.heap [] ls hL hex hP hD hS (lv_sub hl [3, 2, 1, 0] rfl)
def D_X6_clear (F : Nat) (v_kept : Int32) (v_others : Nat → Int32) : Option (Int32 × (Nat → Int32)) := bd1 (D_J7_fill_53178 F 16 (nI 0) v_others) (fun y_others_1 => some ((nI 0), y_others_1))
abbrev rm_X6_clear : Room := { frames := 1, cells := 0, slots := 0, locals := 23 }
set_option maxHeartbeats 4000000 in
set_option maxRecDepth 100000 in
theorem c_X6_clear (l : Launch) (D : va_G) (ca : Nat → ClassId) (F : Nat) (sz : Nat) (q_this q_others q_keptOthers : Nat) (v_kept : Int32) (v_others : Nat → Int32) (o_kept : Int32) (o_others : Nat → Int32) (h : D_X6_clear F v_kept v_others = some (o_kept, o_others)) : Met l yX6_clear wsX6_clear rm_X6_clear (va_Pc [.ref q_this] (kPre D ca [(q_this, .inr (5, [.ref q_others, .ref q_keptOthers, .int v_kept])), (q_others, .inl (ca 0, 16, .inl v_others))] sz)) (kQv D ca (va_A [(q_this, .inr (5, [.ref q_others, .ref q_keptOthers, .int v_kept])), (q_others, .inl (ca 0, 16, .inl v_others))] sz) [(q_this, .inr (5, [.ref q_others, .ref q_keptOthers, .int o_kept])), (q_others, .inl (ca 0, 16, .inl o_others))]) 0 0 (va_A [(q_this, .inr (5, [.ref q_others, .ref q_keptOthers, .int v_kept])), (q_others, .inl (ca 0, 16, .inl v_others))] sz) := by
  refine Met.ofW (cc := cX6_clear) (maxL := 1) (ret := none) (by decide +kernel) rfl ?_
  intro p e s m args below meth c s₁ B hml hv
  obtain ⟨rfl, hsz, hP, hK, hD0⟩ := hv
  have hx := B.exec
  have hb := B.bytes
  have hr := B.returns
  have hts := atoms_spec (ws := wsX6_clear) B.pre
  have hown : s.vm.findClass RX6 = some m.cls := findClass_of_methodNamed B.named
  have hlocks := B.notSynchronized
  clear B
  subst hsz
  have hD := hD0.self (sz := s.heap.size)
  generalize hAe : va_A [(q_this, .inr (5, [.ref q_others, .ref q_keptOthers, .int v_kept])), (q_others, .inl (ca 0, 16, .inl v_others))] s.heap.size = A at hD ⊢
  have hA : ∀ q : Nat, s.heap.size ≤ q → A q := fun q h => by rw [← hAe]; exact Or.inr h
  have hS : va_S A s.heap s.heap [] := va_S.rf
  have hl := lv_entry ([.ref q_this]) (n := 1) (Nat.le_of_ble_eq_true rfl)
  rw [lg_entry_eq]
  generalize (lg_sl ([.ref q_this]) ++ List.replicate (1 - (lg_sl ([.ref q_this])).length) Slot.unset).toArray = ls at hl ⊢
  have hl : lv_has ls 1 [(0, .ref q_this)] := hl
  generalize ([.ref q_this] : List Value).toArray = args at hts ⊢
  generalize hQe : MQ below (kQv D ca (A) [(q_this, .inr (5, [.ref q_others, .ref q_keptOthers, .int o_kept])), (q_others, .inl (ca 0, 16, .inl o_others))]) args s 0 0 A = Q
  have i_X6 : ∀ w ∈ u_ws RX6 TX6 3, w ∈ wsX6_clear := by decide +kernel
  have k_11 := hts (.fieldLink RX6 11 "TradeWords$Stands" "others" "[I") (by decide +kernel)
  have k_24 := hts (.fieldLink RX6 24 "TradeWords$Stands" "kept" "I") (by decide +kernel)
  rw [D_X6_clear] at h
  refine lv_aload_n hx hb dX6_clear_0 rfl (lv_at hl 0 rfl) ?_
  refine va_get (D := D) (ci := 5) (v := .ref q_others) (C := RX6) (T := TX6) (N := 3) hx hb hts i_X6 hown hK hP 0 rfl rfl 0 (by decide) k_11 (fun _ h9 => h9) rfl dX6_clear_1 ?_
  refine lv_iconst (v := (nI 0)) hx hb dX6_clear_4 (by decide) ?_
  obtain ⟨y_others_1, hg_2, h⟩ := bd1_el h
  refine kx_Sv (As := [.ref q_others, .int (nI 0)]) (rest := []) (wr := [(q_this, .inr (5, [.ref q_others, .ref q_keptOthers, .int v_kept]))]) (w1 := [(q_others, .inl (ca 0, 16, .inl y_others_1))]) (wn := [(q_this, .inr (5, [.ref q_others, .ref q_keptOthers, .int v_kept])), (q_others, .inl (ca 0, 16, .inl y_others_1))]) ⟨hx, hb, hml, hown, hts⟩ (c_J7_fill_53178 l D ca F s.heap.size q_others 16 (nI 0) v_others y_others_1 hg_2) (va_cwS 2 hts gX6_clear_J7_fill_53178 rfl rfl rfl (by decide +kernel) ⟨(Nat.le_of_ble_eq_true rfl), (Nat.le_of_ble_eq_true rfl)⟩) hK hP hD hS hA [1] [0] [0, 1] rfl rfl rfl rfl (by decide) rfl rfl rfl hl.1 rfl (Nat.le_of_ble_eq_true rfl) dX6_clear_5 ⟨Nat.zero_le _, Nat.zero_le _⟩ (fun H locs hP hD hS => ?_)
  refine lv_aload_n hx hb dX6_clear_8 rfl (lv_at hl 0 rfl) ?_
  refine lv_iconst (v := (nI 0)) hx hb dX6_clear_9 (by decide) ?_
  refine va_put (D := D) (ci := 5) (v := .int (nI 0)) (ty := .int) (C := RX6) (T := TX6) (N := 3) hx hb hts i_X6 tyX6 tyX6_ok nmX6 hown hK hP hD hS 0 rfl rfl 2 (by decide) k_24 (fun _ h9 => h9) rfl (by decide +kernel) rfl rfl (Nat.le_of_ble_eq_true rfl) dX6_clear_10 (fun H locs hP hD hS => ?_)
  have hP : va_P D vwCl [(q_this, .inr (5, [.ref q_others, .ref q_keptOthers, .int (nI 0)])), (q_others, .inl (ca 0, 16, .inl y_others_1))] H := hP
  have hD : va_D A [(q_this, .inr (5, [.ref q_others, .ref q_keptOthers, .int (nI 0)])), (q_others, .inl (ca 0, 16, .inl y_others_1))] := hD
  cases h
  rw [← hQe]
  exact W.vret hx hb hr (fun t ht hW => ⟨⟨(), rfl, trivial, by rw [ht]; exact hP, va_K.moved hW.alike hK, hD⟩, hS.F ht⟩) hS.2.2 dX6_clear_13
def D_X6_of (p1 : Int32) (p2 : Int32) (v_others : Nat → Int32) : Option (Int32) := bd1 (D_X5_at 16 (((nI 2) * p1) + p2) v_others) (fun r_1 => some (r_1))
abbrev rm_X6_of : Room := { frames := 1, cells := 0, slots := 0, locals := 21 }
set_option maxHeartbeats 4000000 in
set_option maxRecDepth 100000 in
theorem c_X6_of (l : Launch) (D : va_G) (ca : Nat → ClassId) (sz : Nat) (q_this q_others q_keptOthers : Nat) (p1 : Int32) (p2 : Int32) (v_kept : Int32) (v_others : Nat → Int32) (r : Int32) (h : D_X6_of p1 p2 v_others = some (r)) : Met l yX6_of wsX6_of rm_X6_of (va_Pc [.ref q_this, .int p1, .int p2] (kPre D ca [(q_this, .inr (5, [.ref q_others, .ref q_keptOthers, .int v_kept])), (q_others, .inl (ca 0, 16, .inl v_others))] sz)) (kQi D ca (va_A [(q_this, .inr (5, [.ref q_others, .ref q_keptOthers, .int v_kept])), (q_others, .inl (ca 0, 16, .inl v_others))] sz) [(q_this, .inr (5, [.ref q_others, .ref q_keptOthers, .int v_kept])), (q_others, .inl (ca 0, 16, .inl v_others))] r) 0 0 (va_A [(q_this, .inr (5, [.ref q_others, .ref q_keptOthers, .int v_kept])), (q_others, .inl (ca 0, 16, .inl v_others))] sz) := by
  refine Met.ofW (cc := cX6_of) (maxL := 3) (ret := (some .int)) (by decide +kernel) rfl ?_
  intro p e s m args below meth c s₁ B hml hv
  obtain ⟨rfl, hsz, hP, hK, hD0⟩ := hv
  have hx := B.exec
  have hb := B.bytes
  have hr := B.returns
  have hts := atoms_spec (ws := wsX6_of) B.pre
  have hown : s.vm.findClass RX6 = some m.cls := findClass_of_methodNamed B.named
  have hlocks := B.notSynchronized
  clear B
  subst hsz
  have hD := hD0.self (sz := s.heap.size)
  generalize hAe : va_A [(q_this, .inr (5, [.ref q_others, .ref q_keptOthers, .int v_kept])), (q_others, .inl (ca 0, 16, .inl v_others))] s.heap.size = A at hD ⊢
  have hA : ∀ q : Nat, s.heap.size ≤ q → A q := fun q h => by rw [← hAe]; exact Or.inr h
  have hS : va_S A s.heap s.heap [] := va_S.rf
  have hl := lv_entry ([.ref q_this, .int p1, .int p2]) (n := 3) (Nat.le_of_ble_eq_true rfl)
  rw [lg_entry_eq]
  generalize (lg_sl ([.ref q_this, .int p1, .int p2]) ++ List.replicate (3 - (lg_sl ([.ref q_this, .int p1, .int p2])).length) Slot.unset).toArray = ls at hl ⊢
  have hl : lv_has ls 3 [(0, .ref q_this), (1, .int p1), (2, .int p2)] := hl
  generalize ([.ref q_this, .int p1, .int p2] : List Value).toArray = args at hts ⊢
  generalize hQe : MQ below (kQi D ca (A) [(q_this, .inr (5, [.ref q_others, .ref q_keptOthers, .int v_kept])), (q_others, .inl (ca 0, 16, .inl v_others))] r) args s 0 0 A = Q
  have i_X6 : ∀ w ∈ u_ws RX6 TX6 3, w ∈ wsX6_of := by decide +kernel
  have k_11 := hts (.fieldLink RX6 11 "TradeWords$Stands" "others" "[I") (by decide +kernel)
  rw [D_X6_of] at h
  refine lv_aload_n hx hb dX6_of_0 rfl (lv_at hl 0 rfl) ?_
  refine va_get (D := D) (ci := 5) (v := .ref q_others) (C := RX6) (T := TX6) (N := 3) hx hb hts i_X6 hown hK hP 0 rfl rfl 0 (by decide) k_11 (fun _ h9 => h9) rfl dX6_of_1 ?_
  refine lv_iconst (v := (nI 2)) hx hb dX6_of_4 (by decide) ?_
  refine lv_iload_n hx hb dX6_of_5 rfl (lv_at hl 1 rfl) ?_
  refine lv_imul hx hb dX6_of_6 ?_
  refine lv_iload_n hx hb dX6_of_7 rfl (lv_at hl 2 rfl) ?_
  refine lv_iadd hx hb dX6_of_8 ?_
  obtain ⟨r_1, hg_2, h⟩ := bd1_el h
  refine kx_Si (As := [.ref q_others, .int (((nI 2) * p1) + p2)]) (rest := []) (wr := [(q_this, .inr (5, [.ref q_others, .ref q_keptOthers, .int v_kept]))]) (w1 := [(q_others, .inl (ca 0, 16, .inl v_others))]) (wn := [(q_this, .inr (5, [.ref q_others, .ref q_keptOthers, .int v_kept])), (q_others, .inl (ca 0, 16, .inl v_others))]) ⟨hx, hb, hml, hown, hts⟩ (c_X5_at l D ca s.heap.size q_others 16 (((nI 2) * p1) + p2) v_others r_1 hg_2) (va_cwS 2 hts gX6_of_X5_at rfl rfl rfl (by decide +kernel) ⟨(Nat.le_of_ble_eq_true rfl), (Nat.le_of_ble_eq_true rfl)⟩) hK hP hD hS hA [1] [0] [0, 1] rfl rfl rfl rfl (by decide) rfl rfl rfl hl.1 rfl (Nat.le_of_ble_eq_true rfl) dX6_of_9 ⟨Nat.zero_le _, Nat.zero_le _⟩ (fun H locs hP hD hS => ?_)
  cases h
  rw [← hQe]
  exact W.iret hx hb hr (fun t ht hW => ⟨⟨_, (), rfl, rfl, by rw [ht]; exact hP, va_K.moved hW.alike hK, hD⟩, hS.F ht⟩) hS.2.2 dX6_of_12
def D_X6_put (p1 : Int32) (p2 : Int32) (p3 : Int32) (v_others : Nat → Int32) : Option ((Nat → Int32)) := bd1 (D_X5_put 16 ((nI 2) * p1) p2 v_others) (fun y_others_1 => bd1 (D_X5_put 16 (((nI 2) * p1) + (nI 1)) p3 y_others_1) (fun y_others_3 => some (y_others_3)))
abbrev rm_X6_put : Room := { frames := 1, cells := 0, slots := 0, locals := 22 }
set_option maxHeartbeats 4000000 in
set_option maxRecDepth 100000 in
theorem c_X6_put (l : Launch) (D : va_G) (ca : Nat → ClassId) (sz : Nat) (q_this q_others q_keptOthers : Nat) (p1 : Int32) (p2 : Int32) (p3 : Int32) (v_kept : Int32) (v_others : Nat → Int32) (o_others : Nat → Int32) (h : D_X6_put p1 p2 p3 v_others = some (o_others)) : Met l yX6_put wsX6_put rm_X6_put (va_Pc [.ref q_this, .int p1, .int p2, .int p3] (kPre D ca [(q_this, .inr (5, [.ref q_others, .ref q_keptOthers, .int v_kept])), (q_others, .inl (ca 0, 16, .inl v_others))] sz)) (kQv D ca (va_A [(q_this, .inr (5, [.ref q_others, .ref q_keptOthers, .int v_kept])), (q_others, .inl (ca 0, 16, .inl v_others))] sz) [(q_this, .inr (5, [.ref q_others, .ref q_keptOthers, .int v_kept])), (q_others, .inl (ca 0, 16, .inl o_others))]) 0 0 (va_A [(q_this, .inr (5, [.ref q_others, .ref q_keptOthers, .int v_kept])), (q_others, .inl (ca 0, 16, .inl v_others))] sz) := by
  refine Met.ofW (cc := cX6_put) (maxL := 4) (ret := none) (by decide +kernel) rfl ?_
  intro p e s m args below meth c s₁ B hml hv
  obtain ⟨rfl, hsz, hP, hK, hD0⟩ := hv
  have hx := B.exec
  have hb := B.bytes
  have hr := B.returns
  have hts := atoms_spec (ws := wsX6_put) B.pre
  have hown : s.vm.findClass RX6 = some m.cls := findClass_of_methodNamed B.named
  have hlocks := B.notSynchronized
  clear B
  subst hsz
  have hD := hD0.self (sz := s.heap.size)
  generalize hAe : va_A [(q_this, .inr (5, [.ref q_others, .ref q_keptOthers, .int v_kept])), (q_others, .inl (ca 0, 16, .inl v_others))] s.heap.size = A at hD ⊢
  have hA : ∀ q : Nat, s.heap.size ≤ q → A q := fun q h => by rw [← hAe]; exact Or.inr h
  have hS : va_S A s.heap s.heap [] := va_S.rf
  have hl := lv_entry ([.ref q_this, .int p1, .int p2, .int p3]) (n := 4) (Nat.le_of_ble_eq_true rfl)
  rw [lg_entry_eq]
  generalize (lg_sl ([.ref q_this, .int p1, .int p2, .int p3]) ++ List.replicate (4 - (lg_sl ([.ref q_this, .int p1, .int p2, .int p3])).length) Slot.unset).toArray = ls at hl ⊢
  have hl : lv_has ls 4 [(0, .ref q_this), (1, .int p1), (2, .int p2), (3, .int p3)] := hl
  generalize ([.ref q_this, .int p1, .int p2, .int p3] : List Value).toArray = args at hts ⊢
  generalize hQe : MQ below (kQv D ca (A) [(q_this, .inr (5, [.ref q_others, .ref q_keptOthers, .int v_kept])), (q_others, .inl (ca 0, 16, .inl o_others))]) args s 0 0 A = Q
  have i_X6 : ∀ w ∈ u_ws RX6 TX6 3, w ∈ wsX6_put := by decide +kernel
  have k_11 := hts (.fieldLink RX6 11 "TradeWords$Stands" "others" "[I") (by decide +kernel)
  rw [D_X6_put] at h
  refine lv_aload_n hx hb dX6_put_0 rfl (lv_at hl 0 rfl) ?_
  refine va_get (D := D) (ci := 5) (v := .ref q_others) (C := RX6) (T := TX6) (N := 3) hx hb hts i_X6 hown hK hP 0 rfl rfl 0 (by decide) k_11 (fun _ h9 => h9) rfl dX6_put_1 ?_
  refine lv_iconst (v := (nI 2)) hx hb dX6_put_4 (by decide) ?_
  refine lv_iload_n hx hb dX6_put_5 rfl (lv_at hl 1 rfl) ?_
  refine lv_imul hx hb dX6_put_6 ?_
  refine lv_iload_n hx hb dX6_put_7 rfl (lv_at hl 2 rfl) ?_
  obtain ⟨y_others_1, hg_2, h⟩ := bd1_el h
  refine kx_Sv (As := [.ref q_others, .int ((nI 2) * p1), .int p2]) (rest := []) (wr := [(q_this, .inr (5, [.ref q_others, .ref q_keptOthers, .int v_kept]))]) (w1 := [(q_others, .inl (ca 0, 16, .inl y_others_1))]) (wn := [(q_this, .inr (5, [.ref q_others, .ref q_keptOthers, .int v_kept])), (q_others, .inl (ca 0, 16, .inl y_others_1))]) ⟨hx, hb, hml, hown, hts⟩ (c_X5_put l D ca s.heap.size q_others 16 ((nI 2) * p1) p2 v_others y_others_1 hg_2) (va_cwS 3 hts gX6_put_X5_put rfl rfl rfl (by decide +kernel) ⟨(Nat.le_of_ble_eq_true rfl), (Nat.le_of_ble_eq_true rfl)⟩) hK hP hD hS hA [1] [0] [0, 1] rfl rfl rfl rfl (by decide) rfl rfl rfl hl.1 rfl (Nat.le_of_ble_eq_true rfl) dX6_put_8 ⟨Nat.zero_le _, Nat.zero_le _⟩ (fun H locs hP hD hS => ?_)
  refine lv_aload_n hx hb dX6_put_11 rfl (lv_at hl 0 rfl) ?_
  refine va_get (D := D) (ci := 5) (v := .ref q_others) (C := RX6) (T := TX6) (N := 3) hx hb hts i_X6 hown hK hP 0 rfl rfl 0 (by decide) k_11 (fun _ h9 => h9) rfl dX6_put_12 ?_
  refine lv_iconst (v := (nI 2)) hx hb dX6_put_15 (by decide) ?_
  refine lv_iload_n hx hb dX6_put_16 rfl (lv_at hl 1 rfl) ?_
  refine lv_imul hx hb dX6_put_17 ?_
  refine lv_iconst (v := (nI 1)) hx hb dX6_put_18 (by decide) ?_
  refine lv_iadd hx hb dX6_put_19 ?_
  refine lv_iload_n hx hb dX6_put_20 rfl (lv_at hl 3 rfl) ?_
  obtain ⟨y_others_3, hg_4, h⟩ := bd1_el h
  refine kx_Sv (As := [.ref q_others, .int (((nI 2) * p1) + (nI 1)), .int p3]) (rest := []) (wr := [(q_this, .inr (5, [.ref q_others, .ref q_keptOthers, .int v_kept]))]) (w1 := [(q_others, .inl (ca 0, 16, .inl y_others_3))]) (wn := [(q_this, .inr (5, [.ref q_others, .ref q_keptOthers, .int v_kept])), (q_others, .inl (ca 0, 16, .inl y_others_3))]) ⟨hx, hb, hml, hown, hts⟩ (c_X5_put l D ca H.size q_others 16 (((nI 2) * p1) + (nI 1)) p3 y_others_1 y_others_3 hg_4) (va_cwS 3 hts gX6_put_X5_put rfl rfl rfl (by decide +kernel) ⟨(Nat.le_of_ble_eq_true rfl), (Nat.le_of_ble_eq_true rfl)⟩) hK hP hD hS hA [1] [0] [0, 1] rfl rfl rfl rfl (by decide) rfl rfl rfl hl.1 rfl (Nat.le_of_ble_eq_true rfl) dX6_put_21 ⟨Nat.zero_le _, Nat.zero_le _⟩ (fun H locs hP hD hS => ?_)
  cases h
  rw [← hQe]
  exact W.vret hx hb hr (fun t ht hW => ⟨⟨(), rfl, trivial, by rw [ht]; exact hP, va_K.moved hW.alike hK, hD⟩, hS.F ht⟩) hS.2.2 dX6_put_24
def D_X6_change (p1 : Int32) (p2 : Int32) (p3 : Int32) (v_others : Nat → Int32) : Option ((Nat → Int32)) := bd1 (D_X6_of p1 p2 v_others) (fun r_1 => bd1 (D_X5_put 16 (((nI 2) * p1) + p2) (r_1 + p3) v_others) (fun y_others_3 => some (y_others_3)))
abbrev rm_X6_change : Room := { frames := 2, cells := 0, slots := 0, locals := 43 }
set_option maxHeartbeats 4000000 in
set_option maxRecDepth 100000 in
theorem c_X6_change (l : Launch) (D : va_G) (ca : Nat → ClassId) (sz : Nat) (q_this q_others q_keptOthers : Nat) (p1 : Int32) (p2 : Int32) (p3 : Int32) (v_kept : Int32) (v_others : Nat → Int32) (o_others : Nat → Int32) (h : D_X6_change p1 p2 p3 v_others = some (o_others)) : Met l yX6_change wsX6_change rm_X6_change (va_Pc [.ref q_this, .int p1, .int p2, .int p3] (kPre D ca [(q_this, .inr (5, [.ref q_others, .ref q_keptOthers, .int v_kept])), (q_others, .inl (ca 0, 16, .inl v_others))] sz)) (kQv D ca (va_A [(q_this, .inr (5, [.ref q_others, .ref q_keptOthers, .int v_kept])), (q_others, .inl (ca 0, 16, .inl v_others))] sz) [(q_this, .inr (5, [.ref q_others, .ref q_keptOthers, .int v_kept])), (q_others, .inl (ca 0, 16, .inl o_others))]) 0 0 (va_A [(q_this, .inr (5, [.ref q_others, .ref q_keptOthers, .int v_kept])), (q_others, .inl (ca 0, 16, .inl v_others))] sz) := by
  refine Met.ofW (cc := cX6_change) (maxL := 4) (ret := none) (by decide +kernel) rfl ?_
  intro p e s m args below meth c s₁ B hml hv
  obtain ⟨rfl, hsz, hP, hK, hD0⟩ := hv
  have hx := B.exec
  have hb := B.bytes
  have hr := B.returns
  have hts := atoms_spec (ws := wsX6_change) B.pre
  have hown : s.vm.findClass RX6 = some m.cls := findClass_of_methodNamed B.named
  have hlocks := B.notSynchronized
  clear B
  subst hsz
  have hD := hD0.self (sz := s.heap.size)
  generalize hAe : va_A [(q_this, .inr (5, [.ref q_others, .ref q_keptOthers, .int v_kept])), (q_others, .inl (ca 0, 16, .inl v_others))] s.heap.size = A at hD ⊢
  have hA : ∀ q : Nat, s.heap.size ≤ q → A q := fun q h => by rw [← hAe]; exact Or.inr h
  have hS : va_S A s.heap s.heap [] := va_S.rf
  have hl := lv_entry ([.ref q_this, .int p1, .int p2, .int p3]) (n := 4) (Nat.le_of_ble_eq_true rfl)
  rw [lg_entry_eq]
  generalize (lg_sl ([.ref q_this, .int p1, .int p2, .int p3]) ++ List.replicate (4 - (lg_sl ([.ref q_this, .int p1, .int p2, .int p3])).length) Slot.unset).toArray = ls at hl ⊢
  have hl : lv_has ls 4 [(0, .ref q_this), (1, .int p1), (2, .int p2), (3, .int p3)] := hl
  generalize ([.ref q_this, .int p1, .int p2, .int p3] : List Value).toArray = args at hts ⊢
  generalize hQe : MQ below (kQv D ca (A) [(q_this, .inr (5, [.ref q_others, .ref q_keptOthers, .int v_kept])), (q_others, .inl (ca 0, 16, .inl o_others))]) args s 0 0 A = Q
  have i_X6 : ∀ w ∈ u_ws RX6 TX6 3, w ∈ wsX6_change := by decide +kernel
  have k_11 := hts (.fieldLink RX6 11 "TradeWords$Stands" "others" "[I") (by decide +kernel)
  rw [D_X6_change] at h
  refine lv_aload_n hx hb dX6_change_0 rfl (lv_at hl 0 rfl) ?_
  refine va_get (D := D) (ci := 5) (v := .ref q_others) (C := RX6) (T := TX6) (N := 3) hx hb hts i_X6 hown hK hP 0 rfl rfl 0 (by decide) k_11 (fun _ h9 => h9) rfl dX6_change_1 ?_
  refine lv_iconst (v := (nI 2)) hx hb dX6_change_4 (by decide) ?_
  refine lv_iload_n hx hb dX6_change_5 rfl (lv_at hl 1 rfl) ?_
  refine lv_imul hx hb dX6_change_6 ?_
  refine lv_iload_n hx hb dX6_change_7 rfl (lv_at hl 2 rfl) ?_
  refine lv_iadd hx hb dX6_change_8 ?_
  refine lv_aload_n hx hb dX6_change_9 rfl (lv_at hl 0 rfl) ?_
  refine lv_iload_n hx hb dX6_change_10 rfl (lv_at hl 1 rfl) ?_
  refine lv_iload_n hx hb dX6_change_11 rfl (lv_at hl 2 rfl) ?_
  obtain ⟨r_1, hg_2, h⟩ := bd1_el h
  refine kx_Vi (As := [.int p1, .int p2]) (rest := [.int (((nI 2) * p1) + p2), .ref q_others]) (wr := []) (w1 := [(q_this, .inr (5, [.ref q_others, .ref q_keptOthers, .int v_kept])), (q_others, .inl (ca 0, 16, .inl v_others))]) (wn := [(q_this, .inr (5, [.ref q_others, .ref q_keptOthers, .int v_kept])), (q_others, .inl (ca 0, 16, .inl v_others))]) ⟨hx, hb, hml, hown, hts⟩ (c_X6_of l D ca s.heap.size q_this q_others q_keptOthers p1 p2 v_kept v_others r_1 hg_2) (cwV 2 hts gX6_change_X6_of rfl rfl rfl (by decide +kernel) ⟨(Nat.le_of_ble_eq_true rfl), (Nat.le_of_ble_eq_true rfl)⟩) hK hP hD hS hA (ci := 5) (q0 := 0) rfl rfl [0, 1] [] [0, 1] rfl rfl rfl rfl (by decide) rfl rfl rfl hl.1 rfl (Nat.le_of_ble_eq_true rfl) dX6_change_12 ⟨Nat.zero_le _, Nat.zero_le _⟩ (fun H locs hP hD hS => ?_)
  refine lv_iload_n hx hb dX6_change_15 rfl (lv_at hl 3 rfl) ?_
  refine lv_iadd hx hb dX6_change_16 ?_
  obtain ⟨y_others_3, hg_4, h⟩ := bd1_el h
  refine kx_Sv (As := [.ref q_others, .int (((nI 2) * p1) + p2), .int (r_1 + p3)]) (rest := []) (wr := [(q_this, .inr (5, [.ref q_others, .ref q_keptOthers, .int v_kept]))]) (w1 := [(q_others, .inl (ca 0, 16, .inl y_others_3))]) (wn := [(q_this, .inr (5, [.ref q_others, .ref q_keptOthers, .int v_kept])), (q_others, .inl (ca 0, 16, .inl y_others_3))]) ⟨hx, hb, hml, hown, hts⟩ (c_X5_put l D ca H.size q_others 16 (((nI 2) * p1) + p2) (r_1 + p3) v_others y_others_3 hg_4) (va_cwS 3 hts gX6_change_X5_put rfl rfl rfl (by decide +kernel) ⟨(Nat.le_of_ble_eq_true rfl), (Nat.le_of_ble_eq_true rfl)⟩) hK hP hD hS hA [1] [0] [0, 1] rfl rfl rfl rfl (by decide) rfl rfl rfl hl.1 rfl (Nat.le_of_ble_eq_true rfl) dX6_change_17 ⟨Nat.zero_le _, Nat.zero_le _⟩ (fun H locs hP hD hS => ?_)
  cases h
  rw [← hQe]
  exact W.vret hx hb hr (fun t ht hW => ⟨⟨(), rfl, trivial, by rw [ht]; exact hP, va_K.moved hW.alike hK, hD⟩, hS.F ht⟩) hS.2.2 dX6_change_20
def D_X6_kept (v_kept : Int32) : Option (Int32) := some (v_kept)
abbrev rm_X6_kept : Room := { frames := 0, cells := 0, slots := 0, locals := 0 }
set_option maxHeartbeats 4000000 in
set_option maxRecDepth 100000 in
theorem c_X6_kept (l : Launch) (D : va_G) (ca : Nat → ClassId) (sz : Nat) (q_this q_others q_keptOthers : Nat) (v_kept : Int32) (r : Int32) (h : D_X6_kept v_kept = some (r)) : Met l yX6_kept wsX6_kept rm_X6_kept (va_Pc [.ref q_this] (kPre D ca [(q_this, .inr (5, [.ref q_others, .ref q_keptOthers, .int v_kept]))] sz)) (kQi D ca (va_A [(q_this, .inr (5, [.ref q_others, .ref q_keptOthers, .int v_kept]))] sz) [(q_this, .inr (5, [.ref q_others, .ref q_keptOthers, .int v_kept]))] r) 0 0 (va_A [(q_this, .inr (5, [.ref q_others, .ref q_keptOthers, .int v_kept]))] sz) := by
  refine Met.ofW (cc := cX6_kept) (maxL := 1) (ret := (some .int)) (by decide +kernel) rfl ?_
  intro p e s m args below meth c s₁ B hml hv
  obtain ⟨rfl, hsz, hP, hK, hD0⟩ := hv
  have hx := B.exec
  have hb := B.bytes
  have hr := B.returns
  have hts := atoms_spec (ws := wsX6_kept) B.pre
  have hown : s.vm.findClass RX6 = some m.cls := findClass_of_methodNamed B.named
  have hlocks := B.notSynchronized
  clear B
  subst hsz
  have hD := hD0.self (sz := s.heap.size)
  generalize hAe : va_A [(q_this, .inr (5, [.ref q_others, .ref q_keptOthers, .int v_kept]))] s.heap.size = A at hD ⊢
  have hA : ∀ q : Nat, s.heap.size ≤ q → A q := fun q h => by rw [← hAe]; exact Or.inr h
  have hS : va_S A s.heap s.heap [] := va_S.rf
  have hl := lv_entry ([.ref q_this]) (n := 1) (Nat.le_of_ble_eq_true rfl)
  rw [lg_entry_eq]
  generalize (lg_sl ([.ref q_this]) ++ List.replicate (1 - (lg_sl ([.ref q_this])).length) Slot.unset).toArray = ls at hl ⊢
  have hl : lv_has ls 1 [(0, .ref q_this)] := hl
  generalize ([.ref q_this] : List Value).toArray = args at hts ⊢
  generalize hQe : MQ below (kQi D ca (A) [(q_this, .inr (5, [.ref q_others, .ref q_keptOthers, .int v_kept]))] r) args s 0 0 A = Q
  have i_X6 : ∀ w ∈ u_ws RX6 TX6 3, w ∈ wsX6_kept := by decide +kernel
  have k_24 := hts (.fieldLink RX6 24 "TradeWords$Stands" "kept" "I") (by decide +kernel)
  rw [D_X6_kept] at h
  refine lv_aload_n hx hb dX6_kept_0 rfl (lv_at hl 0 rfl) ?_
  refine va_get (D := D) (ci := 5) (v := .int v_kept) (C := RX6) (T := TX6) (N := 3) hx hb hts i_X6 hown hK hP 0 rfl rfl 2 (by decide) k_24 (fun _ h9 => h9) rfl dX6_kept_1 ?_
  cases h
  rw [← hQe]
  exact W.iret hx hb hr (fun t ht hW => ⟨⟨_, (), rfl, rfl, by rw [ht]; exact hP, va_K.moved hW.alike hK, hD⟩, hS.F ht⟩) hS.2.2 dX6_kept_4
def D_X6_push (v_kept : Int32) (v_others : Nat → Int32) (v_keptOthers : Nat → Int32) : Option (Int32 × Int32 × (Nat → Int32)) := (if v_kept < (nI 2) then cpk (nI 0) (v_kept * (nI 16)) (nI 16) 16 32 (nm (v_kept + (nI 1)) (fun w_3 => some ((nI 1), w_3, (va_cpy v_others v_keptOthers (nI 0).toNatClampNeg (v_kept * (nI 16)).toNatClampNeg (nI 16).toNatClampNeg)))) else some ((nI 0), v_kept, v_keptOthers))
abbrev rm_X6_push : Room := { frames := 1, cells := 0, slots := 0, locals := 26 }
set_option maxHeartbeats 4000000 in
set_option maxRecDepth 100000 in
theorem c_X6_push (l : Launch) (D : va_G) (ca : Nat → ClassId) (sz : Nat) (q_this q_others q_keptOthers : Nat) (v_kept : Int32) (v_others : Nat → Int32) (v_keptOthers : Nat → Int32) (r : Int32) (o_kept : Int32) (o_keptOthers : Nat → Int32) (h : D_X6_push v_kept v_others v_keptOthers = some (r, o_kept, o_keptOthers)) : Met l yX6_push wsX6_push rm_X6_push (va_Pc [.ref q_this] (kPre D ca [(q_this, .inr (5, [.ref q_others, .ref q_keptOthers, .int v_kept])), (q_others, .inl (ca 0, 16, .inl v_others)), (q_keptOthers, .inl (ca 0, 32, .inl v_keptOthers))] sz)) (kQi D ca (va_A [(q_this, .inr (5, [.ref q_others, .ref q_keptOthers, .int v_kept])), (q_others, .inl (ca 0, 16, .inl v_others)), (q_keptOthers, .inl (ca 0, 32, .inl v_keptOthers))] sz) [(q_this, .inr (5, [.ref q_others, .ref q_keptOthers, .int o_kept])), (q_others, .inl (ca 0, 16, .inl v_others)), (q_keptOthers, .inl (ca 0, 32, .inl o_keptOthers))] r) 0 0 (va_A [(q_this, .inr (5, [.ref q_others, .ref q_keptOthers, .int v_kept])), (q_others, .inl (ca 0, 16, .inl v_others)), (q_keptOthers, .inl (ca 0, 32, .inl v_keptOthers))] sz) := by
  refine Met.ofW (cc := cX6_push) (maxL := 1) (ret := (some .boolean)) (by decide +kernel) rfl ?_
  intro p e s m args below meth c s₁ B hml hv
  obtain ⟨rfl, hsz, hP, hK, hD0⟩ := hv
  have hx := B.exec
  have hb := B.bytes
  have hr := B.returns
  have hts := atoms_spec (ws := wsX6_push) B.pre
  have hown : s.vm.findClass RX6 = some m.cls := findClass_of_methodNamed B.named
  have hlocks := B.notSynchronized
  clear B
  subst hsz
  have hD := hD0.self (sz := s.heap.size)
  generalize hAe : va_A [(q_this, .inr (5, [.ref q_others, .ref q_keptOthers, .int v_kept])), (q_others, .inl (ca 0, 16, .inl v_others)), (q_keptOthers, .inl (ca 0, 32, .inl v_keptOthers))] s.heap.size = A at hD ⊢
  have hA : ∀ q : Nat, s.heap.size ≤ q → A q := fun q h => by rw [← hAe]; exact Or.inr h
  have hS : va_S A s.heap s.heap [] := va_S.rf
  have hl := lv_entry ([.ref q_this]) (n := 1) (Nat.le_of_ble_eq_true rfl)
  rw [lg_entry_eq]
  generalize (lg_sl ([.ref q_this]) ++ List.replicate (1 - (lg_sl ([.ref q_this])).length) Slot.unset).toArray = ls at hl ⊢
  have hl : lv_has ls 1 [(0, .ref q_this)] := hl
  generalize ([.ref q_this] : List Value).toArray = args at hts ⊢
  generalize hQe : MQ below (kQi D ca (A) [(q_this, .inr (5, [.ref q_others, .ref q_keptOthers, .int o_kept])), (q_others, .inl (ca 0, 16, .inl v_others)), (q_keptOthers, .inl (ca 0, 32, .inl o_keptOthers))] r) args s 0 0 A = Q
  have i_X6 : ∀ w ∈ u_ws RX6 TX6 3, w ∈ wsX6_push := by decide +kernel
  have k_24 := hts (.fieldLink RX6 24 "TradeWords$Stands" "kept" "I") (by decide +kernel)
  have k_11 := hts (.fieldLink RX6 11 "TradeWords$Stands" "others" "[I") (by decide +kernel)
  have k_15 := hts (.fieldLink RX6 15 "TradeWords$Stands" "keptOthers" "[I") (by decide +kernel)
  have k_42 := hts (.methodLink RX6 42 arraycopyName) (by decide +kernel)
  have kac_n := hts (.native arraycopyName) (by decide +kernel)
  have kac_s := hts (.static arraycopyName) (by decide +kernel)
  have kac_i := hts (.initialized "java/lang/System") (by decide +kernel)
  rw [D_X6_push] at h
  refine lv_aload_n hx hb dX6_push_0 rfl (lv_at hl 0 rfl) ?_
  refine va_get (D := D) (ci := 5) (v := .int v_kept) (C := RX6) (T := TX6) (N := 3) hx hb hts i_X6 hown hK hP 0 rfl rfl 2 (by decide) k_24 (fun _ h9 => h9) rfl dX6_push_1 ?_
  refine lv_iconst (v := (nI 2)) hx hb dX6_push_4 (by decide) ?_
  refine lv_icmp_lt (tgt := 10) hx hb dX6_push_5 (by decide) (fun c_1 => ?_) (fun c_1 => ?_)
  · replace h := ifp_el c_1 h
    refine lv_aload_n hx hb dX6_push_10 rfl (lv_at hl 0 rfl) ?_
    refine va_get (D := D) (ci := 5) (v := .ref q_others) (C := RX6) (T := TX6) (N := 3) hx hb hts i_X6 hown hK hP 0 rfl rfl 0 (by decide) k_11 (fun _ h9 => h9) rfl dX6_push_11 ?_
    refine lv_iconst (v := (nI 0)) hx hb dX6_push_14 (by decide) ?_
    refine lv_aload_n hx hb dX6_push_15 rfl (lv_at hl 0 rfl) ?_
    refine va_get (D := D) (ci := 5) (v := .ref q_keptOthers) (C := RX6) (T := TX6) (N := 3) hx hb hts i_X6 hown hK hP 0 rfl rfl 1 (by decide) k_15 (fun _ h9 => h9) rfl dX6_push_16 ?_
    refine lv_aload_n hx hb dX6_push_19 rfl (lv_at hl 0 rfl) ?_
    refine va_get (D := D) (ci := 5) (v := .int v_kept) (C := RX6) (T := TX6) (N := 3) hx hb hts i_X6 hown hK hP 0 rfl rfl 2 (by decide) k_24 (fun _ h9 => h9) rfl dX6_push_20 ?_
    refine lv_bipush (v := (nI 16)) hx hb dX6_push_23 (by decide) ?_
    refine lv_imul hx hb dX6_push_25 ?_
    refine lv_bipush (v := (nI 16)) hx hb dX6_push_26 (by decide) ?_
    obtain ⟨hc_2, h⟩ := cpk_el h
    refine va_copyi hx hb (by rw [hml]; exact hl.1.symm) hown k_42 kac_n kac_s kac_i hK hP hD hS 1 2 0 0 rfl rfl rfl rfl rfl hc_2.1 hc_2.2.1 hc_2.2.2.1 hc_2.2.2.2.1 hc_2.2.2.2.2 (fun _ _ => rfl) (Nat.le_of_ble_eq_true rfl) (Nat.le_of_ble_eq_true rfl) dX6_push_28 (fun H locs hP hD hS => ?_)
    have hP : va_P D vwCl [(q_this, .inr (5, [.ref q_others, .ref q_keptOthers, .int v_kept])), (q_others, .inl (ca 0, 16, .inl v_others)), (q_keptOthers, .inl (ca 0, 32, .inl (va_cpy v_others v_keptOthers (nI 0).toNatClampNeg (v_kept * (nI 16)).toNatClampNeg (nI 16).toNatClampNeg)))] H := hP
    have hD : va_D A [(q_this, .inr (5, [.ref q_others, .ref q_keptOthers, .int v_kept])), (q_others, .inl (ca 0, 16, .inl v_others)), (q_keptOthers, .inl (ca 0, 32, .inl (va_cpy v_others v_keptOthers (nI 0).toNatClampNeg (v_kept * (nI 16)).toNatClampNeg (nI 16).toNatClampNeg)))] := hD
    refine lv_aload_n hx hb dX6_push_31 rfl (lv_at hl 0 rfl) ?_
    refine lv_dup hx hb dX6_push_32 rfl ?_
    refine va_get (D := D) (ci := 5) (v := .int v_kept) (C := RX6) (T := TX6) (N := 3) hx hb hts i_X6 hown hK hP 0 rfl rfl 2 (by decide) k_24 (fun _ h9 => h9) rfl dX6_push_33 ?_
    refine lv_iconst (v := (nI 1)) hx hb dX6_push_36 (by decide) ?_
    refine lv_iadd hx hb dX6_push_37 ?_
    refine lv_nmi h (fun w_3 h => ?_)
    refine va_put (D := D) (ci := 5) (v := .int w_3) (ty := .int) (C := RX6) (T := TX6) (N := 3) hx hb hts i_X6 tyX6 tyX6_ok nmX6 hown hK hP hD hS 0 rfl rfl 2 (by decide) k_24 (fun _ h9 => h9) rfl (by decide +kernel) rfl rfl (Nat.le_of_ble_eq_true rfl) dX6_push_38 (fun H locs hP hD hS => ?_)
    have hP : va_P D vwCl [(q_this, .inr (5, [.ref q_others, .ref q_keptOthers, .int w_3])), (q_others, .inl (ca 0, 16, .inl v_others)), (q_keptOthers, .inl (ca 0, 32, .inl (va_cpy v_others v_keptOthers (nI 0).toNatClampNeg (v_kept * (nI 16)).toNatClampNeg (nI 16).toNatClampNeg)))] H := hP
    have hD : va_D A [(q_this, .inr (5, [.ref q_others, .ref q_keptOthers, .int w_3])), (q_others, .inl (ca 0, 16, .inl v_others)), (q_keptOthers, .inl (ca 0, 32, .inl (va_cpy v_others v_keptOthers (nI 0).toNatClampNeg (v_kept * (nI 16)).toNatClampNeg (nI 16).toNatClampNeg)))] := hD
    refine lv_iconst (v := (nI 1)) hx hb dX6_push_41 (by decide) ?_
    cases h
    rw [← hQe]
    exact W.zret hx hb hr rfl (fun t ht hW => ⟨⟨_, (), rfl, rfl, by rw [ht]; exact hP, va_K.moved hW.alike hK, hD⟩, hS.F ht⟩) hS.2.2 dX6_push_42
  · replace h := ifn_el c_1 h
    refine lv_iconst (v := (nI 0)) hx hb dX6_push_8 (by decide) ?_
    cases h
    rw [← hQe]
    exact W.zret hx hb hr rfl (fun t ht hW => ⟨⟨_, (), rfl, rfl, by rw [ht]; exact hP, va_K.moved hW.alike hK, hD⟩, hS.F ht⟩) hS.2.2 dX6_push_9
def D_X6_pop (v_kept : Int32) (v_others : Nat → Int32) (v_keptOthers : Nat → Int32) : Option (Int32 × Int32 × (Nat → Int32)) := (if 0 < v_kept then nm (v_kept - (nI 1)) (fun w_2 => cpk (w_2 * (nI 16)) (nI 0) (nI 16) 32 16 (some ((nI 1), w_2, (va_cpy v_keptOthers v_others (w_2 * (nI 16)).toNatClampNeg (nI 0).toNatClampNeg (nI 16).toNatClampNeg)))) else some ((nI 0), v_kept, v_others))
abbrev rm_X6_pop : Room := { frames := 1, cells := 0, slots := 0, locals := 26 }
set_option maxHeartbeats 4000000 in
set_option maxRecDepth 100000 in
theorem c_X6_pop (l : Launch) (D : va_G) (ca : Nat → ClassId) (sz : Nat) (q_this q_others q_keptOthers : Nat) (v_kept : Int32) (v_others : Nat → Int32) (v_keptOthers : Nat → Int32) (r : Int32) (o_kept : Int32) (o_others : Nat → Int32) (h : D_X6_pop v_kept v_others v_keptOthers = some (r, o_kept, o_others)) : Met l yX6_pop wsX6_pop rm_X6_pop (va_Pc [.ref q_this] (kPre D ca [(q_this, .inr (5, [.ref q_others, .ref q_keptOthers, .int v_kept])), (q_others, .inl (ca 0, 16, .inl v_others)), (q_keptOthers, .inl (ca 0, 32, .inl v_keptOthers))] sz)) (kQi D ca (va_A [(q_this, .inr (5, [.ref q_others, .ref q_keptOthers, .int v_kept])), (q_others, .inl (ca 0, 16, .inl v_others)), (q_keptOthers, .inl (ca 0, 32, .inl v_keptOthers))] sz) [(q_this, .inr (5, [.ref q_others, .ref q_keptOthers, .int o_kept])), (q_others, .inl (ca 0, 16, .inl o_others)), (q_keptOthers, .inl (ca 0, 32, .inl v_keptOthers))] r) 0 0 (va_A [(q_this, .inr (5, [.ref q_others, .ref q_keptOthers, .int v_kept])), (q_others, .inl (ca 0, 16, .inl v_others)), (q_keptOthers, .inl (ca 0, 32, .inl v_keptOthers))] sz) := by
  refine Met.ofW (cc := cX6_pop) (maxL := 1) (ret := (some .boolean)) (by decide +kernel) rfl ?_
  intro p e s m args below meth c s₁ B hml hv
  obtain ⟨rfl, hsz, hP, hK, hD0⟩ := hv
  have hx := B.exec
  have hb := B.bytes
  have hr := B.returns
  have hts := atoms_spec (ws := wsX6_pop) B.pre
  have hown : s.vm.findClass RX6 = some m.cls := findClass_of_methodNamed B.named
  have hlocks := B.notSynchronized
  clear B
  subst hsz
  have hD := hD0.self (sz := s.heap.size)
  generalize hAe : va_A [(q_this, .inr (5, [.ref q_others, .ref q_keptOthers, .int v_kept])), (q_others, .inl (ca 0, 16, .inl v_others)), (q_keptOthers, .inl (ca 0, 32, .inl v_keptOthers))] s.heap.size = A at hD ⊢
  have hA : ∀ q : Nat, s.heap.size ≤ q → A q := fun q h => by rw [← hAe]; exact Or.inr h
  have hS : va_S A s.heap s.heap [] := va_S.rf
  have hl := lv_entry ([.ref q_this]) (n := 1) (Nat.le_of_ble_eq_true rfl)
  rw [lg_entry_eq]
  generalize (lg_sl ([.ref q_this]) ++ List.replicate (1 - (lg_sl ([.ref q_this])).length) Slot.unset).toArray = ls at hl ⊢
  have hl : lv_has ls 1 [(0, .ref q_this)] := hl
  generalize ([.ref q_this] : List Value).toArray = args at hts ⊢
  generalize hQe : MQ below (kQi D ca (A) [(q_this, .inr (5, [.ref q_others, .ref q_keptOthers, .int o_kept])), (q_others, .inl (ca 0, 16, .inl o_others)), (q_keptOthers, .inl (ca 0, 32, .inl v_keptOthers))] r) args s 0 0 A = Q
  have i_X6 : ∀ w ∈ u_ws RX6 TX6 3, w ∈ wsX6_pop := by decide +kernel
  have k_24 := hts (.fieldLink RX6 24 "TradeWords$Stands" "kept" "I") (by decide +kernel)
  have k_15 := hts (.fieldLink RX6 15 "TradeWords$Stands" "keptOthers" "[I") (by decide +kernel)
  have k_11 := hts (.fieldLink RX6 11 "TradeWords$Stands" "others" "[I") (by decide +kernel)
  have k_42 := hts (.methodLink RX6 42 arraycopyName) (by decide +kernel)
  have kac_n := hts (.native arraycopyName) (by decide +kernel)
  have kac_s := hts (.static arraycopyName) (by decide +kernel)
  have kac_i := hts (.initialized "java/lang/System") (by decide +kernel)
  rw [D_X6_pop] at h
  refine lv_aload_n hx hb dX6_pop_0 rfl (lv_at hl 0 rfl) ?_
  refine va_get (D := D) (ci := 5) (v := .int v_kept) (C := RX6) (T := TX6) (N := 3) hx hb hts i_X6 hown hK hP 0 rfl rfl 2 (by decide) k_24 (fun _ h9 => h9) rfl dX6_pop_1 ?_
  refine lv_if_gt (tgt := 9) hx hb dX6_pop_4 (by decide) (fun c_1 => ?_) (fun c_1 => ?_)
  · replace h := ifp_el c_1 h
    refine lv_aload_n hx hb dX6_pop_9 rfl (lv_at hl 0 rfl) ?_
    refine lv_dup hx hb dX6_pop_10 rfl ?_
    refine va_get (D := D) (ci := 5) (v := .int v_kept) (C := RX6) (T := TX6) (N := 3) hx hb hts i_X6 hown hK hP 0 rfl rfl 2 (by decide) k_24 (fun _ h9 => h9) rfl dX6_pop_11 ?_
    refine lv_iconst (v := (nI 1)) hx hb dX6_pop_14 (by decide) ?_
    refine lv_isub hx hb dX6_pop_15 ?_
    refine lv_nmi h (fun w_2 h => ?_)
    refine va_put (D := D) (ci := 5) (v := .int w_2) (ty := .int) (C := RX6) (T := TX6) (N := 3) hx hb hts i_X6 tyX6 tyX6_ok nmX6 hown hK hP hD hS 0 rfl rfl 2 (by decide) k_24 (fun _ h9 => h9) rfl (by decide +kernel) rfl rfl (Nat.le_of_ble_eq_true rfl) dX6_pop_16 (fun H locs hP hD hS => ?_)
    have hP : va_P D vwCl [(q_this, .inr (5, [.ref q_others, .ref q_keptOthers, .int w_2])), (q_others, .inl (ca 0, 16, .inl v_others)), (q_keptOthers, .inl (ca 0, 32, .inl v_keptOthers))] H := hP
    have hD : va_D A [(q_this, .inr (5, [.ref q_others, .ref q_keptOthers, .int w_2])), (q_others, .inl (ca 0, 16, .inl v_others)), (q_keptOthers, .inl (ca 0, 32, .inl v_keptOthers))] := hD
    refine lv_aload_n hx hb dX6_pop_19 rfl (lv_at hl 0 rfl) ?_
    refine va_get (D := D) (ci := 5) (v := .ref q_keptOthers) (C := RX6) (T := TX6) (N := 3) hx hb hts i_X6 hown hK hP 0 rfl rfl 1 (by decide) k_15 (fun _ h9 => h9) rfl dX6_pop_20 ?_
    refine lv_aload_n hx hb dX6_pop_23 rfl (lv_at hl 0 rfl) ?_
    refine va_get (D := D) (ci := 5) (v := .int w_2) (C := RX6) (T := TX6) (N := 3) hx hb hts i_X6 hown hK hP 0 rfl rfl 2 (by decide) k_24 (fun _ h9 => h9) rfl dX6_pop_24 ?_
    refine lv_bipush (v := (nI 16)) hx hb dX6_pop_27 (by decide) ?_
    refine lv_imul hx hb dX6_pop_29 ?_
    refine lv_aload_n hx hb dX6_pop_30 rfl (lv_at hl 0 rfl) ?_
    refine va_get (D := D) (ci := 5) (v := .ref q_others) (C := RX6) (T := TX6) (N := 3) hx hb hts i_X6 hown hK hP 0 rfl rfl 0 (by decide) k_11 (fun _ h9 => h9) rfl dX6_pop_31 ?_
    refine lv_iconst (v := (nI 0)) hx hb dX6_pop_34 (by decide) ?_
    refine lv_bipush (v := (nI 16)) hx hb dX6_pop_35 (by decide) ?_
    obtain ⟨hc_3, h⟩ := cpk_el h
    refine va_copyi hx hb (by rw [hml]; exact hl.1.symm) hown k_42 kac_n kac_s kac_i hK hP hD hS 2 1 0 0 rfl rfl rfl rfl rfl hc_3.1 hc_3.2.1 hc_3.2.2.1 hc_3.2.2.2.1 hc_3.2.2.2.2 (fun _ _ => rfl) (Nat.le_of_ble_eq_true rfl) (Nat.le_of_ble_eq_true rfl) dX6_pop_37 (fun H locs hP hD hS => ?_)
    have hP : va_P D vwCl [(q_this, .inr (5, [.ref q_others, .ref q_keptOthers, .int w_2])), (q_others, .inl (ca 0, 16, .inl (va_cpy v_keptOthers v_others (w_2 * (nI 16)).toNatClampNeg (nI 0).toNatClampNeg (nI 16).toNatClampNeg))), (q_keptOthers, .inl (ca 0, 32, .inl v_keptOthers))] H := hP
    have hD : va_D A [(q_this, .inr (5, [.ref q_others, .ref q_keptOthers, .int w_2])), (q_others, .inl (ca 0, 16, .inl (va_cpy v_keptOthers v_others (w_2 * (nI 16)).toNatClampNeg (nI 0).toNatClampNeg (nI 16).toNatClampNeg))), (q_keptOthers, .inl (ca 0, 32, .inl v_keptOthers))] := hD
    refine lv_iconst (v := (nI 1)) hx hb dX6_pop_40 (by decide) ?_
    cases h
    rw [← hQe]
    exact W.zret hx hb hr rfl (fun t ht hW => ⟨⟨_, (), rfl, rfl, by rw [ht]; exact hP, va_K.moved hW.alike hK, hD⟩, hS.F ht⟩) hS.2.2 dX6_pop_41
  · replace h := ifn_el c_1 h
    refine lv_iconst (v := (nI 0)) hx hb dX6_pop_7 (by decide) ?_
    cases h
    rw [← hQe]
    exact W.zret hx hb hr rfl (fun t ht hW => ⟨⟨_, (), rfl, rfl, by rw [ht]; exact hP, va_K.moved hW.alike hK, hD⟩, hS.F ht⟩) hS.2.2 dX6_pop_8
def D_X7_length (v_length : Int32) : Option (Int32) := some (v_length)
abbrev rm_X7_length : Room := { frames := 0, cells := 0, slots := 0, locals := 0 }
set_option maxHeartbeats 4000000 in
set_option maxRecDepth 100000 in
theorem c_X7_length (l : Launch) (D : va_G) (ca : Nat → ClassId) (sz : Nat) (q_this q_bytes : Nat) (v_length : Int32) (r : Int32) (h : D_X7_length v_length = some (r)) : Met l yX7_length wsX7_length rm_X7_length (va_Pc [.ref q_this] (kPre D ca [(q_this, .inr (6, [.ref q_bytes, .int v_length]))] sz)) (kQi D ca (va_A [(q_this, .inr (6, [.ref q_bytes, .int v_length]))] sz) [(q_this, .inr (6, [.ref q_bytes, .int v_length]))] r) 0 0 (va_A [(q_this, .inr (6, [.ref q_bytes, .int v_length]))] sz) := by
  refine Met.ofW (cc := cX7_length) (maxL := 1) (ret := (some .int)) (by decide +kernel) rfl ?_
  intro p e s m args below meth c s₁ B hml hv
  obtain ⟨rfl, hsz, hP, hK, hD0⟩ := hv
  have hx := B.exec
  have hb := B.bytes
  have hr := B.returns
  have hts := atoms_spec (ws := wsX7_length) B.pre
  have hown : s.vm.findClass RX7 = some m.cls := findClass_of_methodNamed B.named
  have hlocks := B.notSynchronized
  clear B
  subst hsz
  have hD := hD0.self (sz := s.heap.size)
  generalize hAe : va_A [(q_this, .inr (6, [.ref q_bytes, .int v_length]))] s.heap.size = A at hD ⊢
  have hA : ∀ q : Nat, s.heap.size ≤ q → A q := fun q h => by rw [← hAe]; exact Or.inr h
  have hS : va_S A s.heap s.heap [] := va_S.rf
  have hl := lv_entry ([.ref q_this]) (n := 1) (Nat.le_of_ble_eq_true rfl)
  rw [lg_entry_eq]
  generalize (lg_sl ([.ref q_this]) ++ List.replicate (1 - (lg_sl ([.ref q_this])).length) Slot.unset).toArray = ls at hl ⊢
  have hl : lv_has ls 1 [(0, .ref q_this)] := hl
  generalize ([.ref q_this] : List Value).toArray = args at hts ⊢
  generalize hQe : MQ below (kQi D ca (A) [(q_this, .inr (6, [.ref q_bytes, .int v_length]))] r) args s 0 0 A = Q
  have i_X7 : ∀ w ∈ u_ws RX7 TX7 2, w ∈ wsX7_length := by decide +kernel
  have k_15 := hts (.fieldLink RX7 15 "TradeWords$Text" "length" "I") (by decide +kernel)
  rw [D_X7_length] at h
  refine lv_aload_n hx hb dX7_length_0 rfl (lv_at hl 0 rfl) ?_
  refine va_get (D := D) (ci := 6) (v := .int v_length) (C := RX7) (T := TX7) (N := 2) hx hb hts i_X7 hown hK hP 0 rfl rfl 1 (by decide) k_15 (fun _ h9 => h9) rfl dX7_length_1 ?_
  cases h
  rw [← hQe]
  exact W.iret hx hb hr (fun t ht hW => ⟨⟨_, (), rfl, rfl, by rw [ht]; exact hP, va_K.moved hW.alike hK, hD⟩, hS.F ht⟩) hS.2.2 dX7_length_4
def D_X7_clear (v_length : Int32) : Option (Int32) := some ((nI 0))
abbrev rm_X7_clear : Room := { frames := 0, cells := 0, slots := 0, locals := 0 }
set_option maxHeartbeats 4000000 in
set_option maxRecDepth 100000 in
theorem c_X7_clear (l : Launch) (D : va_G) (ca : Nat → ClassId) (sz : Nat) (q_this q_bytes : Nat) (v_length : Int32) (o_length : Int32) (h : D_X7_clear v_length = some (o_length)) : Met l yX7_clear wsX7_clear rm_X7_clear (va_Pc [.ref q_this] (kPre D ca [(q_this, .inr (6, [.ref q_bytes, .int v_length]))] sz)) (kQv D ca (va_A [(q_this, .inr (6, [.ref q_bytes, .int v_length]))] sz) [(q_this, .inr (6, [.ref q_bytes, .int o_length]))]) 0 0 (va_A [(q_this, .inr (6, [.ref q_bytes, .int v_length]))] sz) := by
  refine Met.ofW (cc := cX7_clear) (maxL := 1) (ret := none) (by decide +kernel) rfl ?_
  intro p e s m args below meth c s₁ B hml hv
  obtain ⟨rfl, hsz, hP, hK, hD0⟩ := hv
  have hx := B.exec
  have hb := B.bytes
  have hr := B.returns
  have hts := atoms_spec (ws := wsX7_clear) B.pre
  have hown : s.vm.findClass RX7 = some m.cls := findClass_of_methodNamed B.named
  have hlocks := B.notSynchronized
  clear B
  subst hsz
  have hD := hD0.self (sz := s.heap.size)
  generalize hAe : va_A [(q_this, .inr (6, [.ref q_bytes, .int v_length]))] s.heap.size = A at hD ⊢
  have hA : ∀ q : Nat, s.heap.size ≤ q → A q := fun q h => by rw [← hAe]; exact Or.inr h
  have hS : va_S A s.heap s.heap [] := va_S.rf
  have hl := lv_entry ([.ref q_this]) (n := 1) (Nat.le_of_ble_eq_true rfl)
  rw [lg_entry_eq]
  generalize (lg_sl ([.ref q_this]) ++ List.replicate (1 - (lg_sl ([.ref q_this])).length) Slot.unset).toArray = ls at hl ⊢
  have hl : lv_has ls 1 [(0, .ref q_this)] := hl
  generalize ([.ref q_this] : List Value).toArray = args at hts ⊢
  generalize hQe : MQ below (kQv D ca (A) [(q_this, .inr (6, [.ref q_bytes, .int o_length]))]) args s 0 0 A = Q
  have i_X7 : ∀ w ∈ u_ws RX7 TX7 2, w ∈ wsX7_clear := by decide +kernel
  have k_15 := hts (.fieldLink RX7 15 "TradeWords$Text" "length" "I") (by decide +kernel)
  rw [D_X7_clear] at h
  refine lv_aload_n hx hb dX7_clear_0 rfl (lv_at hl 0 rfl) ?_
  refine lv_iconst (v := (nI 0)) hx hb dX7_clear_1 (by decide) ?_
  refine va_put (D := D) (ci := 6) (v := .int (nI 0)) (ty := .int) (C := RX7) (T := TX7) (N := 2) hx hb hts i_X7 tyX7 tyX7_ok nmX7 hown hK hP hD hS 0 rfl rfl 1 (by decide) k_15 (fun _ h9 => h9) rfl (by decide +kernel) rfl rfl (Nat.le_of_ble_eq_true rfl) dX7_clear_2 (fun H locs hP hD hS => ?_)
  have hP : va_P D vwCl [(q_this, .inr (6, [.ref q_bytes, .int (nI 0)]))] H := hP
  have hD : va_D A [(q_this, .inr (6, [.ref q_bytes, .int (nI 0)]))] := hD
  cases h
  rw [← hQe]
  exact W.vret hx hb hr (fun t ht hW => ⟨⟨(), rfl, trivial, by rw [ht]; exact hP, va_K.moved hW.alike hK, hD⟩, hS.F ht⟩) hS.2.2 dX7_clear_5
def D_X7_append (p1 : Int32) (v_length : Int32) (v_bytes : Nat → Int32) : Option (Int32 × (Nat → Int32)) := (if (nI 500) ≤ v_length then some (v_length, v_bytes) else nm p1.toInt8.toInt32 (fun w_2 => ck 500 v_length (nm (v_length + (nI 1)) (fun w_4 => some (w_4, (upd v_bytes v_length.toNatClampNeg (vp_nar .byte w_2)))))))
abbrev rm_X7_append : Room := { frames := 0, cells := 0, slots := 0, locals := 0 }
set_option maxHeartbeats 4000000 in
set_option maxRecDepth 100000 in
theorem c_X7_append (l : Launch) (D : va_G) (ca : Nat → ClassId) (sz : Nat) (q_this q_bytes : Nat) (p1 : Int32) (v_length : Int32) (v_bytes : Nat → Int32) (o_length : Int32) (o_bytes : Nat → Int32) (h : D_X7_append p1 v_length v_bytes = some (o_length, o_bytes)) : Met l yX7_append wsX7_append rm_X7_append (va_Pc [.ref q_this, .int p1] (kPre D ca [(q_this, .inr (6, [.ref q_bytes, .int v_length])), (q_bytes, .inl (ca 2, 500, .inl v_bytes))] sz)) (kQv D ca (va_A [(q_this, .inr (6, [.ref q_bytes, .int v_length])), (q_bytes, .inl (ca 2, 500, .inl v_bytes))] sz) [(q_this, .inr (6, [.ref q_bytes, .int o_length])), (q_bytes, .inl (ca 2, 500, .inl o_bytes))]) 0 0 (va_A [(q_this, .inr (6, [.ref q_bytes, .int v_length])), (q_bytes, .inl (ca 2, 500, .inl v_bytes))] sz) := by
  refine Met.ofW (cc := cX7_append) (maxL := 2) (ret := none) (by decide +kernel) rfl ?_
  intro p e s m args below meth c s₁ B hml hv
  obtain ⟨rfl, hsz, hP, hK, hD0⟩ := hv
  have hx := B.exec
  have hb := B.bytes
  have hr := B.returns
  have hts := atoms_spec (ws := wsX7_append) B.pre
  have hown : s.vm.findClass RX7 = some m.cls := findClass_of_methodNamed B.named
  have hlocks := B.notSynchronized
  clear B
  subst hsz
  have hD := hD0.self (sz := s.heap.size)
  generalize hAe : va_A [(q_this, .inr (6, [.ref q_bytes, .int v_length])), (q_bytes, .inl (ca 2, 500, .inl v_bytes))] s.heap.size = A at hD ⊢
  have hA : ∀ q : Nat, s.heap.size ≤ q → A q := fun q h => by rw [← hAe]; exact Or.inr h
  have hS : va_S A s.heap s.heap [] := va_S.rf
  have hl := lv_entry ([.ref q_this, .int p1]) (n := 2) (Nat.le_of_ble_eq_true rfl)
  rw [lg_entry_eq]
  generalize (lg_sl ([.ref q_this, .int p1]) ++ List.replicate (2 - (lg_sl ([.ref q_this, .int p1])).length) Slot.unset).toArray = ls at hl ⊢
  have hl : lv_has ls 2 [(0, .ref q_this), (1, .int p1)] := hl
  generalize ([.ref q_this, .int p1] : List Value).toArray = args at hts ⊢
  generalize hQe : MQ below (kQv D ca (A) [(q_this, .inr (6, [.ref q_bytes, .int o_length])), (q_bytes, .inl (ca 2, 500, .inl o_bytes))]) args s 0 0 A = Q
  have i_X7 : ∀ w ∈ u_ws RX7 TX7 2, w ∈ wsX7_append := by decide +kernel
  have k_15 := hts (.fieldLink RX7 15 "TradeWords$Text" "length" "I") (by decide +kernel)
  have k_9 := hts (.fieldLink RX7 9 "TradeWords$Text" "bytes" "[B") (by decide +kernel)
  rw [D_X7_append] at h
  refine lv_aload_n hx hb dX7_append_0 rfl (lv_at hl 0 rfl) ?_
  refine va_get (D := D) (ci := 6) (v := .int v_length) (C := RX7) (T := TX7) (N := 2) hx hb hts i_X7 hown hK hP 0 rfl rfl 1 (by decide) k_15 (fun _ h9 => h9) rfl dX7_append_1 ?_
  refine lv_sipush (v := (nI 500)) hx hb dX7_append_4 (by decide) ?_
  refine lv_icmp_ge (tgt := 31) hx hb dX7_append_7 (by decide) (fun c_1 => ?_) (fun c_1 => ?_)
  · replace h := ifp_el c_1 h
    cases h
    rw [← hQe]
    exact W.vret hx hb hr (fun t ht hW => ⟨⟨(), rfl, trivial, by rw [ht]; exact hP, va_K.moved hW.alike hK, hD⟩, hS.F ht⟩) hS.2.2 dX7_append_31
  · replace h := ifn_el c_1 h
    refine lv_aload_n hx hb dX7_append_10 rfl (lv_at hl 0 rfl) ?_
    refine va_get (D := D) (ci := 6) (v := .ref q_bytes) (C := RX7) (T := TX7) (N := 2) hx hb hts i_X7 hown hK hP 0 rfl rfl 0 (by decide) k_9 (fun _ h9 => h9) rfl dX7_append_11 ?_
    refine lv_aload_n hx hb dX7_append_14 rfl (lv_at hl 0 rfl) ?_
    refine va_get (D := D) (ci := 6) (v := .int v_length) (C := RX7) (T := TX7) (N := 2) hx hb hts i_X7 hown hK hP 0 rfl rfl 1 (by decide) k_15 (fun _ h9 => h9) rfl dX7_append_15 ?_
    refine lv_iload_n hx hb dX7_append_18 rfl (lv_at hl 1 rfl) ?_
    refine lv_i2b hx hb dX7_append_19 rfl ?_
    refine lv_nmi h (fun w_2 h => ?_)
    obtain ⟨hi_3, h⟩ := ck_el h
    refine va_bast hx hb hK hP hD hS 1 2 rfl rfl hi_3 dX7_append_20 (fun H locs hP hD hS => ?_)
    have hP : va_P D vwCl [(q_this, .inr (6, [.ref q_bytes, .int v_length])), (q_bytes, .inl (ca 2, 500, .inl (upd v_bytes v_length.toNatClampNeg (vp_nar .byte w_2))))] H := hP
    have hD : va_D A [(q_this, .inr (6, [.ref q_bytes, .int v_length])), (q_bytes, .inl (ca 2, 500, .inl (upd v_bytes v_length.toNatClampNeg (vp_nar .byte w_2))))] := hD
    refine lv_aload_n hx hb dX7_append_21 rfl (lv_at hl 0 rfl) ?_
    refine lv_dup hx hb dX7_append_22 rfl ?_
    refine va_get (D := D) (ci := 6) (v := .int v_length) (C := RX7) (T := TX7) (N := 2) hx hb hts i_X7 hown hK hP 0 rfl rfl 1 (by decide) k_15 (fun _ h9 => h9) rfl dX7_append_23 ?_
    refine lv_iconst (v := (nI 1)) hx hb dX7_append_26 (by decide) ?_
    refine lv_iadd hx hb dX7_append_27 ?_
    refine lv_nmi h (fun w_4 h => ?_)
    refine va_put (D := D) (ci := 6) (v := .int w_4) (ty := .int) (C := RX7) (T := TX7) (N := 2) hx hb hts i_X7 tyX7 tyX7_ok nmX7 hown hK hP hD hS 0 rfl rfl 1 (by decide) k_15 (fun _ h9 => h9) rfl (by decide +kernel) rfl rfl (Nat.le_of_ble_eq_true rfl) dX7_append_28 (fun H locs hP hD hS => ?_)
    have hP : va_P D vwCl [(q_this, .inr (6, [.ref q_bytes, .int w_4])), (q_bytes, .inl (ca 2, 500, .inl (upd v_bytes v_length.toNatClampNeg (vp_nar .byte w_2))))] H := hP
    have hD : va_D A [(q_this, .inr (6, [.ref q_bytes, .int w_4])), (q_bytes, .inl (ca 2, 500, .inl (upd v_bytes v_length.toNatClampNeg (vp_nar .byte w_2))))] := hD
    cases h
    rw [← hQe]
    exact W.vret hx hb hr (fun t ht hW => ⟨⟨(), rfl, trivial, by rw [ht]; exact hP, va_K.moved hW.alike hK, hD⟩, hS.F ht⟩) hS.2.2 dX7_append_31
def b_X9_write_36 (p2 : Int64) (rec36 : Int32 → Int32 → (Nat → Int32) → Option (Int32 × (Nat → Int32))) (x4_7 : Int32) (y_text_length_8 : Int32) (y_text_bytes_9 : Nat → Int32) : Option (Int32 × (Nat → Int32)) := (if x4_7 < 0 then some (y_text_length_8, y_text_bytes_9) else bd2 (D_X7_append ((((p2.toUInt64 >>> (((nI 8) * x4_7).toInt64.toUInt64 &&& Int64.toUInt64 63)).toInt64).toInt32) &&& (nI 255)) y_text_length_8 y_text_bytes_9) (fun y_text_length_13 y_text_bytes_14 => nm (x4_7 + (-1 : Int32)) (fun x4_16 => rec36 x4_16 y_text_length_13 y_text_bytes_14)))
def D_X9_write (F : Nat) (p1 : Int32) (p2 : Int64) (v_text_length : Int32) (v_text_bytes : Nat → Int32) : Option (Int32 × Int32 × (Nat → Int32)) := (if p1 < (nI 1) then some ((-1 : Int32), v_text_length, v_text_bytes) else (if p1 ≤ (nI 8) then bd1 (D_X7_length v_text_length) (fun r_3 => (if (r_3 + p1) ≤ (nI 500) then nm (p1 - (nI 1)) (fun x4_6 => bd2 (lpg (T := Int32 → Int32 → (Nat → Int32) → Option (Int32 × (Nat → Int32))) (fun _ _ _ => none) (b_X9_write_36 p2) F x4_6 v_text_length v_text_bytes) (fun o_10 o_11 => bd1 (D_X7_length o_10) (fun r_18 => some (r_18, o_10, o_11)))) else some ((-3 : Int32), v_text_length, v_text_bytes))) else some ((-1 : Int32), v_text_length, v_text_bytes)))
abbrev rm_X9_write : Room := { frames := 1, cells := 0, slots := 0, locals := 21 }
set_option maxHeartbeats 4000000 in
set_option maxRecDepth 100000 in
theorem c_X9_write (l : Launch) (D : va_G) (ca : Nat → ClassId) (F : Nat) (sz : Nat) (q_this q_text q_text_bytes q_item q_stands q_crowd q_measure q_laid q_tried : Nat) (p1 : Int32) (p2 : Int64) (v_text_length : Int32) (v_text_bytes : Nat → Int32) (r : Int32) (o_text_length : Int32) (o_text_bytes : Nat → Int32) (h : D_X9_write F p1 p2 v_text_length v_text_bytes = some (r, o_text_length, o_text_bytes)) : Met l yX9_write wsX9_write rm_X9_write (va_Pc [.ref q_this, .int p1, .long p2] (kPre D ca [(q_this, .inr (7, [.ref q_text, .ref q_item, .ref q_stands, .ref q_crowd, .ref q_measure, .ref q_laid, .ref q_tried])), (q_text, .inr (6, [.ref q_text_bytes, .int v_text_length])), (q_text_bytes, .inl (ca 2, 500, .inl v_text_bytes))] sz)) (kQi D ca (va_A [(q_this, .inr (7, [.ref q_text, .ref q_item, .ref q_stands, .ref q_crowd, .ref q_measure, .ref q_laid, .ref q_tried])), (q_text, .inr (6, [.ref q_text_bytes, .int v_text_length])), (q_text_bytes, .inl (ca 2, 500, .inl v_text_bytes))] sz) [(q_this, .inr (7, [.ref q_text, .ref q_item, .ref q_stands, .ref q_crowd, .ref q_measure, .ref q_laid, .ref q_tried])), (q_text, .inr (6, [.ref q_text_bytes, .int o_text_length])), (q_text_bytes, .inl (ca 2, 500, .inl o_text_bytes))] r) 0 0 (va_A [(q_this, .inr (7, [.ref q_text, .ref q_item, .ref q_stands, .ref q_crowd, .ref q_measure, .ref q_laid, .ref q_tried])), (q_text, .inr (6, [.ref q_text_bytes, .int v_text_length])), (q_text_bytes, .inl (ca 2, 500, .inl v_text_bytes))] sz) := by
  refine Met.ofW (cc := cX9_write) (maxL := 5) (ret := (some .int)) (by decide +kernel) rfl ?_
  intro p e s m args below meth c s₁ B hml hv
  obtain ⟨rfl, hsz, hP, hK, hD0⟩ := hv
  have hx := B.exec
  have hb := B.bytes
  have hr := B.returns
  have hts := atoms_spec (ws := wsX9_write) B.pre
  have hown : s.vm.findClass RX9 = some m.cls := findClass_of_methodNamed B.named
  have hlocks := B.notSynchronized
  clear B
  subst hsz
  have hD := hD0.self (sz := s.heap.size)
  generalize hAe : va_A [(q_this, .inr (7, [.ref q_text, .ref q_item, .ref q_stands, .ref q_crowd, .ref q_measure, .ref q_laid, .ref q_tried])), (q_text, .inr (6, [.ref q_text_bytes, .int v_text_length])), (q_text_bytes, .inl (ca 2, 500, .inl v_text_bytes))] s.heap.size = A at hD ⊢
  have hA : ∀ q : Nat, s.heap.size ≤ q → A q := fun q h => by rw [← hAe]; exact Or.inr h
  have hS : va_S A s.heap s.heap [] := va_S.rf
  have hl := lv_entry ([.ref q_this, .int p1, .long p2]) (n := 5) (Nat.le_of_ble_eq_true rfl)
  rw [lg_entry_eq]
  generalize (lg_sl ([.ref q_this, .int p1, .long p2]) ++ List.replicate (5 - (lg_sl ([.ref q_this, .int p1, .long p2])).length) Slot.unset).toArray = ls at hl ⊢
  have hl : lv_has ls 5 [(0, .ref q_this), (1, .int p1), (2, .long p2)] := hl
  generalize ([.ref q_this, .int p1, .long p2] : List Value).toArray = args at hts ⊢
  generalize hQe : MQ below (kQi D ca (A) [(q_this, .inr (7, [.ref q_text, .ref q_item, .ref q_stands, .ref q_crowd, .ref q_measure, .ref q_laid, .ref q_tried])), (q_text, .inr (6, [.ref q_text_bytes, .int o_text_length])), (q_text_bytes, .inl (ca 2, 500, .inl o_text_bytes))] r) args s 0 0 A = Q
  have i_X9 : ∀ w ∈ u_ws RX9 TX9 7, w ∈ wsX9_write := by decide +kernel
  have k_10 := hts (.fieldLink RX9 10 "TradeWords" "text" "LTradeWords$Text;") (by decide +kernel)
  rw [D_X9_write] at h
  refine lv_iload_n hx hb dX9_write_0 rfl (lv_at hl 1 rfl) ?_
  refine lv_iconst (v := (nI 1)) hx hb dX9_write_1 (by decide) ?_
  refine lv_icmp_lt (tgt := 11) hx hb dX9_write_2 (by decide) (fun c_1 => ?_) (fun c_1 => ?_)
  · replace h := ifp_el c_1 h
    refine lv_iconst (v := (-1 : Int32)) hx hb dX9_write_11 (by decide) ?_
    cases h
    rw [← hQe]
    exact W.iret hx hb hr (fun t ht hW => ⟨⟨_, (), rfl, rfl, by rw [ht]; exact hP, va_K.moved hW.alike hK, hD⟩, hS.F ht⟩) hS.2.2 dX9_write_12
  · replace h := ifn_el c_1 h
    refine lv_iload_n hx hb dX9_write_5 rfl (lv_at hl 1 rfl) ?_
    refine lv_bipush (v := (nI 8)) hx hb dX9_write_6 (by decide) ?_
    refine lv_icmp_le (tgt := 13) hx hb dX9_write_8 (by decide) (fun c_2 => ?_) (fun c_2 => ?_)
    · replace h := ifp_el c_2 h
      refine lv_aload_n hx hb dX9_write_13 rfl (lv_at hl 0 rfl) ?_
      refine va_get (D := D) (ci := 7) (v := .ref q_text) (C := RX9) (T := TX9) (N := 7) hx hb hts i_X9 hown hK hP 0 rfl rfl 0 (by decide) k_10 (fun _ h9 => h9) rfl dX9_write_14 ?_
      obtain ⟨r_3, hg_4, h⟩ := bd1_el h
      refine kx_Vi (As := []) (rest := []) (wr := [(q_this, .inr (7, [.ref q_text, .ref q_item, .ref q_stands, .ref q_crowd, .ref q_measure, .ref q_laid, .ref q_tried])), (q_text_bytes, .inl (ca 2, 500, .inl v_text_bytes))]) (w1 := [(q_text, .inr (6, [.ref q_text_bytes, .int v_text_length]))]) (wn := [(q_this, .inr (7, [.ref q_text, .ref q_item, .ref q_stands, .ref q_crowd, .ref q_measure, .ref q_laid, .ref q_tried])), (q_text, .inr (6, [.ref q_text_bytes, .int v_text_length])), (q_text_bytes, .inl (ca 2, 500, .inl v_text_bytes))]) ⟨hx, hb, hml, hown, hts⟩ (c_X7_length l D ca s.heap.size q_text q_text_bytes v_text_length r_3 hg_4) (cwV 0 hts gX9_write_X7_length rfl rfl rfl (by decide +kernel) ⟨(Nat.le_of_ble_eq_true rfl), (Nat.le_of_ble_eq_true rfl)⟩) hK hP hD hS hA (ci := 6) (q0 := 0) rfl rfl [1] [0, 2] [0, 2, 1] rfl rfl rfl rfl (by decide) rfl rfl rfl hl.1 rfl (Nat.le_of_ble_eq_true rfl) dX9_write_17 ⟨Nat.zero_le _, Nat.zero_le _⟩ (fun H locs hP hD hS => ?_)
      refine lv_iload_n hx hb dX9_write_20 rfl (lv_at hl 1 rfl) ?_
      refine lv_iadd hx hb dX9_write_21 ?_
      refine lv_sipush (v := (nI 500)) hx hb dX9_write_22 (by decide) ?_
      refine lv_icmp_le (tgt := 31) hx hb dX9_write_25 (by decide) (fun c_5 => ?_) (fun c_5 => ?_)
      · replace h := ifp_el c_5 h
        refine lv_iload_n hx hb dX9_write_31 rfl (lv_at hl 1 rfl) ?_
        refine lv_iconst (v := (nI 1)) hx hb dX9_write_32 (by decide) ?_
        refine lv_isub hx hb dX9_write_33 ?_
        refine lv_nmi h (fun x4_6 h => ?_)
        refine lv_istore (lv' := [(4, .int x4_6), (0, .ref q_this), (1, .int p1), (2, .long p2)]) hx hb dX9_write_34 hl (by decide) rfl (fun ls hl => ?_)
        obtain ⟨o_10, o_11, hL, h⟩ := bd2_el h
        have hex : ∀ (H : Heap) (locs : List Loc) (ls : Array Slot), va_P D vwCl [(q_this, .inr (7, [.ref q_text, .ref q_item, .ref q_stands, .ref q_crowd, .ref q_measure, .ref q_laid, .ref q_tried])), (q_text, .inr (6, [.ref q_text_bytes, .int o_10])), (q_text_bytes, .inl (ca 2, 500, .inl o_11))] H → va_D A [(q_this, .inr (7, [.ref q_text, .ref q_item, .ref q_stands, .ref q_crowd, .ref q_measure, .ref q_laid, .ref q_tried])), (q_text, .inr (6, [.ref q_text_bytes, .int o_10])), (q_text_bytes, .inl (ca 2, 500, .inl o_11))] → va_S A s.heap H locs → lv_has ls 5 [(0, .ref q_this)] → W p l e (headSpec wsX9_write rm_X9_write).room s m args below meth c H locs 0 0 Q (F0 m 66 ls []) := by
          intro H locs ls hP hD hS hl
          refine lv_aload_n hx hb dX9_write_66 rfl (lv_at hl 0 rfl) ?_
          refine va_get (D := D) (ci := 7) (v := .ref q_text) (C := RX9) (T := TX9) (N := 7) hx hb hts i_X9 hown hK hP 0 rfl rfl 0 (by decide) k_10 (fun _ h9 => h9) rfl dX9_write_67 ?_
          obtain ⟨r_18, hg_19, h⟩ := bd1_el h
          refine kx_Vi (As := []) (rest := []) (wr := [(q_this, .inr (7, [.ref q_text, .ref q_item, .ref q_stands, .ref q_crowd, .ref q_measure, .ref q_laid, .ref q_tried])), (q_text_bytes, .inl (ca 2, 500, .inl o_11))]) (w1 := [(q_text, .inr (6, [.ref q_text_bytes, .int o_10]))]) (wn := [(q_this, .inr (7, [.ref q_text, .ref q_item, .ref q_stands, .ref q_crowd, .ref q_measure, .ref q_laid, .ref q_tried])), (q_text, .inr (6, [.ref q_text_bytes, .int o_10])), (q_text_bytes, .inl (ca 2, 500, .inl o_11))]) ⟨hx, hb, hml, hown, hts⟩ (c_X7_length l D ca H.size q_text q_text_bytes o_10 r_18 hg_19) (cwV 0 hts gX9_write_X7_length rfl rfl rfl (by decide +kernel) ⟨(Nat.le_of_ble_eq_true rfl), (Nat.le_of_ble_eq_true rfl)⟩) hK hP hD hS hA (ci := 6) (q0 := 0) rfl rfl [1] [0, 2] [0, 2, 1] rfl rfl rfl rfl (by decide) rfl rfl rfl hl.1 rfl (Nat.le_of_ble_eq_true rfl) dX9_write_70 ⟨Nat.zero_le _, Nat.zero_le _⟩ (fun H locs hP hD hS => ?_)
          cases h
          rw [← hQe]
          exact W.iret hx hb hr (fun t ht hW => ⟨⟨_, (), rfl, rfl, by rw [ht]; exact hP, va_K.moved hW.alike hK, hD⟩, hS.F ht⟩) hS.2.2 dX9_write_73
        have hlp : ∀ (n : Nat) (x4_7 : Int32) (y_text_length_8 : Int32) (y_text_bytes_9 : Nat → Int32) (o_10 : Int32) (o_11 : Nat → Int32) (H : Heap) (locs : List Loc) (ls : Array Slot), lpg (T := Int32 → Int32 → (Nat → Int32) → Option (Int32 × (Nat → Int32))) (fun _ _ _ => none) (b_X9_write_36 p2) n x4_7 y_text_length_8 y_text_bytes_9 = some (o_10, o_11) → (∀ (H : Heap) (locs : List Loc) (ls : Array Slot), va_P D vwCl [(q_this, .inr (7, [.ref q_text, .ref q_item, .ref q_stands, .ref q_crowd, .ref q_measure, .ref q_laid, .ref q_tried])), (q_text, .inr (6, [.ref q_text_bytes, .int o_10])), (q_text_bytes, .inl (ca 2, 500, .inl o_11))] H → va_D A [(q_this, .inr (7, [.ref q_text, .ref q_item, .ref q_stands, .ref q_crowd, .ref q_measure, .ref q_laid, .ref q_tried])), (q_text, .inr (6, [.ref q_text_bytes, .int o_10])), (q_text_bytes, .inl (ca 2, 500, .inl o_11))] → va_S A s.heap H locs → lv_has ls 5 [(0, .ref q_this)] → W p l e (headSpec wsX9_write rm_X9_write).room s m args below meth c H locs 0 0 Q (F0 m 66 ls [])) → va_P D vwCl [(q_this, .inr (7, [.ref q_text, .ref q_item, .ref q_stands, .ref q_crowd, .ref q_measure, .ref q_laid, .ref q_tried])), (q_text, .inr (6, [.ref q_text_bytes, .int y_text_length_8])), (q_text_bytes, .inl (ca 2, 500, .inl y_text_bytes_9))] H → va_D A [(q_this, .inr (7, [.ref q_text, .ref q_item, .ref q_stands, .ref q_crowd, .ref q_measure, .ref q_laid, .ref q_tried])), (q_text, .inr (6, [.ref q_text_bytes, .int y_text_length_8])), (q_text_bytes, .inl (ca 2, 500, .inl y_text_bytes_9))] → va_S A s.heap H locs → lv_has ls 5 [(0, .ref q_this), (2, .long p2), (4, .int x4_7)] → W p l e (headSpec wsX9_write rm_X9_write).room s m args below meth c H locs 0 0 Q (F0 m 36 ls []) := by
          intro n
          induction n with
          | zero => intro x4_7 y_text_length_8 y_text_bytes_9 o_10 o_11 H locs ls h; have h : (none : Option (Int32 × (Nat → Int32))) = some _ := h; cases h
          | succ n ih =>
            intro x4_7 y_text_length_8 y_text_bytes_9 o_10 o_11 H locs ls h hex hP hD hS hl
            rw [lpg_succ, b_X9_write_36] at h
            refine lv_iload hx hb dX9_write_36 (lv_at hl 2 rfl) ?_
            refine lv_if_lt (tgt := 66) hx hb dX9_write_38 (by decide) (fun c_12 => ?_) (fun c_12 => ?_)
            · replace h := ifp_el c_12 h
              cases h
              exact hex _ _ _ hP hD hS (lv_sub hl [0] rfl)
            · replace h := ifn_el c_12 h
              refine lv_aload_n hx hb dX9_write_41 rfl (lv_at hl 0 rfl) ?_
              refine va_get (D := D) (ci := 7) (v := .ref q_text) (C := RX9) (T := TX9) (N := 7) hx hb hts i_X9 hown hK hP 0 rfl rfl 0 (by decide) k_10 (fun _ h9 => h9) rfl dX9_write_42 ?_
              refine lv_lload_n hx hb dX9_write_45 rfl (lv_at hl 1 rfl) ?_
              refine lv_bipush (v := (nI 8)) hx hb dX9_write_46 (by decide) ?_
              refine lv_iload hx hb dX9_write_48 (lv_at hl 2 rfl) ?_
              refine lv_imul hx hb dX9_write_50 ?_
              refine lv_lushr hx hb dX9_write_51 rfl ?_
              refine lv_l2i hx hb dX9_write_52 rfl ?_
              refine lv_sipush (v := (nI 255)) hx hb dX9_write_53 (by decide) ?_
              refine lv_iand hx hb dX9_write_56 ?_
              obtain ⟨y_text_length_13, y_text_bytes_14, hg_15, h⟩ := bd2_el h
              refine kx_Vv (As := [.int ((((p2.toUInt64 >>> (((nI 8) * x4_7).toInt64.toUInt64 &&& Int64.toUInt64 63)).toInt64).toInt32) &&& (nI 255))]) (rest := []) (wr := [(q_this, .inr (7, [.ref q_text, .ref q_item, .ref q_stands, .ref q_crowd, .ref q_measure, .ref q_laid, .ref q_tried]))]) (w1 := [(q_text, .inr (6, [.ref q_text_bytes, .int y_text_length_13])), (q_text_bytes, .inl (ca 2, 500, .inl y_text_bytes_14))]) (wn := [(q_this, .inr (7, [.ref q_text, .ref q_item, .ref q_stands, .ref q_crowd, .ref q_measure, .ref q_laid, .ref q_tried])), (q_text, .inr (6, [.ref q_text_bytes, .int y_text_length_13])), (q_text_bytes, .inl (ca 2, 500, .inl y_text_bytes_14))]) ⟨hx, hb, hml, hown, hts⟩ (c_X7_append l D ca H.size q_text q_text_bytes ((((p2.toUInt64 >>> (((nI 8) * x4_7).toInt64.toUInt64 &&& Int64.toUInt64 63)).toInt64).toInt32) &&& (nI 255)) y_text_length_8 y_text_bytes_9 y_text_length_13 y_text_bytes_14 hg_15) (cwV 1 hts gX9_write_X7_append rfl rfl rfl (by decide +kernel) ⟨(Nat.le_of_ble_eq_true rfl), (Nat.le_of_ble_eq_true rfl)⟩) hK hP hD hS hA (ci := 6) (q0 := 0) rfl rfl [1, 2] [0] [0, 1, 2] rfl rfl rfl rfl (by decide) rfl rfl rfl hl.1 rfl (Nat.le_of_ble_eq_true rfl) dX9_write_57 ⟨Nat.zero_le _, Nat.zero_le _⟩ (fun H locs hP hD hS => ?_)
              obtain ⟨x4_16, e_17, h⟩ := nm_el h
              refine lv_iinc (v := x4_16) (lv' := [(4, .int x4_16), (0, .ref q_this), (2, .long p2)]) hx hb dX9_write_60 hl (k := 2) rfl (by rw [← e_17]; rfl) (by decide) rfl (fun ls hl => ?_)
              refine lv_goto (tgt := 36) hx hb dX9_write_63 (by decide) ?_
              exact ih _ _ _ _ _ _ _ _ h hex hP hD hS (lv_sub hl [1, 2, 0] rfl)
        exact hlp F x4_6 v_text_length v_text_bytes o_10 o_11 H locs ls hL hex hP hD hS (lv_sub hl [1, 3, 0] rfl)
      · replace h := ifn_el c_5 h
        refine lv_bipush (v := (-3 : Int32)) hx hb dX9_write_28 (by decide) ?_
        cases h
        rw [← hQe]
        exact W.iret hx hb hr (fun t ht hW => ⟨⟨_, (), rfl, rfl, by rw [ht]; exact hP, va_K.moved hW.alike hK, hD⟩, hS.F ht⟩) hS.2.2 dX9_write_30
    · replace h := ifn_el c_2 h
      refine lv_iconst (v := (-1 : Int32)) hx hb dX9_write_11 (by decide) ?_
      cases h
      rw [← hQe]
      exact W.iret hx hb hr (fun t ht hW => ⟨⟨_, (), rfl, rfl, by rw [ht]; exact hP, va_K.moved hW.alike hK, hD⟩, hS.F ht⟩) hS.2.2 dX9_write_12
def D_X9_wipe (v_text_length : Int32) : Option (Int32 × Int32) := bd1 (D_X7_length v_text_length) (fun r_1 => bd1 (D_X7_clear v_text_length) (fun y_text_length_3 => some (r_1, y_text_length_3)))
abbrev rm_X9_wipe : Room := { frames := 1, cells := 0, slots := 0, locals := 20 }
set_option maxHeartbeats 4000000 in
set_option maxRecDepth 100000 in
theorem c_X9_wipe (l : Launch) (D : va_G) (ca : Nat → ClassId) (sz : Nat) (q_this q_text q_text_bytes q_item q_stands q_crowd q_measure q_laid q_tried : Nat) (v_text_length : Int32) (r : Int32) (o_text_length : Int32) (h : D_X9_wipe v_text_length = some (r, o_text_length)) : Met l yX9_wipe wsX9_wipe rm_X9_wipe (va_Pc [.ref q_this] (kPre D ca [(q_this, .inr (7, [.ref q_text, .ref q_item, .ref q_stands, .ref q_crowd, .ref q_measure, .ref q_laid, .ref q_tried])), (q_text, .inr (6, [.ref q_text_bytes, .int v_text_length]))] sz)) (kQi D ca (va_A [(q_this, .inr (7, [.ref q_text, .ref q_item, .ref q_stands, .ref q_crowd, .ref q_measure, .ref q_laid, .ref q_tried])), (q_text, .inr (6, [.ref q_text_bytes, .int v_text_length]))] sz) [(q_this, .inr (7, [.ref q_text, .ref q_item, .ref q_stands, .ref q_crowd, .ref q_measure, .ref q_laid, .ref q_tried])), (q_text, .inr (6, [.ref q_text_bytes, .int o_text_length]))] r) 0 0 (va_A [(q_this, .inr (7, [.ref q_text, .ref q_item, .ref q_stands, .ref q_crowd, .ref q_measure, .ref q_laid, .ref q_tried])), (q_text, .inr (6, [.ref q_text_bytes, .int v_text_length]))] sz) := by
  refine Met.ofW (cc := cX9_wipe) (maxL := 2) (ret := (some .int)) (by decide +kernel) rfl ?_
  intro p e s m args below meth c s₁ B hml hv
  obtain ⟨rfl, hsz, hP, hK, hD0⟩ := hv
  have hx := B.exec
  have hb := B.bytes
  have hr := B.returns
  have hts := atoms_spec (ws := wsX9_wipe) B.pre
  have hown : s.vm.findClass RX9 = some m.cls := findClass_of_methodNamed B.named
  have hlocks := B.notSynchronized
  clear B
  subst hsz
  have hD := hD0.self (sz := s.heap.size)
  generalize hAe : va_A [(q_this, .inr (7, [.ref q_text, .ref q_item, .ref q_stands, .ref q_crowd, .ref q_measure, .ref q_laid, .ref q_tried])), (q_text, .inr (6, [.ref q_text_bytes, .int v_text_length]))] s.heap.size = A at hD ⊢
  have hA : ∀ q : Nat, s.heap.size ≤ q → A q := fun q h => by rw [← hAe]; exact Or.inr h
  have hS : va_S A s.heap s.heap [] := va_S.rf
  have hl := lv_entry ([.ref q_this]) (n := 2) (Nat.le_of_ble_eq_true rfl)
  rw [lg_entry_eq]
  generalize (lg_sl ([.ref q_this]) ++ List.replicate (2 - (lg_sl ([.ref q_this])).length) Slot.unset).toArray = ls at hl ⊢
  have hl : lv_has ls 2 [(0, .ref q_this)] := hl
  generalize ([.ref q_this] : List Value).toArray = args at hts ⊢
  generalize hQe : MQ below (kQi D ca (A) [(q_this, .inr (7, [.ref q_text, .ref q_item, .ref q_stands, .ref q_crowd, .ref q_measure, .ref q_laid, .ref q_tried])), (q_text, .inr (6, [.ref q_text_bytes, .int o_text_length]))] r) args s 0 0 A = Q
  have i_X9 : ∀ w ∈ u_ws RX9 TX9 7, w ∈ wsX9_wipe := by decide +kernel
  have k_10 := hts (.fieldLink RX9 10 "TradeWords" "text" "LTradeWords$Text;") (by decide +kernel)
  rw [D_X9_wipe] at h
  refine lv_aload_n hx hb dX9_wipe_0 rfl (lv_at hl 0 rfl) ?_
  refine va_get (D := D) (ci := 7) (v := .ref q_text) (C := RX9) (T := TX9) (N := 7) hx hb hts i_X9 hown hK hP 0 rfl rfl 0 (by decide) k_10 (fun _ h9 => h9) rfl dX9_wipe_1 ?_
  obtain ⟨r_1, hg_2, h⟩ := bd1_el h
  refine kx_Vi (As := []) (rest := []) (wr := [(q_this, .inr (7, [.ref q_text, .ref q_item, .ref q_stands, .ref q_crowd, .ref q_measure, .ref q_laid, .ref q_tried]))]) (w1 := [(q_text, .inr (6, [.ref q_text_bytes, .int v_text_length]))]) (wn := [(q_this, .inr (7, [.ref q_text, .ref q_item, .ref q_stands, .ref q_crowd, .ref q_measure, .ref q_laid, .ref q_tried])), (q_text, .inr (6, [.ref q_text_bytes, .int v_text_length]))]) ⟨hx, hb, hml, hown, hts⟩ (c_X7_length l D ca s.heap.size q_text q_text_bytes v_text_length r_1 hg_2) (cwV 0 hts gX9_wipe_X7_length rfl rfl rfl (by decide +kernel) ⟨(Nat.le_of_ble_eq_true rfl), (Nat.le_of_ble_eq_true rfl)⟩) hK hP hD hS hA (ci := 6) (q0 := 0) rfl rfl [1] [0] [0, 1] rfl rfl rfl rfl (by decide) rfl rfl rfl hl.1 rfl (Nat.le_of_ble_eq_true rfl) dX9_wipe_4 ⟨Nat.zero_le _, Nat.zero_le _⟩ (fun H locs hP hD hS => ?_)
  refine lv_istore_n (lv' := [(1, .int r_1), (0, .ref q_this)]) hx hb dX9_wipe_7 rfl hl (by decide) rfl (fun ls hl => ?_)
  refine lv_aload_n hx hb dX9_wipe_8 rfl (lv_at hl 1 rfl) ?_
  refine va_get (D := D) (ci := 7) (v := .ref q_text) (C := RX9) (T := TX9) (N := 7) hx hb hts i_X9 hown hK hP 0 rfl rfl 0 (by decide) k_10 (fun _ h9 => h9) rfl dX9_wipe_9 ?_
  obtain ⟨y_text_length_3, hg_4, h⟩ := bd1_el h
  refine kx_Vv (As := []) (rest := []) (wr := [(q_this, .inr (7, [.ref q_text, .ref q_item, .ref q_stands, .ref q_crowd, .ref q_measure, .ref q_laid, .ref q_tried]))]) (w1 := [(q_text, .inr (6, [.ref q_text_bytes, .int y_text_length_3]))]) (wn := [(q_this, .inr (7, [.ref q_text, .ref q_item, .ref q_stands, .ref q_crowd, .ref q_measure, .ref q_laid, .ref q_tried])), (q_text, .inr (6, [.ref q_text_bytes, .int y_text_length_3]))]) ⟨hx, hb, hml, hown, hts⟩ (c_X7_clear l D ca H.size q_text q_text_bytes v_text_length y_text_length_3 hg_4) (cwV 0 hts gX9_wipe_X7_clear rfl rfl rfl (by decide +kernel) ⟨(Nat.le_of_ble_eq_true rfl), (Nat.le_of_ble_eq_true rfl)⟩) hK hP hD hS hA (ci := 6) (q0 := 0) rfl rfl [1] [0] [0, 1] rfl rfl rfl rfl (by decide) rfl rfl rfl hl.1 rfl (Nat.le_of_ble_eq_true rfl) dX9_wipe_12 ⟨Nat.zero_le _, Nat.zero_le _⟩ (fun H locs hP hD hS => ?_)
  refine lv_iload_n hx hb dX9_wipe_15 rfl (lv_at hl 0 rfl) ?_
  cases h
  rw [← hQe]
  exact W.iret hx hb hr (fun t ht hW => ⟨⟨_, (), rfl, rfl, by rw [ht]; exact hP, va_K.moved hW.alike hK, hD⟩, hS.F ht⟩) hS.2.2 dX9_wipe_16
def b_X9_tryText_11 (v_text_length : Int32) (v_text_bytes : Nat → Int32) (F : Nat) (rec11 : Int32 → Int32 → Int32 → Int32 → Int32 → Int32 → (Nat → Int32) → Int32 → Int32 → (Nat → Int32) → (Nat → Int32) → (Nat → Int32) → (Nat → Int32) → (Nat → Int32) → (Nat → Int32) → Int32 → Int32 → Int32 → (Nat → Int32) → (Nat → Int32) → Option (Int32 × Int32 × Int32 × Int32 × Int32 × (Nat → Int32) × Int32 × Int32 × (Nat → Int32) × (Nat → Int32) × (Nat → Int32) × (Nat → Int32) × (Nat → Int32) × (Nat → Int32) × Int32 × Int32 × Int32 × (Nat → Int32) × (Nat → Int32))) (x1_13 : Int32) (x2_14 : Int32) (y_item_place_15 : Int32) (y_item_letter_16 : Int32) (y_item_word_17 : Int32) (y_item_bits_18 : Int32) (y_item_numbers_19 : Nat → Int32) (y_tried_speaks_20 : Int32) (y_tried_alikeFrom_21 : Int32) (y_tried_words_22 : Nat → Int32) (y_tried_heard_23 : Nat → Int32) (y_tried_canSay_24 : Nat → Int32) (y_tried_instead_25 : Nat → Int32) (y_tried_traders_26 : Nat → Int32) (y_tried_takes_27 : Nat → Int32) (y_tried_needs_joinedTold_28 : Int32) (y_tried_needs_needsTold_29 : Int32) (y_tried_needs_needed_30 : Int32) (y_tried_needs_joinedMeaning_31 : Nat → Int32) (y_tried_needs_joinedPair_32 : Nat → Int32) : Option (Int32 × Int32 × Int32 × Int32 × Int32 × (Nat → Int32) × Int32 × Int32 × (Nat → Int32) × (Nat → Int32) × (Nat → Int32) × (Nat → Int32) × (Nat → Int32) × (Nat → Int32) × Int32 × Int32 × Int32 × (Nat → Int32) × (Nat → Int32)) := (if (nI 500) ≤ x2_14 then some ((-4 : Int32), y_item_place_15, y_item_letter_16, y_item_word_17, y_item_bits_18, y_item_numbers_19, y_tried_speaks_20, y_tried_alikeFrom_21, y_tried_words_22, y_tried_heard_23, y_tried_canSay_24, y_tried_instead_25, y_tried_traders_26, y_tried_takes_27, y_tried_needs_joinedTold_28, y_tried_needs_needsTold_29, y_tried_needs_needed_30, y_tried_needs_joinedMeaning_31, y_tried_needs_joinedPair_32) else bd1 (D_X7_length v_text_length) (fun r_34 => (if r_34 ≤ x1_13 then some ((-4 : Int32), y_item_place_15, y_item_letter_16, y_item_word_17, y_item_bits_18, y_item_numbers_19, y_tried_speaks_20, y_tried_alikeFrom_21, y_tried_words_22, y_tried_heard_23, y_tried_canSay_24, y_tried_instead_25, y_tried_traders_26, y_tried_takes_27, y_tried_needs_joinedTold_28, y_tried_needs_needsTold_29, y_tried_needs_needed_30, y_tried_needs_joinedMeaning_31, y_tried_needs_joinedPair_32) else bd6 (D_X2_readAt F x1_13 y_item_place_15 y_item_letter_16 y_item_word_17 y_item_bits_18 v_text_length v_text_bytes y_item_numbers_19) (fun r_37 y_item_place_38 y_item_letter_39 y_item_word_40 y_item_bits_41 y_item_numbers_42 => (if r_37 = 0 then some (x1_13, y_item_place_38, y_item_letter_39, y_item_word_40, y_item_bits_41, y_item_numbers_42, y_tried_speaks_20, y_tried_alikeFrom_21, y_tried_words_22, y_tried_heard_23, y_tried_canSay_24, y_tried_instead_25, y_tried_traders_26, y_tried_takes_27, y_tried_needs_joinedTold_28, y_tried_needs_needsTold_29, y_tried_needs_needed_30, y_tried_needs_joinedMeaning_31, y_tried_needs_joinedPair_32) else bd14 (D_X0_accepts y_tried_speaks_20 y_tried_alikeFrom_21 y_tried_words_22 y_tried_heard_23 y_tried_canSay_24 y_tried_instead_25 y_tried_traders_26 y_tried_takes_27 y_tried_needs_joinedTold_28 y_tried_needs_needsTold_29 y_tried_needs_needed_30 y_tried_needs_joinedMeaning_31 y_tried_needs_joinedPair_32 y_item_letter_39 y_item_word_40 y_item_bits_41 y_item_numbers_42) (fun r_45 y_tried_speaks_46 y_tried_alikeFrom_47 y_tried_words_48 y_tried_heard_49 y_tried_canSay_50 y_tried_instead_51 y_tried_traders_52 y_tried_takes_53 y_tried_needs_joinedTold_54 y_tried_needs_needsTold_55 y_tried_needs_needed_56 y_tried_needs_joinedMeaning_57 y_tried_needs_joinedPair_58 => (if r_45 = 0 then some (x1_13, y_item_place_38, y_item_letter_39, y_item_word_40, y_item_bits_41, y_item_numbers_42, y_tried_speaks_46, y_tried_alikeFrom_47, y_tried_words_48, y_tried_heard_49, y_tried_canSay_50, y_tried_instead_51, y_tried_traders_52, y_tried_takes_53, y_tried_needs_joinedTold_54, y_tried_needs_needsTold_55, y_tried_needs_needed_56, y_tried_needs_joinedMeaning_57, y_tried_needs_joinedPair_58) else bd1 (D_X2_behind y_item_place_38) (fun r_61 => nm (x2_14 + (nI 1)) (fun x2_63 => rec11 r_61 x2_63 y_item_place_38 y_item_letter_39 y_item_word_40 y_item_bits_41 y_item_numbers_42 y_tried_speaks_46 y_tried_alikeFrom_47 y_tried_words_48 y_tried_heard_49 y_tried_canSay_50 y_tried_instead_51 y_tried_traders_52 y_tried_takes_53 y_tried_needs_joinedTold_54 y_tried_needs_needsTold_55 y_tried_needs_needed_56 y_tried_needs_joinedMeaning_57 y_tried_needs_joinedPair_58)))))))))
def D_X9_tryText (F : Nat) (v_text_length : Int32) (v_text_bytes : Nat → Int32) (v_item_place : Int32) (v_item_letter : Int32) (v_item_word : Int32) (v_item_bits : Int32) (v_item_numbers : Nat → Int32) (v_tried_speaks : Int32) (v_tried_alikeFrom : Int32) (v_tried_words : Nat → Int32) (v_tried_heard : Nat → Int32) (v_tried_canSay : Nat → Int32) (v_tried_instead : Nat → Int32) (v_tried_traders : Nat → Int32) (v_tried_takes : Nat → Int32) (v_tried_needs_joinedTold : Int32) (v_tried_needs_needsTold : Int32) (v_tried_needs_needed : Int32) (v_tried_needs_joinedMeaning : Nat → Int32) (v_tried_needs_joinedPair : Nat → Int32) : Option (Int32 × Int32 × Int32 × Int32 × Int32 × (Nat → Int32) × Int32 × Int32 × (Nat → Int32) × (Nat → Int32) × (Nat → Int32) × (Nat → Int32) × (Nat → Int32) × (Nat → Int32) × Int32 × Int32 × Int32 × (Nat → Int32) × (Nat → Int32)) := bd11 (D_X0_clear F v_tried_speaks v_tried_alikeFrom v_tried_words v_tried_heard v_tried_canSay v_tried_instead v_tried_traders v_tried_takes v_tried_needs_joinedTold v_tried_needs_needsTold v_tried_needs_needed) (fun y_tried_speaks_1 y_tried_alikeFrom_2 y_tried_words_3 y_tried_heard_4 y_tried_canSay_5 y_tried_instead_6 y_tried_traders_7 y_tried_takes_8 y_tried_needs_joinedTold_9 y_tried_needs_needsTold_10 y_tried_needs_needed_11 => lpg (T := Int32 → Int32 → Int32 → Int32 → Int32 → Int32 → (Nat → Int32) → Int32 → Int32 → (Nat → Int32) → (Nat → Int32) → (Nat → Int32) → (Nat → Int32) → (Nat → Int32) → (Nat → Int32) → Int32 → Int32 → Int32 → (Nat → Int32) → (Nat → Int32) → Option (Int32 × Int32 × Int32 × Int32 × Int32 × (Nat → Int32) × Int32 × Int32 × (Nat → Int32) × (Nat → Int32) × (Nat → Int32) × (Nat → Int32) × (Nat → Int32) × (Nat → Int32) × Int32 × Int32 × Int32 × (Nat → Int32) × (Nat → Int32))) (fun _ _ _ _ _ _ _ _ _ _ _ _ _ _ _ _ _ _ _ _ => none) (b_X9_tryText_11 v_text_length v_text_bytes F) F (nI 0) (nI 0) v_item_place v_item_letter v_item_word v_item_bits v_item_numbers y_tried_speaks_1 y_tried_alikeFrom_2 y_tried_words_3 y_tried_heard_4 y_tried_canSay_5 y_tried_instead_6 y_tried_traders_7 y_tried_takes_8 y_tried_needs_joinedTold_9 y_tried_needs_needsTold_10 y_tried_needs_needed_11 v_tried_needs_joinedMeaning v_tried_needs_joinedPair)
abbrev rm_X9_tryText : Room := { frames := 5, cells := 0, slots := 0, locals := 109 }
set_option maxHeartbeats 4000000 in
set_option maxRecDepth 100000 in
theorem c_X9_tryText (l : Launch) (D : va_G) (ca : Nat → ClassId) (F : Nat) (sz : Nat) (q_this q_text q_text_bytes q_item q_item_numbers q_stands q_crowd q_measure q_laid q_tried q_tried_words q_tried_heard q_tried_canSay q_tried_instead q_tried_traders q_tried_takes q_tried_needs q_tried_needs_joinedMeaning q_tried_needs_joinedPair : Nat) (v_text_length : Int32) (v_text_bytes : Nat → Int32) (v_item_place : Int32) (v_item_letter : Int32) (v_item_word : Int32) (v_item_bits : Int32) (v_item_numbers : Nat → Int32) (v_tried_speaks : Int32) (v_tried_alikeFrom : Int32) (v_tried_words : Nat → Int32) (v_tried_heard : Nat → Int32) (v_tried_canSay : Nat → Int32) (v_tried_instead : Nat → Int32) (v_tried_traders : Nat → Int32) (v_tried_takes : Nat → Int32) (v_tried_needs_joinedTold : Int32) (v_tried_needs_needsTold : Int32) (v_tried_needs_needed : Int32) (v_tried_needs_joinedMeaning : Nat → Int32) (v_tried_needs_joinedPair : Nat → Int32) (r : Int32) (o_item_place : Int32) (o_item_letter : Int32) (o_item_word : Int32) (o_item_bits : Int32) (o_item_numbers : Nat → Int32) (o_tried_speaks : Int32) (o_tried_alikeFrom : Int32) (o_tried_words : Nat → Int32) (o_tried_heard : Nat → Int32) (o_tried_canSay : Nat → Int32) (o_tried_instead : Nat → Int32) (o_tried_traders : Nat → Int32) (o_tried_takes : Nat → Int32) (o_tried_needs_joinedTold : Int32) (o_tried_needs_needsTold : Int32) (o_tried_needs_needed : Int32) (o_tried_needs_joinedMeaning : Nat → Int32) (o_tried_needs_joinedPair : Nat → Int32) (h : D_X9_tryText F v_text_length v_text_bytes v_item_place v_item_letter v_item_word v_item_bits v_item_numbers v_tried_speaks v_tried_alikeFrom v_tried_words v_tried_heard v_tried_canSay v_tried_instead v_tried_traders v_tried_takes v_tried_needs_joinedTold v_tried_needs_needsTold v_tried_needs_needed v_tried_needs_joinedMeaning v_tried_needs_joinedPair = some (r, o_item_place, o_item_letter, o_item_word, o_item_bits, o_item_numbers, o_tried_speaks, o_tried_alikeFrom, o_tried_words, o_tried_heard, o_tried_canSay, o_tried_instead, o_tried_traders, o_tried_takes, o_tried_needs_joinedTold, o_tried_needs_needsTold, o_tried_needs_needed, o_tried_needs_joinedMeaning, o_tried_needs_joinedPair)) : Met l yX9_tryText wsX9_tryText rm_X9_tryText (va_Pc [.ref q_this] (kPre D ca [(q_this, .inr (7, [.ref q_text, .ref q_item, .ref q_stands, .ref q_crowd, .ref q_measure, .ref q_laid, .ref q_tried])), (q_text, .inr (6, [.ref q_text_bytes, .int v_text_length])), (q_text_bytes, .inl (ca 2, 500, .inl v_text_bytes)), (q_item, .inr (2, [.ref q_text, .ref q_item_numbers, .int v_item_place, .int v_item_letter, .int v_item_word, .int v_item_bits])), (q_item_numbers, .inl (ca 0, 3, .inl v_item_numbers)), (q_tried, .inr (0, [.ref q_tried_words, .ref q_tried_heard, .ref q_tried_canSay, .ref q_tried_instead, .ref q_tried_traders, .ref q_tried_takes, .ref q_tried_needs, .int v_tried_speaks, .int v_tried_alikeFrom])), (q_tried_words, .inl (ca 0, 16, .inl v_tried_words)), (q_tried_heard, .inl (ca 0, 24, .inl v_tried_heard)), (q_tried_canSay, .inl (ca 0, 2, .inl v_tried_canSay)), (q_tried_instead, .inl (ca 0, 16, .inl v_tried_instead)), (q_tried_traders, .inl (ca 0, 2, .inl v_tried_traders)), (q_tried_takes, .inl (ca 0, 2, .inl v_tried_takes)), (q_tried_needs, .inr (4, [.ref q_tried_needs_joinedMeaning, .ref q_tried_needs_joinedPair, .int v_tried_needs_joinedTold, .int v_tried_needs_needsTold, .int v_tried_needs_needed])), (q_tried_needs_joinedMeaning, .inl (ca 0, 8, .inl v_tried_needs_joinedMeaning)), (q_tried_needs_joinedPair, .inl (ca 0, 8, .inl v_tried_needs_joinedPair))] sz)) (kQi D ca (va_A [(q_this, .inr (7, [.ref q_text, .ref q_item, .ref q_stands, .ref q_crowd, .ref q_measure, .ref q_laid, .ref q_tried])), (q_text, .inr (6, [.ref q_text_bytes, .int v_text_length])), (q_text_bytes, .inl (ca 2, 500, .inl v_text_bytes)), (q_item, .inr (2, [.ref q_text, .ref q_item_numbers, .int v_item_place, .int v_item_letter, .int v_item_word, .int v_item_bits])), (q_item_numbers, .inl (ca 0, 3, .inl v_item_numbers)), (q_tried, .inr (0, [.ref q_tried_words, .ref q_tried_heard, .ref q_tried_canSay, .ref q_tried_instead, .ref q_tried_traders, .ref q_tried_takes, .ref q_tried_needs, .int v_tried_speaks, .int v_tried_alikeFrom])), (q_tried_words, .inl (ca 0, 16, .inl v_tried_words)), (q_tried_heard, .inl (ca 0, 24, .inl v_tried_heard)), (q_tried_canSay, .inl (ca 0, 2, .inl v_tried_canSay)), (q_tried_instead, .inl (ca 0, 16, .inl v_tried_instead)), (q_tried_traders, .inl (ca 0, 2, .inl v_tried_traders)), (q_tried_takes, .inl (ca 0, 2, .inl v_tried_takes)), (q_tried_needs, .inr (4, [.ref q_tried_needs_joinedMeaning, .ref q_tried_needs_joinedPair, .int v_tried_needs_joinedTold, .int v_tried_needs_needsTold, .int v_tried_needs_needed])), (q_tried_needs_joinedMeaning, .inl (ca 0, 8, .inl v_tried_needs_joinedMeaning)), (q_tried_needs_joinedPair, .inl (ca 0, 8, .inl v_tried_needs_joinedPair))] sz) [(q_this, .inr (7, [.ref q_text, .ref q_item, .ref q_stands, .ref q_crowd, .ref q_measure, .ref q_laid, .ref q_tried])), (q_text, .inr (6, [.ref q_text_bytes, .int v_text_length])), (q_text_bytes, .inl (ca 2, 500, .inl v_text_bytes)), (q_item, .inr (2, [.ref q_text, .ref q_item_numbers, .int o_item_place, .int o_item_letter, .int o_item_word, .int o_item_bits])), (q_item_numbers, .inl (ca 0, 3, .inl o_item_numbers)), (q_tried, .inr (0, [.ref q_tried_words, .ref q_tried_heard, .ref q_tried_canSay, .ref q_tried_instead, .ref q_tried_traders, .ref q_tried_takes, .ref q_tried_needs, .int o_tried_speaks, .int o_tried_alikeFrom])), (q_tried_words, .inl (ca 0, 16, .inl o_tried_words)), (q_tried_heard, .inl (ca 0, 24, .inl o_tried_heard)), (q_tried_canSay, .inl (ca 0, 2, .inl o_tried_canSay)), (q_tried_instead, .inl (ca 0, 16, .inl o_tried_instead)), (q_tried_traders, .inl (ca 0, 2, .inl o_tried_traders)), (q_tried_takes, .inl (ca 0, 2, .inl o_tried_takes)), (q_tried_needs, .inr (4, [.ref q_tried_needs_joinedMeaning, .ref q_tried_needs_joinedPair, .int o_tried_needs_joinedTold, .int o_tried_needs_needsTold, .int o_tried_needs_needed])), (q_tried_needs_joinedMeaning, .inl (ca 0, 8, .inl o_tried_needs_joinedMeaning)), (q_tried_needs_joinedPair, .inl (ca 0, 8, .inl o_tried_needs_joinedPair))] r) 0 0 (va_A [(q_this, .inr (7, [.ref q_text, .ref q_item, .ref q_stands, .ref q_crowd, .ref q_measure, .ref q_laid, .ref q_tried])), (q_text, .inr (6, [.ref q_text_bytes, .int v_text_length])), (q_text_bytes, .inl (ca 2, 500, .inl v_text_bytes)), (q_item, .inr (2, [.ref q_text, .ref q_item_numbers, .int v_item_place, .int v_item_letter, .int v_item_word, .int v_item_bits])), (q_item_numbers, .inl (ca 0, 3, .inl v_item_numbers)), (q_tried, .inr (0, [.ref q_tried_words, .ref q_tried_heard, .ref q_tried_canSay, .ref q_tried_instead, .ref q_tried_traders, .ref q_tried_takes, .ref q_tried_needs, .int v_tried_speaks, .int v_tried_alikeFrom])), (q_tried_words, .inl (ca 0, 16, .inl v_tried_words)), (q_tried_heard, .inl (ca 0, 24, .inl v_tried_heard)), (q_tried_canSay, .inl (ca 0, 2, .inl v_tried_canSay)), (q_tried_instead, .inl (ca 0, 16, .inl v_tried_instead)), (q_tried_traders, .inl (ca 0, 2, .inl v_tried_traders)), (q_tried_takes, .inl (ca 0, 2, .inl v_tried_takes)), (q_tried_needs, .inr (4, [.ref q_tried_needs_joinedMeaning, .ref q_tried_needs_joinedPair, .int v_tried_needs_joinedTold, .int v_tried_needs_needsTold, .int v_tried_needs_needed])), (q_tried_needs_joinedMeaning, .inl (ca 0, 8, .inl v_tried_needs_joinedMeaning)), (q_tried_needs_joinedPair, .inl (ca 0, 8, .inl v_tried_needs_joinedPair))] sz) := by
  refine Met.ofW (cc := cX9_tryText) (maxL := 3) (ret := (some .int)) (by decide +kernel) rfl ?_
  intro p e s m args below meth c s₁ B hml hv
  obtain ⟨rfl, hsz, hP, hK, hD0⟩ := hv
  have hx := B.exec
  have hb := B.bytes
  have hr := B.returns
  have hts := atoms_spec (ws := wsX9_tryText) B.pre
  have hown : s.vm.findClass RX9 = some m.cls := findClass_of_methodNamed B.named
  have hlocks := B.notSynchronized
  clear B
  subst hsz
  have hD := hD0.self (sz := s.heap.size)
  generalize hAe : va_A [(q_this, .inr (7, [.ref q_text, .ref q_item, .ref q_stands, .ref q_crowd, .ref q_measure, .ref q_laid, .ref q_tried])), (q_text, .inr (6, [.ref q_text_bytes, .int v_text_length])), (q_text_bytes, .inl (ca 2, 500, .inl v_text_bytes)), (q_item, .inr (2, [.ref q_text, .ref q_item_numbers, .int v_item_place, .int v_item_letter, .int v_item_word, .int v_item_bits])), (q_item_numbers, .inl (ca 0, 3, .inl v_item_numbers)), (q_tried, .inr (0, [.ref q_tried_words, .ref q_tried_heard, .ref q_tried_canSay, .ref q_tried_instead, .ref q_tried_traders, .ref q_tried_takes, .ref q_tried_needs, .int v_tried_speaks, .int v_tried_alikeFrom])), (q_tried_words, .inl (ca 0, 16, .inl v_tried_words)), (q_tried_heard, .inl (ca 0, 24, .inl v_tried_heard)), (q_tried_canSay, .inl (ca 0, 2, .inl v_tried_canSay)), (q_tried_instead, .inl (ca 0, 16, .inl v_tried_instead)), (q_tried_traders, .inl (ca 0, 2, .inl v_tried_traders)), (q_tried_takes, .inl (ca 0, 2, .inl v_tried_takes)), (q_tried_needs, .inr (4, [.ref q_tried_needs_joinedMeaning, .ref q_tried_needs_joinedPair, .int v_tried_needs_joinedTold, .int v_tried_needs_needsTold, .int v_tried_needs_needed])), (q_tried_needs_joinedMeaning, .inl (ca 0, 8, .inl v_tried_needs_joinedMeaning)), (q_tried_needs_joinedPair, .inl (ca 0, 8, .inl v_tried_needs_joinedPair))] s.heap.size = A at hD ⊢
  have hA : ∀ q : Nat, s.heap.size ≤ q → A q := fun q h => by rw [← hAe]; exact Or.inr h
  have hS : va_S A s.heap s.heap [] := va_S.rf
  have hl := lv_entry ([.ref q_this]) (n := 3) (Nat.le_of_ble_eq_true rfl)
  rw [lg_entry_eq]
  generalize (lg_sl ([.ref q_this]) ++ List.replicate (3 - (lg_sl ([.ref q_this])).length) Slot.unset).toArray = ls at hl ⊢
  have hl : lv_has ls 3 [(0, .ref q_this)] := hl
  generalize ([.ref q_this] : List Value).toArray = args at hts ⊢
  generalize hQe : MQ below (kQi D ca (A) [(q_this, .inr (7, [.ref q_text, .ref q_item, .ref q_stands, .ref q_crowd, .ref q_measure, .ref q_laid, .ref q_tried])), (q_text, .inr (6, [.ref q_text_bytes, .int v_text_length])), (q_text_bytes, .inl (ca 2, 500, .inl v_text_bytes)), (q_item, .inr (2, [.ref q_text, .ref q_item_numbers, .int o_item_place, .int o_item_letter, .int o_item_word, .int o_item_bits])), (q_item_numbers, .inl (ca 0, 3, .inl o_item_numbers)), (q_tried, .inr (0, [.ref q_tried_words, .ref q_tried_heard, .ref q_tried_canSay, .ref q_tried_instead, .ref q_tried_traders, .ref q_tried_takes, .ref q_tried_needs, .int o_tried_speaks, .int o_tried_alikeFrom])), (q_tried_words, .inl (ca 0, 16, .inl o_tried_words)), (q_tried_heard, .inl (ca 0, 24, .inl o_tried_heard)), (q_tried_canSay, .inl (ca 0, 2, .inl o_tried_canSay)), (q_tried_instead, .inl (ca 0, 16, .inl o_tried_instead)), (q_tried_traders, .inl (ca 0, 2, .inl o_tried_traders)), (q_tried_takes, .inl (ca 0, 2, .inl o_tried_takes)), (q_tried_needs, .inr (4, [.ref q_tried_needs_joinedMeaning, .ref q_tried_needs_joinedPair, .int o_tried_needs_joinedTold, .int o_tried_needs_needsTold, .int o_tried_needs_needed])), (q_tried_needs_joinedMeaning, .inl (ca 0, 8, .inl o_tried_needs_joinedMeaning)), (q_tried_needs_joinedPair, .inl (ca 0, 8, .inl o_tried_needs_joinedPair))] r) args s 0 0 A = Q
  have i_X9 : ∀ w ∈ u_ws RX9 TX9 7, w ∈ wsX9_tryText := by decide +kernel
  have k_53 := hts (.fieldLink RX9 53 "TradeWords" "tried" "LTradeWords$Beach;") (by decide +kernel)
  have k_10 := hts (.fieldLink RX9 10 "TradeWords" "text" "LTradeWords$Text;") (by decide +kernel)
  have k_21 := hts (.fieldLink RX9 21 "TradeWords" "item" "LTradeWords$Item;") (by decide +kernel)
  rw [D_X9_tryText] at h
  refine lv_aload_n hx hb dX9_tryText_0 rfl (lv_at hl 0 rfl) ?_
  refine va_get (D := D) (ci := 7) (v := .ref q_tried) (C := RX9) (T := TX9) (N := 7) hx hb hts i_X9 hown hK hP 0 rfl rfl 6 (by decide) k_53 (fun _ h9 => h9) rfl dX9_tryText_1 ?_
  obtain ⟨y_tried_speaks_1, y_tried_alikeFrom_2, y_tried_words_3, y_tried_heard_4, y_tried_canSay_5, y_tried_instead_6, y_tried_traders_7, y_tried_takes_8, y_tried_needs_joinedTold_9, y_tried_needs_needsTold_10, y_tried_needs_needed_11, hg_12, h⟩ := bd11_el h
  refine kx_Vv (As := []) (rest := []) (wr := [(q_this, .inr (7, [.ref q_text, .ref q_item, .ref q_stands, .ref q_crowd, .ref q_measure, .ref q_laid, .ref q_tried])), (q_text, .inr (6, [.ref q_text_bytes, .int v_text_length])), (q_text_bytes, .inl (ca 2, 500, .inl v_text_bytes)), (q_item, .inr (2, [.ref q_text, .ref q_item_numbers, .int v_item_place, .int v_item_letter, .int v_item_word, .int v_item_bits])), (q_item_numbers, .inl (ca 0, 3, .inl v_item_numbers)), (q_tried_needs_joinedMeaning, .inl (ca 0, 8, .inl v_tried_needs_joinedMeaning)), (q_tried_needs_joinedPair, .inl (ca 0, 8, .inl v_tried_needs_joinedPair))]) (w1 := [(q_tried, .inr (0, [.ref q_tried_words, .ref q_tried_heard, .ref q_tried_canSay, .ref q_tried_instead, .ref q_tried_traders, .ref q_tried_takes, .ref q_tried_needs, .int y_tried_speaks_1, .int y_tried_alikeFrom_2])), (q_tried_words, .inl (ca 0, 16, .inl y_tried_words_3)), (q_tried_heard, .inl (ca 0, 24, .inl y_tried_heard_4)), (q_tried_canSay, .inl (ca 0, 2, .inl y_tried_canSay_5)), (q_tried_instead, .inl (ca 0, 16, .inl y_tried_instead_6)), (q_tried_traders, .inl (ca 0, 2, .inl y_tried_traders_7)), (q_tried_takes, .inl (ca 0, 2, .inl y_tried_takes_8)), (q_tried_needs, .inr (4, [.ref q_tried_needs_joinedMeaning, .ref q_tried_needs_joinedPair, .int y_tried_needs_joinedTold_9, .int y_tried_needs_needsTold_10, .int y_tried_needs_needed_11]))]) (wn := [(q_this, .inr (7, [.ref q_text, .ref q_item, .ref q_stands, .ref q_crowd, .ref q_measure, .ref q_laid, .ref q_tried])), (q_text, .inr (6, [.ref q_text_bytes, .int v_text_length])), (q_text_bytes, .inl (ca 2, 500, .inl v_text_bytes)), (q_item, .inr (2, [.ref q_text, .ref q_item_numbers, .int v_item_place, .int v_item_letter, .int v_item_word, .int v_item_bits])), (q_item_numbers, .inl (ca 0, 3, .inl v_item_numbers)), (q_tried, .inr (0, [.ref q_tried_words, .ref q_tried_heard, .ref q_tried_canSay, .ref q_tried_instead, .ref q_tried_traders, .ref q_tried_takes, .ref q_tried_needs, .int y_tried_speaks_1, .int y_tried_alikeFrom_2])), (q_tried_words, .inl (ca 0, 16, .inl y_tried_words_3)), (q_tried_heard, .inl (ca 0, 24, .inl y_tried_heard_4)), (q_tried_canSay, .inl (ca 0, 2, .inl y_tried_canSay_5)), (q_tried_instead, .inl (ca 0, 16, .inl y_tried_instead_6)), (q_tried_traders, .inl (ca 0, 2, .inl y_tried_traders_7)), (q_tried_takes, .inl (ca 0, 2, .inl y_tried_takes_8)), (q_tried_needs, .inr (4, [.ref q_tried_needs_joinedMeaning, .ref q_tried_needs_joinedPair, .int y_tried_needs_joinedTold_9, .int y_tried_needs_needsTold_10, .int y_tried_needs_needed_11])), (q_tried_needs_joinedMeaning, .inl (ca 0, 8, .inl v_tried_needs_joinedMeaning)), (q_tried_needs_joinedPair, .inl (ca 0, 8, .inl v_tried_needs_joinedPair))]) ⟨hx, hb, hml, hown, hts⟩ (c_X0_clear l D ca F s.heap.size q_tried q_tried_words q_tried_heard q_tried_canSay q_tried_instead q_tried_traders q_tried_takes q_tried_needs q_tried_needs_joinedMeaning q_tried_needs_joinedPair v_tried_speaks v_tried_alikeFrom v_tried_words v_tried_heard v_tried_canSay v_tried_instead v_tried_traders v_tried_takes v_tried_needs_joinedTold v_tried_needs_needsTold v_tried_needs_needed y_tried_speaks_1 y_tried_alikeFrom_2 y_tried_words_3 y_tried_heard_4 y_tried_canSay_5 y_tried_instead_6 y_tried_traders_7 y_tried_takes_8 y_tried_needs_joinedTold_9 y_tried_needs_needsTold_10 y_tried_needs_needed_11 hg_12) (cwV 0 hts gX9_tryText_X0_clear rfl rfl rfl (by decide +kernel) ⟨(Nat.le_of_ble_eq_true rfl), (Nat.le_of_ble_eq_true rfl)⟩) hK hP hD hS hA (ci := 0) (q0 := 0) rfl rfl [5, 6, 7, 8, 9, 10, 11, 12] [0, 1, 2, 3, 4, 13, 14] [0, 1, 2, 3, 4, 7, 8, 9, 10, 11, 12, 13, 14, 5, 6] rfl rfl rfl rfl (by decide) rfl rfl rfl hl.1 rfl (Nat.le_of_ble_eq_true rfl) dX9_tryText_4 ⟨Nat.zero_le _, Nat.zero_le _⟩ (fun H locs hP hD hS => ?_)
  refine lv_iconst (v := (nI 0)) hx hb dX9_tryText_7 (by decide) ?_
  refine lv_istore_n (lv' := [(1, .int (nI 0)), (0, .ref q_this)]) hx hb dX9_tryText_8 rfl hl (by decide) rfl (fun ls hl => ?_)
  refine lv_iconst (v := (nI 0)) hx hb dX9_tryText_9 (by decide) ?_
  refine lv_istore_n (lv' := [(2, .int (nI 0)), (1, .int (nI 0)), (0, .ref q_this)]) hx hb dX9_tryText_10 rfl hl (by decide) rfl (fun ls hl => ?_)
  have hlp : ∀ (n : Nat) (x1_13 : Int32) (x2_14 : Int32) (y_item_place_15 : Int32) (y_item_letter_16 : Int32) (y_item_word_17 : Int32) (y_item_bits_18 : Int32) (y_item_numbers_19 : Nat → Int32) (y_tried_speaks_20 : Int32) (y_tried_alikeFrom_21 : Int32) (y_tried_words_22 : Nat → Int32) (y_tried_heard_23 : Nat → Int32) (y_tried_canSay_24 : Nat → Int32) (y_tried_instead_25 : Nat → Int32) (y_tried_traders_26 : Nat → Int32) (y_tried_takes_27 : Nat → Int32) (y_tried_needs_joinedTold_28 : Int32) (y_tried_needs_needsTold_29 : Int32) (y_tried_needs_needed_30 : Int32) (y_tried_needs_joinedMeaning_31 : Nat → Int32) (y_tried_needs_joinedPair_32 : Nat → Int32) (H : Heap) (locs : List Loc) (ls : Array Slot), lpg (T := Int32 → Int32 → Int32 → Int32 → Int32 → Int32 → (Nat → Int32) → Int32 → Int32 → (Nat → Int32) → (Nat → Int32) → (Nat → Int32) → (Nat → Int32) → (Nat → Int32) → (Nat → Int32) → Int32 → Int32 → Int32 → (Nat → Int32) → (Nat → Int32) → Option (Int32 × Int32 × Int32 × Int32 × Int32 × (Nat → Int32) × Int32 × Int32 × (Nat → Int32) × (Nat → Int32) × (Nat → Int32) × (Nat → Int32) × (Nat → Int32) × (Nat → Int32) × Int32 × Int32 × Int32 × (Nat → Int32) × (Nat → Int32))) (fun _ _ _ _ _ _ _ _ _ _ _ _ _ _ _ _ _ _ _ _ => none) (b_X9_tryText_11 v_text_length v_text_bytes F) n x1_13 x2_14 y_item_place_15 y_item_letter_16 y_item_word_17 y_item_bits_18 y_item_numbers_19 y_tried_speaks_20 y_tried_alikeFrom_21 y_tried_words_22 y_tried_heard_23 y_tried_canSay_24 y_tried_instead_25 y_tried_traders_26 y_tried_takes_27 y_tried_needs_joinedTold_28 y_tried_needs_needsTold_29 y_tried_needs_needed_30 y_tried_needs_joinedMeaning_31 y_tried_needs_joinedPair_32 = some (r, o_item_place, o_item_letter, o_item_word, o_item_bits, o_item_numbers, o_tried_speaks, o_tried_alikeFrom, o_tried_words, o_tried_heard, o_tried_canSay, o_tried_instead, o_tried_traders, o_tried_takes, o_tried_needs_joinedTold, o_tried_needs_needsTold, o_tried_needs_needed, o_tried_needs_joinedMeaning, o_tried_needs_joinedPair) → va_P D vwCl [(q_this, .inr (7, [.ref q_text, .ref q_item, .ref q_stands, .ref q_crowd, .ref q_measure, .ref q_laid, .ref q_tried])), (q_text, .inr (6, [.ref q_text_bytes, .int v_text_length])), (q_text_bytes, .inl (ca 2, 500, .inl v_text_bytes)), (q_item, .inr (2, [.ref q_text, .ref q_item_numbers, .int y_item_place_15, .int y_item_letter_16, .int y_item_word_17, .int y_item_bits_18])), (q_item_numbers, .inl (ca 0, 3, .inl y_item_numbers_19)), (q_tried, .inr (0, [.ref q_tried_words, .ref q_tried_heard, .ref q_tried_canSay, .ref q_tried_instead, .ref q_tried_traders, .ref q_tried_takes, .ref q_tried_needs, .int y_tried_speaks_20, .int y_tried_alikeFrom_21])), (q_tried_words, .inl (ca 0, 16, .inl y_tried_words_22)), (q_tried_heard, .inl (ca 0, 24, .inl y_tried_heard_23)), (q_tried_canSay, .inl (ca 0, 2, .inl y_tried_canSay_24)), (q_tried_instead, .inl (ca 0, 16, .inl y_tried_instead_25)), (q_tried_traders, .inl (ca 0, 2, .inl y_tried_traders_26)), (q_tried_takes, .inl (ca 0, 2, .inl y_tried_takes_27)), (q_tried_needs, .inr (4, [.ref q_tried_needs_joinedMeaning, .ref q_tried_needs_joinedPair, .int y_tried_needs_joinedTold_28, .int y_tried_needs_needsTold_29, .int y_tried_needs_needed_30])), (q_tried_needs_joinedMeaning, .inl (ca 0, 8, .inl y_tried_needs_joinedMeaning_31)), (q_tried_needs_joinedPair, .inl (ca 0, 8, .inl y_tried_needs_joinedPair_32))] H → va_D A [(q_this, .inr (7, [.ref q_text, .ref q_item, .ref q_stands, .ref q_crowd, .ref q_measure, .ref q_laid, .ref q_tried])), (q_text, .inr (6, [.ref q_text_bytes, .int v_text_length])), (q_text_bytes, .inl (ca 2, 500, .inl v_text_bytes)), (q_item, .inr (2, [.ref q_text, .ref q_item_numbers, .int y_item_place_15, .int y_item_letter_16, .int y_item_word_17, .int y_item_bits_18])), (q_item_numbers, .inl (ca 0, 3, .inl y_item_numbers_19)), (q_tried, .inr (0, [.ref q_tried_words, .ref q_tried_heard, .ref q_tried_canSay, .ref q_tried_instead, .ref q_tried_traders, .ref q_tried_takes, .ref q_tried_needs, .int y_tried_speaks_20, .int y_tried_alikeFrom_21])), (q_tried_words, .inl (ca 0, 16, .inl y_tried_words_22)), (q_tried_heard, .inl (ca 0, 24, .inl y_tried_heard_23)), (q_tried_canSay, .inl (ca 0, 2, .inl y_tried_canSay_24)), (q_tried_instead, .inl (ca 0, 16, .inl y_tried_instead_25)), (q_tried_traders, .inl (ca 0, 2, .inl y_tried_traders_26)), (q_tried_takes, .inl (ca 0, 2, .inl y_tried_takes_27)), (q_tried_needs, .inr (4, [.ref q_tried_needs_joinedMeaning, .ref q_tried_needs_joinedPair, .int y_tried_needs_joinedTold_28, .int y_tried_needs_needsTold_29, .int y_tried_needs_needed_30])), (q_tried_needs_joinedMeaning, .inl (ca 0, 8, .inl y_tried_needs_joinedMeaning_31)), (q_tried_needs_joinedPair, .inl (ca 0, 8, .inl y_tried_needs_joinedPair_32))] → va_S A s.heap H locs → lv_has ls 3 [(0, .ref q_this), (1, .int x1_13), (2, .int x2_14)] → W p l e (headSpec wsX9_tryText rm_X9_tryText).room s m args below meth c H locs 0 0 Q (F0 m 11 ls []) := by
    intro n
    induction n with
    | zero => intro x1_13 x2_14 y_item_place_15 y_item_letter_16 y_item_word_17 y_item_bits_18 y_item_numbers_19 y_tried_speaks_20 y_tried_alikeFrom_21 y_tried_words_22 y_tried_heard_23 y_tried_canSay_24 y_tried_instead_25 y_tried_traders_26 y_tried_takes_27 y_tried_needs_joinedTold_28 y_tried_needs_needsTold_29 y_tried_needs_needed_30 y_tried_needs_joinedMeaning_31 y_tried_needs_joinedPair_32 H locs ls h; have h : (none : Option (Int32 × Int32 × Int32 × Int32 × Int32 × (Nat → Int32) × Int32 × Int32 × (Nat → Int32) × (Nat → Int32) × (Nat → Int32) × (Nat → Int32) × (Nat → Int32) × (Nat → Int32) × Int32 × Int32 × Int32 × (Nat → Int32) × (Nat → Int32))) = some _ := h; cases h
    | succ n ih =>
      intro x1_13 x2_14 y_item_place_15 y_item_letter_16 y_item_word_17 y_item_bits_18 y_item_numbers_19 y_tried_speaks_20 y_tried_alikeFrom_21 y_tried_words_22 y_tried_heard_23 y_tried_canSay_24 y_tried_instead_25 y_tried_traders_26 y_tried_takes_27 y_tried_needs_joinedTold_28 y_tried_needs_needsTold_29 y_tried_needs_needed_30 y_tried_needs_joinedMeaning_31 y_tried_needs_joinedPair_32 H locs ls h hP hD hS hl
      rw [lpg_succ, b_X9_tryText_11] at h
      refine lv_iload_n hx hb dX9_tryText_11 rfl (lv_at hl 2 rfl) ?_
      refine lv_sipush (v := (nI 500)) hx hb dX9_tryText_12 (by decide) ?_
      refine lv_icmp_ge (tgt := 70) hx hb dX9_tryText_15 (by decide) (fun c_33 => ?_) (fun c_33 => ?_)
      · replace h := ifp_el c_33 h
        refine lv_bipush (v := (-4 : Int32)) hx hb dX9_tryText_70 (by decide) ?_
        cases h
        rw [← hQe]
        exact W.iret hx hb hr (fun t ht hW => ⟨⟨_, (), rfl, rfl, by rw [ht]; exact hP, va_K.moved hW.alike hK, hD⟩, hS.F ht⟩) hS.2.2 dX9_tryText_72
      · replace h := ifn_el c_33 h
        refine lv_iload_n hx hb dX9_tryText_18 rfl (lv_at hl 1 rfl) ?_
        refine lv_aload_n hx hb dX9_tryText_19 rfl (lv_at hl 0 rfl) ?_
        refine va_get (D := D) (ci := 7) (v := .ref q_text) (C := RX9) (T := TX9) (N := 7) hx hb hts i_X9 hown hK hP 0 rfl rfl 0 (by decide) k_10 (fun _ h9 => h9) rfl dX9_tryText_20 ?_
        obtain ⟨r_34, hg_35, h⟩ := bd1_el h
        refine kx_Vi (As := []) (rest := [.int x1_13]) (wr := [(q_this, .inr (7, [.ref q_text, .ref q_item, .ref q_stands, .ref q_crowd, .ref q_measure, .ref q_laid, .ref q_tried])), (q_text_bytes, .inl (ca 2, 500, .inl v_text_bytes)), (q_item, .inr (2, [.ref q_text, .ref q_item_numbers, .int y_item_place_15, .int y_item_letter_16, .int y_item_word_17, .int y_item_bits_18])), (q_item_numbers, .inl (ca 0, 3, .inl y_item_numbers_19)), (q_tried, .inr (0, [.ref q_tried_words, .ref q_tried_heard, .ref q_tried_canSay, .ref q_tried_instead, .ref q_tried_traders, .ref q_tried_takes, .ref q_tried_needs, .int y_tried_speaks_20, .int y_tried_alikeFrom_21])), (q_tried_words, .inl (ca 0, 16, .inl y_tried_words_22)), (q_tried_heard, .inl (ca 0, 24, .inl y_tried_heard_23)), (q_tried_canSay, .inl (ca 0, 2, .inl y_tried_canSay_24)), (q_tried_instead, .inl (ca 0, 16, .inl y_tried_instead_25)), (q_tried_traders, .inl (ca 0, 2, .inl y_tried_traders_26)), (q_tried_takes, .inl (ca 0, 2, .inl y_tried_takes_27)), (q_tried_needs, .inr (4, [.ref q_tried_needs_joinedMeaning, .ref q_tried_needs_joinedPair, .int y_tried_needs_joinedTold_28, .int y_tried_needs_needsTold_29, .int y_tried_needs_needed_30])), (q_tried_needs_joinedMeaning, .inl (ca 0, 8, .inl y_tried_needs_joinedMeaning_31)), (q_tried_needs_joinedPair, .inl (ca 0, 8, .inl y_tried_needs_joinedPair_32))]) (w1 := [(q_text, .inr (6, [.ref q_text_bytes, .int v_text_length]))]) (wn := [(q_this, .inr (7, [.ref q_text, .ref q_item, .ref q_stands, .ref q_crowd, .ref q_measure, .ref q_laid, .ref q_tried])), (q_text, .inr (6, [.ref q_text_bytes, .int v_text_length])), (q_text_bytes, .inl (ca 2, 500, .inl v_text_bytes)), (q_item, .inr (2, [.ref q_text, .ref q_item_numbers, .int y_item_place_15, .int y_item_letter_16, .int y_item_word_17, .int y_item_bits_18])), (q_item_numbers, .inl (ca 0, 3, .inl y_item_numbers_19)), (q_tried, .inr (0, [.ref q_tried_words, .ref q_tried_heard, .ref q_tried_canSay, .ref q_tried_instead, .ref q_tried_traders, .ref q_tried_takes, .ref q_tried_needs, .int y_tried_speaks_20, .int y_tried_alikeFrom_21])), (q_tried_words, .inl (ca 0, 16, .inl y_tried_words_22)), (q_tried_heard, .inl (ca 0, 24, .inl y_tried_heard_23)), (q_tried_canSay, .inl (ca 0, 2, .inl y_tried_canSay_24)), (q_tried_instead, .inl (ca 0, 16, .inl y_tried_instead_25)), (q_tried_traders, .inl (ca 0, 2, .inl y_tried_traders_26)), (q_tried_takes, .inl (ca 0, 2, .inl y_tried_takes_27)), (q_tried_needs, .inr (4, [.ref q_tried_needs_joinedMeaning, .ref q_tried_needs_joinedPair, .int y_tried_needs_joinedTold_28, .int y_tried_needs_needsTold_29, .int y_tried_needs_needed_30])), (q_tried_needs_joinedMeaning, .inl (ca 0, 8, .inl y_tried_needs_joinedMeaning_31)), (q_tried_needs_joinedPair, .inl (ca 0, 8, .inl y_tried_needs_joinedPair_32))]) ⟨hx, hb, hml, hown, hts⟩ (c_X7_length l D ca H.size q_text q_text_bytes v_text_length r_34 hg_35) (cwV 0 hts gX9_tryText_X7_length rfl rfl rfl (by decide +kernel) ⟨(Nat.le_of_ble_eq_true rfl), (Nat.le_of_ble_eq_true rfl)⟩) hK hP hD hS hA (ci := 6) (q0 := 0) rfl rfl [1] [0, 2, 3, 4, 5, 6, 7, 8, 9, 10, 11, 12, 13, 14] [0, 14, 1, 2, 3, 4, 5, 6, 7, 8, 9, 10, 11, 12, 13] rfl rfl rfl rfl (by decide) rfl rfl rfl hl.1 rfl (Nat.le_of_ble_eq_true rfl) dX9_tryText_23 ⟨Nat.zero_le _, Nat.zero_le _⟩ (fun H locs hP hD hS => ?_)
        refine lv_icmp_ge (tgt := 70) hx hb dX9_tryText_26 (by decide) (fun c_36 => ?_) (fun c_36 => ?_)
        · replace h := ifp_el c_36 h
          refine lv_bipush (v := (-4 : Int32)) hx hb dX9_tryText_70 (by decide) ?_
          cases h
          rw [← hQe]
          exact W.iret hx hb hr (fun t ht hW => ⟨⟨_, (), rfl, rfl, by rw [ht]; exact hP, va_K.moved hW.alike hK, hD⟩, hS.F ht⟩) hS.2.2 dX9_tryText_72
        · replace h := ifn_el c_36 h
          refine lv_aload_n hx hb dX9_tryText_29 rfl (lv_at hl 0 rfl) ?_
          refine va_get (D := D) (ci := 7) (v := .ref q_item) (C := RX9) (T := TX9) (N := 7) hx hb hts i_X9 hown hK hP 0 rfl rfl 1 (by decide) k_21 (fun _ h9 => h9) rfl dX9_tryText_30 ?_
          refine lv_iload_n hx hb dX9_tryText_33 rfl (lv_at hl 1 rfl) ?_
          obtain ⟨r_37, y_item_place_38, y_item_letter_39, y_item_word_40, y_item_bits_41, y_item_numbers_42, hg_43, h⟩ := bd6_el h
          refine kx_Vi (As := [.int x1_13]) (rest := []) (wr := [(q_this, .inr (7, [.ref q_text, .ref q_item, .ref q_stands, .ref q_crowd, .ref q_measure, .ref q_laid, .ref q_tried])), (q_tried, .inr (0, [.ref q_tried_words, .ref q_tried_heard, .ref q_tried_canSay, .ref q_tried_instead, .ref q_tried_traders, .ref q_tried_takes, .ref q_tried_needs, .int y_tried_speaks_20, .int y_tried_alikeFrom_21])), (q_tried_words, .inl (ca 0, 16, .inl y_tried_words_22)), (q_tried_heard, .inl (ca 0, 24, .inl y_tried_heard_23)), (q_tried_canSay, .inl (ca 0, 2, .inl y_tried_canSay_24)), (q_tried_instead, .inl (ca 0, 16, .inl y_tried_instead_25)), (q_tried_traders, .inl (ca 0, 2, .inl y_tried_traders_26)), (q_tried_takes, .inl (ca 0, 2, .inl y_tried_takes_27)), (q_tried_needs, .inr (4, [.ref q_tried_needs_joinedMeaning, .ref q_tried_needs_joinedPair, .int y_tried_needs_joinedTold_28, .int y_tried_needs_needsTold_29, .int y_tried_needs_needed_30])), (q_tried_needs_joinedMeaning, .inl (ca 0, 8, .inl y_tried_needs_joinedMeaning_31)), (q_tried_needs_joinedPair, .inl (ca 0, 8, .inl y_tried_needs_joinedPair_32))]) (w1 := [(q_item, .inr (2, [.ref q_text, .ref q_item_numbers, .int y_item_place_38, .int y_item_letter_39, .int y_item_word_40, .int y_item_bits_41])), (q_text, .inr (6, [.ref q_text_bytes, .int v_text_length])), (q_text_bytes, .inl (ca 2, 500, .inl v_text_bytes)), (q_item_numbers, .inl (ca 0, 3, .inl y_item_numbers_42))]) (wn := [(q_this, .inr (7, [.ref q_text, .ref q_item, .ref q_stands, .ref q_crowd, .ref q_measure, .ref q_laid, .ref q_tried])), (q_text, .inr (6, [.ref q_text_bytes, .int v_text_length])), (q_text_bytes, .inl (ca 2, 500, .inl v_text_bytes)), (q_item, .inr (2, [.ref q_text, .ref q_item_numbers, .int y_item_place_38, .int y_item_letter_39, .int y_item_word_40, .int y_item_bits_41])), (q_item_numbers, .inl (ca 0, 3, .inl y_item_numbers_42)), (q_tried, .inr (0, [.ref q_tried_words, .ref q_tried_heard, .ref q_tried_canSay, .ref q_tried_instead, .ref q_tried_traders, .ref q_tried_takes, .ref q_tried_needs, .int y_tried_speaks_20, .int y_tried_alikeFrom_21])), (q_tried_words, .inl (ca 0, 16, .inl y_tried_words_22)), (q_tried_heard, .inl (ca 0, 24, .inl y_tried_heard_23)), (q_tried_canSay, .inl (ca 0, 2, .inl y_tried_canSay_24)), (q_tried_instead, .inl (ca 0, 16, .inl y_tried_instead_25)), (q_tried_traders, .inl (ca 0, 2, .inl y_tried_traders_26)), (q_tried_takes, .inl (ca 0, 2, .inl y_tried_takes_27)), (q_tried_needs, .inr (4, [.ref q_tried_needs_joinedMeaning, .ref q_tried_needs_joinedPair, .int y_tried_needs_joinedTold_28, .int y_tried_needs_needsTold_29, .int y_tried_needs_needed_30])), (q_tried_needs_joinedMeaning, .inl (ca 0, 8, .inl y_tried_needs_joinedMeaning_31)), (q_tried_needs_joinedPair, .inl (ca 0, 8, .inl y_tried_needs_joinedPair_32))]) ⟨hx, hb, hml, hown, hts⟩ (c_X2_readAt l D ca F H.size q_item q_text q_text_bytes q_item_numbers x1_13 y_item_place_15 y_item_letter_16 y_item_word_17 y_item_bits_18 v_text_length v_text_bytes y_item_numbers_19 r_37 y_item_place_38 y_item_letter_39 y_item_word_40 y_item_bits_41 y_item_numbers_42 hg_43) (cwV 1 hts gX9_tryText_X2_readAt rfl rfl rfl (by decide +kernel) ⟨(Nat.le_of_ble_eq_true rfl), (Nat.le_of_ble_eq_true rfl)⟩) hK hP hD hS hA (ci := 2) (q0 := 0) rfl rfl [3, 1, 2, 4] [0, 5, 6, 7, 8, 9, 10, 11, 12, 13, 14] [0, 12, 13, 11, 14, 1, 2, 3, 4, 5, 6, 7, 8, 9, 10] rfl rfl rfl rfl (by decide) rfl rfl rfl hl.1 rfl (Nat.le_of_ble_eq_true rfl) dX9_tryText_34 ⟨Nat.zero_le _, Nat.zero_le _⟩ (fun H locs hP hD hS => ?_)
          refine lv_if_eq (tgt := 54) hx hb dX9_tryText_37 (by decide) (fun c_44 => ?_) (fun c_44 => ?_)
          · replace h := ifp_el c_44 h
            refine lv_iload_n hx hb dX9_tryText_54 rfl (lv_at hl 1 rfl) ?_
            cases h
            rw [← hQe]
            exact W.iret hx hb hr (fun t ht hW => ⟨⟨_, (), rfl, rfl, by rw [ht]; exact hP, va_K.moved hW.alike hK, hD⟩, hS.F ht⟩) hS.2.2 dX9_tryText_55
          · replace h := ifn_el c_44 h
            refine lv_aload_n hx hb dX9_tryText_40 rfl (lv_at hl 0 rfl) ?_
            refine va_get (D := D) (ci := 7) (v := .ref q_tried) (C := RX9) (T := TX9) (N := 7) hx hb hts i_X9 hown hK hP 0 rfl rfl 6 (by decide) k_53 (fun _ h9 => h9) rfl dX9_tryText_41 ?_
            refine lv_aload_n hx hb dX9_tryText_44 rfl (lv_at hl 0 rfl) ?_
            refine va_get (D := D) (ci := 7) (v := .ref q_item) (C := RX9) (T := TX9) (N := 7) hx hb hts i_X9 hown hK hP 0 rfl rfl 1 (by decide) k_21 (fun _ h9 => h9) rfl dX9_tryText_45 ?_
            obtain ⟨r_45, y_tried_speaks_46, y_tried_alikeFrom_47, y_tried_words_48, y_tried_heard_49, y_tried_canSay_50, y_tried_instead_51, y_tried_traders_52, y_tried_takes_53, y_tried_needs_joinedTold_54, y_tried_needs_needsTold_55, y_tried_needs_needed_56, y_tried_needs_joinedMeaning_57, y_tried_needs_joinedPair_58, hg_59, h⟩ := bd14_el h
            refine kx_Vi (As := [.ref q_item]) (rest := []) (wr := [(q_this, .inr (7, [.ref q_text, .ref q_item, .ref q_stands, .ref q_crowd, .ref q_measure, .ref q_laid, .ref q_tried])), (q_text, .inr (6, [.ref q_text_bytes, .int v_text_length])), (q_text_bytes, .inl (ca 2, 500, .inl v_text_bytes))]) (w1 := [(q_tried, .inr (0, [.ref q_tried_words, .ref q_tried_heard, .ref q_tried_canSay, .ref q_tried_instead, .ref q_tried_traders, .ref q_tried_takes, .ref q_tried_needs, .int y_tried_speaks_46, .int y_tried_alikeFrom_47])), (q_tried_words, .inl (ca 0, 16, .inl y_tried_words_48)), (q_tried_heard, .inl (ca 0, 24, .inl y_tried_heard_49)), (q_tried_canSay, .inl (ca 0, 2, .inl y_tried_canSay_50)), (q_tried_instead, .inl (ca 0, 16, .inl y_tried_instead_51)), (q_tried_traders, .inl (ca 0, 2, .inl y_tried_traders_52)), (q_tried_takes, .inl (ca 0, 2, .inl y_tried_takes_53)), (q_tried_needs, .inr (4, [.ref q_tried_needs_joinedMeaning, .ref q_tried_needs_joinedPair, .int y_tried_needs_joinedTold_54, .int y_tried_needs_needsTold_55, .int y_tried_needs_needed_56])), (q_tried_needs_joinedMeaning, .inl (ca 0, 8, .inl y_tried_needs_joinedMeaning_57)), (q_tried_needs_joinedPair, .inl (ca 0, 8, .inl y_tried_needs_joinedPair_58)), (q_item, .inr (2, [.ref q_text, .ref q_item_numbers, .int y_item_place_38, .int y_item_letter_39, .int y_item_word_40, .int y_item_bits_41])), (q_item_numbers, .inl (ca 0, 3, .inl y_item_numbers_42))]) (wn := [(q_this, .inr (7, [.ref q_text, .ref q_item, .ref q_stands, .ref q_crowd, .ref q_measure, .ref q_laid, .ref q_tried])), (q_text, .inr (6, [.ref q_text_bytes, .int v_text_length])), (q_text_bytes, .inl (ca 2, 500, .inl v_text_bytes)), (q_item, .inr (2, [.ref q_text, .ref q_item_numbers, .int y_item_place_38, .int y_item_letter_39, .int y_item_word_40, .int y_item_bits_41])), (q_item_numbers, .inl (ca 0, 3, .inl y_item_numbers_42)), (q_tried, .inr (0, [.ref q_tried_words, .ref q_tried_heard, .ref q_tried_canSay, .ref q_tried_instead, .ref q_tried_traders, .ref q_tried_takes, .ref q_tried_needs, .int y_tried_speaks_46, .int y_tried_alikeFrom_47])), (q_tried_words, .inl (ca 0, 16, .inl y_tried_words_48)), (q_tried_heard, .inl (ca 0, 24, .inl y_tried_heard_49)), (q_tried_canSay, .inl (ca 0, 2, .inl y_tried_canSay_50)), (q_tried_instead, .inl (ca 0, 16, .inl y_tried_instead_51)), (q_tried_traders, .inl (ca 0, 2, .inl y_tried_traders_52)), (q_tried_takes, .inl (ca 0, 2, .inl y_tried_takes_53)), (q_tried_needs, .inr (4, [.ref q_tried_needs_joinedMeaning, .ref q_tried_needs_joinedPair, .int y_tried_needs_joinedTold_54, .int y_tried_needs_needsTold_55, .int y_tried_needs_needed_56])), (q_tried_needs_joinedMeaning, .inl (ca 0, 8, .inl y_tried_needs_joinedMeaning_57)), (q_tried_needs_joinedPair, .inl (ca 0, 8, .inl y_tried_needs_joinedPair_58))]) ⟨hx, hb, hml, hown, hts⟩ (c_X0_accepts l D ca H.size q_tried q_tried_words q_tried_heard q_tried_canSay q_tried_instead q_tried_traders q_tried_takes q_tried_needs q_tried_needs_joinedMeaning q_tried_needs_joinedPair q_item q_text q_item_numbers y_tried_speaks_20 y_tried_alikeFrom_21 y_tried_words_22 y_tried_heard_23 y_tried_canSay_24 y_tried_instead_25 y_tried_traders_26 y_tried_takes_27 y_tried_needs_joinedTold_28 y_tried_needs_needsTold_29 y_tried_needs_needed_30 y_tried_needs_joinedMeaning_31 y_tried_needs_joinedPair_32 y_item_place_38 y_item_letter_39 y_item_word_40 y_item_bits_41 y_item_numbers_42 r_45 y_tried_speaks_46 y_tried_alikeFrom_47 y_tried_words_48 y_tried_heard_49 y_tried_canSay_50 y_tried_instead_51 y_tried_traders_52 y_tried_takes_53 y_tried_needs_joinedTold_54 y_tried_needs_needsTold_55 y_tried_needs_needed_56 y_tried_needs_joinedMeaning_57 y_tried_needs_joinedPair_58 hg_59) (cwV 1 hts gX9_tryText_X0_accepts rfl rfl rfl (by decide +kernel) ⟨(Nat.le_of_ble_eq_true rfl), (Nat.le_of_ble_eq_true rfl)⟩) hK hP hD hS hA (ci := 0) (q0 := 0) rfl rfl [5, 6, 7, 8, 9, 10, 11, 12, 13, 14, 3, 4] [0, 1, 2] [0, 1, 2, 13, 14, 3, 4, 5, 6, 7, 8, 9, 10, 11, 12] rfl rfl rfl rfl (by decide) rfl rfl rfl hl.1 rfl (Nat.le_of_ble_eq_true rfl) dX9_tryText_48 ⟨Nat.zero_le _, Nat.zero_le _⟩ (fun H locs hP hD hS => ?_)
            refine lv_if_ne (tgt := 56) hx hb dX9_tryText_51 (by decide) (fun c_60 => ?_) (fun c_60 => ?_)
            · replace h := ifn_el c_60 h
              refine lv_aload_n hx hb dX9_tryText_56 rfl (lv_at hl 0 rfl) ?_
              refine va_get (D := D) (ci := 7) (v := .ref q_item) (C := RX9) (T := TX9) (N := 7) hx hb hts i_X9 hown hK hP 0 rfl rfl 1 (by decide) k_21 (fun _ h9 => h9) rfl dX9_tryText_57 ?_
              obtain ⟨r_61, hg_62, h⟩ := bd1_el h
              refine kx_Vi (As := []) (rest := []) (wr := [(q_this, .inr (7, [.ref q_text, .ref q_item, .ref q_stands, .ref q_crowd, .ref q_measure, .ref q_laid, .ref q_tried])), (q_text, .inr (6, [.ref q_text_bytes, .int v_text_length])), (q_text_bytes, .inl (ca 2, 500, .inl v_text_bytes)), (q_item_numbers, .inl (ca 0, 3, .inl y_item_numbers_42)), (q_tried, .inr (0, [.ref q_tried_words, .ref q_tried_heard, .ref q_tried_canSay, .ref q_tried_instead, .ref q_tried_traders, .ref q_tried_takes, .ref q_tried_needs, .int y_tried_speaks_46, .int y_tried_alikeFrom_47])), (q_tried_words, .inl (ca 0, 16, .inl y_tried_words_48)), (q_tried_heard, .inl (ca 0, 24, .inl y_tried_heard_49)), (q_tried_canSay, .inl (ca 0, 2, .inl y_tried_canSay_50)), (q_tried_instead, .inl (ca 0, 16, .inl y_tried_instead_51)), (q_tried_traders, .inl (ca 0, 2, .inl y_tried_traders_52)), (q_tried_takes, .inl (ca 0, 2, .inl y_tried_takes_53)), (q_tried_needs, .inr (4, [.ref q_tried_needs_joinedMeaning, .ref q_tried_needs_joinedPair, .int y_tried_needs_joinedTold_54, .int y_tried_needs_needsTold_55, .int y_tried_needs_needed_56])), (q_tried_needs_joinedMeaning, .inl (ca 0, 8, .inl y_tried_needs_joinedMeaning_57)), (q_tried_needs_joinedPair, .inl (ca 0, 8, .inl y_tried_needs_joinedPair_58))]) (w1 := [(q_item, .inr (2, [.ref q_text, .ref q_item_numbers, .int y_item_place_38, .int y_item_letter_39, .int y_item_word_40, .int y_item_bits_41]))]) (wn := [(q_this, .inr (7, [.ref q_text, .ref q_item, .ref q_stands, .ref q_crowd, .ref q_measure, .ref q_laid, .ref q_tried])), (q_text, .inr (6, [.ref q_text_bytes, .int v_text_length])), (q_text_bytes, .inl (ca 2, 500, .inl v_text_bytes)), (q_item, .inr (2, [.ref q_text, .ref q_item_numbers, .int y_item_place_38, .int y_item_letter_39, .int y_item_word_40, .int y_item_bits_41])), (q_item_numbers, .inl (ca 0, 3, .inl y_item_numbers_42)), (q_tried, .inr (0, [.ref q_tried_words, .ref q_tried_heard, .ref q_tried_canSay, .ref q_tried_instead, .ref q_tried_traders, .ref q_tried_takes, .ref q_tried_needs, .int y_tried_speaks_46, .int y_tried_alikeFrom_47])), (q_tried_words, .inl (ca 0, 16, .inl y_tried_words_48)), (q_tried_heard, .inl (ca 0, 24, .inl y_tried_heard_49)), (q_tried_canSay, .inl (ca 0, 2, .inl y_tried_canSay_50)), (q_tried_instead, .inl (ca 0, 16, .inl y_tried_instead_51)), (q_tried_traders, .inl (ca 0, 2, .inl y_tried_traders_52)), (q_tried_takes, .inl (ca 0, 2, .inl y_tried_takes_53)), (q_tried_needs, .inr (4, [.ref q_tried_needs_joinedMeaning, .ref q_tried_needs_joinedPair, .int y_tried_needs_joinedTold_54, .int y_tried_needs_needsTold_55, .int y_tried_needs_needed_56])), (q_tried_needs_joinedMeaning, .inl (ca 0, 8, .inl y_tried_needs_joinedMeaning_57)), (q_tried_needs_joinedPair, .inl (ca 0, 8, .inl y_tried_needs_joinedPair_58))]) ⟨hx, hb, hml, hown, hts⟩ (c_X2_behind l D ca H.size q_item q_text q_item_numbers y_item_place_38 y_item_letter_39 y_item_word_40 y_item_bits_41 r_61 hg_62) (cwV 0 hts gX9_tryText_X2_behind rfl rfl rfl (by decide +kernel) ⟨(Nat.le_of_ble_eq_true rfl), (Nat.le_of_ble_eq_true rfl)⟩) hK hP hD hS hA (ci := 2) (q0 := 0) rfl rfl [3] [0, 1, 2, 4, 5, 6, 7, 8, 9, 10, 11, 12, 13, 14] [0, 1, 2, 14, 3, 4, 5, 6, 7, 8, 9, 10, 11, 12, 13] rfl rfl rfl rfl (by decide) rfl rfl rfl hl.1 rfl (Nat.le_of_ble_eq_true rfl) dX9_tryText_60 ⟨Nat.zero_le _, Nat.zero_le _⟩ (fun H locs hP hD hS => ?_)
              refine lv_istore_n (lv' := [(1, .int r_61), (0, .ref q_this), (2, .int x2_14)]) hx hb dX9_tryText_63 rfl hl (by decide) rfl (fun ls hl => ?_)
              obtain ⟨x2_63, e_64, h⟩ := nm_el h
              refine lv_iinc (v := x2_63) (lv' := [(2, .int x2_63), (1, .int r_61), (0, .ref q_this)]) hx hb dX9_tryText_64 hl (k := 2) rfl (by rw [← e_64]; rfl) (by decide) rfl (fun ls hl => ?_)
              refine lv_goto (tgt := 11) hx hb dX9_tryText_67 (by decide) ?_
              exact ih _ _ _ _ _ _ _ _ _ _ _ _ _ _ _ _ _ _ _ _ _ _ _ h hP hD hS (lv_sub hl [2, 1, 0] rfl)
            · replace h := ifp_el c_60 h
              refine lv_iload_n hx hb dX9_tryText_54 rfl (lv_at hl 1 rfl) ?_
              cases h
              rw [← hQe]
              exact W.iret hx hb hr (fun t ht hW => ⟨⟨_, (), rfl, rfl, by rw [ht]; exact hP, va_K.moved hW.alike hK, hD⟩, hS.F ht⟩) hS.2.2 dX9_tryText_55
  exact hlp F (nI 0) (nI 0) v_item_place v_item_letter v_item_word v_item_bits v_item_numbers y_tried_speaks_1 y_tried_alikeFrom_2 y_tried_words_3 y_tried_heard_4 y_tried_canSay_5 y_tried_instead_6 y_tried_traders_7 y_tried_takes_8 y_tried_needs_joinedTold_9 y_tried_needs_needsTold_10 y_tried_needs_needed_11 v_tried_needs_joinedMeaning v_tried_needs_joinedPair H locs ls h hP hD hS (lv_sub hl [2, 1, 0] rfl)
