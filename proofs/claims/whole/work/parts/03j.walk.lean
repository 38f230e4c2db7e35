def D_X9_million (F : Nat) (p1 : Int32) (p2 : Int32) (p3 : Int32) (p4 : Int32) (v_l : Nat → Int32) (v_stands : Nat → Int32) (v_one : Nat → Int32) (v_two : Nat → Int32) (v_ways : Nat → Int32) (v_now : Nat → Int64) (v_then : Nat → Int64) : Option (Int32 × (Nat → Int32) × (Nat → Int32) × (Nat → Int32) × (Nat → Int64) × (Nat → Int64)) := bd1 (D_X9_isMeaning p1) (fun r_1 => (if r_1 = 0 then some ((-1 : Int32), v_one, v_two, v_ways, v_now, v_then) else bd1 (D_X9_in p2.toInt64 (lN 0) (lN 200)) (fun r_4 => (if r_4 = 0 then some ((-1 : Int32), v_one, v_two, v_ways, v_now, v_then) else bd1 (D_X9_isStand p3 p4 v_l) (fun r_7 => (if r_7 = 0 then some ((-1 : Int32), v_one, v_two, v_ways, v_now, v_then) else bd1 (D_X9_isTold p1 v_l) (fun r_10 => (if r_10 = 0 then some ((-2 : Int32), v_one, v_two, v_ways, v_now, v_then) else bd5 (D_X9_goAsTold F p1 p2 v_l v_stands v_one v_two v_ways v_now v_then) (fun y_one_13 y_two_14 y_ways_15 y_now_16 y_then_17 => ck 81 (((nI 9) * p3) + p4) (some ((y_now_16 (((nI 9) * p3) + p4).toNatClampNeg).toInt32, y_one_13, y_two_14, y_ways_15, y_now_16, y_then_17)))))))))))
abbrev rm_X9_million : Room := { frames := 7, cells := 0, slots := 0, locals := 163 }
set_option maxHeartbeats 4000000 in
set_option maxRecDepth 100000 in
theorem c_X9_million (l : Launch) (D : va_G) (ca : Nat → ClassId) (F : Nat) (sz : Nat) (q_this q_text q_read q_l q_stands q_kept q_one q_two q_ways q_now q_then : Nat) (p1 : Int32) (p2 : Int32) (p3 : Int32) (p4 : Int32) (v_size : Int32) (v_at : Int32) (v_keptMany : Int32) (v_l : Nat → Int32) (v_stands : Nat → Int32) (v_one : Nat → Int32) (v_two : Nat → Int32) (v_ways : Nat → Int32) (v_now : Nat → Int64) (v_then : Nat → Int64) (r : Int32) (o_one : Nat → Int32) (o_two : Nat → Int32) (o_ways : Nat → Int32) (o_now : Nat → Int64) (o_then : Nat → Int64) (h : D_X9_million F p1 p2 p3 p4 v_l v_stands v_one v_two v_ways v_now v_then = some (r, o_one, o_two, o_ways, o_now, o_then)) : Met l yX9_million wsX9_million rm_X9_million (va_Pc [.ref q_this, .int p1, .int p2, .int p3, .int p4] (kPre D ca [(q_this, .inr (8, [.ref q_text, .int v_size, .int v_at, .ref q_read, .ref q_l, .ref q_stands, .ref q_kept, .int v_keptMany, .ref q_one, .ref q_two, .ref q_ways, .ref q_now, .ref q_then])), (q_l, .inl (ca 0, 336, .inl v_l)), (q_stands, .inl (ca 0, 16, .inl v_stands)), (q_one, .inl (ca 0, 7, .inl v_one)), (q_two, .inl (ca 0, 7, .inl v_two)), (q_ways, .inl (ca 0, 49, .inl v_ways)), (q_now, .inl (ca 1, 81, .inr (.inl v_now))), (q_then, .inl (ca 1, 81, .inr (.inl v_then)))] sz)) (kQi D ca (va_A [(q_this, .inr (8, [.ref q_text, .int v_size, .int v_at, .ref q_read, .ref q_l, .ref q_stands, .ref q_kept, .int v_keptMany, .ref q_one, .ref q_two, .ref q_ways, .ref q_now, .ref q_then])), (q_l, .inl (ca 0, 336, .inl v_l)), (q_stands, .inl (ca 0, 16, .inl v_stands)), (q_one, .inl (ca 0, 7, .inl v_one)), (q_two, .inl (ca 0, 7, .inl v_two)), (q_ways, .inl (ca 0, 49, .inl v_ways)), (q_now, .inl (ca 1, 81, .inr (.inl v_now))), (q_then, .inl (ca 1, 81, .inr (.inl v_then)))] sz) [(q_this, .inr (8, [.ref q_text, .int v_size, .int v_at, .ref q_read, .ref q_l, .ref q_stands, .ref q_kept, .int v_keptMany, .ref q_one, .ref q_two, .ref q_ways, .ref q_now, .ref q_then])), (q_l, .inl (ca 0, 336, .inl v_l)), (q_stands, .inl (ca 0, 16, .inl v_stands)), (q_one, .inl (ca 0, 7, .inl o_one)), (q_two, .inl (ca 0, 7, .inl o_two)), (q_ways, .inl (ca 0, 49, .inl o_ways)), (q_now, .inl (ca 1, 81, .inr (.inl o_now))), (q_then, .inl (ca 1, 81, .inr (.inl o_then)))] r) 0 0 (va_A [(q_this, .inr (8, [.ref q_text, .int v_size, .int v_at, .ref q_read, .ref q_l, .ref q_stands, .ref q_kept, .int v_keptMany, .ref q_one, .ref q_two, .ref q_ways, .ref q_now, .ref q_then])), (q_l, .inl (ca 0, 336, .inl v_l)), (q_stands, .inl (ca 0, 16, .inl v_stands)), (q_one, .inl (ca 0, 7, .inl v_one)), (q_two, .inl (ca 0, 7, .inl v_two)), (q_ways, .inl (ca 0, 49, .inl v_ways)), (q_now, .inl (ca 1, 81, .inr (.inl v_now))), (q_then, .inl (ca 1, 81, .inr (.inl v_then)))] sz) := by
  refine Met.ofW (cc := cX9_million) (maxL := 5) (ret := (some .int)) (by decide +kernel) rfl ?_
  intro p e s m args below meth c s₁ B hml hv
  obtain ⟨rfl, hsz, hP, hK, hD0⟩ := hv
  have hx := B.exec
  have hb := B.bytes
  have hr := B.returns
  have hts := atoms_spec (ws := wsX9_million) B.pre
  have hown : s.vm.findClass RX9 = some m.cls := findClass_of_methodNamed B.named
  have hlocks := B.notSynchronized
  clear B
  subst hsz
  have hD := hD0.self (sz := s.heap.size)
  generalize hAe : va_A [(q_this, .inr (8, [.ref q_text, .int v_size, .int v_at, .ref q_read, .ref q_l, .ref q_stands, .ref q_kept, .int v_keptMany, .ref q_one, .ref q_two, .ref q_ways, .ref q_now, .ref q_then])), (q_l, .inl (ca 0, 336, .inl v_l)), (q_stands, .inl (ca 0, 16, .inl v_stands)), (q_one, .inl (ca 0, 7, .inl v_one)), (q_two, .inl (ca 0, 7, .inl v_two)), (q_ways, .inl (ca 0, 49, .inl v_ways)), (q_now, .inl (ca 1, 81, .inr (.inl v_now))), (q_then, .inl (ca 1, 81, .inr (.inl v_then)))] s.heap.size = A at hD ⊢
  have hA : ∀ q : Nat, s.heap.size ≤ q → A q := fun q h => by rw [← hAe]; exact Or.inr h
  have hS : va_S A s.heap s.heap [] := va_S.rf
  have hl := lv_entry ([.ref q_this, .int p1, .int p2, .int p3, .int p4]) (n := 5) (Nat.le_of_ble_eq_true rfl)
  rw [lg_entry_eq]
  generalize (lg_sl ([.ref q_this, .int p1, .int p2, .int p3, .int p4]) ++ List.replicate (5 - (lg_sl ([.ref q_this, .int p1, .int p2, .int p3, .int p4])).length) Slot.unset).toArray = ls at hl ⊢
  have hl : lv_has ls 5 [(0, .ref q_this), (1, .int p1), (2, .int p2), (3, .int p3), (4, .int p4)] := hl
  generalize ([.ref q_this, .int p1, .int p2, .int p3, .int p4] : List Value).toArray = args at hts ⊢
  generalize hQe : MQ below (kQi D ca (A) [(q_this, .inr (8, [.ref q_text, .int v_size, .int v_at, .ref q_read, .ref q_l, .ref q_stands, .ref q_kept, .int v_keptMany, .ref q_one, .ref q_two, .ref q_ways, .ref q_now, .ref q_then])), (q_l, .inl (ca 0, 336, .inl v_l)), (q_stands, .inl (ca 0, 16, .inl v_stands)), (q_one, .inl (ca 0, 7, .inl o_one)), (q_two, .inl (ca 0, 7, .inl o_two)), (q_ways, .inl (ca 0, 49, .inl o_ways)), (q_now, .inl (ca 1, 81, .inr (.inl o_now))), (q_then, .inl (ca 1, 81, .inr (.inl o_then)))] r) args s 0 0 A = Q
  have k_188 := hts (.constantLong RX9 188 (lN 200)) (by decide +kernel)
  have i_X9 : ∀ w ∈ u_ws RX9 TX9 13, w ∈ wsX9_million := by decide +kernel
  have k_34 := hts (.fieldLink RX9 34 "TradeWordsModel" "now" "[J") (by decide +kernel)
  rw [D_X9_million] at h
  refine lv_iload_n hx hb dX9_million_0 rfl (lv_at hl 1 rfl) ?_
  obtain ⟨r_1, hg_2, h⟩ := bd1_el h
  refine kx_Si (As := [.int p1]) (rest := []) (wr := [(q_this, .inr (8, [.ref q_text, .int v_size, .int v_at, .ref q_read, .ref q_l, .ref q_stands, .ref q_kept, .int v_keptMany, .ref q_one, .ref q_two, .ref q_ways, .ref q_now, .ref q_then])), (q_l, .inl (ca 0, 336, .inl v_l)), (q_stands, .inl (ca 0, 16, .inl v_stands)), (q_one, .inl (ca 0, 7, .inl v_one)), (q_two, .inl (ca 0, 7, .inl v_two)), (q_ways, .inl (ca 0, 49, .inl v_ways)), (q_now, .inl (ca 1, 81, .inr (.inl v_now))), (q_then, .inl (ca 1, 81, .inr (.inl v_then)))]) (w1 := []) (wn := [(q_this, .inr (8, [.ref q_text, .int v_size, .int v_at, .ref q_read, .ref q_l, .ref q_stands, .ref q_kept, .int v_keptMany, .ref q_one, .ref q_two, .ref q_ways, .ref q_now, .ref q_then])), (q_l, .inl (ca 0, 336, .inl v_l)), (q_stands, .inl (ca 0, 16, .inl v_stands)), (q_one, .inl (ca 0, 7, .inl v_one)), (q_two, .inl (ca 0, 7, .inl v_two)), (q_ways, .inl (ca 0, 49, .inl v_ways)), (q_now, .inl (ca 1, 81, .inr (.inl v_now))), (q_then, .inl (ca 1, 81, .inr (.inl v_then)))]) ⟨hx, hb, hml, hown, hts⟩ (c_X9_isMeaning l D ca s.heap.size p1 r_1 hg_2) (va_cwS 1 hts gX9_million_X9_isMeaning rfl rfl rfl (by decide +kernel) ⟨(Nat.le_of_ble_eq_true rfl), (Nat.le_of_ble_eq_true rfl)⟩) hK hP hD hS hA [] [0, 1, 2, 3, 4, 5, 6, 7] [0, 1, 2, 3, 4, 5, 6, 7] rfl rfl rfl rfl (by decide) rfl rfl rfl hl.1 rfl (Nat.le_of_ble_eq_true rfl) dX9_million_1 ⟨Nat.zero_le _, Nat.zero_le _⟩ (fun H locs hP hD hS => ?_)
  refine lv_if_eq (tgt := 29) hx hb dX9_million_4 (by decide) (fun c_3 => ?_) (fun c_3 => ?_)
  · replace h := ifp_el c_3 h
    refine lv_iconst (v := (-1 : Int32)) hx hb dX9_million_29 (by decide) ?_
    cases h
    rw [← hQe]
    exact W.iret hx hb hr (fun t ht hW => ⟨⟨_, (), rfl, rfl, by rw [ht]; exact hP, va_K.moved hW.alike hK, hD⟩, hS.F ht⟩) hS.2.2 dX9_million_30
  · replace h := ifn_el c_3 h
    refine lv_iload_n hx hb dX9_million_7 rfl (lv_at hl 2 rfl) ?_
    refine lv_i2l hx hb dX9_million_8 rfl ?_
    refine lv_lconst (v := (lN 0)) hx hb dX9_million_9 (by decide) ?_
    refine lv_ldc2 hx hb hown k_188 dX9_million_10 ?_
    obtain ⟨r_4, hg_5, h⟩ := bd1_el h
    refine kx_Si (As := [.long p2.toInt64, .long (lN 0), .long (lN 200)]) (rest := []) (wr := [(q_this, .inr (8, [.ref q_text, .int v_size, .int v_at, .ref q_read, .ref q_l, .ref q_stands, .ref q_kept, .int v_keptMany, .ref q_one, .ref q_two, .ref q_ways, .ref q_now, .ref q_then])), (q_l, .inl (ca 0, 336, .inl v_l)), (q_stands, .inl (ca 0, 16, .inl v_stands)), (q_one, .inl (ca 0, 7, .inl v_one)), (q_two, .inl (ca 0, 7, .inl v_two)), (q_ways, .inl (ca 0, 49, .inl v_ways)), (q_now, .inl (ca 1, 81, .inr (.inl v_now))), (q_then, .inl (ca 1, 81, .inr (.inl v_then)))]) (w1 := []) (wn := [(q_this, .inr (8, [.ref q_text, .int v_size, .int v_at, .ref q_read, .ref q_l, .ref q_stands, .ref q_kept, .int v_keptMany, .ref q_one, .ref q_two, .ref q_ways, .ref q_now, .ref q_then])), (q_l, .inl (ca 0, 336, .inl v_l)), (q_stands, .inl (ca 0, 16, .inl v_stands)), (q_one, .inl (ca 0, 7, .inl v_one)), (q_two, .inl (ca 0, 7, .inl v_two)), (q_ways, .inl (ca 0, 49, .inl v_ways)), (q_now, .inl (ca 1, 81, .inr (.inl v_now))), (q_then, .inl (ca 1, 81, .inr (.inl v_then)))]) ⟨hx, hb, hml, hown, hts⟩ (c_X9_in l D ca H.size p2.toInt64 (lN 0) (lN 200) r_4 hg_5) (va_cwS 3 hts gX9_million_X9_in rfl rfl rfl (by decide +kernel) ⟨(Nat.le_of_ble_eq_true rfl), (Nat.le_of_ble_eq_true rfl)⟩) hK hP hD hS hA [] [0, 1, 2, 3, 4, 5, 6, 7] [0, 1, 2, 3, 4, 5, 6, 7] rfl rfl rfl rfl (by decide) rfl rfl rfl hl.1 rfl (Nat.le_of_ble_eq_true rfl) dX9_million_13 ⟨Nat.zero_le _, Nat.zero_le _⟩ (fun H locs hP hD hS => ?_)
    refine lv_if_eq (tgt := 29) hx hb dX9_million_16 (by decide) (fun c_6 => ?_) (fun c_6 => ?_)
    · replace h := ifp_el c_6 h
      refine lv_iconst (v := (-1 : Int32)) hx hb dX9_million_29 (by decide) ?_
      cases h
      rw [← hQe]
      exact W.iret hx hb hr (fun t ht hW => ⟨⟨_, (), rfl, rfl, by rw [ht]; exact hP, va_K.moved hW.alike hK, hD⟩, hS.F ht⟩) hS.2.2 dX9_million_30
    · replace h := ifn_el c_6 h
      refine lv_aload_n hx hb dX9_million_19 rfl (lv_at hl 0 rfl) ?_
      refine lv_iload_n hx hb dX9_million_20 rfl (lv_at hl 3 rfl) ?_
      refine lv_iload hx hb dX9_million_21 (lv_at hl 4 rfl) ?_
      obtain ⟨r_7, hg_8, h⟩ := bd1_el h
      refine kx_Vi (As := [.int p3, .int p4]) (rest := []) (wr := [(q_stands, .inl (ca 0, 16, .inl v_stands)), (q_one, .inl (ca 0, 7, .inl v_one)), (q_two, .inl (ca 0, 7, .inl v_two)), (q_ways, .inl (ca 0, 49, .inl v_ways)), (q_now, .inl (ca 1, 81, .inr (.inl v_now))), (q_then, .inl (ca 1, 81, .inr (.inl v_then)))]) (w1 := [(q_this, .inr (8, [.ref q_text, .int v_size, .int v_at, .ref q_read, .ref q_l, .ref q_stands, .ref q_kept, .int v_keptMany, .ref q_one, .ref q_two, .ref q_ways, .ref q_now, .ref q_then])), (q_l, .inl (ca 0, 336, .inl v_l))]) (wn := [(q_this, .inr (8, [.ref q_text, .int v_size, .int v_at, .ref q_read, .ref q_l, .ref q_stands, .ref q_kept, .int v_keptMany, .ref q_one, .ref q_two, .ref q_ways, .ref q_now, .ref q_then])), (q_l, .inl (ca 0, 336, .inl v_l)), (q_stands, .inl (ca 0, 16, .inl v_stands)), (q_one, .inl (ca 0, 7, .inl v_one)), (q_two, .inl (ca 0, 7, .inl v_two)), (q_ways, .inl (ca 0, 49, .inl v_ways)), (q_now, .inl (ca 1, 81, .inr (.inl v_now))), (q_then, .inl (ca 1, 81, .inr (.inl v_then)))]) ⟨hx, hb, hml, hown, hts⟩ (c_X9_isStand l D ca H.size q_this q_text q_read q_l q_stands q_kept q_one q_two q_ways q_now q_then p3 p4 v_size v_at v_keptMany v_l r_7 hg_8) (cwV 2 hts gX9_million_X9_isStand rfl rfl rfl (by decide +kernel) ⟨(Nat.le_of_ble_eq_true rfl), (Nat.le_of_ble_eq_true rfl)⟩) hK hP hD hS hA (ci := 8) (q0 := 0) rfl rfl [0, 1] [2, 3, 4, 5, 6, 7] [6, 7, 0, 1, 2, 3, 4, 5] rfl rfl rfl rfl (by decide) rfl rfl rfl hl.1 rfl (Nat.le_of_ble_eq_true rfl) dX9_million_23 ⟨Nat.zero_le _, Nat.zero_le _⟩ (fun H locs hP hD hS => ?_)
      refine lv_if_ne (tgt := 31) hx hb dX9_million_26 (by decide) (fun c_9 => ?_) (fun c_9 => ?_)
      · replace h := ifn_el c_9 h
        refine lv_aload_n hx hb dX9_million_31 rfl (lv_at hl 0 rfl) ?_
        refine lv_iload_n hx hb dX9_million_32 rfl (lv_at hl 1 rfl) ?_
        obtain ⟨r_10, hg_11, h⟩ := bd1_el h
        refine kx_Vi (As := [.int p1]) (rest := []) (wr := [(q_stands, .inl (ca 0, 16, .inl v_stands)), (q_one, .inl (ca 0, 7, .inl v_one)), (q_two, .inl (ca 0, 7, .inl v_two)), (q_ways, .inl (ca 0, 49, .inl v_ways)), (q_now, .inl (ca 1, 81, .inr (.inl v_now))), (q_then, .inl (ca 1, 81, .inr (.inl v_then)))]) (w1 := [(q_this, .inr (8, [.ref q_text, .int v_size, .int v_at, .ref q_read, .ref q_l, .ref q_stands, .ref q_kept, .int v_keptMany, .ref q_one, .ref q_two, .ref q_ways, .ref q_now, .ref q_then])), (q_l, .inl (ca 0, 336, .inl v_l))]) (wn := [(q_this, .inr (8, [.ref q_text, .int v_size, .int v_at, .ref q_read, .ref q_l, .ref q_stands, .ref q_kept, .int v_keptMany, .ref q_one, .ref q_two, .ref q_ways, .ref q_now, .ref q_then])), (q_l, .inl (ca 0, 336, .inl v_l)), (q_stands, .inl (ca 0, 16, .inl v_stands)), (q_one, .inl (ca 0, 7, .inl v_one)), (q_two, .inl (ca 0, 7, .inl v_two)), (q_ways, .inl (ca 0, 49, .inl v_ways)), (q_now, .inl (ca 1, 81, .inr (.inl v_now))), (q_then, .inl (ca 1, 81, .inr (.inl v_then)))]) ⟨hx, hb, hml, hown, hts⟩ (c_X9_isTold l D ca H.size q_this q_text q_read q_l q_stands q_kept q_one q_two q_ways q_now q_then p1 v_size v_at v_keptMany v_l r_10 hg_11) (cwV 1 hts gX9_million_X9_isTold rfl rfl rfl (by decide +kernel) ⟨(Nat.le_of_ble_eq_true rfl), (Nat.le_of_ble_eq_true rfl)⟩) hK hP hD hS hA (ci := 8) (q0 := 0) rfl rfl [0, 1] [2, 3, 4, 5, 6, 7] [6, 7, 0, 1, 2, 3, 4, 5] rfl rfl rfl rfl (by decide) rfl rfl rfl hl.1 rfl (Nat.le_of_ble_eq_true rfl) dX9_million_33 ⟨Nat.zero_le _, Nat.zero_le _⟩ (fun H locs hP hD hS => ?_)
        refine lv_if_ne (tgt := 42) hx hb dX9_million_36 (by decide) (fun c_12 => ?_) (fun c_12 => ?_)
        · replace h := ifn_el c_12 h
          refine lv_aload_n hx hb dX9_million_42 rfl (lv_at hl 0 rfl) ?_
          refine lv_iload_n hx hb dX9_million_43 rfl (lv_at hl 1 rfl) ?_
          refine lv_iload_n hx hb dX9_million_44 rfl (lv_at hl 2 rfl) ?_
          obtain ⟨y_one_13, y_two_14, y_ways_15, y_now_16, y_then_17, hg_18, h⟩ := bd5_el h
          refine kx_Vv (As := [.int p1, .int p2]) (rest := []) (wr := []) (w1 := [(q_this, .inr (8, [.ref q_text, .int v_size, .int v_at, .ref q_read, .ref q_l, .ref q_stands, .ref q_kept, .int v_keptMany, .ref q_one, .ref q_two, .ref q_ways, .ref q_now, .ref q_then])), (q_l, .inl (ca 0, 336, .inl v_l)), (q_stands, .inl (ca 0, 16, .inl v_stands)), (q_one, .inl (ca 0, 7, .inl y_one_13)), (q_two, .inl (ca 0, 7, .inl y_two_14)), (q_ways, .inl (ca 0, 49, .inl y_ways_15)), (q_now, .inl (ca 1, 81, .inr (.inl y_now_16))), (q_then, .inl (ca 1, 81, .inr (.inl y_then_17)))]) (wn := [(q_this, .inr (8, [.ref q_text, .int v_size, .int v_at, .ref q_read, .ref q_l, .ref q_stands, .ref q_kept, .int v_keptMany, .ref q_one, .ref q_two, .ref q_ways, .ref q_now, .ref q_then])), (q_l, .inl (ca 0, 336, .inl v_l)), (q_stands, .inl (ca 0, 16, .inl v_stands)), (q_one, .inl (ca 0, 7, .inl y_one_13)), (q_two, .inl (ca 0, 7, .inl y_two_14)), (q_ways, .inl (ca 0, 49, .inl y_ways_15)), (q_now, .inl (ca 1, 81, .inr (.inl y_now_16))), (q_then, .inl (ca 1, 81, .inr (.inl y_then_17)))]) ⟨hx, hb, hml, hown, hts⟩ (c_X9_goAsTold l D ca F H.size q_this q_text q_read q_l q_stands q_kept q_one q_two q_ways q_now q_then p1 p2 v_size v_at v_keptMany v_l v_stands v_one v_two v_ways v_now v_then y_one_13 y_two_14 y_ways_15 y_now_16 y_then_17 hg_18) (cwV 2 hts gX9_million_X9_goAsTold rfl rfl rfl (by decide +kernel) ⟨(Nat.le_of_ble_eq_true rfl), (Nat.le_of_ble_eq_true rfl)⟩) hK hP hD hS hA (ci := 8) (q0 := 0) rfl rfl [0, 1, 2, 3, 4, 5, 6, 7] [] [0, 1, 2, 3, 4, 5, 6, 7] rfl rfl rfl rfl (by decide) rfl rfl rfl hl.1 rfl (Nat.le_of_ble_eq_true rfl) dX9_million_45 ⟨Nat.zero_le _, Nat.zero_le _⟩ (fun H locs hP hD hS => ?_)
          refine lv_aload_n hx hb dX9_million_48 rfl (lv_at hl 0 rfl) ?_
          refine va_get (D := D) (ci := 8) (v := .ref q_now) (C := RX9) (T := TX9) (N := 13) hx hb hts i_X9 hown hK hP 0 rfl rfl 11 (by decide) k_34 (fun _ h9 => h9) rfl dX9_million_49 ?_
          refine lv_bipush (v := (nI 9)) hx hb dX9_million_52 (by decide) ?_
          refine lv_iload_n hx hb dX9_million_54 rfl (lv_at hl 3 rfl) ?_
          refine lv_imul hx hb dX9_million_55 ?_
          refine lv_iload hx hb dX9_million_56 (lv_at hl 4 rfl) ?_
          refine lv_iadd hx hb dX9_million_58 ?_
          obtain ⟨hi_19, h⟩ := ck_el h
          refine va_lald hx hb hK hP 6 1 rfl rfl hi_19 dX9_million_59 ?_
          refine lv_l2i hx hb dX9_million_60 rfl ?_
          cases h
          rw [← hQe]
          exact W.iret hx hb hr (fun t ht hW => ⟨⟨_, (), rfl, rfl, by rw [ht]; exact hP, va_K.moved hW.alike hK, hD⟩, hS.F ht⟩) hS.2.2 dX9_million_61
        · replace h := ifp_el c_12 h
          refine lv_bipush (v := (-2 : Int32)) hx hb dX9_million_39 (by decide) ?_
          cases h
          rw [← hQe]
          exact W.iret hx hb hr (fun t ht hW => ⟨⟨_, (), rfl, rfl, by rw [ht]; exact hP, va_K.moved hW.alike hK, hD⟩, hS.F ht⟩) hS.2.2 dX9_million_41
      · replace h := ifp_el c_9 h
        refine lv_iconst (v := (-1 : Int32)) hx hb dX9_million_29 (by decide) ?_
        cases h
        rw [← hQe]
        exact W.iret hx hb hr (fun t ht hW => ⟨⟨_, (), rfl, rfl, by rw [ht]; exact hP, va_K.moved hW.alike hK, hD⟩, hS.F ht⟩) hS.2.2 dX9_million_30
def D_X9_won (F : Nat) (p1 : Int32) (p2 : Int32) (p3 : Int32) (v_l : Nat → Int32) (v_stands : Nat → Int32) (v_one : Nat → Int32) (v_two : Nat → Int32) (v_ways : Nat → Int32) (v_now : Nat → Int64) (v_then : Nat → Int64) : Option (Int32 × (Nat → Int32) × (Nat → Int32) × (Nat → Int32) × (Nat → Int64) × (Nat → Int64)) := bd1 (D_X9_isMeaning p1) (fun r_1 => (if r_1 = 0 then some ((-1 : Int32), v_one, v_two, v_ways, v_now, v_then) else bd1 (D_X9_in p2.toInt64 (lN 0) (lN 200)) (fun r_4 => (if r_4 = 0 then some ((-1 : Int32), v_one, v_two, v_ways, v_now, v_then) else bd1 (D_X9_in p3.toInt64 (lN 0) (lN 1)) (fun r_7 => (if r_7 = 0 then some ((-1 : Int32), v_one, v_two, v_ways, v_now, v_then) else bd1 (D_X9_isTold p1 v_l) (fun r_10 => (if r_10 = 0 then some ((-2 : Int32), v_one, v_two, v_ways, v_now, v_then) else bd5 (D_X9_goAsTold F p1 p2 v_l v_stands v_one v_two v_ways v_now v_then) (fun y_one_13 y_two_14 y_ways_15 y_now_16 y_then_17 => ck 336 (nI 298) (ck 336 (nI 299) (bd1 (D_X9_wonBy p3 (v_l (nI 298).toNatClampNeg) (v_l (nI 299).toNatClampNeg) y_now_16) (fun r_21 => some (r_21.toInt32, y_one_13, y_two_14, y_ways_15, y_now_16, y_then_17)))))))))))))
abbrev rm_X9_won : Room := { frames := 7, cells := 0, slots := 0, locals := 163 }
set_option maxHeartbeats 4000000 in
set_option maxRecDepth 100000 in
theorem c_X9_won (l : Launch) (D : va_G) (ca : Nat → ClassId) (F : Nat) (sz : Nat) (q_this q_text q_read q_l q_stands q_kept q_one q_two q_ways q_now q_then : Nat) (p1 : Int32) (p2 : Int32) (p3 : Int32) (v_size : Int32) (v_at : Int32) (v_keptMany : Int32) (v_l : Nat → Int32) (v_stands : Nat → Int32) (v_one : Nat → Int32) (v_two : Nat → Int32) (v_ways : Nat → Int32) (v_now : Nat → Int64) (v_then : Nat → Int64) (r : Int32) (o_one : Nat → Int32) (o_two : Nat → Int32) (o_ways : Nat → Int32) (o_now : Nat → Int64) (o_then : Nat → Int64) (h : D_X9_won F p1 p2 p3 v_l v_stands v_one v_two v_ways v_now v_then = some (r, o_one, o_two, o_ways, o_now, o_then)) : Met l yX9_won wsX9_won rm_X9_won (va_Pc [.ref q_this, .int p1, .int p2, .int p3] (kPre D ca [(q_this, .inr (8, [.ref q_text, .int v_size, .int v_at, .ref q_read, .ref q_l, .ref q_stands, .ref q_kept, .int v_keptMany, .ref q_one, .ref q_two, .ref q_ways, .ref q_now, .ref q_then])), (q_l, .inl (ca 0, 336, .inl v_l)), (q_stands, .inl (ca 0, 16, .inl v_stands)), (q_one, .inl (ca 0, 7, .inl v_one)), (q_two, .inl (ca 0, 7, .inl v_two)), (q_ways, .inl (ca 0, 49, .inl v_ways)), (q_now, .inl (ca 1, 81, .inr (.inl v_now))), (q_then, .inl (ca 1, 81, .inr (.inl v_then)))] sz)) (kQi D ca (va_A [(q_this, .inr (8, [.ref q_text, .int v_size, .int v_at, .ref q_read, .ref q_l, .ref q_stands, .ref q_kept, .int v_keptMany, .ref q_one, .ref q_two, .ref q_ways, .ref q_now, .ref q_then])), (q_l, .inl (ca 0, 336, .inl v_l)), (q_stands, .inl (ca 0, 16, .inl v_stands)), (q_one, .inl (ca 0, 7, .inl v_one)), (q_two, .inl (ca 0, 7, .inl v_two)), (q_ways, .inl (ca 0, 49, .inl v_ways)), (q_now, .inl (ca 1, 81, .inr (.inl v_now))), (q_then, .inl (ca 1, 81, .inr (.inl v_then)))] sz) [(q_this, .inr (8, [.ref q_text, .int v_size, .int v_at, .ref q_read, .ref q_l, .ref q_stands, .ref q_kept, .int v_keptMany, .ref q_one, .ref q_two, .ref q_ways, .ref q_now, .ref q_then])), (q_l, .inl (ca 0, 336, .inl v_l)), (q_stands, .inl (ca 0, 16, .inl v_stands)), (q_one, .inl (ca 0, 7, .inl o_one)), (q_two, .inl (ca 0, 7, .inl o_two)), (q_ways, .inl (ca 0, 49, .inl o_ways)), (q_now, .inl (ca 1, 81, .inr (.inl o_now))), (q_then, .inl (ca 1, 81, .inr (.inl o_then)))] r) 0 0 (va_A [(q_this, .inr (8, [.ref q_text, .int v_size, .int v_at, .ref q_read, .ref q_l, .ref q_stands, .ref q_kept, .int v_keptMany, .ref q_one, .ref q_two, .ref q_ways, .ref q_now, .ref q_then])), (q_l, .inl (ca 0, 336, .inl v_l)), (q_stands, .inl (ca 0, 16, .inl v_stands)), (q_one, .inl (ca 0, 7, .inl v_one)), (q_two, .inl (ca 0, 7, .inl v_two)), (q_ways, .inl (ca 0, 49, .inl v_ways)), (q_now, .inl (ca 1, 81, .inr (.inl v_now))), (q_then, .inl (ca 1, 81, .inr (.inl v_then)))] sz) := by
  refine Met.ofW (cc := cX9_won) (maxL := 4) (ret := (some .int)) (by decide +kernel) rfl ?_
  intro p e s m args below meth c s₁ B hml hv
  obtain ⟨rfl, hsz, hP, hK, hD0⟩ := hv
  have hx := B.exec
  have hb := B.bytes
  have hr := B.returns
  have hts := atoms_spec (ws := wsX9_won) B.pre
  have hown : s.vm.findClass RX9 = some m.cls := findClass_of_methodNamed B.named
  have hlocks := B.notSynchronized
  clear B
  subst hsz
  have hD := hD0.self (sz := s.heap.size)
  generalize hAe : va_A [(q_this, .inr (8, [.ref q_text, .int v_size, .int v_at, .ref q_read, .ref q_l, .ref q_stands, .ref q_kept, .int v_keptMany, .ref q_one, .ref q_two, .ref q_ways, .ref q_now, .ref q_then])), (q_l, .inl (ca 0, 336, .inl v_l)), (q_stands, .inl (ca 0, 16, .inl v_stands)), (q_one, .inl (ca 0, 7, .inl v_one)), (q_two, .inl (ca 0, 7, .inl v_two)), (q_ways, .inl (ca 0, 49, .inl v_ways)), (q_now, .inl (ca 1, 81, .inr (.inl v_now))), (q_then, .inl (ca 1, 81, .inr (.inl v_then)))] s.heap.size = A at hD ⊢
  have hA : ∀ q : Nat, s.heap.size ≤ q → A q := fun q h => by rw [← hAe]; exact Or.inr h
  have hS : va_S A s.heap s.heap [] := va_S.rf
  have hl := lv_entry ([.ref q_this, .int p1, .int p2, .int p3]) (n := 4) (Nat.le_of_ble_eq_true rfl)
  rw [lg_entry_eq]
  generalize (lg_sl ([.ref q_this, .int p1, .int p2, .int p3]) ++ List.replicate (4 - (lg_sl ([.ref q_this, .int p1, .int p2, .int p3])).length) Slot.unset).toArray = ls at hl ⊢
  have hl : lv_has ls 4 [(0, .ref q_this), (1, .int p1), (2, .int p2), (3, .int p3)] := hl
  generalize ([.ref q_this, .int p1, .int p2, .int p3] : List Value).toArray = args at hts ⊢
  generalize hQe : MQ below (kQi D ca (A) [(q_this, .inr (8, [.ref q_text, .int v_size, .int v_at, .ref q_read, .ref q_l, .ref q_stands, .ref q_kept, .int v_keptMany, .ref q_one, .ref q_two, .ref q_ways, .ref q_now, .ref q_then])), (q_l, .inl (ca 0, 336, .inl v_l)), (q_stands, .inl (ca 0, 16, .inl v_stands)), (q_one, .inl (ca 0, 7, .inl o_one)), (q_two, .inl (ca 0, 7, .inl o_two)), (q_ways, .inl (ca 0, 49, .inl o_ways)), (q_now, .inl (ca 1, 81, .inr (.inl o_now))), (q_then, .inl (ca 1, 81, .inr (.inl o_then)))] r) args s 0 0 A = Q
  have k_188 := hts (.constantLong RX9 188 (lN 200)) (by decide +kernel)
  have i_X9 : ∀ w ∈ u_ws RX9 TX9 13, w ∈ wsX9_won := by decide +kernel
  have k_16 := hts (.fieldLink RX9 16 "TradeWordsModel" "l" "[I") (by decide +kernel)
  rw [D_X9_won] at h
  refine lv_iload_n hx hb dX9_won_0 rfl (lv_at hl 1 rfl) ?_
  obtain ⟨r_1, hg_2, h⟩ := bd1_el h
  refine kx_Si (As := [.int p1]) (rest := []) (wr := [(q_this, .inr (8, [.ref q_text, .int v_size, .int v_at, .ref q_read, .ref q_l, .ref q_stands, .ref q_kept, .int v_keptMany, .ref q_one, .ref q_two, .ref q_ways, .ref q_now, .ref q_then])), (q_l, .inl (ca 0, 336, .inl v_l)), (q_stands, .inl (ca 0, 16, .inl v_stands)), (q_one, .inl (ca 0, 7, .inl v_one)), (q_two, .inl (ca 0, 7, .inl v_two)), (q_ways, .inl (ca 0, 49, .inl v_ways)), (q_now, .inl (ca 1, 81, .inr (.inl v_now))), (q_then, .inl (ca 1, 81, .inr (.inl v_then)))]) (w1 := []) (wn := [(q_this, .inr (8, [.ref q_text, .int v_size, .int v_at, .ref q_read, .ref q_l, .ref q_stands, .ref q_kept, .int v_keptMany, .ref q_one, .ref q_two, .ref q_ways, .ref q_now, .ref q_then])), (q_l, .inl (ca 0, 336, .inl v_l)), (q_stands, .inl (ca 0, 16, .inl v_stands)), (q_one, .inl (ca 0, 7, .inl v_one)), (q_two, .inl (ca 0, 7, .inl v_two)), (q_ways, .inl (ca 0, 49, .inl v_ways)), (q_now, .inl (ca 1, 81, .inr (.inl v_now))), (q_then, .inl (ca 1, 81, .inr (.inl v_then)))]) ⟨hx, hb, hml, hown, hts⟩ (c_X9_isMeaning l D ca s.heap.size p1 r_1 hg_2) (va_cwS 1 hts gX9_won_X9_isMeaning rfl rfl rfl (by decide +kernel) ⟨(Nat.le_of_ble_eq_true rfl), (Nat.le_of_ble_eq_true rfl)⟩) hK hP hD hS hA [] [0, 1, 2, 3, 4, 5, 6, 7] [0, 1, 2, 3, 4, 5, 6, 7] rfl rfl rfl rfl (by decide) rfl rfl rfl hl.1 rfl (Nat.le_of_ble_eq_true rfl) dX9_won_1 ⟨Nat.zero_le _, Nat.zero_le _⟩ (fun H locs hP hD hS => ?_)
  refine lv_if_eq (tgt := 29) hx hb dX9_won_4 (by decide) (fun c_3 => ?_) (fun c_3 => ?_)
  · replace h := ifp_el c_3 h
    refine lv_iconst (v := (-1 : Int32)) hx hb dX9_won_29 (by decide) ?_
    cases h
    rw [← hQe]
    exact W.iret hx hb hr (fun t ht hW => ⟨⟨_, (), rfl, rfl, by rw [ht]; exact hP, va_K.moved hW.alike hK, hD⟩, hS.F ht⟩) hS.2.2 dX9_won_30
  · replace h := ifn_el c_3 h
    refine lv_iload_n hx hb dX9_won_7 rfl (lv_at hl 2 rfl) ?_
    refine lv_i2l hx hb dX9_won_8 rfl ?_
    refine lv_lconst (v := (lN 0)) hx hb dX9_won_9 (by decide) ?_
    refine lv_ldc2 hx hb hown k_188 dX9_won_10 ?_
    obtain ⟨r_4, hg_5, h⟩ := bd1_el h
    refine kx_Si (As := [.long p2.toInt64, .long (lN 0), .long (lN 200)]) (rest := []) (wr := [(q_this, .inr (8, [.ref q_text, .int v_size, .int v_at, .ref q_read, .ref q_l, .ref q_stands, .ref q_kept, .int v_keptMany, .ref q_one, .ref q_two, .ref q_ways, .ref q_now, .ref q_then])), (q_l, .inl (ca 0, 336, .inl v_l)), (q_stands, .inl (ca 0, 16, .inl v_stands)), (q_one, .inl (ca 0, 7, .inl v_one)), (q_two, .inl (ca 0, 7, .inl v_two)), (q_ways, .inl (ca 0, 49, .inl v_ways)), (q_now, .inl (ca 1, 81, .inr (.inl v_now))), (q_then, .inl (ca 1, 81, .inr (.inl v_then)))]) (w1 := []) (wn := [(q_this, .inr (8, [.ref q_text, .int v_size, .int v_at, .ref q_read, .ref q_l, .ref q_stands, .ref q_kept, .int v_keptMany, .ref q_one, .ref q_two, .ref q_ways, .ref q_now, .ref q_then])), (q_l, .inl (ca 0, 336, .inl v_l)), (q_stands, .inl (ca 0, 16, .inl v_stands)), (q_one, .inl (ca 0, 7, .inl v_one)), (q_two, .inl (ca 0, 7, .inl v_two)), (q_ways, .inl (ca 0, 49, .inl v_ways)), (q_now, .inl (ca 1, 81, .inr (.inl v_now))), (q_then, .inl (ca 1, 81, .inr (.inl v_then)))]) ⟨hx, hb, hml, hown, hts⟩ (c_X9_in l D ca H.size p2.toInt64 (lN 0) (lN 200) r_4 hg_5) (va_cwS 3 hts gX9_won_X9_in rfl rfl rfl (by decide +kernel) ⟨(Nat.le_of_ble_eq_true rfl), (Nat.le_of_ble_eq_true rfl)⟩) hK hP hD hS hA [] [0, 1, 2, 3, 4, 5, 6, 7] [0, 1, 2, 3, 4, 5, 6, 7] rfl rfl rfl rfl (by decide) rfl rfl rfl hl.1 rfl (Nat.le_of_ble_eq_true rfl) dX9_won_13 ⟨Nat.zero_le _, Nat.zero_le _⟩ (fun H locs hP hD hS => ?_)
    refine lv_if_eq (tgt := 29) hx hb dX9_won_16 (by decide) (fun c_6 => ?_) (fun c_6 => ?_)
    · replace h := ifp_el c_6 h
      refine lv_iconst (v := (-1 : Int32)) hx hb dX9_won_29 (by decide) ?_
      cases h
      rw [← hQe]
      exact W.iret hx hb hr (fun t ht hW => ⟨⟨_, (), rfl, rfl, by rw [ht]; exact hP, va_K.moved hW.alike hK, hD⟩, hS.F ht⟩) hS.2.2 dX9_won_30
    · replace h := ifn_el c_6 h
      refine lv_iload_n hx hb dX9_won_19 rfl (lv_at hl 3 rfl) ?_
      refine lv_i2l hx hb dX9_won_20 rfl ?_
      refine lv_lconst (v := (lN 0)) hx hb dX9_won_21 (by decide) ?_
      refine lv_lconst (v := (lN 1)) hx hb dX9_won_22 (by decide) ?_
      obtain ⟨r_7, hg_8, h⟩ := bd1_el h
      refine kx_Si (As := [.long p3.toInt64, .long (lN 0), .long (lN 1)]) (rest := []) (wr := [(q_this, .inr (8, [.ref q_text, .int v_size, .int v_at, .ref q_read, .ref q_l, .ref q_stands, .ref q_kept, .int v_keptMany, .ref q_one, .ref q_two, .ref q_ways, .ref q_now, .ref q_then])), (q_l, .inl (ca 0, 336, .inl v_l)), (q_stands, .inl (ca 0, 16, .inl v_stands)), (q_one, .inl (ca 0, 7, .inl v_one)), (q_two, .inl (ca 0, 7, .inl v_two)), (q_ways, .inl (ca 0, 49, .inl v_ways)), (q_now, .inl (ca 1, 81, .inr (.inl v_now))), (q_then, .inl (ca 1, 81, .inr (.inl v_then)))]) (w1 := []) (wn := [(q_this, .inr (8, [.ref q_text, .int v_size, .int v_at, .ref q_read, .ref q_l, .ref q_stands, .ref q_kept, .int v_keptMany, .ref q_one, .ref q_two, .ref q_ways, .ref q_now, .ref q_then])), (q_l, .inl (ca 0, 336, .inl v_l)), (q_stands, .inl (ca 0, 16, .inl v_stands)), (q_one, .inl (ca 0, 7, .inl v_one)), (q_two, .inl (ca 0, 7, .inl v_two)), (q_ways, .inl (ca 0, 49, .inl v_ways)), (q_now, .inl (ca 1, 81, .inr (.inl v_now))), (q_then, .inl (ca 1, 81, .inr (.inl v_then)))]) ⟨hx, hb, hml, hown, hts⟩ (c_X9_in l D ca H.size p3.toInt64 (lN 0) (lN 1) r_7 hg_8) (va_cwS 3 hts gX9_won_X9_in rfl rfl rfl (by decide +kernel) ⟨(Nat.le_of_ble_eq_true rfl), (Nat.le_of_ble_eq_true rfl)⟩) hK hP hD hS hA [] [0, 1, 2, 3, 4, 5, 6, 7] [0, 1, 2, 3, 4, 5, 6, 7] rfl rfl rfl rfl (by decide) rfl rfl rfl hl.1 rfl (Nat.le_of_ble_eq_true rfl) dX9_won_23 ⟨Nat.zero_le _, Nat.zero_le _⟩ (fun H locs hP hD hS => ?_)
      refine lv_if_ne (tgt := 31) hx hb dX9_won_26 (by decide) (fun c_9 => ?_) (fun c_9 => ?_)
      · replace h := ifn_el c_9 h
        refine lv_aload_n hx hb dX9_won_31 rfl (lv_at hl 0 rfl) ?_
        refine lv_iload_n hx hb dX9_won_32 rfl (lv_at hl 1 rfl) ?_
        obtain ⟨r_10, hg_11, h⟩ := bd1_el h
        refine kx_Vi (As := [.int p1]) (rest := []) (wr := [(q_stands, .inl (ca 0, 16, .inl v_stands)), (q_one, .inl (ca 0, 7, .inl v_one)), (q_two, .inl (ca 0, 7, .inl v_two)), (q_ways, .inl (ca 0, 49, .inl v_ways)), (q_now, .inl (ca 1, 81, .inr (.inl v_now))), (q_then, .inl (ca 1, 81, .inr (.inl v_then)))]) (w1 := [(q_this, .inr (8, [.ref q_text, .int v_size, .int v_at, .ref q_read, .ref q_l, .ref q_stands, .ref q_kept, .int v_keptMany, .ref q_one, .ref q_two, .ref q_ways, .ref q_now, .ref q_then])), (q_l, .inl (ca 0, 336, .inl v_l))]) (wn := [(q_this, .inr (8, [.ref q_text, .int v_size, .int v_at, .ref q_read, .ref q_l, .ref q_stands, .ref q_kept, .int v_keptMany, .ref q_one, .ref q_two, .ref q_ways, .ref q_now, .ref q_then])), (q_l, .inl (ca 0, 336, .inl v_l)), (q_stands, .inl (ca 0, 16, .inl v_stands)), (q_one, .inl (ca 0, 7, .inl v_one)), (q_two, .inl (ca 0, 7, .inl v_two)), (q_ways, .inl (ca 0, 49, .inl v_ways)), (q_now, .inl (ca 1, 81, .inr (.inl v_now))), (q_then, .inl (ca 1, 81, .inr (.inl v_then)))]) ⟨hx, hb, hml, hown, hts⟩ (c_X9_isTold l D ca H.size q_this q_text q_read q_l q_stands q_kept q_one q_two q_ways q_now q_then p1 v_size v_at v_keptMany v_l r_10 hg_11) (cwV 1 hts gX9_won_X9_isTold rfl rfl rfl (by decide +kernel) ⟨(Nat.le_of_ble_eq_true rfl), (Nat.le_of_ble_eq_true rfl)⟩) hK hP hD hS hA (ci := 8) (q0 := 0) rfl rfl [0, 1] [2, 3, 4, 5, 6, 7] [6, 7, 0, 1, 2, 3, 4, 5] rfl rfl rfl rfl (by decide) rfl rfl rfl hl.1 rfl (Nat.le_of_ble_eq_true rfl) dX9_won_33 ⟨Nat.zero_le _, Nat.zero_le _⟩ (fun H locs hP hD hS => ?_)
        refine lv_if_ne (tgt := 42) hx hb dX9_won_36 (by decide) (fun c_12 => ?_) (fun c_12 => ?_)
        · replace h := ifn_el c_12 h
          refine lv_aload_n hx hb dX9_won_42 rfl (lv_at hl 0 rfl) ?_
          refine lv_iload_n hx hb dX9_won_43 rfl (lv_at hl 1 rfl) ?_
          refine lv_iload_n hx hb dX9_won_44 rfl (lv_at hl 2 rfl) ?_
          obtain ⟨y_one_13, y_two_14, y_ways_15, y_now_16, y_then_17, hg_18, h⟩ := bd5_el h
          refine kx_Vv (As := [.int p1, .int p2]) (rest := []) (wr := []) (w1 := [(q_this, .inr (8, [.ref q_text, .int v_size, .int v_at, .ref q_read, .ref q_l, .ref q_stands, .ref q_kept, .int v_keptMany, .ref q_one, .ref q_two, .ref q_ways, .ref q_now, .ref q_then])), (q_l, .inl (ca 0, 336, .inl v_l)), (q_stands, .inl (ca 0, 16, .inl v_stands)), (q_one, .inl (ca 0, 7, .inl y_one_13)), (q_two, .inl (ca 0, 7, .inl y_two_14)), (q_ways, .inl (ca 0, 49, .inl y_ways_15)), (q_now, .inl (ca 1, 81, .inr (.inl y_now_16))), (q_then, .inl (ca 1, 81, .inr (.inl y_then_17)))]) (wn := [(q_this, .inr (8, [.ref q_text, .int v_size, .int v_at, .ref q_read, .ref q_l, .ref q_stands, .ref q_kept, .int v_keptMany, .ref q_one, .ref q_two, .ref q_ways, .ref q_now, .ref q_then])), (q_l, .inl (ca 0, 336, .inl v_l)), (q_stands, .inl (ca 0, 16, .inl v_stands)), (q_one, .inl (ca 0, 7, .inl y_one_13)), (q_two, .inl (ca 0, 7, .inl y_two_14)), (q_ways, .inl (ca 0, 49, .inl y_ways_15)), (q_now, .inl (ca 1, 81, .inr (.inl y_now_16))), (q_then, .inl (ca 1, 81, .inr (.inl y_then_17)))]) ⟨hx, hb, hml, hown, hts⟩ (c_X9_goAsTold l D ca F H.size q_this q_text q_read q_l q_stands q_kept q_one q_two q_ways q_now q_then p1 p2 v_size v_at v_keptMany v_l v_stands v_one v_two v_ways v_now v_then y_one_13 y_two_14 y_ways_15 y_now_16 y_then_17 hg_18) (cwV 2 hts gX9_won_X9_goAsTold rfl rfl rfl (by decide +kernel) ⟨(Nat.le_of_ble_eq_true rfl), (Nat.le_of_ble_eq_true rfl)⟩) hK hP hD hS hA (ci := 8) (q0 := 0) rfl rfl [0, 1, 2, 3, 4, 5, 6, 7] [] [0, 1, 2, 3, 4, 5, 6, 7] rfl rfl rfl rfl (by decide) rfl rfl rfl hl.1 rfl (Nat.le_of_ble_eq_true rfl) dX9_won_45 ⟨Nat.zero_le _, Nat.zero_le _⟩ (fun H locs hP hD hS => ?_)
          refine lv_aload_n hx hb dX9_won_48 rfl (lv_at hl 0 rfl) ?_
          refine lv_iload_n hx hb dX9_won_49 rfl (lv_at hl 3 rfl) ?_
          refine lv_aload_n hx hb dX9_won_50 rfl (lv_at hl 0 rfl) ?_
          refine va_get (D := D) (ci := 8) (v := .ref q_l) (C := RX9) (T := TX9) (N := 13) hx hb hts i_X9 hown hK hP 0 rfl rfl 4 (by decide) k_16 (fun _ h9 => h9) rfl dX9_won_51 ?_
          refine lv_sipush (v := (nI 298)) hx hb dX9_won_54 (by decide) ?_
          obtain ⟨hi_19, h⟩ := ck_el h
          refine va_iald hx hb hK hP 1 0 rfl rfl hi_19 dX9_won_57 ?_
          refine lv_aload_n hx hb dX9_won_58 rfl (lv_at hl 0 rfl) ?_
          refine va_get (D := D) (ci := 8) (v := .ref q_l) (C := RX9) (T := TX9) (N := 13) hx hb hts i_X9 hown hK hP 0 rfl rfl 4 (by decide) k_16 (fun _ h9 => h9) rfl dX9_won_59 ?_
          refine lv_sipush (v := (nI 299)) hx hb dX9_won_62 (by decide) ?_
          obtain ⟨hi_20, h⟩ := ck_el h
          refine va_iald hx hb hK hP 1 0 rfl rfl hi_20 dX9_won_65 ?_
          obtain ⟨r_21, hg_22, h⟩ := bd1_el h
          refine kx_Vl (As := [.int p3, .int (v_l (nI 298).toNatClampNeg), .int (v_l (nI 299).toNatClampNeg)]) (rest := []) (wr := [(q_l, .inl (ca 0, 336, .inl v_l)), (q_stands, .inl (ca 0, 16, .inl v_stands)), (q_one, .inl (ca 0, 7, .inl y_one_13)), (q_two, .inl (ca 0, 7, .inl y_two_14)), (q_ways, .inl (ca 0, 49, .inl y_ways_15)), (q_then, .inl (ca 1, 81, .inr (.inl y_then_17)))]) (w1 := [(q_this, .inr (8, [.ref q_text, .int v_size, .int v_at, .ref q_read, .ref q_l, .ref q_stands, .ref q_kept, .int v_keptMany, .ref q_one, .ref q_two, .ref q_ways, .ref q_now, .ref q_then])), (q_now, .inl (ca 1, 81, .inr (.inl y_now_16)))]) (wn := [(q_this, .inr (8, [.ref q_text, .int v_size, .int v_at, .ref q_read, .ref q_l, .ref q_stands, .ref q_kept, .int v_keptMany, .ref q_one, .ref q_two, .ref q_ways, .ref q_now, .ref q_then])), (q_l, .inl (ca 0, 336, .inl v_l)), (q_stands, .inl (ca 0, 16, .inl v_stands)), (q_one, .inl (ca 0, 7, .inl y_one_13)), (q_two, .inl (ca 0, 7, .inl y_two_14)), (q_ways, .inl (ca 0, 49, .inl y_ways_15)), (q_now, .inl (ca 1, 81, .inr (.inl y_now_16))), (q_then, .inl (ca 1, 81, .inr (.inl y_then_17)))]) ⟨hx, hb, hml, hown, hts⟩ (c_X9_wonBy l D ca H.size q_this q_text q_read q_l q_stands q_kept q_one q_two q_ways q_now q_then p3 (v_l (nI 298).toNatClampNeg) (v_l (nI 299).toNatClampNeg) v_size v_at v_keptMany y_now_16 r_21 hg_22) (cwV 3 hts gX9_won_X9_wonBy rfl rfl rfl (by decide +kernel) ⟨(Nat.le_of_ble_eq_true rfl), (Nat.le_of_ble_eq_true rfl)⟩) hK hP hD hS hA (ci := 8) (q0 := 0) rfl rfl [0, 6] [1, 2, 3, 4, 5, 7] [6, 0, 1, 2, 3, 4, 7, 5] rfl rfl rfl rfl (by decide) rfl rfl rfl hl.1 rfl (Nat.le_of_ble_eq_true rfl) dX9_won_66 ⟨Nat.zero_le _, Nat.zero_le _⟩ (fun H locs hP hD hS => ?_)
          refine lv_l2i hx hb dX9_won_69 rfl ?_
          cases h
          rw [← hQe]
          exact W.iret hx hb hr (fun t ht hW => ⟨⟨_, (), rfl, rfl, by rw [ht]; exact hP, va_K.moved hW.alike hK, hD⟩, hS.F ht⟩) hS.2.2 dX9_won_70
        · replace h := ifp_el c_12 h
          refine lv_bipush (v := (-2 : Int32)) hx hb dX9_won_39 (by decide) ?_
          cases h
          rw [← hQe]
          exact W.iret hx hb hr (fun t ht hW => ⟨⟨_, (), rfl, rfl, by rw [ht]; exact hP, va_K.moved hW.alike hK, hD⟩, hS.F ht⟩) hS.2.2 dX9_won_41
      · replace h := ifp_el c_9 h
        refine lv_iconst (v := (-1 : Int32)) hx hb dX9_won_29 (by decide) ?_
        cases h
        rw [← hQe]
        exact W.iret hx hb hr (fun t ht hW => ⟨⟨_, (), rfl, rfl, by rw [ht]; exact hP, va_K.moved hW.alike hK, hD⟩, hS.F ht⟩) hS.2.2 dX9_won_30
def D_X9_isEnough (p1 : Int64) (p2 : Int32) : Option (Int32) := (if (lg_cmp (p1 * (lN 100)) (p2.toInt64 * (lN 1000000))) < 0 then some ((nI 0)) else some ((nI 1)))
abbrev rm_X9_isEnough : Room := { frames := 0, cells := 0, slots := 0, locals := 0 }
set_option maxHeartbeats 4000000 in
set_option maxRecDepth 100000 in
theorem c_X9_isEnough (l : Launch) (D : va_G) (ca : Nat → ClassId) (sz : Nat) (p1 : Int64) (p2 : Int32) (r : Int32) (h : D_X9_isEnough p1 p2 = some (r)) : Met l yX9_isEnough wsX9_isEnough rm_X9_isEnough (va_Pc [.long p1, .int p2] (kPre D ca [] sz)) (kQi D ca (va_A [] sz) [] r) 0 0 (va_A [] sz) := by
  refine Met.ofW (cc := cX9_isEnough) (maxL := 3) (ret := (some .boolean)) (by decide +kernel) rfl ?_
  intro p e s m args below meth c s₁ B hml hv
  obtain ⟨rfl, hsz, hP, hK, hD0⟩ := hv
  have hx := B.exec
  have hb := B.bytes
  have hr := B.returns
  have hts := atoms_spec (ws := wsX9_isEnough) B.pre
  have hown : s.vm.findClass RX9 = some m.cls := findClass_of_methodNamed B.named
  have hlocks := B.notSynchronized
  clear B
  subst hsz
  have hD := hD0.self (sz := s.heap.size)
  generalize hAe : va_A [] s.heap.size = A at hD ⊢
  have hA : ∀ q : Nat, s.heap.size ≤ q → A q := fun q h => by rw [← hAe]; exact Or.inr h
  have hS : va_S A s.heap s.heap [] := va_S.rf
  have hl := lv_entry ([.long p1, .int p2]) (n := 3) (Nat.le_of_ble_eq_true rfl)
  rw [lg_entry_eq]
  generalize (lg_sl ([.long p1, .int p2]) ++ List.replicate (3 - (lg_sl ([.long p1, .int p2])).length) Slot.unset).toArray = ls at hl ⊢
  have hl : lv_has ls 3 [(0, .long p1), (2, .int p2)] := hl
  generalize ([.long p1, .int p2] : List Value).toArray = args at hts ⊢
  generalize hQe : MQ below (kQi D ca (A) [] r) args s 0 0 A = Q
  have k_168 := hts (.constantLong RX9 168 (lN 100)) (by decide +kernel)
  have k_166 := hts (.constantLong RX9 166 (lN 1000000)) (by decide +kernel)
  rw [D_X9_isEnough] at h
  refine lv_lload_n hx hb dX9_isEnough_0 rfl (lv_at hl 0 rfl) ?_
  refine lv_ldc2 hx hb hown k_168 dX9_isEnough_1 ?_
  refine lv_lmul hx hb dX9_isEnough_4 ?_
  refine lv_iload_n hx hb dX9_isEnough_5 rfl (lv_at hl 1 rfl) ?_
  refine lv_i2l hx hb dX9_isEnough_6 rfl ?_
  refine lv_ldc2 hx hb hown k_166 dX9_isEnough_7 ?_
  refine lv_lmul hx hb dX9_isEnough_10 ?_
  refine W.lcmp hx hb dX9_isEnough_11 ?_
  refine lv_if_lt (tgt := 19) hx hb dX9_isEnough_12 (by decide) (fun c_1 => ?_) (fun c_1 => ?_)
  · replace h := ifp_el c_1 h
    refine lv_iconst (v := (nI 0)) hx hb dX9_isEnough_19 (by decide) ?_
    cases h
    rw [← hQe]
    exact W.zret hx hb hr rfl (fun t ht hW => ⟨⟨_, (), rfl, rfl, by rw [ht]; exact hP, va_K.moved hW.alike hK, hD⟩, hS.F ht⟩) hS.2.2 dX9_isEnough_20
  · replace h := ifn_el c_1 h
    refine lv_iconst (v := (nI 1)) hx hb dX9_isEnough_15 (by decide) ?_
    refine lv_goto (tgt := 20) hx hb dX9_isEnough_16 (by decide) ?_
    cases h
    rw [← hQe]
    exact W.zret hx hb hr rfl (fun t ht hW => ⟨⟨_, (), rfl, rfl, by rw [ht]; exact hP, va_K.moved hW.alike hK, hD⟩, hS.F ht⟩) hS.2.2 dX9_isEnough_20
def b_X9_soon_40 (p1 : Int32) (p2 : Int32) (v_l : Nat → Int32) (F : Nat) (rec40 : Int32 → (Nat → Int32) → (Nat → Int32) → (Nat → Int32) → (Nat → Int64) → (Nat → Int64) → Option (Int32 × (Nat → Int32) × (Nat → Int32) × (Nat → Int32) × (Nat → Int64) × (Nat → Int64))) (x3_16 : Int32) (y_one_17 : Nat → Int32) (y_two_18 : Nat → Int32) (y_ways_19 : Nat → Int32) (y_now_20 : Nat → Int64) (y_then_21 : Nat → Int64) : Option (Int32 × (Nat → Int32) × (Nat → Int32) × (Nat → Int32) × (Nat → Int64) × (Nat → Int64)) := (if (nI 200) < x3_16 then some ((-4 : Int32), y_one_17, y_two_18, y_ways_19, y_now_20, y_then_21) else ck 336 (nI 298) (ck 336 (nI 299) (bd1 (D_X9_wonBy (nI 0) (v_l (nI 298).toNatClampNeg) (v_l (nI 299).toNatClampNeg) y_now_20) (fun r_25 => ck 336 (nI 298) (ck 336 (nI 299) (bd1 (D_X9_wonBy (nI 1) (v_l (nI 298).toNatClampNeg) (v_l (nI 299).toNatClampNeg) y_now_20) (fun r_29 => bd1 (D_X9_isEnough (r_25 + r_29) p2) (fun r_31 => (if r_31 = 0 then ck 336 (nI 298) (ck 336 (nI 299) (ck 336 (nI 300) (ck 336 (nI 301) (bd5 (D_X9_goOn F p1 (nI 1) (v_l (nI 298).toNatClampNeg) (v_l (nI 299).toNatClampNeg) (v_l (nI 300).toNatClampNeg) (v_l (nI 301).toNatClampNeg) v_l y_one_17 y_two_18 y_ways_19 y_now_20 y_then_21) (fun y_one_38 y_two_39 y_ways_40 y_now_41 y_then_42 => nm (x3_16 + (nI 1)) (fun x3_44 => rec40 x3_44 y_one_38 y_two_39 y_ways_40 y_now_41 y_then_42)))))) else some (x3_16, y_one_17, y_two_18, y_ways_19, y_now_20, y_then_21))))))))))
def D_X9_soon (F : Nat) (p1 : Int32) (p2 : Int32) (v_l : Nat → Int32) (v_stands : Nat → Int32) (v_one : Nat → Int32) (v_two : Nat → Int32) (v_ways : Nat → Int32) (v_now : Nat → Int64) (v_then : Nat → Int64) : Option (Int32 × (Nat → Int32) × (Nat → Int32) × (Nat → Int32) × (Nat → Int64) × (Nat → Int64)) := bd1 (D_X9_isMeaning p1) (fun r_1 => (if r_1 = 0 then some ((-1 : Int32), v_one, v_two, v_ways, v_now, v_then) else bd1 (D_X9_in p2.toInt64 (lN 1) (lN 100)) (fun r_4 => (if r_4 = 0 then some ((-1 : Int32), v_one, v_two, v_ways, v_now, v_then) else bd1 (D_X9_isTold p1 v_l) (fun r_7 => (if r_7 = 0 then some ((-2 : Int32), v_one, v_two, v_ways, v_now, v_then) else bd5 (D_X9_goAsTold F p1 (nI 0) v_l v_stands v_one v_two v_ways v_now v_then) (fun y_one_10 y_two_11 y_ways_12 y_now_13 y_then_14 => lpg (T := Int32 → (Nat → Int32) → (Nat → Int32) → (Nat → Int32) → (Nat → Int64) → (Nat → Int64) → Option (Int32 × (Nat → Int32) × (Nat → Int32) × (Nat → Int32) × (Nat → Int64) × (Nat → Int64))) (fun _ _ _ _ _ _ => none) (b_X9_soon_40 p1 p2 v_l F) F (nI 0) y_one_10 y_two_11 y_ways_12 y_now_13 y_then_14)))))))
abbrev rm_X9_soon : Room := { frames := 7, cells := 0, slots := 0, locals := 163 }
set_option maxHeartbeats 4000000 in
set_option maxRecDepth 100000 in
theorem c_X9_soon (l : Launch) (D : va_G) (ca : Nat → ClassId) (F : Nat) (sz : Nat) (q_this q_text q_read q_l q_stands q_kept q_one q_two q_ways q_now q_then : Nat) (p1 : Int32) (p2 : Int32) (v_size : Int32) (v_at : Int32) (v_keptMany : Int32) (v_l : Nat → Int32) (v_stands : Nat → Int32) (v_one : Nat → Int32) (v_two : Nat → Int32) (v_ways : Nat → Int32) (v_now : Nat → Int64) (v_then : Nat → Int64) (r : Int32) (o_one : Nat → Int32) (o_two : Nat → Int32) (o_ways : Nat → Int32) (o_now : Nat → Int64) (o_then : Nat → Int64) (h : D_X9_soon F p1 p2 v_l v_stands v_one v_two v_ways v_now v_then = some (r, o_one, o_two, o_ways, o_now, o_then)) : Met l yX9_soon wsX9_soon rm_X9_soon (va_Pc [.ref q_this, .int p1, .int p2] (kPre D ca [(q_this, .inr (8, [.ref q_text, .int v_size, .int v_at, .ref q_read, .ref q_l, .ref q_stands, .ref q_kept, .int v_keptMany, .ref q_one, .ref q_two, .ref q_ways, .ref q_now, .ref q_then])), (q_l, .inl (ca 0, 336, .inl v_l)), (q_stands, .inl (ca 0, 16, .inl v_stands)), (q_one, .inl (ca 0, 7, .inl v_one)), (q_two, .inl (ca 0, 7, .inl v_two)), (q_ways, .inl (ca 0, 49, .inl v_ways)), (q_now, .inl (ca 1, 81, .inr (.inl v_now))), (q_then, .inl (ca 1, 81, .inr (.inl v_then)))] sz)) (kQi D ca (va_A [(q_this, .inr (8, [.ref q_text, .int v_size, .int v_at, .ref q_read, .ref q_l, .ref q_stands, .ref q_kept, .int v_keptMany, .ref q_one, .ref q_two, .ref q_ways, .ref q_now, .ref q_then])), (q_l, .inl (ca 0, 336, .inl v_l)), (q_stands, .inl (ca 0, 16, .inl v_stands)), (q_one, .inl (ca 0, 7, .inl v_one)), (q_two, .inl (ca 0, 7, .inl v_two)), (q_ways, .inl (ca 0, 49, .inl v_ways)), (q_now, .inl (ca 1, 81, .inr (.inl v_now))), (q_then, .inl (ca 1, 81, .inr (.inl v_then)))] sz) [(q_this, .inr (8, [.ref q_text, .int v_size, .int v_at, .ref q_read, .ref q_l, .ref q_stands, .ref q_kept, .int v_keptMany, .ref q_one, .ref q_two, .ref q_ways, .ref q_now, .ref q_then])), (q_l, .inl (ca 0, 336, .inl v_l)), (q_stands, .inl (ca 0, 16, .inl v_stands)), (q_one, .inl (ca 0, 7, .inl o_one)), (q_two, .inl (ca 0, 7, .inl o_two)), (q_ways, .inl (ca 0, 49, .inl o_ways)), (q_now, .inl (ca 1, 81, .inr (.inl o_now))), (q_then, .inl (ca 1, 81, .inr (.inl o_then)))] r) 0 0 (va_A [(q_this, .inr (8, [.ref q_text, .int v_size, .int v_at, .ref q_read, .ref q_l, .ref q_stands, .ref q_kept, .int v_keptMany, .ref q_one, .ref q_two, .ref q_ways, .ref q_now, .ref q_then])), (q_l, .inl (ca 0, 336, .inl v_l)), (q_stands, .inl (ca 0, 16, .inl v_stands)), (q_one, .inl (ca 0, 7, .inl v_one)), (q_two, .inl (ca 0, 7, .inl v_two)), (q_ways, .inl (ca 0, 49, .inl v_ways)), (q_now, .inl (ca 1, 81, .inr (.inl v_now))), (q_then, .inl (ca 1, 81, .inr (.inl v_then)))] sz) := by
  refine Met.ofW (cc := cX9_soon) (maxL := 4) (ret := (some .int)) (by decide +kernel) rfl ?_
  intro p e s m args below meth c s₁ B hml hv
  obtain ⟨rfl, hsz, hP, hK, hD0⟩ := hv
  have hx := B.exec
  have hb := B.bytes
  have hr := B.returns
  have hts := atoms_spec (ws := wsX9_soon) B.pre
  have hown : s.vm.findClass RX9 = some m.cls := findClass_of_methodNamed B.named
  have hlocks := B.notSynchronized
  clear B
  subst hsz
  have hD := hD0.self (sz := s.heap.size)
  generalize hAe : va_A [(q_this, .inr (8, [.ref q_text, .int v_size, .int v_at, .ref q_read, .ref q_l, .ref q_stands, .ref q_kept, .int v_keptMany, .ref q_one, .ref q_two, .ref q_ways, .ref q_now, .ref q_then])), (q_l, .inl (ca 0, 336, .inl v_l)), (q_stands, .inl (ca 0, 16, .inl v_stands)), (q_one, .inl (ca 0, 7, .inl v_one)), (q_two, .inl (ca 0, 7, .inl v_two)), (q_ways, .inl (ca 0, 49, .inl v_ways)), (q_now, .inl (ca 1, 81, .inr (.inl v_now))), (q_then, .inl (ca 1, 81, .inr (.inl v_then)))] s.heap.size = A at hD ⊢
  have hA : ∀ q : Nat, s.heap.size ≤ q → A q := fun q h => by rw [← hAe]; exact Or.inr h
  have hS : va_S A s.heap s.heap [] := va_S.rf
  have hl := lv_entry ([.ref q_this, .int p1, .int p2]) (n := 4) (Nat.le_of_ble_eq_true rfl)
  rw [lg_entry_eq]
  generalize (lg_sl ([.ref q_this, .int p1, .int p2]) ++ List.replicate (4 - (lg_sl ([.ref q_this, .int p1, .int p2])).length) Slot.unset).toArray = ls at hl ⊢
  have hl : lv_has ls 4 [(0, .ref q_this), (1, .int p1), (2, .int p2)] := hl
  generalize ([.ref q_this, .int p1, .int p2] : List Value).toArray = args at hts ⊢
  generalize hQe : MQ below (kQi D ca (A) [(q_this, .inr (8, [.ref q_text, .int v_size, .int v_at, .ref q_read, .ref q_l, .ref q_stands, .ref q_kept, .int v_keptMany, .ref q_one, .ref q_two, .ref q_ways, .ref q_now, .ref q_then])), (q_l, .inl (ca 0, 336, .inl v_l)), (q_stands, .inl (ca 0, 16, .inl v_stands)), (q_one, .inl (ca 0, 7, .inl o_one)), (q_two, .inl (ca 0, 7, .inl o_two)), (q_ways, .inl (ca 0, 49, .inl o_ways)), (q_now, .inl (ca 1, 81, .inr (.inl o_now))), (q_then, .inl (ca 1, 81, .inr (.inl o_then)))] r) args s 0 0 A = Q
  have k_168 := hts (.constantLong RX9 168 (lN 100)) (by decide +kernel)
  have i_X9 : ∀ w ∈ u_ws RX9 TX9 13, w ∈ wsX9_soon := by decide +kernel
  have k_16 := hts (.fieldLink RX9 16 "TradeWordsModel" "l" "[I") (by decide +kernel)
  rw [D_X9_soon] at h
  refine lv_iload_n hx hb dX9_soon_0 rfl (lv_at hl 1 rfl) ?_
  obtain ⟨r_1, hg_2, h⟩ := bd1_el h
  refine kx_Si (As := [.int p1]) (rest := []) (wr := [(q_this, .inr (8, [.ref q_text, .int v_size, .int v_at, .ref q_read, .ref q_l, .ref q_stands, .ref q_kept, .int v_keptMany, .ref q_one, .ref q_two, .ref q_ways, .ref q_now, .ref q_then])), (q_l, .inl (ca 0, 336, .inl v_l)), (q_stands, .inl (ca 0, 16, .inl v_stands)), (q_one, .inl (ca 0, 7, .inl v_one)), (q_two, .inl (ca 0, 7, .inl v_two)), (q_ways, .inl (ca 0, 49, .inl v_ways)), (q_now, .inl (ca 1, 81, .inr (.inl v_now))), (q_then, .inl (ca 1, 81, .inr (.inl v_then)))]) (w1 := []) (wn := [(q_this, .inr (8, [.ref q_text, .int v_size, .int v_at, .ref q_read, .ref q_l, .ref q_stands, .ref q_kept, .int v_keptMany, .ref q_one, .ref q_two, .ref q_ways, .ref q_now, .ref q_then])), (q_l, .inl (ca 0, 336, .inl v_l)), (q_stands, .inl (ca 0, 16, .inl v_stands)), (q_one, .inl (ca 0, 7, .inl v_one)), (q_two, .inl (ca 0, 7, .inl v_two)), (q_ways, .inl (ca 0, 49, .inl v_ways)), (q_now, .inl (ca 1, 81, .inr (.inl v_now))), (q_then, .inl (ca 1, 81, .inr (.inl v_then)))]) ⟨hx, hb, hml, hown, hts⟩ (c_X9_isMeaning l D ca s.heap.size p1 r_1 hg_2) (va_cwS 1 hts gX9_soon_X9_isMeaning rfl rfl rfl (by decide +kernel) ⟨(Nat.le_of_ble_eq_true rfl), (Nat.le_of_ble_eq_true rfl)⟩) hK hP hD hS hA [] [0, 1, 2, 3, 4, 5, 6, 7] [0, 1, 2, 3, 4, 5, 6, 7] rfl rfl rfl rfl (by decide) rfl rfl rfl hl.1 rfl (Nat.le_of_ble_eq_true rfl) dX9_soon_1 ⟨Nat.zero_le _, Nat.zero_le _⟩ (fun H locs hP hD hS => ?_)
  refine lv_if_eq (tgt := 19) hx hb dX9_soon_4 (by decide) (fun c_3 => ?_) (fun c_3 => ?_)
  · replace h := ifp_el c_3 h
    refine lv_iconst (v := (-1 : Int32)) hx hb dX9_soon_19 (by decide) ?_
    cases h
    rw [← hQe]
    exact W.iret hx hb hr (fun t ht hW => ⟨⟨_, (), rfl, rfl, by rw [ht]; exact hP, va_K.moved hW.alike hK, hD⟩, hS.F ht⟩) hS.2.2 dX9_soon_20
  · replace h := ifn_el c_3 h
    refine lv_iload_n hx hb dX9_soon_7 rfl (lv_at hl 2 rfl) ?_
    refine lv_i2l hx hb dX9_soon_8 rfl ?_
    refine lv_lconst (v := (lN 1)) hx hb dX9_soon_9 (by decide) ?_
    refine lv_ldc2 hx hb hown k_168 dX9_soon_10 ?_
    obtain ⟨r_4, hg_5, h⟩ := bd1_el h
    refine kx_Si (As := [.long p2.toInt64, .long (lN 1), .long (lN 100)]) (rest := []) (wr := [(q_this, .inr (8, [.ref q_text, .int v_size, .int v_at, .ref q_read, .ref q_l, .ref q_stands, .ref q_kept, .int v_keptMany, .ref q_one, .ref q_two, .ref q_ways, .ref q_now, .ref q_then])), (q_l, .inl (ca 0, 336, .inl v_l)), (q_stands, .inl (ca 0, 16, .inl v_stands)), (q_one, .inl (ca 0, 7, .inl v_one)), (q_two, .inl (ca 0, 7, .inl v_two)), (q_ways, .inl (ca 0, 49, .inl v_ways)), (q_now, .inl (ca 1, 81, .inr (.inl v_now))), (q_then, .inl (ca 1, 81, .inr (.inl v_then)))]) (w1 := []) (wn := [(q_this, .inr (8, [.ref q_text, .int v_size, .int v_at, .ref q_read, .ref q_l, .ref q_stands, .ref q_kept, .int v_keptMany, .ref q_one, .ref q_two, .ref q_ways, .ref q_now, .ref q_then])), (q_l, .inl (ca 0, 336, .inl v_l)), (q_stands, .inl (ca 0, 16, .inl v_stands)), (q_one, .inl (ca 0, 7, .inl v_one)), (q_two, .inl (ca 0, 7, .inl v_two)), (q_ways, .inl (ca 0, 49, .inl v_ways)), (q_now, .inl (ca 1, 81, .inr (.inl v_now))), (q_then, .inl (ca 1, 81, .inr (.inl v_then)))]) ⟨hx, hb, hml, hown, hts⟩ (c_X9_in l D ca H.size p2.toInt64 (lN 1) (lN 100) r_4 hg_5) (va_cwS 3 hts gX9_soon_X9_in rfl rfl rfl (by decide +kernel) ⟨(Nat.le_of_ble_eq_true rfl), (Nat.le_of_ble_eq_true rfl)⟩) hK hP hD hS hA [] [0, 1, 2, 3, 4, 5, 6, 7] [0, 1, 2, 3, 4, 5, 6, 7] rfl rfl rfl rfl (by decide) rfl rfl rfl hl.1 rfl (Nat.le_of_ble_eq_true rfl) dX9_soon_13 ⟨Nat.zero_le _, Nat.zero_le _⟩ (fun H locs hP hD hS => ?_)
    refine lv_if_ne (tgt := 21) hx hb dX9_soon_16 (by decide) (fun c_6 => ?_) (fun c_6 => ?_)
    · replace h := ifn_el c_6 h
      refine lv_aload_n hx hb dX9_soon_21 rfl (lv_at hl 0 rfl) ?_
      refine lv_iload_n hx hb dX9_soon_22 rfl (lv_at hl 1 rfl) ?_
      obtain ⟨r_7, hg_8, h⟩ := bd1_el h
      refine kx_Vi (As := [.int p1]) (rest := []) (wr := [(q_stands, .inl (ca 0, 16, .inl v_stands)), (q_one, .inl (ca 0, 7, .inl v_one)), (q_two, .inl (ca 0, 7, .inl v_two)), (q_ways, .inl (ca 0, 49, .inl v_ways)), (q_now, .inl (ca 1, 81, .inr (.inl v_now))), (q_then, .inl (ca 1, 81, .inr (.inl v_then)))]) (w1 := [(q_this, .inr (8, [.ref q_text, .int v_size, .int v_at, .ref q_read, .ref q_l, .ref q_stands, .ref q_kept, .int v_keptMany, .ref q_one, .ref q_two, .ref q_ways, .ref q_now, .ref q_then])), (q_l, .inl (ca 0, 336, .inl v_l))]) (wn := [(q_this, .inr (8, [.ref q_text, .int v_size, .int v_at, .ref q_read, .ref q_l, .ref q_stands, .ref q_kept, .int v_keptMany, .ref q_one, .ref q_two, .ref q_ways, .ref q_now, .ref q_then])), (q_l, .inl (ca 0, 336, .inl v_l)), (q_stands, .inl (ca 0, 16, .inl v_stands)), (q_one, .inl (ca 0, 7, .inl v_one)), (q_two, .inl (ca 0, 7, .inl v_two)), (q_ways, .inl (ca 0, 49, .inl v_ways)), (q_now, .inl (ca 1, 81, .inr (.inl v_now))), (q_then, .inl (ca 1, 81, .inr (.inl v_then)))]) ⟨hx, hb, hml, hown, hts⟩ (c_X9_isTold l D ca H.size q_this q_text q_read q_l q_stands q_kept q_one q_two q_ways q_now q_then p1 v_size v_at v_keptMany v_l r_7 hg_8) (cwV 1 hts gX9_soon_X9_isTold rfl rfl rfl (by decide +kernel) ⟨(Nat.le_of_ble_eq_true rfl), (Nat.le_of_ble_eq_true rfl)⟩) hK hP hD hS hA (ci := 8) (q0 := 0) rfl rfl [0, 1] [2, 3, 4, 5, 6, 7] [6, 7, 0, 1, 2, 3, 4, 5] rfl rfl rfl rfl (by decide) rfl rfl rfl hl.1 rfl (Nat.le_of_ble_eq_true rfl) dX9_soon_23 ⟨Nat.zero_le _, Nat.zero_le _⟩ (fun H locs hP hD hS => ?_)
      refine lv_if_ne (tgt := 32) hx hb dX9_soon_26 (by decide) (fun c_9 => ?_) (fun c_9 => ?_)
      · replace h := ifn_el c_9 h
        refine lv_aload_n hx hb dX9_soon_32 rfl (lv_at hl 0 rfl) ?_
        refine lv_iload_n hx hb dX9_soon_33 rfl (lv_at hl 1 rfl) ?_
        refine lv_iconst (v := (nI 0)) hx hb dX9_soon_34 (by decide) ?_
        obtain ⟨y_one_10, y_two_11, y_ways_12, y_now_13, y_then_14, hg_15, h⟩ := bd5_el h
        refine kx_Vv (As := [.int p1, .int (nI 0)]) (rest := []) (wr := []) (w1 := [(q_this, .inr (8, [.ref q_text, .int v_size, .int v_at, .ref q_read, .ref q_l, .ref q_stands, .ref q_kept, .int v_keptMany, .ref q_one, .ref q_two, .ref q_ways, .ref q_now, .ref q_then])), (q_l, .inl (ca 0, 336, .inl v_l)), (q_stands, .inl (ca 0, 16, .inl v_stands)), (q_one, .inl (ca 0, 7, .inl y_one_10)), (q_two, .inl (ca 0, 7, .inl y_two_11)), (q_ways, .inl (ca 0, 49, .inl y_ways_12)), (q_now, .inl (ca 1, 81, .inr (.inl y_now_13))), (q_then, .inl (ca 1, 81, .inr (.inl y_then_14)))]) (wn := [(q_this, .inr (8, [.ref q_text, .int v_size, .int v_at, .ref q_read, .ref q_l, .ref q_stands, .ref q_kept, .int v_keptMany, .ref q_one, .ref q_two, .ref q_ways, .ref q_now, .ref q_then])), (q_l, .inl (ca 0, 336, .inl v_l)), (q_stands, .inl (ca 0, 16, .inl v_stands)), (q_one, .inl (ca 0, 7, .inl y_one_10)), (q_two, .inl (ca 0, 7, .inl y_two_11)), (q_ways, .inl (ca 0, 49, .inl y_ways_12)), (q_now, .inl (ca 1, 81, .inr (.inl y_now_13))), (q_then, .inl (ca 1, 81, .inr (.inl y_then_14)))]) ⟨hx, hb, hml, hown, hts⟩ (c_X9_goAsTold l D ca F H.size q_this q_text q_read q_l q_stands q_kept q_one q_two q_ways q_now q_then p1 (nI 0) v_size v_at v_keptMany v_l v_stands v_one v_two v_ways v_now v_then y_one_10 y_two_11 y_ways_12 y_now_13 y_then_14 hg_15) (cwV 2 hts gX9_soon_X9_goAsTold rfl rfl rfl (by decide +kernel) ⟨(Nat.le_of_ble_eq_true rfl), (Nat.le_of_ble_eq_true rfl)⟩) hK hP hD hS hA (ci := 8) (q0 := 0) rfl rfl [0, 1, 2, 3, 4, 5, 6, 7] [] [0, 1, 2, 3, 4, 5, 6, 7] rfl rfl rfl rfl (by decide) rfl rfl rfl hl.1 rfl (Nat.le_of_ble_eq_true rfl) dX9_soon_35 ⟨Nat.zero_le _, Nat.zero_le _⟩ (fun H locs hP hD hS => ?_)
        refine lv_iconst (v := (nI 0)) hx hb dX9_soon_38 (by decide) ?_
        refine lv_istore_n (lv' := [(3, .int (nI 0)), (0, .ref q_this), (1, .int p1), (2, .int p2)]) hx hb dX9_soon_39 rfl hl (by decide) rfl (fun ls hl => ?_)
        have hlp : ∀ (n : Nat) (x3_16 : Int32) (y_one_17 : Nat → Int32) (y_two_18 : Nat → Int32) (y_ways_19 : Nat → Int32) (y_now_20 : Nat → Int64) (y_then_21 : Nat → Int64) (H : Heap) (locs : List Loc) (ls : Array Slot), lpg (T := Int32 → (Nat → Int32) → (Nat → Int32) → (Nat → Int32) → (Nat → Int64) → (Nat → Int64) → Option (Int32 × (Nat → Int32) × (Nat → Int32) × (Nat → Int32) × (Nat → Int64) × (Nat → Int64))) (fun _ _ _ _ _ _ => none) (b_X9_soon_40 p1 p2 v_l F) n x3_16 y_one_17 y_two_18 y_ways_19 y_now_20 y_then_21 = some (r, o_one, o_two, o_ways, o_now, o_then) → va_P D vwCl [(q_this, .inr (8, [.ref q_text, .int v_size, .int v_at, .ref q_read, .ref q_l, .ref q_stands, .ref q_kept, .int v_keptMany, .ref q_one, .ref q_two, .ref q_ways, .ref q_now, .ref q_then])), (q_l, .inl (ca 0, 336, .inl v_l)), (q_stands, .inl (ca 0, 16, .inl v_stands)), (q_one, .inl (ca 0, 7, .inl y_one_17)), (q_two, .inl (ca 0, 7, .inl y_two_18)), (q_ways, .inl (ca 0, 49, .inl y_ways_19)), (q_now, .inl (ca 1, 81, .inr (.inl y_now_20))), (q_then, .inl (ca 1, 81, .inr (.inl y_then_21)))] H → va_D A [(q_this, .inr (8, [.ref q_text, .int v_size, .int v_at, .ref q_read, .ref q_l, .ref q_stands, .ref q_kept, .int v_keptMany, .ref q_one, .ref q_two, .ref q_ways, .ref q_now, .ref q_then])), (q_l, .inl (ca 0, 336, .inl v_l)), (q_stands, .inl (ca 0, 16, .inl v_stands)), (q_one, .inl (ca 0, 7, .inl y_one_17)), (q_two, .inl (ca 0, 7, .inl y_two_18)), (q_ways, .inl (ca 0, 49, .inl y_ways_19)), (q_now, .inl (ca 1, 81, .inr (.inl y_now_20))), (q_then, .inl (ca 1, 81, .inr (.inl y_then_21)))] → va_S A s.heap H locs → lv_has ls 4 [(0, .ref q_this), (1, .int p1), (2, .int p2), (3, .int x3_16)] → W p l e (headSpec wsX9_soon rm_X9_soon).room s m args below meth c H locs 0 0 Q (F0 m 40 ls []) := by
          intro n
          induction n with
          | zero => intro x3_16 y_one_17 y_two_18 y_ways_19 y_now_20 y_then_21 H locs ls h; have h : (none : Option (Int32 × (Nat → Int32) × (Nat → Int32) × (Nat → Int32) × (Nat → Int64) × (Nat → Int64))) = some _ := h; cases h
          | succ n ih =>
            intro x3_16 y_one_17 y_two_18 y_ways_19 y_now_20 y_then_21 H locs ls h hP hD hS hl
            rw [lpg_succ, b_X9_soon_40] at h
            refine lv_iload_n hx hb dX9_soon_40 rfl (lv_at hl 3 rfl) ?_
            refine lv_sipush (v := (nI 200)) hx hb dX9_soon_41 (by decide) ?_
            refine lv_icmp_gt (tgt := 143) hx hb dX9_soon_44 (by decide) (fun c_22 => ?_) (fun c_22 => ?_)
            · replace h := ifp_el c_22 h
              refine lv_bipush (v := (-4 : Int32)) hx hb dX9_soon_143 (by decide) ?_
              cases h
              rw [← hQe]
              exact W.iret hx hb hr (fun t ht hW => ⟨⟨_, (), rfl, rfl, by rw [ht]; exact hP, va_K.moved hW.alike hK, hD⟩, hS.F ht⟩) hS.2.2 dX9_soon_145
            · replace h := ifn_el c_22 h
              refine lv_aload_n hx hb dX9_soon_47 rfl (lv_at hl 0 rfl) ?_
              refine lv_iconst (v := (nI 0)) hx hb dX9_soon_48 (by decide) ?_
              refine lv_aload_n hx hb dX9_soon_49 rfl (lv_at hl 0 rfl) ?_
              refine va_get (D := D) (ci := 8) (v := .ref q_l) (C := RX9) (T := TX9) (N := 13) hx hb hts i_X9 hown hK hP 0 rfl rfl 4 (by decide) k_16 (fun _ h9 => h9) rfl dX9_soon_50 ?_
              refine lv_sipush (v := (nI 298)) hx hb dX9_soon_53 (by decide) ?_
              obtain ⟨hi_23, h⟩ := ck_el h
              refine va_iald hx hb hK hP 1 0 rfl rfl hi_23 dX9_soon_56 ?_
              refine lv_aload_n hx hb dX9_soon_57 rfl (lv_at hl 0 rfl) ?_
              refine va_get (D := D) (ci := 8) (v := .ref q_l) (C := RX9) (T := TX9) (N := 13) hx hb hts i_X9 hown hK hP 0 rfl rfl 4 (by decide) k_16 (fun _ h9 => h9) rfl dX9_soon_58 ?_
              refine lv_sipush (v := (nI 299)) hx hb dX9_soon_61 (by decide) ?_
              obtain ⟨hi_24, h⟩ := ck_el h
              refine va_iald hx hb hK hP 1 0 rfl rfl hi_24 dX9_soon_64 ?_
              obtain ⟨r_25, hg_26, h⟩ := bd1_el h
              refine kx_Vl (As := [.int (nI 0), .int (v_l (nI 298).toNatClampNeg), .int (v_l (nI 299).toNatClampNeg)]) (rest := []) (wr := [(q_l, .inl (ca 0, 336, .inl v_l)), (q_stands, .inl (ca 0, 16, .inl v_stands)), (q_one, .inl (ca 0, 7, .inl y_one_17)), (q_two, .inl (ca 0, 7, .inl y_two_18)), (q_ways, .inl (ca 0, 49, .inl y_ways_19)), (q_then, .inl (ca 1, 81, .inr (.inl y_then_21)))]) (w1 := [(q_this, .inr (8, [.ref q_text, .int v_size, .int v_at, .ref q_read, .ref q_l, .ref q_stands, .ref q_kept, .int v_keptMany, .ref q_one, .ref q_two, .ref q_ways, .ref q_now, .ref q_then])), (q_now, .inl (ca 1, 81, .inr (.inl y_now_20)))]) (wn := [(q_this, .inr (8, [.ref q_text, .int v_size, .int v_at, .ref q_read, .ref q_l, .ref q_stands, .ref q_kept, .int v_keptMany, .ref q_one, .ref q_two, .ref q_ways, .ref q_now, .ref q_then])), (q_l, .inl (ca 0, 336, .inl v_l)), (q_stands, .inl (ca 0, 16, .inl v_stands)), (q_one, .inl (ca 0, 7, .inl y_one_17)), (q_two, .inl (ca 0, 7, .inl y_two_18)), (q_ways, .inl (ca 0, 49, .inl y_ways_19)), (q_now, .inl (ca 1, 81, .inr (.inl y_now_20))), (q_then, .inl (ca 1, 81, .inr (.inl y_then_21)))]) ⟨hx, hb, hml, hown, hts⟩ (c_X9_wonBy l D ca H.size q_this q_text q_read q_l q_stands q_kept q_one q_two q_ways q_now q_then (nI 0) (v_l (nI 298).toNatClampNeg) (v_l (nI 299).toNatClampNeg) v_size v_at v_keptMany y_now_20 r_25 hg_26) (cwV 3 hts gX9_soon_X9_wonBy rfl rfl rfl (by decide +kernel) ⟨(Nat.le_of_ble_eq_true rfl), (Nat.le_of_ble_eq_true rfl)⟩) hK hP hD hS hA (ci := 8) (q0 := 0) rfl rfl [0, 6] [1, 2, 3, 4, 5, 7] [6, 0, 1, 2, 3, 4, 7, 5] rfl rfl rfl rfl (by decide) rfl rfl rfl hl.1 rfl (Nat.le_of_ble_eq_true rfl) dX9_soon_65 ⟨Nat.zero_le _, Nat.zero_le _⟩ (fun H locs hP hD hS => ?_)
              refine lv_aload_n hx hb dX9_soon_68 rfl (lv_at hl 0 rfl) ?_
              refine lv_iconst (v := (nI 1)) hx hb dX9_soon_69 (by decide) ?_
              refine lv_aload_n hx hb dX9_soon_70 rfl (lv_at hl 0 rfl) ?_
              refine va_get (D := D) (ci := 8) (v := .ref q_l) (C := RX9) (T := TX9) (N := 13) hx hb hts i_X9 hown hK hP 0 rfl rfl 4 (by decide) k_16 (fun _ h9 => h9) rfl dX9_soon_71 ?_
              refine lv_sipush (v := (nI 298)) hx hb dX9_soon_74 (by decide) ?_
              obtain ⟨hi_27, h⟩ := ck_el h
              refine va_iald hx hb hK hP 1 0 rfl rfl hi_27 dX9_soon_77 ?_
              refine lv_aload_n hx hb dX9_soon_78 rfl (lv_at hl 0 rfl) ?_
              refine va_get (D := D) (ci := 8) (v := .ref q_l) (C := RX9) (T := TX9) (N := 13) hx hb hts i_X9 hown hK hP 0 rfl rfl 4 (by decide) k_16 (fun _ h9 => h9) rfl dX9_soon_79 ?_
              refine lv_sipush (v := (nI 299)) hx hb dX9_soon_82 (by decide) ?_
              obtain ⟨hi_28, h⟩ := ck_el h
              refine va_iald hx hb hK hP 1 0 rfl rfl hi_28 dX9_soon_85 ?_
              obtain ⟨r_29, hg_30, h⟩ := bd1_el h
              refine kx_Vl (As := [.int (nI 1), .int (v_l (nI 298).toNatClampNeg), .int (v_l (nI 299).toNatClampNeg)]) (rest := [.long r_25]) (wr := [(q_l, .inl (ca 0, 336, .inl v_l)), (q_stands, .inl (ca 0, 16, .inl v_stands)), (q_one, .inl (ca 0, 7, .inl y_one_17)), (q_two, .inl (ca 0, 7, .inl y_two_18)), (q_ways, .inl (ca 0, 49, .inl y_ways_19)), (q_then, .inl (ca 1, 81, .inr (.inl y_then_21)))]) (w1 := [(q_this, .inr (8, [.ref q_text, .int v_size, .int v_at, .ref q_read, .ref q_l, .ref q_stands, .ref q_kept, .int v_keptMany, .ref q_one, .ref q_two, .ref q_ways, .ref q_now, .ref q_then])), (q_now, .inl (ca 1, 81, .inr (.inl y_now_20)))]) (wn := [(q_this, .inr (8, [.ref q_text, .int v_size, .int v_at, .ref q_read, .ref q_l, .ref q_stands, .ref q_kept, .int v_keptMany, .ref q_one, .ref q_two, .ref q_ways, .ref q_now, .ref q_then])), (q_l, .inl (ca 0, 336, .inl v_l)), (q_stands, .inl (ca 0, 16, .inl v_stands)), (q_one, .inl (ca 0, 7, .inl y_one_17)), (q_two, .inl (ca 0, 7, .inl y_two_18)), (q_ways, .inl (ca 0, 49, .inl y_ways_19)), (q_now, .inl (ca 1, 81, .inr (.inl y_now_20))), (q_then, .inl (ca 1, 81, .inr (.inl y_then_21)))]) ⟨hx, hb, hml, hown, hts⟩ (c_X9_wonBy l D ca H.size q_this q_text q_read q_l q_stands q_kept q_one q_two q_ways q_now q_then (nI 1) (v_l (nI 298).toNatClampNeg) (v_l (nI 299).toNatClampNeg) v_size v_at v_keptMany y_now_20 r_29 hg_30) (cwV 3 hts gX9_soon_X9_wonBy rfl rfl rfl (by decide +kernel) ⟨(Nat.le_of_ble_eq_true rfl), (Nat.le_of_ble_eq_true rfl)⟩) hK hP hD hS hA (ci := 8) (q0 := 0) rfl rfl [0, 6] [1, 2, 3, 4, 5, 7] [6, 0, 1, 2, 3, 4, 7, 5] rfl rfl rfl rfl (by decide) rfl rfl rfl hl.1 rfl (Nat.le_of_ble_eq_true rfl) dX9_soon_86 ⟨Nat.zero_le _, Nat.zero_le _⟩ (fun H locs hP hD hS => ?_)
              refine lv_ladd hx hb dX9_soon_89 ?_
              refine lv_iload_n hx hb dX9_soon_90 rfl (lv_at hl 2 rfl) ?_
              obtain ⟨r_31, hg_32, h⟩ := bd1_el h
              refine kx_Si (As := [.long (r_25 + r_29), .int p2]) (rest := []) (wr := [(q_this, .inr (8, [.ref q_text, .int v_size, .int v_at, .ref q_read, .ref q_l, .ref q_stands, .ref q_kept, .int v_keptMany, .ref q_one, .ref q_two, .ref q_ways, .ref q_now, .ref q_then])), (q_l, .inl (ca 0, 336, .inl v_l)), (q_stands, .inl (ca 0, 16, .inl v_stands)), (q_one, .inl (ca 0, 7, .inl y_one_17)), (q_two, .inl (ca 0, 7, .inl y_two_18)), (q_ways, .inl (ca 0, 49, .inl y_ways_19)), (q_now, .inl (ca 1, 81, .inr (.inl y_now_20))), (q_then, .inl (ca 1, 81, .inr (.inl y_then_21)))]) (w1 := []) (wn := [(q_this, .inr (8, [.ref q_text, .int v_size, .int v_at, .ref q_read, .ref q_l, .ref q_stands, .ref q_kept, .int v_keptMany, .ref q_one, .ref q_two, .ref q_ways, .ref q_now, .ref q_then])), (q_l, .inl (ca 0, 336, .inl v_l)), (q_stands, .inl (ca 0, 16, .inl v_stands)), (q_one, .inl (ca 0, 7, .inl y_one_17)), (q_two, .inl (ca 0, 7, .inl y_two_18)), (q_ways, .inl (ca 0, 49, .inl y_ways_19)), (q_now, .inl (ca 1, 81, .inr (.inl y_now_20))), (q_then, .inl (ca 1, 81, .inr (.inl y_then_21)))]) ⟨hx, hb, hml, hown, hts⟩ (c_X9_isEnough l D ca H.size (r_25 + r_29) p2 r_31 hg_32) (va_cwS 2 hts gX9_soon_X9_isEnough rfl rfl rfl (by decide +kernel) ⟨(Nat.le_of_ble_eq_true rfl), (Nat.le_of_ble_eq_true rfl)⟩) hK hP hD hS hA [] [0, 1, 2, 3, 4, 5, 6, 7] [0, 1, 2, 3, 4, 5, 6, 7] rfl rfl rfl rfl (by decide) rfl rfl rfl hl.1 rfl (Nat.le_of_ble_eq_true rfl) dX9_soon_91 ⟨Nat.zero_le _, Nat.zero_le _⟩ (fun H locs hP hD hS => ?_)
              refine lv_if_eq (tgt := 99) hx hb dX9_soon_94 (by decide) (fun c_33 => ?_) (fun c_33 => ?_)
              · replace h := ifp_el c_33 h
                refine lv_aload_n hx hb dX9_soon_99 rfl (lv_at hl 0 rfl) ?_
                refine lv_iload_n hx hb dX9_soon_100 rfl (lv_at hl 1 rfl) ?_
                refine lv_iconst (v := (nI 1)) hx hb dX9_soon_101 (by decide) ?_
                refine lv_aload_n hx hb dX9_soon_102 rfl (lv_at hl 0 rfl) ?_
                refine va_get (D := D) (ci := 8) (v := .ref q_l) (C := RX9) (T := TX9) (N := 13) hx hb hts i_X9 hown hK hP 0 rfl rfl 4 (by decide) k_16 (fun _ h9 => h9) rfl dX9_soon_103 ?_
                refine lv_sipush (v := (nI 298)) hx hb dX9_soon_106 (by decide) ?_
                obtain ⟨hi_34, h⟩ := ck_el h
                refine va_iald hx hb hK hP 1 0 rfl rfl hi_34 dX9_soon_109 ?_
                refine lv_aload_n hx hb dX9_soon_110 rfl (lv_at hl 0 rfl) ?_
                refine va_get (D := D) (ci := 8) (v := .ref q_l) (C := RX9) (T := TX9) (N := 13) hx hb hts i_X9 hown hK hP 0 rfl rfl 4 (by decide) k_16 (fun _ h9 => h9) rfl dX9_soon_111 ?_
                refine lv_sipush (v := (nI 299)) hx hb dX9_soon_114 (by decide) ?_
                obtain ⟨hi_35, h⟩ := ck_el h
                refine va_iald hx hb hK hP 1 0 rfl rfl hi_35 dX9_soon_117 ?_
                refine lv_aload_n hx hb dX9_soon_118 rfl (lv_at hl 0 rfl) ?_
                refine va_get (D := D) (ci := 8) (v := .ref q_l) (C := RX9) (T := TX9) (N := 13) hx hb hts i_X9 hown hK hP 0 rfl rfl 4 (by decide) k_16 (fun _ h9 => h9) rfl dX9_soon_119 ?_
                refine lv_sipush (v := (nI 300)) hx hb dX9_soon_122 (by decide) ?_
                obtain ⟨hi_36, h⟩ := ck_el h
                refine va_iald hx hb hK hP 1 0 rfl rfl hi_36 dX9_soon_125 ?_
                refine lv_aload_n hx hb dX9_soon_126 rfl (lv_at hl 0 rfl) ?_
                refine va_get (D := D) (ci := 8) (v := .ref q_l) (C := RX9) (T := TX9) (N := 13) hx hb hts i_X9 hown hK hP 0 rfl rfl 4 (by decide) k_16 (fun _ h9 => h9) rfl dX9_soon_127 ?_
                refine lv_sipush (v := (nI 301)) hx hb dX9_soon_130 (by decide) ?_
                obtain ⟨hi_37, h⟩ := ck_el h
                refine va_iald hx hb hK hP 1 0 rfl rfl hi_37 dX9_soon_133 ?_
                obtain ⟨y_one_38, y_two_39, y_ways_40, y_now_41, y_then_42, hg_43, h⟩ := bd5_el h
                refine kx_Vv (As := [.int p1, .int (nI 1), .int (v_l (nI 298).toNatClampNeg), .int (v_l (nI 299).toNatClampNeg), .int (v_l (nI 300).toNatClampNeg), .int (v_l (nI 301).toNatClampNeg)]) (rest := []) (wr := [(q_stands, .inl (ca 0, 16, .inl v_stands))]) (w1 := [(q_this, .inr (8, [.ref q_text, .int v_size, .int v_at, .ref q_read, .ref q_l, .ref q_stands, .ref q_kept, .int v_keptMany, .ref q_one, .ref q_two, .ref q_ways, .ref q_now, .ref q_then])), (q_l, .inl (ca 0, 336, .inl v_l)), (q_one, .inl (ca 0, 7, .inl y_one_38)), (q_two, .inl (ca 0, 7, .inl y_two_39)), (q_ways, .inl (ca 0, 49, .inl y_ways_40)), (q_now, .inl (ca 1, 81, .inr (.inl y_now_41))), (q_then, .inl (ca 1, 81, .inr (.inl y_then_42)))]) (wn := [(q_this, .inr (8, [.ref q_text, .int v_size, .int v_at, .ref q_read, .ref q_l, .ref q_stands, .ref q_kept, .int v_keptMany, .ref q_one, .ref q_two, .ref q_ways, .ref q_now, .ref q_then])), (q_l, .inl (ca 0, 336, .inl v_l)), (q_stands, .inl (ca 0, 16, .inl v_stands)), (q_one, .inl (ca 0, 7, .inl y_one_38)), (q_two, .inl (ca 0, 7, .inl y_two_39)), (q_ways, .inl (ca 0, 49, .inl y_ways_40)), (q_now, .inl (ca 1, 81, .inr (.inl y_now_41))), (q_then, .inl (ca 1, 81, .inr (.inl y_then_42)))]) ⟨hx, hb, hml, hown, hts⟩ (c_X9_goOn l D ca F H.size q_this q_text q_read q_l q_stands q_kept q_one q_two q_ways q_now q_then p1 (nI 1) (v_l (nI 298).toNatClampNeg) (v_l (nI 299).toNatClampNeg) (v_l (nI 300).toNatClampNeg) (v_l (nI 301).toNatClampNeg) v_size v_at v_keptMany v_l y_one_17 y_two_18 y_ways_19 y_now_20 y_then_21 y_one_38 y_two_39 y_ways_40 y_now_41 y_then_42 hg_43) (cwV 6 hts gX9_soon_X9_goOn rfl rfl rfl (by decide +kernel) ⟨(Nat.le_of_ble_eq_true rfl), (Nat.le_of_ble_eq_true rfl)⟩) hK hP hD hS hA (ci := 8) (q0 := 0) rfl rfl [0, 1, 3, 4, 5, 6, 7] [2] [1, 2, 0, 3, 4, 5, 6, 7] rfl rfl rfl rfl (by decide) rfl rfl rfl hl.1 rfl (Nat.le_of_ble_eq_true rfl) dX9_soon_134 ⟨Nat.zero_le _, Nat.zero_le _⟩ (fun H locs hP hD hS => ?_)
                obtain ⟨x3_44, e_45, h⟩ := nm_el h
                refine lv_iinc (v := x3_44) (lv' := [(3, .int x3_44), (0, .ref q_this), (1, .int p1), (2, .int p2)]) hx hb dX9_soon_137 hl (k := 3) rfl (by rw [← e_45]; rfl) (by decide) rfl (fun ls hl => ?_)
                refine lv_goto (tgt := 40) hx hb dX9_soon_140 (by decide) ?_
                exact ih _ _ _ _ _ _ _ _ _ h hP hD hS (lv_sub hl [1, 2, 3, 0] rfl)
              · replace h := ifn_el c_33 h
                refine lv_iload_n hx hb dX9_soon_97 rfl (lv_at hl 3 rfl) ?_
                cases h
                rw [← hQe]
                exact W.iret hx hb hr (fun t ht hW => ⟨⟨_, (), rfl, rfl, by rw [ht]; exact hP, va_K.moved hW.alike hK, hD⟩, hS.F ht⟩) hS.2.2 dX9_soon_98
        exact hlp F (nI 0) y_one_10 y_two_11 y_ways_12 y_now_13 y_then_14 H locs ls h hP hD hS (lv_sub hl [1, 2, 3, 0] rfl)
      · replace h := ifp_el c_9 h
        refine lv_bipush (v := (-2 : Int32)) hx hb dX9_soon_29 (by decide) ?_
        cases h
        rw [← hQe]
        exact W.iret hx hb hr (fun t ht hW => ⟨⟨_, (), rfl, rfl, by rw [ht]; exact hP, va_K.moved hW.alike hK, hD⟩, hS.F ht⟩) hS.2.2 dX9_soon_31
    · replace h := ifp_el c_6 h
      refine lv_iconst (v := (-1 : Int32)) hx hb dX9_soon_19 (by decide) ?_
      cases h
      rw [← hQe]
      exact W.iret hx hb hr (fun t ht hW => ⟨⟨_, (), rfl, rfl, by rw [ht]; exact hP, va_K.moved hW.alike hK, hD⟩, hS.F ht⟩) hS.2.2 dX9_soon_20
def b_X9_use_59 (v_l : Nat → Int32) (y_now_13 : Nat → Int64) (x5_17 : Int32) (rec59 : Int64 → Int32 → Option (Int64)) (x3_21 : Int64) (x6_22 : Int32) : Option (Int64) := ck 336 (nI 299) ((if (v_l (nI 299).toNatClampNeg) < x6_22 then some (x3_21) else ck 336 (nI 298) (ck 81 (((nI 9) * x5_17) + x6_22) (nm (x3_21 + (((((v_l (nI 298).toNatClampNeg) - x5_17) + x6_22).toInt64) * (y_now_13 (((nI 9) * x5_17) + x6_22).toNatClampNeg))) (fun x3_28 => nm (x6_22 + (nI 1)) (fun x6_29 => rec59 x3_28 x6_29))))))
def b_X9_use_43 (v_l : Nat → Int32) (F : Nat) (y_now_13 : Nat → Int64) (rec43 : Int64 → Int32 → Option (Int64)) (x3_16 : Int64) (x5_17 : Int32) : Option (Int64) := ck 336 (nI 298) ((if (v_l (nI 298).toNatClampNeg) < x5_17 then some (x3_16) else bd1 (lpg (T := Int64 → Int32 → Option (Int64)) (fun _ _ => none) (b_X9_use_59 v_l y_now_13 x5_17) F x3_16 (nI 0)) (fun o_23 => nm (x5_17 + (nI 1)) (fun x5_31 => rec43 o_23 x5_31))))
def D_X9_use (F : Nat) (p1 : Int32) (p2 : Int32) (v_l : Nat → Int32) (v_stands : Nat → Int32) (v_one : Nat → Int32) (v_two : Nat → Int32) (v_ways : Nat → Int32) (v_now : Nat → Int64) (v_then : Nat → Int64) : Option (Int32 × (Nat → Int32) × (Nat → Int32) × (Nat → Int32) × (Nat → Int64) × (Nat → Int64)) := bd1 (D_X9_isMeaning p1) (fun r_1 => (if r_1 = 0 then some ((-1 : Int32), v_one, v_two, v_ways, v_now, v_then) else bd1 (D_X9_in p2.toInt64 (lN 0) (lN 200)) (fun r_4 => (if r_4 = 0 then some ((-1 : Int32), v_one, v_two, v_ways, v_now, v_then) else bd1 (D_X9_isTold p1 v_l) (fun r_7 => (if r_7 = 0 then some ((-2 : Int32), v_one, v_two, v_ways, v_now, v_then) else bd5 (D_X9_goAsTold F p1 p2 v_l v_stands v_one v_two v_ways v_now v_then) (fun y_one_10 y_two_11 y_ways_12 y_now_13 y_then_14 => bd1 (lpg (T := Int64 → Int32 → Option (Int64)) (fun _ _ => none) (b_X9_use_43 v_l F y_now_13) F (lN 0) (nI 0)) (fun o_18 => some ((o_18 / (lN 1000)).toInt32, y_one_10, y_two_11, y_ways_12, y_now_13, y_then_14)))))))))
abbrev rm_X9_use : Room := { frames := 7, cells := 0, slots := 0, locals := 163 }
set_option maxHeartbeats 4000000 in
set_option maxRecDepth 100000 in
theorem c_X9_use (l : Launch) (D : va_G) (ca : Nat → ClassId) (F : Nat) (sz : Nat) (q_this q_text q_read q_l q_stands q_kept q_one q_two q_ways q_now q_then : Nat) (p1 : Int32) (p2 : Int32) (v_size : Int32) (v_at : Int32) (v_keptMany : Int32) (v_l : Nat → Int32) (v_stands : Nat → Int32) (v_one : Nat → Int32) (v_two : Nat → Int32) (v_ways : Nat → Int32) (v_now : Nat → Int64) (v_then : Nat → Int64) (r : Int32) (o_one : Nat → Int32) (o_two : Nat → Int32) (o_ways : Nat → Int32) (o_now : Nat → Int64) (o_then : Nat → Int64) (h : D_X9_use F p1 p2 v_l v_stands v_one v_two v_ways v_now v_then = some (r, o_one, o_two, o_ways, o_now, o_then)) : Met l yX9_use wsX9_use rm_X9_use (va_Pc [.ref q_this, .int p1, .int p2] (kPre D ca [(q_this, .inr (8, [.ref q_text, .int v_size, .int v_at, .ref q_read, .ref q_l, .ref q_stands, .ref q_kept, .int v_keptMany, .ref q_one, .ref q_two, .ref q_ways, .ref q_now, .ref q_then])), (q_l, .inl (ca 0, 336, .inl v_l)), (q_stands, .inl (ca 0, 16, .inl v_stands)), (q_one, .inl (ca 0, 7, .inl v_one)), (q_two, .inl (ca 0, 7, .inl v_two)), (q_ways, .inl (ca 0, 49, .inl v_ways)), (q_now, .inl (ca 1, 81, .inr (.inl v_now))), (q_then, .inl (ca 1, 81, .inr (.inl v_then)))] sz)) (kQi D ca (va_A [(q_this, .inr (8, [.ref q_text, .int v_size, .int v_at, .ref q_read, .ref q_l, .ref q_stands, .ref q_kept, .int v_keptMany, .ref q_one, .ref q_two, .ref q_ways, .ref q_now, .ref q_then])), (q_l, .inl (ca 0, 336, .inl v_l)), (q_stands, .inl (ca 0, 16, .inl v_stands)), (q_one, .inl (ca 0, 7, .inl v_one)), (q_two, .inl (ca 0, 7, .inl v_two)), (q_ways, .inl (ca 0, 49, .inl v_ways)), (q_now, .inl (ca 1, 81, .inr (.inl v_now))), (q_then, .inl (ca 1, 81, .inr (.inl v_then)))] sz) [(q_this, .inr (8, [.ref q_text, .int v_size, .int v_at, .ref q_read, .ref q_l, .ref q_stands, .ref q_kept, .int v_keptMany, .ref q_one, .ref q_two, .ref q_ways, .ref q_now, .ref q_then])), (q_l, .inl (ca 0, 336, .inl v_l)), (q_stands, .inl (ca 0, 16, .inl v_stands)), (q_one, .inl (ca 0, 7, .inl o_one)), (q_two, .inl (ca 0, 7, .inl o_two)), (q_ways, .inl (ca 0, 49, .inl o_ways)), (q_now, .inl (ca 1, 81, .inr (.inl o_now))), (q_then, .inl (ca 1, 81, .inr (.inl o_then)))] r) 0 0 (va_A [(q_this, .inr (8, [.ref q_text, .int v_size, .int v_at, .ref q_read, .ref q_l, .ref q_stands, .ref q_kept, .int v_keptMany, .ref q_one, .ref q_two, .ref q_ways, .ref q_now, .ref q_then])), (q_l, .inl (ca 0, 336, .inl v_l)), (q_stands, .inl (ca 0, 16, .inl v_stands)), (q_one, .inl (ca 0, 7, .inl v_one)), (q_two, .inl (ca 0, 7, .inl v_two)), (q_ways, .inl (ca 0, 49, .inl v_ways)), (q_now, .inl (ca 1, 81, .inr (.inl v_now))), (q_then, .inl (ca 1, 81, .inr (.inl v_then)))] sz) := by
  refine Met.ofW (cc := cX9_use) (maxL := 7) (ret := (some .int)) (by decide +kernel) rfl ?_
  intro p e s m args below meth c s₁ B hml hv
  obtain ⟨rfl, hsz, hP, hK, hD0⟩ := hv
  have hx := B.exec
  have hb := B.bytes
  have hr := B.returns
  have hts := atoms_spec (ws := wsX9_use) B.pre
  have hown : s.vm.findClass RX9 = some m.cls := findClass_of_methodNamed B.named
  have hlocks := B.notSynchronized
  clear B
  subst hsz
  have hD := hD0.self (sz := s.heap.size)
  generalize hAe : va_A [(q_this, .inr (8, [.ref q_text, .int v_size, .int v_at, .ref q_read, .ref q_l, .ref q_stands, .ref q_kept, .int v_keptMany, .ref q_one, .ref q_two, .ref q_ways, .ref q_now, .ref q_then])), (q_l, .inl (ca 0, 336, .inl v_l)), (q_stands, .inl (ca 0, 16, .inl v_stands)), (q_one, .inl (ca 0, 7, .inl v_one)), (q_two, .inl (ca 0, 7, .inl v_two)), (q_ways, .inl (ca 0, 49, .inl v_ways)), (q_now, .inl (ca 1, 81, .inr (.inl v_now))), (q_then, .inl (ca 1, 81, .inr (.inl v_then)))] s.heap.size = A at hD ⊢
  have hA : ∀ q : Nat, s.heap.size ≤ q → A q := fun q h => by rw [← hAe]; exact Or.inr h
  have hS : va_S A s.heap s.heap [] := va_S.rf
  have hl := lv_entry ([.ref q_this, .int p1, .int p2]) (n := 7) (Nat.le_of_ble_eq_true rfl)
  rw [lg_entry_eq]
  generalize (lg_sl ([.ref q_this, .int p1, .int p2]) ++ List.replicate (7 - (lg_sl ([.ref q_this, .int p1, .int p2])).length) Slot.unset).toArray = ls at hl ⊢
  have hl : lv_has ls 7 [(0, .ref q_this), (1, .int p1), (2, .int p2)] := hl
  generalize ([.ref q_this, .int p1, .int p2] : List Value).toArray = args at hts ⊢
  generalize hQe : MQ below (kQi D ca (A) [(q_this, .inr (8, [.ref q_text, .int v_size, .int v_at, .ref q_read, .ref q_l, .ref q_stands, .ref q_kept, .int v_keptMany, .ref q_one, .ref q_two, .ref q_ways, .ref q_now, .ref q_then])), (q_l, .inl (ca 0, 336, .inl v_l)), (q_stands, .inl (ca 0, 16, .inl v_stands)), (q_one, .inl (ca 0, 7, .inl o_one)), (q_two, .inl (ca 0, 7, .inl o_two)), (q_ways, .inl (ca 0, 49, .inl o_ways)), (q_now, .inl (ca 1, 81, .inr (.inl o_now))), (q_then, .inl (ca 1, 81, .inr (.inl o_then)))] r) args s 0 0 A = Q
  have k_188 := hts (.constantLong RX9 188 (lN 200)) (by decide +kernel)
  have i_X9 : ∀ w ∈ u_ws RX9 TX9 13, w ∈ wsX9_use := by decide +kernel
  have k_16 := hts (.fieldLink RX9 16 "TradeWordsModel" "l" "[I") (by decide +kernel)
  have k_34 := hts (.fieldLink RX9 34 "TradeWordsModel" "now" "[J") (by decide +kernel)
  have k_201 := hts (.constantLong RX9 201 (lN 1000)) (by decide +kernel)
  rw [D_X9_use] at h
  refine lv_iload_n hx hb dX9_use_0 rfl (lv_at hl 1 rfl) ?_
  obtain ⟨r_1, hg_2, h⟩ := bd1_el h
  refine kx_Si (As := [.int p1]) (rest := []) (wr := [(q_this, .inr (8, [.ref q_text, .int v_size, .int v_at, .ref q_read, .ref q_l, .ref q_stands, .ref q_kept, .int v_keptMany, .ref q_one, .ref q_two, .ref q_ways, .ref q_now, .ref q_then])), (q_l, .inl (ca 0, 336, .inl v_l)), (q_stands, .inl (ca 0, 16, .inl v_stands)), (q_one, .inl (ca 0, 7, .inl v_one)), (q_two, .inl (ca 0, 7, .inl v_two)), (q_ways, .inl (ca 0, 49, .inl v_ways)), (q_now, .inl (ca 1, 81, .inr (.inl v_now))), (q_then, .inl (ca 1, 81, .inr (.inl v_then)))]) (w1 := []) (wn := [(q_this, .inr (8, [.ref q_text, .int v_size, .int v_at, .ref q_read, .ref q_l, .ref q_stands, .ref q_kept, .int v_keptMany, .ref q_one, .ref q_two, .ref q_ways, .ref q_now, .ref q_then])), (q_l, .inl (ca 0, 336, .inl v_l)), (q_stands, .inl (ca 0, 16, .inl v_stands)), (q_one, .inl (ca 0, 7, .inl v_one)), (q_two, .inl (ca 0, 7, .inl v_two)), (q_ways, .inl (ca 0, 49, .inl v_ways)), (q_now, .inl (ca 1, 81, .inr (.inl v_now))), (q_then, .inl (ca 1, 81, .inr (.inl v_then)))]) ⟨hx, hb, hml, hown, hts⟩ (c_X9_isMeaning l D ca s.heap.size p1 r_1 hg_2) (va_cwS 1 hts gX9_use_X9_isMeaning rfl rfl rfl (by decide +kernel) ⟨(Nat.le_of_ble_eq_true rfl), (Nat.le_of_ble_eq_true rfl)⟩) hK hP hD hS hA [] [0, 1, 2, 3, 4, 5, 6, 7] [0, 1, 2, 3, 4, 5, 6, 7] rfl rfl rfl rfl (by decide) rfl rfl rfl hl.1 rfl (Nat.le_of_ble_eq_true rfl) dX9_use_1 ⟨Nat.zero_le _, Nat.zero_le _⟩ (fun H locs hP hD hS => ?_)
  refine lv_if_eq (tgt := 19) hx hb dX9_use_4 (by decide) (fun c_3 => ?_) (fun c_3 => ?_)
  · replace h := ifp_el c_3 h
    refine lv_iconst (v := (-1 : Int32)) hx hb dX9_use_19 (by decide) ?_
    cases h
    rw [← hQe]
    exact W.iret hx hb hr (fun t ht hW => ⟨⟨_, (), rfl, rfl, by rw [ht]; exact hP, va_K.moved hW.alike hK, hD⟩, hS.F ht⟩) hS.2.2 dX9_use_20
  · replace h := ifn_el c_3 h
    refine lv_iload_n hx hb dX9_use_7 rfl (lv_at hl 2 rfl) ?_
    refine lv_i2l hx hb dX9_use_8 rfl ?_
    refine lv_lconst (v := (lN 0)) hx hb dX9_use_9 (by decide) ?_
    refine lv_ldc2 hx hb hown k_188 dX9_use_10 ?_
    obtain ⟨r_4, hg_5, h⟩ := bd1_el h
    refine kx_Si (As := [.long p2.toInt64, .long (lN 0), .long (lN 200)]) (rest := []) (wr := [(q_this, .inr (8, [.ref q_text, .int v_size, .int v_at, .ref q_read, .ref q_l, .ref q_stands, .ref q_kept, .int v_keptMany, .ref q_one, .ref q_two, .ref q_ways, .ref q_now, .ref q_then])), (q_l, .inl (ca 0, 336, .inl v_l)), (q_stands, .inl (ca 0, 16, .inl v_stands)), (q_one, .inl (ca 0, 7, .inl v_one)), (q_two, .inl (ca 0, 7, .inl v_two)), (q_ways, .inl (ca 0, 49, .inl v_ways)), (q_now, .inl (ca 1, 81, .inr (.inl v_now))), (q_then, .inl (ca 1, 81, .inr (.inl v_then)))]) (w1 := []) (wn := [(q_this, .inr (8, [.ref q_text, .int v_size, .int v_at, .ref q_read, .ref q_l, .ref q_stands, .ref q_kept, .int v_keptMany, .ref q_one, .ref q_two, .ref q_ways, .ref q_now, .ref q_then])), (q_l, .inl (ca 0, 336, .inl v_l)), (q_stands, .inl (ca 0, 16, .inl v_stands)), (q_one, .inl (ca 0, 7, .inl v_one)), (q_two, .inl (ca 0, 7, .inl v_two)), (q_ways, .inl (ca 0, 49, .inl v_ways)), (q_now, .inl (ca 1, 81, .inr (.inl v_now))), (q_then, .inl (ca 1, 81, .inr (.inl v_then)))]) ⟨hx, hb, hml, hown, hts⟩ (c_X9_in l D ca H.size p2.toInt64 (lN 0) (lN 200) r_4 hg_5) (va_cwS 3 hts gX9_use_X9_in rfl rfl rfl (by decide +kernel) ⟨(Nat.le_of_ble_eq_true rfl), (Nat.le_of_ble_eq_true rfl)⟩) hK hP hD hS hA [] [0, 1, 2, 3, 4, 5, 6, 7] [0, 1, 2, 3, 4, 5, 6, 7] rfl rfl rfl rfl (by decide) rfl rfl rfl hl.1 rfl (Nat.le_of_ble_eq_true rfl) dX9_use_13 ⟨Nat.zero_le _, Nat.zero_le _⟩ (fun H locs hP hD hS => ?_)
    refine lv_if_ne (tgt := 21) hx hb dX9_use_16 (by decide) (fun c_6 => ?_) (fun c_6 => ?_)
    · replace h := ifn_el c_6 h
      refine lv_aload_n hx hb dX9_use_21 rfl (lv_at hl 0 rfl) ?_
      refine lv_iload_n hx hb dX9_use_22 rfl (lv_at hl 1 rfl) ?_
      obtain ⟨r_7, hg_8, h⟩ := bd1_el h
      refine kx_Vi (As := [.int p1]) (rest := []) (wr := [(q_stands, .inl (ca 0, 16, .inl v_stands)), (q_one, .inl (ca 0, 7, .inl v_one)), (q_two, .inl (ca 0, 7, .inl v_two)), (q_ways, .inl (ca 0, 49, .inl v_ways)), (q_now, .inl (ca 1, 81, .inr (.inl v_now))), (q_then, .inl (ca 1, 81, .inr (.inl v_then)))]) (w1 := [(q_this, .inr (8, [.ref q_text, .int v_size, .int v_at, .ref q_read, .ref q_l, .ref q_stands, .ref q_kept, .int v_keptMany, .ref q_one, .ref q_two, .ref q_ways, .ref q_now, .ref q_then])), (q_l, .inl (ca 0, 336, .inl v_l))]) (wn := [(q_this, .inr (8, [.ref q_text, .int v_size, .int v_at, .ref q_read, .ref q_l, .ref q_stands, .ref q_kept, .int v_keptMany, .ref q_one, .ref q_two, .ref q_ways, .ref q_now, .ref q_then])), (q_l, .inl (ca 0, 336, .inl v_l)), (q_stands, .inl (ca 0, 16, .inl v_stands)), (q_one, .inl (ca 0, 7, .inl v_one)), (q_two, .inl (ca 0, 7, .inl v_two)), (q_ways, .inl (ca 0, 49, .inl v_ways)), (q_now, .inl (ca 1, 81, .inr (.inl v_now))), (q_then, .inl (ca 1, 81, .inr (.inl v_then)))]) ⟨hx, hb, hml, hown, hts⟩ (c_X9_isTold l D ca H.size q_this q_text q_read q_l q_stands q_kept q_one q_two q_ways q_now q_then p1 v_size v_at v_keptMany v_l r_7 hg_8) (cwV 1 hts gX9_use_X9_isTold rfl rfl rfl (by decide +kernel) ⟨(Nat.le_of_ble_eq_true rfl), (Nat.le_of_ble_eq_true rfl)⟩) hK hP hD hS hA (ci := 8) (q0 := 0) rfl rfl [0, 1] [2, 3, 4, 5, 6, 7] [6, 7, 0, 1, 2, 3, 4, 5] rfl rfl rfl rfl (by decide) rfl rfl rfl hl.1 rfl (Nat.le_of_ble_eq_true rfl) dX9_use_23 ⟨Nat.zero_le _, Nat.zero_le _⟩ (fun H locs hP hD hS => ?_)
      refine lv_if_ne (tgt := 32) hx hb dX9_use_26 (by decide) (fun c_9 => ?_) (fun c_9 => ?_)
      · replace h := ifn_el c_9 h
        refine lv_aload_n hx hb dX9_use_32 rfl (lv_at hl 0 rfl) ?_
        refine lv_iload_n hx hb dX9_use_33 rfl (lv_at hl 1 rfl) ?_
        refine lv_iload_n hx hb dX9_use_34 rfl (lv_at hl 2 rfl) ?_
        obtain ⟨y_one_10, y_two_11, y_ways_12, y_now_13, y_then_14, hg_15, h⟩ := bd5_el h
        refine kx_Vv (As := [.int p1, .int p2]) (rest := []) (wr := []) (w1 := [(q_this, .inr (8, [.ref q_text, .int v_size, .int v_at, .ref q_read, .ref q_l, .ref q_stands, .ref q_kept, .int v_keptMany, .ref q_one, .ref q_two, .ref q_ways, .ref q_now, .ref q_then])), (q_l, .inl (ca 0, 336, .inl v_l)), (q_stands, .inl (ca 0, 16, .inl v_stands)), (q_one, .inl (ca 0, 7, .inl y_one_10)), (q_two, .inl (ca 0, 7, .inl y_two_11)), (q_ways, .inl (ca 0, 49, .inl y_ways_12)), (q_now, .inl (ca 1, 81, .inr (.inl y_now_13))), (q_then, .inl (ca 1, 81, .inr (.inl y_then_14)))]) (wn := [(q_this, .inr (8, [.ref q_text, .int v_size, .int v_at, .ref q_read, .ref q_l, .ref q_stands, .ref q_kept, .int v_keptMany, .ref q_one, .ref q_two, .ref q_ways, .ref q_now, .ref q_then])), (q_l, .inl (ca 0, 336, .inl v_l)), (q_stands, .inl (ca 0, 16, .inl v_stands)), (q_one, .inl (ca 0, 7, .inl y_one_10)), (q_two, .inl (ca 0, 7, .inl y_two_11)), (q_ways, .inl (ca 0, 49, .inl y_ways_12)), (q_now, .inl (ca 1, 81, .inr (.inl y_now_13))), (q_then, .inl (ca 1, 81, .inr (.inl y_then_14)))]) ⟨hx, hb, hml, hown, hts⟩ (c_X9_goAsTold l D ca F H.size q_this q_text q_read q_l q_stands q_kept q_one q_two q_ways q_now q_then p1 p2 v_size v_at v_keptMany v_l v_stands v_one v_two v_ways v_now v_then y_one_10 y_two_11 y_ways_12 y_now_13 y_then_14 hg_15) (cwV 2 hts gX9_use_X9_goAsTold rfl rfl rfl (by decide +kernel) ⟨(Nat.le_of_ble_eq_true rfl), (Nat.le_of_ble_eq_true rfl)⟩) hK hP hD hS hA (ci := 8) (q0 := 0) rfl rfl [0, 1, 2, 3, 4, 5, 6, 7] [] [0, 1, 2, 3, 4, 5, 6, 7] rfl rfl rfl rfl (by decide) rfl rfl rfl hl.1 rfl (Nat.le_of_ble_eq_true rfl) dX9_use_35 ⟨Nat.zero_le _, Nat.zero_le _⟩ (fun H locs hP hD hS => ?_)
        refine lv_lconst (v := (lN 0)) hx hb dX9_use_38 (by decide) ?_
        refine lv_lstore_n (lv' := [(3, .long (lN 0)), (0, .ref q_this), (1, .int p1), (2, .int p2)]) hx hb dX9_use_39 rfl hl (by decide) rfl (fun ls hl => ?_)
        refine lv_iconst (v := (nI 0)) hx hb dX9_use_40 (by decide) ?_
        refine lv_istore (lv' := [(5, .int (nI 0)), (3, .long (lN 0)), (0, .ref q_this), (1, .int p1), (2, .int p2)]) hx hb dX9_use_41 hl (by decide) rfl (fun ls hl => ?_)
        obtain ⟨o_18, hL, h⟩ := bd1_el h
        have hex : ∀ (H : Heap) (locs : List Loc) (ls : Array Slot), va_P D vwCl [(q_this, .inr (8, [.ref q_text, .int v_size, .int v_at, .ref q_read, .ref q_l, .ref q_stands, .ref q_kept, .int v_keptMany, .ref q_one, .ref q_two, .ref q_ways, .ref q_now, .ref q_then])), (q_l, .inl (ca 0, 336, .inl v_l)), (q_stands, .inl (ca 0, 16, .inl v_stands)), (q_one, .inl (ca 0, 7, .inl y_one_10)), (q_two, .inl (ca 0, 7, .inl y_two_11)), (q_ways, .inl (ca 0, 49, .inl y_ways_12)), (q_now, .inl (ca 1, 81, .inr (.inl y_now_13))), (q_then, .inl (ca 1, 81, .inr (.inl y_then_14)))] H → va_D A [(q_this, .inr (8, [.ref q_text, .int v_size, .int v_at, .ref q_read, .ref q_l, .ref q_stands, .ref q_kept, .int v_keptMany, .ref q_one, .ref q_two, .ref q_ways, .ref q_now, .ref q_then])), (q_l, .inl (ca 0, 336, .inl v_l)), (q_stands, .inl (ca 0, 16, .inl v_stands)), (q_one, .inl (ca 0, 7, .inl y_one_10)), (q_two, .inl (ca 0, 7, .inl y_two_11)), (q_ways, .inl (ca 0, 49, .inl y_ways_12)), (q_now, .inl (ca 1, 81, .inr (.inl y_now_13))), (q_then, .inl (ca 1, 81, .inr (.inl y_then_14)))] → va_S A s.heap H locs → lv_has ls 7 [(3, .long o_18)] → W p l e (headSpec wsX9_use rm_X9_use).room s m args below meth c H locs 0 0 Q (F0 m 116 ls []) := by
          intro H locs ls hP hD hS hl
          refine lv_lload_n hx hb dX9_use_116 rfl (lv_at hl 0 rfl) ?_
          refine lv_ldc2 hx hb hown k_201 dX9_use_117 ?_
          refine lv_ldiv hx hb dX9_use_120 (by decide) ?_
          refine lv_l2i hx hb dX9_use_121 rfl ?_
          cases h
          rw [← hQe]
          exact W.iret hx hb hr (fun t ht hW => ⟨⟨_, (), rfl, rfl, by rw [ht]; exact hP, va_K.moved hW.alike hK, hD⟩, hS.F ht⟩) hS.2.2 dX9_use_122
        have hlp : ∀ (n : Nat) (x3_16 : Int64) (x5_17 : Int32) (o_18 : Int64) (H : Heap) (locs : List Loc) (ls : Array Slot), lpg (T := Int64 → Int32 → Option (Int64)) (fun _ _ => none) (b_X9_use_43 v_l F y_now_13) n x3_16 x5_17 = some (o_18) → (∀ (H : Heap) (locs : List Loc) (ls : Array Slot), va_P D vwCl [(q_this, .inr (8, [.ref q_text, .int v_size, .int v_at, .ref q_read, .ref q_l, .ref q_stands, .ref q_kept, .int v_keptMany, .ref q_one, .ref q_two, .ref q_ways, .ref q_now, .ref q_then])), (q_l, .inl (ca 0, 336, .inl v_l)), (q_stands, .inl (ca 0, 16, .inl v_stands)), (q_one, .inl (ca 0, 7, .inl y_one_10)), (q_two, .inl (ca 0, 7, .inl y_two_11)), (q_ways, .inl (ca 0, 49, .inl y_ways_12)), (q_now, .inl (ca 1, 81, .inr (.inl y_now_13))), (q_then, .inl (ca 1, 81, .inr (.inl y_then_14)))] H → va_D A [(q_this, .inr (8, [.ref q_text, .int v_size, .int v_at, .ref q_read, .ref q_l, .ref q_stands, .ref q_kept, .int v_keptMany, .ref q_one, .ref q_two, .ref q_ways, .ref q_now, .ref q_then])), (q_l, .inl (ca 0, 336, .inl v_l)), (q_stands, .inl (ca 0, 16, .inl v_stands)), (q_one, .inl (ca 0, 7, .inl y_one_10)), (q_two, .inl (ca 0, 7, .inl y_two_11)), (q_ways, .inl (ca 0, 49, .inl y_ways_12)), (q_now, .inl (ca 1, 81, .inr (.inl y_now_13))), (q_then, .inl (ca 1, 81, .inr (.inl y_then_14)))] → va_S A s.heap H locs → lv_has ls 7 [(3, .long o_18)] → W p l e (headSpec wsX9_use rm_X9_use).room s m args below meth c H locs 0 0 Q (F0 m 116 ls [])) → va_P D vwCl [(q_this, .inr (8, [.ref q_text, .int v_size, .int v_at, .ref q_read, .ref q_l, .ref q_stands, .ref q_kept, .int v_keptMany, .ref q_one, .ref q_two, .ref q_ways, .ref q_now, .ref q_then])), (q_l, .inl (ca 0, 336, .inl v_l)), (q_stands, .inl (ca 0, 16, .inl v_stands)), (q_one, .inl (ca 0, 7, .inl y_one_10)), (q_two, .inl (ca 0, 7, .inl y_two_11)), (q_ways, .inl (ca 0, 49, .inl y_ways_12)), (q_now, .inl (ca 1, 81, .inr (.inl y_now_13))), (q_then, .inl (ca 1, 81, .inr (.inl y_then_14)))] H → va_D A [(q_this, .inr (8, [.ref q_text, .int v_size, .int v_at, .ref q_read, .ref q_l, .ref q_stands, .ref q_kept, .int v_keptMany, .ref q_one, .ref q_two, .ref q_ways, .ref q_now, .ref q_then])), (q_l, .inl (ca 0, 336, .inl v_l)), (q_stands, .inl (ca 0, 16, .inl v_stands)), (q_one, .inl (ca 0, 7, .inl y_one_10)), (q_two, .inl (ca 0, 7, .inl y_two_11)), (q_ways, .inl (ca 0, 49, .inl y_ways_12)), (q_now, .inl (ca 1, 81, .inr (.inl y_now_13))), (q_then, .inl (ca 1, 81, .inr (.inl y_then_14)))] → va_S A s.heap H locs → lv_has ls 7 [(0, .ref q_this), (3, .long x3_16), (5, .int x5_17)] → W p l e (headSpec wsX9_use rm_X9_use).room s m args below meth c H locs 0 0 Q (F0 m 43 ls []) := by
          intro n
          induction n with
          | zero => intro x3_16 x5_17 o_18 H locs ls h; have h : (none : Option (Int64)) = some _ := h; cases h
          | succ n ih =>
            intro x3_16 x5_17 o_18 H locs ls h hex hP hD hS hl
            rw [lpg_succ, b_X9_use_43] at h
            refine lv_iload hx hb dX9_use_43 (lv_at hl 2 rfl) ?_
            refine lv_aload_n hx hb dX9_use_45 rfl (lv_at hl 0 rfl) ?_
            refine va_get (D := D) (ci := 8) (v := .ref q_l) (C := RX9) (T := TX9) (N := 13) hx hb hts i_X9 hown hK hP 0 rfl rfl 4 (by decide) k_16 (fun _ h9 => h9) rfl dX9_use_46 ?_
            refine lv_sipush (v := (nI 298)) hx hb dX9_use_49 (by decide) ?_
            obtain ⟨hi_19, h⟩ := ck_el h
            refine va_iald hx hb hK hP 1 0 rfl rfl hi_19 dX9_use_52 ?_
            refine lv_icmp_gt (tgt := 116) hx hb dX9_use_53 (by decide) (fun c_20 => ?_) (fun c_20 => ?_)
            · replace h := ifp_el c_20 h
              cases h
              exact hex _ _ _ hP hD hS (lv_sub hl [1] rfl)
            · replace h := ifn_el c_20 h
              refine lv_iconst (v := (nI 0)) hx hb dX9_use_56 (by decide) ?_
              refine lv_istore (lv' := [(6, .int (nI 0)), (0, .ref q_this), (3, .long x3_16), (5, .int x5_17)]) hx hb dX9_use_57 hl (by decide) rfl (fun ls hl => ?_)
              obtain ⟨o_23, hL, h⟩ := bd1_el h
              have hex : ∀ (H : Heap) (locs : List Loc) (ls : Array Slot), va_P D vwCl [(q_this, .inr (8, [.ref q_text, .int v_size, .int v_at, .ref q_read, .ref q_l, .ref q_stands, .ref q_kept, .int v_keptMany, .ref q_one, .ref q_two, .ref q_ways, .ref q_now, .ref q_then])), (q_l, .inl (ca 0, 336, .inl v_l)), (q_stands, .inl (ca 0, 16, .inl v_stands)), (q_one, .inl (ca 0, 7, .inl y_one_10)), (q_two, .inl (ca 0, 7, .inl y_two_11)), (q_ways, .inl (ca 0, 49, .inl y_ways_12)), (q_now, .inl (ca 1, 81, .inr (.inl y_now_13))), (q_then, .inl (ca 1, 81, .inr (.inl y_then_14)))] H → va_D A [(q_this, .inr (8, [.ref q_text, .int v_size, .int v_at, .ref q_read, .ref q_l, .ref q_stands, .ref q_kept, .int v_keptMany, .ref q_one, .ref q_two, .ref q_ways, .ref q_now, .ref q_then])), (q_l, .inl (ca 0, 336, .inl v_l)), (q_stands, .inl (ca 0, 16, .inl v_stands)), (q_one, .inl (ca 0, 7, .inl y_one_10)), (q_two, .inl (ca 0, 7, .inl y_two_11)), (q_ways, .inl (ca 0, 49, .inl y_ways_12)), (q_now, .inl (ca 1, 81, .inr (.inl y_now_13))), (q_then, .inl (ca 1, 81, .inr (.inl y_then_14)))] → va_S A s.heap H locs → lv_has ls 7 [(0, .ref q_this), (3, .long o_23), (5, .int x5_17)] → W p l e (headSpec wsX9_use rm_X9_use).room s m args below meth c H locs 0 0 Q (F0 m 110 ls []) := by
                intro H locs ls hP hD hS hl
                obtain ⟨x5_31, e_32, h⟩ := nm_el h
                refine lv_iinc (v := x5_31) (lv' := [(5, .int x5_31), (0, .ref q_this), (3, .long o_23)]) hx hb dX9_use_110 hl (k := 2) rfl (by rw [← e_32]; rfl) (by decide) rfl (fun ls hl => ?_)
                refine lv_goto (tgt := 43) hx hb dX9_use_113 (by decide) ?_
                exact ih _ _ _ _ _ _ h hex hP hD hS (lv_sub hl [1, 2, 0] rfl)
              have hlp : ∀ (n : Nat) (x3_21 : Int64) (x6_22 : Int32) (o_23 : Int64) (H : Heap) (locs : List Loc) (ls : Array Slot), lpg (T := Int64 → Int32 → Option (Int64)) (fun _ _ => none) (b_X9_use_59 v_l y_now_13 x5_17) n x3_21 x6_22 = some (o_23) → (∀ (H : Heap) (locs : List Loc) (ls : Array Slot), va_P D vwCl [(q_this, .inr (8, [.ref q_text, .int v_size, .int v_at, .ref q_read, .ref q_l, .ref q_stands, .ref q_kept, .int v_keptMany, .ref q_one, .ref q_two, .ref q_ways, .ref q_now, .ref q_then])), (q_l, .inl (ca 0, 336, .inl v_l)), (q_stands, .inl (ca 0, 16, .inl v_stands)), (q_one, .inl (ca 0, 7, .inl y_one_10)), (q_two, .inl (ca 0, 7, .inl y_two_11)), (q_ways, .inl (ca 0, 49, .inl y_ways_12)), (q_now, .inl (ca 1, 81, .inr (.inl y_now_13))), (q_then, .inl (ca 1, 81, .inr (.inl y_then_14)))] H → va_D A [(q_this, .inr (8, [.ref q_text, .int v_size, .int v_at, .ref q_read, .ref q_l, .ref q_stands, .ref q_kept, .int v_keptMany, .ref q_one, .ref q_two, .ref q_ways, .ref q_now, .ref q_then])), (q_l, .inl (ca 0, 336, .inl v_l)), (q_stands, .inl (ca 0, 16, .inl v_stands)), (q_one, .inl (ca 0, 7, .inl y_one_10)), (q_two, .inl (ca 0, 7, .inl y_two_11)), (q_ways, .inl (ca 0, 49, .inl y_ways_12)), (q_now, .inl (ca 1, 81, .inr (.inl y_now_13))), (q_then, .inl (ca 1, 81, .inr (.inl y_then_14)))] → va_S A s.heap H locs → lv_has ls 7 [(0, .ref q_this), (3, .long o_23), (5, .int x5_17)] → W p l e (headSpec wsX9_use rm_X9_use).room s m args below meth c H locs 0 0 Q (F0 m 110 ls [])) → va_P D vwCl [(q_this, .inr (8, [.ref q_text, .int v_size, .int v_at, .ref q_read, .ref q_l, .ref q_stands, .ref q_kept, .int v_keptMany, .ref q_one, .ref q_two, .ref q_ways, .ref q_now, .ref q_then])), (q_l, .inl (ca 0, 336, .inl v_l)), (q_stands, .inl (ca 0, 16, .inl v_stands)), (q_one, .inl (ca 0, 7, .inl y_one_10)), (q_two, .inl (ca 0, 7, .inl y_two_11)), (q_ways, .inl (ca 0, 49, .inl y_ways_12)), (q_now, .inl (ca 1, 81, .inr (.inl y_now_13))), (q_then, .inl (ca 1, 81, .inr (.inl y_then_14)))] H → va_D A [(q_this, .inr (8, [.ref q_text, .int v_size, .int v_at, .ref q_read, .ref q_l, .ref q_stands, .ref q_kept, .int v_keptMany, .ref q_one, .ref q_two, .ref q_ways, .ref q_now, .ref q_then])), (q_l, .inl (ca 0, 336, .inl v_l)), (q_stands, .inl (ca 0, 16, .inl v_stands)), (q_one, .inl (ca 0, 7, .inl y_one_10)), (q_two, .inl (ca 0, 7, .inl y_two_11)), (q_ways, .inl (ca 0, 49, .inl y_ways_12)), (q_now, .inl (ca 1, 81, .inr (.inl y_now_13))), (q_then, .inl (ca 1, 81, .inr (.inl y_then_14)))] → va_S A s.heap H locs → lv_has ls 7 [(0, .ref q_this), (3, .long x3_21), (5, .int x5_17), (6, .int x6_22)] → W p l e (headSpec wsX9_use rm_X9_use).room s m args below meth c H locs 0 0 Q (F0 m 59 ls []) := by
                intro n
                induction n with
                | zero => intro x3_21 x6_22 o_23 H locs ls h; have h : (none : Option (Int64)) = some _ := h; cases h
                | succ n ih =>
                  intro x3_21 x6_22 o_23 H locs ls h hex hP hD hS hl
                  rw [lpg_succ, b_X9_use_59] at h
                  refine lv_iload hx hb dX9_use_59 (lv_at hl 3 rfl) ?_
                  refine lv_aload_n hx hb dX9_use_61 rfl (lv_at hl 0 rfl) ?_
                  refine va_get (D := D) (ci := 8) (v := .ref q_l) (C := RX9) (T := TX9) (N := 13) hx hb hts i_X9 hown hK hP 0 rfl rfl 4 (by decide) k_16 (fun _ h9 => h9) rfl dX9_use_62 ?_
                  refine lv_sipush (v := (nI 299)) hx hb dX9_use_65 (by decide) ?_
                  obtain ⟨hi_24, h⟩ := ck_el h
                  refine va_iald hx hb hK hP 1 0 rfl rfl hi_24 dX9_use_68 ?_
                  refine lv_icmp_gt (tgt := 110) hx hb dX9_use_69 (by decide) (fun c_25 => ?_) (fun c_25 => ?_)
                  · replace h := ifp_el c_25 h
                    cases h
                    exact hex _ _ _ hP hD hS (lv_sub hl [0, 1, 2] rfl)
                  · replace h := ifn_el c_25 h
                    refine lv_lload_n hx hb dX9_use_72 rfl (lv_at hl 1 rfl) ?_
                    refine lv_aload_n hx hb dX9_use_73 rfl (lv_at hl 0 rfl) ?_
                    refine va_get (D := D) (ci := 8) (v := .ref q_l) (C := RX9) (T := TX9) (N := 13) hx hb hts i_X9 hown hK hP 0 rfl rfl 4 (by decide) k_16 (fun _ h9 => h9) rfl dX9_use_74 ?_
                    refine lv_sipush (v := (nI 298)) hx hb dX9_use_77 (by decide) ?_
                    obtain ⟨hi_26, h⟩ := ck_el h
                    refine va_iald hx hb hK hP 1 0 rfl rfl hi_26 dX9_use_80 ?_
                    refine lv_iload hx hb dX9_use_81 (lv_at hl 2 rfl) ?_
                    refine lv_isub hx hb dX9_use_83 ?_
                    refine lv_iload hx hb dX9_use_84 (lv_at hl 3 rfl) ?_
                    refine lv_iadd hx hb dX9_use_86 ?_
                    refine lv_i2l hx hb dX9_use_87 rfl ?_
                    refine lv_aload_n hx hb dX9_use_88 rfl (lv_at hl 0 rfl) ?_
                    refine va_get (D := D) (ci := 8) (v := .ref q_now) (C := RX9) (T := TX9) (N := 13) hx hb hts i_X9 hown hK hP 0 rfl rfl 11 (by decide) k_34 (fun _ h9 => h9) rfl dX9_use_89 ?_
                    refine lv_bipush (v := (nI 9)) hx hb dX9_use_92 (by decide) ?_
                    refine lv_iload hx hb dX9_use_94 (lv_at hl 2 rfl) ?_
                    refine lv_imul hx hb dX9_use_96 ?_
                    refine lv_iload hx hb dX9_use_97 (lv_at hl 3 rfl) ?_
                    refine lv_iadd hx hb dX9_use_99 ?_
                    obtain ⟨hi_27, h⟩ := ck_el h
                    refine va_lald hx hb hK hP 6 1 rfl rfl hi_27 dX9_use_100 ?_
                    refine lv_lmul hx hb dX9_use_101 ?_
                    refine lv_ladd hx hb dX9_use_102 ?_
                    refine lv_nml h (fun x3_28 h => ?_)
                    refine lv_lstore_n (lv' := [(3, .long x3_28), (0, .ref q_this), (5, .int x5_17), (6, .int x6_22)]) hx hb dX9_use_103 rfl hl (by decide) rfl (fun ls hl => ?_)
                    obtain ⟨x6_29, e_30, h⟩ := nm_el h
                    refine lv_iinc (v := x6_29) (lv' := [(6, .int x6_29), (3, .long x3_28), (0, .ref q_this), (5, .int x5_17)]) hx hb dX9_use_104 hl (k := 3) rfl (by rw [← e_30]; rfl) (by decide) rfl (fun ls hl => ?_)
                    refine lv_goto (tgt := 59) hx hb dX9_use_107 (by decide) ?_
                    exact ih _ _ _ _ _ _ h hex hP hD hS (lv_sub hl [2, 1, 3, 0] rfl)
              exact hlp F x3_16 (nI 0) o_23 H locs ls hL hex hP hD hS (lv_sub hl [1, 2, 3, 0] rfl)
        exact hlp F (lN 0) (nI 0) o_18 H locs ls hL hex hP hD hS (lv_sub hl [2, 1, 0] rfl)
      · replace h := ifp_el c_9 h
        refine lv_bipush (v := (-2 : Int32)) hx hb dX9_use_29 (by decide) ?_
        cases h
        rw [← hQe]
        exact W.iret hx hb hr (fun t ht hW => ⟨⟨_, (), rfl, rfl, by rw [ht]; exact hP, va_K.moved hW.alike hK, hD⟩, hS.F ht⟩) hS.2.2 dX9_use_31
    · replace h := ifp_el c_6 h
      refine lv_iconst (v := (-1 : Int32)) hx hb dX9_use_19 (by decide) ?_
      cases h
      rw [← hQe]
      exact W.iret hx hb hr (fun t ht hW => ⟨⟨_, (), rfl, rfl, by rw [ht]; exact hP, va_K.moved hW.alike hK, hD⟩, hS.F ht⟩) hS.2.2 dX9_use_20
def b_X9_traders_58 (p1 : Int32) (p2 : Int32) (p3 : Int32) (p4 : Int32) (v_l : Nat → Int32) (F : Nat) (rec58 : Int32 → (Nat → Int32) → (Nat → Int32) → (Nat → Int32) → (Nat → Int64) → (Nat → Int64) → Option (Int32 × (Nat → Int32) × (Nat → Int32) × (Nat → Int32) × (Nat → Int64) × (Nat → Int64))) (x5_16 : Int32) (y_one_17 : Nat → Int32) (y_two_18 : Nat → Int32) (y_ways_19 : Nat → Int32) (y_now_20 : Nat → Int64) (y_then_21 : Nat → Int64) : Option (Int32 × (Nat → Int32) × (Nat → Int32) × (Nat → Int32) × (Nat → Int64) × (Nat → Int64)) := (if (nI 8) < x5_16 then some ((-4 : Int32), y_one_17, y_two_18, y_ways_19, y_now_20, y_then_21) else bd1 (D_X9_beginAt F (nI 0) (nI 0) y_now_20) (fun y_now_23 => ck 336 (nI 300) (ck 336 (nI 301) (bd5 (D_X9_goOn F p1 p2 x5_16 x5_16 (v_l (nI 300).toNatClampNeg) (v_l (nI 301).toNatClampNeg) v_l y_one_17 y_two_18 y_ways_19 y_now_23 y_then_21) (fun y_one_27 y_two_28 y_ways_29 y_now_30 y_then_31 => bd1 (D_X9_wonBy p3 x5_16 x5_16 y_now_30) (fun r_33 => bd1 (D_X9_isEnough r_33 p4) (fun r_35 => (if r_35 = 0 then nm (x5_16 + (nI 1)) (fun x5_38 => rec58 x5_38 y_one_27 y_two_28 y_ways_29 y_now_30 y_then_31) else some (x5_16, y_one_27, y_two_28, y_ways_29, y_now_30, y_then_31)))))))))
def D_X9_traders (F : Nat) (p1 : Int32) (p2 : Int32) (p3 : Int32) (p4 : Int32) (v_l : Nat → Int32) (v_one : Nat → Int32) (v_two : Nat → Int32) (v_ways : Nat → Int32) (v_now : Nat → Int64) (v_then : Nat → Int64) : Option (Int32 × (Nat → Int32) × (Nat → Int32) × (Nat → Int32) × (Nat → Int64) × (Nat → Int64)) := bd1 (D_X9_isMeaning p1) (fun r_1 => (if r_1 = 0 then some ((-1 : Int32), v_one, v_two, v_ways, v_now, v_then) else bd1 (D_X9_in p2.toInt64 (lN 0) (lN 200)) (fun r_4 => (if r_4 = 0 then some ((-1 : Int32), v_one, v_two, v_ways, v_now, v_then) else bd1 (D_X9_in p3.toInt64 (lN 0) (lN 1)) (fun r_7 => (if r_7 = 0 then some ((-1 : Int32), v_one, v_two, v_ways, v_now, v_then) else bd1 (D_X9_in p4.toInt64 (lN 1) (lN 100)) (fun r_10 => (if r_10 = 0 then some ((-1 : Int32), v_one, v_two, v_ways, v_now, v_then) else bd1 (D_X9_isTold p1 v_l) (fun r_13 => (if r_13 = 0 then some ((-2 : Int32), v_one, v_two, v_ways, v_now, v_then) else lpg (T := Int32 → (Nat → Int32) → (Nat → Int32) → (Nat → Int32) → (Nat → Int64) → (Nat → Int64) → Option (Int32 × (Nat → Int32) × (Nat → Int32) × (Nat → Int32) × (Nat → Int64) × (Nat → Int64))) (fun _ _ _ _ _ _ => none) (b_X9_traders_58 p1 p2 p3 p4 v_l F) F (nI 1) v_one v_two v_ways v_now v_then))))))))))
abbrev rm_X9_traders : Room := { frames := 6, cells := 0, slots := 0, locals := 141 }
set_option maxHeartbeats 4000000 in
set_option maxRecDepth 100000 in
theorem c_X9_traders (l : Launch) (D : va_G) (ca : Nat → ClassId) (F : Nat) (sz : Nat) (q_this q_text q_read q_l q_stands q_kept q_one q_two q_ways q_now q_then : Nat) (p1 : Int32) (p2 : Int32) (p3 : Int32) (p4 : Int32) (v_size : Int32) (v_at : Int32) (v_keptMany : Int32) (v_l : Nat → Int32) (v_one : Nat → Int32) (v_two : Nat → Int32) (v_ways : Nat → Int32) (v_now : Nat → Int64) (v_then : Nat → Int64) (r : Int32) (o_one : Nat → Int32) (o_two : Nat → Int32) (o_ways : Nat → Int32) (o_now : Nat → Int64) (o_then : Nat → Int64) (h : D_X9_traders F p1 p2 p3 p4 v_l v_one v_two v_ways v_now v_then = some (r, o_one, o_two, o_ways, o_now, o_then)) : Met l yX9_traders wsX9_traders rm_X9_traders (va_Pc [.ref q_this, .int p1, .int p2, .int p3, .int p4] (kPre D ca [(q_this, .inr (8, [.ref q_text, .int v_size, .int v_at, .ref q_read, .ref q_l, .ref q_stands, .ref q_kept, .int v_keptMany, .ref q_one, .ref q_two, .ref q_ways, .ref q_now, .ref q_then])), (q_l, .inl (ca 0, 336, .inl v_l)), (q_one, .inl (ca 0, 7, .inl v_one)), (q_two, .inl (ca 0, 7, .inl v_two)), (q_ways, .inl (ca 0, 49, .inl v_ways)), (q_now, .inl (ca 1, 81, .inr (.inl v_now))), (q_then, .inl (ca 1, 81, .inr (.inl v_then)))] sz)) (kQi D ca (va_A [(q_this, .inr (8, [.ref q_text, .int v_size, .int v_at, .ref q_read, .ref q_l, .ref q_stands, .ref q_kept, .int v_keptMany, .ref q_one, .ref q_two, .ref q_ways, .ref q_now, .ref q_then])), (q_l, .inl (ca 0, 336, .inl v_l)), (q_one, .inl (ca 0, 7, .inl v_one)), (q_two, .inl (ca 0, 7, .inl v_two)), (q_ways, .inl (ca 0, 49, .inl v_ways)), (q_now, .inl (ca 1, 81, .inr (.inl v_now))), (q_then, .inl (ca 1, 81, .inr (.inl v_then)))] sz) [(q_this, .inr (8, [.ref q_text, .int v_size, .int v_at, .ref q_read, .ref q_l, .ref q_stands, .ref q_kept, .int v_keptMany, .ref q_one, .ref q_two, .ref q_ways, .ref q_now, .ref q_then])), (q_l, .inl (ca 0, 336, .inl v_l)), (q_one, .inl (ca 0, 7, .inl o_one)), (q_two, .inl (ca 0, 7, .inl o_two)), (q_ways, .inl (ca 0, 49, .inl o_ways)), (q_now, .inl (ca 1, 81, .inr (.inl o_now))), (q_then, .inl (ca 1, 81, .inr (.inl o_then)))] r) 0 0 (va_A [(q_this, .inr (8, [.ref q_text, .int v_size, .int v_at, .ref q_read, .ref q_l, .ref q_stands, .ref q_kept, .int v_keptMany, .ref q_one, .ref q_two, .ref q_ways, .ref q_now, .ref q_then])), (q_l, .inl (ca 0, 336, .inl v_l)), (q_one, .inl (ca 0, 7, .inl v_one)), (q_two, .inl (ca 0, 7, .inl v_two)), (q_ways, .inl (ca 0, 49, .inl v_ways)), (q_now, .inl (ca 1, 81, .inr (.inl v_now))), (q_then, .inl (ca 1, 81, .inr (.inl v_then)))] sz) := by
  refine Met.ofW (cc := cX9_traders) (maxL := 6) (ret := (some .int)) (by decide +kernel) rfl ?_
  intro p e s m args below meth c s₁ B hml hv
  obtain ⟨rfl, hsz, hP, hK, hD0⟩ := hv
  have hx := B.exec
  have hb := B.bytes
  have hr := B.returns
  have hts := atoms_spec (ws := wsX9_traders) B.pre
  have hown : s.vm.findClass RX9 = some m.cls := findClass_of_methodNamed B.named
  have hlocks := B.notSynchronized
  clear B
  subst hsz
  have hD := hD0.self (sz := s.heap.size)
  generalize hAe : va_A [(q_this, .inr (8, [.ref q_text, .int v_size, .int v_at, .ref q_read, .ref q_l, .ref q_stands, .ref q_kept, .int v_keptMany, .ref q_one, .ref q_two, .ref q_ways, .ref q_now, .ref q_then])), (q_l, .inl (ca 0, 336, .inl v_l)), (q_one, .inl (ca 0, 7, .inl v_one)), (q_two, .inl (ca 0, 7, .inl v_two)), (q_ways, .inl (ca 0, 49, .inl v_ways)), (q_now, .inl (ca 1, 81, .inr (.inl v_now))), (q_then, .inl (ca 1, 81, .inr (.inl v_then)))] s.heap.size = A at hD ⊢
  have hA : ∀ q : Nat, s.heap.size ≤ q → A q := fun q h => by rw [← hAe]; exact Or.inr h
  have hS : va_S A s.heap s.heap [] := va_S.rf
  have hl := lv_entry ([.ref q_this, .int p1, .int p2, .int p3, .int p4]) (n := 6) (Nat.le_of_ble_eq_true rfl)
  rw [lg_entry_eq]
  generalize (lg_sl ([.ref q_this, .int p1, .int p2, .int p3, .int p4]) ++ List.replicate (6 - (lg_sl ([.ref q_this, .int p1, .int p2, .int p3, .int p4])).length) Slot.unset).toArray = ls at hl ⊢
  have hl : lv_has ls 6 [(0, .ref q_this), (1, .int p1), (2, .int p2), (3, .int p3), (4, .int p4)] := hl
  generalize ([.ref q_this, .int p1, .int p2, .int p3, .int p4] : List Value).toArray = args at hts ⊢
  generalize hQe : MQ below (kQi D ca (A) [(q_this, .inr (8, [.ref q_text, .int v_size, .int v_at, .ref q_read, .ref q_l, .ref q_stands, .ref q_kept, .int v_keptMany, .ref q_one, .ref q_two, .ref q_ways, .ref q_now, .ref q_then])), (q_l, .inl (ca 0, 336, .inl v_l)), (q_one, .inl (ca 0, 7, .inl o_one)), (q_two, .inl (ca 0, 7, .inl o_two)), (q_ways, .inl (ca 0, 49, .inl o_ways)), (q_now, .inl (ca 1, 81, .inr (.inl o_now))), (q_then, .inl (ca 1, 81, .inr (.inl o_then)))] r) args s 0 0 A = Q
  have k_188 := hts (.constantLong RX9 188 (lN 200)) (by decide +kernel)
  have k_168 := hts (.constantLong RX9 168 (lN 100)) (by decide +kernel)
  have i_X9 : ∀ w ∈ u_ws RX9 TX9 13, w ∈ wsX9_traders := by decide +kernel
  have k_16 := hts (.fieldLink RX9 16 "TradeWordsModel" "l" "[I") (by decide +kernel)
  rw [D_X9_traders] at h
  refine lv_iload_n hx hb dX9_traders_0 rfl (lv_at hl 1 rfl) ?_
  obtain ⟨r_1, hg_2, h⟩ := bd1_el h
  refine kx_Si (As := [.int p1]) (rest := []) (wr := [(q_this, .inr (8, [.ref q_text, .int v_size, .int v_at, .ref q_read, .ref q_l, .ref q_stands, .ref q_kept, .int v_keptMany, .ref q_one, .ref q_two, .ref q_ways, .ref q_now, .ref q_then])), (q_l, .inl (ca 0, 336, .inl v_l)), (q_one, .inl (ca 0, 7, .inl v_one)), (q_two, .inl (ca 0, 7, .inl v_two)), (q_ways, .inl (ca 0, 49, .inl v_ways)), (q_now, .inl (ca 1, 81, .inr (.inl v_now))), (q_then, .inl (ca 1, 81, .inr (.inl v_then)))]) (w1 := []) (wn := [(q_this, .inr (8, [.ref q_text, .int v_size, .int v_at, .ref q_read, .ref q_l, .ref q_stands, .ref q_kept, .int v_keptMany, .ref q_one, .ref q_two, .ref q_ways, .ref q_now, .ref q_then])), (q_l, .inl (ca 0, 336, .inl v_l)), (q_one, .inl (ca 0, 7, .inl v_one)), (q_two, .inl (ca 0, 7, .inl v_two)), (q_ways, .inl (ca 0, 49, .inl v_ways)), (q_now, .inl (ca 1, 81, .inr (.inl v_now))), (q_then, .inl (ca 1, 81, .inr (.inl v_then)))]) ⟨hx, hb, hml, hown, hts⟩ (c_X9_isMeaning l D ca s.heap.size p1 r_1 hg_2) (va_cwS 1 hts gX9_traders_X9_isMeaning rfl rfl rfl (by decide +kernel) ⟨(Nat.le_of_ble_eq_true rfl), (Nat.le_of_ble_eq_true rfl)⟩) hK hP hD hS hA [] [0, 1, 2, 3, 4, 5, 6] [0, 1, 2, 3, 4, 5, 6] rfl rfl rfl rfl (by decide) rfl rfl rfl hl.1 rfl (Nat.le_of_ble_eq_true rfl) dX9_traders_1 ⟨Nat.zero_le _, Nat.zero_le _⟩ (fun H locs hP hD hS => ?_)
  refine lv_if_eq (tgt := 42) hx hb dX9_traders_4 (by decide) (fun c_3 => ?_) (fun c_3 => ?_)
  · replace h := ifp_el c_3 h
    refine lv_iconst (v := (-1 : Int32)) hx hb dX9_traders_42 (by decide) ?_
    cases h
    rw [← hQe]
    exact W.iret hx hb hr (fun t ht hW => ⟨⟨_, (), rfl, rfl, by rw [ht]; exact hP, va_K.moved hW.alike hK, hD⟩, hS.F ht⟩) hS.2.2 dX9_traders_43
  · replace h := ifn_el c_3 h
    refine lv_iload_n hx hb dX9_traders_7 rfl (lv_at hl 2 rfl) ?_
    refine lv_i2l hx hb dX9_traders_8 rfl ?_
    refine lv_lconst (v := (lN 0)) hx hb dX9_traders_9 (by decide) ?_
    refine lv_ldc2 hx hb hown k_188 dX9_traders_10 ?_
    obtain ⟨r_4, hg_5, h⟩ := bd1_el h
    refine kx_Si (As := [.long p2.toInt64, .long (lN 0), .long (lN 200)]) (rest := []) (wr := [(q_this, .inr (8, [.ref q_text, .int v_size, .int v_at, .ref q_read, .ref q_l, .ref q_stands, .ref q_kept, .int v_keptMany, .ref q_one, .ref q_two, .ref q_ways, .ref q_now, .ref q_then])), (q_l, .inl (ca 0, 336, .inl v_l)), (q_one, .inl (ca 0, 7, .inl v_one)), (q_two, .inl (ca 0, 7, .inl v_two)), (q_ways, .inl (ca 0, 49, .inl v_ways)), (q_now, .inl (ca 1, 81, .inr (.inl v_now))), (q_then, .inl (ca 1, 81, .inr (.inl v_then)))]) (w1 := []) (wn := [(q_this, .inr (8, [.ref q_text, .int v_size, .int v_at, .ref q_read, .ref q_l, .ref q_stands, .ref q_kept, .int v_keptMany, .ref q_one, .ref q_two, .ref q_ways, .ref q_now, .ref q_then])), (q_l, .inl (ca 0, 336, .inl v_l)), (q_one, .inl (ca 0, 7, .inl v_one)), (q_two, .inl (ca 0, 7, .inl v_two)), (q_ways, .inl (ca 0, 49, .inl v_ways)), (q_now, .inl (ca 1, 81, .inr (.inl v_now))), (q_then, .inl (ca 1, 81, .inr (.inl v_then)))]) ⟨hx, hb, hml, hown, hts⟩ (c_X9_in l D ca H.size p2.toInt64 (lN 0) (lN 200) r_4 hg_5) (va_cwS 3 hts gX9_traders_X9_in rfl rfl rfl (by decide +kernel) ⟨(Nat.le_of_ble_eq_true rfl), (Nat.le_of_ble_eq_true rfl)⟩) hK hP hD hS hA [] [0, 1, 2, 3, 4, 5, 6] [0, 1, 2, 3, 4, 5, 6] rfl rfl rfl rfl (by decide) rfl rfl rfl hl.1 rfl (Nat.le_of_ble_eq_true rfl) dX9_traders_13 ⟨Nat.zero_le _, Nat.zero_le _⟩ (fun H locs hP hD hS => ?_)
    refine lv_if_eq (tgt := 42) hx hb dX9_traders_16 (by decide) (fun c_6 => ?_) (fun c_6 => ?_)
    · replace h := ifp_el c_6 h
      refine lv_iconst (v := (-1 : Int32)) hx hb dX9_traders_42 (by decide) ?_
      cases h
      rw [← hQe]
      exact W.iret hx hb hr (fun t ht hW => ⟨⟨_, (), rfl, rfl, by rw [ht]; exact hP, va_K.moved hW.alike hK, hD⟩, hS.F ht⟩) hS.2.2 dX9_traders_43
    · replace h := ifn_el c_6 h
      refine lv_iload_n hx hb dX9_traders_19 rfl (lv_at hl 3 rfl) ?_
      refine lv_i2l hx hb dX9_traders_20 rfl ?_
      refine lv_lconst (v := (lN 0)) hx hb dX9_traders_21 (by decide) ?_
      refine lv_lconst (v := (lN 1)) hx hb dX9_traders_22 (by decide) ?_
      obtain ⟨r_7, hg_8, h⟩ := bd1_el h
      refine kx_Si (As := [.long p3.toInt64, .long (lN 0), .long (lN 1)]) (rest := []) (wr := [(q_this, .inr (8, [.ref q_text, .int v_size, .int v_at, .ref q_read, .ref q_l, .ref q_stands, .ref q_kept, .int v_keptMany, .ref q_one, .ref q_two, .ref q_ways, .ref q_now, .ref q_then])), (q_l, .inl (ca 0, 336, .inl v_l)), (q_one, .inl (ca 0, 7, .inl v_one)), (q_two, .inl (ca 0, 7, .inl v_two)), (q_ways, .inl (ca 0, 49, .inl v_ways)), (q_now, .inl (ca 1, 81, .inr (.inl v_now))), (q_then, .inl (ca 1, 81, .inr (.inl v_then)))]) (w1 := []) (wn := [(q_this, .inr (8, [.ref q_text, .int v_size, .int v_at, .ref q_read, .ref q_l, .ref q_stands, .ref q_kept, .int v_keptMany, .ref q_one, .ref q_two, .ref q_ways, .ref q_now, .ref q_then])), (q_l, .inl (ca 0, 336, .inl v_l)), (q_one, .inl (ca 0, 7, .inl v_one)), (q_two, .inl (ca 0, 7, .inl v_two)), (q_ways, .inl (ca 0, 49, .inl v_ways)), (q_now, .inl (ca 1, 81, .inr (.inl v_now))), (q_then, .inl (ca 1, 81, .inr (.inl v_then)))]) ⟨hx, hb, hml, hown, hts⟩ (c_X9_in l D ca H.size p3.toInt64 (lN 0) (lN 1) r_7 hg_8) (va_cwS 3 hts gX9_traders_X9_in rfl rfl rfl (by decide +kernel) ⟨(Nat.le_of_ble_eq_true rfl), (Nat.le_of_ble_eq_true rfl)⟩) hK hP hD hS hA [] [0, 1, 2, 3, 4, 5, 6] [0, 1, 2, 3, 4, 5, 6] rfl rfl rfl rfl (by decide) rfl rfl rfl hl.1 rfl (Nat.le_of_ble_eq_true rfl) dX9_traders_23 ⟨Nat.zero_le _, Nat.zero_le _⟩ (fun H locs hP hD hS => ?_)
      refine lv_if_eq (tgt := 42) hx hb dX9_traders_26 (by decide) (fun c_9 => ?_) (fun c_9 => ?_)
      · replace h := ifp_el c_9 h
        refine lv_iconst (v := (-1 : Int32)) hx hb dX9_traders_42 (by decide) ?_
        cases h
        rw [← hQe]
        exact W.iret hx hb hr (fun t ht hW => ⟨⟨_, (), rfl, rfl, by rw [ht]; exact hP, va_K.moved hW.alike hK, hD⟩, hS.F ht⟩) hS.2.2 dX9_traders_43
      · replace h := ifn_el c_9 h
        refine lv_iload hx hb dX9_traders_29 (lv_at hl 4 rfl) ?_
        refine lv_i2l hx hb dX9_traders_31 rfl ?_
        refine lv_lconst (v := (lN 1)) hx hb dX9_traders_32 (by decide) ?_
        refine lv_ldc2 hx hb hown k_168 dX9_traders_33 ?_
        obtain ⟨r_10, hg_11, h⟩ := bd1_el h
        refine kx_Si (As := [.long p4.toInt64, .long (lN 1), .long (lN 100)]) (rest := []) (wr := [(q_this, .inr (8, [.ref q_text, .int v_size, .int v_at, .ref q_read, .ref q_l, .ref q_stands, .ref q_kept, .int v_keptMany, .ref q_one, .ref q_two, .ref q_ways, .ref q_now, .ref q_then])), (q_l, .inl (ca 0, 336, .inl v_l)), (q_one, .inl (ca 0, 7, .inl v_one)), (q_two, .inl (ca 0, 7, .inl v_two)), (q_ways, .inl (ca 0, 49, .inl v_ways)), (q_now, .inl (ca 1, 81, .inr (.inl v_now))), (q_then, .inl (ca 1, 81, .inr (.inl v_then)))]) (w1 := []) (wn := [(q_this, .inr (8, [.ref q_text, .int v_size, .int v_at, .ref q_read, .ref q_l, .ref q_stands, .ref q_kept, .int v_keptMany, .ref q_one, .ref q_two, .ref q_ways, .ref q_now, .ref q_then])), (q_l, .inl (ca 0, 336, .inl v_l)), (q_one, .inl (ca 0, 7, .inl v_one)), (q_two, .inl (ca 0, 7, .inl v_two)), (q_ways, .inl (ca 0, 49, .inl v_ways)), (q_now, .inl (ca 1, 81, .inr (.inl v_now))), (q_then, .inl (ca 1, 81, .inr (.inl v_then)))]) ⟨hx, hb, hml, hown, hts⟩ (c_X9_in l D ca H.size p4.toInt64 (lN 1) (lN 100) r_10 hg_11) (va_cwS 3 hts gX9_traders_X9_in rfl rfl rfl (by decide +kernel) ⟨(Nat.le_of_ble_eq_true rfl), (Nat.le_of_ble_eq_true rfl)⟩) hK hP hD hS hA [] [0, 1, 2, 3, 4, 5, 6] [0, 1, 2, 3, 4, 5, 6] rfl rfl rfl rfl (by decide) rfl rfl rfl hl.1 rfl (Nat.le_of_ble_eq_true rfl) dX9_traders_36 ⟨Nat.zero_le _, Nat.zero_le _⟩ (fun H locs hP hD hS => ?_)
        refine lv_if_ne (tgt := 44) hx hb dX9_traders_39 (by decide) (fun c_12 => ?_) (fun c_12 => ?_)
        · replace h := ifn_el c_12 h
          refine lv_aload_n hx hb dX9_traders_44 rfl (lv_at hl 0 rfl) ?_
          refine lv_iload_n hx hb dX9_traders_45 rfl (lv_at hl 1 rfl) ?_
          obtain ⟨r_13, hg_14, h⟩ := bd1_el h
          refine kx_Vi (As := [.int p1]) (rest := []) (wr := [(q_one, .inl (ca 0, 7, .inl v_one)), (q_two, .inl (ca 0, 7, .inl v_two)), (q_ways, .inl (ca 0, 49, .inl v_ways)), (q_now, .inl (ca 1, 81, .inr (.inl v_now))), (q_then, .inl (ca 1, 81, .inr (.inl v_then)))]) (w1 := [(q_this, .inr (8, [.ref q_text, .int v_size, .int v_at, .ref q_read, .ref q_l, .ref q_stands, .ref q_kept, .int v_keptMany, .ref q_one, .ref q_two, .ref q_ways, .ref q_now, .ref q_then])), (q_l, .inl (ca 0, 336, .inl v_l))]) (wn := [(q_this, .inr (8, [.ref q_text, .int v_size, .int v_at, .ref q_read, .ref q_l, .ref q_stands, .ref q_kept, .int v_keptMany, .ref q_one, .ref q_two, .ref q_ways, .ref q_now, .ref q_then])), (q_l, .inl (ca 0, 336, .inl v_l)), (q_one, .inl (ca 0, 7, .inl v_one)), (q_two, .inl (ca 0, 7, .inl v_two)), (q_ways, .inl (ca 0, 49, .inl v_ways)), (q_now, .inl (ca 1, 81, .inr (.inl v_now))), (q_then, .inl (ca 1, 81, .inr (.inl v_then)))]) ⟨hx, hb, hml, hown, hts⟩ (c_X9_isTold l D ca H.size q_this q_text q_read q_l q_stands q_kept q_one q_two q_ways q_now q_then p1 v_size v_at v_keptMany v_l r_13 hg_14) (cwV 1 hts gX9_traders_X9_isTold rfl rfl rfl (by decide +kernel) ⟨(Nat.le_of_ble_eq_true rfl), (Nat.le_of_ble_eq_true rfl)⟩) hK hP hD hS hA (ci := 8) (q0 := 0) rfl rfl [0, 1] [2, 3, 4, 5, 6] [5, 6, 0, 1, 2, 3, 4] rfl rfl rfl rfl (by decide) rfl rfl rfl hl.1 rfl (Nat.le_of_ble_eq_true rfl) dX9_traders_46 ⟨Nat.zero_le _, Nat.zero_le _⟩ (fun H locs hP hD hS => ?_)
          refine lv_if_ne (tgt := 55) hx hb dX9_traders_49 (by decide) (fun c_15 => ?_) (fun c_15 => ?_)
          · replace h := ifn_el c_15 h
            refine lv_iconst (v := (nI 1)) hx hb dX9_traders_55 (by decide) ?_
            refine lv_istore (lv' := [(5, .int (nI 1)), (0, .ref q_this), (1, .int p1), (2, .int p2), (3, .int p3), (4, .int p4)]) hx hb dX9_traders_56 hl (by decide) rfl (fun ls hl => ?_)
            have hlp : ∀ (n : Nat) (x5_16 : Int32) (y_one_17 : Nat → Int32) (y_two_18 : Nat → Int32) (y_ways_19 : Nat → Int32) (y_now_20 : Nat → Int64) (y_then_21 : Nat → Int64) (H : Heap) (locs : List Loc) (ls : Array Slot), lpg (T := Int32 → (Nat → Int32) → (Nat → Int32) → (Nat → Int32) → (Nat → Int64) → (Nat → Int64) → Option (Int32 × (Nat → Int32) × (Nat → Int32) × (Nat → Int32) × (Nat → Int64) × (Nat → Int64))) (fun _ _ _ _ _ _ => none) (b_X9_traders_58 p1 p2 p3 p4 v_l F) n x5_16 y_one_17 y_two_18 y_ways_19 y_now_20 y_then_21 = some (r, o_one, o_two, o_ways, o_now, o_then) → va_P D vwCl [(q_this, .inr (8, [.ref q_text, .int v_size, .int v_at, .ref q_read, .ref q_l, .ref q_stands, .ref q_kept, .int v_keptMany, .ref q_one, .ref q_two, .ref q_ways, .ref q_now, .ref q_then])), (q_l, .inl (ca 0, 336, .inl v_l)), (q_one, .inl (ca 0, 7, .inl y_one_17)), (q_two, .inl (ca 0, 7, .inl y_two_18)), (q_ways, .inl (ca 0, 49, .inl y_ways_19)), (q_now, .inl (ca 1, 81, .inr (.inl y_now_20))), (q_then, .inl (ca 1, 81, .inr (.inl y_then_21)))] H → va_D A [(q_this, .inr (8, [.ref q_text, .int v_size, .int v_at, .ref q_read, .ref q_l, .ref q_stands, .ref q_kept, .int v_keptMany, .ref q_one, .ref q_two, .ref q_ways, .ref q_now, .ref q_then])), (q_l, .inl (ca 0, 336, .inl v_l)), (q_one, .inl (ca 0, 7, .inl y_one_17)), (q_two, .inl (ca 0, 7, .inl y_two_18)), (q_ways, .inl (ca 0, 49, .inl y_ways_19)), (q_now, .inl (ca 1, 81, .inr (.inl y_now_20))), (q_then, .inl (ca 1, 81, .inr (.inl y_then_21)))] → va_S A s.heap H locs → lv_has ls 6 [(0, .ref q_this), (1, .int p1), (2, .int p2), (3, .int p3), (4, .int p4), (5, .int x5_16)] → W p l e (headSpec wsX9_traders rm_X9_traders).room s m args below meth c H locs 0 0 Q (F0 m 58 ls []) := by
              intro n
              induction n with
              | zero => intro x5_16 y_one_17 y_two_18 y_ways_19 y_now_20 y_then_21 H locs ls h; have h : (none : Option (Int32 × (Nat → Int32) × (Nat → Int32) × (Nat → Int32) × (Nat → Int64) × (Nat → Int64))) = some _ := h; cases h
              | succ n ih =>
                intro x5_16 y_one_17 y_two_18 y_ways_19 y_now_20 y_then_21 H locs ls h hP hD hS hl
                rw [lpg_succ, b_X9_traders_58] at h
                refine lv_iload hx hb dX9_traders_58 (lv_at hl 5 rfl) ?_
                refine lv_bipush (v := (nI 8)) hx hb dX9_traders_60 (by decide) ?_
                refine lv_icmp_gt (tgt := 123) hx hb dX9_traders_62 (by decide) (fun c_22 => ?_) (fun c_22 => ?_)
                · replace h := ifp_el c_22 h
                  refine lv_bipush (v := (-4 : Int32)) hx hb dX9_traders_123 (by decide) ?_
                  cases h
                  rw [← hQe]
                  exact W.iret hx hb hr (fun t ht hW => ⟨⟨_, (), rfl, rfl, by rw [ht]; exact hP, va_K.moved hW.alike hK, hD⟩, hS.F ht⟩) hS.2.2 dX9_traders_125
                · replace h := ifn_el c_22 h
                  refine lv_aload_n hx hb dX9_traders_65 rfl (lv_at hl 0 rfl) ?_
                  refine lv_iconst (v := (nI 0)) hx hb dX9_traders_66 (by decide) ?_
                  refine lv_iconst (v := (nI 0)) hx hb dX9_traders_67 (by decide) ?_
                  obtain ⟨y_now_23, hg_24, h⟩ := bd1_el h
                  refine kx_Vv (As := [.int (nI 0), .int (nI 0)]) (rest := []) (wr := [(q_l, .inl (ca 0, 336, .inl v_l)), (q_one, .inl (ca 0, 7, .inl y_one_17)), (q_two, .inl (ca 0, 7, .inl y_two_18)), (q_ways, .inl (ca 0, 49, .inl y_ways_19)), (q_then, .inl (ca 1, 81, .inr (.inl y_then_21)))]) (w1 := [(q_this, .inr (8, [.ref q_text, .int v_size, .int v_at, .ref q_read, .ref q_l, .ref q_stands, .ref q_kept, .int v_keptMany, .ref q_one, .ref q_two, .ref q_ways, .ref q_now, .ref q_then])), (q_now, .inl (ca 1, 81, .inr (.inl y_now_23)))]) (wn := [(q_this, .inr (8, [.ref q_text, .int v_size, .int v_at, .ref q_read, .ref q_l, .ref q_stands, .ref q_kept, .int v_keptMany, .ref q_one, .ref q_two, .ref q_ways, .ref q_now, .ref q_then])), (q_l, .inl (ca 0, 336, .inl v_l)), (q_one, .inl (ca 0, 7, .inl y_one_17)), (q_two, .inl (ca 0, 7, .inl y_two_18)), (q_ways, .inl (ca 0, 49, .inl y_ways_19)), (q_now, .inl (ca 1, 81, .inr (.inl y_now_23))), (q_then, .inl (ca 1, 81, .inr (.inl y_then_21)))]) ⟨hx, hb, hml, hown, hts⟩ (c_X9_beginAt l D ca F H.size q_this q_text q_read q_l q_stands q_kept q_one q_two q_ways q_now q_then (nI 0) (nI 0) v_size v_at v_keptMany y_now_20 y_now_23 hg_24) (cwV 2 hts gX9_traders_X9_beginAt rfl rfl rfl (by decide +kernel) ⟨(Nat.le_of_ble_eq_true rfl), (Nat.le_of_ble_eq_true rfl)⟩) hK hP hD hS hA (ci := 8) (q0 := 0) rfl rfl [0, 5] [1, 2, 3, 4, 6] [5, 0, 1, 2, 3, 6, 4] rfl rfl rfl rfl (by decide) rfl rfl rfl hl.1 rfl (Nat.le_of_ble_eq_true rfl) dX9_traders_68 ⟨Nat.zero_le _, Nat.zero_le _⟩ (fun H locs hP hD hS => ?_)
                  refine lv_aload_n hx hb dX9_traders_71 rfl (lv_at hl 0 rfl) ?_
                  refine lv_iload_n hx hb dX9_traders_72 rfl (lv_at hl 1 rfl) ?_
                  refine lv_iload_n hx hb dX9_traders_73 rfl (lv_at hl 2 rfl) ?_
                  refine lv_iload hx hb dX9_traders_74 (lv_at hl 5 rfl) ?_
                  refine lv_iload hx hb dX9_traders_76 (lv_at hl 5 rfl) ?_
                  refine lv_aload_n hx hb dX9_traders_78 rfl (lv_at hl 0 rfl) ?_
                  refine va_get (D := D) (ci := 8) (v := .ref q_l) (C := RX9) (T := TX9) (N := 13) hx hb hts i_X9 hown hK hP 0 rfl rfl 4 (by decide) k_16 (fun _ h9 => h9) rfl dX9_traders_79 ?_
                  refine lv_sipush (v := (nI 300)) hx hb dX9_traders_82 (by decide) ?_
                  obtain ⟨hi_25, h⟩ := ck_el h
                  refine va_iald hx hb hK hP 1 0 rfl rfl hi_25 dX9_traders_85 ?_
                  refine lv_aload_n hx hb dX9_traders_86 rfl (lv_at hl 0 rfl) ?_
                  refine va_get (D := D) (ci := 8) (v := .ref q_l) (C := RX9) (T := TX9) (N := 13) hx hb hts i_X9 hown hK hP 0 rfl rfl 4 (by decide) k_16 (fun _ h9 => h9) rfl dX9_traders_87 ?_
                  refine lv_sipush (v := (nI 301)) hx hb dX9_traders_90 (by decide) ?_
                  obtain ⟨hi_26, h⟩ := ck_el h
                  refine va_iald hx hb hK hP 1 0 rfl rfl hi_26 dX9_traders_93 ?_
                  obtain ⟨y_one_27, y_two_28, y_ways_29, y_now_30, y_then_31, hg_32, h⟩ := bd5_el h
                  refine kx_Vv (As := [.int p1, .int p2, .int x5_16, .int x5_16, .int (v_l (nI 300).toNatClampNeg), .int (v_l (nI 301).toNatClampNeg)]) (rest := []) (wr := []) (w1 := [(q_this, .inr (8, [.ref q_text, .int v_size, .int v_at, .ref q_read, .ref q_l, .ref q_stands, .ref q_kept, .int v_keptMany, .ref q_one, .ref q_two, .ref q_ways, .ref q_now, .ref q_then])), (q_l, .inl (ca 0, 336, .inl v_l)), (q_one, .inl (ca 0, 7, .inl y_one_27)), (q_two, .inl (ca 0, 7, .inl y_two_28)), (q_ways, .inl (ca 0, 49, .inl y_ways_29)), (q_now, .inl (ca 1, 81, .inr (.inl y_now_30))), (q_then, .inl (ca 1, 81, .inr (.inl y_then_31)))]) (wn := [(q_this, .inr (8, [.ref q_text, .int v_size, .int v_at, .ref q_read, .ref q_l, .ref q_stands, .ref q_kept, .int v_keptMany, .ref q_one, .ref q_two, .ref q_ways, .ref q_now, .ref q_then])), (q_l, .inl (ca 0, 336, .inl v_l)), (q_one, .inl (ca 0, 7, .inl y_one_27)), (q_two, .inl (ca 0, 7, .inl y_two_28)), (q_ways, .inl (ca 0, 49, .inl y_ways_29)), (q_now, .inl (ca 1, 81, .inr (.inl y_now_30))), (q_then, .inl (ca 1, 81, .inr (.inl y_then_31)))]) ⟨hx, hb, hml, hown, hts⟩ (c_X9_goOn l D ca F H.size q_this q_text q_read q_l q_stands q_kept q_one q_two q_ways q_now q_then p1 p2 x5_16 x5_16 (v_l (nI 300).toNatClampNeg) (v_l (nI 301).toNatClampNeg) v_size v_at v_keptMany v_l y_one_17 y_two_18 y_ways_19 y_now_23 y_then_21 y_one_27 y_two_28 y_ways_29 y_now_30 y_then_31 hg_32) (cwV 6 hts gX9_traders_X9_goOn rfl rfl rfl (by decide +kernel) ⟨(Nat.le_of_ble_eq_true rfl), (Nat.le_of_ble_eq_true rfl)⟩) hK hP hD hS hA (ci := 8) (q0 := 0) rfl rfl [0, 1, 2, 3, 4, 5, 6] [] [0, 1, 2, 3, 4, 5, 6] rfl rfl rfl rfl (by decide) rfl rfl rfl hl.1 rfl (Nat.le_of_ble_eq_true rfl) dX9_traders_94 ⟨Nat.zero_le _, Nat.zero_le _⟩ (fun H locs hP hD hS => ?_)
                  refine lv_aload_n hx hb dX9_traders_97 rfl (lv_at hl 0 rfl) ?_
                  refine lv_iload_n hx hb dX9_traders_98 rfl (lv_at hl 3 rfl) ?_
                  refine lv_iload hx hb dX9_traders_99 (lv_at hl 5 rfl) ?_
                  refine lv_iload hx hb dX9_traders_101 (lv_at hl 5 rfl) ?_
                  obtain ⟨r_33, hg_34, h⟩ := bd1_el h
                  refine kx_Vl (As := [.int p3, .int x5_16, .int x5_16]) (rest := []) (wr := [(q_l, .inl (ca 0, 336, .inl v_l)), (q_one, .inl (ca 0, 7, .inl y_one_27)), (q_two, .inl (ca 0, 7, .inl y_two_28)), (q_ways, .inl (ca 0, 49, .inl y_ways_29)), (q_then, .inl (ca 1, 81, .inr (.inl y_then_31)))]) (w1 := [(q_this, .inr (8, [.ref q_text, .int v_size, .int v_at, .ref q_read, .ref q_l, .ref q_stands, .ref q_kept, .int v_keptMany, .ref q_one, .ref q_two, .ref q_ways, .ref q_now, .ref q_then])), (q_now, .inl (ca 1, 81, .inr (.inl y_now_30)))]) (wn := [(q_this, .inr (8, [.ref q_text, .int v_size, .int v_at, .ref q_read, .ref q_l, .ref q_stands, .ref q_kept, .int v_keptMany, .ref q_one, .ref q_two, .ref q_ways, .ref q_now, .ref q_then])), (q_l, .inl (ca 0, 336, .inl v_l)), (q_one, .inl (ca 0, 7, .inl y_one_27)), (q_two, .inl (ca 0, 7, .inl y_two_28)), (q_ways, .inl (ca 0, 49, .inl y_ways_29)), (q_now, .inl (ca 1, 81, .inr (.inl y_now_30))), (q_then, .inl (ca 1, 81, .inr (.inl y_then_31)))]) ⟨hx, hb, hml, hown, hts⟩ (c_X9_wonBy l D ca H.size q_this q_text q_read q_l q_stands q_kept q_one q_two q_ways q_now q_then p3 x5_16 x5_16 v_size v_at v_keptMany y_now_30 r_33 hg_34) (cwV 3 hts gX9_traders_X9_wonBy rfl rfl rfl (by decide +kernel) ⟨(Nat.le_of_ble_eq_true rfl), (Nat.le_of_ble_eq_true rfl)⟩) hK hP hD hS hA (ci := 8) (q0 := 0) rfl rfl [0, 5] [1, 2, 3, 4, 6] [5, 0, 1, 2, 3, 6, 4] rfl rfl rfl rfl (by decide) rfl rfl rfl hl.1 rfl (Nat.le_of_ble_eq_true rfl) dX9_traders_103 ⟨Nat.zero_le _, Nat.zero_le _⟩ (fun H locs hP hD hS => ?_)
                  refine lv_iload hx hb dX9_traders_106 (lv_at hl 4 rfl) ?_
                  obtain ⟨r_35, hg_36, h⟩ := bd1_el h
                  refine kx_Si (As := [.long r_33, .int p4]) (rest := []) (wr := [(q_this, .inr (8, [.ref q_text, .int v_size, .int v_at, .ref q_read, .ref q_l, .ref q_stands, .ref q_kept, .int v_keptMany, .ref q_one, .ref q_two, .ref q_ways, .ref q_now, .ref q_then])), (q_l, .inl (ca 0, 336, .inl v_l)), (q_one, .inl (ca 0, 7, .inl y_one_27)), (q_two, .inl (ca 0, 7, .inl y_two_28)), (q_ways, .inl (ca 0, 49, .inl y_ways_29)), (q_now, .inl (ca 1, 81, .inr (.inl y_now_30))), (q_then, .inl (ca 1, 81, .inr (.inl y_then_31)))]) (w1 := []) (wn := [(q_this, .inr (8, [.ref q_text, .int v_size, .int v_at, .ref q_read, .ref q_l, .ref q_stands, .ref q_kept, .int v_keptMany, .ref q_one, .ref q_two, .ref q_ways, .ref q_now, .ref q_then])), (q_l, .inl (ca 0, 336, .inl v_l)), (q_one, .inl (ca 0, 7, .inl y_one_27)), (q_two, .inl (ca 0, 7, .inl y_two_28)), (q_ways, .inl (ca 0, 49, .inl y_ways_29)), (q_now, .inl (ca 1, 81, .inr (.inl y_now_30))), (q_then, .inl (ca 1, 81, .inr (.inl y_then_31)))]) ⟨hx, hb, hml, hown, hts⟩ (c_X9_isEnough l D ca H.size r_33 p4 r_35 hg_36) (va_cwS 2 hts gX9_traders_X9_isEnough rfl rfl rfl (by decide +kernel) ⟨(Nat.le_of_ble_eq_true rfl), (Nat.le_of_ble_eq_true rfl)⟩) hK hP hD hS hA [] [0, 1, 2, 3, 4, 5, 6] [0, 1, 2, 3, 4, 5, 6] rfl rfl rfl rfl (by decide) rfl rfl rfl hl.1 rfl (Nat.le_of_ble_eq_true rfl) dX9_traders_108 ⟨Nat.zero_le _, Nat.zero_le _⟩ (fun H locs hP hD hS => ?_)
                  refine lv_if_eq (tgt := 117) hx hb dX9_traders_111 (by decide) (fun c_37 => ?_) (fun c_37 => ?_)
                  · replace h := ifp_el c_37 h
                    obtain ⟨x5_38, e_39, h⟩ := nm_el h
                    refine lv_iinc (v := x5_38) (lv' := [(5, .int x5_38), (0, .ref q_this), (1, .int p1), (2, .int p2), (3, .int p3), (4, .int p4)]) hx hb dX9_traders_117 hl (k := 5) rfl (by rw [← e_39]; rfl) (by decide) rfl (fun ls hl => ?_)
                    refine lv_goto (tgt := 58) hx hb dX9_traders_120 (by decide) ?_
                    exact ih _ _ _ _ _ _ _ _ _ h hP hD hS (lv_sub hl [1, 2, 3, 4, 5, 0] rfl)
                  · replace h := ifn_el c_37 h
                    refine lv_iload hx hb dX9_traders_114 (lv_at hl 5 rfl) ?_
                    cases h
                    rw [← hQe]
                    exact W.iret hx hb hr (fun t ht hW => ⟨⟨_, (), rfl, rfl, by rw [ht]; exact hP, va_K.moved hW.alike hK, hD⟩, hS.F ht⟩) hS.2.2 dX9_traders_116
            exact hlp F (nI 1) v_one v_two v_ways v_now v_then H locs ls h hP hD hS (lv_sub hl [1, 2, 3, 4, 5, 0] rfl)
          · replace h := ifp_el c_15 h
            refine lv_bipush (v := (-2 : Int32)) hx hb dX9_traders_52 (by decide) ?_
            cases h
            rw [← hQe]
            exact W.iret hx hb hr (fun t ht hW => ⟨⟨_, (), rfl, rfl, by rw [ht]; exact hP, va_K.moved hW.alike hK, hD⟩, hS.F ht⟩) hS.2.2 dX9_traders_54
        · replace h := ifp_el c_12 h
          refine lv_iconst (v := (-1 : Int32)) hx hb dX9_traders_42 (by decide) ?_
          cases h
          rw [← hQe]
          exact W.iret hx hb hr (fun t ht hW => ⟨⟨_, (), rfl, rfl, by rw [ht]; exact hP, va_K.moved hW.alike hK, hD⟩, hS.F ht⟩) hS.2.2 dX9_traders_43
def b_X9_ready_58 (p1 : Int32) (p2 : Int32) (p3 : Int32) (p4 : Int32) (v_l : Nat → Int32) (v_stands : Nat → Int32) (F : Nat) (rec58 : Int32 → (Nat → Int32) → (Nat → Int32) → (Nat → Int32) → (Nat → Int64) → (Nat → Int64) → Option (Int32 × (Nat → Int32) × (Nat → Int32) × (Nat → Int32) × (Nat → Int64) × (Nat → Int64))) (x5_16 : Int32) (y_one_17 : Nat → Int32) (y_two_18 : Nat → Int32) (y_ways_19 : Nat → Int32) (y_now_20 : Nat → Int64) (y_then_21 : Nat → Int64) : Option (Int32 × (Nat → Int32) × (Nat → Int32) × (Nat → Int32) × (Nat → Int64) × (Nat → Int64)) := (if (nI 10) < x5_16 then some ((-4 : Int32), y_one_17, y_two_18, y_ways_19, y_now_20, y_then_21) else ck 16 ((nI 2) * p1) (ck 16 (((nI 2) * p1) + (nI 1)) (bd1 (D_X9_beginAt F (v_stands ((nI 2) * p1).toNatClampNeg) (v_stands (((nI 2) * p1) + (nI 1)).toNatClampNeg) y_now_20) (fun y_now_25 => ck 336 (nI 298) (ck 336 (nI 299) (bd5 (D_X9_goOn F p1 p2 (v_l (nI 298).toNatClampNeg) (v_l (nI 299).toNatClampNeg) x5_16 x5_16 v_l y_one_17 y_two_18 y_ways_19 y_now_25 y_then_21) (fun y_one_29 y_two_30 y_ways_31 y_now_32 y_then_33 => ck 336 (nI 298) (ck 336 (nI 299) (bd1 (D_X9_wonBy p3 (v_l (nI 298).toNatClampNeg) (v_l (nI 299).toNatClampNeg) y_now_32) (fun r_37 => bd1 (D_X9_isEnough r_37 p4) (fun r_39 => (if r_39 = 0 then nm (x5_16 + (nI 1)) (fun x5_42 => rec58 x5_42 y_one_29 y_two_30 y_ways_31 y_now_32 y_then_33) else some (x5_16, y_one_29, y_two_30, y_ways_31, y_now_32, y_then_33)))))))))))))
def D_X9_ready (F : Nat) (p1 : Int32) (p2 : Int32) (p3 : Int32) (p4 : Int32) (v_l : Nat → Int32) (v_stands : Nat → Int32) (v_one : Nat → Int32) (v_two : Nat → Int32) (v_ways : Nat → Int32) (v_now : Nat → Int64) (v_then : Nat → Int64) : Option (Int32 × (Nat → Int32) × (Nat → Int32) × (Nat → Int32) × (Nat → Int64) × (Nat → Int64)) := bd1 (D_X9_isMeaning p1) (fun r_1 => (if r_1 = 0 then some ((-1 : Int32), v_one, v_two, v_ways, v_now, v_then) else bd1 (D_X9_in p2.toInt64 (lN 0) (lN 200)) (fun r_4 => (if r_4 = 0 then some ((-1 : Int32), v_one, v_two, v_ways, v_now, v_then) else bd1 (D_X9_in p3.toInt64 (lN 0) (lN 1)) (fun r_7 => (if r_7 = 0 then some ((-1 : Int32), v_one, v_two, v_ways, v_now, v_then) else bd1 (D_X9_in p4.toInt64 (lN 1) (lN 100)) (fun r_10 => (if r_10 = 0 then some ((-1 : Int32), v_one, v_two, v_ways, v_now, v_then) else bd1 (D_X9_isTold p1 v_l) (fun r_13 => (if r_13 = 0 then some ((-2 : Int32), v_one, v_two, v_ways, v_now, v_then) else lpg (T := Int32 → (Nat → Int32) → (Nat → Int32) → (Nat → Int32) → (Nat → Int64) → (Nat → Int64) → Option (Int32 × (Nat → Int32) × (Nat → Int32) × (Nat → Int32) × (Nat → Int64) × (Nat → Int64))) (fun _ _ _ _ _ _ => none) (b_X9_ready_58 p1 p2 p3 p4 v_l v_stands F) F (nI 0) v_one v_two v_ways v_now v_then))))))))))
abbrev rm_X9_ready : Room := { frames := 6, cells := 0, slots := 0, locals := 141 }
set_option maxHeartbeats 4000000 in
set_option maxRecDepth 100000 in
theorem c_X9_ready (l : Launch) (D : va_G) (ca : Nat → ClassId) (F : Nat) (sz : Nat) (q_this q_text q_read q_l q_stands q_kept q_one q_two q_ways q_now q_then : Nat) (p1 : Int32) (p2 : Int32) (p3 : Int32) (p4 : Int32) (v_size : Int32) (v_at : Int32) (v_keptMany : Int32) (v_l : Nat → Int32) (v_stands : Nat → Int32) (v_one : Nat → Int32) (v_two : Nat → Int32) (v_ways : Nat → Int32) (v_now : Nat → Int64) (v_then : Nat → Int64) (r : Int32) (o_one : Nat → Int32) (o_two : Nat → Int32) (o_ways : Nat → Int32) (o_now : Nat → Int64) (o_then : Nat → Int64) (h : D_X9_ready F p1 p2 p3 p4 v_l v_stands v_one v_two v_ways v_now v_then = some (r, o_one, o_two, o_ways, o_now, o_then)) : Met l yX9_ready wsX9_ready rm_X9_ready (va_Pc [.ref q_this, .int p1, .int p2, .int p3, .int p4] (kPre D ca [(q_this, .inr (8, [.ref q_text, .int v_size, .int v_at, .ref q_read, .ref q_l, .ref q_stands, .ref q_kept, .int v_keptMany, .ref q_one, .ref q_two, .ref q_ways, .ref q_now, .ref q_then])), (q_l, .inl (ca 0, 336, .inl v_l)), (q_stands, .inl (ca 0, 16, .inl v_stands)), (q_one, .inl (ca 0, 7, .inl v_one)), (q_two, .inl (ca 0, 7, .inl v_two)), (q_ways, .inl (ca 0, 49, .inl v_ways)), (q_now, .inl (ca 1, 81, .inr (.inl v_now))), (q_then, .inl (ca 1, 81, .inr (.inl v_then)))] sz)) (kQi D ca (va_A [(q_this, .inr (8, [.ref q_text, .int v_size, .int v_at, .ref q_read, .ref q_l, .ref q_stands, .ref q_kept, .int v_keptMany, .ref q_one, .ref q_two, .ref q_ways, .ref q_now, .ref q_then])), (q_l, .inl (ca 0, 336, .inl v_l)), (q_stands, .inl (ca 0, 16, .inl v_stands)), (q_one, .inl (ca 0, 7, .inl v_one)), (q_two, .inl (ca 0, 7, .inl v_two)), (q_ways, .inl (ca 0, 49, .inl v_ways)), (q_now, .inl (ca 1, 81, .inr (.inl v_now))), (q_then, .inl (ca 1, 81, .inr (.inl v_then)))] sz) [(q_this, .inr (8, [.ref q_text, .int v_size, .int v_at, .ref q_read, .ref q_l, .ref q_stands, .ref q_kept, .int v_keptMany, .ref q_one, .ref q_two, .ref q_ways, .ref q_now, .ref q_then])), (q_l, .inl (ca 0, 336, .inl v_l)), (q_stands, .inl (ca 0, 16, .inl v_stands)), (q_one, .inl (ca 0, 7, .inl o_one)), (q_two, .inl (ca 0, 7, .inl o_two)), (q_ways, .inl (ca 0, 49, .inl o_ways)), (q_now, .inl (ca 1, 81, .inr (.inl o_now))), (q_then, .inl (ca 1, 81, .inr (.inl o_then)))] r) 0 0 (va_A [(q_this, .inr (8, [.ref q_text, .int v_size, .int v_at, .ref q_read, .ref q_l, .ref q_stands, .ref q_kept, .int v_keptMany, .ref q_one, .ref q_two, .ref q_ways, .ref q_now, .ref q_then])), (q_l, .inl (ca 0, 336, .inl v_l)), (q_stands, .inl (ca 0, 16, .inl v_stands)), (q_one, .inl (ca 0, 7, .inl v_one)), (q_two, .inl (ca 0, 7, .inl v_two)), (q_ways, .inl (ca 0, 49, .inl v_ways)), (q_now, .inl (ca 1, 81, .inr (.inl v_now))), (q_then, .inl (ca 1, 81, .inr (.inl v_then)))] sz) := by
  refine Met.ofW (cc := cX9_ready) (maxL := 6) (ret := (some .int)) (by decide +kernel) rfl ?_
  intro p e s m args below meth c s₁ B hml hv
  obtain ⟨rfl, hsz, hP, hK, hD0⟩ := hv
  have hx := B.exec
  have hb := B.bytes
  have hr := B.returns
  have hts := atoms_spec (ws := wsX9_ready) B.pre
  have hown : s.vm.findClass RX9 = some m.cls := findClass_of_methodNamed B.named
  have hlocks := B.notSynchronized
  clear B
  subst hsz
  have hD := hD0.self (sz := s.heap.size)
  generalize hAe : va_A [(q_this, .inr (8, [.ref q_text, .int v_size, .int v_at, .ref q_read, .ref q_l, .ref q_stands, .ref q_kept, .int v_keptMany, .ref q_one, .ref q_two, .ref q_ways, .ref q_now, .ref q_then])), (q_l, .inl (ca 0, 336, .inl v_l)), (q_stands, .inl (ca 0, 16, .inl v_stands)), (q_one, .inl (ca 0, 7, .inl v_one)), (q_two, .inl (ca 0, 7, .inl v_two)), (q_ways, .inl (ca 0, 49, .inl v_ways)), (q_now, .inl (ca 1, 81, .inr (.inl v_now))), (q_then, .inl (ca 1, 81, .inr (.inl v_then)))] s.heap.size = A at hD ⊢
  have hA : ∀ q : Nat, s.heap.size ≤ q → A q := fun q h => by rw [← hAe]; exact Or.inr h
  have hS : va_S A s.heap s.heap [] := va_S.rf
  have hl := lv_entry ([.ref q_this, .int p1, .int p2, .int p3, .int p4]) (n := 6) (Nat.le_of_ble_eq_true rfl)
  rw [lg_entry_eq]
  generalize (lg_sl ([.ref q_this, .int p1, .int p2, .int p3, .int p4]) ++ List.replicate (6 - (lg_sl ([.ref q_this, .int p1, .int p2, .int p3, .int p4])).length) Slot.unset).toArray = ls at hl ⊢
  have hl : lv_has ls 6 [(0, .ref q_this), (1, .int p1), (2, .int p2), (3, .int p3), (4, .int p4)] := hl
  generalize ([.ref q_this, .int p1, .int p2, .int p3, .int p4] : List Value).toArray = args at hts ⊢
  generalize hQe : MQ below (kQi D ca (A) [(q_this, .inr (8, [.ref q_text, .int v_size, .int v_at, .ref q_read, .ref q_l, .ref q_stands, .ref q_kept, .int v_keptMany, .ref q_one, .ref q_two, .ref q_ways, .ref q_now, .ref q_then])), (q_l, .inl (ca 0, 336, .inl v_l)), (q_stands, .inl (ca 0, 16, .inl v_stands)), (q_one, .inl (ca 0, 7, .inl o_one)), (q_two, .inl (ca 0, 7, .inl o_two)), (q_ways, .inl (ca 0, 49, .inl o_ways)), (q_now, .inl (ca 1, 81, .inr (.inl o_now))), (q_then, .inl (ca 1, 81, .inr (.inl o_then)))] r) args s 0 0 A = Q
  have k_188 := hts (.constantLong RX9 188 (lN 200)) (by decide +kernel)
  have k_168 := hts (.constantLong RX9 168 (lN 100)) (by decide +kernel)
  have i_X9 : ∀ w ∈ u_ws RX9 TX9 13, w ∈ wsX9_ready := by decide +kernel
  have k_19 := hts (.fieldLink RX9 19 "TradeWordsModel" "stands" "[I") (by decide +kernel)
  have k_16 := hts (.fieldLink RX9 16 "TradeWordsModel" "l" "[I") (by decide +kernel)
  rw [D_X9_ready] at h
  refine lv_iload_n hx hb dX9_ready_0 rfl (lv_at hl 1 rfl) ?_
  obtain ⟨r_1, hg_2, h⟩ := bd1_el h
  refine kx_Si (As := [.int p1]) (rest := []) (wr := [(q_this, .inr (8, [.ref q_text, .int v_size, .int v_at, .ref q_read, .ref q_l, .ref q_stands, .ref q_kept, .int v_keptMany, .ref q_one, .ref q_two, .ref q_ways, .ref q_now, .ref q_then])), (q_l, .inl (ca 0, 336, .inl v_l)), (q_stands, .inl (ca 0, 16, .inl v_stands)), (q_one, .inl (ca 0, 7, .inl v_one)), (q_two, .inl (ca 0, 7, .inl v_two)), (q_ways, .inl (ca 0, 49, .inl v_ways)), (q_now, .inl (ca 1, 81, .inr (.inl v_now))), (q_then, .inl (ca 1, 81, .inr (.inl v_then)))]) (w1 := []) (wn := [(q_this, .inr (8, [.ref q_text, .int v_size, .int v_at, .ref q_read, .ref q_l, .ref q_stands, .ref q_kept, .int v_keptMany, .ref q_one, .ref q_two, .ref q_ways, .ref q_now, .ref q_then])), (q_l, .inl (ca 0, 336, .inl v_l)), (q_stands, .inl (ca 0, 16, .inl v_stands)), (q_one, .inl (ca 0, 7, .inl v_one)), (q_two, .inl (ca 0, 7, .inl v_two)), (q_ways, .inl (ca 0, 49, .inl v_ways)), (q_now, .inl (ca 1, 81, .inr (.inl v_now))), (q_then, .inl (ca 1, 81, .inr (.inl v_then)))]) ⟨hx, hb, hml, hown, hts⟩ (c_X9_isMeaning l D ca s.heap.size p1 r_1 hg_2) (va_cwS 1 hts gX9_ready_X9_isMeaning rfl rfl rfl (by decide +kernel) ⟨(Nat.le_of_ble_eq_true rfl), (Nat.le_of_ble_eq_true rfl)⟩) hK hP hD hS hA [] [0, 1, 2, 3, 4, 5, 6, 7] [0, 1, 2, 3, 4, 5, 6, 7] rfl rfl rfl rfl (by decide) rfl rfl rfl hl.1 rfl (Nat.le_of_ble_eq_true rfl) dX9_ready_1 ⟨Nat.zero_le _, Nat.zero_le _⟩ (fun H locs hP hD hS => ?_)
  refine lv_if_eq (tgt := 42) hx hb dX9_ready_4 (by decide) (fun c_3 => ?_) (fun c_3 => ?_)
  · replace h := ifp_el c_3 h
    refine lv_iconst (v := (-1 : Int32)) hx hb dX9_ready_42 (by decide) ?_
    cases h
    rw [← hQe]
    exact W.iret hx hb hr (fun t ht hW => ⟨⟨_, (), rfl, rfl, by rw [ht]; exact hP, va_K.moved hW.alike hK, hD⟩, hS.F ht⟩) hS.2.2 dX9_ready_43
  · replace h := ifn_el c_3 h
    refine lv_iload_n hx hb dX9_ready_7 rfl (lv_at hl 2 rfl) ?_
    refine lv_i2l hx hb dX9_ready_8 rfl ?_
    refine lv_lconst (v := (lN 0)) hx hb dX9_ready_9 (by decide) ?_
    refine lv_ldc2 hx hb hown k_188 dX9_ready_10 ?_
    obtain ⟨r_4, hg_5, h⟩ := bd1_el h
    refine kx_Si (As := [.long p2.toInt64, .long (lN 0), .long (lN 200)]) (rest := []) (wr := [(q_this, .inr (8, [.ref q_text, .int v_size, .int v_at, .ref q_read, .ref q_l, .ref q_stands, .ref q_kept, .int v_keptMany, .ref q_one, .ref q_two, .ref q_ways, .ref q_now, .ref q_then])), (q_l, .inl (ca 0, 336, .inl v_l)), (q_stands, .inl (ca 0, 16, .inl v_stands)), (q_one, .inl (ca 0, 7, .inl v_one)), (q_two, .inl (ca 0, 7, .inl v_two)), (q_ways, .inl (ca 0, 49, .inl v_ways)), (q_now, .inl (ca 1, 81, .inr (.inl v_now))), (q_then, .inl (ca 1, 81, .inr (.inl v_then)))]) (w1 := []) (wn := [(q_this, .inr (8, [.ref q_text, .int v_size, .int v_at, .ref q_read, .ref q_l, .ref q_stands, .ref q_kept, .int v_keptMany, .ref q_one, .ref q_two, .ref q_ways, .ref q_now, .ref q_then])), (q_l, .inl (ca 0, 336, .inl v_l)), (q_stands, .inl (ca 0, 16, .inl v_stands)), (q_one, .inl (ca 0, 7, .inl v_one)), (q_two, .inl (ca 0, 7, .inl v_two)), (q_ways, .inl (ca 0, 49, .inl v_ways)), (q_now, .inl (ca 1, 81, .inr (.inl v_now))), (q_then, .inl (ca 1, 81, .inr (.inl v_then)))]) ⟨hx, hb, hml, hown, hts⟩ (c_X9_in l D ca H.size p2.toInt64 (lN 0) (lN 200) r_4 hg_5) (va_cwS 3 hts gX9_ready_X9_in rfl rfl rfl (by decide +kernel) ⟨(Nat.le_of_ble_eq_true rfl), (Nat.le_of_ble_eq_true rfl)⟩) hK hP hD hS hA [] [0, 1, 2, 3, 4, 5, 6, 7] [0, 1, 2, 3, 4, 5, 6, 7] rfl rfl rfl rfl (by decide) rfl rfl rfl hl.1 rfl (Nat.le_of_ble_eq_true rfl) dX9_ready_13 ⟨Nat.zero_le _, Nat.zero_le _⟩ (fun H locs hP hD hS => ?_)
    refine lv_if_eq (tgt := 42) hx hb dX9_ready_16 (by decide) (fun c_6 => ?_) (fun c_6 => ?_)
    · replace h := ifp_el c_6 h
      refine lv_iconst (v := (-1 : Int32)) hx hb dX9_ready_42 (by decide) ?_
      cases h
      rw [← hQe]
      exact W.iret hx hb hr (fun t ht hW => ⟨⟨_, (), rfl, rfl, by rw [ht]; exact hP, va_K.moved hW.alike hK, hD⟩, hS.F ht⟩) hS.2.2 dX9_ready_43
    · replace h := ifn_el c_6 h
      refine lv_iload_n hx hb dX9_ready_19 rfl (lv_at hl 3 rfl) ?_
      refine lv_i2l hx hb dX9_ready_20 rfl ?_
      refine lv_lconst (v := (lN 0)) hx hb dX9_ready_21 (by decide) ?_
      refine lv_lconst (v := (lN 1)) hx hb dX9_ready_22 (by decide) ?_
      obtain ⟨r_7, hg_8, h⟩ := bd1_el h
      refine kx_Si (As := [.long p3.toInt64, .long (lN 0), .long (lN 1)]) (rest := []) (wr := [(q_this, .inr (8, [.ref q_text, .int v_size, .int v_at, .ref q_read, .ref q_l, .ref q_stands, .ref q_kept, .int v_keptMany, .ref q_one, .ref q_two, .ref q_ways, .ref q_now, .ref q_then])), (q_l, .inl (ca 0, 336, .inl v_l)), (q_stands, .inl (ca 0, 16, .inl v_stands)), (q_one, .inl (ca 0, 7, .inl v_one)), (q_two, .inl (ca 0, 7, .inl v_two)), (q_ways, .inl (ca 0, 49, .inl v_ways)), (q_now, .inl (ca 1, 81, .inr (.inl v_now))), (q_then, .inl (ca 1, 81, .inr (.inl v_then)))]) (w1 := []) (wn := [(q_this, .inr (8, [.ref q_text, .int v_size, .int v_at, .ref q_read, .ref q_l, .ref q_stands, .ref q_kept, .int v_keptMany, .ref q_one, .ref q_two, .ref q_ways, .ref q_now, .ref q_then])), (q_l, .inl (ca 0, 336, .inl v_l)), (q_stands, .inl (ca 0, 16, .inl v_stands)), (q_one, .inl (ca 0, 7, .inl v_one)), (q_two, .inl (ca 0, 7, .inl v_two)), (q_ways, .inl (ca 0, 49, .inl v_ways)), (q_now, .inl (ca 1, 81, .inr (.inl v_now))), (q_then, .inl (ca 1, 81, .inr (.inl v_then)))]) ⟨hx, hb, hml, hown, hts⟩ (c_X9_in l D ca H.size p3.toInt64 (lN 0) (lN 1) r_7 hg_8) (va_cwS 3 hts gX9_ready_X9_in rfl rfl rfl (by decide +kernel) ⟨(Nat.le_of_ble_eq_true rfl), (Nat.le_of_ble_eq_true rfl)⟩) hK hP hD hS hA [] [0, 1, 2, 3, 4, 5, 6, 7] [0, 1, 2, 3, 4, 5, 6, 7] rfl rfl rfl rfl (by decide) rfl rfl rfl hl.1 rfl (Nat.le_of_ble_eq_true rfl) dX9_ready_23 ⟨Nat.zero_le _, Nat.zero_le _⟩ (fun H locs hP hD hS => ?_)
      refine lv_if_eq (tgt := 42) hx hb dX9_ready_26 (by decide) (fun c_9 => ?_) (fun c_9 => ?_)
      · replace h := ifp_el c_9 h
        refine lv_iconst (v := (-1 : Int32)) hx hb dX9_ready_42 (by decide) ?_
        cases h
        rw [← hQe]
        exact W.iret hx hb hr (fun t ht hW => ⟨⟨_, (), rfl, rfl, by rw [ht]; exact hP, va_K.moved hW.alike hK, hD⟩, hS.F ht⟩) hS.2.2 dX9_ready_43
      · replace h := ifn_el c_9 h
        refine lv_iload hx hb dX9_ready_29 (lv_at hl 4 rfl) ?_
        refine lv_i2l hx hb dX9_ready_31 rfl ?_
        refine lv_lconst (v := (lN 1)) hx hb dX9_ready_32 (by decide) ?_
        refine lv_ldc2 hx hb hown k_168 dX9_ready_33 ?_
        obtain ⟨r_10, hg_11, h⟩ := bd1_el h
        refine kx_Si (As := [.long p4.toInt64, .long (lN 1), .long (lN 100)]) (rest := []) (wr := [(q_this, .inr (8, [.ref q_text, .int v_size, .int v_at, .ref q_read, .ref q_l, .ref q_stands, .ref q_kept, .int v_keptMany, .ref q_one, .ref q_two, .ref q_ways, .ref q_now, .ref q_then])), (q_l, .inl (ca 0, 336, .inl v_l)), (q_stands, .inl (ca 0, 16, .inl v_stands)), (q_one, .inl (ca 0, 7, .inl v_one)), (q_two, .inl (ca 0, 7, .inl v_two)), (q_ways, .inl (ca 0, 49, .inl v_ways)), (q_now, .inl (ca 1, 81, .inr (.inl v_now))), (q_then, .inl (ca 1, 81, .inr (.inl v_then)))]) (w1 := []) (wn := [(q_this, .inr (8, [.ref q_text, .int v_size, .int v_at, .ref q_read, .ref q_l, .ref q_stands, .ref q_kept, .int v_keptMany, .ref q_one, .ref q_two, .ref q_ways, .ref q_now, .ref q_then])), (q_l, .inl (ca 0, 336, .inl v_l)), (q_stands, .inl (ca 0, 16, .inl v_stands)), (q_one, .inl (ca 0, 7, .inl v_one)), (q_two, .inl (ca 0, 7, .inl v_two)), (q_ways, .inl (ca 0, 49, .inl v_ways)), (q_now, .inl (ca 1, 81, .inr (.inl v_now))), (q_then, .inl (ca 1, 81, .inr (.inl v_then)))]) ⟨hx, hb, hml, hown, hts⟩ (c_X9_in l D ca H.size p4.toInt64 (lN 1) (lN 100) r_10 hg_11) (va_cwS 3 hts gX9_ready_X9_in rfl rfl rfl (by decide +kernel) ⟨(Nat.le_of_ble_eq_true rfl), (Nat.le_of_ble_eq_true rfl)⟩) hK hP hD hS hA [] [0, 1, 2, 3, 4, 5, 6, 7] [0, 1, 2, 3, 4, 5, 6, 7] rfl rfl rfl rfl (by decide) rfl rfl rfl hl.1 rfl (Nat.le_of_ble_eq_true rfl) dX9_ready_36 ⟨Nat.zero_le _, Nat.zero_le _⟩ (fun H locs hP hD hS => ?_)
        refine lv_if_ne (tgt := 44) hx hb dX9_ready_39 (by decide) (fun c_12 => ?_) (fun c_12 => ?_)
        · replace h := ifn_el c_12 h
          refine lv_aload_n hx hb dX9_ready_44 rfl (lv_at hl 0 rfl) ?_
          refine lv_iload_n hx hb dX9_ready_45 rfl (lv_at hl 1 rfl) ?_
          obtain ⟨r_13, hg_14, h⟩ := bd1_el h
          refine kx_Vi (As := [.int p1]) (rest := []) (wr := [(q_stands, .inl (ca 0, 16, .inl v_stands)), (q_one, .inl (ca 0, 7, .inl v_one)), (q_two, .inl (ca 0, 7, .inl v_two)), (q_ways, .inl (ca 0, 49, .inl v_ways)), (q_now, .inl (ca 1, 81, .inr (.inl v_now))), (q_then, .inl (ca 1, 81, .inr (.inl v_then)))]) (w1 := [(q_this, .inr (8, [.ref q_text, .int v_size, .int v_at, .ref q_read, .ref q_l, .ref q_stands, .ref q_kept, .int v_keptMany, .ref q_one, .ref q_two, .ref q_ways, .ref q_now, .ref q_then])), (q_l, .inl (ca 0, 336, .inl v_l))]) (wn := [(q_this, .inr (8, [.ref q_text, .int v_size, .int v_at, .ref q_read, .ref q_l, .ref q_stands, .ref q_kept, .int v_keptMany, .ref q_one, .ref q_two, .ref q_ways, .ref q_now, .ref q_then])), (q_l, .inl (ca 0, 336, .inl v_l)), (q_stands, .inl (ca 0, 16, .inl v_stands)), (q_one, .inl (ca 0, 7, .inl v_one)), (q_two, .inl (ca 0, 7, .inl v_two)), (q_ways, .inl (ca 0, 49, .inl v_ways)), (q_now, .inl (ca 1, 81, .inr (.inl v_now))), (q_then, .inl (ca 1, 81, .inr (.inl v_then)))]) ⟨hx, hb, hml, hown, hts⟩ (c_X9_isTold l D ca H.size q_this q_text q_read q_l q_stands q_kept q_one q_two q_ways q_now q_then p1 v_size v_at v_keptMany v_l r_13 hg_14) (cwV 1 hts gX9_ready_X9_isTold rfl rfl rfl (by decide +kernel) ⟨(Nat.le_of_ble_eq_true rfl), (Nat.le_of_ble_eq_true rfl)⟩) hK hP hD hS hA (ci := 8) (q0 := 0) rfl rfl [0, 1] [2, 3, 4, 5, 6, 7] [6, 7, 0, 1, 2, 3, 4, 5] rfl rfl rfl rfl (by decide) rfl rfl rfl hl.1 rfl (Nat.le_of_ble_eq_true rfl) dX9_ready_46 ⟨Nat.zero_le _, Nat.zero_le _⟩ (fun H locs hP hD hS => ?_)
          refine lv_if_ne (tgt := 55) hx hb dX9_ready_49 (by decide) (fun c_15 => ?_) (fun c_15 => ?_)
          · replace h := ifn_el c_15 h
            refine lv_iconst (v := (nI 0)) hx hb dX9_ready_55 (by decide) ?_
            refine lv_istore (lv' := [(5, .int (nI 0)), (0, .ref q_this), (1, .int p1), (2, .int p2), (3, .int p3), (4, .int p4)]) hx hb dX9_ready_56 hl (by decide) rfl (fun ls hl => ?_)
            have hlp : ∀ (n : Nat) (x5_16 : Int32) (y_one_17 : Nat → Int32) (y_two_18 : Nat → Int32) (y_ways_19 : Nat → Int32) (y_now_20 : Nat → Int64) (y_then_21 : Nat → Int64) (H : Heap) (locs : List Loc) (ls : Array Slot), lpg (T := Int32 → (Nat → Int32) → (Nat → Int32) → (Nat → Int32) → (Nat → Int64) → (Nat → Int64) → Option (Int32 × (Nat → Int32) × (Nat → Int32) × (Nat → Int32) × (Nat → Int64) × (Nat → Int64))) (fun _ _ _ _ _ _ => none) (b_X9_ready_58 p1 p2 p3 p4 v_l v_stands F) n x5_16 y_one_17 y_two_18 y_ways_19 y_now_20 y_then_21 = some (r, o_one, o_two, o_ways, o_now, o_then) → va_P D vwCl [(q_this, .inr (8, [.ref q_text, .int v_size, .int v_at, .ref q_read, .ref q_l, .ref q_stands, .ref q_kept, .int v_keptMany, .ref q_one, .ref q_two, .ref q_ways, .ref q_now, .ref q_then])), (q_l, .inl (ca 0, 336, .inl v_l)), (q_stands, .inl (ca 0, 16, .inl v_stands)), (q_one, .inl (ca 0, 7, .inl y_one_17)), (q_two, .inl (ca 0, 7, .inl y_two_18)), (q_ways, .inl (ca 0, 49, .inl y_ways_19)), (q_now, .inl (ca 1, 81, .inr (.inl y_now_20))), (q_then, .inl (ca 1, 81, .inr (.inl y_then_21)))] H → va_D A [(q_this, .inr (8, [.ref q_text, .int v_size, .int v_at, .ref q_read, .ref q_l, .ref q_stands, .ref q_kept, .int v_keptMany, .ref q_one, .ref q_two, .ref q_ways, .ref q_now, .ref q_then])), (q_l, .inl (ca 0, 336, .inl v_l)), (q_stands, .inl (ca 0, 16, .inl v_stands)), (q_one, .inl (ca 0, 7, .inl y_one_17)), (q_two, .inl (ca 0, 7, .inl y_two_18)), (q_ways, .inl (ca 0, 49, .inl y_ways_19)), (q_now, .inl (ca 1, 81, .inr (.inl y_now_20))), (q_then, .inl (ca 1, 81, .inr (.inl y_then_21)))] → va_S A s.heap H locs → lv_has ls 6 [(0, .ref q_this), (1, .int p1), (2, .int p2), (3, .int p3), (4, .int p4), (5, .int x5_16)] → W p l e (headSpec wsX9_ready rm_X9_ready).room s m args below meth c H locs 0 0 Q (F0 m 58 ls []) := by
              intro n
              induction n with
              | zero => intro x5_16 y_one_17 y_two_18 y_ways_19 y_now_20 y_then_21 H locs ls h; have h : (none : Option (Int32 × (Nat → Int32) × (Nat → Int32) × (Nat → Int32) × (Nat → Int64) × (Nat → Int64))) = some _ := h; cases h
              | succ n ih =>
                intro x5_16 y_one_17 y_two_18 y_ways_19 y_now_20 y_then_21 H locs ls h hP hD hS hl
                rw [lpg_succ, b_X9_ready_58] at h
                refine lv_iload hx hb dX9_ready_58 (lv_at hl 5 rfl) ?_
                refine lv_bipush (v := (nI 10)) hx hb dX9_ready_60 (by decide) ?_
                refine lv_icmp_gt (tgt := 151) hx hb dX9_ready_62 (by decide) (fun c_22 => ?_) (fun c_22 => ?_)
                · replace h := ifp_el c_22 h
                  refine lv_bipush (v := (-4 : Int32)) hx hb dX9_ready_151 (by decide) ?_
                  cases h
                  rw [← hQe]
                  exact W.iret hx hb hr (fun t ht hW => ⟨⟨_, (), rfl, rfl, by rw [ht]; exact hP, va_K.moved hW.alike hK, hD⟩, hS.F ht⟩) hS.2.2 dX9_ready_153
                · replace h := ifn_el c_22 h
                  refine lv_aload_n hx hb dX9_ready_65 rfl (lv_at hl 0 rfl) ?_
                  refine lv_aload_n hx hb dX9_ready_66 rfl (lv_at hl 0 rfl) ?_
                  refine va_get (D := D) (ci := 8) (v := .ref q_stands) (C := RX9) (T := TX9) (N := 13) hx hb hts i_X9 hown hK hP 0 rfl rfl 5 (by decide) k_19 (fun _ h9 => h9) rfl dX9_ready_67 ?_
                  refine lv_iconst (v := (nI 2)) hx hb dX9_ready_70 (by decide) ?_
                  refine lv_iload_n hx hb dX9_ready_71 rfl (lv_at hl 1 rfl) ?_
                  refine lv_imul hx hb dX9_ready_72 ?_
                  obtain ⟨hi_23, h⟩ := ck_el h
                  refine va_iald hx hb hK hP 2 0 rfl rfl hi_23 dX9_ready_73 ?_
                  refine lv_aload_n hx hb dX9_ready_74 rfl (lv_at hl 0 rfl) ?_
                  refine va_get (D := D) (ci := 8) (v := .ref q_stands) (C := RX9) (T := TX9) (N := 13) hx hb hts i_X9 hown hK hP 0 rfl rfl 5 (by decide) k_19 (fun _ h9 => h9) rfl dX9_ready_75 ?_
                  refine lv_iconst (v := (nI 2)) hx hb dX9_ready_78 (by decide) ?_
                  refine lv_iload_n hx hb dX9_ready_79 rfl (lv_at hl 1 rfl) ?_
                  refine lv_imul hx hb dX9_ready_80 ?_
                  refine lv_iconst (v := (nI 1)) hx hb dX9_ready_81 (by decide) ?_
                  refine lv_iadd hx hb dX9_ready_82 ?_
                  obtain ⟨hi_24, h⟩ := ck_el h
                  refine va_iald hx hb hK hP 2 0 rfl rfl hi_24 dX9_ready_83 ?_
                  obtain ⟨y_now_25, hg_26, h⟩ := bd1_el h
                  refine kx_Vv (As := [.int (v_stands ((nI 2) * p1).toNatClampNeg), .int (v_stands (((nI 2) * p1) + (nI 1)).toNatClampNeg)]) (rest := []) (wr := [(q_l, .inl (ca 0, 336, .inl v_l)), (q_stands, .inl (ca 0, 16, .inl v_stands)), (q_one, .inl (ca 0, 7, .inl y_one_17)), (q_two, .inl (ca 0, 7, .inl y_two_18)), (q_ways, .inl (ca 0, 49, .inl y_ways_19)), (q_then, .inl (ca 1, 81, .inr (.inl y_then_21)))]) (w1 := [(q_this, .inr (8, [.ref q_text, .int v_size, .int v_at, .ref q_read, .ref q_l, .ref q_stands, .ref q_kept, .int v_keptMany, .ref q_one, .ref q_two, .ref q_ways, .ref q_now, .ref q_then])), (q_now, .inl (ca 1, 81, .inr (.inl y_now_25)))]) (wn := [(q_this, .inr (8, [.ref q_text, .int v_size, .int v_at, .ref q_read, .ref q_l, .ref q_stands, .ref q_kept, .int v_keptMany, .ref q_one, .ref q_two, .ref q_ways, .ref q_now, .ref q_then])), (q_l, .inl (ca 0, 336, .inl v_l)), (q_stands, .inl (ca 0, 16, .inl v_stands)), (q_one, .inl (ca 0, 7, .inl y_one_17)), (q_two, .inl (ca 0, 7, .inl y_two_18)), (q_ways, .inl (ca 0, 49, .inl y_ways_19)), (q_now, .inl (ca 1, 81, .inr (.inl y_now_25))), (q_then, .inl (ca 1, 81, .inr (.inl y_then_21)))]) ⟨hx, hb, hml, hown, hts⟩ (c_X9_beginAt l D ca F H.size q_this q_text q_read q_l q_stands q_kept q_one q_two q_ways q_now q_then (v_stands ((nI 2) * p1).toNatClampNeg) (v_stands (((nI 2) * p1) + (nI 1)).toNatClampNeg) v_size v_at v_keptMany y_now_20 y_now_25 hg_26) (cwV 2 hts gX9_ready_X9_beginAt rfl rfl rfl (by decide +kernel) ⟨(Nat.le_of_ble_eq_true rfl), (Nat.le_of_ble_eq_true rfl)⟩) hK hP hD hS hA (ci := 8) (q0 := 0) rfl rfl [0, 6] [1, 2, 3, 4, 5, 7] [6, 0, 1, 2, 3, 4, 7, 5] rfl rfl rfl rfl (by decide) rfl rfl rfl hl.1 rfl (Nat.le_of_ble_eq_true rfl) dX9_ready_84 ⟨Nat.zero_le _, Nat.zero_le _⟩ (fun H locs hP hD hS => ?_)
                  refine lv_aload_n hx hb dX9_ready_87 rfl (lv_at hl 0 rfl) ?_
                  refine lv_iload_n hx hb dX9_ready_88 rfl (lv_at hl 1 rfl) ?_
                  refine lv_iload_n hx hb dX9_ready_89 rfl (lv_at hl 2 rfl) ?_
                  refine lv_aload_n hx hb dX9_ready_90 rfl (lv_at hl 0 rfl) ?_
                  refine va_get (D := D) (ci := 8) (v := .ref q_l) (C := RX9) (T := TX9) (N := 13) hx hb hts i_X9 hown hK hP 0 rfl rfl 4 (by decide) k_16 (fun _ h9 => h9) rfl dX9_ready_91 ?_
                  refine lv_sipush (v := (nI 298)) hx hb dX9_ready_94 (by decide) ?_
                  obtain ⟨hi_27, h⟩ := ck_el h
                  refine va_iald hx hb hK hP 1 0 rfl rfl hi_27 dX9_ready_97 ?_
                  refine lv_aload_n hx hb dX9_ready_98 rfl (lv_at hl 0 rfl) ?_
                  refine va_get (D := D) (ci := 8) (v := .ref q_l) (C := RX9) (T := TX9) (N := 13) hx hb hts i_X9 hown hK hP 0 rfl rfl 4 (by decide) k_16 (fun _ h9 => h9) rfl dX9_ready_99 ?_
                  refine lv_sipush (v := (nI 299)) hx hb dX9_ready_102 (by decide) ?_
                  obtain ⟨hi_28, h⟩ := ck_el h
                  refine va_iald hx hb hK hP 1 0 rfl rfl hi_28 dX9_ready_105 ?_
                  refine lv_iload hx hb dX9_ready_106 (lv_at hl 5 rfl) ?_
                  refine lv_iload hx hb dX9_ready_108 (lv_at hl 5 rfl) ?_
                  obtain ⟨y_one_29, y_two_30, y_ways_31, y_now_32, y_then_33, hg_34, h⟩ := bd5_el h
                  refine kx_Vv (As := [.int p1, .int p2, .int (v_l (nI 298).toNatClampNeg), .int (v_l (nI 299).toNatClampNeg), .int x5_16, .int x5_16]) (rest := []) (wr := [(q_stands, .inl (ca 0, 16, .inl v_stands))]) (w1 := [(q_this, .inr (8, [.ref q_text, .int v_size, .int v_at, .ref q_read, .ref q_l, .ref q_stands, .ref q_kept, .int v_keptMany, .ref q_one, .ref q_two, .ref q_ways, .ref q_now, .ref q_then])), (q_l, .inl (ca 0, 336, .inl v_l)), (q_one, .inl (ca 0, 7, .inl y_one_29)), (q_two, .inl (ca 0, 7, .inl y_two_30)), (q_ways, .inl (ca 0, 49, .inl y_ways_31)), (q_now, .inl (ca 1, 81, .inr (.inl y_now_32))), (q_then, .inl (ca 1, 81, .inr (.inl y_then_33)))]) (wn := [(q_this, .inr (8, [.ref q_text, .int v_size, .int v_at, .ref q_read, .ref q_l, .ref q_stands, .ref q_kept, .int v_keptMany, .ref q_one, .ref q_two, .ref q_ways, .ref q_now, .ref q_then])), (q_l, .inl (ca 0, 336, .inl v_l)), (q_stands, .inl (ca 0, 16, .inl v_stands)), (q_one, .inl (ca 0, 7, .inl y_one_29)), (q_two, .inl (ca 0, 7, .inl y_two_30)), (q_ways, .inl (ca 0, 49, .inl y_ways_31)), (q_now, .inl (ca 1, 81, .inr (.inl y_now_32))), (q_then, .inl (ca 1, 81, .inr (.inl y_then_33)))]) ⟨hx, hb, hml, hown, hts⟩ (c_X9_goOn l D ca F H.size q_this q_text q_read q_l q_stands q_kept q_one q_two q_ways q_now q_then p1 p2 (v_l (nI 298).toNatClampNeg) (v_l (nI 299).toNatClampNeg) x5_16 x5_16 v_size v_at v_keptMany v_l y_one_17 y_two_18 y_ways_19 y_now_25 y_then_21 y_one_29 y_two_30 y_ways_31 y_now_32 y_then_33 hg_34) (cwV 6 hts gX9_ready_X9_goOn rfl rfl rfl (by decide +kernel) ⟨(Nat.le_of_ble_eq_true rfl), (Nat.le_of_ble_eq_true rfl)⟩) hK hP hD hS hA (ci := 8) (q0 := 0) rfl rfl [0, 1, 3, 4, 5, 6, 7] [2] [1, 2, 0, 3, 4, 5, 6, 7] rfl rfl rfl rfl (by decide) rfl rfl rfl hl.1 rfl (Nat.le_of_ble_eq_true rfl) dX9_ready_110 ⟨Nat.zero_le _, Nat.zero_le _⟩ (fun H locs hP hD hS => ?_)
                  refine lv_aload_n hx hb dX9_ready_113 rfl (lv_at hl 0 rfl) ?_
                  refine lv_iload_n hx hb dX9_ready_114 rfl (lv_at hl 3 rfl) ?_
                  refine lv_aload_n hx hb dX9_ready_115 rfl (lv_at hl 0 rfl) ?_
                  refine va_get (D := D) (ci := 8) (v := .ref q_l) (C := RX9) (T := TX9) (N := 13) hx hb hts i_X9 hown hK hP 0 rfl rfl 4 (by decide) k_16 (fun _ h9 => h9) rfl dX9_ready_116 ?_
                  refine lv_sipush (v := (nI 298)) hx hb dX9_ready_119 (by decide) ?_
                  obtain ⟨hi_35, h⟩ := ck_el h
                  refine va_iald hx hb hK hP 1 0 rfl rfl hi_35 dX9_ready_122 ?_
                  refine lv_aload_n hx hb dX9_ready_123 rfl (lv_at hl 0 rfl) ?_
                  refine va_get (D := D) (ci := 8) (v := .ref q_l) (C := RX9) (T := TX9) (N := 13) hx hb hts i_X9 hown hK hP 0 rfl rfl 4 (by decide) k_16 (fun _ h9 => h9) rfl dX9_ready_124 ?_
                  refine lv_sipush (v := (nI 299)) hx hb dX9_ready_127 (by decide) ?_
                  obtain ⟨hi_36, h⟩ := ck_el h
                  refine va_iald hx hb hK hP 1 0 rfl rfl hi_36 dX9_ready_130 ?_
                  obtain ⟨r_37, hg_38, h⟩ := bd1_el h
                  refine kx_Vl (As := [.int p3, .int (v_l (nI 298).toNatClampNeg), .int (v_l (nI 299).toNatClampNeg)]) (rest := []) (wr := [(q_l, .inl (ca 0, 336, .inl v_l)), (q_stands, .inl (ca 0, 16, .inl v_stands)), (q_one, .inl (ca 0, 7, .inl y_one_29)), (q_two, .inl (ca 0, 7, .inl y_two_30)), (q_ways, .inl (ca 0, 49, .inl y_ways_31)), (q_then, .inl (ca 1, 81, .inr (.inl y_then_33)))]) (w1 := [(q_this, .inr (8, [.ref q_text, .int v_size, .int v_at, .ref q_read, .ref q_l, .ref q_stands, .ref q_kept, .int v_keptMany, .ref q_one, .ref q_two, .ref q_ways, .ref q_now, .ref q_then])), (q_now, .inl (ca 1, 81, .inr (.inl y_now_32)))]) (wn := [(q_this, .inr (8, [.ref q_text, .int v_size, .int v_at, .ref q_read, .ref q_l, .ref q_stands, .ref q_kept, .int v_keptMany, .ref q_one, .ref q_two, .ref q_ways, .ref q_now, .ref q_then])), (q_l, .inl (ca 0, 336, .inl v_l)), (q_stands, .inl (ca 0, 16, .inl v_stands)), (q_one, .inl (ca 0, 7, .inl y_one_29)), (q_two, .inl (ca 0, 7, .inl y_two_30)), (q_ways, .inl (ca 0, 49, .inl y_ways_31)), (q_now, .inl (ca 1, 81, .inr (.inl y_now_32))), (q_then, .inl (ca 1, 81, .inr (.inl y_then_33)))]) ⟨hx, hb, hml, hown, hts⟩ (c_X9_wonBy l D ca H.size q_this q_text q_read q_l q_stands q_kept q_one q_two q_ways q_now q_then p3 (v_l (nI 298).toNatClampNeg) (v_l (nI 299).toNatClampNeg) v_size v_at v_keptMany y_now_32 r_37 hg_38) (cwV 3 hts gX9_ready_X9_wonBy rfl rfl rfl (by decide +kernel) ⟨(Nat.le_of_ble_eq_true rfl), (Nat.le_of_ble_eq_true rfl)⟩) hK hP hD hS hA (ci := 8) (q0 := 0) rfl rfl [0, 6] [1, 2, 3, 4, 5, 7] [6, 0, 1, 2, 3, 4, 7, 5] rfl rfl rfl rfl (by decide) rfl rfl rfl hl.1 rfl (Nat.le_of_ble_eq_true rfl) dX9_ready_131 ⟨Nat.zero_le _, Nat.zero_le _⟩ (fun H locs hP hD hS => ?_)
                  refine lv_iload hx hb dX9_ready_134 (lv_at hl 4 rfl) ?_
                  obtain ⟨r_39, hg_40, h⟩ := bd1_el h
                  refine kx_Si (As := [.long r_37, .int p4]) (rest := []) (wr := [(q_this, .inr (8, [.ref q_text, .int v_size, .int v_at, .ref q_read, .ref q_l, .ref q_stands, .ref q_kept, .int v_keptMany, .ref q_one, .ref q_two, .ref q_ways, .ref q_now, .ref q_then])), (q_l, .inl (ca 0, 336, .inl v_l)), (q_stands, .inl (ca 0, 16, .inl v_stands)), (q_one, .inl (ca 0, 7, .inl y_one_29)), (q_two, .inl (ca 0, 7, .inl y_two_30)), (q_ways, .inl (ca 0, 49, .inl y_ways_31)), (q_now, .inl (ca 1, 81, .inr (.inl y_now_32))), (q_then, .inl (ca 1, 81, .inr (.inl y_then_33)))]) (w1 := []) (wn := [(q_this, .inr (8, [.ref q_text, .int v_size, .int v_at, .ref q_read, .ref q_l, .ref q_stands, .ref q_kept, .int v_keptMany, .ref q_one, .ref q_two, .ref q_ways, .ref q_now, .ref q_then])), (q_l, .inl (ca 0, 336, .inl v_l)), (q_stands, .inl (ca 0, 16, .inl v_stands)), (q_one, .inl (ca 0, 7, .inl y_one_29)), (q_two, .inl (ca 0, 7, .inl y_two_30)), (q_ways, .inl (ca 0, 49, .inl y_ways_31)), (q_now, .inl (ca 1, 81, .inr (.inl y_now_32))), (q_then, .inl (ca 1, 81, .inr (.inl y_then_33)))]) ⟨hx, hb, hml, hown, hts⟩ (c_X9_isEnough l D ca H.size r_37 p4 r_39 hg_40) (va_cwS 2 hts gX9_ready_X9_isEnough rfl rfl rfl (by decide +kernel) ⟨(Nat.le_of_ble_eq_true rfl), (Nat.le_of_ble_eq_true rfl)⟩) hK hP hD hS hA [] [0, 1, 2, 3, 4, 5, 6, 7] [0, 1, 2, 3, 4, 5, 6, 7] rfl rfl rfl rfl (by decide) rfl rfl rfl hl.1 rfl (Nat.le_of_ble_eq_true rfl) dX9_ready_136 ⟨Nat.zero_le _, Nat.zero_le _⟩ (fun H locs hP hD hS => ?_)
                  refine lv_if_eq (tgt := 145) hx hb dX9_ready_139 (by decide) (fun c_41 => ?_) (fun c_41 => ?_)
                  · replace h := ifp_el c_41 h
                    obtain ⟨x5_42, e_43, h⟩ := nm_el h
                    refine lv_iinc (v := x5_42) (lv' := [(5, .int x5_42), (0, .ref q_this), (1, .int p1), (2, .int p2), (3, .int p3), (4, .int p4)]) hx hb dX9_ready_145 hl (k := 5) rfl (by rw [← e_43]; rfl) (by decide) rfl (fun ls hl => ?_)
                    refine lv_goto (tgt := 58) hx hb dX9_ready_148 (by decide) ?_
                    exact ih _ _ _ _ _ _ _ _ _ h hP hD hS (lv_sub hl [1, 2, 3, 4, 5, 0] rfl)
                  · replace h := ifn_el c_41 h
                    refine lv_iload hx hb dX9_ready_142 (lv_at hl 5 rfl) ?_
                    cases h
                    rw [← hQe]
                    exact W.iret hx hb hr (fun t ht hW => ⟨⟨_, (), rfl, rfl, by rw [ht]; exact hP, va_K.moved hW.alike hK, hD⟩, hS.F ht⟩) hS.2.2 dX9_ready_144
            exact hlp F (nI 0) v_one v_two v_ways v_now v_then H locs ls h hP hD hS (lv_sub hl [1, 2, 3, 4, 5, 0] rfl)
          · replace h := ifp_el c_15 h
            refine lv_bipush (v := (-2 : Int32)) hx hb dX9_ready_52 (by decide) ?_
            cases h
            rw [← hQe]
            exact W.iret hx hb hr (fun t ht hW => ⟨⟨_, (), rfl, rfl, by rw [ht]; exact hP, va_K.moved hW.alike hK, hD⟩, hS.F ht⟩) hS.2.2 dX9_ready_54
        · replace h := ifp_el c_12 h
          refine lv_iconst (v := (-1 : Int32)) hx hb dX9_ready_42 (by decide) ?_
          cases h
          rw [← hQe]
          exact W.iret hx hb hr (fun t ht hW => ⟨⟨_, (), rfl, rfl, by rw [ht]; exact hP, va_K.moved hW.alike hK, hD⟩, hS.F ht⟩) hS.2.2 dX9_ready_43
def D_X9_draw (p1 : Int32) (p2 : Int32) (p3 : Int32) (p4 : Int32) : Option (Int32) := nm ((((((lN 7919) * p1.toInt64) + ((lN 6151) * p3.toInt64)) + ((lN 3571) * p4.toInt64)) + ((lN 2011) * p2.toInt64)) + (lN 1)) (fun x4_1 => some (((x4_1 * x4_1) - (x4_1 * x4_1) / (lN 65521) * (lN 65521)).toInt32))
abbrev rm_X9_draw : Room := { frames := 0, cells := 0, slots := 0, locals := 0 }
set_option maxHeartbeats 4000000 in
set_option maxRecDepth 100000 in
theorem c_X9_draw (l : Launch) (D : va_G) (ca : Nat → ClassId) (sz : Nat) (p1 : Int32) (p2 : Int32) (p3 : Int32) (p4 : Int32) (r : Int32) (h : D_X9_draw p1 p2 p3 p4 = some (r)) : Met l yX9_draw wsX9_draw rm_X9_draw (va_Pc [.int p1, .int p2, .int p3, .int p4] (kPre D ca [] sz)) (kQi D ca (va_A [] sz) [] r) 0 0 (va_A [] sz) := by
  refine Met.ofW (cc := cX9_draw) (maxL := 6) (ret := (some .int)) (by decide +kernel) rfl ?_
  intro p e s m args below meth c s₁ B hml hv
  obtain ⟨rfl, hsz, hP, hK, hD0⟩ := hv
  have hx := B.exec
  have hb := B.bytes
  have hr := B.returns
  have hts := atoms_spec (ws := wsX9_draw) B.pre
  have hown : s.vm.findClass RX9 = some m.cls := findClass_of_methodNamed B.named
  have hlocks := B.notSynchronized
  clear B
  subst hsz
  have hD := hD0.self (sz := s.heap.size)
  generalize hAe : va_A [] s.heap.size = A at hD ⊢
  have hA : ∀ q : Nat, s.heap.size ≤ q → A q := fun q h => by rw [← hAe]; exact Or.inr h
  have hS : va_S A s.heap s.heap [] := va_S.rf
  have hl := lv_entry ([.int p1, .int p2, .int p3, .int p4]) (n := 6) (Nat.le_of_ble_eq_true rfl)
  rw [lg_entry_eq]
  generalize (lg_sl ([.int p1, .int p2, .int p3, .int p4]) ++ List.replicate (6 - (lg_sl ([.int p1, .int p2, .int p3, .int p4])).length) Slot.unset).toArray = ls at hl ⊢
  have hl : lv_has ls 6 [(0, .int p1), (1, .int p2), (2, .int p3), (3, .int p4)] := hl
  generalize ([.int p1, .int p2, .int p3, .int p4] : List Value).toArray = args at hts ⊢
  generalize hQe : MQ below (kQi D ca (A) [] r) args s 0 0 A = Q
  have k_203 := hts (.constantLong RX9 203 (lN 7919)) (by decide +kernel)
  have k_205 := hts (.constantLong RX9 205 (lN 6151)) (by decide +kernel)
  have k_207 := hts (.constantLong RX9 207 (lN 3571)) (by decide +kernel)
  have k_209 := hts (.constantLong RX9 209 (lN 2011)) (by decide +kernel)
  have k_211 := hts (.constantLong RX9 211 (lN 65521)) (by decide +kernel)
  rw [D_X9_draw] at h
  refine lv_ldc2 hx hb hown k_203 dX9_draw_0 ?_
  refine lv_iload_n hx hb dX9_draw_3 rfl (lv_at hl 0 rfl) ?_
  refine lv_i2l hx hb dX9_draw_4 rfl ?_
  refine lv_lmul hx hb dX9_draw_5 ?_
  refine lv_ldc2 hx hb hown k_205 dX9_draw_6 ?_
  refine lv_iload_n hx hb dX9_draw_9 rfl (lv_at hl 2 rfl) ?_
  refine lv_i2l hx hb dX9_draw_10 rfl ?_
  refine lv_lmul hx hb dX9_draw_11 ?_
  refine lv_ladd hx hb dX9_draw_12 ?_
  refine lv_ldc2 hx hb hown k_207 dX9_draw_13 ?_
  refine lv_iload_n hx hb dX9_draw_16 rfl (lv_at hl 3 rfl) ?_
  refine lv_i2l hx hb dX9_draw_17 rfl ?_
  refine lv_lmul hx hb dX9_draw_18 ?_
  refine lv_ladd hx hb dX9_draw_19 ?_
  refine lv_ldc2 hx hb hown k_209 dX9_draw_20 ?_
  refine lv_iload_n hx hb dX9_draw_23 rfl (lv_at hl 1 rfl) ?_
  refine lv_i2l hx hb dX9_draw_24 rfl ?_
  refine lv_lmul hx hb dX9_draw_25 ?_
  refine lv_ladd hx hb dX9_draw_26 ?_
  refine lv_lconst (v := (lN 1)) hx hb dX9_draw_27 (by decide) ?_
  refine lv_ladd hx hb dX9_draw_28 ?_
  refine lv_nml h (fun x4_1 h => ?_)
  refine lv_lstore (lv' := [(4, .long x4_1), (0, .int p1), (1, .int p2), (2, .int p3), (3, .int p4)]) hx hb dX9_draw_29 hl (by decide) rfl (fun ls hl => ?_)
  refine lv_lload hx hb dX9_draw_31 (lv_at hl 0 rfl) ?_
  refine lv_lload hx hb dX9_draw_33 (lv_at hl 0 rfl) ?_
  refine lv_lmul hx hb dX9_draw_35 ?_
  refine lv_ldc2 hx hb hown k_211 dX9_draw_36 ?_
  refine lv_lrem hx hb dX9_draw_39 (by decide) ?_
  refine lv_l2i hx hb dX9_draw_40 rfl ?_
  cases h
  rw [← hQe]
  exact W.iret hx hb hr (fun t ht hW => ⟨⟨_, (), rfl, rfl, by rw [ht]; exact hP, va_K.moved hW.alike hK, hD⟩, hS.F ht⟩) hS.2.2 dX9_draw_41
def j_X9_meetBy_185 (p2 : Int32) (x4_2 : Int32) (z0_8 : Int32) (z0_18 : Int32) (z0_19 : Int32) (y_stands_20 : Nat → Int32) : Option ((Nat → Int32)) := (if z0_19 = 0 then some (y_stands_20) else (if z0_8 = 0 then (if z0_18 = (nI 1) then nm (x4_2 + (nI 1)) (fun w_26 => ck 16 ((nI 2) * p2) (some ((upd y_stands_20 ((nI 2) * p2).toNatClampNeg w_26)))) else nm (x4_2 + (-1 : Int32)) (fun w_24 => ck 16 ((nI 2) * p2) (some ((upd y_stands_20 ((nI 2) * p2).toNatClampNeg w_24))))) else some (y_stands_20)))
def j_X9_meetBy_183 (p2 : Int32) (v_stands : Nat → Int32) (x4_2 : Int32) (z0_8 : Int32) (z0_18 : Int32) (z0_19 : Int32) (z1_30 : Int32) (z2_31 : Int32) (z3_32 : Int32) : Option ((Nat → Int32)) := nm (z2_31 + z3_32) (fun w_33 => ck 16 z1_30 (j_X9_meetBy_185 p2 x4_2 z0_8 z0_18 z0_19 (upd v_stands z1_30.toNatClampNeg w_33)))
def j_X9_meetBy_150 (p2 : Int32) (v_stands : Nat → Int32) (x4_2 : Int32) (x5_4 : Int32) (z0_8 : Int32) (z0_13 : Int32) (z0_18 : Int32) (z0_19 : Int32) : Option ((Nat → Int32)) := (if z0_19 = 0 then j_X9_meetBy_185 p2 x4_2 z0_8 z0_18 z0_19 v_stands else (if z0_8 = 0 then j_X9_meetBy_185 p2 x4_2 z0_8 z0_18 z0_19 v_stands else (if z0_13 = 0 then j_X9_meetBy_183 p2 v_stands x4_2 z0_8 z0_18 z0_19 (((nI 2) * p2) + (nI 1)) x5_4 (nI 1) else j_X9_meetBy_183 p2 v_stands x4_2 z0_8 z0_18 z0_19 (((nI 2) * p2) + (nI 1)) x5_4 (-1 : Int32))))
def j_X9_meetBy_149 (p2 : Int32) (v_stands : Nat → Int32) (x4_2 : Int32) (x5_4 : Int32) (z0_8 : Int32) (z0_13 : Int32) (z0_18 : Int32)  : Option ((Nat → Int32)) := j_X9_meetBy_150 p2 v_stands x4_2 x5_4 z0_8 z0_13 z0_18 (nI 0)
def j_X9_meetBy_140 (p2 : Int32) (v_l : Nat → Int32) (v_stands : Nat → Int32) (x4_2 : Int32) (x5_4 : Int32) (z0_8 : Int32) (z0_13 : Int32) (z0_18 : Int32) (z0_39 : Int32) (z2_40 : Int32) (z3_41 : Int32) : Option ((Nat → Int32)) := ck 336 (z2_40 + z3_41) ((if (v_l (z2_40 + z3_41).toNatClampNeg) ≤ z0_39 then j_X9_meetBy_149 p2 v_stands x4_2 x5_4 z0_8 z0_13 z0_18  else j_X9_meetBy_150 p2 v_stands x4_2 x5_4 z0_8 z0_13 z0_18 (nI 1)))
def j_X9_meetBy_104 (p1 : Int32) (p2 : Int32) (p3 : Int32) (v_l : Nat → Int32) (v_stands : Nat → Int32) (x4_2 : Int32) (x5_4 : Int32) (z0_8 : Int32) (z0_13 : Int32) (z0_18 : Int32) : Option ((Nat → Int32)) := (if z0_13 = z0_18 then j_X9_meetBy_149 p2 v_stands x4_2 x5_4 z0_8 z0_13 z0_18  else bd1 (D_X9_draw p1 p2 p3 (nI 4)) (fun r_37 => (if z0_8 = 0 then j_X9_meetBy_140 p2 v_l v_stands x4_2 x5_4 z0_8 z0_13 z0_18 (r_37 - r_37 / (nI 10) * (nI 10)) (nI 300) (nI 0) else j_X9_meetBy_140 p2 v_l v_stands x4_2 x5_4 z0_8 z0_13 z0_18 (r_37 - r_37 / (nI 10) * (nI 10)) (nI 300) (nI 1))))
def j_X9_meetBy_76 (p1 : Int32) (p2 : Int32) (p3 : Int32) (v_l : Nat → Int32) (v_stands : Nat → Int32) (x4_2 : Int32) (x5_4 : Int32) (z0_8 : Int32) (z0_13 : Int32) : Option ((Nat → Int32)) := bd1 (D_X9_draw p1 p2 p3 (nI 3)) (fun r_14 => ck 336 (nI 299) (dz (v_l (nI 299).toNatClampNeg) ((if x5_4 ≤ (r_14 - r_14 / (v_l (nI 299).toNatClampNeg) * (v_l (nI 299).toNatClampNeg)) then j_X9_meetBy_104 p1 p2 p3 v_l v_stands x4_2 x5_4 z0_8 z0_13 (nI 1) else j_X9_meetBy_104 p1 p2 p3 v_l v_stands x4_2 x5_4 z0_8 z0_13 (nI 0)))))
def j_X9_meetBy_48 (p1 : Int32) (p2 : Int32) (p3 : Int32) (v_l : Nat → Int32) (v_stands : Nat → Int32) (x4_2 : Int32) (x5_4 : Int32) (z0_8 : Int32) : Option ((Nat → Int32)) := bd1 (D_X9_draw p1 p2 p3 (nI 2)) (fun r_9 => ck 336 (nI 298) (dz (v_l (nI 298).toNatClampNeg) ((if x4_2 ≤ (r_9 - r_9 / (v_l (nI 298).toNatClampNeg) * (v_l (nI 298).toNatClampNeg)) then j_X9_meetBy_76 p1 p2 p3 v_l v_stands x4_2 x5_4 z0_8 (nI 0) else j_X9_meetBy_76 p1 p2 p3 v_l v_stands x4_2 x5_4 z0_8 (nI 1)))))
def D_X9_meetBy (p1 : Int32) (p2 : Int32) (p3 : Int32) (v_l : Nat → Int32) (v_stands : Nat → Int32) : Option ((Nat → Int32)) := ck 16 ((nI 2) * p2) (nm (v_stands ((nI 2) * p2).toNatClampNeg) (fun x4_2 => ck 16 (((nI 2) * p2) + (nI 1)) (nm (v_stands (((nI 2) * p2) + (nI 1)).toNatClampNeg) (fun x5_4 => bd1 (D_X9_draw p1 p2 p3 (nI 1)) (fun r_5 => ck 336 (nI 302) ((if (v_l (nI 302).toNatClampNeg) ≤ (r_5 - r_5 / (nI 10) * (nI 10)) then j_X9_meetBy_48 p1 p2 p3 v_l v_stands x4_2 x5_4 (nI 0) else j_X9_meetBy_48 p1 p2 p3 v_l v_stands x4_2 x5_4 (nI 1))))))))
abbrev rm_X9_meetBy : Room := { frames := 1, cells := 0, slots := 0, locals := 25 }
set_option maxHeartbeats 4000000 in
set_option maxRecDepth 100000 in
theorem c_X9_meetBy (l : Launch) (D : va_G) (ca : Nat → ClassId) (sz : Nat) (q_this q_text q_read q_l q_stands q_kept q_one q_two q_ways q_now q_then : Nat) (p1 : Int32) (p2 : Int32) (p3 : Int32) (v_size : Int32) (v_at : Int32) (v_keptMany : Int32) (v_l : Nat → Int32) (v_stands : Nat → Int32) (o_stands : Nat → Int32) (h : D_X9_meetBy p1 p2 p3 v_l v_stands = some (o_stands)) : Met l yX9_meetBy wsX9_meetBy rm_X9_meetBy (va_Pc [.ref q_this, .int p1, .int p2, .int p3] (kPre D ca [(q_this, .inr (8, [.ref q_text, .int v_size, .int v_at, .ref q_read, .ref q_l, .ref q_stands, .ref q_kept, .int v_keptMany, .ref q_one, .ref q_two, .ref q_ways, .ref q_now, .ref q_then])), (q_l, .inl (ca 0, 336, .inl v_l)), (q_stands, .inl (ca 0, 16, .inl v_stands))] sz)) (kQv D ca (va_A [(q_this, .inr (8, [.ref q_text, .int v_size, .int v_at, .ref q_read, .ref q_l, .ref q_stands, .ref q_kept, .int v_keptMany, .ref q_one, .ref q_two, .ref q_ways, .ref q_now, .ref q_then])), (q_l, .inl (ca 0, 336, .inl v_l)), (q_stands, .inl (ca 0, 16, .inl v_stands))] sz) [(q_this, .inr (8, [.ref q_text, .int v_size, .int v_at, .ref q_read, .ref q_l, .ref q_stands, .ref q_kept, .int v_keptMany, .ref q_one, .ref q_two, .ref q_ways, .ref q_now, .ref q_then])), (q_l, .inl (ca 0, 336, .inl v_l)), (q_stands, .inl (ca 0, 16, .inl o_stands))]) 0 0 (va_A [(q_this, .inr (8, [.ref q_text, .int v_size, .int v_at, .ref q_read, .ref q_l, .ref q_stands, .ref q_kept, .int v_keptMany, .ref q_one, .ref q_two, .ref q_ways, .ref q_now, .ref q_then])), (q_l, .inl (ca 0, 336, .inl v_l)), (q_stands, .inl (ca 0, 16, .inl v_stands))] sz) := by
  refine Met.ofW (cc := cX9_meetBy) (maxL := 10) (ret := none) (by decide +kernel) rfl ?_
  intro p e s m args below meth c s₁ B hml hv
  obtain ⟨rfl, hsz, hP, hK, hD0⟩ := hv
  have hx := B.exec
  have hb := B.bytes
  have hr := B.returns
  have hts := atoms_spec (ws := wsX9_meetBy) B.pre
  have hown : s.vm.findClass RX9 = some m.cls := findClass_of_methodNamed B.named
  have hlocks := B.notSynchronized
  clear B
  subst hsz
  have hD := hD0.self (sz := s.heap.size)
  generalize hAe : va_A [(q_this, .inr (8, [.ref q_text, .int v_size, .int v_at, .ref q_read, .ref q_l, .ref q_stands, .ref q_kept, .int v_keptMany, .ref q_one, .ref q_two, .ref q_ways, .ref q_now, .ref q_then])), (q_l, .inl (ca 0, 336, .inl v_l)), (q_stands, .inl (ca 0, 16, .inl v_stands))] s.heap.size = A at hD ⊢
  have hA : ∀ q : Nat, s.heap.size ≤ q → A q := fun q h => by rw [← hAe]; exact Or.inr h
  have hS : va_S A s.heap s.heap [] := va_S.rf
  have hl := lv_entry ([.ref q_this, .int p1, .int p2, .int p3]) (n := 10) (Nat.le_of_ble_eq_true rfl)
  rw [lg_entry_eq]
  generalize (lg_sl ([.ref q_this, .int p1, .int p2, .int p3]) ++ List.replicate (10 - (lg_sl ([.ref q_this, .int p1, .int p2, .int p3])).length) Slot.unset).toArray = ls at hl ⊢
  have hl : lv_has ls 10 [(0, .ref q_this), (1, .int p1), (2, .int p2), (3, .int p3)] := hl
  generalize ([.ref q_this, .int p1, .int p2, .int p3] : List Value).toArray = args at hts ⊢
  generalize hQe : MQ below (kQv D ca (A) [(q_this, .inr (8, [.ref q_text, .int v_size, .int v_at, .ref q_read, .ref q_l, .ref q_stands, .ref q_kept, .int v_keptMany, .ref q_one, .ref q_two, .ref q_ways, .ref q_now, .ref q_then])), (q_l, .inl (ca 0, 336, .inl v_l)), (q_stands, .inl (ca 0, 16, .inl o_stands))]) args s 0 0 A = Q
  have i_X9 : ∀ w ∈ u_ws RX9 TX9 13, w ∈ wsX9_meetBy := by decide +kernel
  have k_19 := hts (.fieldLink RX9 19 "TradeWordsModel" "stands" "[I") (by decide +kernel)
  have k_16 := hts (.fieldLink RX9 16 "TradeWordsModel" "l" "[I") (by decide +kernel)
  rw [D_X9_meetBy] at h
  refine lv_aload_n hx hb dX9_meetBy_0 rfl (lv_at hl 0 rfl) ?_
  refine va_get (D := D) (ci := 8) (v := .ref q_stands) (C := RX9) (T := TX9) (N := 13) hx hb hts i_X9 hown hK hP 0 rfl rfl 5 (by decide) k_19 (fun _ h9 => h9) rfl dX9_meetBy_1 ?_
  refine lv_iconst (v := (nI 2)) hx hb dX9_meetBy_4 (by decide) ?_
  refine lv_iload_n hx hb dX9_meetBy_5 rfl (lv_at hl 2 rfl) ?_
  refine lv_imul hx hb dX9_meetBy_6 ?_
  obtain ⟨hi_1, h⟩ := ck_el h
  refine va_iald hx hb hK hP 2 0 rfl rfl hi_1 dX9_meetBy_7 ?_
  refine lv_nmi h (fun x4_2 h => ?_)
  refine lv_istore (lv' := [(4, .int x4_2), (0, .ref q_this), (1, .int p1), (2, .int p2), (3, .int p3)]) hx hb dX9_meetBy_8 hl (by decide) rfl (fun ls hl => ?_)
  refine lv_aload_n hx hb dX9_meetBy_10 rfl (lv_at hl 1 rfl) ?_
  refine va_get (D := D) (ci := 8) (v := .ref q_stands) (C := RX9) (T := TX9) (N := 13) hx hb hts i_X9 hown hK hP 0 rfl rfl 5 (by decide) k_19 (fun _ h9 => h9) rfl dX9_meetBy_11 ?_
  refine lv_iconst (v := (nI 2)) hx hb dX9_meetBy_14 (by decide) ?_
  refine lv_iload_n hx hb dX9_meetBy_15 rfl (lv_at hl 3 rfl) ?_
  refine lv_imul hx hb dX9_meetBy_16 ?_
  refine lv_iconst (v := (nI 1)) hx hb dX9_meetBy_17 (by decide) ?_
  refine lv_iadd hx hb dX9_meetBy_18 ?_
  obtain ⟨hi_3, h⟩ := ck_el h
  refine va_iald hx hb hK hP 2 0 rfl rfl hi_3 dX9_meetBy_19 ?_
  refine lv_nmi h (fun x5_4 h => ?_)
  refine lv_istore (lv' := [(5, .int x5_4), (4, .int x4_2), (0, .ref q_this), (1, .int p1), (2, .int p2), (3, .int p3)]) hx hb dX9_meetBy_20 hl (by decide) rfl (fun ls hl => ?_)
  refine lv_iload_n hx hb dX9_meetBy_22 rfl (lv_at hl 3 rfl) ?_
  refine lv_iload_n hx hb dX9_meetBy_23 rfl (lv_at hl 4 rfl) ?_
  refine lv_iload_n hx hb dX9_meetBy_24 rfl (lv_at hl 5 rfl) ?_
  refine lv_iconst (v := (nI 1)) hx hb dX9_meetBy_25 (by decide) ?_
  obtain ⟨r_5, hg_6, h⟩ := bd1_el h
  refine kx_Si (As := [.int p1, .int p2, .int p3, .int (nI 1)]) (rest := []) (wr := [(q_this, .inr (8, [.ref q_text, .int v_size, .int v_at, .ref q_read, .ref q_l, .ref q_stands, .ref q_kept, .int v_keptMany, .ref q_one, .ref q_two, .ref q_ways, .ref q_now, .ref q_then])), (q_l, .inl (ca 0, 336, .inl v_l)), (q_stands, .inl (ca 0, 16, .inl v_stands))]) (w1 := []) (wn := [(q_this, .inr (8, [.ref q_text, .int v_size, .int v_at, .ref q_read, .ref q_l, .ref q_stands, .ref q_kept, .int v_keptMany, .ref q_one, .ref q_two, .ref q_ways, .ref q_now, .ref q_then])), (q_l, .inl (ca 0, 336, .inl v_l)), (q_stands, .inl (ca 0, 16, .inl v_stands))]) ⟨hx, hb, hml, hown, hts⟩ (c_X9_draw l D ca s.heap.size p1 p2 p3 (nI 1) r_5 hg_6) (va_cwS 4 hts gX9_meetBy_X9_draw rfl rfl rfl (by decide +kernel) ⟨(Nat.le_of_ble_eq_true rfl), (Nat.le_of_ble_eq_true rfl)⟩) hK hP hD hS hA [] [0, 1, 2] [0, 1, 2] rfl rfl rfl rfl (by decide) rfl rfl rfl hl.1 rfl (Nat.le_of_ble_eq_true rfl) dX9_meetBy_26 ⟨Nat.zero_le _, Nat.zero_le _⟩ (fun H locs hP hD hS => ?_)
  refine lv_bipush (v := (nI 10)) hx hb dX9_meetBy_29 (by decide) ?_
  refine lv_irem hx hb dX9_meetBy_31 (by decide) ?_
  refine lv_aload_n hx hb dX9_meetBy_32 rfl (lv_at hl 2 rfl) ?_
  refine va_get (D := D) (ci := 8) (v := .ref q_l) (C := RX9) (T := TX9) (N := 13) hx hb hts i_X9 hown hK hP 0 rfl rfl 4 (by decide) k_16 (fun _ h9 => h9) rfl dX9_meetBy_33 ?_
  refine lv_sipush (v := (nI 302)) hx hb dX9_meetBy_36 (by decide) ?_
  obtain ⟨hi_7, h⟩ := ck_el h
  refine va_iald hx hb hK hP 1 0 rfl rfl hi_7 dX9_meetBy_39 ?_
  have hj_48 : ∀ (z0_8 : Int32) (H : Heap) (locs : List Loc) (ls : Array Slot), j_X9_meetBy_48 p1 p2 p3 v_l v_stands x4_2 x5_4 z0_8 = some (o_stands) → va_P D vwCl [(q_this, .inr (8, [.ref q_text, .int v_size, .int v_at, .ref q_read, .ref q_l, .ref q_stands, .ref q_kept, .int v_keptMany, .ref q_one, .ref q_two, .ref q_ways, .ref q_now, .ref q_then])), (q_l, .inl (ca 0, 336, .inl v_l)), (q_stands, .inl (ca 0, 16, .inl v_stands))] H → va_D A [(q_this, .inr (8, [.ref q_text, .int v_size, .int v_at, .ref q_read, .ref q_l, .ref q_stands, .ref q_kept, .int v_keptMany, .ref q_one, .ref q_two, .ref q_ways, .ref q_now, .ref q_then])), (q_l, .inl (ca 0, 336, .inl v_l)), (q_stands, .inl (ca 0, 16, .inl v_stands))] → va_S A s.heap H locs → lv_has ls 10 [(0, .ref q_this), (1, .int p1), (2, .int p2), (3, .int p3), (4, .int x4_2), (5, .int x5_4)] → W p l e (headSpec wsX9_meetBy rm_X9_meetBy).room s m args below meth c H locs 0 0 Q (F0 m 48 ls [.int z0_8]) := by
    intro z0_8 H locs ls h hP hD hS hl
    rw [j_X9_meetBy_48] at h
    refine lv_istore (lv' := [(6, .int z0_8), (0, .ref q_this), (1, .int p1), (2, .int p2), (3, .int p3), (4, .int x4_2), (5, .int x5_4)]) hx hb dX9_meetBy_48 hl (by decide) rfl (fun ls hl => ?_)
    refine lv_iload_n hx hb dX9_meetBy_50 rfl (lv_at hl 2 rfl) ?_
    refine lv_iload_n hx hb dX9_meetBy_51 rfl (lv_at hl 3 rfl) ?_
    refine lv_iload_n hx hb dX9_meetBy_52 rfl (lv_at hl 4 rfl) ?_
    refine lv_iconst (v := (nI 2)) hx hb dX9_meetBy_53 (by decide) ?_
    obtain ⟨r_9, hg_10, h⟩ := bd1_el h
    refine kx_Si (As := [.int p1, .int p2, .int p3, .int (nI 2)]) (rest := []) (wr := [(q_this, .inr (8, [.ref q_text, .int v_size, .int v_at, .ref q_read, .ref q_l, .ref q_stands, .ref q_kept, .int v_keptMany, .ref q_one, .ref q_two, .ref q_ways, .ref q_now, .ref q_then])), (q_l, .inl (ca 0, 336, .inl v_l)), (q_stands, .inl (ca 0, 16, .inl v_stands))]) (w1 := []) (wn := [(q_this, .inr (8, [.ref q_text, .int v_size, .int v_at, .ref q_read, .ref q_l, .ref q_stands, .ref q_kept, .int v_keptMany, .ref q_one, .ref q_two, .ref q_ways, .ref q_now, .ref q_then])), (q_l, .inl (ca 0, 336, .inl v_l)), (q_stands, .inl (ca 0, 16, .inl v_stands))]) ⟨hx, hb, hml, hown, hts⟩ (c_X9_draw l D ca H.size p1 p2 p3 (nI 2) r_9 hg_10) (va_cwS 4 hts gX9_meetBy_X9_draw rfl rfl rfl (by decide +kernel) ⟨(Nat.le_of_ble_eq_true rfl), (Nat.le_of_ble_eq_true rfl)⟩) hK hP hD hS hA [] [0, 1, 2] [0, 1, 2] rfl rfl rfl rfl (by decide) rfl rfl rfl hl.1 rfl (Nat.le_of_ble_eq_true rfl) dX9_meetBy_54 ⟨Nat.zero_le _, Nat.zero_le _⟩ (fun H locs hP hD hS => ?_)
    refine lv_aload_n hx hb dX9_meetBy_57 rfl (lv_at hl 1 rfl) ?_
    refine va_get (D := D) (ci := 8) (v := .ref q_l) (C := RX9) (T := TX9) (N := 13) hx hb hts i_X9 hown hK hP 0 rfl rfl 4 (by decide) k_16 (fun _ h9 => h9) rfl dX9_meetBy_58 ?_
    refine lv_sipush (v := (nI 298)) hx hb dX9_meetBy_61 (by decide) ?_
    obtain ⟨hi_11, h⟩ := ck_el h
    refine va_iald hx hb hK hP 1 0 rfl rfl hi_11 dX9_meetBy_64 ?_
    obtain ⟨hn_12, h⟩ := dz_el h
    refine lv_irem hx hb dX9_meetBy_65 hn_12 ?_
    refine lv_iload hx hb dX9_meetBy_66 (lv_at hl 5 rfl) ?_
    have hj_76 : ∀ (z0_13 : Int32) (H : Heap) (locs : List Loc) (ls : Array Slot), j_X9_meetBy_76 p1 p2 p3 v_l v_stands x4_2 x5_4 z0_8 z0_13 = some (o_stands) → va_P D vwCl [(q_this, .inr (8, [.ref q_text, .int v_size, .int v_at, .ref q_read, .ref q_l, .ref q_stands, .ref q_kept, .int v_keptMany, .ref q_one, .ref q_two, .ref q_ways, .ref q_now, .ref q_then])), (q_l, .inl (ca 0, 336, .inl v_l)), (q_stands, .inl (ca 0, 16, .inl v_stands))] H → va_D A [(q_this, .inr (8, [.ref q_text, .int v_size, .int v_at, .ref q_read, .ref q_l, .ref q_stands, .ref q_kept, .int v_keptMany, .ref q_one, .ref q_two, .ref q_ways, .ref q_now, .ref q_then])), (q_l, .inl (ca 0, 336, .inl v_l)), (q_stands, .inl (ca 0, 16, .inl v_stands))] → va_S A s.heap H locs → lv_has ls 10 [(0, .ref q_this), (1, .int p1), (2, .int p2), (3, .int p3), (4, .int x4_2), (5, .int x5_4), (6, .int z0_8)] → W p l e (headSpec wsX9_meetBy rm_X9_meetBy).room s m args below meth c H locs 0 0 Q (F0 m 76 ls [.int z0_13]) := by
      intro z0_13 H locs ls h hP hD hS hl
      rw [j_X9_meetBy_76] at h
      refine lv_istore (lv' := [(7, .int z0_13), (0, .ref q_this), (1, .int p1), (2, .int p2), (3, .int p3), (4, .int x4_2), (5, .int x5_4), (6, .int z0_8)]) hx hb dX9_meetBy_76 hl (by decide) rfl (fun ls hl => ?_)
      refine lv_iload_n hx hb dX9_meetBy_78 rfl (lv_at hl 2 rfl) ?_
      refine lv_iload_n hx hb dX9_meetBy_79 rfl (lv_at hl 3 rfl) ?_
      refine lv_iload_n hx hb dX9_meetBy_80 rfl (lv_at hl 4 rfl) ?_
      refine lv_iconst (v := (nI 3)) hx hb dX9_meetBy_81 (by decide) ?_
      obtain ⟨r_14, hg_15, h⟩ := bd1_el h
      refine kx_Si (As := [.int p1, .int p2, .int p3, .int (nI 3)]) (rest := []) (wr := [(q_this, .inr (8, [.ref q_text, .int v_size, .int v_at, .ref q_read, .ref q_l, .ref q_stands, .ref q_kept, .int v_keptMany, .ref q_one, .ref q_two, .ref q_ways, .ref q_now, .ref q_then])), (q_l, .inl (ca 0, 336, .inl v_l)), (q_stands, .inl (ca 0, 16, .inl v_stands))]) (w1 := []) (wn := [(q_this, .inr (8, [.ref q_text, .int v_size, .int v_at, .ref q_read, .ref q_l, .ref q_stands, .ref q_kept, .int v_keptMany, .ref q_one, .ref q_two, .ref q_ways, .ref q_now, .ref q_then])), (q_l, .inl (ca 0, 336, .inl v_l)), (q_stands, .inl (ca 0, 16, .inl v_stands))]) ⟨hx, hb, hml, hown, hts⟩ (c_X9_draw l D ca H.size p1 p2 p3 (nI 3) r_14 hg_15) (va_cwS 4 hts gX9_meetBy_X9_draw rfl rfl rfl (by decide +kernel) ⟨(Nat.le_of_ble_eq_true rfl), (Nat.le_of_ble_eq_true rfl)⟩) hK hP hD hS hA [] [0, 1, 2] [0, 1, 2] rfl rfl rfl rfl (by decide) rfl rfl rfl hl.1 rfl (Nat.le_of_ble_eq_true rfl) dX9_meetBy_82 ⟨Nat.zero_le _, Nat.zero_le _⟩ (fun H locs hP hD hS => ?_)
      refine lv_aload_n hx hb dX9_meetBy_85 rfl (lv_at hl 1 rfl) ?_
      refine va_get (D := D) (ci := 8) (v := .ref q_l) (C := RX9) (T := TX9) (N := 13) hx hb hts i_X9 hown hK hP 0 rfl rfl 4 (by decide) k_16 (fun _ h9 => h9) rfl dX9_meetBy_86 ?_
      refine lv_sipush (v := (nI 299)) hx hb dX9_meetBy_89 (by decide) ?_
      obtain ⟨hi_16, h⟩ := ck_el h
      refine va_iald hx hb hK hP 1 0 rfl rfl hi_16 dX9_meetBy_92 ?_
      obtain ⟨hn_17, h⟩ := dz_el h
      refine lv_irem hx hb dX9_meetBy_93 hn_17 ?_
      refine lv_iload hx hb dX9_meetBy_94 (lv_at hl 6 rfl) ?_
      have hj_104 : ∀ (z0_18 : Int32) (H : Heap) (locs : List Loc) (ls : Array Slot), j_X9_meetBy_104 p1 p2 p3 v_l v_stands x4_2 x5_4 z0_8 z0_13 z0_18 = some (o_stands) → va_P D vwCl [(q_this, .inr (8, [.ref q_text, .int v_size, .int v_at, .ref q_read, .ref q_l, .ref q_stands, .ref q_kept, .int v_keptMany, .ref q_one, .ref q_two, .ref q_ways, .ref q_now, .ref q_then])), (q_l, .inl (ca 0, 336, .inl v_l)), (q_stands, .inl (ca 0, 16, .inl v_stands))] H → va_D A [(q_this, .inr (8, [.ref q_text, .int v_size, .int v_at, .ref q_read, .ref q_l, .ref q_stands, .ref q_kept, .int v_keptMany, .ref q_one, .ref q_two, .ref q_ways, .ref q_now, .ref q_then])), (q_l, .inl (ca 0, 336, .inl v_l)), (q_stands, .inl (ca 0, 16, .inl v_stands))] → va_S A s.heap H locs → lv_has ls 10 [(0, .ref q_this), (1, .int p1), (2, .int p2), (3, .int p3), (4, .int x4_2), (5, .int x5_4), (6, .int z0_8), (7, .int z0_13)] → W p l e (headSpec wsX9_meetBy rm_X9_meetBy).room s m args below meth c H locs 0 0 Q (F0 m 104 ls [.int z0_18]) := by
        intro z0_18 H locs ls h hP hD hS hl
        rw [j_X9_meetBy_104] at h
        refine lv_istore (lv' := [(8, .int z0_18), (0, .ref q_this), (1, .int p1), (2, .int p2), (3, .int p3), (4, .int x4_2), (5, .int x5_4), (6, .int z0_8), (7, .int z0_13)]) hx hb dX9_meetBy_104 hl (by decide) rfl (fun ls hl => ?_)
        refine lv_iload hx hb dX9_meetBy_106 (lv_at hl 8 rfl) ?_
        refine lv_iload hx hb dX9_meetBy_108 (lv_at hl 0 rfl) ?_
        have hj_150 : ∀ (z0_19 : Int32) (H : Heap) (locs : List Loc) (ls : Array Slot), j_X9_meetBy_150 p2 v_stands x4_2 x5_4 z0_8 z0_13 z0_18 z0_19 = some (o_stands) → va_P D vwCl [(q_this, .inr (8, [.ref q_text, .int v_size, .int v_at, .ref q_read, .ref q_l, .ref q_stands, .ref q_kept, .int v_keptMany, .ref q_one, .ref q_two, .ref q_ways, .ref q_now, .ref q_then])), (q_l, .inl (ca 0, 336, .inl v_l)), (q_stands, .inl (ca 0, 16, .inl v_stands))] H → va_D A [(q_this, .inr (8, [.ref q_text, .int v_size, .int v_at, .ref q_read, .ref q_l, .ref q_stands, .ref q_kept, .int v_keptMany, .ref q_one, .ref q_two, .ref q_ways, .ref q_now, .ref q_then])), (q_l, .inl (ca 0, 336, .inl v_l)), (q_stands, .inl (ca 0, 16, .inl v_stands))] → va_S A s.heap H locs → lv_has ls 10 [(0, .ref q_this), (2, .int p2), (4, .int x4_2), (5, .int x5_4), (6, .int z0_8), (7, .int z0_13), (8, .int z0_18)] → W p l e (headSpec wsX9_meetBy rm_X9_meetBy).room s m args below meth c H locs 0 0 Q (F0 m 150 ls [.int z0_19]) := by
          intro z0_19 H locs ls h hP hD hS hl
          rw [j_X9_meetBy_150] at h
          refine lv_istore (lv' := [(9, .int z0_19), (0, .ref q_this), (2, .int p2), (4, .int x4_2), (5, .int x5_4), (6, .int z0_8), (7, .int z0_13), (8, .int z0_18)]) hx hb dX9_meetBy_150 hl (by decide) rfl (fun ls hl => ?_)
          refine lv_iload hx hb dX9_meetBy_152 (lv_at hl 0 rfl) ?_
          have hj_185 : ∀ (y_stands_20 : Nat → Int32) (H : Heap) (locs : List Loc) (ls : Array Slot), j_X9_meetBy_185 p2 x4_2 z0_8 z0_18 z0_19 y_stands_20 = some (o_stands) → va_P D vwCl [(q_this, .inr (8, [.ref q_text, .int v_size, .int v_at, .ref q_read, .ref q_l, .ref q_stands, .ref q_kept, .int v_keptMany, .ref q_one, .ref q_two, .ref q_ways, .ref q_now, .ref q_then])), (q_l, .inl (ca 0, 336, .inl v_l)), (q_stands, .inl (ca 0, 16, .inl y_stands_20))] H → va_D A [(q_this, .inr (8, [.ref q_text, .int v_size, .int v_at, .ref q_read, .ref q_l, .ref q_stands, .ref q_kept, .int v_keptMany, .ref q_one, .ref q_two, .ref q_ways, .ref q_now, .ref q_then])), (q_l, .inl (ca 0, 336, .inl v_l)), (q_stands, .inl (ca 0, 16, .inl y_stands_20))] → va_S A s.heap H locs → lv_has ls 10 [(0, .ref q_this), (2, .int p2), (4, .int x4_2), (6, .int z0_8), (8, .int z0_18), (9, .int z0_19)] → W p l e (headSpec wsX9_meetBy rm_X9_meetBy).room s m args below meth c H locs 0 0 Q (F0 m 185 ls []) := by
            intro y_stands_20 H locs ls h hP hD hS hl
            rw [j_X9_meetBy_185] at h
            refine lv_iload hx hb dX9_meetBy_185 (lv_at hl 5 rfl) ?_
            refine lv_if_eq (tgt := 217) hx hb dX9_meetBy_187 (by decide) (fun c_21 => ?_) (fun c_21 => ?_)
            · replace h := ifp_el c_21 h
              cases h
              rw [← hQe]
              exact W.vret hx hb hr (fun t ht hW => ⟨⟨(), rfl, trivial, by rw [ht]; exact hP, va_K.moved hW.alike hK, hD⟩, hS.F ht⟩) hS.2.2 dX9_meetBy_217
            · replace h := ifn_el c_21 h
              refine lv_iload hx hb dX9_meetBy_190 (lv_at hl 3 rfl) ?_
              refine lv_if_ne (tgt := 217) hx hb dX9_meetBy_192 (by decide) (fun c_22 => ?_) (fun c_22 => ?_)
              · replace h := ifn_el c_22 h
                cases h
                rw [← hQe]
                exact W.vret hx hb hr (fun t ht hW => ⟨⟨(), rfl, trivial, by rw [ht]; exact hP, va_K.moved hW.alike hK, hD⟩, hS.F ht⟩) hS.2.2 dX9_meetBy_217
              · replace h := ifp_el c_22 h
                refine lv_aload_n hx hb dX9_meetBy_195 rfl (lv_at hl 0 rfl) ?_
                refine va_get (D := D) (ci := 8) (v := .ref q_stands) (C := RX9) (T := TX9) (N := 13) hx hb hts i_X9 hown hK hP 0 rfl rfl 5 (by decide) k_19 (fun _ h9 => h9) rfl dX9_meetBy_196 ?_
                refine lv_iconst (v := (nI 2)) hx hb dX9_meetBy_199 (by decide) ?_
                refine lv_iload_n hx hb dX9_meetBy_200 rfl (lv_at hl 1 rfl) ?_
                refine lv_imul hx hb dX9_meetBy_201 ?_
                refine lv_iload hx hb dX9_meetBy_202 (lv_at hl 2 rfl) ?_
                refine lv_iload hx hb dX9_meetBy_204 (lv_at hl 4 rfl) ?_
                refine lv_iconst (v := (nI 1)) hx hb dX9_meetBy_206 (by decide) ?_
                refine lv_icmp_ne (tgt := 214) hx hb dX9_meetBy_207 (by decide) (fun c_23 => ?_) (fun c_23 => ?_)
                · replace h := ifn_el c_23 h
                  refine lv_iconst (v := (-1 : Int32)) hx hb dX9_meetBy_214 (by decide) ?_
                  refine lv_iadd hx hb dX9_meetBy_215 ?_
                  refine lv_nmi h (fun w_24 h => ?_)
                  obtain ⟨hi_25, h⟩ := ck_el h
                  refine va_iast hx hb hK hP hD hS 2 0 rfl rfl hi_25 dX9_meetBy_216 (fun H locs hP hD hS => ?_)
                  have hP : va_P D vwCl [(q_this, .inr (8, [.ref q_text, .int v_size, .int v_at, .ref q_read, .ref q_l, .ref q_stands, .ref q_kept, .int v_keptMany, .ref q_one, .ref q_two, .ref q_ways, .ref q_now, .ref q_then])), (q_l, .inl (ca 0, 336, .inl v_l)), (q_stands, .inl (ca 0, 16, .inl (upd y_stands_20 ((nI 2) * p2).toNatClampNeg w_24)))] H := hP
                  have hD : va_D A [(q_this, .inr (8, [.ref q_text, .int v_size, .int v_at, .ref q_read, .ref q_l, .ref q_stands, .ref q_kept, .int v_keptMany, .ref q_one, .ref q_two, .ref q_ways, .ref q_now, .ref q_then])), (q_l, .inl (ca 0, 336, .inl v_l)), (q_stands, .inl (ca 0, 16, .inl (upd y_stands_20 ((nI 2) * p2).toNatClampNeg w_24)))] := hD
                  cases h
                  rw [← hQe]
                  exact W.vret hx hb hr (fun t ht hW => ⟨⟨(), rfl, trivial, by rw [ht]; exact hP, va_K.moved hW.alike hK, hD⟩, hS.F ht⟩) hS.2.2 dX9_meetBy_217
                · replace h := ifp_el c_23 h
                  refine lv_iconst (v := (nI 1)) hx hb dX9_meetBy_210 (by decide) ?_
                  refine lv_goto (tgt := 215) hx hb dX9_meetBy_211 (by decide) ?_
                  refine lv_iadd hx hb dX9_meetBy_215 ?_
                  refine lv_nmi h (fun w_26 h => ?_)
                  obtain ⟨hi_27, h⟩ := ck_el h
                  refine va_iast hx hb hK hP hD hS 2 0 rfl rfl hi_27 dX9_meetBy_216 (fun H locs hP hD hS => ?_)
                  have hP : va_P D vwCl [(q_this, .inr (8, [.ref q_text, .int v_size, .int v_at, .ref q_read, .ref q_l, .ref q_stands, .ref q_kept, .int v_keptMany, .ref q_one, .ref q_two, .ref q_ways, .ref q_now, .ref q_then])), (q_l, .inl (ca 0, 336, .inl v_l)), (q_stands, .inl (ca 0, 16, .inl (upd y_stands_20 ((nI 2) * p2).toNatClampNeg w_26)))] H := hP
                  have hD : va_D A [(q_this, .inr (8, [.ref q_text, .int v_size, .int v_at, .ref q_read, .ref q_l, .ref q_stands, .ref q_kept, .int v_keptMany, .ref q_one, .ref q_two, .ref q_ways, .ref q_now, .ref q_then])), (q_l, .inl (ca 0, 336, .inl v_l)), (q_stands, .inl (ca 0, 16, .inl (upd y_stands_20 ((nI 2) * p2).toNatClampNeg w_26)))] := hD
                  cases h
                  rw [← hQe]
                  exact W.vret hx hb hr (fun t ht hW => ⟨⟨(), rfl, trivial, by rw [ht]; exact hP, va_K.moved hW.alike hK, hD⟩, hS.F ht⟩) hS.2.2 dX9_meetBy_217
          refine lv_if_eq (tgt := 185) hx hb dX9_meetBy_154 (by decide) (fun c_28 => ?_) (fun c_28 => ?_)
          · replace h := ifp_el c_28 h
            exact hj_185 _ _ _ _ h hP hD hS (lv_sub hl [1, 2, 3, 5, 7, 0] rfl)
          · replace h := ifn_el c_28 h
            refine lv_iload hx hb dX9_meetBy_157 (lv_at hl 5 rfl) ?_
            refine lv_if_eq (tgt := 185) hx hb dX9_meetBy_159 (by decide) (fun c_29 => ?_) (fun c_29 => ?_)
            · replace h := ifp_el c_29 h
              exact hj_185 _ _ _ _ h hP hD hS (lv_sub hl [1, 2, 3, 5, 7, 0] rfl)
            · replace h := ifn_el c_29 h
              refine lv_aload_n hx hb dX9_meetBy_162 rfl (lv_at hl 1 rfl) ?_
              refine va_get (D := D) (ci := 8) (v := .ref q_stands) (C := RX9) (T := TX9) (N := 13) hx hb hts i_X9 hown hK hP 0 rfl rfl 5 (by decide) k_19 (fun _ h9 => h9) rfl dX9_meetBy_163 ?_
              refine lv_iconst (v := (nI 2)) hx hb dX9_meetBy_166 (by decide) ?_
              refine lv_iload_n hx hb dX9_meetBy_167 rfl (lv_at hl 2 rfl) ?_
              refine lv_imul hx hb dX9_meetBy_168 ?_
              refine lv_iconst (v := (nI 1)) hx hb dX9_meetBy_169 (by decide) ?_
              refine lv_iadd hx hb dX9_meetBy_170 ?_
              refine lv_iload hx hb dX9_meetBy_171 (lv_at hl 4 rfl) ?_
              refine lv_iload hx hb dX9_meetBy_173 (lv_at hl 6 rfl) ?_
              have hj_183 : ∀ (z1_30 : Int32) (z2_31 : Int32) (z3_32 : Int32) (H : Heap) (locs : List Loc) (ls : Array Slot), j_X9_meetBy_183 p2 v_stands x4_2 z0_8 z0_18 z0_19 z1_30 z2_31 z3_32 = some (o_stands) → va_P D vwCl [(q_this, .inr (8, [.ref q_text, .int v_size, .int v_at, .ref q_read, .ref q_l, .ref q_stands, .ref q_kept, .int v_keptMany, .ref q_one, .ref q_two, .ref q_ways, .ref q_now, .ref q_then])), (q_l, .inl (ca 0, 336, .inl v_l)), (q_stands, .inl (ca 0, 16, .inl v_stands))] H → va_D A [(q_this, .inr (8, [.ref q_text, .int v_size, .int v_at, .ref q_read, .ref q_l, .ref q_stands, .ref q_kept, .int v_keptMany, .ref q_one, .ref q_two, .ref q_ways, .ref q_now, .ref q_then])), (q_l, .inl (ca 0, 336, .inl v_l)), (q_stands, .inl (ca 0, 16, .inl v_stands))] → va_S A s.heap H locs → lv_has ls 10 [(0, .ref q_this), (2, .int p2), (4, .int x4_2), (6, .int z0_8), (8, .int z0_18), (9, .int z0_19)] → W p l e (headSpec wsX9_meetBy rm_X9_meetBy).room s m args below meth c H locs 0 0 Q (F0 m 183 ls [.int z3_32, .int z2_31, .int z1_30, .ref q_stands]) := by
                intro z1_30 z2_31 z3_32 H locs ls h hP hD hS hl
                rw [j_X9_meetBy_183] at h
                refine lv_iadd hx hb dX9_meetBy_183 ?_
                refine lv_nmi h (fun w_33 h => ?_)
                obtain ⟨hi_34, h⟩ := ck_el h
                refine va_iast hx hb hK hP hD hS 2 0 rfl rfl hi_34 dX9_meetBy_184 (fun H locs hP hD hS => ?_)
                have hP : va_P D vwCl [(q_this, .inr (8, [.ref q_text, .int v_size, .int v_at, .ref q_read, .ref q_l, .ref q_stands, .ref q_kept, .int v_keptMany, .ref q_one, .ref q_two, .ref q_ways, .ref q_now, .ref q_then])), (q_l, .inl (ca 0, 336, .inl v_l)), (q_stands, .inl (ca 0, 16, .inl (upd v_stands z1_30.toNatClampNeg w_33)))] H := hP
                have hD : va_D A [(q_this, .inr (8, [.ref q_text, .int v_size, .int v_at, .ref q_read, .ref q_l, .ref q_stands, .ref q_kept, .int v_keptMany, .ref q_one, .ref q_two, .ref q_ways, .ref q_now, .ref q_then])), (q_l, .inl (ca 0, 336, .inl v_l)), (q_stands, .inl (ca 0, 16, .inl (upd v_stands z1_30.toNatClampNeg w_33)))] := hD
                exact hj_185 _ _ _ _ h hP hD hS (lv_sub hl [0, 1, 2, 3, 4, 5] rfl)
              refine lv_if_ne (tgt := 182) hx hb dX9_meetBy_175 (by decide) (fun c_35 => ?_) (fun c_35 => ?_)
              · replace h := ifn_el c_35 h
                refine lv_iconst (v := (-1 : Int32)) hx hb dX9_meetBy_182 (by decide) ?_
                exact hj_183 _ _ _ _ _ _ h hP hD hS (lv_sub hl [1, 2, 3, 5, 7, 0] rfl)
              · replace h := ifp_el c_35 h
                refine lv_iconst (v := (nI 1)) hx hb dX9_meetBy_178 (by decide) ?_
                refine lv_goto (tgt := 183) hx hb dX9_meetBy_179 (by decide) ?_
                exact hj_183 _ _ _ _ _ _ h hP hD hS (lv_sub hl [1, 2, 3, 5, 7, 0] rfl)
        have hj_149 : ∀  (H : Heap) (locs : List Loc) (ls : Array Slot), j_X9_meetBy_149 p2 v_stands x4_2 x5_4 z0_8 z0_13 z0_18  = some (o_stands) → va_P D vwCl [(q_this, .inr (8, [.ref q_text, .int v_size, .int v_at, .ref q_read, .ref q_l, .ref q_stands, .ref q_kept, .int v_keptMany, .ref q_one, .ref q_two, .ref q_ways, .ref q_now, .ref q_then])), (q_l, .inl (ca 0, 336, .inl v_l)), (q_stands, .inl (ca 0, 16, .inl v_stands))] H → va_D A [(q_this, .inr (8, [.ref q_text, .int v_size, .int v_at, .ref q_read, .ref q_l, .ref q_stands, .ref q_kept, .int v_keptMany, .ref q_one, .ref q_two, .ref q_ways, .ref q_now, .ref q_then])), (q_l, .inl (ca 0, 336, .inl v_l)), (q_stands, .inl (ca 0, 16, .inl v_stands))] → va_S A s.heap H locs → lv_has ls 10 [(0, .ref q_this), (2, .int p2), (4, .int x4_2), (5, .int x5_4), (6, .int z0_8), (7, .int z0_13), (8, .int z0_18)] → W p l e (headSpec wsX9_meetBy rm_X9_meetBy).room s m args below meth c H locs 0 0 Q (F0 m 149 ls []) := by
          intro  H locs ls h hP hD hS hl
          rw [j_X9_meetBy_149] at h
          refine lv_iconst (v := (nI 0)) hx hb dX9_meetBy_149 (by decide) ?_
          exact hj_150 _ _ _ _ h hP hD hS (lv_sub hl [0, 1, 2, 3, 4, 5, 6] rfl)
        refine lv_icmp_eq (tgt := 149) hx hb dX9_meetBy_110 (by decide) (fun c_36 => ?_) (fun c_36 => ?_)
        · replace h := ifp_el c_36 h
          exact hj_149  _ _ _ h hP hD hS (lv_sub hl [1, 3, 5, 6, 7, 8, 0] rfl)
        · replace h := ifn_el c_36 h
          refine lv_iload_n hx hb dX9_meetBy_113 rfl (lv_at hl 2 rfl) ?_
          refine lv_iload_n hx hb dX9_meetBy_114 rfl (lv_at hl 3 rfl) ?_
          refine lv_iload_n hx hb dX9_meetBy_115 rfl (lv_at hl 4 rfl) ?_
          refine lv_iconst (v := (nI 4)) hx hb dX9_meetBy_116 (by decide) ?_
          obtain ⟨r_37, hg_38, h⟩ := bd1_el h
          refine kx_Si (As := [.int p1, .int p2, .int p3, .int (nI 4)]) (rest := []) (wr := [(q_this, .inr (8, [.ref q_text, .int v_size, .int v_at, .ref q_read, .ref q_l, .ref q_stands, .ref q_kept, .int v_keptMany, .ref q_one, .ref q_two, .ref q_ways, .ref q_now, .ref q_then])), (q_l, .inl (ca 0, 336, .inl v_l)), (q_stands, .inl (ca 0, 16, .inl v_stands))]) (w1 := []) (wn := [(q_this, .inr (8, [.ref q_text, .int v_size, .int v_at, .ref q_read, .ref q_l, .ref q_stands, .ref q_kept, .int v_keptMany, .ref q_one, .ref q_two, .ref q_ways, .ref q_now, .ref q_then])), (q_l, .inl (ca 0, 336, .inl v_l)), (q_stands, .inl (ca 0, 16, .inl v_stands))]) ⟨hx, hb, hml, hown, hts⟩ (c_X9_draw l D ca H.size p1 p2 p3 (nI 4) r_37 hg_38) (va_cwS 4 hts gX9_meetBy_X9_draw rfl rfl rfl (by decide +kernel) ⟨(Nat.le_of_ble_eq_true rfl), (Nat.le_of_ble_eq_true rfl)⟩) hK hP hD hS hA [] [0, 1, 2] [0, 1, 2] rfl rfl rfl rfl (by decide) rfl rfl rfl hl.1 rfl (Nat.le_of_ble_eq_true rfl) dX9_meetBy_117 ⟨Nat.zero_le _, Nat.zero_le _⟩ (fun H locs hP hD hS => ?_)
          refine lv_bipush (v := (nI 10)) hx hb dX9_meetBy_120 (by decide) ?_
          refine lv_irem hx hb dX9_meetBy_122 (by decide) ?_
          refine lv_aload_n hx hb dX9_meetBy_123 rfl (lv_at hl 1 rfl) ?_
          refine va_get (D := D) (ci := 8) (v := .ref q_l) (C := RX9) (T := TX9) (N := 13) hx hb hts i_X9 hown hK hP 0 rfl rfl 4 (by decide) k_16 (fun _ h9 => h9) rfl dX9_meetBy_124 ?_
          refine lv_sipush (v := (nI 300)) hx hb dX9_meetBy_127 (by decide) ?_
          refine lv_iload hx hb dX9_meetBy_130 (lv_at hl 7 rfl) ?_
          have hj_140 : ∀ (z0_39 : Int32) (z2_40 : Int32) (z3_41 : Int32) (H : Heap) (locs : List Loc) (ls : Array Slot), j_X9_meetBy_140 p2 v_l v_stands x4_2 x5_4 z0_8 z0_13 z0_18 z0_39 z2_40 z3_41 = some (o_stands) → va_P D vwCl [(q_this, .inr (8, [.ref q_text, .int v_size, .int v_at, .ref q_read, .ref q_l, .ref q_stands, .ref q_kept, .int v_keptMany, .ref q_one, .ref q_two, .ref q_ways, .ref q_now, .ref q_then])), (q_l, .inl (ca 0, 336, .inl v_l)), (q_stands, .inl (ca 0, 16, .inl v_stands))] H → va_D A [(q_this, .inr (8, [.ref q_text, .int v_size, .int v_at, .ref q_read, .ref q_l, .ref q_stands, .ref q_kept, .int v_keptMany, .ref q_one, .ref q_two, .ref q_ways, .ref q_now, .ref q_then])), (q_l, .inl (ca 0, 336, .inl v_l)), (q_stands, .inl (ca 0, 16, .inl v_stands))] → va_S A s.heap H locs → lv_has ls 10 [(0, .ref q_this), (2, .int p2), (4, .int x4_2), (5, .int x5_4), (6, .int z0_8), (7, .int z0_13), (8, .int z0_18)] → W p l e (headSpec wsX9_meetBy rm_X9_meetBy).room s m args below meth c H locs 0 0 Q (F0 m 140 ls [.int z3_41, .int z2_40, .ref q_l, .int z0_39]) := by
            intro z0_39 z2_40 z3_41 H locs ls h hP hD hS hl
            rw [j_X9_meetBy_140] at h
            refine lv_iadd hx hb dX9_meetBy_140 ?_
            obtain ⟨hi_42, h⟩ := ck_el h
            refine va_iald hx hb hK hP 1 0 rfl rfl hi_42 dX9_meetBy_141 ?_
            refine lv_icmp_ge (tgt := 149) hx hb dX9_meetBy_142 (by decide) (fun c_43 => ?_) (fun c_43 => ?_)
            · replace h := ifp_el c_43 h
              exact hj_149  _ _ _ h hP hD hS (lv_sub hl [0, 1, 2, 3, 4, 5, 6] rfl)
            · replace h := ifn_el c_43 h
              refine lv_iconst (v := (nI 1)) hx hb dX9_meetBy_145 (by decide) ?_
              refine lv_goto (tgt := 150) hx hb dX9_meetBy_146 (by decide) ?_
              exact hj_150 _ _ _ _ h hP hD hS (lv_sub hl [0, 1, 2, 3, 4, 5, 6] rfl)
          refine lv_if_eq (tgt := 139) hx hb dX9_meetBy_132 (by decide) (fun c_44 => ?_) (fun c_44 => ?_)
          · replace h := ifp_el c_44 h
            refine lv_iconst (v := (nI 0)) hx hb dX9_meetBy_139 (by decide) ?_
            exact hj_140 _ _ _ _ _ _ h hP hD hS (lv_sub hl [1, 3, 5, 6, 7, 8, 0] rfl)
          · replace h := ifn_el c_44 h
            refine lv_iconst (v := (nI 1)) hx hb dX9_meetBy_135 (by decide) ?_
            refine lv_goto (tgt := 140) hx hb dX9_meetBy_136 (by decide) ?_
            exact hj_140 _ _ _ _ _ _ h hP hD hS (lv_sub hl [1, 3, 5, 6, 7, 8, 0] rfl)
      refine lv_icmp_ge (tgt := 103) hx hb dX9_meetBy_96 (by decide) (fun c_45 => ?_) (fun c_45 => ?_)
      · replace h := ifp_el c_45 h
        refine lv_iconst (v := (nI 1)) hx hb dX9_meetBy_103 (by decide) ?_
        exact hj_104 _ _ _ _ h hP hD hS (lv_sub hl [1, 2, 3, 4, 5, 6, 7, 0] rfl)
      · replace h := ifn_el c_45 h
        refine lv_iconst (v := (nI 0)) hx hb dX9_meetBy_99 (by decide) ?_
        refine lv_goto (tgt := 104) hx hb dX9_meetBy_100 (by decide) ?_
        exact hj_104 _ _ _ _ h hP hD hS (lv_sub hl [1, 2, 3, 4, 5, 6, 7, 0] rfl)
    refine lv_icmp_ge (tgt := 75) hx hb dX9_meetBy_68 (by decide) (fun c_46 => ?_) (fun c_46 => ?_)
    · replace h := ifp_el c_46 h
      refine lv_iconst (v := (nI 0)) hx hb dX9_meetBy_75 (by decide) ?_
      exact hj_76 _ _ _ _ h hP hD hS (lv_sub hl [1, 2, 3, 4, 5, 6, 0] rfl)
    · replace h := ifn_el c_46 h
      refine lv_iconst (v := (nI 1)) hx hb dX9_meetBy_71 (by decide) ?_
      refine lv_goto (tgt := 76) hx hb dX9_meetBy_72 (by decide) ?_
      exact hj_76 _ _ _ _ h hP hD hS (lv_sub hl [1, 2, 3, 4, 5, 6, 0] rfl)
  refine lv_icmp_ge (tgt := 47) hx hb dX9_meetBy_40 (by decide) (fun c_47 => ?_) (fun c_47 => ?_)
  · replace h := ifp_el c_47 h
    refine lv_iconst (v := (nI 0)) hx hb dX9_meetBy_47 (by decide) ?_
    exact hj_48 _ _ _ _ h hP hD hS (lv_sub hl [2, 3, 4, 5, 1, 0] rfl)
  · replace h := ifn_el c_47 h
    refine lv_iconst (v := (nI 1)) hx hb dX9_meetBy_43 (by decide) ?_
    refine lv_goto (tgt := 48) hx hb dX9_meetBy_44 (by decide) ?_
    exact hj_48 _ _ _ _ h hP hD hS (lv_sub hl [2, 3, 4, 5, 1, 0] rfl)
def j_X9_tongueBy_109 (x3_2 : Int32) (rec4 : Int32 → Int32 → (Nat → Int32) → (Nat → Int32) → (Nat → Int32) → Option (Int32 × (Nat → Int32) × (Nat → Int32) × (Nat → Int32))) (z0_22 : Int32) (y_one_23 : Nat → Int32) (y_two_24 : Nat → Int32) (y_ways_25 : Nat → Int32) : Option (Int32 × (Nat → Int32) × (Nat → Int32) × (Nat → Int32)) := nm (z0_22 ||| ((nI 1) <<< (x3_2 &&& 31))) (fun x2_26 => nm (x3_2 + (nI 1)) (fun x3_27 => rec4 x2_26 x3_27 y_one_23 y_two_24 y_ways_25))
def j_X9_tongueBy_85 (v_l : Nat → Int32) (F : Nat) (x2_1 : Int32) (x3_2 : Int32) (y_one_3 : Nat → Int32) (y_two_4 : Nat → Int32) (y_ways_5 : Nat → Int32) (rec4 : Int32 → Int32 → (Nat → Int32) → (Nat → Int32) → (Nat → Int32) → Option (Int32 × (Nat → Int32) × (Nat → Int32) × (Nat → Int32))) (z0_15 : Int32) : Option (Int32 × (Nat → Int32) × (Nat → Int32) × (Nat → Int32)) := bd1 (D_X9_isTold x3_2 v_l) (fun r_16 => (if r_16 = 0 then nm (x2_1 ||| (nI 0)) (fun x2_19 => nm (x3_2 + (nI 1)) (fun x3_20 => rec4 x2_19 x3_20 y_one_3 y_two_4 y_ways_5)) else (if z0_15 = 0 then bd4 (D_X9_isAlike F x3_2 v_l y_one_3 y_two_4 y_ways_5) (fun r_30 y_one_31 y_two_32 y_ways_33 => (if r_30 = 0 then nm (x2_1 ||| (nI 0)) (fun x2_36 => nm (x3_2 + (nI 1)) (fun x3_37 => rec4 x2_36 x3_37 y_one_31 y_two_32 y_ways_33)) else j_X9_tongueBy_109 x3_2 rec4 x2_1 y_one_31 y_two_32 y_ways_33)) else j_X9_tongueBy_109 x3_2 rec4 x2_1 y_one_3 y_two_4 y_ways_5)))
def j_X9_tongueBy_84 (v_l : Nat → Int32) (F : Nat) (x2_1 : Int32) (x3_2 : Int32) (y_one_3 : Nat → Int32) (y_two_4 : Nat → Int32) (y_ways_5 : Nat → Int32) (rec4 : Int32 → Int32 → (Nat → Int32) → (Nat → Int32) → (Nat → Int32) → Option (Int32 × (Nat → Int32) × (Nat → Int32) × (Nat → Int32)))  : Option (Int32 × (Nat → Int32) × (Nat → Int32) × (Nat → Int32)) := j_X9_tongueBy_85 v_l F x2_1 x3_2 y_one_3 y_two_4 y_ways_5 rec4 (nI 0)
def j_X9_tongueBy_58 (v_l : Nat → Int32) (F : Nat) (x2_1 : Int32) (x3_2 : Int32) (y_one_3 : Nat → Int32) (y_two_4 : Nat → Int32) (y_ways_5 : Nat → Int32) (rec4 : Int32 → Int32 → (Nat → Int32) → (Nat → Int32) → (Nat → Int32) → Option (Int32 × (Nat → Int32) × (Nat → Int32) × (Nat → Int32)))  : Option (Int32 × (Nat → Int32) × (Nat → Int32) × (Nat → Int32)) := j_X9_tongueBy_85 v_l F x2_1 x3_2 y_one_3 y_two_4 y_ways_5 rec4 (nI 0)
def b_X9_tongueBy_4 (p1 : Int32) (v_l : Nat → Int32) (v_stands : Nat → Int32) (F : Nat) (rec4 : Int32 → Int32 → (Nat → Int32) → (Nat → Int32) → (Nat → Int32) → Option (Int32 × (Nat → Int32) × (Nat → Int32) × (Nat → Int32))) (x2_1 : Int32) (x3_2 : Int32) (y_one_3 : Nat → Int32) (y_two_4 : Nat → Int32) (y_ways_5 : Nat → Int32) : Option (Int32 × (Nat → Int32) × (Nat → Int32) × (Nat → Int32)) := (if (nI 8) ≤ x3_2 then some (x2_1, y_one_3, y_two_4, y_ways_5) else ck 16 ((nI 2) * x3_2) (nm (v_stands ((nI 2) * x3_2).toNatClampNeg) (fun x4_12 => ck 16 (((nI 2) * x3_2) + (nI 1)) (nm (v_stands (((nI 2) * x3_2) + (nI 1)).toNatClampNeg) (fun x5_14 => (if p1 = 0 then (if x4_12 = 0 then ck 336 (nI 299) ((if x5_14 = (v_l (nI 299).toNatClampNeg) then j_X9_tongueBy_85 v_l F x2_1 x3_2 y_one_3 y_two_4 y_ways_5 rec4 (nI 1) else j_X9_tongueBy_58 v_l F x2_1 x3_2 y_one_3 y_two_4 y_ways_5 rec4 )) else j_X9_tongueBy_58 v_l F x2_1 x3_2 y_one_3 y_two_4 y_ways_5 rec4 ) else ck 336 (nI 298) ((if x4_12 = (v_l (nI 298).toNatClampNeg) then (if x5_14 = 0 then j_X9_tongueBy_85 v_l F x2_1 x3_2 y_one_3 y_two_4 y_ways_5 rec4 (nI 1) else j_X9_tongueBy_84 v_l F x2_1 x3_2 y_one_3 y_two_4 y_ways_5 rec4 ) else j_X9_tongueBy_84 v_l F x2_1 x3_2 y_one_3 y_two_4 y_ways_5 rec4 ))))))))
def D_X9_tongueBy (F : Nat) (p1 : Int32) (v_l : Nat → Int32) (v_stands : Nat → Int32) (v_one : Nat → Int32) (v_two : Nat → Int32) (v_ways : Nat → Int32) : Option (Int32 × (Nat → Int32) × (Nat → Int32) × (Nat → Int32)) := bd4 (lpg (T := Int32 → Int32 → (Nat → Int32) → (Nat → Int32) → (Nat → Int32) → Option (Int32 × (Nat → Int32) × (Nat → Int32) × (Nat → Int32))) (fun _ _ _ _ _ => none) (b_X9_tongueBy_4 p1 v_l v_stands F) F (nI 0) (nI 0) v_one v_two v_ways) (fun o_6 o_7 o_8 o_9 => some (o_6, o_7, o_8, o_9))
abbrev rm_X9_tongueBy : Room := { frames := 5, cells := 0, slots := 0, locals := 113 }
set_option maxHeartbeats 4000000 in
set_option maxRecDepth 100000 in
theorem c_X9_tongueBy (l : Launch) (D : va_G) (ca : Nat → ClassId) (F : Nat) (sz : Nat) (q_this q_text q_read q_l q_stands q_kept q_one q_two q_ways q_now q_then : Nat) (p1 : Int32) (v_size : Int32) (v_at : Int32) (v_keptMany : Int32) (v_l : Nat → Int32) (v_stands : Nat → Int32) (v_one : Nat → Int32) (v_two : Nat → Int32) (v_ways : Nat → Int32) (r : Int32) (o_one : Nat → Int32) (o_two : Nat → Int32) (o_ways : Nat → Int32) (h : D_X9_tongueBy F p1 v_l v_stands v_one v_two v_ways = some (r, o_one, o_two, o_ways)) : Met l yX9_tongueBy wsX9_tongueBy rm_X9_tongueBy (va_Pc [.ref q_this, .int p1] (kPre D ca [(q_this, .inr (8, [.ref q_text, .int v_size, .int v_at, .ref q_read, .ref q_l, .ref q_stands, .ref q_kept, .int v_keptMany, .ref q_one, .ref q_two, .ref q_ways, .ref q_now, .ref q_then])), (q_l, .inl (ca 0, 336, .inl v_l)), (q_stands, .inl (ca 0, 16, .inl v_stands)), (q_one, .inl (ca 0, 7, .inl v_one)), (q_two, .inl (ca 0, 7, .inl v_two)), (q_ways, .inl (ca 0, 49, .inl v_ways))] sz)) (kQi D ca (va_A [(q_this, .inr (8, [.ref q_text, .int v_size, .int v_at, .ref q_read, .ref q_l, .ref q_stands, .ref q_kept, .int v_keptMany, .ref q_one, .ref q_two, .ref q_ways, .ref q_now, .ref q_then])), (q_l, .inl (ca 0, 336, .inl v_l)), (q_stands, .inl (ca 0, 16, .inl v_stands)), (q_one, .inl (ca 0, 7, .inl v_one)), (q_two, .inl (ca 0, 7, .inl v_two)), (q_ways, .inl (ca 0, 49, .inl v_ways))] sz) [(q_this, .inr (8, [.ref q_text, .int v_size, .int v_at, .ref q_read, .ref q_l, .ref q_stands, .ref q_kept, .int v_keptMany, .ref q_one, .ref q_two, .ref q_ways, .ref q_now, .ref q_then])), (q_l, .inl (ca 0, 336, .inl v_l)), (q_stands, .inl (ca 0, 16, .inl v_stands)), (q_one, .inl (ca 0, 7, .inl o_one)), (q_two, .inl (ca 0, 7, .inl o_two)), (q_ways, .inl (ca 0, 49, .inl o_ways))] r) 0 0 (va_A [(q_this, .inr (8, [.ref q_text, .int v_size, .int v_at, .ref q_read, .ref q_l, .ref q_stands, .ref q_kept, .int v_keptMany, .ref q_one, .ref q_two, .ref q_ways, .ref q_now, .ref q_then])), (q_l, .inl (ca 0, 336, .inl v_l)), (q_stands, .inl (ca 0, 16, .inl v_stands)), (q_one, .inl (ca 0, 7, .inl v_one)), (q_two, .inl (ca 0, 7, .inl v_two)), (q_ways, .inl (ca 0, 49, .inl v_ways))] sz) := by
  refine Met.ofW (cc := cX9_tongueBy) (maxL := 7) (ret := (some .int)) (by decide +kernel) rfl ?_
  intro p e s m args below meth c s₁ B hml hv
  obtain ⟨rfl, hsz, hP, hK, hD0⟩ := hv
  have hx := B.exec
  have hb := B.bytes
  have hr := B.returns
  have hts := atoms_spec (ws := wsX9_tongueBy) B.pre
  have hown : s.vm.findClass RX9 = some m.cls := findClass_of_methodNamed B.named
  have hlocks := B.notSynchronized
  clear B
  subst hsz
  have hD := hD0.self (sz := s.heap.size)
  generalize hAe : va_A [(q_this, .inr (8, [.ref q_text, .int v_size, .int v_at, .ref q_read, .ref q_l, .ref q_stands, .ref q_kept, .int v_keptMany, .ref q_one, .ref q_two, .ref q_ways, .ref q_now, .ref q_then])), (q_l, .inl (ca 0, 336, .inl v_l)), (q_stands, .inl (ca 0, 16, .inl v_stands)), (q_one, .inl (ca 0, 7, .inl v_one)), (q_two, .inl (ca 0, 7, .inl v_two)), (q_ways, .inl (ca 0, 49, .inl v_ways))] s.heap.size = A at hD ⊢
  have hA : ∀ q : Nat, s.heap.size ≤ q → A q := fun q h => by rw [← hAe]; exact Or.inr h
  have hS : va_S A s.heap s.heap [] := va_S.rf
  have hl := lv_entry ([.ref q_this, .int p1]) (n := 7) (Nat.le_of_ble_eq_true rfl)
  rw [lg_entry_eq]
  generalize (lg_sl ([.ref q_this, .int p1]) ++ List.replicate (7 - (lg_sl ([.ref q_this, .int p1])).length) Slot.unset).toArray = ls at hl ⊢
  have hl : lv_has ls 7 [(0, .ref q_this), (1, .int p1)] := hl
  generalize ([.ref q_this, .int p1] : List Value).toArray = args at hts ⊢
  generalize hQe : MQ below (kQi D ca (A) [(q_this, .inr (8, [.ref q_text, .int v_size, .int v_at, .ref q_read, .ref q_l, .ref q_stands, .ref q_kept, .int v_keptMany, .ref q_one, .ref q_two, .ref q_ways, .ref q_now, .ref q_then])), (q_l, .inl (ca 0, 336, .inl v_l)), (q_stands, .inl (ca 0, 16, .inl v_stands)), (q_one, .inl (ca 0, 7, .inl o_one)), (q_two, .inl (ca 0, 7, .inl o_two)), (q_ways, .inl (ca 0, 49, .inl o_ways))] r) args s 0 0 A = Q
  have i_X9 : ∀ w ∈ u_ws RX9 TX9 13, w ∈ wsX9_tongueBy := by decide +kernel
  have k_19 := hts (.fieldLink RX9 19 "TradeWordsModel" "stands" "[I") (by decide +kernel)
  have k_16 := hts (.fieldLink RX9 16 "TradeWordsModel" "l" "[I") (by decide +kernel)
  rw [D_X9_tongueBy] at h
  refine lv_iconst (v := (nI 0)) hx hb dX9_tongueBy_0 (by decide) ?_
  refine lv_istore_n (lv' := [(2, .int (nI 0)), (0, .ref q_this), (1, .int p1)]) hx hb dX9_tongueBy_1 rfl hl (by decide) rfl (fun ls hl => ?_)
  refine lv_iconst (v := (nI 0)) hx hb dX9_tongueBy_2 (by decide) ?_
  refine lv_istore_n (lv' := [(3, .int (nI 0)), (2, .int (nI 0)), (0, .ref q_this), (1, .int p1)]) hx hb dX9_tongueBy_3 rfl hl (by decide) rfl (fun ls hl => ?_)
  obtain ⟨o_6, o_7, o_8, o_9, hL, h⟩ := bd4_el h
  have hex : ∀ (H : Heap) (locs : List Loc) (ls : Array Slot), va_P D vwCl [(q_this, .inr (8, [.ref q_text, .int v_size, .int v_at, .ref q_read, .ref q_l, .ref q_stands, .ref q_kept, .int v_keptMany, .ref q_one, .ref q_two, .ref q_ways, .ref q_now, .ref q_then])), (q_l, .inl (ca 0, 336, .inl v_l)), (q_stands, .inl (ca 0, 16, .inl v_stands)), (q_one, .inl (ca 0, 7, .inl o_7)), (q_two, .inl (ca 0, 7, .inl o_8)), (q_ways, .inl (ca 0, 49, .inl o_9))] H → va_D A [(q_this, .inr (8, [.ref q_text, .int v_size, .int v_at, .ref q_read, .ref q_l, .ref q_stands, .ref q_kept, .int v_keptMany, .ref q_one, .ref q_two, .ref q_ways, .ref q_now, .ref q_then])), (q_l, .inl (ca 0, 336, .inl v_l)), (q_stands, .inl (ca 0, 16, .inl v_stands)), (q_one, .inl (ca 0, 7, .inl o_7)), (q_two, .inl (ca 0, 7, .inl o_8)), (q_ways, .inl (ca 0, 49, .inl o_9))] → va_S A s.heap H locs → lv_has ls 7 [(2, .int o_6)] → W p l e (headSpec wsX9_tongueBy rm_X9_tongueBy).room s m args below meth c H locs 0 0 Q (F0 m 124 ls []) := by
    intro H locs ls hP hD hS hl
    refine lv_iload_n hx hb dX9_tongueBy_124 rfl (lv_at hl 0 rfl) ?_
    cases h
    rw [← hQe]
    exact W.iret hx hb hr (fun t ht hW => ⟨⟨_, (), rfl, rfl, by rw [ht]; exact hP, va_K.moved hW.alike hK, hD⟩, hS.F ht⟩) hS.2.2 dX9_tongueBy_125
  have hlp : ∀ (n : Nat) (x2_1 : Int32) (x3_2 : Int32) (y_one_3 : Nat → Int32) (y_two_4 : Nat → Int32) (y_ways_5 : Nat → Int32) (o_6 : Int32) (o_7 : Nat → Int32) (o_8 : Nat → Int32) (o_9 : Nat → Int32) (H : Heap) (locs : List Loc) (ls : Array Slot), lpg (T := Int32 → Int32 → (Nat → Int32) → (Nat → Int32) → (Nat → Int32) → Option (Int32 × (Nat → Int32) × (Nat → Int32) × (Nat → Int32))) (fun _ _ _ _ _ => none) (b_X9_tongueBy_4 p1 v_l v_stands F) n x2_1 x3_2 y_one_3 y_two_4 y_ways_5 = some (o_6, o_7, o_8, o_9) → (∀ (H : Heap) (locs : List Loc) (ls : Array Slot), va_P D vwCl [(q_this, .inr (8, [.ref q_text, .int v_size, .int v_at, .ref q_read, .ref q_l, .ref q_stands, .ref q_kept, .int v_keptMany, .ref q_one, .ref q_two, .ref q_ways, .ref q_now, .ref q_then])), (q_l, .inl (ca 0, 336, .inl v_l)), (q_stands, .inl (ca 0, 16, .inl v_stands)), (q_one, .inl (ca 0, 7, .inl o_7)), (q_two, .inl (ca 0, 7, .inl o_8)), (q_ways, .inl (ca 0, 49, .inl o_9))] H → va_D A [(q_this, .inr (8, [.ref q_text, .int v_size, .int v_at, .ref q_read, .ref q_l, .ref q_stands, .ref q_kept, .int v_keptMany, .ref q_one, .ref q_two, .ref q_ways, .ref q_now, .ref q_then])), (q_l, .inl (ca 0, 336, .inl v_l)), (q_stands, .inl (ca 0, 16, .inl v_stands)), (q_one, .inl (ca 0, 7, .inl o_7)), (q_two, .inl (ca 0, 7, .inl o_8)), (q_ways, .inl (ca 0, 49, .inl o_9))] → va_S A s.heap H locs → lv_has ls 7 [(2, .int o_6)] → W p l e (headSpec wsX9_tongueBy rm_X9_tongueBy).room s m args below meth c H locs 0 0 Q (F0 m 124 ls [])) → va_P D vwCl [(q_this, .inr (8, [.ref q_text, .int v_size, .int v_at, .ref q_read, .ref q_l, .ref q_stands, .ref q_kept, .int v_keptMany, .ref q_one, .ref q_two, .ref q_ways, .ref q_now, .ref q_then])), (q_l, .inl (ca 0, 336, .inl v_l)), (q_stands, .inl (ca 0, 16, .inl v_stands)), (q_one, .inl (ca 0, 7, .inl y_one_3)), (q_two, .inl (ca 0, 7, .inl y_two_4)), (q_ways, .inl (ca 0, 49, .inl y_ways_5))] H → va_D A [(q_this, .inr (8, [.ref q_text, .int v_size, .int v_at, .ref q_read, .ref q_l, .ref q_stands, .ref q_kept, .int v_keptMany, .ref q_one, .ref q_two, .ref q_ways, .ref q_now, .ref q_then])), (q_l, .inl (ca 0, 336, .inl v_l)), (q_stands, .inl (ca 0, 16, .inl v_stands)), (q_one, .inl (ca 0, 7, .inl y_one_3)), (q_two, .inl (ca 0, 7, .inl y_two_4)), (q_ways, .inl (ca 0, 49, .inl y_ways_5))] → va_S A s.heap H locs → lv_has ls 7 [(0, .ref q_this), (1, .int p1), (2, .int x2_1), (3, .int x3_2)] → W p l e (headSpec wsX9_tongueBy rm_X9_tongueBy).room s m args below meth c H locs 0 0 Q (F0 m 4 ls []) := by
    intro n
    induction n with
    | zero => intro x2_1 x3_2 y_one_3 y_two_4 y_ways_5 o_6 o_7 o_8 o_9 H locs ls h; have h : (none : Option (Int32 × (Nat → Int32) × (Nat → Int32) × (Nat → Int32))) = some _ := h; cases h
    | succ n ih =>
      intro x2_1 x3_2 y_one_3 y_two_4 y_ways_5 o_6 o_7 o_8 o_9 H locs ls h hex hP hD hS hl
      rw [lpg_succ, b_X9_tongueBy_4] at h
      refine lv_iload_n hx hb dX9_tongueBy_4 rfl (lv_at hl 3 rfl) ?_
      refine lv_bipush (v := (nI 8)) hx hb dX9_tongueBy_5 (by decide) ?_
      refine lv_icmp_ge (tgt := 124) hx hb dX9_tongueBy_7 (by decide) (fun c_10 => ?_) (fun c_10 => ?_)
      · replace h := ifp_el c_10 h
        cases h
        exact hex _ _ _ hP hD hS (lv_sub hl [2] rfl)
      · replace h := ifn_el c_10 h
        refine lv_aload_n hx hb dX9_tongueBy_10 rfl (lv_at hl 0 rfl) ?_
        refine va_get (D := D) (ci := 8) (v := .ref q_stands) (C := RX9) (T := TX9) (N := 13) hx hb hts i_X9 hown hK hP 0 rfl rfl 5 (by decide) k_19 (fun _ h9 => h9) rfl dX9_tongueBy_11 ?_
        refine lv_iconst (v := (nI 2)) hx hb dX9_tongueBy_14 (by decide) ?_
        refine lv_iload_n hx hb dX9_tongueBy_15 rfl (lv_at hl 3 rfl) ?_
        refine lv_imul hx hb dX9_tongueBy_16 ?_
        obtain ⟨hi_11, h⟩ := ck_el h
        refine va_iald hx hb hK hP 2 0 rfl rfl hi_11 dX9_tongueBy_17 ?_
        refine lv_nmi h (fun x4_12 h => ?_)
        refine lv_istore (lv' := [(4, .int x4_12), (0, .ref q_this), (1, .int p1), (2, .int x2_1), (3, .int x3_2)]) hx hb dX9_tongueBy_18 hl (by decide) rfl (fun ls hl => ?_)
        refine lv_aload_n hx hb dX9_tongueBy_20 rfl (lv_at hl 1 rfl) ?_
        refine va_get (D := D) (ci := 8) (v := .ref q_stands) (C := RX9) (T := TX9) (N := 13) hx hb hts i_X9 hown hK hP 0 rfl rfl 5 (by decide) k_19 (fun _ h9 => h9) rfl dX9_tongueBy_21 ?_
        refine lv_iconst (v := (nI 2)) hx hb dX9_tongueBy_24 (by decide) ?_
        refine lv_iload_n hx hb dX9_tongueBy_25 rfl (lv_at hl 4 rfl) ?_
        refine lv_imul hx hb dX9_tongueBy_26 ?_
        refine lv_iconst (v := (nI 1)) hx hb dX9_tongueBy_27 (by decide) ?_
        refine lv_iadd hx hb dX9_tongueBy_28 ?_
        obtain ⟨hi_13, h⟩ := ck_el h
        refine va_iald hx hb hK hP 2 0 rfl rfl hi_13 dX9_tongueBy_29 ?_
        refine lv_nmi h (fun x5_14 h => ?_)
        refine lv_istore (lv' := [(5, .int x5_14), (4, .int x4_12), (0, .ref q_this), (1, .int p1), (2, .int x2_1), (3, .int x3_2)]) hx hb dX9_tongueBy_30 hl (by decide) rfl (fun ls hl => ?_)
        refine lv_iload_n hx hb dX9_tongueBy_32 rfl (lv_at hl 3 rfl) ?_
        have hj_85 : ∀ (z0_15 : Int32) (H : Heap) (locs : List Loc) (ls : Array Slot), j_X9_tongueBy_85 v_l F x2_1 x3_2 y_one_3 y_two_4 y_ways_5 (lpg (T := Int32 → Int32 → (Nat → Int32) → (Nat → Int32) → (Nat → Int32) → Option (Int32 × (Nat → Int32) × (Nat → Int32) × (Nat → Int32))) (fun _ _ _ _ _ => none) (b_X9_tongueBy_4 p1 v_l v_stands F) n) z0_15 = some (o_6, o_7, o_8, o_9) → va_P D vwCl [(q_this, .inr (8, [.ref q_text, .int v_size, .int v_at, .ref q_read, .ref q_l, .ref q_stands, .ref q_kept, .int v_keptMany, .ref q_one, .ref q_two, .ref q_ways, .ref q_now, .ref q_then])), (q_l, .inl (ca 0, 336, .inl v_l)), (q_stands, .inl (ca 0, 16, .inl v_stands)), (q_one, .inl (ca 0, 7, .inl y_one_3)), (q_two, .inl (ca 0, 7, .inl y_two_4)), (q_ways, .inl (ca 0, 49, .inl y_ways_5))] H → va_D A [(q_this, .inr (8, [.ref q_text, .int v_size, .int v_at, .ref q_read, .ref q_l, .ref q_stands, .ref q_kept, .int v_keptMany, .ref q_one, .ref q_two, .ref q_ways, .ref q_now, .ref q_then])), (q_l, .inl (ca 0, 336, .inl v_l)), (q_stands, .inl (ca 0, 16, .inl v_stands)), (q_one, .inl (ca 0, 7, .inl y_one_3)), (q_two, .inl (ca 0, 7, .inl y_two_4)), (q_ways, .inl (ca 0, 49, .inl y_ways_5))] → va_S A s.heap H locs → lv_has ls 7 [(0, .ref q_this), (1, .int p1), (2, .int x2_1), (3, .int x3_2)] → W p l e (headSpec wsX9_tongueBy rm_X9_tongueBy).room s m args below meth c H locs 0 0 Q (F0 m 85 ls [.int z0_15]) := by
          intro z0_15 H locs ls h hP hD hS hl
          rw [j_X9_tongueBy_85] at h
          refine lv_istore (lv' := [(6, .int z0_15), (0, .ref q_this), (1, .int p1), (2, .int x2_1), (3, .int x3_2)]) hx hb dX9_tongueBy_85 hl (by decide) rfl (fun ls hl => ?_)
          refine lv_iload_n hx hb dX9_tongueBy_87 rfl (lv_at hl 3 rfl) ?_
          refine lv_aload_n hx hb dX9_tongueBy_88 rfl (lv_at hl 1 rfl) ?_
          refine lv_iload_n hx hb dX9_tongueBy_89 rfl (lv_at hl 4 rfl) ?_
          obtain ⟨r_16, hg_17, h⟩ := bd1_el h
          refine kx_Vi (As := [.int x3_2]) (rest := [.int x2_1]) (wr := [(q_stands, .inl (ca 0, 16, .inl v_stands)), (q_one, .inl (ca 0, 7, .inl y_one_3)), (q_two, .inl (ca 0, 7, .inl y_two_4)), (q_ways, .inl (ca 0, 49, .inl y_ways_5))]) (w1 := [(q_this, .inr (8, [.ref q_text, .int v_size, .int v_at, .ref q_read, .ref q_l, .ref q_stands, .ref q_kept, .int v_keptMany, .ref q_one, .ref q_two, .ref q_ways, .ref q_now, .ref q_then])), (q_l, .inl (ca 0, 336, .inl v_l))]) (wn := [(q_this, .inr (8, [.ref q_text, .int v_size, .int v_at, .ref q_read, .ref q_l, .ref q_stands, .ref q_kept, .int v_keptMany, .ref q_one, .ref q_two, .ref q_ways, .ref q_now, .ref q_then])), (q_l, .inl (ca 0, 336, .inl v_l)), (q_stands, .inl (ca 0, 16, .inl v_stands)), (q_one, .inl (ca 0, 7, .inl y_one_3)), (q_two, .inl (ca 0, 7, .inl y_two_4)), (q_ways, .inl (ca 0, 49, .inl y_ways_5))]) ⟨hx, hb, hml, hown, hts⟩ (c_X9_isTold l D ca H.size q_this q_text q_read q_l q_stands q_kept q_one q_two q_ways q_now q_then x3_2 v_size v_at v_keptMany v_l r_16 hg_17) (cwV 1 hts gX9_tongueBy_X9_isTold rfl rfl rfl (by decide +kernel) ⟨(Nat.le_of_ble_eq_true rfl), (Nat.le_of_ble_eq_true rfl)⟩) hK hP hD hS hA (ci := 8) (q0 := 0) rfl rfl [0, 1] [2, 3, 4, 5] [4, 5, 0, 1, 2, 3] rfl rfl rfl rfl (by decide) rfl rfl rfl hl.1 rfl (Nat.le_of_ble_eq_true rfl) dX9_tongueBy_90 ⟨Nat.zero_le _, Nat.zero_le _⟩ (fun H locs hP hD hS => ?_)
          refine lv_if_eq (tgt := 115) hx hb dX9_tongueBy_93 (by decide) (fun c_18 => ?_) (fun c_18 => ?_)
          · replace h := ifp_el c_18 h
            refine lv_iconst (v := (nI 0)) hx hb dX9_tongueBy_115 (by decide) ?_
            refine lv_ior hx hb dX9_tongueBy_116 ?_
            refine lv_nmi h (fun x2_19 h => ?_)
            refine lv_istore_n (lv' := [(2, .int x2_19), (6, .int z0_15), (0, .ref q_this), (1, .int p1), (3, .int x3_2)]) hx hb dX9_tongueBy_117 rfl hl (by decide) rfl (fun ls hl => ?_)
            obtain ⟨x3_20, e_21, h⟩ := nm_el h
            refine lv_iinc (v := x3_20) (lv' := [(3, .int x3_20), (2, .int x2_19), (6, .int z0_15), (0, .ref q_this), (1, .int p1)]) hx hb dX9_tongueBy_118 hl (k := 4) rfl (by rw [← e_21]; rfl) (by decide) rfl (fun ls hl => ?_)
            refine lv_goto (tgt := 4) hx hb dX9_tongueBy_121 (by decide) ?_
            exact ih _ _ _ _ _ _ _ _ _ _ _ _ h hex hP hD hS (lv_sub hl [3, 4, 1, 0] rfl)
          · replace h := ifn_el c_18 h
            refine lv_iload hx hb dX9_tongueBy_96 (lv_at hl 0 rfl) ?_
            have hj_109 : ∀ (z0_22 : Int32) (y_one_23 : Nat → Int32) (y_two_24 : Nat → Int32) (y_ways_25 : Nat → Int32) (H : Heap) (locs : List Loc) (ls : Array Slot), j_X9_tongueBy_109 x3_2 (lpg (T := Int32 → Int32 → (Nat → Int32) → (Nat → Int32) → (Nat → Int32) → Option (Int32 × (Nat → Int32) × (Nat → Int32) × (Nat → Int32))) (fun _ _ _ _ _ => none) (b_X9_tongueBy_4 p1 v_l v_stands F) n) z0_22 y_one_23 y_two_24 y_ways_25 = some (o_6, o_7, o_8, o_9) → va_P D vwCl [(q_this, .inr (8, [.ref q_text, .int v_size, .int v_at, .ref q_read, .ref q_l, .ref q_stands, .ref q_kept, .int v_keptMany, .ref q_one, .ref q_two, .ref q_ways, .ref q_now, .ref q_then])), (q_l, .inl (ca 0, 336, .inl v_l)), (q_stands, .inl (ca 0, 16, .inl v_stands)), (q_one, .inl (ca 0, 7, .inl y_one_23)), (q_two, .inl (ca 0, 7, .inl y_two_24)), (q_ways, .inl (ca 0, 49, .inl y_ways_25))] H → va_D A [(q_this, .inr (8, [.ref q_text, .int v_size, .int v_at, .ref q_read, .ref q_l, .ref q_stands, .ref q_kept, .int v_keptMany, .ref q_one, .ref q_two, .ref q_ways, .ref q_now, .ref q_then])), (q_l, .inl (ca 0, 336, .inl v_l)), (q_stands, .inl (ca 0, 16, .inl v_stands)), (q_one, .inl (ca 0, 7, .inl y_one_23)), (q_two, .inl (ca 0, 7, .inl y_two_24)), (q_ways, .inl (ca 0, 49, .inl y_ways_25))] → va_S A s.heap H locs → lv_has ls 7 [(0, .ref q_this), (1, .int p1), (3, .int x3_2)] → W p l e (headSpec wsX9_tongueBy rm_X9_tongueBy).room s m args below meth c H locs 0 0 Q (F0 m 109 ls [.int z0_22]) := by
              intro z0_22 y_one_23 y_two_24 y_ways_25 H locs ls h hP hD hS hl
              rw [j_X9_tongueBy_109] at h
              refine lv_iconst (v := (nI 1)) hx hb dX9_tongueBy_109 (by decide) ?_
              refine lv_iload_n hx hb dX9_tongueBy_110 rfl (lv_at hl 2 rfl) ?_
              refine lv_ishl hx hb dX9_tongueBy_111 ?_
              refine lv_goto (tgt := 116) hx hb dX9_tongueBy_112 (by decide) ?_
              refine lv_ior hx hb dX9_tongueBy_116 ?_
              refine lv_nmi h (fun x2_26 h => ?_)
              refine lv_istore_n (lv' := [(2, .int x2_26), (0, .ref q_this), (1, .int p1), (3, .int x3_2)]) hx hb dX9_tongueBy_117 rfl hl (by decide) rfl (fun ls hl => ?_)
              obtain ⟨x3_27, e_28, h⟩ := nm_el h
              refine lv_iinc (v := x3_27) (lv' := [(3, .int x3_27), (2, .int x2_26), (0, .ref q_this), (1, .int p1)]) hx hb dX9_tongueBy_118 hl (k := 3) rfl (by rw [← e_28]; rfl) (by decide) rfl (fun ls hl => ?_)
              refine lv_goto (tgt := 4) hx hb dX9_tongueBy_121 (by decide) ?_
              exact ih _ _ _ _ _ _ _ _ _ _ _ _ h hex hP hD hS (lv_sub hl [2, 3, 1, 0] rfl)
            refine lv_if_ne (tgt := 109) hx hb dX9_tongueBy_98 (by decide) (fun c_29 => ?_) (fun c_29 => ?_)
            · replace h := ifn_el c_29 h
              exact hj_109 _ _ _ _ _ _ _ h hP hD hS (lv_sub hl [1, 2, 4] rfl)
            · replace h := ifp_el c_29 h
              refine lv_aload_n hx hb dX9_tongueBy_101 rfl (lv_at hl 1 rfl) ?_
              refine lv_iload_n hx hb dX9_tongueBy_102 rfl (lv_at hl 4 rfl) ?_
              obtain ⟨r_30, y_one_31, y_two_32, y_ways_33, hg_34, h⟩ := bd4_el h
              refine kx_Vi (As := [.int x3_2]) (rest := [.int x2_1]) (wr := [(q_stands, .inl (ca 0, 16, .inl v_stands))]) (w1 := [(q_this, .inr (8, [.ref q_text, .int v_size, .int v_at, .ref q_read, .ref q_l, .ref q_stands, .ref q_kept, .int v_keptMany, .ref q_one, .ref q_two, .ref q_ways, .ref q_now, .ref q_then])), (q_l, .inl (ca 0, 336, .inl v_l)), (q_one, .inl (ca 0, 7, .inl y_one_31)), (q_two, .inl (ca 0, 7, .inl y_two_32)), (q_ways, .inl (ca 0, 49, .inl y_ways_33))]) (wn := [(q_this, .inr (8, [.ref q_text, .int v_size, .int v_at, .ref q_read, .ref q_l, .ref q_stands, .ref q_kept, .int v_keptMany, .ref q_one, .ref q_two, .ref q_ways, .ref q_now, .ref q_then])), (q_l, .inl (ca 0, 336, .inl v_l)), (q_stands, .inl (ca 0, 16, .inl v_stands)), (q_one, .inl (ca 0, 7, .inl y_one_31)), (q_two, .inl (ca 0, 7, .inl y_two_32)), (q_ways, .inl (ca 0, 49, .inl y_ways_33))]) ⟨hx, hb, hml, hown, hts⟩ (c_X9_isAlike l D ca F H.size q_this q_text q_read q_l q_stands q_kept q_one q_two q_ways q_now q_then x3_2 v_size v_at v_keptMany v_l y_one_3 y_two_4 y_ways_5 r_30 y_one_31 y_two_32 y_ways_33 hg_34) (cwV 1 hts gX9_tongueBy_X9_isAlike rfl rfl rfl (by decide +kernel) ⟨(Nat.le_of_ble_eq_true rfl), (Nat.le_of_ble_eq_true rfl)⟩) hK hP hD hS hA (ci := 8) (q0 := 0) rfl rfl [0, 1, 3, 4, 5] [2] [1, 2, 0, 3, 4, 5] rfl rfl rfl rfl (by decide) rfl rfl rfl hl.1 rfl (Nat.le_of_ble_eq_true rfl) dX9_tongueBy_103 ⟨Nat.zero_le _, Nat.zero_le _⟩ (fun H locs hP hD hS => ?_)
              refine lv_if_eq (tgt := 115) hx hb dX9_tongueBy_106 (by decide) (fun c_35 => ?_) (fun c_35 => ?_)
              · replace h := ifp_el c_35 h
                refine lv_iconst (v := (nI 0)) hx hb dX9_tongueBy_115 (by decide) ?_
                refine lv_ior hx hb dX9_tongueBy_116 ?_
                refine lv_nmi h (fun x2_36 h => ?_)
                refine lv_istore_n (lv' := [(2, .int x2_36), (6, .int z0_15), (0, .ref q_this), (1, .int p1), (3, .int x3_2)]) hx hb dX9_tongueBy_117 rfl hl (by decide) rfl (fun ls hl => ?_)
                obtain ⟨x3_37, e_38, h⟩ := nm_el h
                refine lv_iinc (v := x3_37) (lv' := [(3, .int x3_37), (2, .int x2_36), (6, .int z0_15), (0, .ref q_this), (1, .int p1)]) hx hb dX9_tongueBy_118 hl (k := 4) rfl (by rw [← e_38]; rfl) (by decide) rfl (fun ls hl => ?_)
                refine lv_goto (tgt := 4) hx hb dX9_tongueBy_121 (by decide) ?_
                exact ih _ _ _ _ _ _ _ _ _ _ _ _ h hex hP hD hS (lv_sub hl [3, 4, 1, 0] rfl)
              · replace h := ifn_el c_35 h
                exact hj_109 _ _ _ _ _ _ _ h hP hD hS (lv_sub hl [1, 2, 4] rfl)
        refine lv_if_ne (tgt := 62) hx hb dX9_tongueBy_33 (by decide) (fun c_39 => ?_) (fun c_39 => ?_)
        · replace h := ifn_el c_39 h
          refine lv_iload hx hb dX9_tongueBy_62 (lv_at hl 1 rfl) ?_
          refine lv_aload_n hx hb dX9_tongueBy_64 rfl (lv_at hl 2 rfl) ?_
          refine va_get (D := D) (ci := 8) (v := .ref q_l) (C := RX9) (T := TX9) (N := 13) hx hb hts i_X9 hown hK hP 0 rfl rfl 4 (by decide) k_16 (fun _ h9 => h9) rfl dX9_tongueBy_65 ?_
          refine lv_sipush (v := (nI 298)) hx hb dX9_tongueBy_68 (by decide) ?_
          obtain ⟨hi_40, h⟩ := ck_el h
          refine va_iald hx hb hK hP 1 0 rfl rfl hi_40 dX9_tongueBy_71 ?_
          have hj_84 : ∀  (H : Heap) (locs : List Loc) (ls : Array Slot), j_X9_tongueBy_84 v_l F x2_1 x3_2 y_one_3 y_two_4 y_ways_5 (lpg (T := Int32 → Int32 → (Nat → Int32) → (Nat → Int32) → (Nat → Int32) → Option (Int32 × (Nat → Int32) × (Nat → Int32) × (Nat → Int32))) (fun _ _ _ _ _ => none) (b_X9_tongueBy_4 p1 v_l v_stands F) n)  = some (o_6, o_7, o_8, o_9) → va_P D vwCl [(q_this, .inr (8, [.ref q_text, .int v_size, .int v_at, .ref q_read, .ref q_l, .ref q_stands, .ref q_kept, .int v_keptMany, .ref q_one, .ref q_two, .ref q_ways, .ref q_now, .ref q_then])), (q_l, .inl (ca 0, 336, .inl v_l)), (q_stands, .inl (ca 0, 16, .inl v_stands)), (q_one, .inl (ca 0, 7, .inl y_one_3)), (q_two, .inl (ca 0, 7, .inl y_two_4)), (q_ways, .inl (ca 0, 49, .inl y_ways_5))] H → va_D A [(q_this, .inr (8, [.ref q_text, .int v_size, .int v_at, .ref q_read, .ref q_l, .ref q_stands, .ref q_kept, .int v_keptMany, .ref q_one, .ref q_two, .ref q_ways, .ref q_now, .ref q_then])), (q_l, .inl (ca 0, 336, .inl v_l)), (q_stands, .inl (ca 0, 16, .inl v_stands)), (q_one, .inl (ca 0, 7, .inl y_one_3)), (q_two, .inl (ca 0, 7, .inl y_two_4)), (q_ways, .inl (ca 0, 49, .inl y_ways_5))] → va_S A s.heap H locs → lv_has ls 7 [(0, .ref q_this), (1, .int p1), (2, .int x2_1), (3, .int x3_2)] → W p l e (headSpec wsX9_tongueBy rm_X9_tongueBy).room s m args below meth c H locs 0 0 Q (F0 m 84 ls []) := by
            intro  H locs ls h hP hD hS hl
            rw [j_X9_tongueBy_84] at h
            refine lv_iconst (v := (nI 0)) hx hb dX9_tongueBy_84 (by decide) ?_
            exact hj_85 _ _ _ _ h hP hD hS (lv_sub hl [0, 1, 2, 3] rfl)
          refine lv_icmp_ne (tgt := 84) hx hb dX9_tongueBy_72 (by decide) (fun c_41 => ?_) (fun c_41 => ?_)
          · replace h := ifn_el c_41 h
            exact hj_84  _ _ _ h hP hD hS (lv_sub hl [2, 3, 4, 5] rfl)
          · replace h := ifp_el c_41 h
            refine lv_iload hx hb dX9_tongueBy_75 (lv_at hl 0 rfl) ?_
            refine lv_if_ne (tgt := 84) hx hb dX9_tongueBy_77 (by decide) (fun c_42 => ?_) (fun c_42 => ?_)
            · replace h := ifn_el c_42 h
              exact hj_84  _ _ _ h hP hD hS (lv_sub hl [2, 3, 4, 5] rfl)
            · replace h := ifp_el c_42 h
              refine lv_iconst (v := (nI 1)) hx hb dX9_tongueBy_80 (by decide) ?_
              refine lv_goto (tgt := 85) hx hb dX9_tongueBy_81 (by decide) ?_
              exact hj_85 _ _ _ _ h hP hD hS (lv_sub hl [2, 3, 4, 5] rfl)
        · replace h := ifp_el c_39 h
          refine lv_iload hx hb dX9_tongueBy_36 (lv_at hl 1 rfl) ?_
          have hj_58 : ∀  (H : Heap) (locs : List Loc) (ls : Array Slot), j_X9_tongueBy_58 v_l F x2_1 x3_2 y_one_3 y_two_4 y_ways_5 (lpg (T := Int32 → Int32 → (Nat → Int32) → (Nat → Int32) → (Nat → Int32) → Option (Int32 × (Nat → Int32) × (Nat → Int32) × (Nat → Int32))) (fun _ _ _ _ _ => none) (b_X9_tongueBy_4 p1 v_l v_stands F) n)  = some (o_6, o_7, o_8, o_9) → va_P D vwCl [(q_this, .inr (8, [.ref q_text, .int v_size, .int v_at, .ref q_read, .ref q_l, .ref q_stands, .ref q_kept, .int v_keptMany, .ref q_one, .ref q_two, .ref q_ways, .ref q_now, .ref q_then])), (q_l, .inl (ca 0, 336, .inl v_l)), (q_stands, .inl (ca 0, 16, .inl v_stands)), (q_one, .inl (ca 0, 7, .inl y_one_3)), (q_two, .inl (ca 0, 7, .inl y_two_4)), (q_ways, .inl (ca 0, 49, .inl y_ways_5))] H → va_D A [(q_this, .inr (8, [.ref q_text, .int v_size, .int v_at, .ref q_read, .ref q_l, .ref q_stands, .ref q_kept, .int v_keptMany, .ref q_one, .ref q_two, .ref q_ways, .ref q_now, .ref q_then])), (q_l, .inl (ca 0, 336, .inl v_l)), (q_stands, .inl (ca 0, 16, .inl v_stands)), (q_one, .inl (ca 0, 7, .inl y_one_3)), (q_two, .inl (ca 0, 7, .inl y_two_4)), (q_ways, .inl (ca 0, 49, .inl y_ways_5))] → va_S A s.heap H locs → lv_has ls 7 [(0, .ref q_this), (1, .int p1), (2, .int x2_1), (3, .int x3_2)] → W p l e (headSpec wsX9_tongueBy rm_X9_tongueBy).room s m args below meth c H locs 0 0 Q (F0 m 58 ls []) := by
            intro  H locs ls h hP hD hS hl
            rw [j_X9_tongueBy_58] at h
            refine lv_iconst (v := (nI 0)) hx hb dX9_tongueBy_58 (by decide) ?_
            refine lv_goto (tgt := 85) hx hb dX9_tongueBy_59 (by decide) ?_
            exact hj_85 _ _ _ _ h hP hD hS (lv_sub hl [0, 1, 2, 3] rfl)
          refine lv_if_ne (tgt := 58) hx hb dX9_tongueBy_38 (by decide) (fun c_43 => ?_) (fun c_43 => ?_)
          · replace h := ifn_el c_43 h
            exact hj_58  _ _ _ h hP hD hS (lv_sub hl [2, 3, 4, 5] rfl)
          · replace h := ifp_el c_43 h
            refine lv_iload hx hb dX9_tongueBy_41 (lv_at hl 0 rfl) ?_
            refine lv_aload_n hx hb dX9_tongueBy_43 rfl (lv_at hl 2 rfl) ?_
            refine va_get (D := D) (ci := 8) (v := .ref q_l) (C := RX9) (T := TX9) (N := 13) hx hb hts i_X9 hown hK hP 0 rfl rfl 4 (by decide) k_16 (fun _ h9 => h9) rfl dX9_tongueBy_44 ?_
            refine lv_sipush (v := (nI 299)) hx hb dX9_tongueBy_47 (by decide) ?_
            obtain ⟨hi_44, h⟩ := ck_el h
            refine va_iald hx hb hK hP 1 0 rfl rfl hi_44 dX9_tongueBy_50 ?_
            refine lv_icmp_ne (tgt := 58) hx hb dX9_tongueBy_51 (by decide) (fun c_45 => ?_) (fun c_45 => ?_)
            · replace h := ifn_el c_45 h
              exact hj_58  _ _ _ h hP hD hS (lv_sub hl [2, 3, 4, 5] rfl)
            · replace h := ifp_el c_45 h
              refine lv_iconst (v := (nI 1)) hx hb dX9_tongueBy_54 (by decide) ?_
              refine lv_goto (tgt := 85) hx hb dX9_tongueBy_55 (by decide) ?_
              exact hj_85 _ _ _ _ h hP hD hS (lv_sub hl [2, 3, 4, 5] rfl)
  exact hlp F (nI 0) (nI 0) v_one v_two v_ways o_6 o_7 o_8 o_9 s.heap [] ls hL hex hP hD hS (lv_sub hl [2, 3, 1, 0] rfl)
