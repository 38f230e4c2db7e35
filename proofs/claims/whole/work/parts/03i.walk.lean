def D_X10_wordAt (p1 : Int32) (p2 : Int32) : Option (Int32) := some (((nI 0) + ((nI 7) * (((nI 8) * p1) + p2))))
abbrev rm_X10_wordAt : Room := { frames := 0, cells := 0, slots := 0, locals := 0 }
set_option maxHeartbeats 4000000 in
set_option maxRecDepth 100000 in
theorem c_X10_wordAt (l : Launch) (D : va_G) (ca : Nat → ClassId) (sz : Nat) (p1 : Int32) (p2 : Int32) (r : Int32) (h : D_X10_wordAt p1 p2 = some (r)) : Met l yX10_wordAt wsX10_wordAt rm_X10_wordAt (va_Pc [.int p1, .int p2] (kPre D ca [] sz)) (kQi D ca (va_A [] sz) [] r) 0 0 (va_A [] sz) := by
  refine Met.ofW (cc := cX10_wordAt) (maxL := 2) (ret := (some .int)) (by decide +kernel) rfl ?_
  intro p e s m args below meth c s₁ B hml hv
  obtain ⟨rfl, hsz, hP, hK, hD0⟩ := hv
  have hx := B.exec
  have hb := B.bytes
  have hr := B.returns
  have hts := atoms_spec (ws := wsX10_wordAt) B.pre
  have hown : s.vm.findClass RX10 = some m.cls := findClass_of_methodNamed B.named
  have hlocks := B.notSynchronized
  clear B
  subst hsz
  have hD := hD0.self (sz := s.heap.size)
  generalize hAe : va_A [] s.heap.size = A at hD ⊢
  have hA : ∀ q : Nat, s.heap.size ≤ q → A q := fun q h => by rw [← hAe]; exact Or.inr h
  have hS : va_S A s.heap s.heap [] := va_S.rf
  have hl := lv_entry ([.int p1, .int p2]) (n := 2) (Nat.le_of_ble_eq_true rfl)
  rw [lg_entry_eq]
  generalize (lg_sl ([.int p1, .int p2]) ++ List.replicate (2 - (lg_sl ([.int p1, .int p2])).length) Slot.unset).toArray = ls at hl ⊢
  have hl : lv_has ls 2 [(0, .int p1), (1, .int p2)] := hl
  generalize ([.int p1, .int p2] : List Value).toArray = args at hts ⊢
  generalize hQe : MQ below (kQi D ca (A) [] r) args s 0 0 A = Q
  rw [D_X10_wordAt] at h
  refine lv_iconst (v := (nI 0)) hx hb dX10_wordAt_0 (by decide) ?_
  refine lv_bipush (v := (nI 7)) hx hb dX10_wordAt_1 (by decide) ?_
  refine lv_bipush (v := (nI 8)) hx hb dX10_wordAt_3 (by decide) ?_
  refine lv_iload_n hx hb dX10_wordAt_5 rfl (lv_at hl 0 rfl) ?_
  refine lv_imul hx hb dX10_wordAt_6 ?_
  refine lv_iload_n hx hb dX10_wordAt_7 rfl (lv_at hl 1 rfl) ?_
  refine lv_iadd hx hb dX10_wordAt_8 ?_
  refine lv_imul hx hb dX10_wordAt_9 ?_
  refine lv_iadd hx hb dX10_wordAt_10 ?_
  cases h
  rw [← hQe]
  exact W.iret hx hb hr (fun t ht hW => ⟨⟨_, (), rfl, rfl, by rw [ht]; exact hP, va_K.moved hW.alike hK, hD⟩, hS.F ht⟩) hS.2.2 dX10_wordAt_11
def D_X10_isTold (p1 : Int32) (v_l : Nat → Int32) : Option (Int32) := bd1 (D_X10_wordAt (nI 0) p1) (fun r_1 => ck 336 r_1 ((if (v_l r_1.toNatClampNeg) ≤ 0 then some ((nI 0)) else bd1 (D_X10_wordAt (nI 1) p1) (fun r_5 => ck 336 r_5 ((if (v_l r_5.toNatClampNeg) ≤ 0 then some ((nI 0)) else some ((nI 1))))))))
abbrev rm_X10_isTold : Room := { frames := 1, cells := 0, slots := 0, locals := 21 }
set_option maxHeartbeats 4000000 in
set_option maxRecDepth 100000 in
theorem c_X10_isTold (l : Launch) (D : va_G) (ca : Nat → ClassId) (sz : Nat) (q_this q_text q_read q_l q_stands q_kept q_one q_two q_ways q_now q_then : Nat) (p1 : Int32) (v_size : Int32) (v_at : Int32) (v_keptMany : Int32) (v_l : Nat → Int32) (r : Int32) (h : D_X10_isTold p1 v_l = some (r)) : Met l yX10_isTold wsX10_isTold rm_X10_isTold (va_Pc [.ref q_this, .int p1] (kPre D ca [(q_this, .inr (8, [.ref q_text, .int v_size, .int v_at, .ref q_read, .ref q_l, .ref q_stands, .ref q_kept, .int v_keptMany, .ref q_one, .ref q_two, .ref q_ways, .ref q_now, .ref q_then])), (q_l, .inl (ca 0, 336, .inl v_l))] sz)) (kQi D ca (va_A [(q_this, .inr (8, [.ref q_text, .int v_size, .int v_at, .ref q_read, .ref q_l, .ref q_stands, .ref q_kept, .int v_keptMany, .ref q_one, .ref q_two, .ref q_ways, .ref q_now, .ref q_then])), (q_l, .inl (ca 0, 336, .inl v_l))] sz) [(q_this, .inr (8, [.ref q_text, .int v_size, .int v_at, .ref q_read, .ref q_l, .ref q_stands, .ref q_kept, .int v_keptMany, .ref q_one, .ref q_two, .ref q_ways, .ref q_now, .ref q_then])), (q_l, .inl (ca 0, 336, .inl v_l))] r) 0 0 (va_A [(q_this, .inr (8, [.ref q_text, .int v_size, .int v_at, .ref q_read, .ref q_l, .ref q_stands, .ref q_kept, .int v_keptMany, .ref q_one, .ref q_two, .ref q_ways, .ref q_now, .ref q_then])), (q_l, .inl (ca 0, 336, .inl v_l))] sz) := by
  refine Met.ofW (cc := cX10_isTold) (maxL := 2) (ret := (some .boolean)) (by decide +kernel) rfl ?_
  intro p e s m args below meth c s₁ B hml hv
  obtain ⟨rfl, hsz, hP, hK, hD0⟩ := hv
  have hx := B.exec
  have hb := B.bytes
  have hr := B.returns
  have hts := atoms_spec (ws := wsX10_isTold) B.pre
  have hown : s.vm.findClass RX10 = some m.cls := findClass_of_methodNamed B.named
  have hlocks := B.notSynchronized
  clear B
  subst hsz
  have hD := hD0.self (sz := s.heap.size)
  generalize hAe : va_A [(q_this, .inr (8, [.ref q_text, .int v_size, .int v_at, .ref q_read, .ref q_l, .ref q_stands, .ref q_kept, .int v_keptMany, .ref q_one, .ref q_two, .ref q_ways, .ref q_now, .ref q_then])), (q_l, .inl (ca 0, 336, .inl v_l))] s.heap.size = A at hD ⊢
  have hA : ∀ q : Nat, s.heap.size ≤ q → A q := fun q h => by rw [← hAe]; exact Or.inr h
  have hS : va_S A s.heap s.heap [] := va_S.rf
  have hl := lv_entry ([.ref q_this, .int p1]) (n := 2) (Nat.le_of_ble_eq_true rfl)
  rw [lg_entry_eq]
  generalize (lg_sl ([.ref q_this, .int p1]) ++ List.replicate (2 - (lg_sl ([.ref q_this, .int p1])).length) Slot.unset).toArray = ls at hl ⊢
  have hl : lv_has ls 2 [(0, .ref q_this), (1, .int p1)] := hl
  generalize ([.ref q_this, .int p1] : List Value).toArray = args at hts ⊢
  generalize hQe : MQ below (kQi D ca (A) [(q_this, .inr (8, [.ref q_text, .int v_size, .int v_at, .ref q_read, .ref q_l, .ref q_stands, .ref q_kept, .int v_keptMany, .ref q_one, .ref q_two, .ref q_ways, .ref q_now, .ref q_then])), (q_l, .inl (ca 0, 336, .inl v_l))] r) args s 0 0 A = Q
  have i_X10 : ∀ w ∈ u_ws RX10 TX10 13, w ∈ wsX10_isTold := by decide +kernel
  have k_16 := hts (.fieldLink RX10 16 "TradeWordsModel" "l" "[I") (by decide +kernel)
  rw [D_X10_isTold] at h
  refine lv_aload_n hx hb dX10_isTold_0 rfl (lv_at hl 0 rfl) ?_
  refine va_get (D := D) (ci := 8) (v := .ref q_l) (C := RX10) (T := TX10) (N := 13) hx hb hts i_X10 hown hK hP 0 rfl rfl 4 (by decide) k_16 (fun _ h9 => h9) rfl dX10_isTold_1 ?_
  refine lv_iconst (v := (nI 0)) hx hb dX10_isTold_4 (by decide) ?_
  refine lv_iload_n hx hb dX10_isTold_5 rfl (lv_at hl 1 rfl) ?_
  obtain ⟨r_1, hg_2, h⟩ := bd1_el h
  refine kx_Si (As := [.int (nI 0), .int p1]) (rest := [.ref q_l]) (wr := [(q_this, .inr (8, [.ref q_text, .int v_size, .int v_at, .ref q_read, .ref q_l, .ref q_stands, .ref q_kept, .int v_keptMany, .ref q_one, .ref q_two, .ref q_ways, .ref q_now, .ref q_then])), (q_l, .inl (ca 0, 336, .inl v_l))]) (w1 := []) (wn := [(q_this, .inr (8, [.ref q_text, .int v_size, .int v_at, .ref q_read, .ref q_l, .ref q_stands, .ref q_kept, .int v_keptMany, .ref q_one, .ref q_two, .ref q_ways, .ref q_now, .ref q_then])), (q_l, .inl (ca 0, 336, .inl v_l))]) ⟨hx, hb, hml, hown, hts⟩ (c_X10_wordAt l D ca s.heap.size (nI 0) p1 r_1 hg_2) (va_cwS 2 hts gX10_isTold_X10_wordAt rfl rfl rfl (by decide +kernel) ⟨(Nat.le_of_ble_eq_true rfl), (Nat.le_of_ble_eq_true rfl)⟩) hK hP hD hS hA [] [0, 1] [0, 1] rfl rfl rfl rfl (by decide) rfl rfl rfl hl.1 rfl (Nat.le_of_ble_eq_true rfl) dX10_isTold_6 ⟨Nat.zero_le _, Nat.zero_le _⟩ (fun H locs hP hD hS => ?_)
  obtain ⟨hi_3, h⟩ := ck_el h
  refine va_iald hx hb hK hP 1 0 rfl rfl hi_3 dX10_isTold_9 ?_
  refine lv_if_le (tgt := 30) hx hb dX10_isTold_10 (by decide) (fun c_4 => ?_) (fun c_4 => ?_)
  · replace h := ifp_el c_4 h
    refine lv_iconst (v := (nI 0)) hx hb dX10_isTold_30 (by decide) ?_
    cases h
    rw [← hQe]
    exact W.zret hx hb hr rfl (fun t ht hW => ⟨⟨_, (), rfl, rfl, by rw [ht]; exact hP, va_K.moved hW.alike hK, hD⟩, hS.F ht⟩) hS.2.2 dX10_isTold_31
  · replace h := ifn_el c_4 h
    refine lv_aload_n hx hb dX10_isTold_13 rfl (lv_at hl 0 rfl) ?_
    refine va_get (D := D) (ci := 8) (v := .ref q_l) (C := RX10) (T := TX10) (N := 13) hx hb hts i_X10 hown hK hP 0 rfl rfl 4 (by decide) k_16 (fun _ h9 => h9) rfl dX10_isTold_14 ?_
    refine lv_iconst (v := (nI 1)) hx hb dX10_isTold_17 (by decide) ?_
    refine lv_iload_n hx hb dX10_isTold_18 rfl (lv_at hl 1 rfl) ?_
    obtain ⟨r_5, hg_6, h⟩ := bd1_el h
    refine kx_Si (As := [.int (nI 1), .int p1]) (rest := [.ref q_l]) (wr := [(q_this, .inr (8, [.ref q_text, .int v_size, .int v_at, .ref q_read, .ref q_l, .ref q_stands, .ref q_kept, .int v_keptMany, .ref q_one, .ref q_two, .ref q_ways, .ref q_now, .ref q_then])), (q_l, .inl (ca 0, 336, .inl v_l))]) (w1 := []) (wn := [(q_this, .inr (8, [.ref q_text, .int v_size, .int v_at, .ref q_read, .ref q_l, .ref q_stands, .ref q_kept, .int v_keptMany, .ref q_one, .ref q_two, .ref q_ways, .ref q_now, .ref q_then])), (q_l, .inl (ca 0, 336, .inl v_l))]) ⟨hx, hb, hml, hown, hts⟩ (c_X10_wordAt l D ca H.size (nI 1) p1 r_5 hg_6) (va_cwS 2 hts gX10_isTold_X10_wordAt rfl rfl rfl (by decide +kernel) ⟨(Nat.le_of_ble_eq_true rfl), (Nat.le_of_ble_eq_true rfl)⟩) hK hP hD hS hA [] [0, 1] [0, 1] rfl rfl rfl rfl (by decide) rfl rfl rfl hl.1 rfl (Nat.le_of_ble_eq_true rfl) dX10_isTold_19 ⟨Nat.zero_le _, Nat.zero_le _⟩ (fun H locs hP hD hS => ?_)
    obtain ⟨hi_7, h⟩ := ck_el h
    refine va_iald hx hb hK hP 1 0 rfl rfl hi_7 dX10_isTold_22 ?_
    refine lv_if_le (tgt := 30) hx hb dX10_isTold_23 (by decide) (fun c_8 => ?_) (fun c_8 => ?_)
    · replace h := ifp_el c_8 h
      refine lv_iconst (v := (nI 0)) hx hb dX10_isTold_30 (by decide) ?_
      cases h
      rw [← hQe]
      exact W.zret hx hb hr rfl (fun t ht hW => ⟨⟨_, (), rfl, rfl, by rw [ht]; exact hP, va_K.moved hW.alike hK, hD⟩, hS.F ht⟩) hS.2.2 dX10_isTold_31
    · replace h := ifn_el c_8 h
      refine lv_iconst (v := (nI 1)) hx hb dX10_isTold_26 (by decide) ?_
      refine lv_goto (tgt := 31) hx hb dX10_isTold_27 (by decide) ?_
      cases h
      rw [← hQe]
      exact W.zret hx hb hr rfl (fun t ht hW => ⟨⟨_, (), rfl, rfl, by rw [ht]; exact hP, va_K.moved hW.alike hK, hD⟩, hS.F ht⟩) hS.2.2 dX10_isTold_31
def b_X10_toldSet_4 (v_l : Nat → Int32) (rec4 : Int32 → Int32 → Option (Int32)) (x1_1 : Int32) (x2_2 : Int32) : Option (Int32) := (if (nI 8) ≤ x2_2 then some (x1_1) else bd1 (D_X10_isTold x2_2 v_l) (fun r_5 => (if r_5 = 0 then nm (x1_1 ||| (nI 0)) (fun x1_8 => nm (x2_2 + (nI 1)) (fun x2_9 => rec4 x1_8 x2_9)) else nm (x1_1 ||| ((nI 1) <<< (x2_2 &&& 31))) (fun x1_11 => nm (x2_2 + (nI 1)) (fun x2_12 => rec4 x1_11 x2_12)))))
def D_X10_toldSet (F : Nat) (v_l : Nat → Int32) : Option (Int32) := bd1 (lpg (T := Int32 → Int32 → Option (Int32)) (fun _ _ => none) (b_X10_toldSet_4 v_l) F (nI 0) (nI 0)) (fun o_3 => some (o_3))
abbrev rm_X10_toldSet : Room := { frames := 2, cells := 0, slots := 0, locals := 42 }
set_option maxHeartbeats 4000000 in
set_option maxRecDepth 100000 in
theorem c_X10_toldSet (l : Launch) (D : va_G) (ca : Nat → ClassId) (F : Nat) (sz : Nat) (q_this q_text q_read q_l q_stands q_kept q_one q_two q_ways q_now q_then : Nat) (v_size : Int32) (v_at : Int32) (v_keptMany : Int32) (v_l : Nat → Int32) (r : Int32) (h : D_X10_toldSet F v_l = some (r)) : Met l yX10_toldSet wsX10_toldSet rm_X10_toldSet (va_Pc [.ref q_this] (kPre D ca [(q_this, .inr (8, [.ref q_text, .int v_size, .int v_at, .ref q_read, .ref q_l, .ref q_stands, .ref q_kept, .int v_keptMany, .ref q_one, .ref q_two, .ref q_ways, .ref q_now, .ref q_then])), (q_l, .inl (ca 0, 336, .inl v_l))] sz)) (kQi D ca (va_A [(q_this, .inr (8, [.ref q_text, .int v_size, .int v_at, .ref q_read, .ref q_l, .ref q_stands, .ref q_kept, .int v_keptMany, .ref q_one, .ref q_two, .ref q_ways, .ref q_now, .ref q_then])), (q_l, .inl (ca 0, 336, .inl v_l))] sz) [(q_this, .inr (8, [.ref q_text, .int v_size, .int v_at, .ref q_read, .ref q_l, .ref q_stands, .ref q_kept, .int v_keptMany, .ref q_one, .ref q_two, .ref q_ways, .ref q_now, .ref q_then])), (q_l, .inl (ca 0, 336, .inl v_l))] r) 0 0 (va_A [(q_this, .inr (8, [.ref q_text, .int v_size, .int v_at, .ref q_read, .ref q_l, .ref q_stands, .ref q_kept, .int v_keptMany, .ref q_one, .ref q_two, .ref q_ways, .ref q_now, .ref q_then])), (q_l, .inl (ca 0, 336, .inl v_l))] sz) := by
  refine Met.ofW (cc := cX10_toldSet) (maxL := 3) (ret := (some .int)) (by decide +kernel) rfl ?_
  intro p e s m args below meth c s₁ B hml hv
  obtain ⟨rfl, hsz, hP, hK, hD0⟩ := hv
  have hx := B.exec
  have hb := B.bytes
  have hr := B.returns
  have hts := atoms_spec (ws := wsX10_toldSet) B.pre
  have hown : s.vm.findClass RX10 = some m.cls := findClass_of_methodNamed B.named
  have hlocks := B.notSynchronized
  clear B
  subst hsz
  have hD := hD0.self (sz := s.heap.size)
  generalize hAe : va_A [(q_this, .inr (8, [.ref q_text, .int v_size, .int v_at, .ref q_read, .ref q_l, .ref q_stands, .ref q_kept, .int v_keptMany, .ref q_one, .ref q_two, .ref q_ways, .ref q_now, .ref q_then])), (q_l, .inl (ca 0, 336, .inl v_l))] s.heap.size = A at hD ⊢
  have hA : ∀ q : Nat, s.heap.size ≤ q → A q := fun q h => by rw [← hAe]; exact Or.inr h
  have hS : va_S A s.heap s.heap [] := va_S.rf
  have hl := lv_entry ([.ref q_this]) (n := 3) (Nat.le_of_ble_eq_true rfl)
  rw [lg_entry_eq]
  generalize (lg_sl ([.ref q_this]) ++ List.replicate (3 - (lg_sl ([.ref q_this])).length) Slot.unset).toArray = ls at hl ⊢
  have hl : lv_has ls 3 [(0, .ref q_this)] := hl
  generalize ([.ref q_this] : List Value).toArray = args at hts ⊢
  generalize hQe : MQ below (kQi D ca (A) [(q_this, .inr (8, [.ref q_text, .int v_size, .int v_at, .ref q_read, .ref q_l, .ref q_stands, .ref q_kept, .int v_keptMany, .ref q_one, .ref q_two, .ref q_ways, .ref q_now, .ref q_then])), (q_l, .inl (ca 0, 336, .inl v_l))] r) args s 0 0 A = Q
  rw [D_X10_toldSet] at h
  refine lv_iconst (v := (nI 0)) hx hb dX10_toldSet_0 (by decide) ?_
  refine lv_istore_n (lv' := [(1, .int (nI 0)), (0, .ref q_this)]) hx hb dX10_toldSet_1 rfl hl (by decide) rfl (fun ls hl => ?_)
  refine lv_iconst (v := (nI 0)) hx hb dX10_toldSet_2 (by decide) ?_
  refine lv_istore_n (lv' := [(2, .int (nI 0)), (1, .int (nI 0)), (0, .ref q_this)]) hx hb dX10_toldSet_3 rfl hl (by decide) rfl (fun ls hl => ?_)
  obtain ⟨o_3, hL, h⟩ := bd1_el h
  have hex : ∀ (H : Heap) (locs : List Loc) (ls : Array Slot), va_P D vwCl [(q_this, .inr (8, [.ref q_text, .int v_size, .int v_at, .ref q_read, .ref q_l, .ref q_stands, .ref q_kept, .int v_keptMany, .ref q_one, .ref q_two, .ref q_ways, .ref q_now, .ref q_then])), (q_l, .inl (ca 0, 336, .inl v_l))] H → va_D A [(q_this, .inr (8, [.ref q_text, .int v_size, .int v_at, .ref q_read, .ref q_l, .ref q_stands, .ref q_kept, .int v_keptMany, .ref q_one, .ref q_two, .ref q_ways, .ref q_now, .ref q_then])), (q_l, .inl (ca 0, 336, .inl v_l))] → va_S A s.heap H locs → lv_has ls 3 [(1, .int o_3)] → W p l e (headSpec wsX10_toldSet rm_X10_toldSet).room s m args below meth c H locs 0 0 Q (F0 m 34 ls []) := by
    intro H locs ls hP hD hS hl
    refine lv_iload_n hx hb dX10_toldSet_34 rfl (lv_at hl 0 rfl) ?_
    cases h
    rw [← hQe]
    exact W.iret hx hb hr (fun t ht hW => ⟨⟨_, (), rfl, rfl, by rw [ht]; exact hP, va_K.moved hW.alike hK, hD⟩, hS.F ht⟩) hS.2.2 dX10_toldSet_35
  have hlp : ∀ (n : Nat) (x1_1 : Int32) (x2_2 : Int32) (o_3 : Int32) (H : Heap) (locs : List Loc) (ls : Array Slot), lpg (T := Int32 → Int32 → Option (Int32)) (fun _ _ => none) (b_X10_toldSet_4 v_l) n x1_1 x2_2 = some (o_3) → (∀ (H : Heap) (locs : List Loc) (ls : Array Slot), va_P D vwCl [(q_this, .inr (8, [.ref q_text, .int v_size, .int v_at, .ref q_read, .ref q_l, .ref q_stands, .ref q_kept, .int v_keptMany, .ref q_one, .ref q_two, .ref q_ways, .ref q_now, .ref q_then])), (q_l, .inl (ca 0, 336, .inl v_l))] H → va_D A [(q_this, .inr (8, [.ref q_text, .int v_size, .int v_at, .ref q_read, .ref q_l, .ref q_stands, .ref q_kept, .int v_keptMany, .ref q_one, .ref q_two, .ref q_ways, .ref q_now, .ref q_then])), (q_l, .inl (ca 0, 336, .inl v_l))] → va_S A s.heap H locs → lv_has ls 3 [(1, .int o_3)] → W p l e (headSpec wsX10_toldSet rm_X10_toldSet).room s m args below meth c H locs 0 0 Q (F0 m 34 ls [])) → va_P D vwCl [(q_this, .inr (8, [.ref q_text, .int v_size, .int v_at, .ref q_read, .ref q_l, .ref q_stands, .ref q_kept, .int v_keptMany, .ref q_one, .ref q_two, .ref q_ways, .ref q_now, .ref q_then])), (q_l, .inl (ca 0, 336, .inl v_l))] H → va_D A [(q_this, .inr (8, [.ref q_text, .int v_size, .int v_at, .ref q_read, .ref q_l, .ref q_stands, .ref q_kept, .int v_keptMany, .ref q_one, .ref q_two, .ref q_ways, .ref q_now, .ref q_then])), (q_l, .inl (ca 0, 336, .inl v_l))] → va_S A s.heap H locs → lv_has ls 3 [(0, .ref q_this), (1, .int x1_1), (2, .int x2_2)] → W p l e (headSpec wsX10_toldSet rm_X10_toldSet).room s m args below meth c H locs 0 0 Q (F0 m 4 ls []) := by
    intro n
    induction n with
    | zero => intro x1_1 x2_2 o_3 H locs ls h; have h : (none : Option (Int32)) = some _ := h; cases h
    | succ n ih =>
      intro x1_1 x2_2 o_3 H locs ls h hex hP hD hS hl
      rw [lpg_succ, b_X10_toldSet_4] at h
      refine lv_iload_n hx hb dX10_toldSet_4 rfl (lv_at hl 2 rfl) ?_
      refine lv_bipush (v := (nI 8)) hx hb dX10_toldSet_5 (by decide) ?_
      refine lv_icmp_ge (tgt := 34) hx hb dX10_toldSet_7 (by decide) (fun c_4 => ?_) (fun c_4 => ?_)
      · replace h := ifp_el c_4 h
        cases h
        exact hex _ _ _ hP hD hS (lv_sub hl [1] rfl)
      · replace h := ifn_el c_4 h
        refine lv_iload_n hx hb dX10_toldSet_10 rfl (lv_at hl 1 rfl) ?_
        refine lv_aload_n hx hb dX10_toldSet_11 rfl (lv_at hl 0 rfl) ?_
        refine lv_iload_n hx hb dX10_toldSet_12 rfl (lv_at hl 2 rfl) ?_
        obtain ⟨r_5, hg_6, h⟩ := bd1_el h
        refine kx_Vi (As := [.int x2_2]) (rest := [.int x1_1]) (wr := []) (w1 := [(q_this, .inr (8, [.ref q_text, .int v_size, .int v_at, .ref q_read, .ref q_l, .ref q_stands, .ref q_kept, .int v_keptMany, .ref q_one, .ref q_two, .ref q_ways, .ref q_now, .ref q_then])), (q_l, .inl (ca 0, 336, .inl v_l))]) (wn := [(q_this, .inr (8, [.ref q_text, .int v_size, .int v_at, .ref q_read, .ref q_l, .ref q_stands, .ref q_kept, .int v_keptMany, .ref q_one, .ref q_two, .ref q_ways, .ref q_now, .ref q_then])), (q_l, .inl (ca 0, 336, .inl v_l))]) ⟨hx, hb, hml, hown, hts⟩ (c_X10_isTold l D ca H.size q_this q_text q_read q_l q_stands q_kept q_one q_two q_ways q_now q_then x2_2 v_size v_at v_keptMany v_l r_5 hg_6) (cwV 1 hts gX10_toldSet_X10_isTold rfl rfl rfl (by decide +kernel) ⟨(Nat.le_of_ble_eq_true rfl), (Nat.le_of_ble_eq_true rfl)⟩) hK hP hD hS hA (ci := 8) (q0 := 0) rfl rfl [0, 1] [] [0, 1] rfl rfl rfl rfl (by decide) rfl rfl rfl hl.1 rfl (Nat.le_of_ble_eq_true rfl) dX10_toldSet_13 ⟨Nat.zero_le _, Nat.zero_le _⟩ (fun H locs hP hD hS => ?_)
        refine lv_if_eq (tgt := 25) hx hb dX10_toldSet_16 (by decide) (fun c_7 => ?_) (fun c_7 => ?_)
        · replace h := ifp_el c_7 h
          refine lv_iconst (v := (nI 0)) hx hb dX10_toldSet_25 (by decide) ?_
          refine lv_ior hx hb dX10_toldSet_26 ?_
          refine lv_nmi h (fun x1_8 h => ?_)
          refine lv_istore_n (lv' := [(1, .int x1_8), (0, .ref q_this), (2, .int x2_2)]) hx hb dX10_toldSet_27 rfl hl (by decide) rfl (fun ls hl => ?_)
          obtain ⟨x2_9, e_10, h⟩ := nm_el h
          refine lv_iinc (v := x2_9) (lv' := [(2, .int x2_9), (1, .int x1_8), (0, .ref q_this)]) hx hb dX10_toldSet_28 hl (k := 2) rfl (by rw [← e_10]; rfl) (by decide) rfl (fun ls hl => ?_)
          refine lv_goto (tgt := 4) hx hb dX10_toldSet_31 (by decide) ?_
          exact ih _ _ _ _ _ _ h hex hP hD hS (lv_sub hl [2, 1, 0] rfl)
        · replace h := ifn_el c_7 h
          refine lv_iconst (v := (nI 1)) hx hb dX10_toldSet_19 (by decide) ?_
          refine lv_iload_n hx hb dX10_toldSet_20 rfl (lv_at hl 2 rfl) ?_
          refine lv_ishl hx hb dX10_toldSet_21 ?_
          refine lv_goto (tgt := 26) hx hb dX10_toldSet_22 (by decide) ?_
          refine lv_ior hx hb dX10_toldSet_26 ?_
          refine lv_nmi h (fun x1_11 h => ?_)
          refine lv_istore_n (lv' := [(1, .int x1_11), (0, .ref q_this), (2, .int x2_2)]) hx hb dX10_toldSet_27 rfl hl (by decide) rfl (fun ls hl => ?_)
          obtain ⟨x2_12, e_13, h⟩ := nm_el h
          refine lv_iinc (v := x2_12) (lv' := [(2, .int x2_12), (1, .int x1_11), (0, .ref q_this)]) hx hb dX10_toldSet_28 hl (k := 2) rfl (by rw [← e_13]; rfl) (by decide) rfl (fun ls hl => ?_)
          refine lv_goto (tgt := 4) hx hb dX10_toldSet_31 (by decide) ?_
          exact ih _ _ _ _ _ _ h hex hP hD hS (lv_sub hl [2, 1, 0] rfl)
  exact hlp F (nI 0) (nI 0) o_3 s.heap [] ls hL hex hP hD hS (lv_sub hl [2, 1, 0] rfl)
def b_X10_ones_4  (rec4 : Int32 → Int32 → Option (Int32)) (x1_1 : Int32) (x2_2 : Int32) : Option (Int32) := (if x2_2 = 0 then some (x1_1) else nm (x1_1 + (nI 1)) (fun x1_5 => nm (x2_2 &&& (x2_2 - (nI 1))) (fun x2_7 => rec4 x1_5 x2_7)))
def D_X10_ones (F : Nat) (p1 : Int32) : Option (Int32) := bd1 (lpg (T := Int32 → Int32 → Option (Int32)) (fun _ _ => none) (b_X10_ones_4) F (nI 0) p1) (fun o_3 => some (o_3))
abbrev rm_X10_ones : Room := { frames := 0, cells := 0, slots := 0, locals := 0 }
set_option maxHeartbeats 4000000 in
set_option maxRecDepth 100000 in
theorem c_X10_ones (l : Launch) (D : va_G) (ca : Nat → ClassId) (F : Nat) (sz : Nat) (p1 : Int32) (r : Int32) (h : D_X10_ones F p1 = some (r)) : Met l yX10_ones wsX10_ones rm_X10_ones (va_Pc [.int p1] (kPre D ca [] sz)) (kQi D ca (va_A [] sz) [] r) 0 0 (va_A [] sz) := by
  refine Met.ofW (cc := cX10_ones) (maxL := 3) (ret := (some .int)) (by decide +kernel) rfl ?_
  intro p e s m args below meth c s₁ B hml hv
  obtain ⟨rfl, hsz, hP, hK, hD0⟩ := hv
  have hx := B.exec
  have hb := B.bytes
  have hr := B.returns
  have hts := atoms_spec (ws := wsX10_ones) B.pre
  have hown : s.vm.findClass RX10 = some m.cls := findClass_of_methodNamed B.named
  have hlocks := B.notSynchronized
  clear B
  subst hsz
  have hD := hD0.self (sz := s.heap.size)
  generalize hAe : va_A [] s.heap.size = A at hD ⊢
  have hA : ∀ q : Nat, s.heap.size ≤ q → A q := fun q h => by rw [← hAe]; exact Or.inr h
  have hS : va_S A s.heap s.heap [] := va_S.rf
  have hl := lv_entry ([.int p1]) (n := 3) (Nat.le_of_ble_eq_true rfl)
  rw [lg_entry_eq]
  generalize (lg_sl ([.int p1]) ++ List.replicate (3 - (lg_sl ([.int p1])).length) Slot.unset).toArray = ls at hl ⊢
  have hl : lv_has ls 3 [(0, .int p1)] := hl
  generalize ([.int p1] : List Value).toArray = args at hts ⊢
  generalize hQe : MQ below (kQi D ca (A) [] r) args s 0 0 A = Q
  rw [D_X10_ones] at h
  refine lv_iconst (v := (nI 0)) hx hb dX10_ones_0 (by decide) ?_
  refine lv_istore_n (lv' := [(1, .int (nI 0)), (0, .int p1)]) hx hb dX10_ones_1 rfl hl (by decide) rfl (fun ls hl => ?_)
  refine lv_iload_n hx hb dX10_ones_2 rfl (lv_at hl 1 rfl) ?_
  refine lv_istore_n (lv' := [(2, .int p1), (1, .int (nI 0)), (0, .int p1)]) hx hb dX10_ones_3 rfl hl (by decide) rfl (fun ls hl => ?_)
  obtain ⟨o_3, hL, h⟩ := bd1_el h
  have hex : ∀ (H : Heap) (locs : List Loc) (ls : Array Slot), va_P D vwCl [] H → va_D A [] → va_S A s.heap H locs → lv_has ls 3 [(1, .int o_3)] → W p l e (headSpec wsX10_ones rm_X10_ones).room s m args below meth c H locs 0 0 Q (F0 m 20 ls []) := by
    intro H locs ls hP hD hS hl
    refine lv_iload_n hx hb dX10_ones_20 rfl (lv_at hl 0 rfl) ?_
    cases h
    rw [← hQe]
    exact W.iret hx hb hr (fun t ht hW => ⟨⟨_, (), rfl, rfl, by rw [ht]; exact hP, va_K.moved hW.alike hK, hD⟩, hS.F ht⟩) hS.2.2 dX10_ones_21
  have hlp : ∀ (n : Nat) (x1_1 : Int32) (x2_2 : Int32) (o_3 : Int32) (H : Heap) (locs : List Loc) (ls : Array Slot), lpg (T := Int32 → Int32 → Option (Int32)) (fun _ _ => none) (b_X10_ones_4) n x1_1 x2_2 = some (o_3) → (∀ (H : Heap) (locs : List Loc) (ls : Array Slot), va_P D vwCl [] H → va_D A [] → va_S A s.heap H locs → lv_has ls 3 [(1, .int o_3)] → W p l e (headSpec wsX10_ones rm_X10_ones).room s m args below meth c H locs 0 0 Q (F0 m 20 ls [])) → va_P D vwCl [] H → va_D A [] → va_S A s.heap H locs → lv_has ls 3 [(1, .int x1_1), (2, .int x2_2)] → W p l e (headSpec wsX10_ones rm_X10_ones).room s m args below meth c H locs 0 0 Q (F0 m 4 ls []) := by
    intro n
    induction n with
    | zero => intro x1_1 x2_2 o_3 H locs ls h; have h : (none : Option (Int32)) = some _ := h; cases h
    | succ n ih =>
      intro x1_1 x2_2 o_3 H locs ls h hex hP hD hS hl
      rw [lpg_succ, b_X10_ones_4] at h
      refine lv_iload_n hx hb dX10_ones_4 rfl (lv_at hl 1 rfl) ?_
      refine lv_if_eq (tgt := 20) hx hb dX10_ones_5 (by decide) (fun c_4 => ?_) (fun c_4 => ?_)
      · replace h := ifp_el c_4 h
        cases h
        exact hex _ _ _ hP hD hS (lv_sub hl [0] rfl)
      · replace h := ifn_el c_4 h
        obtain ⟨x1_5, e_6, h⟩ := nm_el h
        refine lv_iinc (v := x1_5) (lv' := [(1, .int x1_5), (2, .int x2_2)]) hx hb dX10_ones_8 hl (k := 0) rfl (by rw [← e_6]; rfl) (by decide) rfl (fun ls hl => ?_)
        refine lv_iload_n hx hb dX10_ones_11 rfl (lv_at hl 1 rfl) ?_
        refine lv_iload_n hx hb dX10_ones_12 rfl (lv_at hl 1 rfl) ?_
        refine lv_iconst (v := (nI 1)) hx hb dX10_ones_13 (by decide) ?_
        refine lv_isub hx hb dX10_ones_14 ?_
        refine lv_iand hx hb dX10_ones_15 ?_
        refine lv_nmi h (fun x2_7 h => ?_)
        refine lv_istore_n (lv' := [(2, .int x2_7), (1, .int x1_5)]) hx hb dX10_ones_16 rfl hl (by decide) rfl (fun ls hl => ?_)
        refine lv_goto (tgt := 4) hx hb dX10_ones_17 (by decide) ?_
        exact ih _ _ _ _ _ _ h hex hP hD hS (lv_sub hl [1, 0] rfl)
  exact hlp F (nI 0) p1 o_3 s.heap [] ls hL hex hP hD hS (lv_sub hl [1, 0] rfl)
def b_X10_lay_21  (rec21 : Int32 → (Nat → Int32) → Option ((Nat → Int32))) (x1_8 : Int32) (y_stands_9 : Nat → Int32) : Option ((Nat → Int32)) := (if (nI 16) ≤ x1_8 then some (y_stands_9) else ck 16 x1_8 (nm (x1_8 + (nI 1)) (fun x1_13 => rec21 x1_13 (upd y_stands_9 x1_8.toNatClampNeg (nI 0)))))
def D_X10_lay (F : Nat) (v_size : Int32) (v_at : Int32) (v_keptMany : Int32) (v_text : Nat → Int32) (v_read : Nat → Int32) (v_l : Nat → Int32) (v_stands : Nat → Int32) : Option (Int32 × Int32 × Int32 × (Nat → Int32) × (Nat → Int32) × (Nat → Int32)) := bd3 (D_X10_fault F v_size v_at v_text v_read) (fun r_1 y_at_2 y_read_3 => (if r_1 < 0 then bd1 (D_X10_layRead F y_read_3 v_l) (fun y_l_6 => bd1 (lpg (T := Int32 → (Nat → Int32) → Option ((Nat → Int32))) (fun _ _ => none) (b_X10_lay_21) F (nI 0) v_stands) (fun o_10 => bd1 (D_X10_toldSet F y_l_6) (fun r_15 => bd1 (D_X10_ones F r_15) (fun r_17 => some (r_17, y_at_2, (nI 0), y_read_3, y_l_6, o_10))))) else some ((-2 : Int32), y_at_2, v_keptMany, y_read_3, v_l, v_stands)))
abbrev rm_X10_lay : Room := { frames := 6, cells := 0, slots := 0, locals := 135 }
set_option maxHeartbeats 4000000 in
set_option maxRecDepth 100000 in
theorem c_X10_lay (l : Launch) (D : va_G) (ca : Nat → ClassId) (F : Nat) (sz : Nat) (q_this q_text q_read q_l q_stands q_kept q_one q_two q_ways q_now q_then : Nat) (v_size : Int32) (v_at : Int32) (v_keptMany : Int32) (v_text : Nat → Int32) (v_read : Nat → Int32) (v_l : Nat → Int32) (v_stands : Nat → Int32) (r : Int32) (o_at : Int32) (o_keptMany : Int32) (o_read : Nat → Int32) (o_l : Nat → Int32) (o_stands : Nat → Int32) (h : D_X10_lay F v_size v_at v_keptMany v_text v_read v_l v_stands = some (r, o_at, o_keptMany, o_read, o_l, o_stands)) : Met l yX10_lay wsX10_lay rm_X10_lay (va_Pc [.ref q_this] (kPre D ca [(q_this, .inr (8, [.ref q_text, .int v_size, .int v_at, .ref q_read, .ref q_l, .ref q_stands, .ref q_kept, .int v_keptMany, .ref q_one, .ref q_two, .ref q_ways, .ref q_now, .ref q_then])), (q_text, .inl (ca 0, 500, .inl v_text)), (q_read, .inl (ca 0, 336, .inl v_read)), (q_l, .inl (ca 0, 336, .inl v_l)), (q_stands, .inl (ca 0, 16, .inl v_stands))] sz)) (kQi D ca (va_A [(q_this, .inr (8, [.ref q_text, .int v_size, .int v_at, .ref q_read, .ref q_l, .ref q_stands, .ref q_kept, .int v_keptMany, .ref q_one, .ref q_two, .ref q_ways, .ref q_now, .ref q_then])), (q_text, .inl (ca 0, 500, .inl v_text)), (q_read, .inl (ca 0, 336, .inl v_read)), (q_l, .inl (ca 0, 336, .inl v_l)), (q_stands, .inl (ca 0, 16, .inl v_stands))] sz) [(q_this, .inr (8, [.ref q_text, .int v_size, .int o_at, .ref q_read, .ref q_l, .ref q_stands, .ref q_kept, .int o_keptMany, .ref q_one, .ref q_two, .ref q_ways, .ref q_now, .ref q_then])), (q_text, .inl (ca 0, 500, .inl v_text)), (q_read, .inl (ca 0, 336, .inl o_read)), (q_l, .inl (ca 0, 336, .inl o_l)), (q_stands, .inl (ca 0, 16, .inl o_stands))] r) 0 0 (va_A [(q_this, .inr (8, [.ref q_text, .int v_size, .int v_at, .ref q_read, .ref q_l, .ref q_stands, .ref q_kept, .int v_keptMany, .ref q_one, .ref q_two, .ref q_ways, .ref q_now, .ref q_then])), (q_text, .inl (ca 0, 500, .inl v_text)), (q_read, .inl (ca 0, 336, .inl v_read)), (q_l, .inl (ca 0, 336, .inl v_l)), (q_stands, .inl (ca 0, 16, .inl v_stands))] sz) := by
  refine Met.ofW (cc := cX10_lay) (maxL := 2) (ret := (some .int)) (by decide +kernel) rfl ?_
  intro p e s m args below meth c s₁ B hml hv
  obtain ⟨rfl, hsz, hP, hK, hD0⟩ := hv
  have hx := B.exec
  have hb := B.bytes
  have hr := B.returns
  have hts := atoms_spec (ws := wsX10_lay) B.pre
  have hown : s.vm.findClass RX10 = some m.cls := findClass_of_methodNamed B.named
  have hlocks := B.notSynchronized
  clear B
  subst hsz
  have hD := hD0.self (sz := s.heap.size)
  generalize hAe : va_A [(q_this, .inr (8, [.ref q_text, .int v_size, .int v_at, .ref q_read, .ref q_l, .ref q_stands, .ref q_kept, .int v_keptMany, .ref q_one, .ref q_two, .ref q_ways, .ref q_now, .ref q_then])), (q_text, .inl (ca 0, 500, .inl v_text)), (q_read, .inl (ca 0, 336, .inl v_read)), (q_l, .inl (ca 0, 336, .inl v_l)), (q_stands, .inl (ca 0, 16, .inl v_stands))] s.heap.size = A at hD ⊢
  have hA : ∀ q : Nat, s.heap.size ≤ q → A q := fun q h => by rw [← hAe]; exact Or.inr h
  have hS : va_S A s.heap s.heap [] := va_S.rf
  have hl := lv_entry ([.ref q_this]) (n := 2) (Nat.le_of_ble_eq_true rfl)
  rw [lg_entry_eq]
  generalize (lg_sl ([.ref q_this]) ++ List.replicate (2 - (lg_sl ([.ref q_this])).length) Slot.unset).toArray = ls at hl ⊢
  have hl : lv_has ls 2 [(0, .ref q_this)] := hl
  generalize ([.ref q_this] : List Value).toArray = args at hts ⊢
  generalize hQe : MQ below (kQi D ca (A) [(q_this, .inr (8, [.ref q_text, .int v_size, .int o_at, .ref q_read, .ref q_l, .ref q_stands, .ref q_kept, .int o_keptMany, .ref q_one, .ref q_two, .ref q_ways, .ref q_now, .ref q_then])), (q_text, .inl (ca 0, 500, .inl v_text)), (q_read, .inl (ca 0, 336, .inl o_read)), (q_l, .inl (ca 0, 336, .inl o_l)), (q_stands, .inl (ca 0, 16, .inl o_stands))] r) args s 0 0 A = Q
  have i_X10 : ∀ w ∈ u_ws RX10 TX10 13, w ∈ wsX10_lay := by decide +kernel
  have k_119 := hts (.fieldLink RX10 119 "TradeWordsModel" "keptMany" "I") (by decide +kernel)
  have k_19 := hts (.fieldLink RX10 19 "TradeWordsModel" "stands" "[I") (by decide +kernel)
  rw [D_X10_lay] at h
  refine lv_aload_n hx hb dX10_lay_0 rfl (lv_at hl 0 rfl) ?_
  obtain ⟨r_1, y_at_2, y_read_3, hg_4, h⟩ := bd3_el h
  refine kx_Vi (As := []) (rest := []) (wr := [(q_l, .inl (ca 0, 336, .inl v_l)), (q_stands, .inl (ca 0, 16, .inl v_stands))]) (w1 := [(q_this, .inr (8, [.ref q_text, .int v_size, .int y_at_2, .ref q_read, .ref q_l, .ref q_stands, .ref q_kept, .int v_keptMany, .ref q_one, .ref q_two, .ref q_ways, .ref q_now, .ref q_then])), (q_text, .inl (ca 0, 500, .inl v_text)), (q_read, .inl (ca 0, 336, .inl y_read_3))]) (wn := [(q_this, .inr (8, [.ref q_text, .int v_size, .int y_at_2, .ref q_read, .ref q_l, .ref q_stands, .ref q_kept, .int v_keptMany, .ref q_one, .ref q_two, .ref q_ways, .ref q_now, .ref q_then])), (q_text, .inl (ca 0, 500, .inl v_text)), (q_read, .inl (ca 0, 336, .inl y_read_3)), (q_l, .inl (ca 0, 336, .inl v_l)), (q_stands, .inl (ca 0, 16, .inl v_stands))]) ⟨hx, hb, hml, hown, hts⟩ (c_X10_fault l D ca F s.heap.size q_this q_text q_read q_l q_stands q_kept q_one q_two q_ways q_now q_then v_size v_at v_keptMany v_text v_read r_1 y_at_2 y_read_3 hg_4) (cwV 0 hts gX10_lay_X10_fault rfl rfl rfl (by decide +kernel) ⟨(Nat.le_of_ble_eq_true rfl), (Nat.le_of_ble_eq_true rfl)⟩) hK hP hD hS hA (ci := 8) (q0 := 0) rfl rfl [0, 1, 2] [3, 4] [2, 3, 4, 0, 1] rfl rfl rfl rfl (by decide) rfl rfl rfl hl.1 rfl (Nat.le_of_ble_eq_true rfl) dX10_lay_1 ⟨Nat.zero_le _, Nat.zero_le _⟩ (fun H locs hP hD hS => ?_)
  refine lv_if_lt (tgt := 10) hx hb dX10_lay_4 (by decide) (fun c_5 => ?_) (fun c_5 => ?_)
  · replace h := ifp_el c_5 h
    refine lv_aload_n hx hb dX10_lay_10 rfl (lv_at hl 0 rfl) ?_
    obtain ⟨y_l_6, hg_7, h⟩ := bd1_el h
    refine kx_Vv (As := []) (rest := []) (wr := [(q_text, .inl (ca 0, 500, .inl v_text)), (q_stands, .inl (ca 0, 16, .inl v_stands))]) (w1 := [(q_this, .inr (8, [.ref q_text, .int v_size, .int y_at_2, .ref q_read, .ref q_l, .ref q_stands, .ref q_kept, .int v_keptMany, .ref q_one, .ref q_two, .ref q_ways, .ref q_now, .ref q_then])), (q_read, .inl (ca 0, 336, .inl y_read_3)), (q_l, .inl (ca 0, 336, .inl y_l_6))]) (wn := [(q_this, .inr (8, [.ref q_text, .int v_size, .int y_at_2, .ref q_read, .ref q_l, .ref q_stands, .ref q_kept, .int v_keptMany, .ref q_one, .ref q_two, .ref q_ways, .ref q_now, .ref q_then])), (q_text, .inl (ca 0, 500, .inl v_text)), (q_read, .inl (ca 0, 336, .inl y_read_3)), (q_l, .inl (ca 0, 336, .inl y_l_6)), (q_stands, .inl (ca 0, 16, .inl v_stands))]) ⟨hx, hb, hml, hown, hts⟩ (c_X10_layRead l D ca F H.size q_this q_text q_read q_l q_stands q_kept q_one q_two q_ways q_now q_then v_size y_at_2 v_keptMany y_read_3 v_l y_l_6 hg_7) (cwV 0 hts gX10_lay_X10_layRead rfl rfl rfl (by decide +kernel) ⟨(Nat.le_of_ble_eq_true rfl), (Nat.le_of_ble_eq_true rfl)⟩) hK hP hD hS hA (ci := 8) (q0 := 0) rfl rfl [0, 2, 3] [1, 4] [2, 0, 3, 4, 1] rfl rfl rfl rfl (by decide) rfl rfl rfl hl.1 rfl (Nat.le_of_ble_eq_true rfl) dX10_lay_11 ⟨Nat.zero_le _, Nat.zero_le _⟩ (fun H locs hP hD hS => ?_)
    refine lv_aload_n hx hb dX10_lay_14 rfl (lv_at hl 0 rfl) ?_
    refine lv_iconst (v := (nI 0)) hx hb dX10_lay_15 (by decide) ?_
    refine va_put (D := D) (ci := 8) (v := .int (nI 0)) (ty := .int) (C := RX10) (T := TX10) (N := 13) hx hb hts i_X10 tyX10 tyX10_ok nmX10 hown hK hP hD hS 0 rfl rfl 7 (by decide) k_119 (fun _ h9 => h9) rfl (by decide +kernel) rfl rfl (Nat.le_of_ble_eq_true rfl) dX10_lay_16 (fun H locs hP hD hS => ?_)
    have hP : va_P D vwCl [(q_this, .inr (8, [.ref q_text, .int v_size, .int y_at_2, .ref q_read, .ref q_l, .ref q_stands, .ref q_kept, .int (nI 0), .ref q_one, .ref q_two, .ref q_ways, .ref q_now, .ref q_then])), (q_text, .inl (ca 0, 500, .inl v_text)), (q_read, .inl (ca 0, 336, .inl y_read_3)), (q_l, .inl (ca 0, 336, .inl y_l_6)), (q_stands, .inl (ca 0, 16, .inl v_stands))] H := hP
    have hD : va_D A [(q_this, .inr (8, [.ref q_text, .int v_size, .int y_at_2, .ref q_read, .ref q_l, .ref q_stands, .ref q_kept, .int (nI 0), .ref q_one, .ref q_two, .ref q_ways, .ref q_now, .ref q_then])), (q_text, .inl (ca 0, 500, .inl v_text)), (q_read, .inl (ca 0, 336, .inl y_read_3)), (q_l, .inl (ca 0, 336, .inl y_l_6)), (q_stands, .inl (ca 0, 16, .inl v_stands))] := hD
    refine lv_iconst (v := (nI 0)) hx hb dX10_lay_19 (by decide) ?_
    refine lv_istore_n (lv' := [(1, .int (nI 0)), (0, .ref q_this)]) hx hb dX10_lay_20 rfl hl (by decide) rfl (fun ls hl => ?_)
    obtain ⟨o_10, hL, h⟩ := bd1_el h
    have hex : ∀ (H : Heap) (locs : List Loc) (ls : Array Slot), va_P D vwCl [(q_this, .inr (8, [.ref q_text, .int v_size, .int y_at_2, .ref q_read, .ref q_l, .ref q_stands, .ref q_kept, .int (nI 0), .ref q_one, .ref q_two, .ref q_ways, .ref q_now, .ref q_then])), (q_text, .inl (ca 0, 500, .inl v_text)), (q_read, .inl (ca 0, 336, .inl y_read_3)), (q_l, .inl (ca 0, 336, .inl y_l_6)), (q_stands, .inl (ca 0, 16, .inl o_10))] H → va_D A [(q_this, .inr (8, [.ref q_text, .int v_size, .int y_at_2, .ref q_read, .ref q_l, .ref q_stands, .ref q_kept, .int (nI 0), .ref q_one, .ref q_two, .ref q_ways, .ref q_now, .ref q_then])), (q_text, .inl (ca 0, 500, .inl v_text)), (q_read, .inl (ca 0, 336, .inl y_read_3)), (q_l, .inl (ca 0, 336, .inl y_l_6)), (q_stands, .inl (ca 0, 16, .inl o_10))] → va_S A s.heap H locs → lv_has ls 2 [(0, .ref q_this)] → W p l e (headSpec wsX10_lay rm_X10_lay).room s m args below meth c H locs 0 0 Q (F0 m 40 ls []) := by
      intro H locs ls hP hD hS hl
      refine lv_aload_n hx hb dX10_lay_40 rfl (lv_at hl 0 rfl) ?_
      obtain ⟨r_15, hg_16, h⟩ := bd1_el h
      refine kx_Vi (As := []) (rest := []) (wr := [(q_text, .inl (ca 0, 500, .inl v_text)), (q_read, .inl (ca 0, 336, .inl y_read_3)), (q_stands, .inl (ca 0, 16, .inl o_10))]) (w1 := [(q_this, .inr (8, [.ref q_text, .int v_size, .int y_at_2, .ref q_read, .ref q_l, .ref q_stands, .ref q_kept, .int (nI 0), .ref q_one, .ref q_two, .ref q_ways, .ref q_now, .ref q_then])), (q_l, .inl (ca 0, 336, .inl y_l_6))]) (wn := [(q_this, .inr (8, [.ref q_text, .int v_size, .int y_at_2, .ref q_read, .ref q_l, .ref q_stands, .ref q_kept, .int (nI 0), .ref q_one, .ref q_two, .ref q_ways, .ref q_now, .ref q_then])), (q_text, .inl (ca 0, 500, .inl v_text)), (q_read, .inl (ca 0, 336, .inl y_read_3)), (q_l, .inl (ca 0, 336, .inl y_l_6)), (q_stands, .inl (ca 0, 16, .inl o_10))]) ⟨hx, hb, hml, hown, hts⟩ (c_X10_toldSet l D ca F H.size q_this q_text q_read q_l q_stands q_kept q_one q_two q_ways q_now q_then v_size y_at_2 (nI 0) y_l_6 r_15 hg_16) (cwV 0 hts gX10_lay_X10_toldSet rfl rfl rfl (by decide +kernel) ⟨(Nat.le_of_ble_eq_true rfl), (Nat.le_of_ble_eq_true rfl)⟩) hK hP hD hS hA (ci := 8) (q0 := 0) rfl rfl [0, 3] [1, 2, 4] [3, 0, 1, 4, 2] rfl rfl rfl rfl (by decide) rfl rfl rfl hl.1 rfl (Nat.le_of_ble_eq_true rfl) dX10_lay_41 ⟨Nat.zero_le _, Nat.zero_le _⟩ (fun H locs hP hD hS => ?_)
      obtain ⟨r_17, hg_18, h⟩ := bd1_el h
      refine kx_Si (As := [.int r_15]) (rest := []) (wr := [(q_this, .inr (8, [.ref q_text, .int v_size, .int y_at_2, .ref q_read, .ref q_l, .ref q_stands, .ref q_kept, .int (nI 0), .ref q_one, .ref q_two, .ref q_ways, .ref q_now, .ref q_then])), (q_text, .inl (ca 0, 500, .inl v_text)), (q_read, .inl (ca 0, 336, .inl y_read_3)), (q_l, .inl (ca 0, 336, .inl y_l_6)), (q_stands, .inl (ca 0, 16, .inl o_10))]) (w1 := []) (wn := [(q_this, .inr (8, [.ref q_text, .int v_size, .int y_at_2, .ref q_read, .ref q_l, .ref q_stands, .ref q_kept, .int (nI 0), .ref q_one, .ref q_two, .ref q_ways, .ref q_now, .ref q_then])), (q_text, .inl (ca 0, 500, .inl v_text)), (q_read, .inl (ca 0, 336, .inl y_read_3)), (q_l, .inl (ca 0, 336, .inl y_l_6)), (q_stands, .inl (ca 0, 16, .inl o_10))]) ⟨hx, hb, hml, hown, hts⟩ (c_X10_ones l D ca F H.size r_15 r_17 hg_18) (va_cwS 1 hts gX10_lay_X10_ones rfl rfl rfl (by decide +kernel) ⟨(Nat.le_of_ble_eq_true rfl), (Nat.le_of_ble_eq_true rfl)⟩) hK hP hD hS hA [] [0, 1, 2, 3, 4] [0, 1, 2, 3, 4] rfl rfl rfl rfl (by decide) rfl rfl rfl hl.1 rfl (Nat.le_of_ble_eq_true rfl) dX10_lay_44 ⟨Nat.zero_le _, Nat.zero_le _⟩ (fun H locs hP hD hS => ?_)
      cases h
      rw [← hQe]
      exact W.iret hx hb hr (fun t ht hW => ⟨⟨_, (), rfl, rfl, by rw [ht]; exact hP, va_K.moved hW.alike hK, hD⟩, hS.F ht⟩) hS.2.2 dX10_lay_47
    have hlp : ∀ (n : Nat) (x1_8 : Int32) (y_stands_9 : Nat → Int32) (o_10 : Nat → Int32) (H : Heap) (locs : List Loc) (ls : Array Slot), lpg (T := Int32 → (Nat → Int32) → Option ((Nat → Int32))) (fun _ _ => none) (b_X10_lay_21) n x1_8 y_stands_9 = some (o_10) → (∀ (H : Heap) (locs : List Loc) (ls : Array Slot), va_P D vwCl [(q_this, .inr (8, [.ref q_text, .int v_size, .int y_at_2, .ref q_read, .ref q_l, .ref q_stands, .ref q_kept, .int (nI 0), .ref q_one, .ref q_two, .ref q_ways, .ref q_now, .ref q_then])), (q_text, .inl (ca 0, 500, .inl v_text)), (q_read, .inl (ca 0, 336, .inl y_read_3)), (q_l, .inl (ca 0, 336, .inl y_l_6)), (q_stands, .inl (ca 0, 16, .inl o_10))] H → va_D A [(q_this, .inr (8, [.ref q_text, .int v_size, .int y_at_2, .ref q_read, .ref q_l, .ref q_stands, .ref q_kept, .int (nI 0), .ref q_one, .ref q_two, .ref q_ways, .ref q_now, .ref q_then])), (q_text, .inl (ca 0, 500, .inl v_text)), (q_read, .inl (ca 0, 336, .inl y_read_3)), (q_l, .inl (ca 0, 336, .inl y_l_6)), (q_stands, .inl (ca 0, 16, .inl o_10))] → va_S A s.heap H locs → lv_has ls 2 [(0, .ref q_this)] → W p l e (headSpec wsX10_lay rm_X10_lay).room s m args below meth c H locs 0 0 Q (F0 m 40 ls [])) → va_P D vwCl [(q_this, .inr (8, [.ref q_text, .int v_size, .int y_at_2, .ref q_read, .ref q_l, .ref q_stands, .ref q_kept, .int (nI 0), .ref q_one, .ref q_two, .ref q_ways, .ref q_now, .ref q_then])), (q_text, .inl (ca 0, 500, .inl v_text)), (q_read, .inl (ca 0, 336, .inl y_read_3)), (q_l, .inl (ca 0, 336, .inl y_l_6)), (q_stands, .inl (ca 0, 16, .inl y_stands_9))] H → va_D A [(q_this, .inr (8, [.ref q_text, .int v_size, .int y_at_2, .ref q_read, .ref q_l, .ref q_stands, .ref q_kept, .int (nI 0), .ref q_one, .ref q_two, .ref q_ways, .ref q_now, .ref q_then])), (q_text, .inl (ca 0, 500, .inl v_text)), (q_read, .inl (ca 0, 336, .inl y_read_3)), (q_l, .inl (ca 0, 336, .inl y_l_6)), (q_stands, .inl (ca 0, 16, .inl y_stands_9))] → va_S A s.heap H locs → lv_has ls 2 [(0, .ref q_this), (1, .int x1_8)] → W p l e (headSpec wsX10_lay rm_X10_lay).room s m args below meth c H locs 0 0 Q (F0 m 21 ls []) := by
      intro n
      induction n with
      | zero => intro x1_8 y_stands_9 o_10 H locs ls h; have h : (none : Option ((Nat → Int32))) = some _ := h; cases h
      | succ n ih =>
        intro x1_8 y_stands_9 o_10 H locs ls h hex hP hD hS hl
        rw [lpg_succ, b_X10_lay_21] at h
        refine lv_iload_n hx hb dX10_lay_21 rfl (lv_at hl 1 rfl) ?_
        refine lv_bipush (v := (nI 16)) hx hb dX10_lay_22 (by decide) ?_
        refine lv_icmp_ge (tgt := 40) hx hb dX10_lay_24 (by decide) (fun c_11 => ?_) (fun c_11 => ?_)
        · replace h := ifp_el c_11 h
          cases h
          exact hex _ _ _ hP hD hS (lv_sub hl [0] rfl)
        · replace h := ifn_el c_11 h
          refine lv_aload_n hx hb dX10_lay_27 rfl (lv_at hl 0 rfl) ?_
          refine va_get (D := D) (ci := 8) (v := .ref q_stands) (C := RX10) (T := TX10) (N := 13) hx hb hts i_X10 hown hK hP 0 rfl rfl 5 (by decide) k_19 (fun _ h9 => h9) rfl dX10_lay_28 ?_
          refine lv_iload_n hx hb dX10_lay_31 rfl (lv_at hl 1 rfl) ?_
          refine lv_iconst (v := (nI 0)) hx hb dX10_lay_32 (by decide) ?_
          obtain ⟨hi_12, h⟩ := ck_el h
          refine va_iast hx hb hK hP hD hS 4 0 rfl rfl hi_12 dX10_lay_33 (fun H locs hP hD hS => ?_)
          have hP : va_P D vwCl [(q_this, .inr (8, [.ref q_text, .int v_size, .int y_at_2, .ref q_read, .ref q_l, .ref q_stands, .ref q_kept, .int (nI 0), .ref q_one, .ref q_two, .ref q_ways, .ref q_now, .ref q_then])), (q_text, .inl (ca 0, 500, .inl v_text)), (q_read, .inl (ca 0, 336, .inl y_read_3)), (q_l, .inl (ca 0, 336, .inl y_l_6)), (q_stands, .inl (ca 0, 16, .inl (upd y_stands_9 x1_8.toNatClampNeg (nI 0))))] H := hP
          have hD : va_D A [(q_this, .inr (8, [.ref q_text, .int v_size, .int y_at_2, .ref q_read, .ref q_l, .ref q_stands, .ref q_kept, .int (nI 0), .ref q_one, .ref q_two, .ref q_ways, .ref q_now, .ref q_then])), (q_text, .inl (ca 0, 500, .inl v_text)), (q_read, .inl (ca 0, 336, .inl y_read_3)), (q_l, .inl (ca 0, 336, .inl y_l_6)), (q_stands, .inl (ca 0, 16, .inl (upd y_stands_9 x1_8.toNatClampNeg (nI 0))))] := hD
          obtain ⟨x1_13, e_14, h⟩ := nm_el h
          refine lv_iinc (v := x1_13) (lv' := [(1, .int x1_13), (0, .ref q_this)]) hx hb dX10_lay_34 hl (k := 1) rfl (by rw [← e_14]; rfl) (by decide) rfl (fun ls hl => ?_)
          refine lv_goto (tgt := 21) hx hb dX10_lay_37 (by decide) ?_
          exact ih _ _ _ _ _ _ h hex hP hD hS (lv_sub hl [1, 0] rfl)
    exact hlp F (nI 0) v_stands o_10 H locs ls hL hex hP hD hS (lv_sub hl [1, 0] rfl)
  · replace h := ifn_el c_5 h
    refine lv_bipush (v := (-2 : Int32)) hx hb dX10_lay_7 (by decide) ?_
    cases h
    rw [← hQe]
    exact W.iret hx hb hr (fun t ht hW => ⟨⟨_, (), rfl, rfl, by rw [ht]; exact hP, va_K.moved hW.alike hK, hD⟩, hS.F ht⟩) hS.2.2 dX10_lay_9
def D_X10_earAt (p1 : Int32) (p2 : Int32) : Option (Int32) := some (((nI 112) + ((nI 7) * (((nI 8) * p1) + p2))))
abbrev rm_X10_earAt : Room := { frames := 0, cells := 0, slots := 0, locals := 0 }
set_option maxHeartbeats 4000000 in
set_option maxRecDepth 100000 in
theorem c_X10_earAt (l : Launch) (D : va_G) (ca : Nat → ClassId) (sz : Nat) (p1 : Int32) (p2 : Int32) (r : Int32) (h : D_X10_earAt p1 p2 = some (r)) : Met l yX10_earAt wsX10_earAt rm_X10_earAt (va_Pc [.int p1, .int p2] (kPre D ca [] sz)) (kQi D ca (va_A [] sz) [] r) 0 0 (va_A [] sz) := by
  refine Met.ofW (cc := cX10_earAt) (maxL := 2) (ret := (some .int)) (by decide +kernel) rfl ?_
  intro p e s m args below meth c s₁ B hml hv
  obtain ⟨rfl, hsz, hP, hK, hD0⟩ := hv
  have hx := B.exec
  have hb := B.bytes
  have hr := B.returns
  have hts := atoms_spec (ws := wsX10_earAt) B.pre
  have hown : s.vm.findClass RX10 = some m.cls := findClass_of_methodNamed B.named
  have hlocks := B.notSynchronized
  clear B
  subst hsz
  have hD := hD0.self (sz := s.heap.size)
  generalize hAe : va_A [] s.heap.size = A at hD ⊢
  have hA : ∀ q : Nat, s.heap.size ≤ q → A q := fun q h => by rw [← hAe]; exact Or.inr h
  have hS : va_S A s.heap s.heap [] := va_S.rf
  have hl := lv_entry ([.int p1, .int p2]) (n := 2) (Nat.le_of_ble_eq_true rfl)
  rw [lg_entry_eq]
  generalize (lg_sl ([.int p1, .int p2]) ++ List.replicate (2 - (lg_sl ([.int p1, .int p2])).length) Slot.unset).toArray = ls at hl ⊢
  have hl : lv_has ls 2 [(0, .int p1), (1, .int p2)] := hl
  generalize ([.int p1, .int p2] : List Value).toArray = args at hts ⊢
  generalize hQe : MQ below (kQi D ca (A) [] r) args s 0 0 A = Q
  rw [D_X10_earAt] at h
  refine lv_bipush (v := (nI 112)) hx hb dX10_earAt_0 (by decide) ?_
  refine lv_bipush (v := (nI 7)) hx hb dX10_earAt_2 (by decide) ?_
  refine lv_bipush (v := (nI 8)) hx hb dX10_earAt_4 (by decide) ?_
  refine lv_iload_n hx hb dX10_earAt_6 rfl (lv_at hl 0 rfl) ?_
  refine lv_imul hx hb dX10_earAt_7 ?_
  refine lv_iload_n hx hb dX10_earAt_8 rfl (lv_at hl 1 rfl) ?_
  refine lv_iadd hx hb dX10_earAt_9 ?_
  refine lv_imul hx hb dX10_earAt_10 ?_
  refine lv_iadd hx hb dX10_earAt_11 ?_
  cases h
  rw [← hQe]
  exact W.iret hx hb hr (fun t ht hW => ⟨⟨_, (), rfl, rfl, by rw [ht]; exact hP, va_K.moved hW.alike hK, hD⟩, hS.F ht⟩) hS.2.2 dX10_earAt_12
def D_X10_isMeaning (p1 : Int32) : Option (Int32) := bd1 (D_X10_in p1.toInt64 (lN 0) (lN 7)) (fun r_1 => cz r_1 (some (r_1)))
abbrev rm_X10_isMeaning : Room := { frames := 1, cells := 0, slots := 0, locals := 25 }
set_option maxHeartbeats 4000000 in
set_option maxRecDepth 100000 in
theorem c_X10_isMeaning (l : Launch) (D : va_G) (ca : Nat → ClassId) (sz : Nat) (p1 : Int32) (r : Int32) (h : D_X10_isMeaning p1 = some (r)) : Met l yX10_isMeaning wsX10_isMeaning rm_X10_isMeaning (va_Pc [.int p1] (kPre D ca [] sz)) (kQi D ca (va_A [] sz) [] r) 0 0 (va_A [] sz) := by
  refine Met.ofW (cc := cX10_isMeaning) (maxL := 1) (ret := (some .boolean)) (by decide +kernel) rfl ?_
  intro p e s m args below meth c s₁ B hml hv
  obtain ⟨rfl, hsz, hP, hK, hD0⟩ := hv
  have hx := B.exec
  have hb := B.bytes
  have hr := B.returns
  have hts := atoms_spec (ws := wsX10_isMeaning) B.pre
  have hown : s.vm.findClass RX10 = some m.cls := findClass_of_methodNamed B.named
  have hlocks := B.notSynchronized
  clear B
  subst hsz
  have hD := hD0.self (sz := s.heap.size)
  generalize hAe : va_A [] s.heap.size = A at hD ⊢
  have hA : ∀ q : Nat, s.heap.size ≤ q → A q := fun q h => by rw [← hAe]; exact Or.inr h
  have hS : va_S A s.heap s.heap [] := va_S.rf
  have hl := lv_entry ([.int p1]) (n := 1) (Nat.le_of_ble_eq_true rfl)
  rw [lg_entry_eq]
  generalize (lg_sl ([.int p1]) ++ List.replicate (1 - (lg_sl ([.int p1])).length) Slot.unset).toArray = ls at hl ⊢
  have hl : lv_has ls 1 [(0, .int p1)] := hl
  generalize ([.int p1] : List Value).toArray = args at hts ⊢
  generalize hQe : MQ below (kQi D ca (A) [] r) args s 0 0 A = Q
  have k_135 := hts (.constantLong RX10 135 (lN 7)) (by decide +kernel)
  rw [D_X10_isMeaning] at h
  refine lv_iload_n hx hb dX10_isMeaning_0 rfl (lv_at hl 0 rfl) ?_
  refine lv_i2l hx hb dX10_isMeaning_1 rfl ?_
  refine lv_lconst (v := (lN 0)) hx hb dX10_isMeaning_2 (by decide) ?_
  refine lv_ldc2 hx hb hown k_135 dX10_isMeaning_3 ?_
  obtain ⟨r_1, hg_2, h⟩ := bd1_el h
  refine kx_Si (As := [.long p1.toInt64, .long (lN 0), .long (lN 7)]) (rest := []) (wr := []) (w1 := []) (wn := []) ⟨hx, hb, hml, hown, hts⟩ (c_X10_in l D ca s.heap.size p1.toInt64 (lN 0) (lN 7) r_1 hg_2) (va_cwS 3 hts gX10_isMeaning_X10_in rfl rfl rfl (by decide +kernel) ⟨(Nat.le_of_ble_eq_true rfl), (Nat.le_of_ble_eq_true rfl)⟩) hK hP hD hS hA [] [] [] rfl rfl rfl rfl (by decide) rfl rfl rfl hl.1 rfl (Nat.le_of_ble_eq_true rfl) dX10_isMeaning_6 ⟨Nat.zero_le _, Nat.zero_le _⟩ (fun H locs hP hD hS => ?_)
  obtain ⟨hz, h⟩ := cz_el h
  cases h
  rw [← hQe]
  exact W.zret hx hb hr hz (fun t ht hW => ⟨⟨_, (), rfl, rfl, by rw [ht]; exact hP, va_K.moved hW.alike hK, hD⟩, hS.F ht⟩) hS.2.2 dX10_isMeaning_9
def D_X10_said (p1 : Int32) (p2 : Int32) (v_l : Nat → Int32) : Option (Int32) := ck 336 ((nI 282) + p2) (nm (v_l ((nI 282) + p2).toNatClampNeg) (fun x3_2 => ck 336 ((nI 280) + p1) (bd1 (D_X10_has (v_l ((nI 280) + p1).toNatClampNeg) p2) (fun r_4 => (if r_4 = 0 then (if x3_2 < 0 then some ((-1 : Int32)) else ck 336 ((nI 280) + p1) (bd1 (D_X10_has (v_l ((nI 280) + p1).toNatClampNeg) x3_2) (fun r_9 => (if r_9 = 0 then some ((-1 : Int32)) else some (x3_2))))) else some (p2))))))
abbrev rm_X10_said : Room := { frames := 1, cells := 0, slots := 0, locals := 21 }
set_option maxHeartbeats 4000000 in
set_option maxRecDepth 100000 in
theorem c_X10_said (l : Launch) (D : va_G) (ca : Nat → ClassId) (sz : Nat) (q_this q_text q_read q_l q_stands q_kept q_one q_two q_ways q_now q_then : Nat) (p1 : Int32) (p2 : Int32) (v_size : Int32) (v_at : Int32) (v_keptMany : Int32) (v_l : Nat → Int32) (r : Int32) (h : D_X10_said p1 p2 v_l = some (r)) : Met l yX10_said wsX10_said rm_X10_said (va_Pc [.ref q_this, .int p1, .int p2] (kPre D ca [(q_this, .inr (8, [.ref q_text, .int v_size, .int v_at, .ref q_read, .ref q_l, .ref q_stands, .ref q_kept, .int v_keptMany, .ref q_one, .ref q_two, .ref q_ways, .ref q_now, .ref q_then])), (q_l, .inl (ca 0, 336, .inl v_l))] sz)) (kQi D ca (va_A [(q_this, .inr (8, [.ref q_text, .int v_size, .int v_at, .ref q_read, .ref q_l, .ref q_stands, .ref q_kept, .int v_keptMany, .ref q_one, .ref q_two, .ref q_ways, .ref q_now, .ref q_then])), (q_l, .inl (ca 0, 336, .inl v_l))] sz) [(q_this, .inr (8, [.ref q_text, .int v_size, .int v_at, .ref q_read, .ref q_l, .ref q_stands, .ref q_kept, .int v_keptMany, .ref q_one, .ref q_two, .ref q_ways, .ref q_now, .ref q_then])), (q_l, .inl (ca 0, 336, .inl v_l))] r) 0 0 (va_A [(q_this, .inr (8, [.ref q_text, .int v_size, .int v_at, .ref q_read, .ref q_l, .ref q_stands, .ref q_kept, .int v_keptMany, .ref q_one, .ref q_two, .ref q_ways, .ref q_now, .ref q_then])), (q_l, .inl (ca 0, 336, .inl v_l))] sz) := by
  refine Met.ofW (cc := cX10_said) (maxL := 4) (ret := (some .int)) (by decide +kernel) rfl ?_
  intro p e s m args below meth c s₁ B hml hv
  obtain ⟨rfl, hsz, hP, hK, hD0⟩ := hv
  have hx := B.exec
  have hb := B.bytes
  have hr := B.returns
  have hts := atoms_spec (ws := wsX10_said) B.pre
  have hown : s.vm.findClass RX10 = some m.cls := findClass_of_methodNamed B.named
  have hlocks := B.notSynchronized
  clear B
  subst hsz
  have hD := hD0.self (sz := s.heap.size)
  generalize hAe : va_A [(q_this, .inr (8, [.ref q_text, .int v_size, .int v_at, .ref q_read, .ref q_l, .ref q_stands, .ref q_kept, .int v_keptMany, .ref q_one, .ref q_two, .ref q_ways, .ref q_now, .ref q_then])), (q_l, .inl (ca 0, 336, .inl v_l))] s.heap.size = A at hD ⊢
  have hA : ∀ q : Nat, s.heap.size ≤ q → A q := fun q h => by rw [← hAe]; exact Or.inr h
  have hS : va_S A s.heap s.heap [] := va_S.rf
  have hl := lv_entry ([.ref q_this, .int p1, .int p2]) (n := 4) (Nat.le_of_ble_eq_true rfl)
  rw [lg_entry_eq]
  generalize (lg_sl ([.ref q_this, .int p1, .int p2]) ++ List.replicate (4 - (lg_sl ([.ref q_this, .int p1, .int p2])).length) Slot.unset).toArray = ls at hl ⊢
  have hl : lv_has ls 4 [(0, .ref q_this), (1, .int p1), (2, .int p2)] := hl
  generalize ([.ref q_this, .int p1, .int p2] : List Value).toArray = args at hts ⊢
  generalize hQe : MQ below (kQi D ca (A) [(q_this, .inr (8, [.ref q_text, .int v_size, .int v_at, .ref q_read, .ref q_l, .ref q_stands, .ref q_kept, .int v_keptMany, .ref q_one, .ref q_two, .ref q_ways, .ref q_now, .ref q_then])), (q_l, .inl (ca 0, 336, .inl v_l))] r) args s 0 0 A = Q
  have i_X10 : ∀ w ∈ u_ws RX10 TX10 13, w ∈ wsX10_said := by decide +kernel
  have k_16 := hts (.fieldLink RX10 16 "TradeWordsModel" "l" "[I") (by decide +kernel)
  rw [D_X10_said] at h
  refine lv_aload_n hx hb dX10_said_0 rfl (lv_at hl 0 rfl) ?_
  refine va_get (D := D) (ci := 8) (v := .ref q_l) (C := RX10) (T := TX10) (N := 13) hx hb hts i_X10 hown hK hP 0 rfl rfl 4 (by decide) k_16 (fun _ h9 => h9) rfl dX10_said_1 ?_
  refine lv_sipush (v := (nI 282)) hx hb dX10_said_4 (by decide) ?_
  refine lv_iload_n hx hb dX10_said_7 rfl (lv_at hl 2 rfl) ?_
  refine lv_iadd hx hb dX10_said_8 ?_
  obtain ⟨hi_1, h⟩ := ck_el h
  refine va_iald hx hb hK hP 1 0 rfl rfl hi_1 dX10_said_9 ?_
  refine lv_nmi h (fun x3_2 h => ?_)
  refine lv_istore_n (lv' := [(3, .int x3_2), (0, .ref q_this), (1, .int p1), (2, .int p2)]) hx hb dX10_said_10 rfl hl (by decide) rfl (fun ls hl => ?_)
  refine lv_aload_n hx hb dX10_said_11 rfl (lv_at hl 1 rfl) ?_
  refine va_get (D := D) (ci := 8) (v := .ref q_l) (C := RX10) (T := TX10) (N := 13) hx hb hts i_X10 hown hK hP 0 rfl rfl 4 (by decide) k_16 (fun _ h9 => h9) rfl dX10_said_12 ?_
  refine lv_sipush (v := (nI 280)) hx hb dX10_said_15 (by decide) ?_
  refine lv_iload_n hx hb dX10_said_18 rfl (lv_at hl 2 rfl) ?_
  refine lv_iadd hx hb dX10_said_19 ?_
  obtain ⟨hi_3, h⟩ := ck_el h
  refine va_iald hx hb hK hP 1 0 rfl rfl hi_3 dX10_said_20 ?_
  refine lv_iload_n hx hb dX10_said_21 rfl (lv_at hl 3 rfl) ?_
  obtain ⟨r_4, hg_5, h⟩ := bd1_el h
  refine kx_Si (As := [.int (v_l ((nI 280) + p1).toNatClampNeg), .int p2]) (rest := []) (wr := [(q_this, .inr (8, [.ref q_text, .int v_size, .int v_at, .ref q_read, .ref q_l, .ref q_stands, .ref q_kept, .int v_keptMany, .ref q_one, .ref q_two, .ref q_ways, .ref q_now, .ref q_then])), (q_l, .inl (ca 0, 336, .inl v_l))]) (w1 := []) (wn := [(q_this, .inr (8, [.ref q_text, .int v_size, .int v_at, .ref q_read, .ref q_l, .ref q_stands, .ref q_kept, .int v_keptMany, .ref q_one, .ref q_two, .ref q_ways, .ref q_now, .ref q_then])), (q_l, .inl (ca 0, 336, .inl v_l))]) ⟨hx, hb, hml, hown, hts⟩ (c_X10_has l D ca s.heap.size (v_l ((nI 280) + p1).toNatClampNeg) p2 r_4 hg_5) (va_cwS 2 hts gX10_said_X10_has rfl rfl rfl (by decide +kernel) ⟨(Nat.le_of_ble_eq_true rfl), (Nat.le_of_ble_eq_true rfl)⟩) hK hP hD hS hA [] [0, 1] [0, 1] rfl rfl rfl rfl (by decide) rfl rfl rfl hl.1 rfl (Nat.le_of_ble_eq_true rfl) dX10_said_22 ⟨Nat.zero_le _, Nat.zero_le _⟩ (fun H locs hP hD hS => ?_)
  refine lv_if_eq (tgt := 32) hx hb dX10_said_25 (by decide) (fun c_6 => ?_) (fun c_6 => ?_)
  · replace h := ifp_el c_6 h
    refine lv_iload_n hx hb dX10_said_32 rfl (lv_at hl 0 rfl) ?_
    refine lv_if_lt (tgt := 57) hx hb dX10_said_33 (by decide) (fun c_7 => ?_) (fun c_7 => ?_)
    · replace h := ifp_el c_7 h
      refine lv_iconst (v := (-1 : Int32)) hx hb dX10_said_57 (by decide) ?_
      cases h
      rw [← hQe]
      exact W.iret hx hb hr (fun t ht hW => ⟨⟨_, (), rfl, rfl, by rw [ht]; exact hP, va_K.moved hW.alike hK, hD⟩, hS.F ht⟩) hS.2.2 dX10_said_58
    · replace h := ifn_el c_7 h
      refine lv_aload_n hx hb dX10_said_36 rfl (lv_at hl 1 rfl) ?_
      refine va_get (D := D) (ci := 8) (v := .ref q_l) (C := RX10) (T := TX10) (N := 13) hx hb hts i_X10 hown hK hP 0 rfl rfl 4 (by decide) k_16 (fun _ h9 => h9) rfl dX10_said_37 ?_
      refine lv_sipush (v := (nI 280)) hx hb dX10_said_40 (by decide) ?_
      refine lv_iload_n hx hb dX10_said_43 rfl (lv_at hl 2 rfl) ?_
      refine lv_iadd hx hb dX10_said_44 ?_
      obtain ⟨hi_8, h⟩ := ck_el h
      refine va_iald hx hb hK hP 1 0 rfl rfl hi_8 dX10_said_45 ?_
      refine lv_iload_n hx hb dX10_said_46 rfl (lv_at hl 0 rfl) ?_
      obtain ⟨r_9, hg_10, h⟩ := bd1_el h
      refine kx_Si (As := [.int (v_l ((nI 280) + p1).toNatClampNeg), .int x3_2]) (rest := []) (wr := [(q_this, .inr (8, [.ref q_text, .int v_size, .int v_at, .ref q_read, .ref q_l, .ref q_stands, .ref q_kept, .int v_keptMany, .ref q_one, .ref q_two, .ref q_ways, .ref q_now, .ref q_then])), (q_l, .inl (ca 0, 336, .inl v_l))]) (w1 := []) (wn := [(q_this, .inr (8, [.ref q_text, .int v_size, .int v_at, .ref q_read, .ref q_l, .ref q_stands, .ref q_kept, .int v_keptMany, .ref q_one, .ref q_two, .ref q_ways, .ref q_now, .ref q_then])), (q_l, .inl (ca 0, 336, .inl v_l))]) ⟨hx, hb, hml, hown, hts⟩ (c_X10_has l D ca H.size (v_l ((nI 280) + p1).toNatClampNeg) x3_2 r_9 hg_10) (va_cwS 2 hts gX10_said_X10_has rfl rfl rfl (by decide +kernel) ⟨(Nat.le_of_ble_eq_true rfl), (Nat.le_of_ble_eq_true rfl)⟩) hK hP hD hS hA [] [0, 1] [0, 1] rfl rfl rfl rfl (by decide) rfl rfl rfl hl.1 rfl (Nat.le_of_ble_eq_true rfl) dX10_said_47 ⟨Nat.zero_le _, Nat.zero_le _⟩ (fun H locs hP hD hS => ?_)
      refine lv_if_eq (tgt := 57) hx hb dX10_said_50 (by decide) (fun c_11 => ?_) (fun c_11 => ?_)
      · replace h := ifp_el c_11 h
        refine lv_iconst (v := (-1 : Int32)) hx hb dX10_said_57 (by decide) ?_
        cases h
        rw [← hQe]
        exact W.iret hx hb hr (fun t ht hW => ⟨⟨_, (), rfl, rfl, by rw [ht]; exact hP, va_K.moved hW.alike hK, hD⟩, hS.F ht⟩) hS.2.2 dX10_said_58
      · replace h := ifn_el c_11 h
        refine lv_iload_n hx hb dX10_said_53 rfl (lv_at hl 0 rfl) ?_
        refine lv_goto (tgt := 58) hx hb dX10_said_54 (by decide) ?_
        cases h
        rw [← hQe]
        exact W.iret hx hb hr (fun t ht hW => ⟨⟨_, (), rfl, rfl, by rw [ht]; exact hP, va_K.moved hW.alike hK, hD⟩, hS.F ht⟩) hS.2.2 dX10_said_58
  · replace h := ifn_el c_6 h
    refine lv_iload_n hx hb dX10_said_28 rfl (lv_at hl 3 rfl) ?_
    refine lv_goto (tgt := 58) hx hb dX10_said_29 (by decide) ?_
    cases h
    rw [← hQe]
    exact W.iret hx hb hr (fun t ht hW => ⟨⟨_, (), rfl, rfl, by rw [ht]; exact hP, va_K.moved hW.alike hK, hD⟩, hS.F ht⟩) hS.2.2 dX10_said_58
def j_X10_say_46 (n_a3 : Nat) (x4_1 : Int32) (x5_2 : Int32) (y_a3_3 : Nat → Int32) (rec6 : Int32 → Int32 → (Nat → Int32) → Option (Int32 × (Nat → Int32))) (z0_10 : Int32) : Option (Int32 × (Nat → Int32)) := (if z0_10 < 0 then nm (x5_2 + (nI 1)) (fun x5_12 => rec6 x4_1 x5_12 y_a3_3) else ck n_a3 ((nI 1) + x4_1) (nm (x4_1 + (nI 1)) (fun x4_15 => nm (x5_2 + (nI 1)) (fun x5_17 => rec6 x4_15 x5_17 (upd y_a3_3 ((nI 1) + x4_1).toNatClampNeg z0_10)))))
def b_X10_say_6 (p1 : Int32) (p2 : Int32) (v_l : Nat → Int32) (n_a3 : Nat) (rec6 : Int32 → Int32 → (Nat → Int32) → Option (Int32 × (Nat → Int32))) (x4_1 : Int32) (x5_2 : Int32) (y_a3_3 : Nat → Int32) : Option (Int32 × (Nat → Int32)) := ck 336 p1 ((if (v_l p1.toNatClampNeg) ≤ x5_2 then some (x4_1, y_a3_3) else ck 336 ((p1 + (nI 1)) + x5_2) (nm (v_l ((p1 + (nI 1)) + x5_2).toNatClampNeg) (fun x6_9 => (if 0 ≤ p2 then bd1 (D_X10_said p2 x6_9 v_l) (fun r_20 => j_X10_say_46 n_a3 x4_1 x5_2 y_a3_3 rec6 r_20) else j_X10_say_46 n_a3 x4_1 x5_2 y_a3_3 rec6 x6_9)))))
def D_X10_say (F : Nat) (n_a3 : Nat) (p1 : Int32) (p2 : Int32) (v_l : Nat → Int32) (v_a3 : Nat → Int32) : Option ((Nat → Int32)) := bd2 (lpg (T := Int32 → Int32 → (Nat → Int32) → Option (Int32 × (Nat → Int32))) (fun _ _ _ => none) (b_X10_say_6 p1 p2 v_l n_a3) F (nI 0) (nI 0) v_a3) (fun o_4 o_5 => ck n_a3 (nI 0) (some ((upd o_5 (nI 0).toNatClampNeg o_4))))
abbrev rm_X10_say : Room := { frames := 2, cells := 0, slots := 0, locals := 44 }
set_option maxHeartbeats 4000000 in
set_option maxRecDepth 100000 in
theorem c_X10_say (l : Launch) (D : va_G) (ca : Nat → ClassId) (F : Nat) (sz : Nat) (q_this q_text q_read q_l q_stands q_kept q_one q_two q_ways q_now q_then q_a3 : Nat) (n_a3 : Nat) (p1 : Int32) (p2 : Int32) (v_size : Int32) (v_at : Int32) (v_keptMany : Int32) (v_l : Nat → Int32) (v_a3 : Nat → Int32) (o_a3 : Nat → Int32) (h : D_X10_say F n_a3 p1 p2 v_l v_a3 = some (o_a3)) : Met l yX10_say wsX10_say rm_X10_say (va_Pc [.ref q_this, .int p1, .int p2, .ref q_a3] (kPre D ca [(q_this, .inr (8, [.ref q_text, .int v_size, .int v_at, .ref q_read, .ref q_l, .ref q_stands, .ref q_kept, .int v_keptMany, .ref q_one, .ref q_two, .ref q_ways, .ref q_now, .ref q_then])), (q_l, .inl (ca 0, 336, .inl v_l)), (q_a3, .inl (ca 0, n_a3, .inl v_a3))] sz)) (kQv D ca (va_A [(q_this, .inr (8, [.ref q_text, .int v_size, .int v_at, .ref q_read, .ref q_l, .ref q_stands, .ref q_kept, .int v_keptMany, .ref q_one, .ref q_two, .ref q_ways, .ref q_now, .ref q_then])), (q_l, .inl (ca 0, 336, .inl v_l)), (q_a3, .inl (ca 0, n_a3, .inl v_a3))] sz) [(q_this, .inr (8, [.ref q_text, .int v_size, .int v_at, .ref q_read, .ref q_l, .ref q_stands, .ref q_kept, .int v_keptMany, .ref q_one, .ref q_two, .ref q_ways, .ref q_now, .ref q_then])), (q_l, .inl (ca 0, 336, .inl v_l)), (q_a3, .inl (ca 0, n_a3, .inl o_a3))]) 0 0 (va_A [(q_this, .inr (8, [.ref q_text, .int v_size, .int v_at, .ref q_read, .ref q_l, .ref q_stands, .ref q_kept, .int v_keptMany, .ref q_one, .ref q_two, .ref q_ways, .ref q_now, .ref q_then])), (q_l, .inl (ca 0, 336, .inl v_l)), (q_a3, .inl (ca 0, n_a3, .inl v_a3))] sz) := by
  refine Met.ofW (cc := cX10_say) (maxL := 8) (ret := none) (by decide +kernel) rfl ?_
  intro p e s m args below meth c s₁ B hml hv
  obtain ⟨rfl, hsz, hP, hK, hD0⟩ := hv
  have hx := B.exec
  have hb := B.bytes
  have hr := B.returns
  have hts := atoms_spec (ws := wsX10_say) B.pre
  have hown : s.vm.findClass RX10 = some m.cls := findClass_of_methodNamed B.named
  have hlocks := B.notSynchronized
  clear B
  subst hsz
  have hD := hD0.self (sz := s.heap.size)
  generalize hAe : va_A [(q_this, .inr (8, [.ref q_text, .int v_size, .int v_at, .ref q_read, .ref q_l, .ref q_stands, .ref q_kept, .int v_keptMany, .ref q_one, .ref q_two, .ref q_ways, .ref q_now, .ref q_then])), (q_l, .inl (ca 0, 336, .inl v_l)), (q_a3, .inl (ca 0, n_a3, .inl v_a3))] s.heap.size = A at hD ⊢
  have hA : ∀ q : Nat, s.heap.size ≤ q → A q := fun q h => by rw [← hAe]; exact Or.inr h
  have hS : va_S A s.heap s.heap [] := va_S.rf
  have hl := lv_entry ([.ref q_this, .int p1, .int p2, .ref q_a3]) (n := 8) (Nat.le_of_ble_eq_true rfl)
  rw [lg_entry_eq]
  generalize (lg_sl ([.ref q_this, .int p1, .int p2, .ref q_a3]) ++ List.replicate (8 - (lg_sl ([.ref q_this, .int p1, .int p2, .ref q_a3])).length) Slot.unset).toArray = ls at hl ⊢
  have hl : lv_has ls 8 [(0, .ref q_this), (1, .int p1), (2, .int p2), (3, .ref q_a3)] := hl
  generalize ([.ref q_this, .int p1, .int p2, .ref q_a3] : List Value).toArray = args at hts ⊢
  generalize hQe : MQ below (kQv D ca (A) [(q_this, .inr (8, [.ref q_text, .int v_size, .int v_at, .ref q_read, .ref q_l, .ref q_stands, .ref q_kept, .int v_keptMany, .ref q_one, .ref q_two, .ref q_ways, .ref q_now, .ref q_then])), (q_l, .inl (ca 0, 336, .inl v_l)), (q_a3, .inl (ca 0, n_a3, .inl o_a3))]) args s 0 0 A = Q
  have i_X10 : ∀ w ∈ u_ws RX10 TX10 13, w ∈ wsX10_say := by decide +kernel
  have k_16 := hts (.fieldLink RX10 16 "TradeWordsModel" "l" "[I") (by decide +kernel)
  rw [D_X10_say] at h
  refine lv_iconst (v := (nI 0)) hx hb dX10_say_0 (by decide) ?_
  refine lv_istore (lv' := [(4, .int (nI 0)), (0, .ref q_this), (1, .int p1), (2, .int p2), (3, .ref q_a3)]) hx hb dX10_say_1 hl (by decide) rfl (fun ls hl => ?_)
  refine lv_iconst (v := (nI 0)) hx hb dX10_say_3 (by decide) ?_
  refine lv_istore (lv' := [(5, .int (nI 0)), (4, .int (nI 0)), (0, .ref q_this), (1, .int p1), (2, .int p2), (3, .ref q_a3)]) hx hb dX10_say_4 hl (by decide) rfl (fun ls hl => ?_)
  obtain ⟨o_4, o_5, hL, h⟩ := bd2_el h
  have hex : ∀ (H : Heap) (locs : List Loc) (ls : Array Slot), va_P D vwCl [(q_this, .inr (8, [.ref q_text, .int v_size, .int v_at, .ref q_read, .ref q_l, .ref q_stands, .ref q_kept, .int v_keptMany, .ref q_one, .ref q_two, .ref q_ways, .ref q_now, .ref q_then])), (q_l, .inl (ca 0, 336, .inl v_l)), (q_a3, .inl (ca 0, n_a3, .inl o_5))] H → va_D A [(q_this, .inr (8, [.ref q_text, .int v_size, .int v_at, .ref q_read, .ref q_l, .ref q_stands, .ref q_kept, .int v_keptMany, .ref q_one, .ref q_two, .ref q_ways, .ref q_now, .ref q_then])), (q_l, .inl (ca 0, 336, .inl v_l)), (q_a3, .inl (ca 0, n_a3, .inl o_5))] → va_S A s.heap H locs → lv_has ls 8 [(3, .ref q_a3), (4, .int o_4)] → W p l e (headSpec wsX10_say rm_X10_say).room s m args below meth c H locs 0 0 Q (F0 m 70 ls []) := by
    intro H locs ls hP hD hS hl
    refine lv_aload_n hx hb dX10_say_70 rfl (lv_at hl 0 rfl) ?_
    refine lv_iconst (v := (nI 0)) hx hb dX10_say_71 (by decide) ?_
    refine lv_iload hx hb dX10_say_72 (lv_at hl 1 rfl) ?_
    obtain ⟨hi_22, h⟩ := ck_el h
    refine va_iast hx hb hK hP hD hS 2 0 rfl rfl hi_22 dX10_say_74 (fun H locs hP hD hS => ?_)
    have hP : va_P D vwCl [(q_this, .inr (8, [.ref q_text, .int v_size, .int v_at, .ref q_read, .ref q_l, .ref q_stands, .ref q_kept, .int v_keptMany, .ref q_one, .ref q_two, .ref q_ways, .ref q_now, .ref q_then])), (q_l, .inl (ca 0, 336, .inl v_l)), (q_a3, .inl (ca 0, n_a3, .inl (upd o_5 (nI 0).toNatClampNeg o_4)))] H := hP
    have hD : va_D A [(q_this, .inr (8, [.ref q_text, .int v_size, .int v_at, .ref q_read, .ref q_l, .ref q_stands, .ref q_kept, .int v_keptMany, .ref q_one, .ref q_two, .ref q_ways, .ref q_now, .ref q_then])), (q_l, .inl (ca 0, 336, .inl v_l)), (q_a3, .inl (ca 0, n_a3, .inl (upd o_5 (nI 0).toNatClampNeg o_4)))] := hD
    cases h
    rw [← hQe]
    exact W.vret hx hb hr (fun t ht hW => ⟨⟨(), rfl, trivial, by rw [ht]; exact hP, va_K.moved hW.alike hK, hD⟩, hS.F ht⟩) hS.2.2 dX10_say_75
  have hlp : ∀ (n : Nat) (x4_1 : Int32) (x5_2 : Int32) (y_a3_3 : Nat → Int32) (o_4 : Int32) (o_5 : Nat → Int32) (H : Heap) (locs : List Loc) (ls : Array Slot), lpg (T := Int32 → Int32 → (Nat → Int32) → Option (Int32 × (Nat → Int32))) (fun _ _ _ => none) (b_X10_say_6 p1 p2 v_l n_a3) n x4_1 x5_2 y_a3_3 = some (o_4, o_5) → (∀ (H : Heap) (locs : List Loc) (ls : Array Slot), va_P D vwCl [(q_this, .inr (8, [.ref q_text, .int v_size, .int v_at, .ref q_read, .ref q_l, .ref q_stands, .ref q_kept, .int v_keptMany, .ref q_one, .ref q_two, .ref q_ways, .ref q_now, .ref q_then])), (q_l, .inl (ca 0, 336, .inl v_l)), (q_a3, .inl (ca 0, n_a3, .inl o_5))] H → va_D A [(q_this, .inr (8, [.ref q_text, .int v_size, .int v_at, .ref q_read, .ref q_l, .ref q_stands, .ref q_kept, .int v_keptMany, .ref q_one, .ref q_two, .ref q_ways, .ref q_now, .ref q_then])), (q_l, .inl (ca 0, 336, .inl v_l)), (q_a3, .inl (ca 0, n_a3, .inl o_5))] → va_S A s.heap H locs → lv_has ls 8 [(3, .ref q_a3), (4, .int o_4)] → W p l e (headSpec wsX10_say rm_X10_say).room s m args below meth c H locs 0 0 Q (F0 m 70 ls [])) → va_P D vwCl [(q_this, .inr (8, [.ref q_text, .int v_size, .int v_at, .ref q_read, .ref q_l, .ref q_stands, .ref q_kept, .int v_keptMany, .ref q_one, .ref q_two, .ref q_ways, .ref q_now, .ref q_then])), (q_l, .inl (ca 0, 336, .inl v_l)), (q_a3, .inl (ca 0, n_a3, .inl y_a3_3))] H → va_D A [(q_this, .inr (8, [.ref q_text, .int v_size, .int v_at, .ref q_read, .ref q_l, .ref q_stands, .ref q_kept, .int v_keptMany, .ref q_one, .ref q_two, .ref q_ways, .ref q_now, .ref q_then])), (q_l, .inl (ca 0, 336, .inl v_l)), (q_a3, .inl (ca 0, n_a3, .inl y_a3_3))] → va_S A s.heap H locs → lv_has ls 8 [(0, .ref q_this), (1, .int p1), (2, .int p2), (3, .ref q_a3), (4, .int x4_1), (5, .int x5_2)] → W p l e (headSpec wsX10_say rm_X10_say).room s m args below meth c H locs 0 0 Q (F0 m 6 ls []) := by
    intro n
    induction n with
    | zero => intro x4_1 x5_2 y_a3_3 o_4 o_5 H locs ls h; have h : (none : Option (Int32 × (Nat → Int32))) = some _ := h; cases h
    | succ n ih =>
      intro x4_1 x5_2 y_a3_3 o_4 o_5 H locs ls h hex hP hD hS hl
      rw [lpg_succ, b_X10_say_6] at h
      refine lv_iload hx hb dX10_say_6 (lv_at hl 5 rfl) ?_
      refine lv_aload_n hx hb dX10_say_8 rfl (lv_at hl 0 rfl) ?_
      refine va_get (D := D) (ci := 8) (v := .ref q_l) (C := RX10) (T := TX10) (N := 13) hx hb hts i_X10 hown hK hP 0 rfl rfl 4 (by decide) k_16 (fun _ h9 => h9) rfl dX10_say_9 ?_
      refine lv_iload_n hx hb dX10_say_12 rfl (lv_at hl 1 rfl) ?_
      obtain ⟨hi_6, h⟩ := ck_el h
      refine va_iald hx hb hK hP 1 0 rfl rfl hi_6 dX10_say_13 ?_
      refine lv_icmp_ge (tgt := 70) hx hb dX10_say_14 (by decide) (fun c_7 => ?_) (fun c_7 => ?_)
      · replace h := ifp_el c_7 h
        cases h
        exact hex _ _ _ hP hD hS (lv_sub hl [3, 4] rfl)
      · replace h := ifn_el c_7 h
        refine lv_aload_n hx hb dX10_say_17 rfl (lv_at hl 0 rfl) ?_
        refine va_get (D := D) (ci := 8) (v := .ref q_l) (C := RX10) (T := TX10) (N := 13) hx hb hts i_X10 hown hK hP 0 rfl rfl 4 (by decide) k_16 (fun _ h9 => h9) rfl dX10_say_18 ?_
        refine lv_iload_n hx hb dX10_say_21 rfl (lv_at hl 1 rfl) ?_
        refine lv_iconst (v := (nI 1)) hx hb dX10_say_22 (by decide) ?_
        refine lv_iadd hx hb dX10_say_23 ?_
        refine lv_iload hx hb dX10_say_24 (lv_at hl 5 rfl) ?_
        refine lv_iadd hx hb dX10_say_26 ?_
        obtain ⟨hi_8, h⟩ := ck_el h
        refine va_iald hx hb hK hP 1 0 rfl rfl hi_8 dX10_say_27 ?_
        refine lv_nmi h (fun x6_9 h => ?_)
        refine lv_istore (lv' := [(6, .int x6_9), (0, .ref q_this), (1, .int p1), (2, .int p2), (3, .ref q_a3), (4, .int x4_1), (5, .int x5_2)]) hx hb dX10_say_28 hl (by decide) rfl (fun ls hl => ?_)
        refine lv_iload_n hx hb dX10_say_30 rfl (lv_at hl 3 rfl) ?_
        have hj_46 : ∀ (z0_10 : Int32) (H : Heap) (locs : List Loc) (ls : Array Slot), j_X10_say_46 n_a3 x4_1 x5_2 y_a3_3 (lpg (T := Int32 → Int32 → (Nat → Int32) → Option (Int32 × (Nat → Int32))) (fun _ _ _ => none) (b_X10_say_6 p1 p2 v_l n_a3) n) z0_10 = some (o_4, o_5) → va_P D vwCl [(q_this, .inr (8, [.ref q_text, .int v_size, .int v_at, .ref q_read, .ref q_l, .ref q_stands, .ref q_kept, .int v_keptMany, .ref q_one, .ref q_two, .ref q_ways, .ref q_now, .ref q_then])), (q_l, .inl (ca 0, 336, .inl v_l)), (q_a3, .inl (ca 0, n_a3, .inl y_a3_3))] H → va_D A [(q_this, .inr (8, [.ref q_text, .int v_size, .int v_at, .ref q_read, .ref q_l, .ref q_stands, .ref q_kept, .int v_keptMany, .ref q_one, .ref q_two, .ref q_ways, .ref q_now, .ref q_then])), (q_l, .inl (ca 0, 336, .inl v_l)), (q_a3, .inl (ca 0, n_a3, .inl y_a3_3))] → va_S A s.heap H locs → lv_has ls 8 [(0, .ref q_this), (1, .int p1), (2, .int p2), (3, .ref q_a3), (4, .int x4_1), (5, .int x5_2)] → W p l e (headSpec wsX10_say rm_X10_say).room s m args below meth c H locs 0 0 Q (F0 m 46 ls [.int z0_10]) := by
          intro z0_10 H locs ls h hP hD hS hl
          rw [j_X10_say_46] at h
          refine lv_istore (lv' := [(7, .int z0_10), (0, .ref q_this), (1, .int p1), (2, .int p2), (3, .ref q_a3), (4, .int x4_1), (5, .int x5_2)]) hx hb dX10_say_46 hl (by decide) rfl (fun ls hl => ?_)
          refine lv_iload hx hb dX10_say_48 (lv_at hl 0 rfl) ?_
          refine lv_if_lt (tgt := 64) hx hb dX10_say_50 (by decide) (fun c_11 => ?_) (fun c_11 => ?_)
          · replace h := ifp_el c_11 h
            obtain ⟨x5_12, e_13, h⟩ := nm_el h
            refine lv_iinc (v := x5_12) (lv' := [(5, .int x5_12), (7, .int z0_10), (0, .ref q_this), (1, .int p1), (2, .int p2), (3, .ref q_a3), (4, .int x4_1)]) hx hb dX10_say_64 hl (k := 6) rfl (by rw [← e_13]; rfl) (by decide) rfl (fun ls hl => ?_)
            refine lv_goto (tgt := 6) hx hb dX10_say_67 (by decide) ?_
            exact ih _ _ _ _ _ _ _ _ h hex hP hD hS (lv_sub hl [2, 3, 4, 5, 6, 0] rfl)
          · replace h := ifn_el c_11 h
            refine lv_aload_n hx hb dX10_say_53 rfl (lv_at hl 4 rfl) ?_
            refine lv_iconst (v := (nI 1)) hx hb dX10_say_54 (by decide) ?_
            refine lv_iload hx hb dX10_say_55 (lv_at hl 5 rfl) ?_
            refine lv_iadd hx hb dX10_say_57 ?_
            refine lv_iload hx hb dX10_say_58 (lv_at hl 0 rfl) ?_
            obtain ⟨hi_14, h⟩ := ck_el h
            refine va_iast hx hb hK hP hD hS 2 0 rfl rfl hi_14 dX10_say_60 (fun H locs hP hD hS => ?_)
            have hP : va_P D vwCl [(q_this, .inr (8, [.ref q_text, .int v_size, .int v_at, .ref q_read, .ref q_l, .ref q_stands, .ref q_kept, .int v_keptMany, .ref q_one, .ref q_two, .ref q_ways, .ref q_now, .ref q_then])), (q_l, .inl (ca 0, 336, .inl v_l)), (q_a3, .inl (ca 0, n_a3, .inl (upd y_a3_3 ((nI 1) + x4_1).toNatClampNeg z0_10)))] H := hP
            have hD : va_D A [(q_this, .inr (8, [.ref q_text, .int v_size, .int v_at, .ref q_read, .ref q_l, .ref q_stands, .ref q_kept, .int v_keptMany, .ref q_one, .ref q_two, .ref q_ways, .ref q_now, .ref q_then])), (q_l, .inl (ca 0, 336, .inl v_l)), (q_a3, .inl (ca 0, n_a3, .inl (upd y_a3_3 ((nI 1) + x4_1).toNatClampNeg z0_10)))] := hD
            obtain ⟨x4_15, e_16, h⟩ := nm_el h
            refine lv_iinc (v := x4_15) (lv' := [(4, .int x4_15), (7, .int z0_10), (0, .ref q_this), (1, .int p1), (2, .int p2), (3, .ref q_a3), (5, .int x5_2)]) hx hb dX10_say_61 hl (k := 5) rfl (by rw [← e_16]; rfl) (by decide) rfl (fun ls hl => ?_)
            obtain ⟨x5_17, e_18, h⟩ := nm_el h
            refine lv_iinc (v := x5_17) (lv' := [(5, .int x5_17), (4, .int x4_15), (7, .int z0_10), (0, .ref q_this), (1, .int p1), (2, .int p2), (3, .ref q_a3)]) hx hb dX10_say_64 hl (k := 6) rfl (by rw [← e_18]; rfl) (by decide) rfl (fun ls hl => ?_)
            refine lv_goto (tgt := 6) hx hb dX10_say_67 (by decide) ?_
            exact ih _ _ _ _ _ _ _ _ h hex hP hD hS (lv_sub hl [3, 4, 5, 6, 1, 0] rfl)
        refine lv_if_ge (tgt := 39) hx hb dX10_say_31 (by decide) (fun c_19 => ?_) (fun c_19 => ?_)
        · replace h := ifp_el c_19 h
          refine lv_aload_n hx hb dX10_say_39 rfl (lv_at hl 1 rfl) ?_
          refine lv_iload_n hx hb dX10_say_40 rfl (lv_at hl 3 rfl) ?_
          refine lv_iload hx hb dX10_say_41 (lv_at hl 0 rfl) ?_
          obtain ⟨r_20, hg_21, h⟩ := bd1_el h
          refine kx_Vi (As := [.int p2, .int x6_9]) (rest := []) (wr := [(q_a3, .inl (ca 0, n_a3, .inl y_a3_3))]) (w1 := [(q_this, .inr (8, [.ref q_text, .int v_size, .int v_at, .ref q_read, .ref q_l, .ref q_stands, .ref q_kept, .int v_keptMany, .ref q_one, .ref q_two, .ref q_ways, .ref q_now, .ref q_then])), (q_l, .inl (ca 0, 336, .inl v_l))]) (wn := [(q_this, .inr (8, [.ref q_text, .int v_size, .int v_at, .ref q_read, .ref q_l, .ref q_stands, .ref q_kept, .int v_keptMany, .ref q_one, .ref q_two, .ref q_ways, .ref q_now, .ref q_then])), (q_l, .inl (ca 0, 336, .inl v_l)), (q_a3, .inl (ca 0, n_a3, .inl y_a3_3))]) ⟨hx, hb, hml, hown, hts⟩ (c_X10_said l D ca H.size q_this q_text q_read q_l q_stands q_kept q_one q_two q_ways q_now q_then p2 x6_9 v_size v_at v_keptMany v_l r_20 hg_21) (cwV 2 hts gX10_say_X10_said rfl rfl rfl (by decide +kernel) ⟨(Nat.le_of_ble_eq_true rfl), (Nat.le_of_ble_eq_true rfl)⟩) hK hP hD hS hA (ci := 8) (q0 := 0) rfl rfl [0, 1] [2] [1, 2, 0] rfl rfl rfl rfl (by decide) rfl rfl rfl hl.1 rfl (Nat.le_of_ble_eq_true rfl) dX10_say_43 ⟨Nat.zero_le _, Nat.zero_le _⟩ (fun H locs hP hD hS => ?_)
          exact hj_46 _ _ _ _ h hP hD hS (lv_sub hl [1, 2, 3, 4, 5, 6] rfl)
        · replace h := ifn_el c_19 h
          refine lv_iload hx hb dX10_say_34 (lv_at hl 0 rfl) ?_
          refine lv_goto (tgt := 46) hx hb dX10_say_36 (by decide) ?_
          exact hj_46 _ _ _ _ h hP hD hS (lv_sub hl [1, 2, 3, 4, 5, 6] rfl)
  exact hlp F (nI 0) (nI 0) v_a3 o_4 o_5 s.heap [] ls hL hex hP hD hS (lv_sub hl [2, 3, 4, 5, 1, 0] rfl)
def D_X10_least (p1 : Int32) (p2 : Int32) : Option (Int32) := (if p2 ≤ p1 then some (p2) else some (p1))
abbrev rm_X10_least : Room := { frames := 0, cells := 0, slots := 0, locals := 0 }
set_option maxHeartbeats 4000000 in
set_option maxRecDepth 100000 in
theorem c_X10_least (l : Launch) (D : va_G) (ca : Nat → ClassId) (sz : Nat) (p1 : Int32) (p2 : Int32) (r : Int32) (h : D_X10_least p1 p2 = some (r)) : Met l yX10_least wsX10_least rm_X10_least (va_Pc [.int p1, .int p2] (kPre D ca [] sz)) (kQi D ca (va_A [] sz) [] r) 0 0 (va_A [] sz) := by
  refine Met.ofW (cc := cX10_least) (maxL := 2) (ret := (some .int)) (by decide +kernel) rfl ?_
  intro p e s m args below meth c s₁ B hml hv
  obtain ⟨rfl, hsz, hP, hK, hD0⟩ := hv
  have hx := B.exec
  have hb := B.bytes
  have hr := B.returns
  have hts := atoms_spec (ws := wsX10_least) B.pre
  have hown : s.vm.findClass RX10 = some m.cls := findClass_of_methodNamed B.named
  have hlocks := B.notSynchronized
  clear B
  subst hsz
  have hD := hD0.self (sz := s.heap.size)
  generalize hAe : va_A [] s.heap.size = A at hD ⊢
  have hA : ∀ q : Nat, s.heap.size ≤ q → A q := fun q h => by rw [← hAe]; exact Or.inr h
  have hS : va_S A s.heap s.heap [] := va_S.rf
  have hl := lv_entry ([.int p1, .int p2]) (n := 2) (Nat.le_of_ble_eq_true rfl)
  rw [lg_entry_eq]
  generalize (lg_sl ([.int p1, .int p2]) ++ List.replicate (2 - (lg_sl ([.int p1, .int p2])).length) Slot.unset).toArray = ls at hl ⊢
  have hl : lv_has ls 2 [(0, .int p1), (1, .int p2)] := hl
  generalize ([.int p1, .int p2] : List Value).toArray = args at hts ⊢
  generalize hQe : MQ below (kQi D ca (A) [] r) args s 0 0 A = Q
  rw [D_X10_least] at h
  refine lv_iload_n hx hb dX10_least_0 rfl (lv_at hl 0 rfl) ?_
  refine lv_iload_n hx hb dX10_least_1 rfl (lv_at hl 1 rfl) ?_
  refine lv_icmp_ge (tgt := 9) hx hb dX10_least_2 (by decide) (fun c_1 => ?_) (fun c_1 => ?_)
  · replace h := ifp_el c_1 h
    refine lv_iload_n hx hb dX10_least_9 rfl (lv_at hl 1 rfl) ?_
    cases h
    rw [← hQe]
    exact W.iret hx hb hr (fun t ht hW => ⟨⟨_, (), rfl, rfl, by rw [ht]; exact hP, va_K.moved hW.alike hK, hD⟩, hS.F ht⟩) hS.2.2 dX10_least_10
  · replace h := ifn_el c_1 h
    refine lv_iload_n hx hb dX10_least_5 rfl (lv_at hl 0 rfl) ?_
    refine lv_goto (tgt := 10) hx hb dX10_least_6 (by decide) ?_
    cases h
    rw [← hQe]
    exact W.iret hx hb hr (fun t ht hW => ⟨⟨_, (), rfl, rfl, by rw [ht]; exact hP, va_K.moved hW.alike hK, hD⟩, hS.F ht⟩) hS.2.2 dX10_least_10
def j_X10_farOf_126 (x1_1 : Int32) (x2_6 : Int32) (y_ways_7 : Nat → Int32) (rec14 : Int32 → (Nat → Int32) → Option ((Nat → Int32))) (x3_12 : Int32) : Option ((Nat → Int32)) := ck 49 (((nI 7) * x1_1) + x2_6) (nm (x2_6 + (nI 1)) (fun x2_14 => rec14 x2_14 (upd y_ways_7 (((nI 7) * x1_1) + x2_6).toNatClampNeg x3_12)))
def j_X10_farOf_86 (x1_1 : Int32) (x2_6 : Int32) (y_ways_7 : Nat → Int32) (rec14 : Int32 → (Nat → Int32) → Option ((Nat → Int32))) (z0_21 : Int32) (z1_22 : Int32) : Option ((Nat → Int32)) := nm (z0_21 + z1_22) (fun x4_23 => ck 49 (((nI 7) * (x1_1 - (nI 1))) + x2_6) (ck 49 ((((nI 7) * x1_1) + x2_6) - (nI 1)) (bd1 (D_X10_least (y_ways_7 (((nI 7) * (x1_1 - (nI 1))) + x2_6).toNatClampNeg) (y_ways_7 ((((nI 7) * x1_1) + x2_6) - (nI 1)).toNatClampNeg)) (fun r_26 => bd1 (D_X10_least x4_23 ((nI 1) + r_26)) (fun r_28 => j_X10_farOf_126 x1_1 x2_6 y_ways_7 rec14 r_28)))))
def j_X10_farOf_42 (v_one : Nat → Int32) (v_two : Nat → Int32) (x1_1 : Int32) (x2_6 : Int32) (y_ways_7 : Nat → Int32) (rec14 : Int32 → (Nat → Int32) → Option ((Nat → Int32))) (z0_11 : Int32) : Option ((Nat → Int32)) := (if x1_1 ≤ 0 then j_X10_farOf_126 x1_1 x2_6 y_ways_7 rec14 z0_11 else (if x2_6 ≤ 0 then j_X10_farOf_126 x1_1 x2_6 y_ways_7 rec14 z0_11 else ck 49 ((((nI 7) * (x1_1 - (nI 1))) + x2_6) - (nI 1)) (ck 7 x1_1 (ck 7 x2_6 ((if (v_one x1_1.toNatClampNeg) = (v_two x2_6.toNatClampNeg) then j_X10_farOf_86 x1_1 x2_6 y_ways_7 rec14 (y_ways_7 ((((nI 7) * (x1_1 - (nI 1))) + x2_6) - (nI 1)).toNatClampNeg) (nI 0) else j_X10_farOf_86 x1_1 x2_6 y_ways_7 rec14 (y_ways_7 ((((nI 7) * (x1_1 - (nI 1))) + x2_6) - (nI 1)).toNatClampNeg) (nI 1)))))))
def b_X10_farOf_14 (v_one : Nat → Int32) (v_two : Nat → Int32) (x1_1 : Int32) (rec14 : Int32 → (Nat → Int32) → Option ((Nat → Int32))) (x2_6 : Int32) (y_ways_7 : Nat → Int32) : Option ((Nat → Int32)) := ck 7 (nI 0) ((if (v_two (nI 0).toNatClampNeg) < x2_6 then some (y_ways_7) else (if x1_1 = 0 then j_X10_farOf_42 v_one v_two x1_1 x2_6 y_ways_7 rec14 x2_6 else (if x2_6 = 0 then j_X10_farOf_42 v_one v_two x1_1 x2_6 y_ways_7 rec14 x1_1 else j_X10_farOf_42 v_one v_two x1_1 x2_6 y_ways_7 rec14 (nI 99)))))
def b_X10_farOf_2 (v_one : Nat → Int32) (v_two : Nat → Int32) (F : Nat) (rec2 : Int32 → (Nat → Int32) → Option ((Nat → Int32))) (x1_1 : Int32) (y_ways_2 : Nat → Int32) : Option ((Nat → Int32)) := ck 7 (nI 0) ((if (v_one (nI 0).toNatClampNeg) < x1_1 then some (y_ways_2) else bd1 (lpg (T := Int32 → (Nat → Int32) → Option ((Nat → Int32))) (fun _ _ => none) (b_X10_farOf_14 v_one v_two x1_1) F (nI 0) y_ways_2) (fun o_8 => nm (x1_1 + (nI 1)) (fun x1_33 => rec2 x1_33 o_8))))
def D_X10_farOf (F : Nat) (v_one : Nat → Int32) (v_two : Nat → Int32) (v_ways : Nat → Int32) : Option (Int32 × (Nat → Int32)) := bd1 (lpg (T := Int32 → (Nat → Int32) → Option ((Nat → Int32))) (fun _ _ => none) (b_X10_farOf_2 v_one v_two F) F (nI 0) v_ways) (fun o_3 => ck 7 (nI 0) (ck 7 (nI 0) (ck 49 (((nI 7) * (v_one (nI 0).toNatClampNeg)) + (v_two (nI 0).toNatClampNeg)) (some ((o_3 (((nI 7) * (v_one (nI 0).toNatClampNeg)) + (v_two (nI 0).toNatClampNeg)).toNatClampNeg), o_3)))))
abbrev rm_X10_farOf : Room := { frames := 1, cells := 0, slots := 0, locals := 21 }
set_option maxHeartbeats 4000000 in
set_option maxRecDepth 100000 in
theorem c_X10_farOf (l : Launch) (D : va_G) (ca : Nat → ClassId) (F : Nat) (sz : Nat) (q_this q_text q_read q_l q_stands q_kept q_one q_two q_ways q_now q_then : Nat) (v_size : Int32) (v_at : Int32) (v_keptMany : Int32) (v_one : Nat → Int32) (v_two : Nat → Int32) (v_ways : Nat → Int32) (r : Int32) (o_ways : Nat → Int32) (h : D_X10_farOf F v_one v_two v_ways = some (r, o_ways)) : Met l yX10_farOf wsX10_farOf rm_X10_farOf (va_Pc [.ref q_this] (kPre D ca [(q_this, .inr (8, [.ref q_text, .int v_size, .int v_at, .ref q_read, .ref q_l, .ref q_stands, .ref q_kept, .int v_keptMany, .ref q_one, .ref q_two, .ref q_ways, .ref q_now, .ref q_then])), (q_one, .inl (ca 0, 7, .inl v_one)), (q_two, .inl (ca 0, 7, .inl v_two)), (q_ways, .inl (ca 0, 49, .inl v_ways))] sz)) (kQi D ca (va_A [(q_this, .inr (8, [.ref q_text, .int v_size, .int v_at, .ref q_read, .ref q_l, .ref q_stands, .ref q_kept, .int v_keptMany, .ref q_one, .ref q_two, .ref q_ways, .ref q_now, .ref q_then])), (q_one, .inl (ca 0, 7, .inl v_one)), (q_two, .inl (ca 0, 7, .inl v_two)), (q_ways, .inl (ca 0, 49, .inl v_ways))] sz) [(q_this, .inr (8, [.ref q_text, .int v_size, .int v_at, .ref q_read, .ref q_l, .ref q_stands, .ref q_kept, .int v_keptMany, .ref q_one, .ref q_two, .ref q_ways, .ref q_now, .ref q_then])), (q_one, .inl (ca 0, 7, .inl v_one)), (q_two, .inl (ca 0, 7, .inl v_two)), (q_ways, .inl (ca 0, 49, .inl o_ways))] r) 0 0 (va_A [(q_this, .inr (8, [.ref q_text, .int v_size, .int v_at, .ref q_read, .ref q_l, .ref q_stands, .ref q_kept, .int v_keptMany, .ref q_one, .ref q_two, .ref q_ways, .ref q_now, .ref q_then])), (q_one, .inl (ca 0, 7, .inl v_one)), (q_two, .inl (ca 0, 7, .inl v_two)), (q_ways, .inl (ca 0, 49, .inl v_ways))] sz) := by
  refine Met.ofW (cc := cX10_farOf) (maxL := 5) (ret := (some .int)) (by decide +kernel) rfl ?_
  intro p e s m args below meth c s₁ B hml hv
  obtain ⟨rfl, hsz, hP, hK, hD0⟩ := hv
  have hx := B.exec
  have hb := B.bytes
  have hr := B.returns
  have hts := atoms_spec (ws := wsX10_farOf) B.pre
  have hown : s.vm.findClass RX10 = some m.cls := findClass_of_methodNamed B.named
  have hlocks := B.notSynchronized
  clear B
  subst hsz
  have hD := hD0.self (sz := s.heap.size)
  generalize hAe : va_A [(q_this, .inr (8, [.ref q_text, .int v_size, .int v_at, .ref q_read, .ref q_l, .ref q_stands, .ref q_kept, .int v_keptMany, .ref q_one, .ref q_two, .ref q_ways, .ref q_now, .ref q_then])), (q_one, .inl (ca 0, 7, .inl v_one)), (q_two, .inl (ca 0, 7, .inl v_two)), (q_ways, .inl (ca 0, 49, .inl v_ways))] s.heap.size = A at hD ⊢
  have hA : ∀ q : Nat, s.heap.size ≤ q → A q := fun q h => by rw [← hAe]; exact Or.inr h
  have hS : va_S A s.heap s.heap [] := va_S.rf
  have hl := lv_entry ([.ref q_this]) (n := 5) (Nat.le_of_ble_eq_true rfl)
  rw [lg_entry_eq]
  generalize (lg_sl ([.ref q_this]) ++ List.replicate (5 - (lg_sl ([.ref q_this])).length) Slot.unset).toArray = ls at hl ⊢
  have hl : lv_has ls 5 [(0, .ref q_this)] := hl
  generalize ([.ref q_this] : List Value).toArray = args at hts ⊢
  generalize hQe : MQ below (kQi D ca (A) [(q_this, .inr (8, [.ref q_text, .int v_size, .int v_at, .ref q_read, .ref q_l, .ref q_stands, .ref q_kept, .int v_keptMany, .ref q_one, .ref q_two, .ref q_ways, .ref q_now, .ref q_then])), (q_one, .inl (ca 0, 7, .inl v_one)), (q_two, .inl (ca 0, 7, .inl v_two)), (q_ways, .inl (ca 0, 49, .inl o_ways))] r) args s 0 0 A = Q
  have i_X10 : ∀ w ∈ u_ws RX10 TX10 13, w ∈ wsX10_farOf := by decide +kernel
  have k_25 := hts (.fieldLink RX10 25 "TradeWordsModel" "one" "[I") (by decide +kernel)
  have k_28 := hts (.fieldLink RX10 28 "TradeWordsModel" "two" "[I") (by decide +kernel)
  have k_31 := hts (.fieldLink RX10 31 "TradeWordsModel" "ways" "[I") (by decide +kernel)
  rw [D_X10_farOf] at h
  refine lv_iconst (v := (nI 0)) hx hb dX10_farOf_0 (by decide) ?_
  refine lv_istore_n (lv' := [(1, .int (nI 0)), (0, .ref q_this)]) hx hb dX10_farOf_1 rfl hl (by decide) rfl (fun ls hl => ?_)
  obtain ⟨o_3, hL, h⟩ := bd1_el h
  have hex : ∀ (H : Heap) (locs : List Loc) (ls : Array Slot), va_P D vwCl [(q_this, .inr (8, [.ref q_text, .int v_size, .int v_at, .ref q_read, .ref q_l, .ref q_stands, .ref q_kept, .int v_keptMany, .ref q_one, .ref q_two, .ref q_ways, .ref q_now, .ref q_then])), (q_one, .inl (ca 0, 7, .inl v_one)), (q_two, .inl (ca 0, 7, .inl v_two)), (q_ways, .inl (ca 0, 49, .inl o_3))] H → va_D A [(q_this, .inr (8, [.ref q_text, .int v_size, .int v_at, .ref q_read, .ref q_l, .ref q_stands, .ref q_kept, .int v_keptMany, .ref q_one, .ref q_two, .ref q_ways, .ref q_now, .ref q_then])), (q_one, .inl (ca 0, 7, .inl v_one)), (q_two, .inl (ca 0, 7, .inl v_two)), (q_ways, .inl (ca 0, 49, .inl o_3))] → va_S A s.heap H locs → lv_has ls 5 [(0, .ref q_this)] → W p l e (headSpec wsX10_farOf rm_X10_farOf).room s m args below meth c H locs 0 0 Q (F0 m 150 ls []) := by
    intro H locs ls hP hD hS hl
    refine lv_aload_n hx hb dX10_farOf_150 rfl (lv_at hl 0 rfl) ?_
    refine va_get (D := D) (ci := 8) (v := .ref q_ways) (C := RX10) (T := TX10) (N := 13) hx hb hts i_X10 hown hK hP 0 rfl rfl 10 (by decide) k_31 (fun _ h9 => h9) rfl dX10_farOf_151 ?_
    refine lv_bipush (v := (nI 7)) hx hb dX10_farOf_154 (by decide) ?_
    refine lv_aload_n hx hb dX10_farOf_156 rfl (lv_at hl 0 rfl) ?_
    refine va_get (D := D) (ci := 8) (v := .ref q_one) (C := RX10) (T := TX10) (N := 13) hx hb hts i_X10 hown hK hP 0 rfl rfl 8 (by decide) k_25 (fun _ h9 => h9) rfl dX10_farOf_157 ?_
    refine lv_iconst (v := (nI 0)) hx hb dX10_farOf_160 (by decide) ?_
    obtain ⟨hi_35, h⟩ := ck_el h
    refine va_iald hx hb hK hP 1 0 rfl rfl hi_35 dX10_farOf_161 ?_
    refine lv_imul hx hb dX10_farOf_162 ?_
    refine lv_aload_n hx hb dX10_farOf_163 rfl (lv_at hl 0 rfl) ?_
    refine va_get (D := D) (ci := 8) (v := .ref q_two) (C := RX10) (T := TX10) (N := 13) hx hb hts i_X10 hown hK hP 0 rfl rfl 9 (by decide) k_28 (fun _ h9 => h9) rfl dX10_farOf_164 ?_
    refine lv_iconst (v := (nI 0)) hx hb dX10_farOf_167 (by decide) ?_
    obtain ⟨hi_36, h⟩ := ck_el h
    refine va_iald hx hb hK hP 2 0 rfl rfl hi_36 dX10_farOf_168 ?_
    refine lv_iadd hx hb dX10_farOf_169 ?_
    obtain ⟨hi_37, h⟩ := ck_el h
    refine va_iald hx hb hK hP 3 0 rfl rfl hi_37 dX10_farOf_170 ?_
    cases h
    rw [← hQe]
    exact W.iret hx hb hr (fun t ht hW => ⟨⟨_, (), rfl, rfl, by rw [ht]; exact hP, va_K.moved hW.alike hK, hD⟩, hS.F ht⟩) hS.2.2 dX10_farOf_171
  have hlp : ∀ (n : Nat) (x1_1 : Int32) (y_ways_2 : Nat → Int32) (o_3 : Nat → Int32) (H : Heap) (locs : List Loc) (ls : Array Slot), lpg (T := Int32 → (Nat → Int32) → Option ((Nat → Int32))) (fun _ _ => none) (b_X10_farOf_2 v_one v_two F) n x1_1 y_ways_2 = some (o_3) → (∀ (H : Heap) (locs : List Loc) (ls : Array Slot), va_P D vwCl [(q_this, .inr (8, [.ref q_text, .int v_size, .int v_at, .ref q_read, .ref q_l, .ref q_stands, .ref q_kept, .int v_keptMany, .ref q_one, .ref q_two, .ref q_ways, .ref q_now, .ref q_then])), (q_one, .inl (ca 0, 7, .inl v_one)), (q_two, .inl (ca 0, 7, .inl v_two)), (q_ways, .inl (ca 0, 49, .inl o_3))] H → va_D A [(q_this, .inr (8, [.ref q_text, .int v_size, .int v_at, .ref q_read, .ref q_l, .ref q_stands, .ref q_kept, .int v_keptMany, .ref q_one, .ref q_two, .ref q_ways, .ref q_now, .ref q_then])), (q_one, .inl (ca 0, 7, .inl v_one)), (q_two, .inl (ca 0, 7, .inl v_two)), (q_ways, .inl (ca 0, 49, .inl o_3))] → va_S A s.heap H locs → lv_has ls 5 [(0, .ref q_this)] → W p l e (headSpec wsX10_farOf rm_X10_farOf).room s m args below meth c H locs 0 0 Q (F0 m 150 ls [])) → va_P D vwCl [(q_this, .inr (8, [.ref q_text, .int v_size, .int v_at, .ref q_read, .ref q_l, .ref q_stands, .ref q_kept, .int v_keptMany, .ref q_one, .ref q_two, .ref q_ways, .ref q_now, .ref q_then])), (q_one, .inl (ca 0, 7, .inl v_one)), (q_two, .inl (ca 0, 7, .inl v_two)), (q_ways, .inl (ca 0, 49, .inl y_ways_2))] H → va_D A [(q_this, .inr (8, [.ref q_text, .int v_size, .int v_at, .ref q_read, .ref q_l, .ref q_stands, .ref q_kept, .int v_keptMany, .ref q_one, .ref q_two, .ref q_ways, .ref q_now, .ref q_then])), (q_one, .inl (ca 0, 7, .inl v_one)), (q_two, .inl (ca 0, 7, .inl v_two)), (q_ways, .inl (ca 0, 49, .inl y_ways_2))] → va_S A s.heap H locs → lv_has ls 5 [(0, .ref q_this), (1, .int x1_1)] → W p l e (headSpec wsX10_farOf rm_X10_farOf).room s m args below meth c H locs 0 0 Q (F0 m 2 ls []) := by
    intro n
    induction n with
    | zero => intro x1_1 y_ways_2 o_3 H locs ls h; have h : (none : Option ((Nat → Int32))) = some _ := h; cases h
    | succ n ih =>
      intro x1_1 y_ways_2 o_3 H locs ls h hex hP hD hS hl
      rw [lpg_succ, b_X10_farOf_2] at h
      refine lv_iload_n hx hb dX10_farOf_2 rfl (lv_at hl 1 rfl) ?_
      refine lv_aload_n hx hb dX10_farOf_3 rfl (lv_at hl 0 rfl) ?_
      refine va_get (D := D) (ci := 8) (v := .ref q_one) (C := RX10) (T := TX10) (N := 13) hx hb hts i_X10 hown hK hP 0 rfl rfl 8 (by decide) k_25 (fun _ h9 => h9) rfl dX10_farOf_4 ?_
      refine lv_iconst (v := (nI 0)) hx hb dX10_farOf_7 (by decide) ?_
      obtain ⟨hi_4, h⟩ := ck_el h
      refine va_iald hx hb hK hP 1 0 rfl rfl hi_4 dX10_farOf_8 ?_
      refine lv_icmp_gt (tgt := 150) hx hb dX10_farOf_9 (by decide) (fun c_5 => ?_) (fun c_5 => ?_)
      · replace h := ifp_el c_5 h
        cases h
        exact hex _ _ _ hP hD hS (lv_sub hl [0] rfl)
      · replace h := ifn_el c_5 h
        refine lv_iconst (v := (nI 0)) hx hb dX10_farOf_12 (by decide) ?_
        refine lv_istore_n (lv' := [(2, .int (nI 0)), (0, .ref q_this), (1, .int x1_1)]) hx hb dX10_farOf_13 rfl hl (by decide) rfl (fun ls hl => ?_)
        obtain ⟨o_8, hL, h⟩ := bd1_el h
        have hex : ∀ (H : Heap) (locs : List Loc) (ls : Array Slot), va_P D vwCl [(q_this, .inr (8, [.ref q_text, .int v_size, .int v_at, .ref q_read, .ref q_l, .ref q_stands, .ref q_kept, .int v_keptMany, .ref q_one, .ref q_two, .ref q_ways, .ref q_now, .ref q_then])), (q_one, .inl (ca 0, 7, .inl v_one)), (q_two, .inl (ca 0, 7, .inl v_two)), (q_ways, .inl (ca 0, 49, .inl o_8))] H → va_D A [(q_this, .inr (8, [.ref q_text, .int v_size, .int v_at, .ref q_read, .ref q_l, .ref q_stands, .ref q_kept, .int v_keptMany, .ref q_one, .ref q_two, .ref q_ways, .ref q_now, .ref q_then])), (q_one, .inl (ca 0, 7, .inl v_one)), (q_two, .inl (ca 0, 7, .inl v_two)), (q_ways, .inl (ca 0, 49, .inl o_8))] → va_S A s.heap H locs → lv_has ls 5 [(0, .ref q_this), (1, .int x1_1)] → W p l e (headSpec wsX10_farOf rm_X10_farOf).room s m args below meth c H locs 0 0 Q (F0 m 144 ls []) := by
          intro H locs ls hP hD hS hl
          obtain ⟨x1_33, e_34, h⟩ := nm_el h
          refine lv_iinc (v := x1_33) (lv' := [(1, .int x1_33), (0, .ref q_this)]) hx hb dX10_farOf_144 hl (k := 1) rfl (by rw [← e_34]; rfl) (by decide) rfl (fun ls hl => ?_)
          refine lv_goto (tgt := 2) hx hb dX10_farOf_147 (by decide) ?_
          exact ih _ _ _ _ _ _ h hex hP hD hS (lv_sub hl [1, 0] rfl)
        have hlp : ∀ (n : Nat) (x2_6 : Int32) (y_ways_7 : Nat → Int32) (o_8 : Nat → Int32) (H : Heap) (locs : List Loc) (ls : Array Slot), lpg (T := Int32 → (Nat → Int32) → Option ((Nat → Int32))) (fun _ _ => none) (b_X10_farOf_14 v_one v_two x1_1) n x2_6 y_ways_7 = some (o_8) → (∀ (H : Heap) (locs : List Loc) (ls : Array Slot), va_P D vwCl [(q_this, .inr (8, [.ref q_text, .int v_size, .int v_at, .ref q_read, .ref q_l, .ref q_stands, .ref q_kept, .int v_keptMany, .ref q_one, .ref q_two, .ref q_ways, .ref q_now, .ref q_then])), (q_one, .inl (ca 0, 7, .inl v_one)), (q_two, .inl (ca 0, 7, .inl v_two)), (q_ways, .inl (ca 0, 49, .inl o_8))] H → va_D A [(q_this, .inr (8, [.ref q_text, .int v_size, .int v_at, .ref q_read, .ref q_l, .ref q_stands, .ref q_kept, .int v_keptMany, .ref q_one, .ref q_two, .ref q_ways, .ref q_now, .ref q_then])), (q_one, .inl (ca 0, 7, .inl v_one)), (q_two, .inl (ca 0, 7, .inl v_two)), (q_ways, .inl (ca 0, 49, .inl o_8))] → va_S A s.heap H locs → lv_has ls 5 [(0, .ref q_this), (1, .int x1_1)] → W p l e (headSpec wsX10_farOf rm_X10_farOf).room s m args below meth c H locs 0 0 Q (F0 m 144 ls [])) → va_P D vwCl [(q_this, .inr (8, [.ref q_text, .int v_size, .int v_at, .ref q_read, .ref q_l, .ref q_stands, .ref q_kept, .int v_keptMany, .ref q_one, .ref q_two, .ref q_ways, .ref q_now, .ref q_then])), (q_one, .inl (ca 0, 7, .inl v_one)), (q_two, .inl (ca 0, 7, .inl v_two)), (q_ways, .inl (ca 0, 49, .inl y_ways_7))] H → va_D A [(q_this, .inr (8, [.ref q_text, .int v_size, .int v_at, .ref q_read, .ref q_l, .ref q_stands, .ref q_kept, .int v_keptMany, .ref q_one, .ref q_two, .ref q_ways, .ref q_now, .ref q_then])), (q_one, .inl (ca 0, 7, .inl v_one)), (q_two, .inl (ca 0, 7, .inl v_two)), (q_ways, .inl (ca 0, 49, .inl y_ways_7))] → va_S A s.heap H locs → lv_has ls 5 [(0, .ref q_this), (1, .int x1_1), (2, .int x2_6)] → W p l e (headSpec wsX10_farOf rm_X10_farOf).room s m args below meth c H locs 0 0 Q (F0 m 14 ls []) := by
          intro n
          induction n with
          | zero => intro x2_6 y_ways_7 o_8 H locs ls h; have h : (none : Option ((Nat → Int32))) = some _ := h; cases h
          | succ n ih =>
            intro x2_6 y_ways_7 o_8 H locs ls h hex hP hD hS hl
            rw [lpg_succ, b_X10_farOf_14] at h
            refine lv_iload_n hx hb dX10_farOf_14 rfl (lv_at hl 2 rfl) ?_
            refine lv_aload_n hx hb dX10_farOf_15 rfl (lv_at hl 0 rfl) ?_
            refine va_get (D := D) (ci := 8) (v := .ref q_two) (C := RX10) (T := TX10) (N := 13) hx hb hts i_X10 hown hK hP 0 rfl rfl 9 (by decide) k_28 (fun _ h9 => h9) rfl dX10_farOf_16 ?_
            refine lv_iconst (v := (nI 0)) hx hb dX10_farOf_19 (by decide) ?_
            obtain ⟨hi_9, h⟩ := ck_el h
            refine va_iald hx hb hK hP 2 0 rfl rfl hi_9 dX10_farOf_20 ?_
            refine lv_icmp_gt (tgt := 144) hx hb dX10_farOf_21 (by decide) (fun c_10 => ?_) (fun c_10 => ?_)
            · replace h := ifp_el c_10 h
              cases h
              exact hex _ _ _ hP hD hS (lv_sub hl [0, 1] rfl)
            · replace h := ifn_el c_10 h
              refine lv_iload_n hx hb dX10_farOf_24 rfl (lv_at hl 1 rfl) ?_
              have hj_42 : ∀ (z0_11 : Int32) (H : Heap) (locs : List Loc) (ls : Array Slot), j_X10_farOf_42 v_one v_two x1_1 x2_6 y_ways_7 (lpg (T := Int32 → (Nat → Int32) → Option ((Nat → Int32))) (fun _ _ => none) (b_X10_farOf_14 v_one v_two x1_1) n) z0_11 = some (o_8) → va_P D vwCl [(q_this, .inr (8, [.ref q_text, .int v_size, .int v_at, .ref q_read, .ref q_l, .ref q_stands, .ref q_kept, .int v_keptMany, .ref q_one, .ref q_two, .ref q_ways, .ref q_now, .ref q_then])), (q_one, .inl (ca 0, 7, .inl v_one)), (q_two, .inl (ca 0, 7, .inl v_two)), (q_ways, .inl (ca 0, 49, .inl y_ways_7))] H → va_D A [(q_this, .inr (8, [.ref q_text, .int v_size, .int v_at, .ref q_read, .ref q_l, .ref q_stands, .ref q_kept, .int v_keptMany, .ref q_one, .ref q_two, .ref q_ways, .ref q_now, .ref q_then])), (q_one, .inl (ca 0, 7, .inl v_one)), (q_two, .inl (ca 0, 7, .inl v_two)), (q_ways, .inl (ca 0, 49, .inl y_ways_7))] → va_S A s.heap H locs → lv_has ls 5 [(0, .ref q_this), (1, .int x1_1), (2, .int x2_6)] → W p l e (headSpec wsX10_farOf rm_X10_farOf).room s m args below meth c H locs 0 0 Q (F0 m 42 ls [.int z0_11]) := by
                intro z0_11 H locs ls h hP hD hS hl
                rw [j_X10_farOf_42] at h
                refine lv_istore_n (lv' := [(3, .int z0_11), (0, .ref q_this), (1, .int x1_1), (2, .int x2_6)]) hx hb dX10_farOf_42 rfl hl (by decide) rfl (fun ls hl => ?_)
                refine lv_iload_n hx hb dX10_farOf_43 rfl (lv_at hl 2 rfl) ?_
                have hj_126 : ∀ (x3_12 : Int32) (H : Heap) (locs : List Loc) (ls : Array Slot), j_X10_farOf_126 x1_1 x2_6 y_ways_7 (lpg (T := Int32 → (Nat → Int32) → Option ((Nat → Int32))) (fun _ _ => none) (b_X10_farOf_14 v_one v_two x1_1) n) x3_12 = some (o_8) → va_P D vwCl [(q_this, .inr (8, [.ref q_text, .int v_size, .int v_at, .ref q_read, .ref q_l, .ref q_stands, .ref q_kept, .int v_keptMany, .ref q_one, .ref q_two, .ref q_ways, .ref q_now, .ref q_then])), (q_one, .inl (ca 0, 7, .inl v_one)), (q_two, .inl (ca 0, 7, .inl v_two)), (q_ways, .inl (ca 0, 49, .inl y_ways_7))] H → va_D A [(q_this, .inr (8, [.ref q_text, .int v_size, .int v_at, .ref q_read, .ref q_l, .ref q_stands, .ref q_kept, .int v_keptMany, .ref q_one, .ref q_two, .ref q_ways, .ref q_now, .ref q_then])), (q_one, .inl (ca 0, 7, .inl v_one)), (q_two, .inl (ca 0, 7, .inl v_two)), (q_ways, .inl (ca 0, 49, .inl y_ways_7))] → va_S A s.heap H locs → lv_has ls 5 [(0, .ref q_this), (1, .int x1_1), (2, .int x2_6), (3, .int x3_12)] → W p l e (headSpec wsX10_farOf rm_X10_farOf).room s m args below meth c H locs 0 0 Q (F0 m 126 ls []) := by
                  intro x3_12 H locs ls h hP hD hS hl
                  rw [j_X10_farOf_126] at h
                  refine lv_aload_n hx hb dX10_farOf_126 rfl (lv_at hl 0 rfl) ?_
                  refine va_get (D := D) (ci := 8) (v := .ref q_ways) (C := RX10) (T := TX10) (N := 13) hx hb hts i_X10 hown hK hP 0 rfl rfl 10 (by decide) k_31 (fun _ h9 => h9) rfl dX10_farOf_127 ?_
                  refine lv_bipush (v := (nI 7)) hx hb dX10_farOf_130 (by decide) ?_
                  refine lv_iload_n hx hb dX10_farOf_132 rfl (lv_at hl 1 rfl) ?_
                  refine lv_imul hx hb dX10_farOf_133 ?_
                  refine lv_iload_n hx hb dX10_farOf_134 rfl (lv_at hl 2 rfl) ?_
                  refine lv_iadd hx hb dX10_farOf_135 ?_
                  refine lv_iload_n hx hb dX10_farOf_136 rfl (lv_at hl 3 rfl) ?_
                  obtain ⟨hi_13, h⟩ := ck_el h
                  refine va_iast hx hb hK hP hD hS 3 0 rfl rfl hi_13 dX10_farOf_137 (fun H locs hP hD hS => ?_)
                  have hP : va_P D vwCl [(q_this, .inr (8, [.ref q_text, .int v_size, .int v_at, .ref q_read, .ref q_l, .ref q_stands, .ref q_kept, .int v_keptMany, .ref q_one, .ref q_two, .ref q_ways, .ref q_now, .ref q_then])), (q_one, .inl (ca 0, 7, .inl v_one)), (q_two, .inl (ca 0, 7, .inl v_two)), (q_ways, .inl (ca 0, 49, .inl (upd y_ways_7 (((nI 7) * x1_1) + x2_6).toNatClampNeg x3_12)))] H := hP
                  have hD : va_D A [(q_this, .inr (8, [.ref q_text, .int v_size, .int v_at, .ref q_read, .ref q_l, .ref q_stands, .ref q_kept, .int v_keptMany, .ref q_one, .ref q_two, .ref q_ways, .ref q_now, .ref q_then])), (q_one, .inl (ca 0, 7, .inl v_one)), (q_two, .inl (ca 0, 7, .inl v_two)), (q_ways, .inl (ca 0, 49, .inl (upd y_ways_7 (((nI 7) * x1_1) + x2_6).toNatClampNeg x3_12)))] := hD
                  obtain ⟨x2_14, e_15, h⟩ := nm_el h
                  refine lv_iinc (v := x2_14) (lv' := [(2, .int x2_14), (0, .ref q_this), (1, .int x1_1), (3, .int x3_12)]) hx hb dX10_farOf_138 hl (k := 2) rfl (by rw [← e_15]; rfl) (by decide) rfl (fun ls hl => ?_)
                  refine lv_goto (tgt := 14) hx hb dX10_farOf_141 (by decide) ?_
                  exact ih _ _ _ _ _ _ h hex hP hD hS (lv_sub hl [1, 2, 0] rfl)
                refine lv_if_le (tgt := 126) hx hb dX10_farOf_44 (by decide) (fun c_16 => ?_) (fun c_16 => ?_)
                · replace h := ifp_el c_16 h
                  exact hj_126 _ _ _ _ h hP hD hS (lv_sub hl [1, 2, 3, 0] rfl)
                · replace h := ifn_el c_16 h
                  refine lv_iload_n hx hb dX10_farOf_47 rfl (lv_at hl 3 rfl) ?_
                  refine lv_if_le (tgt := 126) hx hb dX10_farOf_48 (by decide) (fun c_17 => ?_) (fun c_17 => ?_)
                  · replace h := ifp_el c_17 h
                    exact hj_126 _ _ _ _ h hP hD hS (lv_sub hl [1, 2, 3, 0] rfl)
                  · replace h := ifn_el c_17 h
                    refine lv_aload_n hx hb dX10_farOf_51 rfl (lv_at hl 1 rfl) ?_
                    refine va_get (D := D) (ci := 8) (v := .ref q_ways) (C := RX10) (T := TX10) (N := 13) hx hb hts i_X10 hown hK hP 0 rfl rfl 10 (by decide) k_31 (fun _ h9 => h9) rfl dX10_farOf_52 ?_
                    refine lv_bipush (v := (nI 7)) hx hb dX10_farOf_55 (by decide) ?_
                    refine lv_iload_n hx hb dX10_farOf_57 rfl (lv_at hl 2 rfl) ?_
                    refine lv_iconst (v := (nI 1)) hx hb dX10_farOf_58 (by decide) ?_
                    refine lv_isub hx hb dX10_farOf_59 ?_
                    refine lv_imul hx hb dX10_farOf_60 ?_
                    refine lv_iload_n hx hb dX10_farOf_61 rfl (lv_at hl 3 rfl) ?_
                    refine lv_iadd hx hb dX10_farOf_62 ?_
                    refine lv_iconst (v := (nI 1)) hx hb dX10_farOf_63 (by decide) ?_
                    refine lv_isub hx hb dX10_farOf_64 ?_
                    obtain ⟨hi_18, h⟩ := ck_el h
                    refine va_iald hx hb hK hP 3 0 rfl rfl hi_18 dX10_farOf_65 ?_
                    refine lv_aload_n hx hb dX10_farOf_66 rfl (lv_at hl 1 rfl) ?_
                    refine va_get (D := D) (ci := 8) (v := .ref q_one) (C := RX10) (T := TX10) (N := 13) hx hb hts i_X10 hown hK hP 0 rfl rfl 8 (by decide) k_25 (fun _ h9 => h9) rfl dX10_farOf_67 ?_
                    refine lv_iload_n hx hb dX10_farOf_70 rfl (lv_at hl 2 rfl) ?_
                    obtain ⟨hi_19, h⟩ := ck_el h
                    refine va_iald hx hb hK hP 1 0 rfl rfl hi_19 dX10_farOf_71 ?_
                    refine lv_aload_n hx hb dX10_farOf_72 rfl (lv_at hl 1 rfl) ?_
                    refine va_get (D := D) (ci := 8) (v := .ref q_two) (C := RX10) (T := TX10) (N := 13) hx hb hts i_X10 hown hK hP 0 rfl rfl 9 (by decide) k_28 (fun _ h9 => h9) rfl dX10_farOf_73 ?_
                    refine lv_iload_n hx hb dX10_farOf_76 rfl (lv_at hl 3 rfl) ?_
                    obtain ⟨hi_20, h⟩ := ck_el h
                    refine va_iald hx hb hK hP 2 0 rfl rfl hi_20 dX10_farOf_77 ?_
                    have hj_86 : ∀ (z0_21 : Int32) (z1_22 : Int32) (H : Heap) (locs : List Loc) (ls : Array Slot), j_X10_farOf_86 x1_1 x2_6 y_ways_7 (lpg (T := Int32 → (Nat → Int32) → Option ((Nat → Int32))) (fun _ _ => none) (b_X10_farOf_14 v_one v_two x1_1) n) z0_21 z1_22 = some (o_8) → va_P D vwCl [(q_this, .inr (8, [.ref q_text, .int v_size, .int v_at, .ref q_read, .ref q_l, .ref q_stands, .ref q_kept, .int v_keptMany, .ref q_one, .ref q_two, .ref q_ways, .ref q_now, .ref q_then])), (q_one, .inl (ca 0, 7, .inl v_one)), (q_two, .inl (ca 0, 7, .inl v_two)), (q_ways, .inl (ca 0, 49, .inl y_ways_7))] H → va_D A [(q_this, .inr (8, [.ref q_text, .int v_size, .int v_at, .ref q_read, .ref q_l, .ref q_stands, .ref q_kept, .int v_keptMany, .ref q_one, .ref q_two, .ref q_ways, .ref q_now, .ref q_then])), (q_one, .inl (ca 0, 7, .inl v_one)), (q_two, .inl (ca 0, 7, .inl v_two)), (q_ways, .inl (ca 0, 49, .inl y_ways_7))] → va_S A s.heap H locs → lv_has ls 5 [(0, .ref q_this), (1, .int x1_1), (2, .int x2_6)] → W p l e (headSpec wsX10_farOf rm_X10_farOf).room s m args below meth c H locs 0 0 Q (F0 m 86 ls [.int z1_22, .int z0_21]) := by
                      intro z0_21 z1_22 H locs ls h hP hD hS hl
                      rw [j_X10_farOf_86] at h
                      refine lv_iadd hx hb dX10_farOf_86 ?_
                      refine lv_nmi h (fun x4_23 h => ?_)
                      refine lv_istore (lv' := [(4, .int x4_23), (0, .ref q_this), (1, .int x1_1), (2, .int x2_6)]) hx hb dX10_farOf_87 hl (by decide) rfl (fun ls hl => ?_)
                      refine lv_iload hx hb dX10_farOf_89 (lv_at hl 0 rfl) ?_
                      refine lv_iconst (v := (nI 1)) hx hb dX10_farOf_91 (by decide) ?_
                      refine lv_aload_n hx hb dX10_farOf_92 rfl (lv_at hl 1 rfl) ?_
                      refine va_get (D := D) (ci := 8) (v := .ref q_ways) (C := RX10) (T := TX10) (N := 13) hx hb hts i_X10 hown hK hP 0 rfl rfl 10 (by decide) k_31 (fun _ h9 => h9) rfl dX10_farOf_93 ?_
                      refine lv_bipush (v := (nI 7)) hx hb dX10_farOf_96 (by decide) ?_
                      refine lv_iload_n hx hb dX10_farOf_98 rfl (lv_at hl 2 rfl) ?_
                      refine lv_iconst (v := (nI 1)) hx hb dX10_farOf_99 (by decide) ?_
                      refine lv_isub hx hb dX10_farOf_100 ?_
                      refine lv_imul hx hb dX10_farOf_101 ?_
                      refine lv_iload_n hx hb dX10_farOf_102 rfl (lv_at hl 3 rfl) ?_
                      refine lv_iadd hx hb dX10_farOf_103 ?_
                      obtain ⟨hi_24, h⟩ := ck_el h
                      refine va_iald hx hb hK hP 3 0 rfl rfl hi_24 dX10_farOf_104 ?_
                      refine lv_aload_n hx hb dX10_farOf_105 rfl (lv_at hl 1 rfl) ?_
                      refine va_get (D := D) (ci := 8) (v := .ref q_ways) (C := RX10) (T := TX10) (N := 13) hx hb hts i_X10 hown hK hP 0 rfl rfl 10 (by decide) k_31 (fun _ h9 => h9) rfl dX10_farOf_106 ?_
                      refine lv_bipush (v := (nI 7)) hx hb dX10_farOf_109 (by decide) ?_
                      refine lv_iload_n hx hb dX10_farOf_111 rfl (lv_at hl 2 rfl) ?_
                      refine lv_imul hx hb dX10_farOf_112 ?_
                      refine lv_iload_n hx hb dX10_farOf_113 rfl (lv_at hl 3 rfl) ?_
                      refine lv_iadd hx hb dX10_farOf_114 ?_
                      refine lv_iconst (v := (nI 1)) hx hb dX10_farOf_115 (by decide) ?_
                      refine lv_isub hx hb dX10_farOf_116 ?_
                      obtain ⟨hi_25, h⟩ := ck_el h
                      refine va_iald hx hb hK hP 3 0 rfl rfl hi_25 dX10_farOf_117 ?_
                      obtain ⟨r_26, hg_27, h⟩ := bd1_el h
                      refine kx_Si (As := [.int (y_ways_7 (((nI 7) * (x1_1 - (nI 1))) + x2_6).toNatClampNeg), .int (y_ways_7 ((((nI 7) * x1_1) + x2_6) - (nI 1)).toNatClampNeg)]) (rest := [.int (nI 1), .int x4_23]) (wr := [(q_this, .inr (8, [.ref q_text, .int v_size, .int v_at, .ref q_read, .ref q_l, .ref q_stands, .ref q_kept, .int v_keptMany, .ref q_one, .ref q_two, .ref q_ways, .ref q_now, .ref q_then])), (q_one, .inl (ca 0, 7, .inl v_one)), (q_two, .inl (ca 0, 7, .inl v_two)), (q_ways, .inl (ca 0, 49, .inl y_ways_7))]) (w1 := []) (wn := [(q_this, .inr (8, [.ref q_text, .int v_size, .int v_at, .ref q_read, .ref q_l, .ref q_stands, .ref q_kept, .int v_keptMany, .ref q_one, .ref q_two, .ref q_ways, .ref q_now, .ref q_then])), (q_one, .inl (ca 0, 7, .inl v_one)), (q_two, .inl (ca 0, 7, .inl v_two)), (q_ways, .inl (ca 0, 49, .inl y_ways_7))]) ⟨hx, hb, hml, hown, hts⟩ (c_X10_least l D ca H.size (y_ways_7 (((nI 7) * (x1_1 - (nI 1))) + x2_6).toNatClampNeg) (y_ways_7 ((((nI 7) * x1_1) + x2_6) - (nI 1)).toNatClampNeg) r_26 hg_27) (va_cwS 2 hts gX10_farOf_X10_least rfl rfl rfl (by decide +kernel) ⟨(Nat.le_of_ble_eq_true rfl), (Nat.le_of_ble_eq_true rfl)⟩) hK hP hD hS hA [] [0, 1, 2, 3] [0, 1, 2, 3] rfl rfl rfl rfl (by decide) rfl rfl rfl hl.1 rfl (Nat.le_of_ble_eq_true rfl) dX10_farOf_118 ⟨Nat.zero_le _, Nat.zero_le _⟩ (fun H locs hP hD hS => ?_)
                      refine lv_iadd hx hb dX10_farOf_121 ?_
                      obtain ⟨r_28, hg_29, h⟩ := bd1_el h
                      refine kx_Si (As := [.int x4_23, .int ((nI 1) + r_26)]) (rest := []) (wr := [(q_this, .inr (8, [.ref q_text, .int v_size, .int v_at, .ref q_read, .ref q_l, .ref q_stands, .ref q_kept, .int v_keptMany, .ref q_one, .ref q_two, .ref q_ways, .ref q_now, .ref q_then])), (q_one, .inl (ca 0, 7, .inl v_one)), (q_two, .inl (ca 0, 7, .inl v_two)), (q_ways, .inl (ca 0, 49, .inl y_ways_7))]) (w1 := []) (wn := [(q_this, .inr (8, [.ref q_text, .int v_size, .int v_at, .ref q_read, .ref q_l, .ref q_stands, .ref q_kept, .int v_keptMany, .ref q_one, .ref q_two, .ref q_ways, .ref q_now, .ref q_then])), (q_one, .inl (ca 0, 7, .inl v_one)), (q_two, .inl (ca 0, 7, .inl v_two)), (q_ways, .inl (ca 0, 49, .inl y_ways_7))]) ⟨hx, hb, hml, hown, hts⟩ (c_X10_least l D ca H.size x4_23 ((nI 1) + r_26) r_28 hg_29) (va_cwS 2 hts gX10_farOf_X10_least rfl rfl rfl (by decide +kernel) ⟨(Nat.le_of_ble_eq_true rfl), (Nat.le_of_ble_eq_true rfl)⟩) hK hP hD hS hA [] [0, 1, 2, 3] [0, 1, 2, 3] rfl rfl rfl rfl (by decide) rfl rfl rfl hl.1 rfl (Nat.le_of_ble_eq_true rfl) dX10_farOf_122 ⟨Nat.zero_le _, Nat.zero_le _⟩ (fun H locs hP hD hS => ?_)
                      refine lv_istore_n (lv' := [(3, .int r_28), (4, .int x4_23), (0, .ref q_this), (1, .int x1_1), (2, .int x2_6)]) hx hb dX10_farOf_125 rfl hl (by decide) rfl (fun ls hl => ?_)
                      exact hj_126 _ _ _ _ h hP hD hS (lv_sub hl [2, 3, 4, 0] rfl)
                    refine lv_icmp_ne (tgt := 85) hx hb dX10_farOf_78 (by decide) (fun c_30 => ?_) (fun c_30 => ?_)
                    · replace h := ifn_el c_30 h
                      refine lv_iconst (v := (nI 1)) hx hb dX10_farOf_85 (by decide) ?_
                      exact hj_86 _ _ _ _ _ h hP hD hS (lv_sub hl [1, 2, 3] rfl)
                    · replace h := ifp_el c_30 h
                      refine lv_iconst (v := (nI 0)) hx hb dX10_farOf_81 (by decide) ?_
                      refine lv_goto (tgt := 86) hx hb dX10_farOf_82 (by decide) ?_
                      exact hj_86 _ _ _ _ _ h hP hD hS (lv_sub hl [1, 2, 3] rfl)
              refine lv_if_ne (tgt := 32) hx hb dX10_farOf_25 (by decide) (fun c_31 => ?_) (fun c_31 => ?_)
              · replace h := ifn_el c_31 h
                refine lv_iload_n hx hb dX10_farOf_32 rfl (lv_at hl 2 rfl) ?_
                refine lv_if_ne (tgt := 40) hx hb dX10_farOf_33 (by decide) (fun c_32 => ?_) (fun c_32 => ?_)
                · replace h := ifn_el c_32 h
                  refine lv_bipush (v := (nI 99)) hx hb dX10_farOf_40 (by decide) ?_
                  exact hj_42 _ _ _ _ h hP hD hS (lv_sub hl [0, 1, 2] rfl)
                · replace h := ifp_el c_32 h
                  refine lv_iload_n hx hb dX10_farOf_36 rfl (lv_at hl 1 rfl) ?_
                  refine lv_goto (tgt := 42) hx hb dX10_farOf_37 (by decide) ?_
                  exact hj_42 _ _ _ _ h hP hD hS (lv_sub hl [0, 1, 2] rfl)
              · replace h := ifp_el c_31 h
                refine lv_iload_n hx hb dX10_farOf_28 rfl (lv_at hl 2 rfl) ?_
                refine lv_goto (tgt := 42) hx hb dX10_farOf_29 (by decide) ?_
                exact hj_42 _ _ _ _ h hP hD hS (lv_sub hl [0, 1, 2] rfl)
        exact hlp F (nI 0) y_ways_2 o_8 H locs ls hL hex hP hD hS (lv_sub hl [1, 2, 0] rfl)
  exact hlp F (nI 0) v_ways o_3 s.heap [] ls hL hex hP hD hS (lv_sub hl [1, 0] rfl)
def j_X10_likeOf_30 (v_one : Nat → Int32) (v_two : Nat → Int32) (v_ways : Nat → Int32) (F : Nat) (z0_3 : Int32) : Option (Int32 × (Nat → Int32)) := (if z0_3 = 0 then some ((nI 100), v_ways) else bd2 (D_X10_farOf F v_one v_two v_ways) (fun r_5 y_ways_6 => dz z0_3 (some (((nI 100) - (((nI 100) * r_5) / z0_3)), y_ways_6))))
def D_X10_likeOf (F : Nat) (v_one : Nat → Int32) (v_two : Nat → Int32) (v_ways : Nat → Int32) : Option (Int32 × (Nat → Int32)) := ck 7 (nI 0) (ck 7 (nI 0) ((if (v_one (nI 0).toNatClampNeg) ≤ (v_two (nI 0).toNatClampNeg) then ck 7 (nI 0) (j_X10_likeOf_30 v_one v_two v_ways F (v_two (nI 0).toNatClampNeg)) else ck 7 (nI 0) (j_X10_likeOf_30 v_one v_two v_ways F (v_one (nI 0).toNatClampNeg)))))
abbrev rm_X10_likeOf : Room := { frames := 2, cells := 0, slots := 0, locals := 45 }
set_option maxHeartbeats 4000000 in
set_option maxRecDepth 100000 in
theorem c_X10_likeOf (l : Launch) (D : va_G) (ca : Nat → ClassId) (F : Nat) (sz : Nat) (q_this q_text q_read q_l q_stands q_kept q_one q_two q_ways q_now q_then : Nat) (v_size : Int32) (v_at : Int32) (v_keptMany : Int32) (v_one : Nat → Int32) (v_two : Nat → Int32) (v_ways : Nat → Int32) (r : Int32) (o_ways : Nat → Int32) (h : D_X10_likeOf F v_one v_two v_ways = some (r, o_ways)) : Met l yX10_likeOf wsX10_likeOf rm_X10_likeOf (va_Pc [.ref q_this] (kPre D ca [(q_this, .inr (8, [.ref q_text, .int v_size, .int v_at, .ref q_read, .ref q_l, .ref q_stands, .ref q_kept, .int v_keptMany, .ref q_one, .ref q_two, .ref q_ways, .ref q_now, .ref q_then])), (q_one, .inl (ca 0, 7, .inl v_one)), (q_two, .inl (ca 0, 7, .inl v_two)), (q_ways, .inl (ca 0, 49, .inl v_ways))] sz)) (kQi D ca (va_A [(q_this, .inr (8, [.ref q_text, .int v_size, .int v_at, .ref q_read, .ref q_l, .ref q_stands, .ref q_kept, .int v_keptMany, .ref q_one, .ref q_two, .ref q_ways, .ref q_now, .ref q_then])), (q_one, .inl (ca 0, 7, .inl v_one)), (q_two, .inl (ca 0, 7, .inl v_two)), (q_ways, .inl (ca 0, 49, .inl v_ways))] sz) [(q_this, .inr (8, [.ref q_text, .int v_size, .int v_at, .ref q_read, .ref q_l, .ref q_stands, .ref q_kept, .int v_keptMany, .ref q_one, .ref q_two, .ref q_ways, .ref q_now, .ref q_then])), (q_one, .inl (ca 0, 7, .inl v_one)), (q_two, .inl (ca 0, 7, .inl v_two)), (q_ways, .inl (ca 0, 49, .inl o_ways))] r) 0 0 (va_A [(q_this, .inr (8, [.ref q_text, .int v_size, .int v_at, .ref q_read, .ref q_l, .ref q_stands, .ref q_kept, .int v_keptMany, .ref q_one, .ref q_two, .ref q_ways, .ref q_now, .ref q_then])), (q_one, .inl (ca 0, 7, .inl v_one)), (q_two, .inl (ca 0, 7, .inl v_two)), (q_ways, .inl (ca 0, 49, .inl v_ways))] sz) := by
  refine Met.ofW (cc := cX10_likeOf) (maxL := 2) (ret := (some .int)) (by decide +kernel) rfl ?_
  intro p e s m args below meth c s₁ B hml hv
  obtain ⟨rfl, hsz, hP, hK, hD0⟩ := hv
  have hx := B.exec
  have hb := B.bytes
  have hr := B.returns
  have hts := atoms_spec (ws := wsX10_likeOf) B.pre
  have hown : s.vm.findClass RX10 = some m.cls := findClass_of_methodNamed B.named
  have hlocks := B.notSynchronized
  clear B
  subst hsz
  have hD := hD0.self (sz := s.heap.size)
  generalize hAe : va_A [(q_this, .inr (8, [.ref q_text, .int v_size, .int v_at, .ref q_read, .ref q_l, .ref q_stands, .ref q_kept, .int v_keptMany, .ref q_one, .ref q_two, .ref q_ways, .ref q_now, .ref q_then])), (q_one, .inl (ca 0, 7, .inl v_one)), (q_two, .inl (ca 0, 7, .inl v_two)), (q_ways, .inl (ca 0, 49, .inl v_ways))] s.heap.size = A at hD ⊢
  have hA : ∀ q : Nat, s.heap.size ≤ q → A q := fun q h => by rw [← hAe]; exact Or.inr h
  have hS : va_S A s.heap s.heap [] := va_S.rf
  have hl := lv_entry ([.ref q_this]) (n := 2) (Nat.le_of_ble_eq_true rfl)
  rw [lg_entry_eq]
  generalize (lg_sl ([.ref q_this]) ++ List.replicate (2 - (lg_sl ([.ref q_this])).length) Slot.unset).toArray = ls at hl ⊢
  have hl : lv_has ls 2 [(0, .ref q_this)] := hl
  generalize ([.ref q_this] : List Value).toArray = args at hts ⊢
  generalize hQe : MQ below (kQi D ca (A) [(q_this, .inr (8, [.ref q_text, .int v_size, .int v_at, .ref q_read, .ref q_l, .ref q_stands, .ref q_kept, .int v_keptMany, .ref q_one, .ref q_two, .ref q_ways, .ref q_now, .ref q_then])), (q_one, .inl (ca 0, 7, .inl v_one)), (q_two, .inl (ca 0, 7, .inl v_two)), (q_ways, .inl (ca 0, 49, .inl o_ways))] r) args s 0 0 A = Q
  have i_X10 : ∀ w ∈ u_ws RX10 TX10 13, w ∈ wsX10_likeOf := by decide +kernel
  have k_25 := hts (.fieldLink RX10 25 "TradeWordsModel" "one" "[I") (by decide +kernel)
  have k_28 := hts (.fieldLink RX10 28 "TradeWordsModel" "two" "[I") (by decide +kernel)
  rw [D_X10_likeOf] at h
  refine lv_aload_n hx hb dX10_likeOf_0 rfl (lv_at hl 0 rfl) ?_
  refine va_get (D := D) (ci := 8) (v := .ref q_one) (C := RX10) (T := TX10) (N := 13) hx hb hts i_X10 hown hK hP 0 rfl rfl 8 (by decide) k_25 (fun _ h9 => h9) rfl dX10_likeOf_1 ?_
  refine lv_iconst (v := (nI 0)) hx hb dX10_likeOf_4 (by decide) ?_
  obtain ⟨hi_1, h⟩ := ck_el h
  refine va_iald hx hb hK hP 1 0 rfl rfl hi_1 dX10_likeOf_5 ?_
  refine lv_aload_n hx hb dX10_likeOf_6 rfl (lv_at hl 0 rfl) ?_
  refine va_get (D := D) (ci := 8) (v := .ref q_two) (C := RX10) (T := TX10) (N := 13) hx hb hts i_X10 hown hK hP 0 rfl rfl 9 (by decide) k_28 (fun _ h9 => h9) rfl dX10_likeOf_7 ?_
  refine lv_iconst (v := (nI 0)) hx hb dX10_likeOf_10 (by decide) ?_
  obtain ⟨hi_2, h⟩ := ck_el h
  refine va_iald hx hb hK hP 2 0 rfl rfl hi_2 dX10_likeOf_11 ?_
  have hj_30 : ∀ (z0_3 : Int32) (H : Heap) (locs : List Loc) (ls : Array Slot), j_X10_likeOf_30 v_one v_two v_ways F z0_3 = some (r, o_ways) → va_P D vwCl [(q_this, .inr (8, [.ref q_text, .int v_size, .int v_at, .ref q_read, .ref q_l, .ref q_stands, .ref q_kept, .int v_keptMany, .ref q_one, .ref q_two, .ref q_ways, .ref q_now, .ref q_then])), (q_one, .inl (ca 0, 7, .inl v_one)), (q_two, .inl (ca 0, 7, .inl v_two)), (q_ways, .inl (ca 0, 49, .inl v_ways))] H → va_D A [(q_this, .inr (8, [.ref q_text, .int v_size, .int v_at, .ref q_read, .ref q_l, .ref q_stands, .ref q_kept, .int v_keptMany, .ref q_one, .ref q_two, .ref q_ways, .ref q_now, .ref q_then])), (q_one, .inl (ca 0, 7, .inl v_one)), (q_two, .inl (ca 0, 7, .inl v_two)), (q_ways, .inl (ca 0, 49, .inl v_ways))] → va_S A s.heap H locs → lv_has ls 2 [(0, .ref q_this)] → W p l e (headSpec wsX10_likeOf rm_X10_likeOf).room s m args below meth c H locs 0 0 Q (F0 m 30 ls [.int z0_3]) := by
    intro z0_3 H locs ls h hP hD hS hl
    rw [j_X10_likeOf_30] at h
    refine lv_istore_n (lv' := [(1, .int z0_3), (0, .ref q_this)]) hx hb dX10_likeOf_30 rfl hl (by decide) rfl (fun ls hl => ?_)
    refine lv_iload_n hx hb dX10_likeOf_31 rfl (lv_at hl 0 rfl) ?_
    refine lv_if_ne (tgt := 40) hx hb dX10_likeOf_32 (by decide) (fun c_4 => ?_) (fun c_4 => ?_)
    · replace h := ifn_el c_4 h
      refine lv_bipush (v := (nI 100)) hx hb dX10_likeOf_40 (by decide) ?_
      refine lv_bipush (v := (nI 100)) hx hb dX10_likeOf_42 (by decide) ?_
      refine lv_aload_n hx hb dX10_likeOf_44 rfl (lv_at hl 1 rfl) ?_
      obtain ⟨r_5, y_ways_6, hg_7, h⟩ := bd2_el h
      refine kx_Vi (As := []) (rest := [.int (nI 100), .int (nI 100)]) (wr := []) (w1 := [(q_this, .inr (8, [.ref q_text, .int v_size, .int v_at, .ref q_read, .ref q_l, .ref q_stands, .ref q_kept, .int v_keptMany, .ref q_one, .ref q_two, .ref q_ways, .ref q_now, .ref q_then])), (q_one, .inl (ca 0, 7, .inl v_one)), (q_two, .inl (ca 0, 7, .inl v_two)), (q_ways, .inl (ca 0, 49, .inl y_ways_6))]) (wn := [(q_this, .inr (8, [.ref q_text, .int v_size, .int v_at, .ref q_read, .ref q_l, .ref q_stands, .ref q_kept, .int v_keptMany, .ref q_one, .ref q_two, .ref q_ways, .ref q_now, .ref q_then])), (q_one, .inl (ca 0, 7, .inl v_one)), (q_two, .inl (ca 0, 7, .inl v_two)), (q_ways, .inl (ca 0, 49, .inl y_ways_6))]) ⟨hx, hb, hml, hown, hts⟩ (c_X10_farOf l D ca F H.size q_this q_text q_read q_l q_stands q_kept q_one q_two q_ways q_now q_then v_size v_at v_keptMany v_one v_two v_ways r_5 y_ways_6 hg_7) (cwV 0 hts gX10_likeOf_X10_farOf rfl rfl rfl (by decide +kernel) ⟨(Nat.le_of_ble_eq_true rfl), (Nat.le_of_ble_eq_true rfl)⟩) hK hP hD hS hA (ci := 8) (q0 := 0) rfl rfl [0, 1, 2, 3] [] [0, 1, 2, 3] rfl rfl rfl rfl (by decide) rfl rfl rfl hl.1 rfl (Nat.le_of_ble_eq_true rfl) dX10_likeOf_45 ⟨Nat.zero_le _, Nat.zero_le _⟩ (fun H locs hP hD hS => ?_)
      refine lv_imul hx hb dX10_likeOf_48 ?_
      refine lv_iload_n hx hb dX10_likeOf_49 rfl (lv_at hl 0 rfl) ?_
      obtain ⟨hn_8, h⟩ := dz_el h
      refine lv_idiv hx hb dX10_likeOf_50 hn_8 ?_
      refine lv_isub hx hb dX10_likeOf_51 ?_
      cases h
      rw [← hQe]
      exact W.iret hx hb hr (fun t ht hW => ⟨⟨_, (), rfl, rfl, by rw [ht]; exact hP, va_K.moved hW.alike hK, hD⟩, hS.F ht⟩) hS.2.2 dX10_likeOf_52
    · replace h := ifp_el c_4 h
      refine lv_bipush (v := (nI 100)) hx hb dX10_likeOf_35 (by decide) ?_
      refine lv_goto (tgt := 52) hx hb dX10_likeOf_37 (by decide) ?_
      cases h
      rw [← hQe]
      exact W.iret hx hb hr (fun t ht hW => ⟨⟨_, (), rfl, rfl, by rw [ht]; exact hP, va_K.moved hW.alike hK, hD⟩, hS.F ht⟩) hS.2.2 dX10_likeOf_52
  refine lv_icmp_le (tgt := 24) hx hb dX10_likeOf_12 (by decide) (fun c_9 => ?_) (fun c_9 => ?_)
  · replace h := ifp_el c_9 h
    refine lv_aload_n hx hb dX10_likeOf_24 rfl (lv_at hl 0 rfl) ?_
    refine va_get (D := D) (ci := 8) (v := .ref q_two) (C := RX10) (T := TX10) (N := 13) hx hb hts i_X10 hown hK hP 0 rfl rfl 9 (by decide) k_28 (fun _ h9 => h9) rfl dX10_likeOf_25 ?_
    refine lv_iconst (v := (nI 0)) hx hb dX10_likeOf_28 (by decide) ?_
    obtain ⟨hi_10, h⟩ := ck_el h
    refine va_iald hx hb hK hP 2 0 rfl rfl hi_10 dX10_likeOf_29 ?_
    exact hj_30 _ _ _ _ h hP hD hS (lv_sub hl [0] rfl)
  · replace h := ifn_el c_9 h
    refine lv_aload_n hx hb dX10_likeOf_15 rfl (lv_at hl 0 rfl) ?_
    refine va_get (D := D) (ci := 8) (v := .ref q_one) (C := RX10) (T := TX10) (N := 13) hx hb hts i_X10 hown hK hP 0 rfl rfl 8 (by decide) k_25 (fun _ h9 => h9) rfl dX10_likeOf_16 ?_
    refine lv_iconst (v := (nI 0)) hx hb dX10_likeOf_19 (by decide) ?_
    obtain ⟨hi_11, h⟩ := ck_el h
    refine va_iald hx hb hK hP 1 0 rfl rfl hi_11 dX10_likeOf_20 ?_
    refine lv_goto (tgt := 30) hx hb dX10_likeOf_21 (by decide) ?_
    exact hj_30 _ _ _ _ h hP hD hS (lv_sub hl [0] rfl)
def D_X10_likeFor (F : Nat) (p1 : Int32) (v_l : Nat → Int32) (v_one : Nat → Int32) (v_two : Nat → Int32) (v_ways : Nat → Int32) : Option (Int32 × (Nat → Int32) × (Nat → Int32) × (Nat → Int32)) := bd1 (D_X10_wordAt (nI 0) p1) (fun r_1 => bd1 (D_X10_say F 7 r_1 (nI 1) v_l v_one) (fun y_one_3 => bd1 (D_X10_wordAt (nI 1) p1) (fun r_5 => bd1 (D_X10_say F 7 r_5 (-1 : Int32) v_l v_two) (fun y_two_7 => bd2 (D_X10_likeOf F y_one_3 y_two_7 v_ways) (fun r_9 y_ways_10 => some (r_9, y_one_3, y_two_7, y_ways_10))))))
abbrev rm_X10_likeFor : Room := { frames := 3, cells := 0, slots := 0, locals := 71 }
set_option maxHeartbeats 4000000 in
set_option maxRecDepth 100000 in
theorem c_X10_likeFor (l : Launch) (D : va_G) (ca : Nat → ClassId) (F : Nat) (sz : Nat) (q_this q_text q_read q_l q_stands q_kept q_one q_two q_ways q_now q_then : Nat) (p1 : Int32) (v_size : Int32) (v_at : Int32) (v_keptMany : Int32) (v_l : Nat → Int32) (v_one : Nat → Int32) (v_two : Nat → Int32) (v_ways : Nat → Int32) (r : Int32) (o_one : Nat → Int32) (o_two : Nat → Int32) (o_ways : Nat → Int32) (h : D_X10_likeFor F p1 v_l v_one v_two v_ways = some (r, o_one, o_two, o_ways)) : Met l yX10_likeFor wsX10_likeFor rm_X10_likeFor (va_Pc [.ref q_this, .int p1] (kPre D ca [(q_this, .inr (8, [.ref q_text, .int v_size, .int v_at, .ref q_read, .ref q_l, .ref q_stands, .ref q_kept, .int v_keptMany, .ref q_one, .ref q_two, .ref q_ways, .ref q_now, .ref q_then])), (q_l, .inl (ca 0, 336, .inl v_l)), (q_one, .inl (ca 0, 7, .inl v_one)), (q_two, .inl (ca 0, 7, .inl v_two)), (q_ways, .inl (ca 0, 49, .inl v_ways))] sz)) (kQi D ca (va_A [(q_this, .inr (8, [.ref q_text, .int v_size, .int v_at, .ref q_read, .ref q_l, .ref q_stands, .ref q_kept, .int v_keptMany, .ref q_one, .ref q_two, .ref q_ways, .ref q_now, .ref q_then])), (q_l, .inl (ca 0, 336, .inl v_l)), (q_one, .inl (ca 0, 7, .inl v_one)), (q_two, .inl (ca 0, 7, .inl v_two)), (q_ways, .inl (ca 0, 49, .inl v_ways))] sz) [(q_this, .inr (8, [.ref q_text, .int v_size, .int v_at, .ref q_read, .ref q_l, .ref q_stands, .ref q_kept, .int v_keptMany, .ref q_one, .ref q_two, .ref q_ways, .ref q_now, .ref q_then])), (q_l, .inl (ca 0, 336, .inl v_l)), (q_one, .inl (ca 0, 7, .inl o_one)), (q_two, .inl (ca 0, 7, .inl o_two)), (q_ways, .inl (ca 0, 49, .inl o_ways))] r) 0 0 (va_A [(q_this, .inr (8, [.ref q_text, .int v_size, .int v_at, .ref q_read, .ref q_l, .ref q_stands, .ref q_kept, .int v_keptMany, .ref q_one, .ref q_two, .ref q_ways, .ref q_now, .ref q_then])), (q_l, .inl (ca 0, 336, .inl v_l)), (q_one, .inl (ca 0, 7, .inl v_one)), (q_two, .inl (ca 0, 7, .inl v_two)), (q_ways, .inl (ca 0, 49, .inl v_ways))] sz) := by
  refine Met.ofW (cc := cX10_likeFor) (maxL := 2) (ret := (some .int)) (by decide +kernel) rfl ?_
  intro p e s m args below meth c s₁ B hml hv
  obtain ⟨rfl, hsz, hP, hK, hD0⟩ := hv
  have hx := B.exec
  have hb := B.bytes
  have hr := B.returns
  have hts := atoms_spec (ws := wsX10_likeFor) B.pre
  have hown : s.vm.findClass RX10 = some m.cls := findClass_of_methodNamed B.named
  have hlocks := B.notSynchronized
  clear B
  subst hsz
  have hD := hD0.self (sz := s.heap.size)
  generalize hAe : va_A [(q_this, .inr (8, [.ref q_text, .int v_size, .int v_at, .ref q_read, .ref q_l, .ref q_stands, .ref q_kept, .int v_keptMany, .ref q_one, .ref q_two, .ref q_ways, .ref q_now, .ref q_then])), (q_l, .inl (ca 0, 336, .inl v_l)), (q_one, .inl (ca 0, 7, .inl v_one)), (q_two, .inl (ca 0, 7, .inl v_two)), (q_ways, .inl (ca 0, 49, .inl v_ways))] s.heap.size = A at hD ⊢
  have hA : ∀ q : Nat, s.heap.size ≤ q → A q := fun q h => by rw [← hAe]; exact Or.inr h
  have hS : va_S A s.heap s.heap [] := va_S.rf
  have hl := lv_entry ([.ref q_this, .int p1]) (n := 2) (Nat.le_of_ble_eq_true rfl)
  rw [lg_entry_eq]
  generalize (lg_sl ([.ref q_this, .int p1]) ++ List.replicate (2 - (lg_sl ([.ref q_this, .int p1])).length) Slot.unset).toArray = ls at hl ⊢
  have hl : lv_has ls 2 [(0, .ref q_this), (1, .int p1)] := hl
  generalize ([.ref q_this, .int p1] : List Value).toArray = args at hts ⊢
  generalize hQe : MQ below (kQi D ca (A) [(q_this, .inr (8, [.ref q_text, .int v_size, .int v_at, .ref q_read, .ref q_l, .ref q_stands, .ref q_kept, .int v_keptMany, .ref q_one, .ref q_two, .ref q_ways, .ref q_now, .ref q_then])), (q_l, .inl (ca 0, 336, .inl v_l)), (q_one, .inl (ca 0, 7, .inl o_one)), (q_two, .inl (ca 0, 7, .inl o_two)), (q_ways, .inl (ca 0, 49, .inl o_ways))] r) args s 0 0 A = Q
  have i_X10 : ∀ w ∈ u_ws RX10 TX10 13, w ∈ wsX10_likeFor := by decide +kernel
  have k_25 := hts (.fieldLink RX10 25 "TradeWordsModel" "one" "[I") (by decide +kernel)
  have k_28 := hts (.fieldLink RX10 28 "TradeWordsModel" "two" "[I") (by decide +kernel)
  rw [D_X10_likeFor] at h
  refine lv_aload_n hx hb dX10_likeFor_0 rfl (lv_at hl 0 rfl) ?_
  refine lv_iconst (v := (nI 0)) hx hb dX10_likeFor_1 (by decide) ?_
  refine lv_iload_n hx hb dX10_likeFor_2 rfl (lv_at hl 1 rfl) ?_
  obtain ⟨r_1, hg_2, h⟩ := bd1_el h
  refine kx_Si (As := [.int (nI 0), .int p1]) (rest := [.ref q_this]) (wr := [(q_this, .inr (8, [.ref q_text, .int v_size, .int v_at, .ref q_read, .ref q_l, .ref q_stands, .ref q_kept, .int v_keptMany, .ref q_one, .ref q_two, .ref q_ways, .ref q_now, .ref q_then])), (q_l, .inl (ca 0, 336, .inl v_l)), (q_one, .inl (ca 0, 7, .inl v_one)), (q_two, .inl (ca 0, 7, .inl v_two)), (q_ways, .inl (ca 0, 49, .inl v_ways))]) (w1 := []) (wn := [(q_this, .inr (8, [.ref q_text, .int v_size, .int v_at, .ref q_read, .ref q_l, .ref q_stands, .ref q_kept, .int v_keptMany, .ref q_one, .ref q_two, .ref q_ways, .ref q_now, .ref q_then])), (q_l, .inl (ca 0, 336, .inl v_l)), (q_one, .inl (ca 0, 7, .inl v_one)), (q_two, .inl (ca 0, 7, .inl v_two)), (q_ways, .inl (ca 0, 49, .inl v_ways))]) ⟨hx, hb, hml, hown, hts⟩ (c_X10_wordAt l D ca s.heap.size (nI 0) p1 r_1 hg_2) (va_cwS 2 hts gX10_likeFor_X10_wordAt rfl rfl rfl (by decide +kernel) ⟨(Nat.le_of_ble_eq_true rfl), (Nat.le_of_ble_eq_true rfl)⟩) hK hP hD hS hA [] [0, 1, 2, 3, 4] [0, 1, 2, 3, 4] rfl rfl rfl rfl (by decide) rfl rfl rfl hl.1 rfl (Nat.le_of_ble_eq_true rfl) dX10_likeFor_3 ⟨Nat.zero_le _, Nat.zero_le _⟩ (fun H locs hP hD hS => ?_)
  refine lv_iconst (v := (nI 1)) hx hb dX10_likeFor_6 (by decide) ?_
  refine lv_aload_n hx hb dX10_likeFor_7 rfl (lv_at hl 0 rfl) ?_
  refine va_get (D := D) (ci := 8) (v := .ref q_one) (C := RX10) (T := TX10) (N := 13) hx hb hts i_X10 hown hK hP 0 rfl rfl 8 (by decide) k_25 (fun _ h9 => h9) rfl dX10_likeFor_8 ?_
  obtain ⟨y_one_3, hg_4, h⟩ := bd1_el h
  refine kx_Vv (As := [.int r_1, .int (nI 1), .ref q_one]) (rest := []) (wr := [(q_two, .inl (ca 0, 7, .inl v_two)), (q_ways, .inl (ca 0, 49, .inl v_ways))]) (w1 := [(q_this, .inr (8, [.ref q_text, .int v_size, .int v_at, .ref q_read, .ref q_l, .ref q_stands, .ref q_kept, .int v_keptMany, .ref q_one, .ref q_two, .ref q_ways, .ref q_now, .ref q_then])), (q_l, .inl (ca 0, 336, .inl v_l)), (q_one, .inl (ca 0, 7, .inl y_one_3))]) (wn := [(q_this, .inr (8, [.ref q_text, .int v_size, .int v_at, .ref q_read, .ref q_l, .ref q_stands, .ref q_kept, .int v_keptMany, .ref q_one, .ref q_two, .ref q_ways, .ref q_now, .ref q_then])), (q_l, .inl (ca 0, 336, .inl v_l)), (q_one, .inl (ca 0, 7, .inl y_one_3)), (q_two, .inl (ca 0, 7, .inl v_two)), (q_ways, .inl (ca 0, 49, .inl v_ways))]) ⟨hx, hb, hml, hown, hts⟩ (c_X10_say l D ca F H.size q_this q_text q_read q_l q_stands q_kept q_one q_two q_ways q_now q_then q_one 7 r_1 (nI 1) v_size v_at v_keptMany v_l v_one y_one_3 hg_4) (cwV 3 hts gX10_likeFor_X10_say rfl rfl rfl (by decide +kernel) ⟨(Nat.le_of_ble_eq_true rfl), (Nat.le_of_ble_eq_true rfl)⟩) hK hP hD hS hA (ci := 8) (q0 := 0) rfl rfl [0, 1, 2] [3, 4] [2, 3, 4, 0, 1] rfl rfl rfl rfl (by decide) rfl rfl rfl hl.1 rfl (Nat.le_of_ble_eq_true rfl) dX10_likeFor_11 ⟨Nat.zero_le _, Nat.zero_le _⟩ (fun H locs hP hD hS => ?_)
  refine lv_aload_n hx hb dX10_likeFor_14 rfl (lv_at hl 0 rfl) ?_
  refine lv_iconst (v := (nI 1)) hx hb dX10_likeFor_15 (by decide) ?_
  refine lv_iload_n hx hb dX10_likeFor_16 rfl (lv_at hl 1 rfl) ?_
  obtain ⟨r_5, hg_6, h⟩ := bd1_el h
  refine kx_Si (As := [.int (nI 1), .int p1]) (rest := [.ref q_this]) (wr := [(q_this, .inr (8, [.ref q_text, .int v_size, .int v_at, .ref q_read, .ref q_l, .ref q_stands, .ref q_kept, .int v_keptMany, .ref q_one, .ref q_two, .ref q_ways, .ref q_now, .ref q_then])), (q_l, .inl (ca 0, 336, .inl v_l)), (q_one, .inl (ca 0, 7, .inl y_one_3)), (q_two, .inl (ca 0, 7, .inl v_two)), (q_ways, .inl (ca 0, 49, .inl v_ways))]) (w1 := []) (wn := [(q_this, .inr (8, [.ref q_text, .int v_size, .int v_at, .ref q_read, .ref q_l, .ref q_stands, .ref q_kept, .int v_keptMany, .ref q_one, .ref q_two, .ref q_ways, .ref q_now, .ref q_then])), (q_l, .inl (ca 0, 336, .inl v_l)), (q_one, .inl (ca 0, 7, .inl y_one_3)), (q_two, .inl (ca 0, 7, .inl v_two)), (q_ways, .inl (ca 0, 49, .inl v_ways))]) ⟨hx, hb, hml, hown, hts⟩ (c_X10_wordAt l D ca H.size (nI 1) p1 r_5 hg_6) (va_cwS 2 hts gX10_likeFor_X10_wordAt rfl rfl rfl (by decide +kernel) ⟨(Nat.le_of_ble_eq_true rfl), (Nat.le_of_ble_eq_true rfl)⟩) hK hP hD hS hA [] [0, 1, 2, 3, 4] [0, 1, 2, 3, 4] rfl rfl rfl rfl (by decide) rfl rfl rfl hl.1 rfl (Nat.le_of_ble_eq_true rfl) dX10_likeFor_17 ⟨Nat.zero_le _, Nat.zero_le _⟩ (fun H locs hP hD hS => ?_)
  refine lv_iconst (v := (-1 : Int32)) hx hb dX10_likeFor_20 (by decide) ?_
  refine lv_aload_n hx hb dX10_likeFor_21 rfl (lv_at hl 0 rfl) ?_
  refine va_get (D := D) (ci := 8) (v := .ref q_two) (C := RX10) (T := TX10) (N := 13) hx hb hts i_X10 hown hK hP 0 rfl rfl 9 (by decide) k_28 (fun _ h9 => h9) rfl dX10_likeFor_22 ?_
  obtain ⟨y_two_7, hg_8, h⟩ := bd1_el h
  refine kx_Vv (As := [.int r_5, .int (-1 : Int32), .ref q_two]) (rest := []) (wr := [(q_one, .inl (ca 0, 7, .inl y_one_3)), (q_ways, .inl (ca 0, 49, .inl v_ways))]) (w1 := [(q_this, .inr (8, [.ref q_text, .int v_size, .int v_at, .ref q_read, .ref q_l, .ref q_stands, .ref q_kept, .int v_keptMany, .ref q_one, .ref q_two, .ref q_ways, .ref q_now, .ref q_then])), (q_l, .inl (ca 0, 336, .inl v_l)), (q_two, .inl (ca 0, 7, .inl y_two_7))]) (wn := [(q_this, .inr (8, [.ref q_text, .int v_size, .int v_at, .ref q_read, .ref q_l, .ref q_stands, .ref q_kept, .int v_keptMany, .ref q_one, .ref q_two, .ref q_ways, .ref q_now, .ref q_then])), (q_l, .inl (ca 0, 336, .inl v_l)), (q_one, .inl (ca 0, 7, .inl y_one_3)), (q_two, .inl (ca 0, 7, .inl y_two_7)), (q_ways, .inl (ca 0, 49, .inl v_ways))]) ⟨hx, hb, hml, hown, hts⟩ (c_X10_say l D ca F H.size q_this q_text q_read q_l q_stands q_kept q_one q_two q_ways q_now q_then q_two 7 r_5 (-1 : Int32) v_size v_at v_keptMany v_l v_two y_two_7 hg_8) (cwV 3 hts gX10_likeFor_X10_say rfl rfl rfl (by decide +kernel) ⟨(Nat.le_of_ble_eq_true rfl), (Nat.le_of_ble_eq_true rfl)⟩) hK hP hD hS hA (ci := 8) (q0 := 0) rfl rfl [0, 1, 3] [2, 4] [2, 3, 0, 4, 1] rfl rfl rfl rfl (by decide) rfl rfl rfl hl.1 rfl (Nat.le_of_ble_eq_true rfl) dX10_likeFor_25 ⟨Nat.zero_le _, Nat.zero_le _⟩ (fun H locs hP hD hS => ?_)
  refine lv_aload_n hx hb dX10_likeFor_28 rfl (lv_at hl 0 rfl) ?_
  obtain ⟨r_9, y_ways_10, hg_11, h⟩ := bd2_el h
  refine kx_Vi (As := []) (rest := []) (wr := [(q_l, .inl (ca 0, 336, .inl v_l))]) (w1 := [(q_this, .inr (8, [.ref q_text, .int v_size, .int v_at, .ref q_read, .ref q_l, .ref q_stands, .ref q_kept, .int v_keptMany, .ref q_one, .ref q_two, .ref q_ways, .ref q_now, .ref q_then])), (q_one, .inl (ca 0, 7, .inl y_one_3)), (q_two, .inl (ca 0, 7, .inl y_two_7)), (q_ways, .inl (ca 0, 49, .inl y_ways_10))]) (wn := [(q_this, .inr (8, [.ref q_text, .int v_size, .int v_at, .ref q_read, .ref q_l, .ref q_stands, .ref q_kept, .int v_keptMany, .ref q_one, .ref q_two, .ref q_ways, .ref q_now, .ref q_then])), (q_l, .inl (ca 0, 336, .inl v_l)), (q_one, .inl (ca 0, 7, .inl y_one_3)), (q_two, .inl (ca 0, 7, .inl y_two_7)), (q_ways, .inl (ca 0, 49, .inl y_ways_10))]) ⟨hx, hb, hml, hown, hts⟩ (c_X10_likeOf l D ca F H.size q_this q_text q_read q_l q_stands q_kept q_one q_two q_ways q_now q_then v_size v_at v_keptMany y_one_3 y_two_7 v_ways r_9 y_ways_10 hg_11) (cwV 0 hts gX10_likeFor_X10_likeOf rfl rfl rfl (by decide +kernel) ⟨(Nat.le_of_ble_eq_true rfl), (Nat.le_of_ble_eq_true rfl)⟩) hK hP hD hS hA (ci := 8) (q0 := 0) rfl rfl [0, 2, 3, 4] [1] [1, 0, 2, 3, 4] rfl rfl rfl rfl (by decide) rfl rfl rfl hl.1 rfl (Nat.le_of_ble_eq_true rfl) dX10_likeFor_29 ⟨Nat.zero_le _, Nat.zero_le _⟩ (fun H locs hP hD hS => ?_)
  cases h
  rw [← hQe]
  exact W.iret hx hb hr (fun t ht hW => ⟨⟨_, (), rfl, rfl, by rw [ht]; exact hP, va_K.moved hW.alike hK, hD⟩, hS.F ht⟩) hS.2.2 dX10_likeFor_32
def D_X10_isAlike (F : Nat) (p1 : Int32) (v_l : Nat → Int32) (v_one : Nat → Int32) (v_two : Nat → Int32) (v_ways : Nat → Int32) : Option (Int32 × (Nat → Int32) × (Nat → Int32) × (Nat → Int32)) := bd4 (D_X10_likeFor F p1 v_l v_one v_two v_ways) (fun r_1 y_one_2 y_two_3 y_ways_4 => ck 336 (nI 303) ((if r_1 < (v_l (nI 303).toNatClampNeg) then some ((nI 0), y_one_2, y_two_3, y_ways_4) else some ((nI 1), y_one_2, y_two_3, y_ways_4))))
abbrev rm_X10_isAlike : Room := { frames := 4, cells := 0, slots := 0, locals := 92 }
set_option maxHeartbeats 4000000 in
set_option maxRecDepth 100000 in
theorem c_X10_isAlike (l : Launch) (D : va_G) (ca : Nat → ClassId) (F : Nat) (sz : Nat) (q_this q_text q_read q_l q_stands q_kept q_one q_two q_ways q_now q_then : Nat) (p1 : Int32) (v_size : Int32) (v_at : Int32) (v_keptMany : Int32) (v_l : Nat → Int32) (v_one : Nat → Int32) (v_two : Nat → Int32) (v_ways : Nat → Int32) (r : Int32) (o_one : Nat → Int32) (o_two : Nat → Int32) (o_ways : Nat → Int32) (h : D_X10_isAlike F p1 v_l v_one v_two v_ways = some (r, o_one, o_two, o_ways)) : Met l yX10_isAlike wsX10_isAlike rm_X10_isAlike (va_Pc [.ref q_this, .int p1] (kPre D ca [(q_this, .inr (8, [.ref q_text, .int v_size, .int v_at, .ref q_read, .ref q_l, .ref q_stands, .ref q_kept, .int v_keptMany, .ref q_one, .ref q_two, .ref q_ways, .ref q_now, .ref q_then])), (q_l, .inl (ca 0, 336, .inl v_l)), (q_one, .inl (ca 0, 7, .inl v_one)), (q_two, .inl (ca 0, 7, .inl v_two)), (q_ways, .inl (ca 0, 49, .inl v_ways))] sz)) (kQi D ca (va_A [(q_this, .inr (8, [.ref q_text, .int v_size, .int v_at, .ref q_read, .ref q_l, .ref q_stands, .ref q_kept, .int v_keptMany, .ref q_one, .ref q_two, .ref q_ways, .ref q_now, .ref q_then])), (q_l, .inl (ca 0, 336, .inl v_l)), (q_one, .inl (ca 0, 7, .inl v_one)), (q_two, .inl (ca 0, 7, .inl v_two)), (q_ways, .inl (ca 0, 49, .inl v_ways))] sz) [(q_this, .inr (8, [.ref q_text, .int v_size, .int v_at, .ref q_read, .ref q_l, .ref q_stands, .ref q_kept, .int v_keptMany, .ref q_one, .ref q_two, .ref q_ways, .ref q_now, .ref q_then])), (q_l, .inl (ca 0, 336, .inl v_l)), (q_one, .inl (ca 0, 7, .inl o_one)), (q_two, .inl (ca 0, 7, .inl o_two)), (q_ways, .inl (ca 0, 49, .inl o_ways))] r) 0 0 (va_A [(q_this, .inr (8, [.ref q_text, .int v_size, .int v_at, .ref q_read, .ref q_l, .ref q_stands, .ref q_kept, .int v_keptMany, .ref q_one, .ref q_two, .ref q_ways, .ref q_now, .ref q_then])), (q_l, .inl (ca 0, 336, .inl v_l)), (q_one, .inl (ca 0, 7, .inl v_one)), (q_two, .inl (ca 0, 7, .inl v_two)), (q_ways, .inl (ca 0, 49, .inl v_ways))] sz) := by
  refine Met.ofW (cc := cX10_isAlike) (maxL := 2) (ret := (some .boolean)) (by decide +kernel) rfl ?_
  intro p e s m args below meth c s₁ B hml hv
  obtain ⟨rfl, hsz, hP, hK, hD0⟩ := hv
  have hx := B.exec
  have hb := B.bytes
  have hr := B.returns
  have hts := atoms_spec (ws := wsX10_isAlike) B.pre
  have hown : s.vm.findClass RX10 = some m.cls := findClass_of_methodNamed B.named
  have hlocks := B.notSynchronized
  clear B
  subst hsz
  have hD := hD0.self (sz := s.heap.size)
  generalize hAe : va_A [(q_this, .inr (8, [.ref q_text, .int v_size, .int v_at, .ref q_read, .ref q_l, .ref q_stands, .ref q_kept, .int v_keptMany, .ref q_one, .ref q_two, .ref q_ways, .ref q_now, .ref q_then])), (q_l, .inl (ca 0, 336, .inl v_l)), (q_one, .inl (ca 0, 7, .inl v_one)), (q_two, .inl (ca 0, 7, .inl v_two)), (q_ways, .inl (ca 0, 49, .inl v_ways))] s.heap.size = A at hD ⊢
  have hA : ∀ q : Nat, s.heap.size ≤ q → A q := fun q h => by rw [← hAe]; exact Or.inr h
  have hS : va_S A s.heap s.heap [] := va_S.rf
  have hl := lv_entry ([.ref q_this, .int p1]) (n := 2) (Nat.le_of_ble_eq_true rfl)
  rw [lg_entry_eq]
  generalize (lg_sl ([.ref q_this, .int p1]) ++ List.replicate (2 - (lg_sl ([.ref q_this, .int p1])).length) Slot.unset).toArray = ls at hl ⊢
  have hl : lv_has ls 2 [(0, .ref q_this), (1, .int p1)] := hl
  generalize ([.ref q_this, .int p1] : List Value).toArray = args at hts ⊢
  generalize hQe : MQ below (kQi D ca (A) [(q_this, .inr (8, [.ref q_text, .int v_size, .int v_at, .ref q_read, .ref q_l, .ref q_stands, .ref q_kept, .int v_keptMany, .ref q_one, .ref q_two, .ref q_ways, .ref q_now, .ref q_then])), (q_l, .inl (ca 0, 336, .inl v_l)), (q_one, .inl (ca 0, 7, .inl o_one)), (q_two, .inl (ca 0, 7, .inl o_two)), (q_ways, .inl (ca 0, 49, .inl o_ways))] r) args s 0 0 A = Q
  have i_X10 : ∀ w ∈ u_ws RX10 TX10 13, w ∈ wsX10_isAlike := by decide +kernel
  have k_16 := hts (.fieldLink RX10 16 "TradeWordsModel" "l" "[I") (by decide +kernel)
  rw [D_X10_isAlike] at h
  refine lv_aload_n hx hb dX10_isAlike_0 rfl (lv_at hl 0 rfl) ?_
  refine lv_iload_n hx hb dX10_isAlike_1 rfl (lv_at hl 1 rfl) ?_
  obtain ⟨r_1, y_one_2, y_two_3, y_ways_4, hg_5, h⟩ := bd4_el h
  refine kx_Vi (As := [.int p1]) (rest := []) (wr := []) (w1 := [(q_this, .inr (8, [.ref q_text, .int v_size, .int v_at, .ref q_read, .ref q_l, .ref q_stands, .ref q_kept, .int v_keptMany, .ref q_one, .ref q_two, .ref q_ways, .ref q_now, .ref q_then])), (q_l, .inl (ca 0, 336, .inl v_l)), (q_one, .inl (ca 0, 7, .inl y_one_2)), (q_two, .inl (ca 0, 7, .inl y_two_3)), (q_ways, .inl (ca 0, 49, .inl y_ways_4))]) (wn := [(q_this, .inr (8, [.ref q_text, .int v_size, .int v_at, .ref q_read, .ref q_l, .ref q_stands, .ref q_kept, .int v_keptMany, .ref q_one, .ref q_two, .ref q_ways, .ref q_now, .ref q_then])), (q_l, .inl (ca 0, 336, .inl v_l)), (q_one, .inl (ca 0, 7, .inl y_one_2)), (q_two, .inl (ca 0, 7, .inl y_two_3)), (q_ways, .inl (ca 0, 49, .inl y_ways_4))]) ⟨hx, hb, hml, hown, hts⟩ (c_X10_likeFor l D ca F s.heap.size q_this q_text q_read q_l q_stands q_kept q_one q_two q_ways q_now q_then p1 v_size v_at v_keptMany v_l v_one v_two v_ways r_1 y_one_2 y_two_3 y_ways_4 hg_5) (cwV 1 hts gX10_isAlike_X10_likeFor rfl rfl rfl (by decide +kernel) ⟨(Nat.le_of_ble_eq_true rfl), (Nat.le_of_ble_eq_true rfl)⟩) hK hP hD hS hA (ci := 8) (q0 := 0) rfl rfl [0, 1, 2, 3, 4] [] [0, 1, 2, 3, 4] rfl rfl rfl rfl (by decide) rfl rfl rfl hl.1 rfl (Nat.le_of_ble_eq_true rfl) dX10_isAlike_2 ⟨Nat.zero_le _, Nat.zero_le _⟩ (fun H locs hP hD hS => ?_)
  refine lv_aload_n hx hb dX10_isAlike_5 rfl (lv_at hl 0 rfl) ?_
  refine va_get (D := D) (ci := 8) (v := .ref q_l) (C := RX10) (T := TX10) (N := 13) hx hb hts i_X10 hown hK hP 0 rfl rfl 4 (by decide) k_16 (fun _ h9 => h9) rfl dX10_isAlike_6 ?_
  refine lv_sipush (v := (nI 303)) hx hb dX10_isAlike_9 (by decide) ?_
  obtain ⟨hi_6, h⟩ := ck_el h
  refine va_iald hx hb hK hP 1 0 rfl rfl hi_6 dX10_isAlike_12 ?_
  refine lv_icmp_lt (tgt := 20) hx hb dX10_isAlike_13 (by decide) (fun c_7 => ?_) (fun c_7 => ?_)
  · replace h := ifp_el c_7 h
    refine lv_iconst (v := (nI 0)) hx hb dX10_isAlike_20 (by decide) ?_
    cases h
    rw [← hQe]
    exact W.zret hx hb hr rfl (fun t ht hW => ⟨⟨_, (), rfl, rfl, by rw [ht]; exact hP, va_K.moved hW.alike hK, hD⟩, hS.F ht⟩) hS.2.2 dX10_isAlike_21
  · replace h := ifn_el c_7 h
    refine lv_iconst (v := (nI 1)) hx hb dX10_isAlike_16 (by decide) ?_
    refine lv_goto (tgt := 21) hx hb dX10_isAlike_17 (by decide) ?_
    cases h
    rw [← hQe]
    exact W.zret hx hb hr rfl (fun t ht hW => ⟨⟨_, (), rfl, rfl, by rw [ht]; exact hP, va_K.moved hW.alike hK, hD⟩, hS.F ht⟩) hS.2.2 dX10_isAlike_21
def j_X10_word__60 (p4 : Int32) (v_l : Nat → Int32) (v_one : Nat → Int32) (F : Nat) (z1_15 : Int32) (z2_16 : Int32) : Option (Int32 × (Nat → Int32)) := bd1 (D_X10_say F 7 z1_15 z2_16 v_l v_one) (fun y_one_17 => (if 0 ≤ p4 then ck 7 (nI 0) ((if (y_one_17 (nI 0).toNatClampNeg) ≤ p4 then some ((-4 : Int32), y_one_17) else ck 7 ((nI 1) + p4) (some ((y_one_17 ((nI 1) + p4).toNatClampNeg), y_one_17)))) else ck 7 (nI 0) (some ((y_one_17 (nI 0).toNatClampNeg), y_one_17))))
def D_X10_word_ (F : Nat) (p1 : Int32) (p2 : Int32) (p3 : Int32) (p4 : Int32) (v_l : Nat → Int32) (v_one : Nat → Int32) : Option (Int32 × (Nat → Int32)) := bd1 (D_X10_in p1.toInt64 (lN 0) (lN 1)) (fun r_1 => (if r_1 = 0 then some ((-1 : Int32), v_one) else bd1 (D_X10_isMeaning p2) (fun r_4 => (if r_4 = 0 then some ((-1 : Int32), v_one) else bd1 (D_X10_in p3.toInt64 (lN 0) (lN 1)) (fun r_7 => (if r_7 = 0 then some ((-1 : Int32), v_one) else bd1 (D_X10_in p4.toInt64 (-1 : Int64) (lN 5)) (fun r_10 => (if r_10 = 0 then some ((-1 : Int32), v_one) else bd1 (D_X10_wordAt p1 p2) (fun r_13 => (if p3 = p1 then j_X10_word__60 p4 v_l v_one F r_13 (-1 : Int32) else j_X10_word__60 p4 v_l v_one F r_13 p3))))))))))
abbrev rm_X10_word_ : Room := { frames := 3, cells := 0, slots := 0, locals := 71 }
set_option maxHeartbeats 4000000 in
set_option maxRecDepth 100000 in
theorem c_X10_word_ (l : Launch) (D : va_G) (ca : Nat → ClassId) (F : Nat) (sz : Nat) (q_this q_text q_read q_l q_stands q_kept q_one q_two q_ways q_now q_then : Nat) (p1 : Int32) (p2 : Int32) (p3 : Int32) (p4 : Int32) (v_size : Int32) (v_at : Int32) (v_keptMany : Int32) (v_l : Nat → Int32) (v_one : Nat → Int32) (r : Int32) (o_one : Nat → Int32) (h : D_X10_word_ F p1 p2 p3 p4 v_l v_one = some (r, o_one)) : Met l yX10_word_ wsX10_word_ rm_X10_word_ (va_Pc [.ref q_this, .int p1, .int p2, .int p3, .int p4] (kPre D ca [(q_this, .inr (8, [.ref q_text, .int v_size, .int v_at, .ref q_read, .ref q_l, .ref q_stands, .ref q_kept, .int v_keptMany, .ref q_one, .ref q_two, .ref q_ways, .ref q_now, .ref q_then])), (q_l, .inl (ca 0, 336, .inl v_l)), (q_one, .inl (ca 0, 7, .inl v_one))] sz)) (kQi D ca (va_A [(q_this, .inr (8, [.ref q_text, .int v_size, .int v_at, .ref q_read, .ref q_l, .ref q_stands, .ref q_kept, .int v_keptMany, .ref q_one, .ref q_two, .ref q_ways, .ref q_now, .ref q_then])), (q_l, .inl (ca 0, 336, .inl v_l)), (q_one, .inl (ca 0, 7, .inl v_one))] sz) [(q_this, .inr (8, [.ref q_text, .int v_size, .int v_at, .ref q_read, .ref q_l, .ref q_stands, .ref q_kept, .int v_keptMany, .ref q_one, .ref q_two, .ref q_ways, .ref q_now, .ref q_then])), (q_l, .inl (ca 0, 336, .inl v_l)), (q_one, .inl (ca 0, 7, .inl o_one))] r) 0 0 (va_A [(q_this, .inr (8, [.ref q_text, .int v_size, .int v_at, .ref q_read, .ref q_l, .ref q_stands, .ref q_kept, .int v_keptMany, .ref q_one, .ref q_two, .ref q_ways, .ref q_now, .ref q_then])), (q_l, .inl (ca 0, 336, .inl v_l)), (q_one, .inl (ca 0, 7, .inl v_one))] sz) := by
  refine Met.ofW (cc := cX10_word_) (maxL := 5) (ret := (some .int)) (by decide +kernel) rfl ?_
  intro p e s m args below meth c s₁ B hml hv
  obtain ⟨rfl, hsz, hP, hK, hD0⟩ := hv
  have hx := B.exec
  have hb := B.bytes
  have hr := B.returns
  have hts := atoms_spec (ws := wsX10_word_) B.pre
  have hown : s.vm.findClass RX10 = some m.cls := findClass_of_methodNamed B.named
  have hlocks := B.notSynchronized
  clear B
  subst hsz
  have hD := hD0.self (sz := s.heap.size)
  generalize hAe : va_A [(q_this, .inr (8, [.ref q_text, .int v_size, .int v_at, .ref q_read, .ref q_l, .ref q_stands, .ref q_kept, .int v_keptMany, .ref q_one, .ref q_two, .ref q_ways, .ref q_now, .ref q_then])), (q_l, .inl (ca 0, 336, .inl v_l)), (q_one, .inl (ca 0, 7, .inl v_one))] s.heap.size = A at hD ⊢
  have hA : ∀ q : Nat, s.heap.size ≤ q → A q := fun q h => by rw [← hAe]; exact Or.inr h
  have hS : va_S A s.heap s.heap [] := va_S.rf
  have hl := lv_entry ([.ref q_this, .int p1, .int p2, .int p3, .int p4]) (n := 5) (Nat.le_of_ble_eq_true rfl)
  rw [lg_entry_eq]
  generalize (lg_sl ([.ref q_this, .int p1, .int p2, .int p3, .int p4]) ++ List.replicate (5 - (lg_sl ([.ref q_this, .int p1, .int p2, .int p3, .int p4])).length) Slot.unset).toArray = ls at hl ⊢
  have hl : lv_has ls 5 [(0, .ref q_this), (1, .int p1), (2, .int p2), (3, .int p3), (4, .int p4)] := hl
  generalize ([.ref q_this, .int p1, .int p2, .int p3, .int p4] : List Value).toArray = args at hts ⊢
  generalize hQe : MQ below (kQi D ca (A) [(q_this, .inr (8, [.ref q_text, .int v_size, .int v_at, .ref q_read, .ref q_l, .ref q_stands, .ref q_kept, .int v_keptMany, .ref q_one, .ref q_two, .ref q_ways, .ref q_now, .ref q_then])), (q_l, .inl (ca 0, 336, .inl v_l)), (q_one, .inl (ca 0, 7, .inl o_one))] r) args s 0 0 A = Q
  have k_162 := hts (.constantLong RX10 162 (-1 : Int64)) (by decide +kernel)
  have k_164 := hts (.constantLong RX10 164 (lN 5)) (by decide +kernel)
  have i_X10 : ∀ w ∈ u_ws RX10 TX10 13, w ∈ wsX10_word_ := by decide +kernel
  have k_25 := hts (.fieldLink RX10 25 "TradeWordsModel" "one" "[I") (by decide +kernel)
  rw [D_X10_word_] at h
  refine lv_iload_n hx hb dX10_word__0 rfl (lv_at hl 1 rfl) ?_
  refine lv_i2l hx hb dX10_word__1 rfl ?_
  refine lv_lconst (v := (lN 0)) hx hb dX10_word__2 (by decide) ?_
  refine lv_lconst (v := (lN 1)) hx hb dX10_word__3 (by decide) ?_
  obtain ⟨r_1, hg_2, h⟩ := bd1_el h
  refine kx_Si (As := [.long p1.toInt64, .long (lN 0), .long (lN 1)]) (rest := []) (wr := [(q_this, .inr (8, [.ref q_text, .int v_size, .int v_at, .ref q_read, .ref q_l, .ref q_stands, .ref q_kept, .int v_keptMany, .ref q_one, .ref q_two, .ref q_ways, .ref q_now, .ref q_then])), (q_l, .inl (ca 0, 336, .inl v_l)), (q_one, .inl (ca 0, 7, .inl v_one))]) (w1 := []) (wn := [(q_this, .inr (8, [.ref q_text, .int v_size, .int v_at, .ref q_read, .ref q_l, .ref q_stands, .ref q_kept, .int v_keptMany, .ref q_one, .ref q_two, .ref q_ways, .ref q_now, .ref q_then])), (q_l, .inl (ca 0, 336, .inl v_l)), (q_one, .inl (ca 0, 7, .inl v_one))]) ⟨hx, hb, hml, hown, hts⟩ (c_X10_in l D ca s.heap.size p1.toInt64 (lN 0) (lN 1) r_1 hg_2) (va_cwS 3 hts gX10_word__X10_in rfl rfl rfl (by decide +kernel) ⟨(Nat.le_of_ble_eq_true rfl), (Nat.le_of_ble_eq_true rfl)⟩) hK hP hD hS hA [] [0, 1, 2] [0, 1, 2] rfl rfl rfl rfl (by decide) rfl rfl rfl hl.1 rfl (Nat.le_of_ble_eq_true rfl) dX10_word__4 ⟨Nat.zero_le _, Nat.zero_le _⟩ (fun H locs hP hD hS => ?_)
  refine lv_if_eq (tgt := 42) hx hb dX10_word__7 (by decide) (fun c_3 => ?_) (fun c_3 => ?_)
  · replace h := ifp_el c_3 h
    refine lv_iconst (v := (-1 : Int32)) hx hb dX10_word__42 (by decide) ?_
    cases h
    rw [← hQe]
    exact W.iret hx hb hr (fun t ht hW => ⟨⟨_, (), rfl, rfl, by rw [ht]; exact hP, va_K.moved hW.alike hK, hD⟩, hS.F ht⟩) hS.2.2 dX10_word__43
  · replace h := ifn_el c_3 h
    refine lv_iload_n hx hb dX10_word__10 rfl (lv_at hl 2 rfl) ?_
    obtain ⟨r_4, hg_5, h⟩ := bd1_el h
    refine kx_Si (As := [.int p2]) (rest := []) (wr := [(q_this, .inr (8, [.ref q_text, .int v_size, .int v_at, .ref q_read, .ref q_l, .ref q_stands, .ref q_kept, .int v_keptMany, .ref q_one, .ref q_two, .ref q_ways, .ref q_now, .ref q_then])), (q_l, .inl (ca 0, 336, .inl v_l)), (q_one, .inl (ca 0, 7, .inl v_one))]) (w1 := []) (wn := [(q_this, .inr (8, [.ref q_text, .int v_size, .int v_at, .ref q_read, .ref q_l, .ref q_stands, .ref q_kept, .int v_keptMany, .ref q_one, .ref q_two, .ref q_ways, .ref q_now, .ref q_then])), (q_l, .inl (ca 0, 336, .inl v_l)), (q_one, .inl (ca 0, 7, .inl v_one))]) ⟨hx, hb, hml, hown, hts⟩ (c_X10_isMeaning l D ca H.size p2 r_4 hg_5) (va_cwS 1 hts gX10_word__X10_isMeaning rfl rfl rfl (by decide +kernel) ⟨(Nat.le_of_ble_eq_true rfl), (Nat.le_of_ble_eq_true rfl)⟩) hK hP hD hS hA [] [0, 1, 2] [0, 1, 2] rfl rfl rfl rfl (by decide) rfl rfl rfl hl.1 rfl (Nat.le_of_ble_eq_true rfl) dX10_word__11 ⟨Nat.zero_le _, Nat.zero_le _⟩ (fun H locs hP hD hS => ?_)
    refine lv_if_eq (tgt := 42) hx hb dX10_word__14 (by decide) (fun c_6 => ?_) (fun c_6 => ?_)
    · replace h := ifp_el c_6 h
      refine lv_iconst (v := (-1 : Int32)) hx hb dX10_word__42 (by decide) ?_
      cases h
      rw [← hQe]
      exact W.iret hx hb hr (fun t ht hW => ⟨⟨_, (), rfl, rfl, by rw [ht]; exact hP, va_K.moved hW.alike hK, hD⟩, hS.F ht⟩) hS.2.2 dX10_word__43
    · replace h := ifn_el c_6 h
      refine lv_iload_n hx hb dX10_word__17 rfl (lv_at hl 3 rfl) ?_
      refine lv_i2l hx hb dX10_word__18 rfl ?_
      refine lv_lconst (v := (lN 0)) hx hb dX10_word__19 (by decide) ?_
      refine lv_lconst (v := (lN 1)) hx hb dX10_word__20 (by decide) ?_
      obtain ⟨r_7, hg_8, h⟩ := bd1_el h
      refine kx_Si (As := [.long p3.toInt64, .long (lN 0), .long (lN 1)]) (rest := []) (wr := [(q_this, .inr (8, [.ref q_text, .int v_size, .int v_at, .ref q_read, .ref q_l, .ref q_stands, .ref q_kept, .int v_keptMany, .ref q_one, .ref q_two, .ref q_ways, .ref q_now, .ref q_then])), (q_l, .inl (ca 0, 336, .inl v_l)), (q_one, .inl (ca 0, 7, .inl v_one))]) (w1 := []) (wn := [(q_this, .inr (8, [.ref q_text, .int v_size, .int v_at, .ref q_read, .ref q_l, .ref q_stands, .ref q_kept, .int v_keptMany, .ref q_one, .ref q_two, .ref q_ways, .ref q_now, .ref q_then])), (q_l, .inl (ca 0, 336, .inl v_l)), (q_one, .inl (ca 0, 7, .inl v_one))]) ⟨hx, hb, hml, hown, hts⟩ (c_X10_in l D ca H.size p3.toInt64 (lN 0) (lN 1) r_7 hg_8) (va_cwS 3 hts gX10_word__X10_in rfl rfl rfl (by decide +kernel) ⟨(Nat.le_of_ble_eq_true rfl), (Nat.le_of_ble_eq_true rfl)⟩) hK hP hD hS hA [] [0, 1, 2] [0, 1, 2] rfl rfl rfl rfl (by decide) rfl rfl rfl hl.1 rfl (Nat.le_of_ble_eq_true rfl) dX10_word__21 ⟨Nat.zero_le _, Nat.zero_le _⟩ (fun H locs hP hD hS => ?_)
      refine lv_if_eq (tgt := 42) hx hb dX10_word__24 (by decide) (fun c_9 => ?_) (fun c_9 => ?_)
      · replace h := ifp_el c_9 h
        refine lv_iconst (v := (-1 : Int32)) hx hb dX10_word__42 (by decide) ?_
        cases h
        rw [← hQe]
        exact W.iret hx hb hr (fun t ht hW => ⟨⟨_, (), rfl, rfl, by rw [ht]; exact hP, va_K.moved hW.alike hK, hD⟩, hS.F ht⟩) hS.2.2 dX10_word__43
      · replace h := ifn_el c_9 h
        refine lv_iload hx hb dX10_word__27 (lv_at hl 4 rfl) ?_
        refine lv_i2l hx hb dX10_word__29 rfl ?_
        refine lv_ldc2 hx hb hown k_162 dX10_word__30 ?_
        refine lv_ldc2 hx hb hown k_164 dX10_word__33 ?_
        obtain ⟨r_10, hg_11, h⟩ := bd1_el h
        refine kx_Si (As := [.long p4.toInt64, .long (-1 : Int64), .long (lN 5)]) (rest := []) (wr := [(q_this, .inr (8, [.ref q_text, .int v_size, .int v_at, .ref q_read, .ref q_l, .ref q_stands, .ref q_kept, .int v_keptMany, .ref q_one, .ref q_two, .ref q_ways, .ref q_now, .ref q_then])), (q_l, .inl (ca 0, 336, .inl v_l)), (q_one, .inl (ca 0, 7, .inl v_one))]) (w1 := []) (wn := [(q_this, .inr (8, [.ref q_text, .int v_size, .int v_at, .ref q_read, .ref q_l, .ref q_stands, .ref q_kept, .int v_keptMany, .ref q_one, .ref q_two, .ref q_ways, .ref q_now, .ref q_then])), (q_l, .inl (ca 0, 336, .inl v_l)), (q_one, .inl (ca 0, 7, .inl v_one))]) ⟨hx, hb, hml, hown, hts⟩ (c_X10_in l D ca H.size p4.toInt64 (-1 : Int64) (lN 5) r_10 hg_11) (va_cwS 3 hts gX10_word__X10_in rfl rfl rfl (by decide +kernel) ⟨(Nat.le_of_ble_eq_true rfl), (Nat.le_of_ble_eq_true rfl)⟩) hK hP hD hS hA [] [0, 1, 2] [0, 1, 2] rfl rfl rfl rfl (by decide) rfl rfl rfl hl.1 rfl (Nat.le_of_ble_eq_true rfl) dX10_word__36 ⟨Nat.zero_le _, Nat.zero_le _⟩ (fun H locs hP hD hS => ?_)
        refine lv_if_ne (tgt := 44) hx hb dX10_word__39 (by decide) (fun c_12 => ?_) (fun c_12 => ?_)
        · replace h := ifn_el c_12 h
          refine lv_aload_n hx hb dX10_word__44 rfl (lv_at hl 0 rfl) ?_
          refine lv_iload_n hx hb dX10_word__45 rfl (lv_at hl 1 rfl) ?_
          refine lv_iload_n hx hb dX10_word__46 rfl (lv_at hl 2 rfl) ?_
          obtain ⟨r_13, hg_14, h⟩ := bd1_el h
          refine kx_Si (As := [.int p1, .int p2]) (rest := [.ref q_this]) (wr := [(q_this, .inr (8, [.ref q_text, .int v_size, .int v_at, .ref q_read, .ref q_l, .ref q_stands, .ref q_kept, .int v_keptMany, .ref q_one, .ref q_two, .ref q_ways, .ref q_now, .ref q_then])), (q_l, .inl (ca 0, 336, .inl v_l)), (q_one, .inl (ca 0, 7, .inl v_one))]) (w1 := []) (wn := [(q_this, .inr (8, [.ref q_text, .int v_size, .int v_at, .ref q_read, .ref q_l, .ref q_stands, .ref q_kept, .int v_keptMany, .ref q_one, .ref q_two, .ref q_ways, .ref q_now, .ref q_then])), (q_l, .inl (ca 0, 336, .inl v_l)), (q_one, .inl (ca 0, 7, .inl v_one))]) ⟨hx, hb, hml, hown, hts⟩ (c_X10_wordAt l D ca H.size p1 p2 r_13 hg_14) (va_cwS 2 hts gX10_word__X10_wordAt rfl rfl rfl (by decide +kernel) ⟨(Nat.le_of_ble_eq_true rfl), (Nat.le_of_ble_eq_true rfl)⟩) hK hP hD hS hA [] [0, 1, 2] [0, 1, 2] rfl rfl rfl rfl (by decide) rfl rfl rfl hl.1 rfl (Nat.le_of_ble_eq_true rfl) dX10_word__47 ⟨Nat.zero_le _, Nat.zero_le _⟩ (fun H locs hP hD hS => ?_)
          refine lv_iload_n hx hb dX10_word__50 rfl (lv_at hl 3 rfl) ?_
          refine lv_iload_n hx hb dX10_word__51 rfl (lv_at hl 1 rfl) ?_
          have hj_60 : ∀ (z1_15 : Int32) (z2_16 : Int32) (H : Heap) (locs : List Loc) (ls : Array Slot), j_X10_word__60 p4 v_l v_one F z1_15 z2_16 = some (r, o_one) → va_P D vwCl [(q_this, .inr (8, [.ref q_text, .int v_size, .int v_at, .ref q_read, .ref q_l, .ref q_stands, .ref q_kept, .int v_keptMany, .ref q_one, .ref q_two, .ref q_ways, .ref q_now, .ref q_then])), (q_l, .inl (ca 0, 336, .inl v_l)), (q_one, .inl (ca 0, 7, .inl v_one))] H → va_D A [(q_this, .inr (8, [.ref q_text, .int v_size, .int v_at, .ref q_read, .ref q_l, .ref q_stands, .ref q_kept, .int v_keptMany, .ref q_one, .ref q_two, .ref q_ways, .ref q_now, .ref q_then])), (q_l, .inl (ca 0, 336, .inl v_l)), (q_one, .inl (ca 0, 7, .inl v_one))] → va_S A s.heap H locs → lv_has ls 5 [(0, .ref q_this), (4, .int p4)] → W p l e (headSpec wsX10_word_ rm_X10_word_).room s m args below meth c H locs 0 0 Q (F0 m 60 ls [.int z2_16, .int z1_15, .ref q_this]) := by
            intro z1_15 z2_16 H locs ls h hP hD hS hl
            rw [j_X10_word__60] at h
            refine lv_aload_n hx hb dX10_word__60 rfl (lv_at hl 0 rfl) ?_
            refine va_get (D := D) (ci := 8) (v := .ref q_one) (C := RX10) (T := TX10) (N := 13) hx hb hts i_X10 hown hK hP 0 rfl rfl 8 (by decide) k_25 (fun _ h9 => h9) rfl dX10_word__61 ?_
            obtain ⟨y_one_17, hg_18, h⟩ := bd1_el h
            refine kx_Vv (As := [.int z1_15, .int z2_16, .ref q_one]) (rest := []) (wr := []) (w1 := [(q_this, .inr (8, [.ref q_text, .int v_size, .int v_at, .ref q_read, .ref q_l, .ref q_stands, .ref q_kept, .int v_keptMany, .ref q_one, .ref q_two, .ref q_ways, .ref q_now, .ref q_then])), (q_l, .inl (ca 0, 336, .inl v_l)), (q_one, .inl (ca 0, 7, .inl y_one_17))]) (wn := [(q_this, .inr (8, [.ref q_text, .int v_size, .int v_at, .ref q_read, .ref q_l, .ref q_stands, .ref q_kept, .int v_keptMany, .ref q_one, .ref q_two, .ref q_ways, .ref q_now, .ref q_then])), (q_l, .inl (ca 0, 336, .inl v_l)), (q_one, .inl (ca 0, 7, .inl y_one_17))]) ⟨hx, hb, hml, hown, hts⟩ (c_X10_say l D ca F H.size q_this q_text q_read q_l q_stands q_kept q_one q_two q_ways q_now q_then q_one 7 z1_15 z2_16 v_size v_at v_keptMany v_l v_one y_one_17 hg_18) (cwV 3 hts gX10_word__X10_say rfl rfl rfl (by decide +kernel) ⟨(Nat.le_of_ble_eq_true rfl), (Nat.le_of_ble_eq_true rfl)⟩) hK hP hD hS hA (ci := 8) (q0 := 0) rfl rfl [0, 1, 2] [] [0, 1, 2] rfl rfl rfl rfl (by decide) rfl rfl rfl hl.1 rfl (Nat.le_of_ble_eq_true rfl) dX10_word__64 ⟨Nat.zero_le _, Nat.zero_le _⟩ (fun H locs hP hD hS => ?_)
            refine lv_iload hx hb dX10_word__67 (lv_at hl 1 rfl) ?_
            refine lv_if_ge (tgt := 81) hx hb dX10_word__69 (by decide) (fun c_19 => ?_) (fun c_19 => ?_)
            · replace h := ifp_el c_19 h
              refine lv_iload hx hb dX10_word__81 (lv_at hl 1 rfl) ?_
              refine lv_aload_n hx hb dX10_word__83 rfl (lv_at hl 0 rfl) ?_
              refine va_get (D := D) (ci := 8) (v := .ref q_one) (C := RX10) (T := TX10) (N := 13) hx hb hts i_X10 hown hK hP 0 rfl rfl 8 (by decide) k_25 (fun _ h9 => h9) rfl dX10_word__84 ?_
              refine lv_iconst (v := (nI 0)) hx hb dX10_word__87 (by decide) ?_
              obtain ⟨hi_20, h⟩ := ck_el h
              refine va_iald hx hb hK hP 2 0 rfl rfl hi_20 dX10_word__88 ?_
              refine lv_icmp_ge (tgt := 104) hx hb dX10_word__89 (by decide) (fun c_21 => ?_) (fun c_21 => ?_)
              · replace h := ifp_el c_21 h
                refine lv_bipush (v := (-4 : Int32)) hx hb dX10_word__104 (by decide) ?_
                cases h
                rw [← hQe]
                exact W.iret hx hb hr (fun t ht hW => ⟨⟨_, (), rfl, rfl, by rw [ht]; exact hP, va_K.moved hW.alike hK, hD⟩, hS.F ht⟩) hS.2.2 dX10_word__106
              · replace h := ifn_el c_21 h
                refine lv_aload_n hx hb dX10_word__92 rfl (lv_at hl 0 rfl) ?_
                refine va_get (D := D) (ci := 8) (v := .ref q_one) (C := RX10) (T := TX10) (N := 13) hx hb hts i_X10 hown hK hP 0 rfl rfl 8 (by decide) k_25 (fun _ h9 => h9) rfl dX10_word__93 ?_
                refine lv_iconst (v := (nI 1)) hx hb dX10_word__96 (by decide) ?_
                refine lv_iload hx hb dX10_word__97 (lv_at hl 1 rfl) ?_
                refine lv_iadd hx hb dX10_word__99 ?_
                obtain ⟨hi_22, h⟩ := ck_el h
                refine va_iald hx hb hK hP 2 0 rfl rfl hi_22 dX10_word__100 ?_
                refine lv_goto (tgt := 106) hx hb dX10_word__101 (by decide) ?_
                cases h
                rw [← hQe]
                exact W.iret hx hb hr (fun t ht hW => ⟨⟨_, (), rfl, rfl, by rw [ht]; exact hP, va_K.moved hW.alike hK, hD⟩, hS.F ht⟩) hS.2.2 dX10_word__106
            · replace h := ifn_el c_19 h
              refine lv_aload_n hx hb dX10_word__72 rfl (lv_at hl 0 rfl) ?_
              refine va_get (D := D) (ci := 8) (v := .ref q_one) (C := RX10) (T := TX10) (N := 13) hx hb hts i_X10 hown hK hP 0 rfl rfl 8 (by decide) k_25 (fun _ h9 => h9) rfl dX10_word__73 ?_
              refine lv_iconst (v := (nI 0)) hx hb dX10_word__76 (by decide) ?_
              obtain ⟨hi_23, h⟩ := ck_el h
              refine va_iald hx hb hK hP 2 0 rfl rfl hi_23 dX10_word__77 ?_
              refine lv_goto (tgt := 106) hx hb dX10_word__78 (by decide) ?_
              cases h
              rw [← hQe]
              exact W.iret hx hb hr (fun t ht hW => ⟨⟨_, (), rfl, rfl, by rw [ht]; exact hP, va_K.moved hW.alike hK, hD⟩, hS.F ht⟩) hS.2.2 dX10_word__106
          refine lv_icmp_ne (tgt := 59) hx hb dX10_word__52 (by decide) (fun c_24 => ?_) (fun c_24 => ?_)
          · replace h := ifn_el c_24 h
            refine lv_iload_n hx hb dX10_word__59 rfl (lv_at hl 3 rfl) ?_
            exact hj_60 _ _ _ _ _ h hP hD hS (lv_sub hl [0, 4] rfl)
          · replace h := ifp_el c_24 h
            refine lv_iconst (v := (-1 : Int32)) hx hb dX10_word__55 (by decide) ?_
            refine lv_goto (tgt := 60) hx hb dX10_word__56 (by decide) ?_
            exact hj_60 _ _ _ _ _ h hP hD hS (lv_sub hl [0, 4] rfl)
        · replace h := ifp_el c_12 h
          refine lv_iconst (v := (-1 : Int32)) hx hb dX10_word__42 (by decide) ?_
          cases h
          rw [← hQe]
          exact W.iret hx hb hr (fun t ht hW => ⟨⟨_, (), rfl, rfl, by rw [ht]; exact hP, va_K.moved hW.alike hK, hD⟩, hS.F ht⟩) hS.2.2 dX10_word__43
def D_X10_far (F : Nat) (p1 : Int32) (p2 : Int32) (p3 : Int32) (p4 : Int32) (v_l : Nat → Int32) (v_one : Nat → Int32) (v_two : Nat → Int32) (v_ways : Nat → Int32) : Option (Int32 × (Nat → Int32) × (Nat → Int32) × (Nat → Int32)) := bd1 (D_X10_in p1.toInt64 (lN 0) (lN 1)) (fun r_1 => (if r_1 = 0 then some ((-1 : Int32), v_one, v_two, v_ways) else bd1 (D_X10_isMeaning p2) (fun r_4 => (if r_4 = 0 then some ((-1 : Int32), v_one, v_two, v_ways) else bd1 (D_X10_in p3.toInt64 (lN 0) (lN 1)) (fun r_7 => (if r_7 = 0 then some ((-1 : Int32), v_one, v_two, v_ways) else bd1 (D_X10_isMeaning p4) (fun r_10 => (if r_10 = 0 then some ((-1 : Int32), v_one, v_two, v_ways) else bd1 (D_X10_wordAt p1 p2) (fun r_13 => bd1 (D_X10_say F 7 r_13 (-1 : Int32) v_l v_one) (fun y_one_15 => bd1 (D_X10_wordAt p3 p4) (fun r_17 => bd1 (D_X10_say F 7 r_17 (-1 : Int32) v_l v_two) (fun y_two_19 => ck 7 (nI 0) ((if (y_one_15 (nI 0).toNatClampNeg) = 0 then some ((-2 : Int32), y_one_15, y_two_19, v_ways) else ck 7 (nI 0) ((if (y_two_19 (nI 0).toNatClampNeg) = 0 then some ((-2 : Int32), y_one_15, y_two_19, v_ways) else bd2 (D_X10_farOf F y_one_15 y_two_19 v_ways) (fun r_25 y_ways_26 => some (r_25, y_one_15, y_two_19, y_ways_26))))))))))))))))))
abbrev rm_X10_far : Room := { frames := 3, cells := 0, slots := 0, locals := 71 }
set_option maxHeartbeats 4000000 in
set_option maxRecDepth 100000 in
theorem c_X10_far (l : Launch) (D : va_G) (ca : Nat → ClassId) (F : Nat) (sz : Nat) (q_this q_text q_read q_l q_stands q_kept q_one q_two q_ways q_now q_then : Nat) (p1 : Int32) (p2 : Int32) (p3 : Int32) (p4 : Int32) (v_size : Int32) (v_at : Int32) (v_keptMany : Int32) (v_l : Nat → Int32) (v_one : Nat → Int32) (v_two : Nat → Int32) (v_ways : Nat → Int32) (r : Int32) (o_one : Nat → Int32) (o_two : Nat → Int32) (o_ways : Nat → Int32) (h : D_X10_far F p1 p2 p3 p4 v_l v_one v_two v_ways = some (r, o_one, o_two, o_ways)) : Met l yX10_far wsX10_far rm_X10_far (va_Pc [.ref q_this, .int p1, .int p2, .int p3, .int p4] (kPre D ca [(q_this, .inr (8, [.ref q_text, .int v_size, .int v_at, .ref q_read, .ref q_l, .ref q_stands, .ref q_kept, .int v_keptMany, .ref q_one, .ref q_two, .ref q_ways, .ref q_now, .ref q_then])), (q_l, .inl (ca 0, 336, .inl v_l)), (q_one, .inl (ca 0, 7, .inl v_one)), (q_two, .inl (ca 0, 7, .inl v_two)), (q_ways, .inl (ca 0, 49, .inl v_ways))] sz)) (kQi D ca (va_A [(q_this, .inr (8, [.ref q_text, .int v_size, .int v_at, .ref q_read, .ref q_l, .ref q_stands, .ref q_kept, .int v_keptMany, .ref q_one, .ref q_two, .ref q_ways, .ref q_now, .ref q_then])), (q_l, .inl (ca 0, 336, .inl v_l)), (q_one, .inl (ca 0, 7, .inl v_one)), (q_two, .inl (ca 0, 7, .inl v_two)), (q_ways, .inl (ca 0, 49, .inl v_ways))] sz) [(q_this, .inr (8, [.ref q_text, .int v_size, .int v_at, .ref q_read, .ref q_l, .ref q_stands, .ref q_kept, .int v_keptMany, .ref q_one, .ref q_two, .ref q_ways, .ref q_now, .ref q_then])), (q_l, .inl (ca 0, 336, .inl v_l)), (q_one, .inl (ca 0, 7, .inl o_one)), (q_two, .inl (ca 0, 7, .inl o_two)), (q_ways, .inl (ca 0, 49, .inl o_ways))] r) 0 0 (va_A [(q_this, .inr (8, [.ref q_text, .int v_size, .int v_at, .ref q_read, .ref q_l, .ref q_stands, .ref q_kept, .int v_keptMany, .ref q_one, .ref q_two, .ref q_ways, .ref q_now, .ref q_then])), (q_l, .inl (ca 0, 336, .inl v_l)), (q_one, .inl (ca 0, 7, .inl v_one)), (q_two, .inl (ca 0, 7, .inl v_two)), (q_ways, .inl (ca 0, 49, .inl v_ways))] sz) := by
  refine Met.ofW (cc := cX10_far) (maxL := 5) (ret := (some .int)) (by decide +kernel) rfl ?_
  intro p e s m args below meth c s₁ B hml hv
  obtain ⟨rfl, hsz, hP, hK, hD0⟩ := hv
  have hx := B.exec
  have hb := B.bytes
  have hr := B.returns
  have hts := atoms_spec (ws := wsX10_far) B.pre
  have hown : s.vm.findClass RX10 = some m.cls := findClass_of_methodNamed B.named
  have hlocks := B.notSynchronized
  clear B
  subst hsz
  have hD := hD0.self (sz := s.heap.size)
  generalize hAe : va_A [(q_this, .inr (8, [.ref q_text, .int v_size, .int v_at, .ref q_read, .ref q_l, .ref q_stands, .ref q_kept, .int v_keptMany, .ref q_one, .ref q_two, .ref q_ways, .ref q_now, .ref q_then])), (q_l, .inl (ca 0, 336, .inl v_l)), (q_one, .inl (ca 0, 7, .inl v_one)), (q_two, .inl (ca 0, 7, .inl v_two)), (q_ways, .inl (ca 0, 49, .inl v_ways))] s.heap.size = A at hD ⊢
  have hA : ∀ q : Nat, s.heap.size ≤ q → A q := fun q h => by rw [← hAe]; exact Or.inr h
  have hS : va_S A s.heap s.heap [] := va_S.rf
  have hl := lv_entry ([.ref q_this, .int p1, .int p2, .int p3, .int p4]) (n := 5) (Nat.le_of_ble_eq_true rfl)
  rw [lg_entry_eq]
  generalize (lg_sl ([.ref q_this, .int p1, .int p2, .int p3, .int p4]) ++ List.replicate (5 - (lg_sl ([.ref q_this, .int p1, .int p2, .int p3, .int p4])).length) Slot.unset).toArray = ls at hl ⊢
  have hl : lv_has ls 5 [(0, .ref q_this), (1, .int p1), (2, .int p2), (3, .int p3), (4, .int p4)] := hl
  generalize ([.ref q_this, .int p1, .int p2, .int p3, .int p4] : List Value).toArray = args at hts ⊢
  generalize hQe : MQ below (kQi D ca (A) [(q_this, .inr (8, [.ref q_text, .int v_size, .int v_at, .ref q_read, .ref q_l, .ref q_stands, .ref q_kept, .int v_keptMany, .ref q_one, .ref q_two, .ref q_ways, .ref q_now, .ref q_then])), (q_l, .inl (ca 0, 336, .inl v_l)), (q_one, .inl (ca 0, 7, .inl o_one)), (q_two, .inl (ca 0, 7, .inl o_two)), (q_ways, .inl (ca 0, 49, .inl o_ways))] r) args s 0 0 A = Q
  have i_X10 : ∀ w ∈ u_ws RX10 TX10 13, w ∈ wsX10_far := by decide +kernel
  have k_25 := hts (.fieldLink RX10 25 "TradeWordsModel" "one" "[I") (by decide +kernel)
  have k_28 := hts (.fieldLink RX10 28 "TradeWordsModel" "two" "[I") (by decide +kernel)
  rw [D_X10_far] at h
  refine lv_iload_n hx hb dX10_far_0 rfl (lv_at hl 1 rfl) ?_
  refine lv_i2l hx hb dX10_far_1 rfl ?_
  refine lv_lconst (v := (lN 0)) hx hb dX10_far_2 (by decide) ?_
  refine lv_lconst (v := (lN 1)) hx hb dX10_far_3 (by decide) ?_
  obtain ⟨r_1, hg_2, h⟩ := bd1_el h
  refine kx_Si (As := [.long p1.toInt64, .long (lN 0), .long (lN 1)]) (rest := []) (wr := [(q_this, .inr (8, [.ref q_text, .int v_size, .int v_at, .ref q_read, .ref q_l, .ref q_stands, .ref q_kept, .int v_keptMany, .ref q_one, .ref q_two, .ref q_ways, .ref q_now, .ref q_then])), (q_l, .inl (ca 0, 336, .inl v_l)), (q_one, .inl (ca 0, 7, .inl v_one)), (q_two, .inl (ca 0, 7, .inl v_two)), (q_ways, .inl (ca 0, 49, .inl v_ways))]) (w1 := []) (wn := [(q_this, .inr (8, [.ref q_text, .int v_size, .int v_at, .ref q_read, .ref q_l, .ref q_stands, .ref q_kept, .int v_keptMany, .ref q_one, .ref q_two, .ref q_ways, .ref q_now, .ref q_then])), (q_l, .inl (ca 0, 336, .inl v_l)), (q_one, .inl (ca 0, 7, .inl v_one)), (q_two, .inl (ca 0, 7, .inl v_two)), (q_ways, .inl (ca 0, 49, .inl v_ways))]) ⟨hx, hb, hml, hown, hts⟩ (c_X10_in l D ca s.heap.size p1.toInt64 (lN 0) (lN 1) r_1 hg_2) (va_cwS 3 hts gX10_far_X10_in rfl rfl rfl (by decide +kernel) ⟨(Nat.le_of_ble_eq_true rfl), (Nat.le_of_ble_eq_true rfl)⟩) hK hP hD hS hA [] [0, 1, 2, 3, 4] [0, 1, 2, 3, 4] rfl rfl rfl rfl (by decide) rfl rfl rfl hl.1 rfl (Nat.le_of_ble_eq_true rfl) dX10_far_4 ⟨Nat.zero_le _, Nat.zero_le _⟩ (fun H locs hP hD hS => ?_)
  refine lv_if_eq (tgt := 35) hx hb dX10_far_7 (by decide) (fun c_3 => ?_) (fun c_3 => ?_)
  · replace h := ifp_el c_3 h
    refine lv_iconst (v := (-1 : Int32)) hx hb dX10_far_35 (by decide) ?_
    cases h
    rw [← hQe]
    exact W.iret hx hb hr (fun t ht hW => ⟨⟨_, (), rfl, rfl, by rw [ht]; exact hP, va_K.moved hW.alike hK, hD⟩, hS.F ht⟩) hS.2.2 dX10_far_36
  · replace h := ifn_el c_3 h
    refine lv_iload_n hx hb dX10_far_10 rfl (lv_at hl 2 rfl) ?_
    obtain ⟨r_4, hg_5, h⟩ := bd1_el h
    refine kx_Si (As := [.int p2]) (rest := []) (wr := [(q_this, .inr (8, [.ref q_text, .int v_size, .int v_at, .ref q_read, .ref q_l, .ref q_stands, .ref q_kept, .int v_keptMany, .ref q_one, .ref q_two, .ref q_ways, .ref q_now, .ref q_then])), (q_l, .inl (ca 0, 336, .inl v_l)), (q_one, .inl (ca 0, 7, .inl v_one)), (q_two, .inl (ca 0, 7, .inl v_two)), (q_ways, .inl (ca 0, 49, .inl v_ways))]) (w1 := []) (wn := [(q_this, .inr (8, [.ref q_text, .int v_size, .int v_at, .ref q_read, .ref q_l, .ref q_stands, .ref q_kept, .int v_keptMany, .ref q_one, .ref q_two, .ref q_ways, .ref q_now, .ref q_then])), (q_l, .inl (ca 0, 336, .inl v_l)), (q_one, .inl (ca 0, 7, .inl v_one)), (q_two, .inl (ca 0, 7, .inl v_two)), (q_ways, .inl (ca 0, 49, .inl v_ways))]) ⟨hx, hb, hml, hown, hts⟩ (c_X10_isMeaning l D ca H.size p2 r_4 hg_5) (va_cwS 1 hts gX10_far_X10_isMeaning rfl rfl rfl (by decide +kernel) ⟨(Nat.le_of_ble_eq_true rfl), (Nat.le_of_ble_eq_true rfl)⟩) hK hP hD hS hA [] [0, 1, 2, 3, 4] [0, 1, 2, 3, 4] rfl rfl rfl rfl (by decide) rfl rfl rfl hl.1 rfl (Nat.le_of_ble_eq_true rfl) dX10_far_11 ⟨Nat.zero_le _, Nat.zero_le _⟩ (fun H locs hP hD hS => ?_)
    refine lv_if_eq (tgt := 35) hx hb dX10_far_14 (by decide) (fun c_6 => ?_) (fun c_6 => ?_)
    · replace h := ifp_el c_6 h
      refine lv_iconst (v := (-1 : Int32)) hx hb dX10_far_35 (by decide) ?_
      cases h
      rw [← hQe]
      exact W.iret hx hb hr (fun t ht hW => ⟨⟨_, (), rfl, rfl, by rw [ht]; exact hP, va_K.moved hW.alike hK, hD⟩, hS.F ht⟩) hS.2.2 dX10_far_36
    · replace h := ifn_el c_6 h
      refine lv_iload_n hx hb dX10_far_17 rfl (lv_at hl 3 rfl) ?_
      refine lv_i2l hx hb dX10_far_18 rfl ?_
      refine lv_lconst (v := (lN 0)) hx hb dX10_far_19 (by decide) ?_
      refine lv_lconst (v := (lN 1)) hx hb dX10_far_20 (by decide) ?_
      obtain ⟨r_7, hg_8, h⟩ := bd1_el h
      refine kx_Si (As := [.long p3.toInt64, .long (lN 0), .long (lN 1)]) (rest := []) (wr := [(q_this, .inr (8, [.ref q_text, .int v_size, .int v_at, .ref q_read, .ref q_l, .ref q_stands, .ref q_kept, .int v_keptMany, .ref q_one, .ref q_two, .ref q_ways, .ref q_now, .ref q_then])), (q_l, .inl (ca 0, 336, .inl v_l)), (q_one, .inl (ca 0, 7, .inl v_one)), (q_two, .inl (ca 0, 7, .inl v_two)), (q_ways, .inl (ca 0, 49, .inl v_ways))]) (w1 := []) (wn := [(q_this, .inr (8, [.ref q_text, .int v_size, .int v_at, .ref q_read, .ref q_l, .ref q_stands, .ref q_kept, .int v_keptMany, .ref q_one, .ref q_two, .ref q_ways, .ref q_now, .ref q_then])), (q_l, .inl (ca 0, 336, .inl v_l)), (q_one, .inl (ca 0, 7, .inl v_one)), (q_two, .inl (ca 0, 7, .inl v_two)), (q_ways, .inl (ca 0, 49, .inl v_ways))]) ⟨hx, hb, hml, hown, hts⟩ (c_X10_in l D ca H.size p3.toInt64 (lN 0) (lN 1) r_7 hg_8) (va_cwS 3 hts gX10_far_X10_in rfl rfl rfl (by decide +kernel) ⟨(Nat.le_of_ble_eq_true rfl), (Nat.le_of_ble_eq_true rfl)⟩) hK hP hD hS hA [] [0, 1, 2, 3, 4] [0, 1, 2, 3, 4] rfl rfl rfl rfl (by decide) rfl rfl rfl hl.1 rfl (Nat.le_of_ble_eq_true rfl) dX10_far_21 ⟨Nat.zero_le _, Nat.zero_le _⟩ (fun H locs hP hD hS => ?_)
      refine lv_if_eq (tgt := 35) hx hb dX10_far_24 (by decide) (fun c_9 => ?_) (fun c_9 => ?_)
      · replace h := ifp_el c_9 h
        refine lv_iconst (v := (-1 : Int32)) hx hb dX10_far_35 (by decide) ?_
        cases h
        rw [← hQe]
        exact W.iret hx hb hr (fun t ht hW => ⟨⟨_, (), rfl, rfl, by rw [ht]; exact hP, va_K.moved hW.alike hK, hD⟩, hS.F ht⟩) hS.2.2 dX10_far_36
      · replace h := ifn_el c_9 h
        refine lv_iload hx hb dX10_far_27 (lv_at hl 4 rfl) ?_
        obtain ⟨r_10, hg_11, h⟩ := bd1_el h
        refine kx_Si (As := [.int p4]) (rest := []) (wr := [(q_this, .inr (8, [.ref q_text, .int v_size, .int v_at, .ref q_read, .ref q_l, .ref q_stands, .ref q_kept, .int v_keptMany, .ref q_one, .ref q_two, .ref q_ways, .ref q_now, .ref q_then])), (q_l, .inl (ca 0, 336, .inl v_l)), (q_one, .inl (ca 0, 7, .inl v_one)), (q_two, .inl (ca 0, 7, .inl v_two)), (q_ways, .inl (ca 0, 49, .inl v_ways))]) (w1 := []) (wn := [(q_this, .inr (8, [.ref q_text, .int v_size, .int v_at, .ref q_read, .ref q_l, .ref q_stands, .ref q_kept, .int v_keptMany, .ref q_one, .ref q_two, .ref q_ways, .ref q_now, .ref q_then])), (q_l, .inl (ca 0, 336, .inl v_l)), (q_one, .inl (ca 0, 7, .inl v_one)), (q_two, .inl (ca 0, 7, .inl v_two)), (q_ways, .inl (ca 0, 49, .inl v_ways))]) ⟨hx, hb, hml, hown, hts⟩ (c_X10_isMeaning l D ca H.size p4 r_10 hg_11) (va_cwS 1 hts gX10_far_X10_isMeaning rfl rfl rfl (by decide +kernel) ⟨(Nat.le_of_ble_eq_true rfl), (Nat.le_of_ble_eq_true rfl)⟩) hK hP hD hS hA [] [0, 1, 2, 3, 4] [0, 1, 2, 3, 4] rfl rfl rfl rfl (by decide) rfl rfl rfl hl.1 rfl (Nat.le_of_ble_eq_true rfl) dX10_far_29 ⟨Nat.zero_le _, Nat.zero_le _⟩ (fun H locs hP hD hS => ?_)
        refine lv_if_ne (tgt := 37) hx hb dX10_far_32 (by decide) (fun c_12 => ?_) (fun c_12 => ?_)
        · replace h := ifn_el c_12 h
          refine lv_aload_n hx hb dX10_far_37 rfl (lv_at hl 0 rfl) ?_
          refine lv_iload_n hx hb dX10_far_38 rfl (lv_at hl 1 rfl) ?_
          refine lv_iload_n hx hb dX10_far_39 rfl (lv_at hl 2 rfl) ?_
          obtain ⟨r_13, hg_14, h⟩ := bd1_el h
          refine kx_Si (As := [.int p1, .int p2]) (rest := [.ref q_this]) (wr := [(q_this, .inr (8, [.ref q_text, .int v_size, .int v_at, .ref q_read, .ref q_l, .ref q_stands, .ref q_kept, .int v_keptMany, .ref q_one, .ref q_two, .ref q_ways, .ref q_now, .ref q_then])), (q_l, .inl (ca 0, 336, .inl v_l)), (q_one, .inl (ca 0, 7, .inl v_one)), (q_two, .inl (ca 0, 7, .inl v_two)), (q_ways, .inl (ca 0, 49, .inl v_ways))]) (w1 := []) (wn := [(q_this, .inr (8, [.ref q_text, .int v_size, .int v_at, .ref q_read, .ref q_l, .ref q_stands, .ref q_kept, .int v_keptMany, .ref q_one, .ref q_two, .ref q_ways, .ref q_now, .ref q_then])), (q_l, .inl (ca 0, 336, .inl v_l)), (q_one, .inl (ca 0, 7, .inl v_one)), (q_two, .inl (ca 0, 7, .inl v_two)), (q_ways, .inl (ca 0, 49, .inl v_ways))]) ⟨hx, hb, hml, hown, hts⟩ (c_X10_wordAt l D ca H.size p1 p2 r_13 hg_14) (va_cwS 2 hts gX10_far_X10_wordAt rfl rfl rfl (by decide +kernel) ⟨(Nat.le_of_ble_eq_true rfl), (Nat.le_of_ble_eq_true rfl)⟩) hK hP hD hS hA [] [0, 1, 2, 3, 4] [0, 1, 2, 3, 4] rfl rfl rfl rfl (by decide) rfl rfl rfl hl.1 rfl (Nat.le_of_ble_eq_true rfl) dX10_far_40 ⟨Nat.zero_le _, Nat.zero_le _⟩ (fun H locs hP hD hS => ?_)
          refine lv_iconst (v := (-1 : Int32)) hx hb dX10_far_43 (by decide) ?_
          refine lv_aload_n hx hb dX10_far_44 rfl (lv_at hl 0 rfl) ?_
          refine va_get (D := D) (ci := 8) (v := .ref q_one) (C := RX10) (T := TX10) (N := 13) hx hb hts i_X10 hown hK hP 0 rfl rfl 8 (by decide) k_25 (fun _ h9 => h9) rfl dX10_far_45 ?_
          obtain ⟨y_one_15, hg_16, h⟩ := bd1_el h
          refine kx_Vv (As := [.int r_13, .int (-1 : Int32), .ref q_one]) (rest := []) (wr := [(q_two, .inl (ca 0, 7, .inl v_two)), (q_ways, .inl (ca 0, 49, .inl v_ways))]) (w1 := [(q_this, .inr (8, [.ref q_text, .int v_size, .int v_at, .ref q_read, .ref q_l, .ref q_stands, .ref q_kept, .int v_keptMany, .ref q_one, .ref q_two, .ref q_ways, .ref q_now, .ref q_then])), (q_l, .inl (ca 0, 336, .inl v_l)), (q_one, .inl (ca 0, 7, .inl y_one_15))]) (wn := [(q_this, .inr (8, [.ref q_text, .int v_size, .int v_at, .ref q_read, .ref q_l, .ref q_stands, .ref q_kept, .int v_keptMany, .ref q_one, .ref q_two, .ref q_ways, .ref q_now, .ref q_then])), (q_l, .inl (ca 0, 336, .inl v_l)), (q_one, .inl (ca 0, 7, .inl y_one_15)), (q_two, .inl (ca 0, 7, .inl v_two)), (q_ways, .inl (ca 0, 49, .inl v_ways))]) ⟨hx, hb, hml, hown, hts⟩ (c_X10_say l D ca F H.size q_this q_text q_read q_l q_stands q_kept q_one q_two q_ways q_now q_then q_one 7 r_13 (-1 : Int32) v_size v_at v_keptMany v_l v_one y_one_15 hg_16) (cwV 3 hts gX10_far_X10_say rfl rfl rfl (by decide +kernel) ⟨(Nat.le_of_ble_eq_true rfl), (Nat.le_of_ble_eq_true rfl)⟩) hK hP hD hS hA (ci := 8) (q0 := 0) rfl rfl [0, 1, 2] [3, 4] [2, 3, 4, 0, 1] rfl rfl rfl rfl (by decide) rfl rfl rfl hl.1 rfl (Nat.le_of_ble_eq_true rfl) dX10_far_48 ⟨Nat.zero_le _, Nat.zero_le _⟩ (fun H locs hP hD hS => ?_)
          refine lv_aload_n hx hb dX10_far_51 rfl (lv_at hl 0 rfl) ?_
          refine lv_iload_n hx hb dX10_far_52 rfl (lv_at hl 3 rfl) ?_
          refine lv_iload hx hb dX10_far_53 (lv_at hl 4 rfl) ?_
          obtain ⟨r_17, hg_18, h⟩ := bd1_el h
          refine kx_Si (As := [.int p3, .int p4]) (rest := [.ref q_this]) (wr := [(q_this, .inr (8, [.ref q_text, .int v_size, .int v_at, .ref q_read, .ref q_l, .ref q_stands, .ref q_kept, .int v_keptMany, .ref q_one, .ref q_two, .ref q_ways, .ref q_now, .ref q_then])), (q_l, .inl (ca 0, 336, .inl v_l)), (q_one, .inl (ca 0, 7, .inl y_one_15)), (q_two, .inl (ca 0, 7, .inl v_two)), (q_ways, .inl (ca 0, 49, .inl v_ways))]) (w1 := []) (wn := [(q_this, .inr (8, [.ref q_text, .int v_size, .int v_at, .ref q_read, .ref q_l, .ref q_stands, .ref q_kept, .int v_keptMany, .ref q_one, .ref q_two, .ref q_ways, .ref q_now, .ref q_then])), (q_l, .inl (ca 0, 336, .inl v_l)), (q_one, .inl (ca 0, 7, .inl y_one_15)), (q_two, .inl (ca 0, 7, .inl v_two)), (q_ways, .inl (ca 0, 49, .inl v_ways))]) ⟨hx, hb, hml, hown, hts⟩ (c_X10_wordAt l D ca H.size p3 p4 r_17 hg_18) (va_cwS 2 hts gX10_far_X10_wordAt rfl rfl rfl (by decide +kernel) ⟨(Nat.le_of_ble_eq_true rfl), (Nat.le_of_ble_eq_true rfl)⟩) hK hP hD hS hA [] [0, 1, 2, 3, 4] [0, 1, 2, 3, 4] rfl rfl rfl rfl (by decide) rfl rfl rfl hl.1 rfl (Nat.le_of_ble_eq_true rfl) dX10_far_55 ⟨Nat.zero_le _, Nat.zero_le _⟩ (fun H locs hP hD hS => ?_)
          refine lv_iconst (v := (-1 : Int32)) hx hb dX10_far_58 (by decide) ?_
          refine lv_aload_n hx hb dX10_far_59 rfl (lv_at hl 0 rfl) ?_
          refine va_get (D := D) (ci := 8) (v := .ref q_two) (C := RX10) (T := TX10) (N := 13) hx hb hts i_X10 hown hK hP 0 rfl rfl 9 (by decide) k_28 (fun _ h9 => h9) rfl dX10_far_60 ?_
          obtain ⟨y_two_19, hg_20, h⟩ := bd1_el h
          refine kx_Vv (As := [.int r_17, .int (-1 : Int32), .ref q_two]) (rest := []) (wr := [(q_one, .inl (ca 0, 7, .inl y_one_15)), (q_ways, .inl (ca 0, 49, .inl v_ways))]) (w1 := [(q_this, .inr (8, [.ref q_text, .int v_size, .int v_at, .ref q_read, .ref q_l, .ref q_stands, .ref q_kept, .int v_keptMany, .ref q_one, .ref q_two, .ref q_ways, .ref q_now, .ref q_then])), (q_l, .inl (ca 0, 336, .inl v_l)), (q_two, .inl (ca 0, 7, .inl y_two_19))]) (wn := [(q_this, .inr (8, [.ref q_text, .int v_size, .int v_at, .ref q_read, .ref q_l, .ref q_stands, .ref q_kept, .int v_keptMany, .ref q_one, .ref q_two, .ref q_ways, .ref q_now, .ref q_then])), (q_l, .inl (ca 0, 336, .inl v_l)), (q_one, .inl (ca 0, 7, .inl y_one_15)), (q_two, .inl (ca 0, 7, .inl y_two_19)), (q_ways, .inl (ca 0, 49, .inl v_ways))]) ⟨hx, hb, hml, hown, hts⟩ (c_X10_say l D ca F H.size q_this q_text q_read q_l q_stands q_kept q_one q_two q_ways q_now q_then q_two 7 r_17 (-1 : Int32) v_size v_at v_keptMany v_l v_two y_two_19 hg_20) (cwV 3 hts gX10_far_X10_say rfl rfl rfl (by decide +kernel) ⟨(Nat.le_of_ble_eq_true rfl), (Nat.le_of_ble_eq_true rfl)⟩) hK hP hD hS hA (ci := 8) (q0 := 0) rfl rfl [0, 1, 3] [2, 4] [2, 3, 0, 4, 1] rfl rfl rfl rfl (by decide) rfl rfl rfl hl.1 rfl (Nat.le_of_ble_eq_true rfl) dX10_far_63 ⟨Nat.zero_le _, Nat.zero_le _⟩ (fun H locs hP hD hS => ?_)
          refine lv_aload_n hx hb dX10_far_66 rfl (lv_at hl 0 rfl) ?_
          refine va_get (D := D) (ci := 8) (v := .ref q_one) (C := RX10) (T := TX10) (N := 13) hx hb hts i_X10 hown hK hP 0 rfl rfl 8 (by decide) k_25 (fun _ h9 => h9) rfl dX10_far_67 ?_
          refine lv_iconst (v := (nI 0)) hx hb dX10_far_70 (by decide) ?_
          obtain ⟨hi_21, h⟩ := ck_el h
          refine va_iald hx hb hK hP 2 0 rfl rfl hi_21 dX10_far_71 ?_
          refine lv_if_eq (tgt := 84) hx hb dX10_far_72 (by decide) (fun c_22 => ?_) (fun c_22 => ?_)
          · replace h := ifp_el c_22 h
            refine lv_bipush (v := (-2 : Int32)) hx hb dX10_far_84 (by decide) ?_
            refine lv_goto (tgt := 93) hx hb dX10_far_86 (by decide) ?_
            cases h
            rw [← hQe]
            exact W.iret hx hb hr (fun t ht hW => ⟨⟨_, (), rfl, rfl, by rw [ht]; exact hP, va_K.moved hW.alike hK, hD⟩, hS.F ht⟩) hS.2.2 dX10_far_93
          · replace h := ifn_el c_22 h
            refine lv_aload_n hx hb dX10_far_75 rfl (lv_at hl 0 rfl) ?_
            refine va_get (D := D) (ci := 8) (v := .ref q_two) (C := RX10) (T := TX10) (N := 13) hx hb hts i_X10 hown hK hP 0 rfl rfl 9 (by decide) k_28 (fun _ h9 => h9) rfl dX10_far_76 ?_
            refine lv_iconst (v := (nI 0)) hx hb dX10_far_79 (by decide) ?_
            obtain ⟨hi_23, h⟩ := ck_el h
            refine va_iald hx hb hK hP 3 0 rfl rfl hi_23 dX10_far_80 ?_
            refine lv_if_ne (tgt := 89) hx hb dX10_far_81 (by decide) (fun c_24 => ?_) (fun c_24 => ?_)
            · replace h := ifn_el c_24 h
              refine lv_aload_n hx hb dX10_far_89 rfl (lv_at hl 0 rfl) ?_
              obtain ⟨r_25, y_ways_26, hg_27, h⟩ := bd2_el h
              refine kx_Vi (As := []) (rest := []) (wr := [(q_l, .inl (ca 0, 336, .inl v_l))]) (w1 := [(q_this, .inr (8, [.ref q_text, .int v_size, .int v_at, .ref q_read, .ref q_l, .ref q_stands, .ref q_kept, .int v_keptMany, .ref q_one, .ref q_two, .ref q_ways, .ref q_now, .ref q_then])), (q_one, .inl (ca 0, 7, .inl y_one_15)), (q_two, .inl (ca 0, 7, .inl y_two_19)), (q_ways, .inl (ca 0, 49, .inl y_ways_26))]) (wn := [(q_this, .inr (8, [.ref q_text, .int v_size, .int v_at, .ref q_read, .ref q_l, .ref q_stands, .ref q_kept, .int v_keptMany, .ref q_one, .ref q_two, .ref q_ways, .ref q_now, .ref q_then])), (q_l, .inl (ca 0, 336, .inl v_l)), (q_one, .inl (ca 0, 7, .inl y_one_15)), (q_two, .inl (ca 0, 7, .inl y_two_19)), (q_ways, .inl (ca 0, 49, .inl y_ways_26))]) ⟨hx, hb, hml, hown, hts⟩ (c_X10_farOf l D ca F H.size q_this q_text q_read q_l q_stands q_kept q_one q_two q_ways q_now q_then v_size v_at v_keptMany y_one_15 y_two_19 v_ways r_25 y_ways_26 hg_27) (cwV 0 hts gX10_far_X10_farOf rfl rfl rfl (by decide +kernel) ⟨(Nat.le_of_ble_eq_true rfl), (Nat.le_of_ble_eq_true rfl)⟩) hK hP hD hS hA (ci := 8) (q0 := 0) rfl rfl [0, 2, 3, 4] [1] [1, 0, 2, 3, 4] rfl rfl rfl rfl (by decide) rfl rfl rfl hl.1 rfl (Nat.le_of_ble_eq_true rfl) dX10_far_90 ⟨Nat.zero_le _, Nat.zero_le _⟩ (fun H locs hP hD hS => ?_)
              cases h
              rw [← hQe]
              exact W.iret hx hb hr (fun t ht hW => ⟨⟨_, (), rfl, rfl, by rw [ht]; exact hP, va_K.moved hW.alike hK, hD⟩, hS.F ht⟩) hS.2.2 dX10_far_93
            · replace h := ifp_el c_24 h
              refine lv_bipush (v := (-2 : Int32)) hx hb dX10_far_84 (by decide) ?_
              refine lv_goto (tgt := 93) hx hb dX10_far_86 (by decide) ?_
              cases h
              rw [← hQe]
              exact W.iret hx hb hr (fun t ht hW => ⟨⟨_, (), rfl, rfl, by rw [ht]; exact hP, va_K.moved hW.alike hK, hD⟩, hS.F ht⟩) hS.2.2 dX10_far_93
        · replace h := ifp_el c_12 h
          refine lv_iconst (v := (-1 : Int32)) hx hb dX10_far_35 (by decide) ?_
          cases h
          rw [← hQe]
          exact W.iret hx hb hr (fun t ht hW => ⟨⟨_, (), rfl, rfl, by rw [ht]; exact hP, va_K.moved hW.alike hK, hD⟩, hS.F ht⟩) hS.2.2 dX10_far_36
def D_X10_like (F : Nat) (p1 : Int32) (v_l : Nat → Int32) (v_one : Nat → Int32) (v_two : Nat → Int32) (v_ways : Nat → Int32) : Option (Int32 × (Nat → Int32) × (Nat → Int32) × (Nat → Int32)) := bd1 (D_X10_isMeaning p1) (fun r_1 => (if r_1 = 0 then some ((-1 : Int32), v_one, v_two, v_ways) else bd1 (D_X10_isTold p1 v_l) (fun r_4 => (if r_4 = 0 then some ((-2 : Int32), v_one, v_two, v_ways) else bd4 (D_X10_likeFor F p1 v_l v_one v_two v_ways) (fun r_7 y_one_8 y_two_9 y_ways_10 => some (r_7, y_one_8, y_two_9, y_ways_10))))))
abbrev rm_X10_like : Room := { frames := 4, cells := 0, slots := 0, locals := 92 }
set_option maxHeartbeats 4000000 in
set_option maxRecDepth 100000 in
theorem c_X10_like (l : Launch) (D : va_G) (ca : Nat → ClassId) (F : Nat) (sz : Nat) (q_this q_text q_read q_l q_stands q_kept q_one q_two q_ways q_now q_then : Nat) (p1 : Int32) (v_size : Int32) (v_at : Int32) (v_keptMany : Int32) (v_l : Nat → Int32) (v_one : Nat → Int32) (v_two : Nat → Int32) (v_ways : Nat → Int32) (r : Int32) (o_one : Nat → Int32) (o_two : Nat → Int32) (o_ways : Nat → Int32) (h : D_X10_like F p1 v_l v_one v_two v_ways = some (r, o_one, o_two, o_ways)) : Met l yX10_like wsX10_like rm_X10_like (va_Pc [.ref q_this, .int p1] (kPre D ca [(q_this, .inr (8, [.ref q_text, .int v_size, .int v_at, .ref q_read, .ref q_l, .ref q_stands, .ref q_kept, .int v_keptMany, .ref q_one, .ref q_two, .ref q_ways, .ref q_now, .ref q_then])), (q_l, .inl (ca 0, 336, .inl v_l)), (q_one, .inl (ca 0, 7, .inl v_one)), (q_two, .inl (ca 0, 7, .inl v_two)), (q_ways, .inl (ca 0, 49, .inl v_ways))] sz)) (kQi D ca (va_A [(q_this, .inr (8, [.ref q_text, .int v_size, .int v_at, .ref q_read, .ref q_l, .ref q_stands, .ref q_kept, .int v_keptMany, .ref q_one, .ref q_two, .ref q_ways, .ref q_now, .ref q_then])), (q_l, .inl (ca 0, 336, .inl v_l)), (q_one, .inl (ca 0, 7, .inl v_one)), (q_two, .inl (ca 0, 7, .inl v_two)), (q_ways, .inl (ca 0, 49, .inl v_ways))] sz) [(q_this, .inr (8, [.ref q_text, .int v_size, .int v_at, .ref q_read, .ref q_l, .ref q_stands, .ref q_kept, .int v_keptMany, .ref q_one, .ref q_two, .ref q_ways, .ref q_now, .ref q_then])), (q_l, .inl (ca 0, 336, .inl v_l)), (q_one, .inl (ca 0, 7, .inl o_one)), (q_two, .inl (ca 0, 7, .inl o_two)), (q_ways, .inl (ca 0, 49, .inl o_ways))] r) 0 0 (va_A [(q_this, .inr (8, [.ref q_text, .int v_size, .int v_at, .ref q_read, .ref q_l, .ref q_stands, .ref q_kept, .int v_keptMany, .ref q_one, .ref q_two, .ref q_ways, .ref q_now, .ref q_then])), (q_l, .inl (ca 0, 336, .inl v_l)), (q_one, .inl (ca 0, 7, .inl v_one)), (q_two, .inl (ca 0, 7, .inl v_two)), (q_ways, .inl (ca 0, 49, .inl v_ways))] sz) := by
  refine Met.ofW (cc := cX10_like) (maxL := 2) (ret := (some .int)) (by decide +kernel) rfl ?_
  intro p e s m args below meth c s₁ B hml hv
  obtain ⟨rfl, hsz, hP, hK, hD0⟩ := hv
  have hx := B.exec
  have hb := B.bytes
  have hr := B.returns
  have hts := atoms_spec (ws := wsX10_like) B.pre
  have hown : s.vm.findClass RX10 = some m.cls := findClass_of_methodNamed B.named
  have hlocks := B.notSynchronized
  clear B
  subst hsz
  have hD := hD0.self (sz := s.heap.size)
  generalize hAe : va_A [(q_this, .inr (8, [.ref q_text, .int v_size, .int v_at, .ref q_read, .ref q_l, .ref q_stands, .ref q_kept, .int v_keptMany, .ref q_one, .ref q_two, .ref q_ways, .ref q_now, .ref q_then])), (q_l, .inl (ca 0, 336, .inl v_l)), (q_one, .inl (ca 0, 7, .inl v_one)), (q_two, .inl (ca 0, 7, .inl v_two)), (q_ways, .inl (ca 0, 49, .inl v_ways))] s.heap.size = A at hD ⊢
  have hA : ∀ q : Nat, s.heap.size ≤ q → A q := fun q h => by rw [← hAe]; exact Or.inr h
  have hS : va_S A s.heap s.heap [] := va_S.rf
  have hl := lv_entry ([.ref q_this, .int p1]) (n := 2) (Nat.le_of_ble_eq_true rfl)
  rw [lg_entry_eq]
  generalize (lg_sl ([.ref q_this, .int p1]) ++ List.replicate (2 - (lg_sl ([.ref q_this, .int p1])).length) Slot.unset).toArray = ls at hl ⊢
  have hl : lv_has ls 2 [(0, .ref q_this), (1, .int p1)] := hl
  generalize ([.ref q_this, .int p1] : List Value).toArray = args at hts ⊢
  generalize hQe : MQ below (kQi D ca (A) [(q_this, .inr (8, [.ref q_text, .int v_size, .int v_at, .ref q_read, .ref q_l, .ref q_stands, .ref q_kept, .int v_keptMany, .ref q_one, .ref q_two, .ref q_ways, .ref q_now, .ref q_then])), (q_l, .inl (ca 0, 336, .inl v_l)), (q_one, .inl (ca 0, 7, .inl o_one)), (q_two, .inl (ca 0, 7, .inl o_two)), (q_ways, .inl (ca 0, 49, .inl o_ways))] r) args s 0 0 A = Q
  rw [D_X10_like] at h
  refine lv_iload_n hx hb dX10_like_0 rfl (lv_at hl 1 rfl) ?_
  obtain ⟨r_1, hg_2, h⟩ := bd1_el h
  refine kx_Si (As := [.int p1]) (rest := []) (wr := [(q_this, .inr (8, [.ref q_text, .int v_size, .int v_at, .ref q_read, .ref q_l, .ref q_stands, .ref q_kept, .int v_keptMany, .ref q_one, .ref q_two, .ref q_ways, .ref q_now, .ref q_then])), (q_l, .inl (ca 0, 336, .inl v_l)), (q_one, .inl (ca 0, 7, .inl v_one)), (q_two, .inl (ca 0, 7, .inl v_two)), (q_ways, .inl (ca 0, 49, .inl v_ways))]) (w1 := []) (wn := [(q_this, .inr (8, [.ref q_text, .int v_size, .int v_at, .ref q_read, .ref q_l, .ref q_stands, .ref q_kept, .int v_keptMany, .ref q_one, .ref q_two, .ref q_ways, .ref q_now, .ref q_then])), (q_l, .inl (ca 0, 336, .inl v_l)), (q_one, .inl (ca 0, 7, .inl v_one)), (q_two, .inl (ca 0, 7, .inl v_two)), (q_ways, .inl (ca 0, 49, .inl v_ways))]) ⟨hx, hb, hml, hown, hts⟩ (c_X10_isMeaning l D ca s.heap.size p1 r_1 hg_2) (va_cwS 1 hts gX10_like_X10_isMeaning rfl rfl rfl (by decide +kernel) ⟨(Nat.le_of_ble_eq_true rfl), (Nat.le_of_ble_eq_true rfl)⟩) hK hP hD hS hA [] [0, 1, 2, 3, 4] [0, 1, 2, 3, 4] rfl rfl rfl rfl (by decide) rfl rfl rfl hl.1 rfl (Nat.le_of_ble_eq_true rfl) dX10_like_1 ⟨Nat.zero_le _, Nat.zero_le _⟩ (fun H locs hP hD hS => ?_)
  refine lv_if_ne (tgt := 11) hx hb dX10_like_4 (by decide) (fun c_3 => ?_) (fun c_3 => ?_)
  · replace h := ifn_el c_3 h
    refine lv_aload_n hx hb dX10_like_11 rfl (lv_at hl 0 rfl) ?_
    refine lv_iload_n hx hb dX10_like_12 rfl (lv_at hl 1 rfl) ?_
    obtain ⟨r_4, hg_5, h⟩ := bd1_el h
    refine kx_Vi (As := [.int p1]) (rest := []) (wr := [(q_one, .inl (ca 0, 7, .inl v_one)), (q_two, .inl (ca 0, 7, .inl v_two)), (q_ways, .inl (ca 0, 49, .inl v_ways))]) (w1 := [(q_this, .inr (8, [.ref q_text, .int v_size, .int v_at, .ref q_read, .ref q_l, .ref q_stands, .ref q_kept, .int v_keptMany, .ref q_one, .ref q_two, .ref q_ways, .ref q_now, .ref q_then])), (q_l, .inl (ca 0, 336, .inl v_l))]) (wn := [(q_this, .inr (8, [.ref q_text, .int v_size, .int v_at, .ref q_read, .ref q_l, .ref q_stands, .ref q_kept, .int v_keptMany, .ref q_one, .ref q_two, .ref q_ways, .ref q_now, .ref q_then])), (q_l, .inl (ca 0, 336, .inl v_l)), (q_one, .inl (ca 0, 7, .inl v_one)), (q_two, .inl (ca 0, 7, .inl v_two)), (q_ways, .inl (ca 0, 49, .inl v_ways))]) ⟨hx, hb, hml, hown, hts⟩ (c_X10_isTold l D ca H.size q_this q_text q_read q_l q_stands q_kept q_one q_two q_ways q_now q_then p1 v_size v_at v_keptMany v_l r_4 hg_5) (cwV 1 hts gX10_like_X10_isTold rfl rfl rfl (by decide +kernel) ⟨(Nat.le_of_ble_eq_true rfl), (Nat.le_of_ble_eq_true rfl)⟩) hK hP hD hS hA (ci := 8) (q0 := 0) rfl rfl [0, 1] [2, 3, 4] [3, 4, 0, 1, 2] rfl rfl rfl rfl (by decide) rfl rfl rfl hl.1 rfl (Nat.le_of_ble_eq_true rfl) dX10_like_13 ⟨Nat.zero_le _, Nat.zero_le _⟩ (fun H locs hP hD hS => ?_)
    refine lv_if_eq (tgt := 27) hx hb dX10_like_16 (by decide) (fun c_6 => ?_) (fun c_6 => ?_)
    · replace h := ifp_el c_6 h
      refine lv_bipush (v := (-2 : Int32)) hx hb dX10_like_27 (by decide) ?_
      cases h
      rw [← hQe]
      exact W.iret hx hb hr (fun t ht hW => ⟨⟨_, (), rfl, rfl, by rw [ht]; exact hP, va_K.moved hW.alike hK, hD⟩, hS.F ht⟩) hS.2.2 dX10_like_29
    · replace h := ifn_el c_6 h
      refine lv_aload_n hx hb dX10_like_19 rfl (lv_at hl 0 rfl) ?_
      refine lv_iload_n hx hb dX10_like_20 rfl (lv_at hl 1 rfl) ?_
      obtain ⟨r_7, y_one_8, y_two_9, y_ways_10, hg_11, h⟩ := bd4_el h
      refine kx_Vi (As := [.int p1]) (rest := []) (wr := []) (w1 := [(q_this, .inr (8, [.ref q_text, .int v_size, .int v_at, .ref q_read, .ref q_l, .ref q_stands, .ref q_kept, .int v_keptMany, .ref q_one, .ref q_two, .ref q_ways, .ref q_now, .ref q_then])), (q_l, .inl (ca 0, 336, .inl v_l)), (q_one, .inl (ca 0, 7, .inl y_one_8)), (q_two, .inl (ca 0, 7, .inl y_two_9)), (q_ways, .inl (ca 0, 49, .inl y_ways_10))]) (wn := [(q_this, .inr (8, [.ref q_text, .int v_size, .int v_at, .ref q_read, .ref q_l, .ref q_stands, .ref q_kept, .int v_keptMany, .ref q_one, .ref q_two, .ref q_ways, .ref q_now, .ref q_then])), (q_l, .inl (ca 0, 336, .inl v_l)), (q_one, .inl (ca 0, 7, .inl y_one_8)), (q_two, .inl (ca 0, 7, .inl y_two_9)), (q_ways, .inl (ca 0, 49, .inl y_ways_10))]) ⟨hx, hb, hml, hown, hts⟩ (c_X10_likeFor l D ca F H.size q_this q_text q_read q_l q_stands q_kept q_one q_two q_ways q_now q_then p1 v_size v_at v_keptMany v_l v_one v_two v_ways r_7 y_one_8 y_two_9 y_ways_10 hg_11) (cwV 1 hts gX10_like_X10_likeFor rfl rfl rfl (by decide +kernel) ⟨(Nat.le_of_ble_eq_true rfl), (Nat.le_of_ble_eq_true rfl)⟩) hK hP hD hS hA (ci := 8) (q0 := 0) rfl rfl [0, 1, 2, 3, 4] [] [0, 1, 2, 3, 4] rfl rfl rfl rfl (by decide) rfl rfl rfl hl.1 rfl (Nat.le_of_ble_eq_true rfl) dX10_like_21 ⟨Nat.zero_le _, Nat.zero_le _⟩ (fun H locs hP hD hS => ?_)
      refine lv_goto (tgt := 29) hx hb dX10_like_24 (by decide) ?_
      cases h
      rw [← hQe]
      exact W.iret hx hb hr (fun t ht hW => ⟨⟨_, (), rfl, rfl, by rw [ht]; exact hP, va_K.moved hW.alike hK, hD⟩, hS.F ht⟩) hS.2.2 dX10_like_29
  · replace h := ifp_el c_3 h
    refine lv_iconst (v := (-1 : Int32)) hx hb dX10_like_7 (by decide) ?_
    refine lv_goto (tgt := 29) hx hb dX10_like_8 (by decide) ?_
    cases h
    rw [← hQe]
    exact W.iret hx hb hr (fun t ht hW => ⟨⟨_, (), rfl, rfl, by rw [ht]; exact hP, va_K.moved hW.alike hK, hD⟩, hS.F ht⟩) hS.2.2 dX10_like_29
def b_X10_beginAt_2 (p1 : Int32) (p2 : Int32) (rec2 : Int32 → (Nat → Int64) → Option ((Nat → Int64))) (x3_1 : Int32) (y_now_2 : Nat → Int64) : Option ((Nat → Int64)) := (if (nI 81) ≤ x3_1 then some (y_now_2) else (if x3_1 = (((nI 9) * p1) + p2) then ck 81 x3_1 (nm (x3_1 + (nI 1)) (fun x3_10 => rec2 x3_10 (vp_updL y_now_2 x3_1.toNatClampNeg (lN 1000000)))) else ck 81 x3_1 (nm (x3_1 + (nI 1)) (fun x3_7 => rec2 x3_7 (vp_updL y_now_2 x3_1.toNatClampNeg (lN 0))))))
def D_X10_beginAt (F : Nat) (p1 : Int32) (p2 : Int32) (v_now : Nat → Int64) : Option ((Nat → Int64)) := bd1 (lpg (T := Int32 → (Nat → Int64) → Option ((Nat → Int64))) (fun _ _ => none) (b_X10_beginAt_2 p1 p2) F (nI 0) v_now) (fun o_3 => some (o_3))
abbrev rm_X10_beginAt : Room := { frames := 0, cells := 0, slots := 0, locals := 0 }
set_option maxHeartbeats 4000000 in
set_option maxRecDepth 100000 in
theorem c_X10_beginAt (l : Launch) (D : va_G) (ca : Nat → ClassId) (F : Nat) (sz : Nat) (q_this q_text q_read q_l q_stands q_kept q_one q_two q_ways q_now q_then : Nat) (p1 : Int32) (p2 : Int32) (v_size : Int32) (v_at : Int32) (v_keptMany : Int32) (v_now : Nat → Int64) (o_now : Nat → Int64) (h : D_X10_beginAt F p1 p2 v_now = some (o_now)) : Met l yX10_beginAt wsX10_beginAt rm_X10_beginAt (va_Pc [.ref q_this, .int p1, .int p2] (kPre D ca [(q_this, .inr (8, [.ref q_text, .int v_size, .int v_at, .ref q_read, .ref q_l, .ref q_stands, .ref q_kept, .int v_keptMany, .ref q_one, .ref q_two, .ref q_ways, .ref q_now, .ref q_then])), (q_now, .inl (ca 1, 81, .inr (.inl v_now)))] sz)) (kQv D ca (va_A [(q_this, .inr (8, [.ref q_text, .int v_size, .int v_at, .ref q_read, .ref q_l, .ref q_stands, .ref q_kept, .int v_keptMany, .ref q_one, .ref q_two, .ref q_ways, .ref q_now, .ref q_then])), (q_now, .inl (ca 1, 81, .inr (.inl v_now)))] sz) [(q_this, .inr (8, [.ref q_text, .int v_size, .int v_at, .ref q_read, .ref q_l, .ref q_stands, .ref q_kept, .int v_keptMany, .ref q_one, .ref q_two, .ref q_ways, .ref q_now, .ref q_then])), (q_now, .inl (ca 1, 81, .inr (.inl o_now)))]) 0 0 (va_A [(q_this, .inr (8, [.ref q_text, .int v_size, .int v_at, .ref q_read, .ref q_l, .ref q_stands, .ref q_kept, .int v_keptMany, .ref q_one, .ref q_two, .ref q_ways, .ref q_now, .ref q_then])), (q_now, .inl (ca 1, 81, .inr (.inl v_now)))] sz) := by
  refine Met.ofW (cc := cX10_beginAt) (maxL := 4) (ret := none) (by decide +kernel) rfl ?_
  intro p e s m args below meth c s₁ B hml hv
  obtain ⟨rfl, hsz, hP, hK, hD0⟩ := hv
  have hx := B.exec
  have hb := B.bytes
  have hr := B.returns
  have hts := atoms_spec (ws := wsX10_beginAt) B.pre
  have hown : s.vm.findClass RX10 = some m.cls := findClass_of_methodNamed B.named
  have hlocks := B.notSynchronized
  clear B
  subst hsz
  have hD := hD0.self (sz := s.heap.size)
  generalize hAe : va_A [(q_this, .inr (8, [.ref q_text, .int v_size, .int v_at, .ref q_read, .ref q_l, .ref q_stands, .ref q_kept, .int v_keptMany, .ref q_one, .ref q_two, .ref q_ways, .ref q_now, .ref q_then])), (q_now, .inl (ca 1, 81, .inr (.inl v_now)))] s.heap.size = A at hD ⊢
  have hA : ∀ q : Nat, s.heap.size ≤ q → A q := fun q h => by rw [← hAe]; exact Or.inr h
  have hS : va_S A s.heap s.heap [] := va_S.rf
  have hl := lv_entry ([.ref q_this, .int p1, .int p2]) (n := 4) (Nat.le_of_ble_eq_true rfl)
  rw [lg_entry_eq]
  generalize (lg_sl ([.ref q_this, .int p1, .int p2]) ++ List.replicate (4 - (lg_sl ([.ref q_this, .int p1, .int p2])).length) Slot.unset).toArray = ls at hl ⊢
  have hl : lv_has ls 4 [(0, .ref q_this), (1, .int p1), (2, .int p2)] := hl
  generalize ([.ref q_this, .int p1, .int p2] : List Value).toArray = args at hts ⊢
  generalize hQe : MQ below (kQv D ca (A) [(q_this, .inr (8, [.ref q_text, .int v_size, .int v_at, .ref q_read, .ref q_l, .ref q_stands, .ref q_kept, .int v_keptMany, .ref q_one, .ref q_two, .ref q_ways, .ref q_now, .ref q_then])), (q_now, .inl (ca 1, 81, .inr (.inl o_now)))]) args s 0 0 A = Q
  have i_X10 : ∀ w ∈ u_ws RX10 TX10 13, w ∈ wsX10_beginAt := by decide +kernel
  have k_34 := hts (.fieldLink RX10 34 "TradeWordsModel" "now" "[J") (by decide +kernel)
  have k_166 := hts (.constantLong RX10 166 (lN 1000000)) (by decide +kernel)
  rw [D_X10_beginAt] at h
  refine lv_iconst (v := (nI 0)) hx hb dX10_beginAt_0 (by decide) ?_
  refine lv_istore_n (lv' := [(3, .int (nI 0)), (0, .ref q_this), (1, .int p1), (2, .int p2)]) hx hb dX10_beginAt_1 rfl hl (by decide) rfl (fun ls hl => ?_)
  obtain ⟨o_3, hL, h⟩ := bd1_el h
  have hex : ∀ (H : Heap) (locs : List Loc) (ls : Array Slot), va_P D vwCl [(q_this, .inr (8, [.ref q_text, .int v_size, .int v_at, .ref q_read, .ref q_l, .ref q_stands, .ref q_kept, .int v_keptMany, .ref q_one, .ref q_two, .ref q_ways, .ref q_now, .ref q_then])), (q_now, .inl (ca 1, 81, .inr (.inl o_3)))] H → va_D A [(q_this, .inr (8, [.ref q_text, .int v_size, .int v_at, .ref q_read, .ref q_l, .ref q_stands, .ref q_kept, .int v_keptMany, .ref q_one, .ref q_two, .ref q_ways, .ref q_now, .ref q_then])), (q_now, .inl (ca 1, 81, .inr (.inl o_3)))] → va_S A s.heap H locs → lv_has ls 4 [] → W p l e (headSpec wsX10_beginAt rm_X10_beginAt).room s m args below meth c H locs 0 0 Q (F0 m 37 ls []) := by
    intro H locs ls hP hD hS hl
    cases h
    rw [← hQe]
    exact W.vret hx hb hr (fun t ht hW => ⟨⟨(), rfl, trivial, by rw [ht]; exact hP, va_K.moved hW.alike hK, hD⟩, hS.F ht⟩) hS.2.2 dX10_beginAt_37
  have hlp : ∀ (n : Nat) (x3_1 : Int32) (y_now_2 : Nat → Int64) (o_3 : Nat → Int64) (H : Heap) (locs : List Loc) (ls : Array Slot), lpg (T := Int32 → (Nat → Int64) → Option ((Nat → Int64))) (fun _ _ => none) (b_X10_beginAt_2 p1 p2) n x3_1 y_now_2 = some (o_3) → (∀ (H : Heap) (locs : List Loc) (ls : Array Slot), va_P D vwCl [(q_this, .inr (8, [.ref q_text, .int v_size, .int v_at, .ref q_read, .ref q_l, .ref q_stands, .ref q_kept, .int v_keptMany, .ref q_one, .ref q_two, .ref q_ways, .ref q_now, .ref q_then])), (q_now, .inl (ca 1, 81, .inr (.inl o_3)))] H → va_D A [(q_this, .inr (8, [.ref q_text, .int v_size, .int v_at, .ref q_read, .ref q_l, .ref q_stands, .ref q_kept, .int v_keptMany, .ref q_one, .ref q_two, .ref q_ways, .ref q_now, .ref q_then])), (q_now, .inl (ca 1, 81, .inr (.inl o_3)))] → va_S A s.heap H locs → lv_has ls 4 [] → W p l e (headSpec wsX10_beginAt rm_X10_beginAt).room s m args below meth c H locs 0 0 Q (F0 m 37 ls [])) → va_P D vwCl [(q_this, .inr (8, [.ref q_text, .int v_size, .int v_at, .ref q_read, .ref q_l, .ref q_stands, .ref q_kept, .int v_keptMany, .ref q_one, .ref q_two, .ref q_ways, .ref q_now, .ref q_then])), (q_now, .inl (ca 1, 81, .inr (.inl y_now_2)))] H → va_D A [(q_this, .inr (8, [.ref q_text, .int v_size, .int v_at, .ref q_read, .ref q_l, .ref q_stands, .ref q_kept, .int v_keptMany, .ref q_one, .ref q_two, .ref q_ways, .ref q_now, .ref q_then])), (q_now, .inl (ca 1, 81, .inr (.inl y_now_2)))] → va_S A s.heap H locs → lv_has ls 4 [(0, .ref q_this), (1, .int p1), (2, .int p2), (3, .int x3_1)] → W p l e (headSpec wsX10_beginAt rm_X10_beginAt).room s m args below meth c H locs 0 0 Q (F0 m 2 ls []) := by
    intro n
    induction n with
    | zero => intro x3_1 y_now_2 o_3 H locs ls h; have h : (none : Option ((Nat → Int64))) = some _ := h; cases h
    | succ n ih =>
      intro x3_1 y_now_2 o_3 H locs ls h hex hP hD hS hl
      rw [lpg_succ, b_X10_beginAt_2] at h
      refine lv_iload_n hx hb dX10_beginAt_2 rfl (lv_at hl 3 rfl) ?_
      refine lv_bipush (v := (nI 81)) hx hb dX10_beginAt_3 (by decide) ?_
      refine lv_icmp_ge (tgt := 37) hx hb dX10_beginAt_5 (by decide) (fun c_4 => ?_) (fun c_4 => ?_)
      · replace h := ifp_el c_4 h
        cases h
        exact hex _ _ _ hP hD hS (lv_sub hl [] rfl)
      · replace h := ifn_el c_4 h
        refine lv_aload_n hx hb dX10_beginAt_8 rfl (lv_at hl 0 rfl) ?_
        refine va_get (D := D) (ci := 8) (v := .ref q_now) (C := RX10) (T := TX10) (N := 13) hx hb hts i_X10 hown hK hP 0 rfl rfl 11 (by decide) k_34 (fun _ h9 => h9) rfl dX10_beginAt_9 ?_
        refine lv_iload_n hx hb dX10_beginAt_12 rfl (lv_at hl 3 rfl) ?_
        refine lv_iload_n hx hb dX10_beginAt_13 rfl (lv_at hl 3 rfl) ?_
        refine lv_bipush (v := (nI 9)) hx hb dX10_beginAt_14 (by decide) ?_
        refine lv_iload_n hx hb dX10_beginAt_16 rfl (lv_at hl 1 rfl) ?_
        refine lv_imul hx hb dX10_beginAt_17 ?_
        refine lv_iload_n hx hb dX10_beginAt_18 rfl (lv_at hl 2 rfl) ?_
        refine lv_iadd hx hb dX10_beginAt_19 ?_
        refine lv_icmp_ne (tgt := 29) hx hb dX10_beginAt_20 (by decide) (fun c_5 => ?_) (fun c_5 => ?_)
        · replace h := ifn_el c_5 h
          refine lv_lconst (v := (lN 0)) hx hb dX10_beginAt_29 (by decide) ?_
          obtain ⟨hi_6, h⟩ := ck_el h
          refine va_last hx hb hK hP hD hS 1 1 rfl rfl hi_6 dX10_beginAt_30 (fun H locs hP hD hS => ?_)
          have hP : va_P D vwCl [(q_this, .inr (8, [.ref q_text, .int v_size, .int v_at, .ref q_read, .ref q_l, .ref q_stands, .ref q_kept, .int v_keptMany, .ref q_one, .ref q_two, .ref q_ways, .ref q_now, .ref q_then])), (q_now, .inl (ca 1, 81, .inr (.inl (vp_updL y_now_2 x3_1.toNatClampNeg (lN 0)))))] H := hP
          have hD : va_D A [(q_this, .inr (8, [.ref q_text, .int v_size, .int v_at, .ref q_read, .ref q_l, .ref q_stands, .ref q_kept, .int v_keptMany, .ref q_one, .ref q_two, .ref q_ways, .ref q_now, .ref q_then])), (q_now, .inl (ca 1, 81, .inr (.inl (vp_updL y_now_2 x3_1.toNatClampNeg (lN 0)))))] := hD
          obtain ⟨x3_7, e_8, h⟩ := nm_el h
          refine lv_iinc (v := x3_7) (lv' := [(3, .int x3_7), (0, .ref q_this), (1, .int p1), (2, .int p2)]) hx hb dX10_beginAt_31 hl (k := 3) rfl (by rw [← e_8]; rfl) (by decide) rfl (fun ls hl => ?_)
          refine lv_goto (tgt := 2) hx hb dX10_beginAt_34 (by decide) ?_
          exact ih _ _ _ _ _ _ h hex hP hD hS (lv_sub hl [1, 2, 3, 0] rfl)
        · replace h := ifp_el c_5 h
          refine lv_ldc2 hx hb hown k_166 dX10_beginAt_23 ?_
          refine lv_goto (tgt := 30) hx hb dX10_beginAt_26 (by decide) ?_
          obtain ⟨hi_9, h⟩ := ck_el h
          refine va_last hx hb hK hP hD hS 1 1 rfl rfl hi_9 dX10_beginAt_30 (fun H locs hP hD hS => ?_)
          have hP : va_P D vwCl [(q_this, .inr (8, [.ref q_text, .int v_size, .int v_at, .ref q_read, .ref q_l, .ref q_stands, .ref q_kept, .int v_keptMany, .ref q_one, .ref q_two, .ref q_ways, .ref q_now, .ref q_then])), (q_now, .inl (ca 1, 81, .inr (.inl (vp_updL y_now_2 x3_1.toNatClampNeg (lN 1000000)))))] H := hP
          have hD : va_D A [(q_this, .inr (8, [.ref q_text, .int v_size, .int v_at, .ref q_read, .ref q_l, .ref q_stands, .ref q_kept, .int v_keptMany, .ref q_one, .ref q_two, .ref q_ways, .ref q_now, .ref q_then])), (q_now, .inl (ca 1, 81, .inr (.inl (vp_updL y_now_2 x3_1.toNatClampNeg (lN 1000000)))))] := hD
          obtain ⟨x3_10, e_11, h⟩ := nm_el h
          refine lv_iinc (v := x3_10) (lv' := [(3, .int x3_10), (0, .ref q_this), (1, .int p1), (2, .int p2)]) hx hb dX10_beginAt_31 hl (k := 3) rfl (by rw [← e_11]; rfl) (by decide) rfl (fun ls hl => ?_)
          refine lv_goto (tgt := 2) hx hb dX10_beginAt_34 (by decide) ?_
          exact ih _ _ _ _ _ _ h hex hP hD hS (lv_sub hl [1, 2, 3, 0] rfl)
  exact hlp F (nI 0) v_now o_3 s.heap [] ls hL hex hP hD hS (lv_sub hl [1, 2, 3, 0] rfl)
def b_X10_meet_3  (rec3 : Int32 → (Nat → Int64) → Option ((Nat → Int64))) (x5_1 : Int32) (y_then_2 : Nat → Int64) : Option ((Nat → Int64)) := (if (nI 81) ≤ x5_1 then some (y_then_2) else ck 81 x5_1 (nm (x5_1 + (nI 1)) (fun x5_6 => rec3 x5_6 (vp_updL y_then_2 x5_1.toNatClampNeg (lN 0)))))
def j_X10_meet_268 (x6_10 : Int32) (x7_14 : Int32) (rec46 : Int32 → (Nat → Int64) → Option ((Nat → Int64))) (x11_21 : Int32) (x14_25 : Int64) (x18_29 : Int64) (y_then_33 : Nat → Int64) : Option ((Nat → Int64)) := (if x11_21 ≤ 0 then nm (x7_14 + (nI 1)) (fun x7_35 => rec46 x7_35 y_then_33) else ck 81 (((nI 9) * (x6_10 - (nI 1))) + x7_14) (nm ((y_then_33 (((nI 9) * (x6_10 - (nI 1))) + x7_14).toNatClampNeg) + x14_25) (fun w_38 => ck 81 (((nI 9) * (x6_10 - (nI 1))) + x7_14) (ck 81 ((((nI 9) * x6_10) + x7_14) - (nI 1)) (nm (((vp_updL y_then_33 (((nI 9) * (x6_10 - (nI 1))) + x7_14).toNatClampNeg w_38) ((((nI 9) * x6_10) + x7_14) - (nI 1)).toNatClampNeg) + x18_29) (fun w_41 => ck 81 ((((nI 9) * x6_10) + x7_14) - (nI 1)) (nm (x7_14 + (nI 1)) (fun x7_43 => rec46 x7_43 (vp_updL (vp_updL y_then_33 (((nI 9) * (x6_10 - (nI 1))) + x7_14).toNatClampNeg w_38) ((((nI 9) * x6_10) + x7_14) - (nI 1)).toNatClampNeg w_41)))))))))
def b_X10_meet_46 (p1 : Int32) (p2 : Int32) (p3 : Int32) (p4 : Int32) (v_now : Nat → Int64) (x5_9 : Int32) (x6_10 : Int32) (rec46 : Int32 → (Nat → Int64) → Option ((Nat → Int64))) (x7_14 : Int32) (y_then_15 : Nat → Int64) : Option ((Nat → Int64)) := (if p2 < x7_14 then some (y_then_15) else ck 81 (((nI 9) * x6_10) + x7_14) (nm (v_now (((nI 9) * x6_10) + x7_14).toNatClampNeg) (fun x8_19 => nm ((p1 - x6_10) * (p2 - x7_14)) (fun x10_20 => nm (x6_10 * x7_14) (fun x11_21 => dzl (((lN 100) * p1.toInt64) * p2.toInt64) (nm ((((x8_19 * (((nI 10) - x5_9).toInt64)) * x10_20.toInt64) * p3.toInt64) / (((lN 100) * p1.toInt64) * p2.toInt64)) (fun x12_23 => dzl (((lN 100) * p1.toInt64) * p2.toInt64) (nm ((((x8_19 * (((nI 10) - x5_9).toInt64)) * x11_21.toInt64) * p3.toInt64) / (((lN 100) * p1.toInt64) * p2.toInt64)) (fun x14_25 => dzl (((lN 100) * p1.toInt64) * p2.toInt64) (nm ((((x8_19 * x5_9.toInt64) * x10_20.toInt64) * p4.toInt64) / (((lN 100) * p1.toInt64) * p2.toInt64)) (fun x16_27 => dzl (((lN 100) * p1.toInt64) * p2.toInt64) (nm ((((x8_19 * x5_9.toInt64) * x11_21.toInt64) * p4.toInt64) / (((lN 100) * p1.toInt64) * p2.toInt64)) (fun x18_29 => ck 81 (((nI 9) * x6_10) + x7_14) (nm ((y_then_15 (((nI 9) * x6_10) + x7_14).toNatClampNeg) + ((((x8_19 - x12_23) - x14_25) - x16_27) - x18_29)) (fun w_31 => ck 81 (((nI 9) * x6_10) + x7_14) ((if x10_20 ≤ 0 then j_X10_meet_268 x6_10 x7_14 rec46 x11_21 x14_25 x18_29 (vp_updL y_then_15 (((nI 9) * x6_10) + x7_14).toNatClampNeg w_31) else ck 81 (((nI 9) * (x6_10 + (nI 1))) + x7_14) (nm (((vp_updL y_then_15 (((nI 9) * x6_10) + x7_14).toNatClampNeg w_31) (((nI 9) * (x6_10 + (nI 1))) + x7_14).toNatClampNeg) + x12_23) (fun w_47 => ck 81 (((nI 9) * (x6_10 + (nI 1))) + x7_14) (ck 81 ((((nI 9) * x6_10) + x7_14) + (nI 1)) (nm (((vp_updL (vp_updL y_then_15 (((nI 9) * x6_10) + x7_14).toNatClampNeg w_31) (((nI 9) * (x6_10 + (nI 1))) + x7_14).toNatClampNeg w_47) ((((nI 9) * x6_10) + x7_14) + (nI 1)).toNatClampNeg) + x16_27) (fun w_50 => ck 81 ((((nI 9) * x6_10) + x7_14) + (nI 1)) (j_X10_meet_268 x6_10 x7_14 rec46 x11_21 x14_25 x18_29 (vp_updL (vp_updL (vp_updL y_then_15 (((nI 9) * x6_10) + x7_14).toNatClampNeg w_31) (((nI 9) * (x6_10 + (nI 1))) + x7_14).toNatClampNeg w_47) ((((nI 9) * x6_10) + x7_14) + (nI 1)).toNatClampNeg w_50))))))))))))))))))))))))
def b_X10_meet_37 (p1 : Int32) (p2 : Int32) (p3 : Int32) (p4 : Int32) (v_now : Nat → Int64) (F : Nat) (x5_9 : Int32) (rec37 : Int32 → (Nat → Int64) → Option ((Nat → Int64))) (x6_10 : Int32) (y_then_11 : Nat → Int64) : Option ((Nat → Int64)) := (if p1 < x6_10 then some (y_then_11) else bd1 (lpg (T := Int32 → (Nat → Int64) → Option ((Nat → Int64))) (fun _ _ => none) (b_X10_meet_46 p1 p2 p3 p4 v_now x5_9 x6_10) F (nI 0) y_then_11) (fun o_16 => nm (x6_10 + (nI 1)) (fun x6_52 => rec37 x6_52 o_16)))
def b_X10_meet_328 (o_12 : Nat → Int64) (rec328 : Int32 → (Nat → Int64) → Option ((Nat → Int64))) (x6_54 : Int32) (y_now_55 : Nat → Int64) : Option ((Nat → Int64)) := (if (nI 81) ≤ x6_54 then some (y_now_55) else ck 81 x6_54 (nm (o_12 x6_54.toNatClampNeg) (fun w_59 => ck 81 x6_54 (nm (x6_54 + (nI 1)) (fun x6_61 => rec328 x6_61 (vp_updL y_now_55 x6_54.toNatClampNeg w_59))))))
def D_X10_meet (F : Nat) (p1 : Int32) (p2 : Int32) (p3 : Int32) (p4 : Int32) (v_l : Nat → Int32) (v_now : Nat → Int64) (v_then : Nat → Int64) : Option ((Nat → Int64) × (Nat → Int64)) := bd1 (lpg (T := Int32 → (Nat → Int64) → Option ((Nat → Int64))) (fun _ _ => none) (b_X10_meet_3) F (nI 0) v_then) (fun o_3 => ck 336 (nI 302) (nm (v_l (nI 302).toNatClampNeg) (fun x5_9 => bd1 (lpg (T := Int32 → (Nat → Int64) → Option ((Nat → Int64))) (fun _ _ => none) (b_X10_meet_37 p1 p2 p3 p4 v_now F x5_9) F (nI 0) o_3) (fun o_12 => bd1 (lpg (T := Int32 → (Nat → Int64) → Option ((Nat → Int64))) (fun _ _ => none) (b_X10_meet_328 o_12) F (nI 0) v_now) (fun o_56 => some (o_56, o_12))))))
abbrev rm_X10_meet : Room := { frames := 0, cells := 0, slots := 0, locals := 0 }
set_option maxHeartbeats 4000000 in
set_option maxRecDepth 100000 in
theorem c_X10_meet (l : Launch) (D : va_G) (ca : Nat → ClassId) (F : Nat) (sz : Nat) (q_this q_text q_read q_l q_stands q_kept q_one q_two q_ways q_now q_then : Nat) (p1 : Int32) (p2 : Int32) (p3 : Int32) (p4 : Int32) (v_size : Int32) (v_at : Int32) (v_keptMany : Int32) (v_l : Nat → Int32) (v_now : Nat → Int64) (v_then : Nat → Int64) (o_now : Nat → Int64) (o_then : Nat → Int64) (h : D_X10_meet F p1 p2 p3 p4 v_l v_now v_then = some (o_now, o_then)) : Met l yX10_meet wsX10_meet rm_X10_meet (va_Pc [.ref q_this, .int p1, .int p2, .int p3, .int p4] (kPre D ca [(q_this, .inr (8, [.ref q_text, .int v_size, .int v_at, .ref q_read, .ref q_l, .ref q_stands, .ref q_kept, .int v_keptMany, .ref q_one, .ref q_two, .ref q_ways, .ref q_now, .ref q_then])), (q_l, .inl (ca 0, 336, .inl v_l)), (q_now, .inl (ca 1, 81, .inr (.inl v_now))), (q_then, .inl (ca 1, 81, .inr (.inl v_then)))] sz)) (kQv D ca (va_A [(q_this, .inr (8, [.ref q_text, .int v_size, .int v_at, .ref q_read, .ref q_l, .ref q_stands, .ref q_kept, .int v_keptMany, .ref q_one, .ref q_two, .ref q_ways, .ref q_now, .ref q_then])), (q_l, .inl (ca 0, 336, .inl v_l)), (q_now, .inl (ca 1, 81, .inr (.inl v_now))), (q_then, .inl (ca 1, 81, .inr (.inl v_then)))] sz) [(q_this, .inr (8, [.ref q_text, .int v_size, .int v_at, .ref q_read, .ref q_l, .ref q_stands, .ref q_kept, .int v_keptMany, .ref q_one, .ref q_two, .ref q_ways, .ref q_now, .ref q_then])), (q_l, .inl (ca 0, 336, .inl v_l)), (q_now, .inl (ca 1, 81, .inr (.inl o_now))), (q_then, .inl (ca 1, 81, .inr (.inl o_then)))]) 0 0 (va_A [(q_this, .inr (8, [.ref q_text, .int v_size, .int v_at, .ref q_read, .ref q_l, .ref q_stands, .ref q_kept, .int v_keptMany, .ref q_one, .ref q_two, .ref q_ways, .ref q_now, .ref q_then])), (q_l, .inl (ca 0, 336, .inl v_l)), (q_now, .inl (ca 1, 81, .inr (.inl v_now))), (q_then, .inl (ca 1, 81, .inr (.inl v_then)))] sz) := by
  refine Met.ofW (cc := cX10_meet) (maxL := 20) (ret := none) (by decide +kernel) rfl ?_
  intro p e s m args below meth c s₁ B hml hv
  obtain ⟨rfl, hsz, hP, hK, hD0⟩ := hv
  have hx := B.exec
  have hb := B.bytes
  have hr := B.returns
  have hts := atoms_spec (ws := wsX10_meet) B.pre
  have hown : s.vm.findClass RX10 = some m.cls := findClass_of_methodNamed B.named
  have hlocks := B.notSynchronized
  clear B
  subst hsz
  have hD := hD0.self (sz := s.heap.size)
  generalize hAe : va_A [(q_this, .inr (8, [.ref q_text, .int v_size, .int v_at, .ref q_read, .ref q_l, .ref q_stands, .ref q_kept, .int v_keptMany, .ref q_one, .ref q_two, .ref q_ways, .ref q_now, .ref q_then])), (q_l, .inl (ca 0, 336, .inl v_l)), (q_now, .inl (ca 1, 81, .inr (.inl v_now))), (q_then, .inl (ca 1, 81, .inr (.inl v_then)))] s.heap.size = A at hD ⊢
  have hA : ∀ q : Nat, s.heap.size ≤ q → A q := fun q h => by rw [← hAe]; exact Or.inr h
  have hS : va_S A s.heap s.heap [] := va_S.rf
  have hl := lv_entry ([.ref q_this, .int p1, .int p2, .int p3, .int p4]) (n := 20) (Nat.le_of_ble_eq_true rfl)
  rw [lg_entry_eq]
  generalize (lg_sl ([.ref q_this, .int p1, .int p2, .int p3, .int p4]) ++ List.replicate (20 - (lg_sl ([.ref q_this, .int p1, .int p2, .int p3, .int p4])).length) Slot.unset).toArray = ls at hl ⊢
  have hl : lv_has ls 20 [(0, .ref q_this), (1, .int p1), (2, .int p2), (3, .int p3), (4, .int p4)] := hl
  generalize ([.ref q_this, .int p1, .int p2, .int p3, .int p4] : List Value).toArray = args at hts ⊢
  generalize hQe : MQ below (kQv D ca (A) [(q_this, .inr (8, [.ref q_text, .int v_size, .int v_at, .ref q_read, .ref q_l, .ref q_stands, .ref q_kept, .int v_keptMany, .ref q_one, .ref q_two, .ref q_ways, .ref q_now, .ref q_then])), (q_l, .inl (ca 0, 336, .inl v_l)), (q_now, .inl (ca 1, 81, .inr (.inl o_now))), (q_then, .inl (ca 1, 81, .inr (.inl o_then)))]) args s 0 0 A = Q
  have i_X10 : ∀ w ∈ u_ws RX10 TX10 13, w ∈ wsX10_meet := by decide +kernel
  have k_38 := hts (.fieldLink RX10 38 "TradeWordsModel" "then" "[J") (by decide +kernel)
  have k_16 := hts (.fieldLink RX10 16 "TradeWordsModel" "l" "[I") (by decide +kernel)
  have k_34 := hts (.fieldLink RX10 34 "TradeWordsModel" "now" "[J") (by decide +kernel)
  have k_168 := hts (.constantLong RX10 168 (lN 100)) (by decide +kernel)
  rw [D_X10_meet] at h
  refine lv_iconst (v := (nI 0)) hx hb dX10_meet_0 (by decide) ?_
  refine lv_istore (lv' := [(5, .int (nI 0)), (0, .ref q_this), (1, .int p1), (2, .int p2), (3, .int p3), (4, .int p4)]) hx hb dX10_meet_1 hl (by decide) rfl (fun ls hl => ?_)
  obtain ⟨o_3, hL, h⟩ := bd1_el h
  have hex : ∀ (H : Heap) (locs : List Loc) (ls : Array Slot), va_P D vwCl [(q_this, .inr (8, [.ref q_text, .int v_size, .int v_at, .ref q_read, .ref q_l, .ref q_stands, .ref q_kept, .int v_keptMany, .ref q_one, .ref q_two, .ref q_ways, .ref q_now, .ref q_then])), (q_l, .inl (ca 0, 336, .inl v_l)), (q_now, .inl (ca 1, 81, .inr (.inl v_now))), (q_then, .inl (ca 1, 81, .inr (.inl o_3)))] H → va_D A [(q_this, .inr (8, [.ref q_text, .int v_size, .int v_at, .ref q_read, .ref q_l, .ref q_stands, .ref q_kept, .int v_keptMany, .ref q_one, .ref q_two, .ref q_ways, .ref q_now, .ref q_then])), (q_l, .inl (ca 0, 336, .inl v_l)), (q_now, .inl (ca 1, 81, .inr (.inl v_now))), (q_then, .inl (ca 1, 81, .inr (.inl o_3)))] → va_S A s.heap H locs → lv_has ls 20 [(0, .ref q_this), (1, .int p1), (2, .int p2), (3, .int p3), (4, .int p4)] → W p l e (headSpec wsX10_meet rm_X10_meet).room s m args below meth c H locs 0 0 Q (F0 m 24 ls []) := by
    intro H locs ls hP hD hS hl
    refine lv_aload_n hx hb dX10_meet_24 rfl (lv_at hl 0 rfl) ?_
    refine va_get (D := D) (ci := 8) (v := .ref q_l) (C := RX10) (T := TX10) (N := 13) hx hb hts i_X10 hown hK hP 0 rfl rfl 4 (by decide) k_16 (fun _ h9 => h9) rfl dX10_meet_25 ?_
    refine lv_sipush (v := (nI 302)) hx hb dX10_meet_28 (by decide) ?_
    obtain ⟨hi_8, h⟩ := ck_el h
    refine va_iald hx hb hK hP 1 0 rfl rfl hi_8 dX10_meet_31 ?_
    refine lv_nmi h (fun x5_9 h => ?_)
    refine lv_istore (lv' := [(5, .int x5_9), (0, .ref q_this), (1, .int p1), (2, .int p2), (3, .int p3), (4, .int p4)]) hx hb dX10_meet_32 hl (by decide) rfl (fun ls hl => ?_)
    refine lv_iconst (v := (nI 0)) hx hb dX10_meet_34 (by decide) ?_
    refine lv_istore (lv' := [(6, .int (nI 0)), (5, .int x5_9), (0, .ref q_this), (1, .int p1), (2, .int p2), (3, .int p3), (4, .int p4)]) hx hb dX10_meet_35 hl (by decide) rfl (fun ls hl => ?_)
    obtain ⟨o_12, hL, h⟩ := bd1_el h
    have hex : ∀ (H : Heap) (locs : List Loc) (ls : Array Slot), va_P D vwCl [(q_this, .inr (8, [.ref q_text, .int v_size, .int v_at, .ref q_read, .ref q_l, .ref q_stands, .ref q_kept, .int v_keptMany, .ref q_one, .ref q_two, .ref q_ways, .ref q_now, .ref q_then])), (q_l, .inl (ca 0, 336, .inl v_l)), (q_now, .inl (ca 1, 81, .inr (.inl v_now))), (q_then, .inl (ca 1, 81, .inr (.inl o_12)))] H → va_D A [(q_this, .inr (8, [.ref q_text, .int v_size, .int v_at, .ref q_read, .ref q_l, .ref q_stands, .ref q_kept, .int v_keptMany, .ref q_one, .ref q_two, .ref q_ways, .ref q_now, .ref q_then])), (q_l, .inl (ca 0, 336, .inl v_l)), (q_now, .inl (ca 1, 81, .inr (.inl v_now))), (q_then, .inl (ca 1, 81, .inr (.inl o_12)))] → va_S A s.heap H locs → lv_has ls 20 [(0, .ref q_this)] → W p l e (headSpec wsX10_meet rm_X10_meet).room s m args below meth c H locs 0 0 Q (F0 m 325 ls []) := by
      intro H locs ls hP hD hS hl
      refine lv_iconst (v := (nI 0)) hx hb dX10_meet_325 (by decide) ?_
      refine lv_istore (lv' := [(6, .int (nI 0)), (0, .ref q_this)]) hx hb dX10_meet_326 hl (by decide) rfl (fun ls hl => ?_)
      obtain ⟨o_56, hL, h⟩ := bd1_el h
      have hex : ∀ (H : Heap) (locs : List Loc) (ls : Array Slot), va_P D vwCl [(q_this, .inr (8, [.ref q_text, .int v_size, .int v_at, .ref q_read, .ref q_l, .ref q_stands, .ref q_kept, .int v_keptMany, .ref q_one, .ref q_two, .ref q_ways, .ref q_now, .ref q_then])), (q_l, .inl (ca 0, 336, .inl v_l)), (q_now, .inl (ca 1, 81, .inr (.inl o_56))), (q_then, .inl (ca 1, 81, .inr (.inl o_12)))] H → va_D A [(q_this, .inr (8, [.ref q_text, .int v_size, .int v_at, .ref q_read, .ref q_l, .ref q_stands, .ref q_kept, .int v_keptMany, .ref q_one, .ref q_two, .ref q_ways, .ref q_now, .ref q_then])), (q_l, .inl (ca 0, 336, .inl v_l)), (q_now, .inl (ca 1, 81, .inr (.inl o_56))), (q_then, .inl (ca 1, 81, .inr (.inl o_12)))] → va_S A s.heap H locs → lv_has ls 20 [] → W p l e (headSpec wsX10_meet rm_X10_meet).room s m args below meth c H locs 0 0 Q (F0 m 355 ls []) := by
        intro H locs ls hP hD hS hl
        cases h
        rw [← hQe]
        exact W.vret hx hb hr (fun t ht hW => ⟨⟨(), rfl, trivial, by rw [ht]; exact hP, va_K.moved hW.alike hK, hD⟩, hS.F ht⟩) hS.2.2 dX10_meet_355
      have hlp : ∀ (n : Nat) (x6_54 : Int32) (y_now_55 : Nat → Int64) (o_56 : Nat → Int64) (H : Heap) (locs : List Loc) (ls : Array Slot), lpg (T := Int32 → (Nat → Int64) → Option ((Nat → Int64))) (fun _ _ => none) (b_X10_meet_328 o_12) n x6_54 y_now_55 = some (o_56) → (∀ (H : Heap) (locs : List Loc) (ls : Array Slot), va_P D vwCl [(q_this, .inr (8, [.ref q_text, .int v_size, .int v_at, .ref q_read, .ref q_l, .ref q_stands, .ref q_kept, .int v_keptMany, .ref q_one, .ref q_two, .ref q_ways, .ref q_now, .ref q_then])), (q_l, .inl (ca 0, 336, .inl v_l)), (q_now, .inl (ca 1, 81, .inr (.inl o_56))), (q_then, .inl (ca 1, 81, .inr (.inl o_12)))] H → va_D A [(q_this, .inr (8, [.ref q_text, .int v_size, .int v_at, .ref q_read, .ref q_l, .ref q_stands, .ref q_kept, .int v_keptMany, .ref q_one, .ref q_two, .ref q_ways, .ref q_now, .ref q_then])), (q_l, .inl (ca 0, 336, .inl v_l)), (q_now, .inl (ca 1, 81, .inr (.inl o_56))), (q_then, .inl (ca 1, 81, .inr (.inl o_12)))] → va_S A s.heap H locs → lv_has ls 20 [] → W p l e (headSpec wsX10_meet rm_X10_meet).room s m args below meth c H locs 0 0 Q (F0 m 355 ls [])) → va_P D vwCl [(q_this, .inr (8, [.ref q_text, .int v_size, .int v_at, .ref q_read, .ref q_l, .ref q_stands, .ref q_kept, .int v_keptMany, .ref q_one, .ref q_two, .ref q_ways, .ref q_now, .ref q_then])), (q_l, .inl (ca 0, 336, .inl v_l)), (q_now, .inl (ca 1, 81, .inr (.inl y_now_55))), (q_then, .inl (ca 1, 81, .inr (.inl o_12)))] H → va_D A [(q_this, .inr (8, [.ref q_text, .int v_size, .int v_at, .ref q_read, .ref q_l, .ref q_stands, .ref q_kept, .int v_keptMany, .ref q_one, .ref q_two, .ref q_ways, .ref q_now, .ref q_then])), (q_l, .inl (ca 0, 336, .inl v_l)), (q_now, .inl (ca 1, 81, .inr (.inl y_now_55))), (q_then, .inl (ca 1, 81, .inr (.inl o_12)))] → va_S A s.heap H locs → lv_has ls 20 [(0, .ref q_this), (6, .int x6_54)] → W p l e (headSpec wsX10_meet rm_X10_meet).room s m args below meth c H locs 0 0 Q (F0 m 328 ls []) := by
        intro n
        induction n with
        | zero => intro x6_54 y_now_55 o_56 H locs ls h; have h : (none : Option ((Nat → Int64))) = some _ := h; cases h
        | succ n ih =>
          intro x6_54 y_now_55 o_56 H locs ls h hex hP hD hS hl
          rw [lpg_succ, b_X10_meet_328] at h
          refine lv_iload hx hb dX10_meet_328 (lv_at hl 1 rfl) ?_
          refine lv_bipush (v := (nI 81)) hx hb dX10_meet_330 (by decide) ?_
          refine lv_icmp_ge (tgt := 355) hx hb dX10_meet_332 (by decide) (fun c_57 => ?_) (fun c_57 => ?_)
          · replace h := ifp_el c_57 h
            cases h
            exact hex _ _ _ hP hD hS (lv_sub hl [] rfl)
          · replace h := ifn_el c_57 h
            refine lv_aload_n hx hb dX10_meet_335 rfl (lv_at hl 0 rfl) ?_
            refine va_get (D := D) (ci := 8) (v := .ref q_now) (C := RX10) (T := TX10) (N := 13) hx hb hts i_X10 hown hK hP 0 rfl rfl 11 (by decide) k_34 (fun _ h9 => h9) rfl dX10_meet_336 ?_
            refine lv_iload hx hb dX10_meet_339 (lv_at hl 1 rfl) ?_
            refine lv_aload_n hx hb dX10_meet_341 rfl (lv_at hl 0 rfl) ?_
            refine va_get (D := D) (ci := 8) (v := .ref q_then) (C := RX10) (T := TX10) (N := 13) hx hb hts i_X10 hown hK hP 0 rfl rfl 12 (by decide) k_38 (fun _ h9 => h9) rfl dX10_meet_342 ?_
            refine lv_iload hx hb dX10_meet_345 (lv_at hl 1 rfl) ?_
            obtain ⟨hi_58, h⟩ := ck_el h
            refine va_lald hx hb hK hP 3 1 rfl rfl hi_58 dX10_meet_347 ?_
            refine lv_nml h (fun w_59 h => ?_)
            obtain ⟨hi_60, h⟩ := ck_el h
            refine va_last hx hb hK hP hD hS 2 1 rfl rfl hi_60 dX10_meet_348 (fun H locs hP hD hS => ?_)
            have hP : va_P D vwCl [(q_this, .inr (8, [.ref q_text, .int v_size, .int v_at, .ref q_read, .ref q_l, .ref q_stands, .ref q_kept, .int v_keptMany, .ref q_one, .ref q_two, .ref q_ways, .ref q_now, .ref q_then])), (q_l, .inl (ca 0, 336, .inl v_l)), (q_now, .inl (ca 1, 81, .inr (.inl (vp_updL y_now_55 x6_54.toNatClampNeg w_59)))), (q_then, .inl (ca 1, 81, .inr (.inl o_12)))] H := hP
            have hD : va_D A [(q_this, .inr (8, [.ref q_text, .int v_size, .int v_at, .ref q_read, .ref q_l, .ref q_stands, .ref q_kept, .int v_keptMany, .ref q_one, .ref q_two, .ref q_ways, .ref q_now, .ref q_then])), (q_l, .inl (ca 0, 336, .inl v_l)), (q_now, .inl (ca 1, 81, .inr (.inl (vp_updL y_now_55 x6_54.toNatClampNeg w_59)))), (q_then, .inl (ca 1, 81, .inr (.inl o_12)))] := hD
            obtain ⟨x6_61, e_62, h⟩ := nm_el h
            refine lv_iinc (v := x6_61) (lv' := [(6, .int x6_61), (0, .ref q_this)]) hx hb dX10_meet_349 hl (k := 1) rfl (by rw [← e_62]; rfl) (by decide) rfl (fun ls hl => ?_)
            refine lv_goto (tgt := 328) hx hb dX10_meet_352 (by decide) ?_
            exact ih _ _ _ _ _ _ h hex hP hD hS (lv_sub hl [1, 0] rfl)
      exact hlp F (nI 0) v_now o_56 H locs ls hL hex hP hD hS (lv_sub hl [1, 0] rfl)
    have hlp : ∀ (n : Nat) (x6_10 : Int32) (y_then_11 : Nat → Int64) (o_12 : Nat → Int64) (H : Heap) (locs : List Loc) (ls : Array Slot), lpg (T := Int32 → (Nat → Int64) → Option ((Nat → Int64))) (fun _ _ => none) (b_X10_meet_37 p1 p2 p3 p4 v_now F x5_9) n x6_10 y_then_11 = some (o_12) → (∀ (H : Heap) (locs : List Loc) (ls : Array Slot), va_P D vwCl [(q_this, .inr (8, [.ref q_text, .int v_size, .int v_at, .ref q_read, .ref q_l, .ref q_stands, .ref q_kept, .int v_keptMany, .ref q_one, .ref q_two, .ref q_ways, .ref q_now, .ref q_then])), (q_l, .inl (ca 0, 336, .inl v_l)), (q_now, .inl (ca 1, 81, .inr (.inl v_now))), (q_then, .inl (ca 1, 81, .inr (.inl o_12)))] H → va_D A [(q_this, .inr (8, [.ref q_text, .int v_size, .int v_at, .ref q_read, .ref q_l, .ref q_stands, .ref q_kept, .int v_keptMany, .ref q_one, .ref q_two, .ref q_ways, .ref q_now, .ref q_then])), (q_l, .inl (ca 0, 336, .inl v_l)), (q_now, .inl (ca 1, 81, .inr (.inl v_now))), (q_then, .inl (ca 1, 81, .inr (.inl o_12)))] → va_S A s.heap H locs → lv_has ls 20 [(0, .ref q_this)] → W p l e (headSpec wsX10_meet rm_X10_meet).room s m args below meth c H locs 0 0 Q (F0 m 325 ls [])) → va_P D vwCl [(q_this, .inr (8, [.ref q_text, .int v_size, .int v_at, .ref q_read, .ref q_l, .ref q_stands, .ref q_kept, .int v_keptMany, .ref q_one, .ref q_two, .ref q_ways, .ref q_now, .ref q_then])), (q_l, .inl (ca 0, 336, .inl v_l)), (q_now, .inl (ca 1, 81, .inr (.inl v_now))), (q_then, .inl (ca 1, 81, .inr (.inl y_then_11)))] H → va_D A [(q_this, .inr (8, [.ref q_text, .int v_size, .int v_at, .ref q_read, .ref q_l, .ref q_stands, .ref q_kept, .int v_keptMany, .ref q_one, .ref q_two, .ref q_ways, .ref q_now, .ref q_then])), (q_l, .inl (ca 0, 336, .inl v_l)), (q_now, .inl (ca 1, 81, .inr (.inl v_now))), (q_then, .inl (ca 1, 81, .inr (.inl y_then_11)))] → va_S A s.heap H locs → lv_has ls 20 [(0, .ref q_this), (1, .int p1), (2, .int p2), (3, .int p3), (4, .int p4), (5, .int x5_9), (6, .int x6_10)] → W p l e (headSpec wsX10_meet rm_X10_meet).room s m args below meth c H locs 0 0 Q (F0 m 37 ls []) := by
      intro n
      induction n with
      | zero => intro x6_10 y_then_11 o_12 H locs ls h; have h : (none : Option ((Nat → Int64))) = some _ := h; cases h
      | succ n ih =>
        intro x6_10 y_then_11 o_12 H locs ls h hex hP hD hS hl
        rw [lpg_succ, b_X10_meet_37] at h
        refine lv_iload hx hb dX10_meet_37 (lv_at hl 6 rfl) ?_
        refine lv_iload_n hx hb dX10_meet_39 rfl (lv_at hl 1 rfl) ?_
        refine lv_icmp_gt (tgt := 325) hx hb dX10_meet_40 (by decide) (fun c_13 => ?_) (fun c_13 => ?_)
        · replace h := ifp_el c_13 h
          cases h
          exact hex _ _ _ hP hD hS (lv_sub hl [0] rfl)
        · replace h := ifn_el c_13 h
          refine lv_iconst (v := (nI 0)) hx hb dX10_meet_43 (by decide) ?_
          refine lv_istore (lv' := [(7, .int (nI 0)), (0, .ref q_this), (1, .int p1), (2, .int p2), (3, .int p3), (4, .int p4), (5, .int x5_9), (6, .int x6_10)]) hx hb dX10_meet_44 hl (by decide) rfl (fun ls hl => ?_)
          obtain ⟨o_16, hL, h⟩ := bd1_el h
          have hex : ∀ (H : Heap) (locs : List Loc) (ls : Array Slot), va_P D vwCl [(q_this, .inr (8, [.ref q_text, .int v_size, .int v_at, .ref q_read, .ref q_l, .ref q_stands, .ref q_kept, .int v_keptMany, .ref q_one, .ref q_two, .ref q_ways, .ref q_now, .ref q_then])), (q_l, .inl (ca 0, 336, .inl v_l)), (q_now, .inl (ca 1, 81, .inr (.inl v_now))), (q_then, .inl (ca 1, 81, .inr (.inl o_16)))] H → va_D A [(q_this, .inr (8, [.ref q_text, .int v_size, .int v_at, .ref q_read, .ref q_l, .ref q_stands, .ref q_kept, .int v_keptMany, .ref q_one, .ref q_two, .ref q_ways, .ref q_now, .ref q_then])), (q_l, .inl (ca 0, 336, .inl v_l)), (q_now, .inl (ca 1, 81, .inr (.inl v_now))), (q_then, .inl (ca 1, 81, .inr (.inl o_16)))] → va_S A s.heap H locs → lv_has ls 20 [(0, .ref q_this), (1, .int p1), (2, .int p2), (3, .int p3), (4, .int p4), (5, .int x5_9), (6, .int x6_10)] → W p l e (headSpec wsX10_meet rm_X10_meet).room s m args below meth c H locs 0 0 Q (F0 m 319 ls []) := by
            intro H locs ls hP hD hS hl
            obtain ⟨x6_52, e_53, h⟩ := nm_el h
            refine lv_iinc (v := x6_52) (lv' := [(6, .int x6_52), (0, .ref q_this), (1, .int p1), (2, .int p2), (3, .int p3), (4, .int p4), (5, .int x5_9)]) hx hb dX10_meet_319 hl (k := 6) rfl (by rw [← e_53]; rfl) (by decide) rfl (fun ls hl => ?_)
            refine lv_goto (tgt := 37) hx hb dX10_meet_322 (by decide) ?_
            exact ih _ _ _ _ _ _ h hex hP hD hS (lv_sub hl [1, 2, 3, 4, 5, 6, 0] rfl)
          have hlp : ∀ (n : Nat) (x7_14 : Int32) (y_then_15 : Nat → Int64) (o_16 : Nat → Int64) (H : Heap) (locs : List Loc) (ls : Array Slot), lpg (T := Int32 → (Nat → Int64) → Option ((Nat → Int64))) (fun _ _ => none) (b_X10_meet_46 p1 p2 p3 p4 v_now x5_9 x6_10) n x7_14 y_then_15 = some (o_16) → (∀ (H : Heap) (locs : List Loc) (ls : Array Slot), va_P D vwCl [(q_this, .inr (8, [.ref q_text, .int v_size, .int v_at, .ref q_read, .ref q_l, .ref q_stands, .ref q_kept, .int v_keptMany, .ref q_one, .ref q_two, .ref q_ways, .ref q_now, .ref q_then])), (q_l, .inl (ca 0, 336, .inl v_l)), (q_now, .inl (ca 1, 81, .inr (.inl v_now))), (q_then, .inl (ca 1, 81, .inr (.inl o_16)))] H → va_D A [(q_this, .inr (8, [.ref q_text, .int v_size, .int v_at, .ref q_read, .ref q_l, .ref q_stands, .ref q_kept, .int v_keptMany, .ref q_one, .ref q_two, .ref q_ways, .ref q_now, .ref q_then])), (q_l, .inl (ca 0, 336, .inl v_l)), (q_now, .inl (ca 1, 81, .inr (.inl v_now))), (q_then, .inl (ca 1, 81, .inr (.inl o_16)))] → va_S A s.heap H locs → lv_has ls 20 [(0, .ref q_this), (1, .int p1), (2, .int p2), (3, .int p3), (4, .int p4), (5, .int x5_9), (6, .int x6_10)] → W p l e (headSpec wsX10_meet rm_X10_meet).room s m args below meth c H locs 0 0 Q (F0 m 319 ls [])) → va_P D vwCl [(q_this, .inr (8, [.ref q_text, .int v_size, .int v_at, .ref q_read, .ref q_l, .ref q_stands, .ref q_kept, .int v_keptMany, .ref q_one, .ref q_two, .ref q_ways, .ref q_now, .ref q_then])), (q_l, .inl (ca 0, 336, .inl v_l)), (q_now, .inl (ca 1, 81, .inr (.inl v_now))), (q_then, .inl (ca 1, 81, .inr (.inl y_then_15)))] H → va_D A [(q_this, .inr (8, [.ref q_text, .int v_size, .int v_at, .ref q_read, .ref q_l, .ref q_stands, .ref q_kept, .int v_keptMany, .ref q_one, .ref q_two, .ref q_ways, .ref q_now, .ref q_then])), (q_l, .inl (ca 0, 336, .inl v_l)), (q_now, .inl (ca 1, 81, .inr (.inl v_now))), (q_then, .inl (ca 1, 81, .inr (.inl y_then_15)))] → va_S A s.heap H locs → lv_has ls 20 [(0, .ref q_this), (1, .int p1), (2, .int p2), (3, .int p3), (4, .int p4), (5, .int x5_9), (6, .int x6_10), (7, .int x7_14)] → W p l e (headSpec wsX10_meet rm_X10_meet).room s m args below meth c H locs 0 0 Q (F0 m 46 ls []) := by
            intro n
            induction n with
            | zero => intro x7_14 y_then_15 o_16 H locs ls h; have h : (none : Option ((Nat → Int64))) = some _ := h; cases h
            | succ n ih =>
              intro x7_14 y_then_15 o_16 H locs ls h hex hP hD hS hl
              rw [lpg_succ, b_X10_meet_46] at h
              refine lv_iload hx hb dX10_meet_46 (lv_at hl 7 rfl) ?_
              refine lv_iload_n hx hb dX10_meet_48 rfl (lv_at hl 2 rfl) ?_
              refine lv_icmp_gt (tgt := 319) hx hb dX10_meet_49 (by decide) (fun c_17 => ?_) (fun c_17 => ?_)
              · replace h := ifp_el c_17 h
                cases h
                exact hex _ _ _ hP hD hS (lv_sub hl [0, 1, 2, 3, 4, 5, 6] rfl)
              · replace h := ifn_el c_17 h
                refine lv_aload_n hx hb dX10_meet_52 rfl (lv_at hl 0 rfl) ?_
                refine va_get (D := D) (ci := 8) (v := .ref q_now) (C := RX10) (T := TX10) (N := 13) hx hb hts i_X10 hown hK hP 0 rfl rfl 11 (by decide) k_34 (fun _ h9 => h9) rfl dX10_meet_53 ?_
                refine lv_bipush (v := (nI 9)) hx hb dX10_meet_56 (by decide) ?_
                refine lv_iload hx hb dX10_meet_58 (lv_at hl 6 rfl) ?_
                refine lv_imul hx hb dX10_meet_60 ?_
                refine lv_iload hx hb dX10_meet_61 (lv_at hl 7 rfl) ?_
                refine lv_iadd hx hb dX10_meet_63 ?_
                obtain ⟨hi_18, h⟩ := ck_el h
                refine va_lald hx hb hK hP 2 1 rfl rfl hi_18 dX10_meet_64 ?_
                refine lv_nml h (fun x8_19 h => ?_)
                refine lv_lstore (lv' := [(8, .long x8_19), (0, .ref q_this), (1, .int p1), (2, .int p2), (3, .int p3), (4, .int p4), (5, .int x5_9), (6, .int x6_10), (7, .int x7_14)]) hx hb dX10_meet_65 hl (by decide) rfl (fun ls hl => ?_)
                refine lv_iload_n hx hb dX10_meet_67 rfl (lv_at hl 2 rfl) ?_
                refine lv_iload hx hb dX10_meet_68 (lv_at hl 7 rfl) ?_
                refine lv_isub hx hb dX10_meet_70 ?_
                refine lv_iload_n hx hb dX10_meet_71 rfl (lv_at hl 3 rfl) ?_
                refine lv_iload hx hb dX10_meet_72 (lv_at hl 8 rfl) ?_
                refine lv_isub hx hb dX10_meet_74 ?_
                refine lv_imul hx hb dX10_meet_75 ?_
                refine lv_nmi h (fun x10_20 h => ?_)
                refine lv_istore (lv' := [(10, .int x10_20), (8, .long x8_19), (0, .ref q_this), (1, .int p1), (2, .int p2), (3, .int p3), (4, .int p4), (5, .int x5_9), (6, .int x6_10), (7, .int x7_14)]) hx hb dX10_meet_76 hl (by decide) rfl (fun ls hl => ?_)
                refine lv_iload hx hb dX10_meet_78 (lv_at hl 8 rfl) ?_
                refine lv_iload hx hb dX10_meet_80 (lv_at hl 9 rfl) ?_
                refine lv_imul hx hb dX10_meet_82 ?_
                refine lv_nmi h (fun x11_21 h => ?_)
                refine lv_istore (lv' := [(11, .int x11_21), (10, .int x10_20), (8, .long x8_19), (0, .ref q_this), (1, .int p1), (2, .int p2), (3, .int p3), (4, .int p4), (5, .int x5_9), (6, .int x6_10), (7, .int x7_14)]) hx hb dX10_meet_83 hl (by decide) rfl (fun ls hl => ?_)
                refine lv_lload hx hb dX10_meet_85 (lv_at hl 2 rfl) ?_
                refine lv_bipush (v := (nI 10)) hx hb dX10_meet_87 (by decide) ?_
                refine lv_iload hx hb dX10_meet_89 (lv_at hl 8 rfl) ?_
                refine lv_isub hx hb dX10_meet_91 ?_
                refine lv_i2l hx hb dX10_meet_92 rfl ?_
                refine lv_lmul hx hb dX10_meet_93 ?_
                refine lv_iload hx hb dX10_meet_94 (lv_at hl 1 rfl) ?_
                refine lv_i2l hx hb dX10_meet_96 rfl ?_
                refine lv_lmul hx hb dX10_meet_97 ?_
                refine lv_iload_n hx hb dX10_meet_98 rfl (lv_at hl 6 rfl) ?_
                refine lv_i2l hx hb dX10_meet_99 rfl ?_
                refine lv_lmul hx hb dX10_meet_100 ?_
                refine lv_ldc2 hx hb hown k_168 dX10_meet_101 ?_
                refine lv_iload_n hx hb dX10_meet_104 rfl (lv_at hl 4 rfl) ?_
                refine lv_i2l hx hb dX10_meet_105 rfl ?_
                refine lv_lmul hx hb dX10_meet_106 ?_
                refine lv_iload_n hx hb dX10_meet_107 rfl (lv_at hl 5 rfl) ?_
                refine lv_i2l hx hb dX10_meet_108 rfl ?_
                refine lv_lmul hx hb dX10_meet_109 ?_
                obtain ⟨hn_22, h⟩ := dzl_el h
                refine lv_ldiv hx hb dX10_meet_110 hn_22 ?_
                refine lv_nml h (fun x12_23 h => ?_)
                refine lv_lstore (lv' := [(12, .long x12_23), (11, .int x11_21), (10, .int x10_20), (8, .long x8_19), (0, .ref q_this), (1, .int p1), (2, .int p2), (3, .int p3), (4, .int p4), (5, .int x5_9), (6, .int x6_10), (7, .int x7_14)]) hx hb dX10_meet_111 hl (by decide) rfl (fun ls hl => ?_)
                refine lv_lload hx hb dX10_meet_113 (lv_at hl 3 rfl) ?_
                refine lv_bipush (v := (nI 10)) hx hb dX10_meet_115 (by decide) ?_
                refine lv_iload hx hb dX10_meet_117 (lv_at hl 9 rfl) ?_
                refine lv_isub hx hb dX10_meet_119 ?_
                refine lv_i2l hx hb dX10_meet_120 rfl ?_
                refine lv_lmul hx hb dX10_meet_121 ?_
                refine lv_iload hx hb dX10_meet_122 (lv_at hl 1 rfl) ?_
                refine lv_i2l hx hb dX10_meet_124 rfl ?_
                refine lv_lmul hx hb dX10_meet_125 ?_
                refine lv_iload_n hx hb dX10_meet_126 rfl (lv_at hl 7 rfl) ?_
                refine lv_i2l hx hb dX10_meet_127 rfl ?_
                refine lv_lmul hx hb dX10_meet_128 ?_
                refine lv_ldc2 hx hb hown k_168 dX10_meet_129 ?_
                refine lv_iload_n hx hb dX10_meet_132 rfl (lv_at hl 5 rfl) ?_
                refine lv_i2l hx hb dX10_meet_133 rfl ?_
                refine lv_lmul hx hb dX10_meet_134 ?_
                refine lv_iload_n hx hb dX10_meet_135 rfl (lv_at hl 6 rfl) ?_
                refine lv_i2l hx hb dX10_meet_136 rfl ?_
                refine lv_lmul hx hb dX10_meet_137 ?_
                obtain ⟨hn_24, h⟩ := dzl_el h
                refine lv_ldiv hx hb dX10_meet_138 hn_24 ?_
                refine lv_nml h (fun x14_25 h => ?_)
                refine lv_lstore (lv' := [(14, .long x14_25), (12, .long x12_23), (11, .int x11_21), (10, .int x10_20), (8, .long x8_19), (0, .ref q_this), (1, .int p1), (2, .int p2), (3, .int p3), (4, .int p4), (5, .int x5_9), (6, .int x6_10), (7, .int x7_14)]) hx hb dX10_meet_139 hl (by decide) rfl (fun ls hl => ?_)
                refine lv_lload hx hb dX10_meet_141 (lv_at hl 4 rfl) ?_
                refine lv_iload hx hb dX10_meet_143 (lv_at hl 10 rfl) ?_
                refine lv_i2l hx hb dX10_meet_145 rfl ?_
                refine lv_lmul hx hb dX10_meet_146 ?_
                refine lv_iload hx hb dX10_meet_147 (lv_at hl 3 rfl) ?_
                refine lv_i2l hx hb dX10_meet_149 rfl ?_
                refine lv_lmul hx hb dX10_meet_150 ?_
                refine lv_iload hx hb dX10_meet_151 (lv_at hl 9 rfl) ?_
                refine lv_i2l hx hb dX10_meet_153 rfl ?_
                refine lv_lmul hx hb dX10_meet_154 ?_
                refine lv_ldc2 hx hb hown k_168 dX10_meet_155 ?_
                refine lv_iload_n hx hb dX10_meet_158 rfl (lv_at hl 6 rfl) ?_
                refine lv_i2l hx hb dX10_meet_159 rfl ?_
                refine lv_lmul hx hb dX10_meet_160 ?_
                refine lv_iload_n hx hb dX10_meet_161 rfl (lv_at hl 7 rfl) ?_
                refine lv_i2l hx hb dX10_meet_162 rfl ?_
                refine lv_lmul hx hb dX10_meet_163 ?_
                obtain ⟨hn_26, h⟩ := dzl_el h
                refine lv_ldiv hx hb dX10_meet_164 hn_26 ?_
                refine lv_nml h (fun x16_27 h => ?_)
                refine lv_lstore (lv' := [(16, .long x16_27), (14, .long x14_25), (12, .long x12_23), (11, .int x11_21), (10, .int x10_20), (8, .long x8_19), (0, .ref q_this), (1, .int p1), (2, .int p2), (3, .int p3), (4, .int p4), (5, .int x5_9), (6, .int x6_10), (7, .int x7_14)]) hx hb dX10_meet_165 hl (by decide) rfl (fun ls hl => ?_)
                refine lv_lload hx hb dX10_meet_167 (lv_at hl 5 rfl) ?_
                refine lv_iload hx hb dX10_meet_169 (lv_at hl 11 rfl) ?_
                refine lv_i2l hx hb dX10_meet_171 rfl ?_
                refine lv_lmul hx hb dX10_meet_172 ?_
                refine lv_iload hx hb dX10_meet_173 (lv_at hl 3 rfl) ?_
                refine lv_i2l hx hb dX10_meet_175 rfl ?_
                refine lv_lmul hx hb dX10_meet_176 ?_
                refine lv_iload hx hb dX10_meet_177 (lv_at hl 10 rfl) ?_
                refine lv_i2l hx hb dX10_meet_179 rfl ?_
                refine lv_lmul hx hb dX10_meet_180 ?_
                refine lv_ldc2 hx hb hown k_168 dX10_meet_181 ?_
                refine lv_iload_n hx hb dX10_meet_184 rfl (lv_at hl 7 rfl) ?_
                refine lv_i2l hx hb dX10_meet_185 rfl ?_
                refine lv_lmul hx hb dX10_meet_186 ?_
                refine lv_iload_n hx hb dX10_meet_187 rfl (lv_at hl 8 rfl) ?_
                refine lv_i2l hx hb dX10_meet_188 rfl ?_
                refine lv_lmul hx hb dX10_meet_189 ?_
                obtain ⟨hn_28, h⟩ := dzl_el h
                refine lv_ldiv hx hb dX10_meet_190 hn_28 ?_
                refine lv_nml h (fun x18_29 h => ?_)
                refine lv_lstore (lv' := [(18, .long x18_29), (16, .long x16_27), (14, .long x14_25), (12, .long x12_23), (11, .int x11_21), (10, .int x10_20), (8, .long x8_19), (0, .ref q_this), (1, .int p1), (2, .int p2), (3, .int p3), (4, .int p4), (5, .int x5_9), (6, .int x6_10), (7, .int x7_14)]) hx hb dX10_meet_191 hl (by decide) rfl (fun ls hl => ?_)
                refine lv_aload_n hx hb dX10_meet_193 rfl (lv_at hl 7 rfl) ?_
                refine va_get (D := D) (ci := 8) (v := .ref q_then) (C := RX10) (T := TX10) (N := 13) hx hb hts i_X10 hown hK hP 0 rfl rfl 12 (by decide) k_38 (fun _ h9 => h9) rfl dX10_meet_194 ?_
                refine lv_bipush (v := (nI 9)) hx hb dX10_meet_197 (by decide) ?_
                refine lv_iload hx hb dX10_meet_199 (lv_at hl 13 rfl) ?_
                refine lv_imul hx hb dX10_meet_201 ?_
                refine lv_iload hx hb dX10_meet_202 (lv_at hl 14 rfl) ?_
                refine lv_iadd hx hb dX10_meet_204 ?_
                refine lv_dup2_11 hx hb dX10_meet_205 rfl rfl ?_
                obtain ⟨hi_30, h⟩ := ck_el h
                refine va_lald hx hb hK hP 3 1 rfl rfl hi_30 dX10_meet_206 ?_
                refine lv_lload hx hb dX10_meet_207 (lv_at hl 6 rfl) ?_
                refine lv_lload hx hb dX10_meet_209 (lv_at hl 3 rfl) ?_
                refine lv_lsub hx hb dX10_meet_211 ?_
                refine lv_lload hx hb dX10_meet_212 (lv_at hl 2 rfl) ?_
                refine lv_lsub hx hb dX10_meet_214 ?_
                refine lv_lload hx hb dX10_meet_215 (lv_at hl 1 rfl) ?_
                refine lv_lsub hx hb dX10_meet_217 ?_
                refine lv_lload hx hb dX10_meet_218 (lv_at hl 0 rfl) ?_
                refine lv_lsub hx hb dX10_meet_220 ?_
                refine lv_ladd hx hb dX10_meet_221 ?_
                refine lv_nml h (fun w_31 h => ?_)
                obtain ⟨hi_32, h⟩ := ck_el h
                refine va_last hx hb hK hP hD hS 3 1 rfl rfl hi_32 dX10_meet_222 (fun H locs hP hD hS => ?_)
                have hP : va_P D vwCl [(q_this, .inr (8, [.ref q_text, .int v_size, .int v_at, .ref q_read, .ref q_l, .ref q_stands, .ref q_kept, .int v_keptMany, .ref q_one, .ref q_two, .ref q_ways, .ref q_now, .ref q_then])), (q_l, .inl (ca 0, 336, .inl v_l)), (q_now, .inl (ca 1, 81, .inr (.inl v_now))), (q_then, .inl (ca 1, 81, .inr (.inl (vp_updL y_then_15 (((nI 9) * x6_10) + x7_14).toNatClampNeg w_31))))] H := hP
                have hD : va_D A [(q_this, .inr (8, [.ref q_text, .int v_size, .int v_at, .ref q_read, .ref q_l, .ref q_stands, .ref q_kept, .int v_keptMany, .ref q_one, .ref q_two, .ref q_ways, .ref q_now, .ref q_then])), (q_l, .inl (ca 0, 336, .inl v_l)), (q_now, .inl (ca 1, 81, .inr (.inl v_now))), (q_then, .inl (ca 1, 81, .inr (.inl (vp_updL y_then_15 (((nI 9) * x6_10) + x7_14).toNatClampNeg w_31))))] := hD
                refine lv_iload hx hb dX10_meet_223 (lv_at hl 5 rfl) ?_
                have hj_268 : ∀ (y_then_33 : Nat → Int64) (H : Heap) (locs : List Loc) (ls : Array Slot), j_X10_meet_268 x6_10 x7_14 (lpg (T := Int32 → (Nat → Int64) → Option ((Nat → Int64))) (fun _ _ => none) (b_X10_meet_46 p1 p2 p3 p4 v_now x5_9 x6_10) n) x11_21 x14_25 x18_29 y_then_33 = some (o_16) → va_P D vwCl [(q_this, .inr (8, [.ref q_text, .int v_size, .int v_at, .ref q_read, .ref q_l, .ref q_stands, .ref q_kept, .int v_keptMany, .ref q_one, .ref q_two, .ref q_ways, .ref q_now, .ref q_then])), (q_l, .inl (ca 0, 336, .inl v_l)), (q_now, .inl (ca 1, 81, .inr (.inl v_now))), (q_then, .inl (ca 1, 81, .inr (.inl y_then_33)))] H → va_D A [(q_this, .inr (8, [.ref q_text, .int v_size, .int v_at, .ref q_read, .ref q_l, .ref q_stands, .ref q_kept, .int v_keptMany, .ref q_one, .ref q_two, .ref q_ways, .ref q_now, .ref q_then])), (q_l, .inl (ca 0, 336, .inl v_l)), (q_now, .inl (ca 1, 81, .inr (.inl v_now))), (q_then, .inl (ca 1, 81, .inr (.inl y_then_33)))] → va_S A s.heap H locs → lv_has ls 20 [(0, .ref q_this), (1, .int p1), (2, .int p2), (3, .int p3), (4, .int p4), (5, .int x5_9), (6, .int x6_10), (7, .int x7_14), (11, .int x11_21), (14, .long x14_25), (18, .long x18_29)] → W p l e (headSpec wsX10_meet rm_X10_meet).room s m args below meth c H locs 0 0 Q (F0 m 268 ls []) := by
                  intro y_then_33 H locs ls h hP hD hS hl
                  rw [j_X10_meet_268] at h
                  refine lv_iload hx hb dX10_meet_268 (lv_at hl 8 rfl) ?_
                  refine lv_if_le (tgt := 313) hx hb dX10_meet_270 (by decide) (fun c_34 => ?_) (fun c_34 => ?_)
                  · replace h := ifp_el c_34 h
                    obtain ⟨x7_35, e_36, h⟩ := nm_el h
                    refine lv_iinc (v := x7_35) (lv' := [(7, .int x7_35), (0, .ref q_this), (1, .int p1), (2, .int p2), (3, .int p3), (4, .int p4), (5, .int x5_9), (6, .int x6_10), (11, .int x11_21), (14, .long x14_25), (18, .long x18_29)]) hx hb dX10_meet_313 hl (k := 7) rfl (by rw [← e_36]; rfl) (by decide) rfl (fun ls hl => ?_)
                    refine lv_goto (tgt := 46) hx hb dX10_meet_316 (by decide) ?_
                    exact ih _ _ _ _ _ _ h hex hP hD hS (lv_sub hl [1, 2, 3, 4, 5, 6, 7, 0] rfl)
                  · replace h := ifn_el c_34 h
                    refine lv_aload_n hx hb dX10_meet_273 rfl (lv_at hl 0 rfl) ?_
                    refine va_get (D := D) (ci := 8) (v := .ref q_then) (C := RX10) (T := TX10) (N := 13) hx hb hts i_X10 hown hK hP 0 rfl rfl 12 (by decide) k_38 (fun _ h9 => h9) rfl dX10_meet_274 ?_
                    refine lv_bipush (v := (nI 9)) hx hb dX10_meet_277 (by decide) ?_
                    refine lv_iload hx hb dX10_meet_279 (lv_at hl 6 rfl) ?_
                    refine lv_iconst (v := (nI 1)) hx hb dX10_meet_281 (by decide) ?_
                    refine lv_isub hx hb dX10_meet_282 ?_
                    refine lv_imul hx hb dX10_meet_283 ?_
                    refine lv_iload hx hb dX10_meet_284 (lv_at hl 7 rfl) ?_
                    refine lv_iadd hx hb dX10_meet_286 ?_
                    refine lv_dup2_11 hx hb dX10_meet_287 rfl rfl ?_
                    obtain ⟨hi_37, h⟩ := ck_el h
                    refine va_lald hx hb hK hP 3 1 rfl rfl hi_37 dX10_meet_288 ?_
                    refine lv_lload hx hb dX10_meet_289 (lv_at hl 9 rfl) ?_
                    refine lv_ladd hx hb dX10_meet_291 ?_
                    refine lv_nml h (fun w_38 h => ?_)
                    obtain ⟨hi_39, h⟩ := ck_el h
                    refine va_last hx hb hK hP hD hS 3 1 rfl rfl hi_39 dX10_meet_292 (fun H locs hP hD hS => ?_)
                    have hP : va_P D vwCl [(q_this, .inr (8, [.ref q_text, .int v_size, .int v_at, .ref q_read, .ref q_l, .ref q_stands, .ref q_kept, .int v_keptMany, .ref q_one, .ref q_two, .ref q_ways, .ref q_now, .ref q_then])), (q_l, .inl (ca 0, 336, .inl v_l)), (q_now, .inl (ca 1, 81, .inr (.inl v_now))), (q_then, .inl (ca 1, 81, .inr (.inl (vp_updL y_then_33 (((nI 9) * (x6_10 - (nI 1))) + x7_14).toNatClampNeg w_38))))] H := hP
                    have hD : va_D A [(q_this, .inr (8, [.ref q_text, .int v_size, .int v_at, .ref q_read, .ref q_l, .ref q_stands, .ref q_kept, .int v_keptMany, .ref q_one, .ref q_two, .ref q_ways, .ref q_now, .ref q_then])), (q_l, .inl (ca 0, 336, .inl v_l)), (q_now, .inl (ca 1, 81, .inr (.inl v_now))), (q_then, .inl (ca 1, 81, .inr (.inl (vp_updL y_then_33 (((nI 9) * (x6_10 - (nI 1))) + x7_14).toNatClampNeg w_38))))] := hD
                    refine lv_aload_n hx hb dX10_meet_293 rfl (lv_at hl 0 rfl) ?_
                    refine va_get (D := D) (ci := 8) (v := .ref q_then) (C := RX10) (T := TX10) (N := 13) hx hb hts i_X10 hown hK hP 0 rfl rfl 12 (by decide) k_38 (fun _ h9 => h9) rfl dX10_meet_294 ?_
                    refine lv_bipush (v := (nI 9)) hx hb dX10_meet_297 (by decide) ?_
                    refine lv_iload hx hb dX10_meet_299 (lv_at hl 6 rfl) ?_
                    refine lv_imul hx hb dX10_meet_301 ?_
                    refine lv_iload hx hb dX10_meet_302 (lv_at hl 7 rfl) ?_
                    refine lv_iadd hx hb dX10_meet_304 ?_
                    refine lv_iconst (v := (nI 1)) hx hb dX10_meet_305 (by decide) ?_
                    refine lv_isub hx hb dX10_meet_306 ?_
                    refine lv_dup2_11 hx hb dX10_meet_307 rfl rfl ?_
                    obtain ⟨hi_40, h⟩ := ck_el h
                    refine va_lald hx hb hK hP 3 1 rfl rfl hi_40 dX10_meet_308 ?_
                    refine lv_lload hx hb dX10_meet_309 (lv_at hl 10 rfl) ?_
                    refine lv_ladd hx hb dX10_meet_311 ?_
                    refine lv_nml h (fun w_41 h => ?_)
                    obtain ⟨hi_42, h⟩ := ck_el h
                    refine va_last hx hb hK hP hD hS 3 1 rfl rfl hi_42 dX10_meet_312 (fun H locs hP hD hS => ?_)
                    have hP : va_P D vwCl [(q_this, .inr (8, [.ref q_text, .int v_size, .int v_at, .ref q_read, .ref q_l, .ref q_stands, .ref q_kept, .int v_keptMany, .ref q_one, .ref q_two, .ref q_ways, .ref q_now, .ref q_then])), (q_l, .inl (ca 0, 336, .inl v_l)), (q_now, .inl (ca 1, 81, .inr (.inl v_now))), (q_then, .inl (ca 1, 81, .inr (.inl (vp_updL (vp_updL y_then_33 (((nI 9) * (x6_10 - (nI 1))) + x7_14).toNatClampNeg w_38) ((((nI 9) * x6_10) + x7_14) - (nI 1)).toNatClampNeg w_41))))] H := hP
                    have hD : va_D A [(q_this, .inr (8, [.ref q_text, .int v_size, .int v_at, .ref q_read, .ref q_l, .ref q_stands, .ref q_kept, .int v_keptMany, .ref q_one, .ref q_two, .ref q_ways, .ref q_now, .ref q_then])), (q_l, .inl (ca 0, 336, .inl v_l)), (q_now, .inl (ca 1, 81, .inr (.inl v_now))), (q_then, .inl (ca 1, 81, .inr (.inl (vp_updL (vp_updL y_then_33 (((nI 9) * (x6_10 - (nI 1))) + x7_14).toNatClampNeg w_38) ((((nI 9) * x6_10) + x7_14) - (nI 1)).toNatClampNeg w_41))))] := hD
                    obtain ⟨x7_43, e_44, h⟩ := nm_el h
                    refine lv_iinc (v := x7_43) (lv' := [(7, .int x7_43), (0, .ref q_this), (1, .int p1), (2, .int p2), (3, .int p3), (4, .int p4), (5, .int x5_9), (6, .int x6_10), (11, .int x11_21), (14, .long x14_25), (18, .long x18_29)]) hx hb dX10_meet_313 hl (k := 7) rfl (by rw [← e_44]; rfl) (by decide) rfl (fun ls hl => ?_)
                    refine lv_goto (tgt := 46) hx hb dX10_meet_316 (by decide) ?_
                    exact ih _ _ _ _ _ _ h hex hP hD hS (lv_sub hl [1, 2, 3, 4, 5, 6, 7, 0] rfl)
                refine lv_if_le (tgt := 268) hx hb dX10_meet_225 (by decide) (fun c_45 => ?_) (fun c_45 => ?_)
                · replace h := ifp_el c_45 h
                  exact hj_268 _ _ _ _ h hP hD hS (lv_sub hl [7, 8, 9, 10, 11, 12, 13, 14, 4, 2, 0] rfl)
                · replace h := ifn_el c_45 h
                  refine lv_aload_n hx hb dX10_meet_228 rfl (lv_at hl 7 rfl) ?_
                  refine va_get (D := D) (ci := 8) (v := .ref q_then) (C := RX10) (T := TX10) (N := 13) hx hb hts i_X10 hown hK hP 0 rfl rfl 12 (by decide) k_38 (fun _ h9 => h9) rfl dX10_meet_229 ?_
                  refine lv_bipush (v := (nI 9)) hx hb dX10_meet_232 (by decide) ?_
                  refine lv_iload hx hb dX10_meet_234 (lv_at hl 13 rfl) ?_
                  refine lv_iconst (v := (nI 1)) hx hb dX10_meet_236 (by decide) ?_
                  refine lv_iadd hx hb dX10_meet_237 ?_
                  refine lv_imul hx hb dX10_meet_238 ?_
                  refine lv_iload hx hb dX10_meet_239 (lv_at hl 14 rfl) ?_
                  refine lv_iadd hx hb dX10_meet_241 ?_
                  refine lv_dup2_11 hx hb dX10_meet_242 rfl rfl ?_
                  obtain ⟨hi_46, h⟩ := ck_el h
                  refine va_lald hx hb hK hP 3 1 rfl rfl hi_46 dX10_meet_243 ?_
                  refine lv_lload hx hb dX10_meet_244 (lv_at hl 3 rfl) ?_
                  refine lv_ladd hx hb dX10_meet_246 ?_
                  refine lv_nml h (fun w_47 h => ?_)
                  obtain ⟨hi_48, h⟩ := ck_el h
                  refine va_last hx hb hK hP hD hS 3 1 rfl rfl hi_48 dX10_meet_247 (fun H locs hP hD hS => ?_)
                  have hP : va_P D vwCl [(q_this, .inr (8, [.ref q_text, .int v_size, .int v_at, .ref q_read, .ref q_l, .ref q_stands, .ref q_kept, .int v_keptMany, .ref q_one, .ref q_two, .ref q_ways, .ref q_now, .ref q_then])), (q_l, .inl (ca 0, 336, .inl v_l)), (q_now, .inl (ca 1, 81, .inr (.inl v_now))), (q_then, .inl (ca 1, 81, .inr (.inl (vp_updL (vp_updL y_then_15 (((nI 9) * x6_10) + x7_14).toNatClampNeg w_31) (((nI 9) * (x6_10 + (nI 1))) + x7_14).toNatClampNeg w_47))))] H := hP
                  have hD : va_D A [(q_this, .inr (8, [.ref q_text, .int v_size, .int v_at, .ref q_read, .ref q_l, .ref q_stands, .ref q_kept, .int v_keptMany, .ref q_one, .ref q_two, .ref q_ways, .ref q_now, .ref q_then])), (q_l, .inl (ca 0, 336, .inl v_l)), (q_now, .inl (ca 1, 81, .inr (.inl v_now))), (q_then, .inl (ca 1, 81, .inr (.inl (vp_updL (vp_updL y_then_15 (((nI 9) * x6_10) + x7_14).toNatClampNeg w_31) (((nI 9) * (x6_10 + (nI 1))) + x7_14).toNatClampNeg w_47))))] := hD
                  refine lv_aload_n hx hb dX10_meet_248 rfl (lv_at hl 7 rfl) ?_
                  refine va_get (D := D) (ci := 8) (v := .ref q_then) (C := RX10) (T := TX10) (N := 13) hx hb hts i_X10 hown hK hP 0 rfl rfl 12 (by decide) k_38 (fun _ h9 => h9) rfl dX10_meet_249 ?_
                  refine lv_bipush (v := (nI 9)) hx hb dX10_meet_252 (by decide) ?_
                  refine lv_iload hx hb dX10_meet_254 (lv_at hl 13 rfl) ?_
                  refine lv_imul hx hb dX10_meet_256 ?_
                  refine lv_iload hx hb dX10_meet_257 (lv_at hl 14 rfl) ?_
                  refine lv_iadd hx hb dX10_meet_259 ?_
                  refine lv_iconst (v := (nI 1)) hx hb dX10_meet_260 (by decide) ?_
                  refine lv_iadd hx hb dX10_meet_261 ?_
                  refine lv_dup2_11 hx hb dX10_meet_262 rfl rfl ?_
                  obtain ⟨hi_49, h⟩ := ck_el h
                  refine va_lald hx hb hK hP 3 1 rfl rfl hi_49 dX10_meet_263 ?_
                  refine lv_lload hx hb dX10_meet_264 (lv_at hl 1 rfl) ?_
                  refine lv_ladd hx hb dX10_meet_266 ?_
                  refine lv_nml h (fun w_50 h => ?_)
                  obtain ⟨hi_51, h⟩ := ck_el h
                  refine va_last hx hb hK hP hD hS 3 1 rfl rfl hi_51 dX10_meet_267 (fun H locs hP hD hS => ?_)
                  have hP : va_P D vwCl [(q_this, .inr (8, [.ref q_text, .int v_size, .int v_at, .ref q_read, .ref q_l, .ref q_stands, .ref q_kept, .int v_keptMany, .ref q_one, .ref q_two, .ref q_ways, .ref q_now, .ref q_then])), (q_l, .inl (ca 0, 336, .inl v_l)), (q_now, .inl (ca 1, 81, .inr (.inl v_now))), (q_then, .inl (ca 1, 81, .inr (.inl (vp_updL (vp_updL (vp_updL y_then_15 (((nI 9) * x6_10) + x7_14).toNatClampNeg w_31) (((nI 9) * (x6_10 + (nI 1))) + x7_14).toNatClampNeg w_47) ((((nI 9) * x6_10) + x7_14) + (nI 1)).toNatClampNeg w_50))))] H := hP
                  have hD : va_D A [(q_this, .inr (8, [.ref q_text, .int v_size, .int v_at, .ref q_read, .ref q_l, .ref q_stands, .ref q_kept, .int v_keptMany, .ref q_one, .ref q_two, .ref q_ways, .ref q_now, .ref q_then])), (q_l, .inl (ca 0, 336, .inl v_l)), (q_now, .inl (ca 1, 81, .inr (.inl v_now))), (q_then, .inl (ca 1, 81, .inr (.inl (vp_updL (vp_updL (vp_updL y_then_15 (((nI 9) * x6_10) + x7_14).toNatClampNeg w_31) (((nI 9) * (x6_10 + (nI 1))) + x7_14).toNatClampNeg w_47) ((((nI 9) * x6_10) + x7_14) + (nI 1)).toNatClampNeg w_50))))] := hD
                  exact hj_268 _ _ _ _ h hP hD hS (lv_sub hl [7, 8, 9, 10, 11, 12, 13, 14, 4, 2, 0] rfl)
          exact hlp F (nI 0) y_then_11 o_16 H locs ls hL hex hP hD hS (lv_sub hl [1, 2, 3, 4, 5, 6, 7, 0] rfl)
    exact hlp F (nI 0) o_3 o_12 H locs ls hL hex hP hD hS (lv_sub hl [2, 3, 4, 5, 6, 1, 0] rfl)
  have hlp : ∀ (n : Nat) (x5_1 : Int32) (y_then_2 : Nat → Int64) (o_3 : Nat → Int64) (H : Heap) (locs : List Loc) (ls : Array Slot), lpg (T := Int32 → (Nat → Int64) → Option ((Nat → Int64))) (fun _ _ => none) (b_X10_meet_3) n x5_1 y_then_2 = some (o_3) → (∀ (H : Heap) (locs : List Loc) (ls : Array Slot), va_P D vwCl [(q_this, .inr (8, [.ref q_text, .int v_size, .int v_at, .ref q_read, .ref q_l, .ref q_stands, .ref q_kept, .int v_keptMany, .ref q_one, .ref q_two, .ref q_ways, .ref q_now, .ref q_then])), (q_l, .inl (ca 0, 336, .inl v_l)), (q_now, .inl (ca 1, 81, .inr (.inl v_now))), (q_then, .inl (ca 1, 81, .inr (.inl o_3)))] H → va_D A [(q_this, .inr (8, [.ref q_text, .int v_size, .int v_at, .ref q_read, .ref q_l, .ref q_stands, .ref q_kept, .int v_keptMany, .ref q_one, .ref q_two, .ref q_ways, .ref q_now, .ref q_then])), (q_l, .inl (ca 0, 336, .inl v_l)), (q_now, .inl (ca 1, 81, .inr (.inl v_now))), (q_then, .inl (ca 1, 81, .inr (.inl o_3)))] → va_S A s.heap H locs → lv_has ls 20 [(0, .ref q_this), (1, .int p1), (2, .int p2), (3, .int p3), (4, .int p4)] → W p l e (headSpec wsX10_meet rm_X10_meet).room s m args below meth c H locs 0 0 Q (F0 m 24 ls [])) → va_P D vwCl [(q_this, .inr (8, [.ref q_text, .int v_size, .int v_at, .ref q_read, .ref q_l, .ref q_stands, .ref q_kept, .int v_keptMany, .ref q_one, .ref q_two, .ref q_ways, .ref q_now, .ref q_then])), (q_l, .inl (ca 0, 336, .inl v_l)), (q_now, .inl (ca 1, 81, .inr (.inl v_now))), (q_then, .inl (ca 1, 81, .inr (.inl y_then_2)))] H → va_D A [(q_this, .inr (8, [.ref q_text, .int v_size, .int v_at, .ref q_read, .ref q_l, .ref q_stands, .ref q_kept, .int v_keptMany, .ref q_one, .ref q_two, .ref q_ways, .ref q_now, .ref q_then])), (q_l, .inl (ca 0, 336, .inl v_l)), (q_now, .inl (ca 1, 81, .inr (.inl v_now))), (q_then, .inl (ca 1, 81, .inr (.inl y_then_2)))] → va_S A s.heap H locs → lv_has ls 20 [(0, .ref q_this), (1, .int p1), (2, .int p2), (3, .int p3), (4, .int p4), (5, .int x5_1)] → W p l e (headSpec wsX10_meet rm_X10_meet).room s m args below meth c H locs 0 0 Q (F0 m 3 ls []) := by
    intro n
    induction n with
    | zero => intro x5_1 y_then_2 o_3 H locs ls h; have h : (none : Option ((Nat → Int64))) = some _ := h; cases h
    | succ n ih =>
      intro x5_1 y_then_2 o_3 H locs ls h hex hP hD hS hl
      rw [lpg_succ, b_X10_meet_3] at h
      refine lv_iload hx hb dX10_meet_3 (lv_at hl 5 rfl) ?_
      refine lv_bipush (v := (nI 81)) hx hb dX10_meet_5 (by decide) ?_
      refine lv_icmp_ge (tgt := 24) hx hb dX10_meet_7 (by decide) (fun c_4 => ?_) (fun c_4 => ?_)
      · replace h := ifp_el c_4 h
        cases h
        exact hex _ _ _ hP hD hS (lv_sub hl [0, 1, 2, 3, 4] rfl)
      · replace h := ifn_el c_4 h
        refine lv_aload_n hx hb dX10_meet_10 rfl (lv_at hl 0 rfl) ?_
        refine va_get (D := D) (ci := 8) (v := .ref q_then) (C := RX10) (T := TX10) (N := 13) hx hb hts i_X10 hown hK hP 0 rfl rfl 12 (by decide) k_38 (fun _ h9 => h9) rfl dX10_meet_11 ?_
        refine lv_iload hx hb dX10_meet_14 (lv_at hl 5 rfl) ?_
        refine lv_lconst (v := (lN 0)) hx hb dX10_meet_16 (by decide) ?_
        obtain ⟨hi_5, h⟩ := ck_el h
        refine va_last hx hb hK hP hD hS 3 1 rfl rfl hi_5 dX10_meet_17 (fun H locs hP hD hS => ?_)
        have hP : va_P D vwCl [(q_this, .inr (8, [.ref q_text, .int v_size, .int v_at, .ref q_read, .ref q_l, .ref q_stands, .ref q_kept, .int v_keptMany, .ref q_one, .ref q_two, .ref q_ways, .ref q_now, .ref q_then])), (q_l, .inl (ca 0, 336, .inl v_l)), (q_now, .inl (ca 1, 81, .inr (.inl v_now))), (q_then, .inl (ca 1, 81, .inr (.inl (vp_updL y_then_2 x5_1.toNatClampNeg (lN 0)))))] H := hP
        have hD : va_D A [(q_this, .inr (8, [.ref q_text, .int v_size, .int v_at, .ref q_read, .ref q_l, .ref q_stands, .ref q_kept, .int v_keptMany, .ref q_one, .ref q_two, .ref q_ways, .ref q_now, .ref q_then])), (q_l, .inl (ca 0, 336, .inl v_l)), (q_now, .inl (ca 1, 81, .inr (.inl v_now))), (q_then, .inl (ca 1, 81, .inr (.inl (vp_updL y_then_2 x5_1.toNatClampNeg (lN 0)))))] := hD
        obtain ⟨x5_6, e_7, h⟩ := nm_el h
        refine lv_iinc (v := x5_6) (lv' := [(5, .int x5_6), (0, .ref q_this), (1, .int p1), (2, .int p2), (3, .int p3), (4, .int p4)]) hx hb dX10_meet_18 hl (k := 5) rfl (by rw [← e_7]; rfl) (by decide) rfl (fun ls hl => ?_)
        refine lv_goto (tgt := 3) hx hb dX10_meet_21 (by decide) ?_
        exact ih _ _ _ _ _ _ h hex hP hD hS (lv_sub hl [1, 2, 3, 4, 5, 0] rfl)
  exact hlp F (nI 0) v_then o_3 s.heap [] ls hL hex hP hD hS (lv_sub hl [1, 2, 3, 4, 5, 0] rfl)
