abbrev rm_X7_init : Room := { frames := 1, cells := 1, slots := 500, locals := 12 }
set_option maxHeartbeats 4000000 in
set_option maxRecDepth 100000 in
theorem c_X7_init (l : Launch) (D : va_G) (ca : Nat → ClassId) (sz : Nat) (q_this : Nat) : Met l yX7_init wsX7_init rm_X7_init (va_Pc [.ref q_this] (kPreX D ca [(q_this, .inr (6, [.null, .int 0]))] sz nTr)) (kQc (Nat) D ca (va_A [(q_this, .inr (6, [.null, .int 0]))] sz) (fun u => [(q_this, .inr (6, [.ref u, .int 0])), (u, .inl (ca 2, 500, .inl (fun _ => 0)))])) 1 500 (va_A [(q_this, .inr (6, [.null, .int 0]))] sz) := by
  refine Met.ofW (cc := cX7_init) (maxL := 1) (ret := none) (by decide +kernel) rfl ?_
  intro p e s m args below meth c s₁ B hml hv
  obtain ⟨rfl, ⟨hsz, hP, hK, hD0⟩, hX⟩ := hv
  have hx := B.exec
  have hb := B.bytes
  have hr := B.returns
  have hts := atoms_spec (ws := wsX7_init) B.pre
  have hown : s.vm.findClass RX7 = some m.cls := findClass_of_methodNamed B.named
  have hin : meth.name = "<init>" := (name_of_methodNamed B.named B.method).1
  have hlocks := B.notSynchronized
  clear B
  subst hsz
  have hD := hD0.self (sz := s.heap.size)
  generalize hAe : va_A [(q_this, .inr (6, [.null, .int 0]))] s.heap.size = A at hD ⊢
  have hA : ∀ q : Nat, s.heap.size ≤ q → A q := fun q h => by rw [← hAe]; exact Or.inr h
  have hS : va_S A s.heap s.heap [] := va_S.rf
  have hl := lv_entry ([.ref q_this]) (n := 1) (Nat.le_of_ble_eq_true rfl)
  rw [lg_entry_eq]
  generalize (lg_sl ([.ref q_this]) ++ List.replicate (1 - (lg_sl ([.ref q_this])).length) Slot.unset).toArray = ls at hl ⊢
  have hl : lv_has ls 1 [(0, .ref q_this)] := hl
  generalize ([.ref q_this] : List Value).toArray = args at hts ⊢
  generalize hQe : MQ below (kQc (Nat) D ca (A) (fun u => [(q_this, .inr (6, [.ref u, .int 0])), (u, .inl (ca 2, 500, .inl (fun _ => 0)))])) args s 1 500 A = Q
  have k_3 := hts (.methodLink RX7 3 objectInit) (by decide +kernel)
  have ko_i := hts (.instanceMethod objectInit) (by decide +kernel)
  have ko_c := hts (.code objectInit ⟨#[0xb1]⟩ 1 none) (by decide +kernel)
  have ka_byte := hts (.arrayClass .byte) (by decide +kernel)
  have k_9 := hts (.fieldLink RX7 9 "TradeWords$Text" "bytes" "[B") (by decide +kernel)
  have i_X7 : ∀ w ∈ u_ws RX7 TX7 2, w ∈ wsX7_init := by decide +kernel
  refine lv_aload_n hx hb dX7_init_0 rfl (lv_at hl 0 rfl) ?_
  refine W.objInit hx hb hown k_3 ko_i ko_c rfl (by rw [hml]; exact hl.1) rfl dX7_init_1 (Nat.le_of_ble_eq_true rfl) (Nat.le_of_ble_eq_true rfl) ?_
  refine W.eq (g2 := F0 m 4 ls []) rfl ?_
  refine lv_aload_n hx hb dX7_init_4 rfl (lv_at hl 0 rfl) ?_
  refine lv_sipush (v := (nI 500)) hx hb dX7_init_5 (by decide) ?_
  refine va_newa (atype := .byte) (ty := .byte) (N' := 500) (a0 := (500, .inl (fun _ => 0))) hx hb ka_byte rfl hK hP hD hS hA (fun _ => rfl) (by decide) rfl (by decide) (Nat.le_of_ble_eq_true rfl) (Nat.le_of_ble_eq_true rfl) dX7_init_8 (fun q_bytes cA H hKn hP hD hS => ?_)
  obtain rfl := kn_byte hKn
  clear hKn
  have hP : va_P D vwCl [(q_this, .inr (6, [.null, .int 0])), (q_bytes, .inl (ca 2, 500, .inl (fun _ => 0)))] H := hP
  have hD : va_D A [(q_this, .inr (6, [.null, .int 0])), (q_bytes, .inl (ca 2, 500, .inl (fun _ => 0)))] := hD
  refine W.widen (k := 1) (n := 500) (Nat.le_of_ble_eq_true rfl) (Nat.le_of_ble_eq_true rfl) ?_
  refine va_putF (D := D) (ci := 6) (v := .ref q_bytes) (ty := .array .byte) (C := RX7) (T := TX7) (N := 2) hx hb hts i_X7 tyX7 tyX7_ok nmX7 hown hK hP hD hS 0 rfl rfl 0 (by decide) k_9 (fun _ h9 => h9) rfl hin rfl (by decide +kernel) rfl rfl (Nat.le_of_ble_eq_true rfl) dX7_init_10 (fun H locs hP hD hS => ?_)
  have hP : va_P D vwCl [(q_this, .inr (6, [.ref q_bytes, .int 0])), (q_bytes, .inl (ca 2, 500, .inl (fun _ => 0)))] H := hP
  have hD : va_D A [(q_this, .inr (6, [.ref q_bytes, .int 0])), (q_bytes, .inl (ca 2, 500, .inl (fun _ => 0)))] := hD
  rw [← hQe]
  have hP := hP.sub (ws' := [(q_this, .inr (6, [.ref q_bytes, .int 0])), (q_bytes, .inl (ca 2, 500, .inl (fun _ => 0)))]) [0, 1] rfl
  have hD := hD.sub (ws' := [(q_this, .inr (6, [.ref q_bytes, .int 0])), (q_bytes, .inl (ca 2, 500, .inl (fun _ => 0)))]) [0, 1] (by decide) rfl
  exact W.vret hx hb hr (fun t ht hW => ⟨⟨q_bytes, rfl, trivial, by rw [ht]; exact hP, va_K.moved hW.alike hK, hD⟩, hS.F ht⟩) hS.2.2 dX7_init_13
abbrev rm_X2_init : Room := { frames := 1, cells := 1, slots := 3, locals := 12 }
set_option maxHeartbeats 4000000 in
set_option maxRecDepth 100000 in
theorem c_X2_init (l : Launch) (D : va_G) (ca : Nat → ClassId) (sz : Nat) (q_this q_o1 : Nat) : Met l yX2_init wsX2_init rm_X2_init (va_Pc [.ref q_this, .ref q_o1] (kPreX D ca [(q_this, .inr (2, [.null, .null, .int 0, .int 0, .int 0, .int 0]))] sz nTr)) (kQc (Nat) D ca (va_A [(q_this, .inr (2, [.null, .null, .int 0, .int 0, .int 0, .int 0]))] sz) (fun u => [(q_this, .inr (2, [.ref q_o1, .ref u, .int 0, .int 0, .int 0, .int 0])), (u, .inl (ca 0, 3, .inl (fun _ => 0)))])) 1 3 (va_A [(q_this, .inr (2, [.null, .null, .int 0, .int 0, .int 0, .int 0]))] sz) := by
  refine Met.ofW (cc := cX2_init) (maxL := 2) (ret := none) (by decide +kernel) rfl ?_
  intro p e s m args below meth c s₁ B hml hv
  obtain ⟨rfl, ⟨hsz, hP, hK, hD0⟩, hX⟩ := hv
  have hx := B.exec
  have hb := B.bytes
  have hr := B.returns
  have hts := atoms_spec (ws := wsX2_init) B.pre
  have hown : s.vm.findClass RX2 = some m.cls := findClass_of_methodNamed B.named
  have hin : meth.name = "<init>" := (name_of_methodNamed B.named B.method).1
  have hlocks := B.notSynchronized
  clear B
  subst hsz
  have hD := hD0.self (sz := s.heap.size)
  generalize hAe : va_A [(q_this, .inr (2, [.null, .null, .int 0, .int 0, .int 0, .int 0]))] s.heap.size = A at hD ⊢
  have hA : ∀ q : Nat, s.heap.size ≤ q → A q := fun q h => by rw [← hAe]; exact Or.inr h
  have hS : va_S A s.heap s.heap [] := va_S.rf
  have hl := lv_entry ([.ref q_this, .ref q_o1]) (n := 2) (Nat.le_of_ble_eq_true rfl)
  rw [lg_entry_eq]
  generalize (lg_sl ([.ref q_this, .ref q_o1]) ++ List.replicate (2 - (lg_sl ([.ref q_this, .ref q_o1])).length) Slot.unset).toArray = ls at hl ⊢
  have hl : lv_has ls 2 [(0, .ref q_this), (1, .ref q_o1)] := hl
  generalize ([.ref q_this, .ref q_o1] : List Value).toArray = args at hts ⊢
  generalize hQe : MQ below (kQc (Nat) D ca (A) (fun u => [(q_this, .inr (2, [.ref q_o1, .ref u, .int 0, .int 0, .int 0, .int 0])), (u, .inl (ca 0, 3, .inl (fun _ => 0)))])) args s 1 3 A = Q
  have k_3 := hts (.methodLink RX2 3 objectInit) (by decide +kernel)
  have ko_i := hts (.instanceMethod objectInit) (by decide +kernel)
  have ko_c := hts (.code objectInit ⟨#[0xb1]⟩ 1 none) (by decide +kernel)
  have ka_int := hts (.arrayClass .int) (by decide +kernel)
  have k_9 := hts (.fieldLink RX2 9 "TradeWords$Item" "numbers" "[I") (by decide +kernel)
  have i_X2 : ∀ w ∈ u_ws RX2 TX2 6, w ∈ wsX2_init := by decide +kernel
  have k_15 := hts (.fieldLink RX2 15 "TradeWords$Item" "text" "LTradeWords$Text;") (by decide +kernel)
  refine lv_aload_n hx hb dX2_init_0 rfl (lv_at hl 0 rfl) ?_
  refine W.objInit hx hb hown k_3 ko_i ko_c rfl (by rw [hml]; exact hl.1) rfl dX2_init_1 (Nat.le_of_ble_eq_true rfl) (Nat.le_of_ble_eq_true rfl) ?_
  refine W.eq (g2 := F0 m 4 ls []) rfl ?_
  refine lv_aload_n hx hb dX2_init_4 rfl (lv_at hl 0 rfl) ?_
  refine lv_iconst (v := (nI 3)) hx hb dX2_init_5 (by decide) ?_
  refine va_newa (atype := .int) (ty := .int) (N' := 3) (a0 := (3, .inl (fun _ => 0))) hx hb ka_int rfl hK hP hD hS hA (fun _ => rfl) (by decide) rfl (by decide) (Nat.le_of_ble_eq_true rfl) (Nat.le_of_ble_eq_true rfl) dX2_init_6 (fun q_numbers cA H hKn hP hD hS => ?_)
  obtain rfl := kn_int hKn
  clear hKn
  have hP : va_P D vwCl [(q_this, .inr (2, [.null, .null, .int 0, .int 0, .int 0, .int 0])), (q_numbers, .inl (ca 0, 3, .inl (fun _ => 0)))] H := hP
  have hD : va_D A [(q_this, .inr (2, [.null, .null, .int 0, .int 0, .int 0, .int 0])), (q_numbers, .inl (ca 0, 3, .inl (fun _ => 0)))] := hD
  refine W.widen (k := 1) (n := 3) (Nat.le_of_ble_eq_true rfl) (Nat.le_of_ble_eq_true rfl) ?_
  refine va_putF (D := D) (ci := 2) (v := .ref q_numbers) (ty := .array .int) (C := RX2) (T := TX2) (N := 6) hx hb hts i_X2 tyX2 tyX2_ok nmX2 hown hK hP hD hS 0 rfl rfl 1 (by decide) k_9 (fun _ h9 => h9) rfl hin rfl (by decide +kernel) rfl rfl (Nat.le_of_ble_eq_true rfl) dX2_init_8 (fun H locs hP hD hS => ?_)
  have hP : va_P D vwCl [(q_this, .inr (2, [.null, .ref q_numbers, .int 0, .int 0, .int 0, .int 0])), (q_numbers, .inl (ca 0, 3, .inl (fun _ => 0)))] H := hP
  have hD : va_D A [(q_this, .inr (2, [.null, .ref q_numbers, .int 0, .int 0, .int 0, .int 0])), (q_numbers, .inl (ca 0, 3, .inl (fun _ => 0)))] := hD
  refine lv_aload_n hx hb dX2_init_11 rfl (lv_at hl 0 rfl) ?_
  refine lv_aload_n hx hb dX2_init_12 rfl (lv_at hl 1 rfl) ?_
  refine va_putF (D := D) (ci := 2) (v := .ref q_o1) (ty := .object "TradeWords$Text") (C := RX2) (T := TX2) (N := 6) hx hb hts i_X2 tyX2 tyX2_ok nmX2 hown hK hP hD hS 0 rfl rfl 0 (by decide) k_15 (fun _ h9 => h9) rfl hin rfl (by decide +kernel) rfl rfl (Nat.le_of_ble_eq_true rfl) dX2_init_13 (fun H locs hP hD hS => ?_)
  have hP : va_P D vwCl [(q_this, .inr (2, [.ref q_o1, .ref q_numbers, .int 0, .int 0, .int 0, .int 0])), (q_numbers, .inl (ca 0, 3, .inl (fun _ => 0)))] H := hP
  have hD : va_D A [(q_this, .inr (2, [.ref q_o1, .ref q_numbers, .int 0, .int 0, .int 0, .int 0])), (q_numbers, .inl (ca 0, 3, .inl (fun _ => 0)))] := hD
  rw [← hQe]
  have hP := hP.sub (ws' := [(q_this, .inr (2, [.ref q_o1, .ref q_numbers, .int 0, .int 0, .int 0, .int 0])), (q_numbers, .inl (ca 0, 3, .inl (fun _ => 0)))]) [0, 1] rfl
  have hD := hD.sub (ws' := [(q_this, .inr (2, [.ref q_o1, .ref q_numbers, .int 0, .int 0, .int 0, .int 0])), (q_numbers, .inl (ca 0, 3, .inl (fun _ => 0)))]) [0, 1] (by decide) rfl
  exact W.vret hx hb hr (fun t ht hW => ⟨⟨q_numbers, rfl, trivial, by rw [ht]; exact hP, va_K.moved hW.alike hK, hD⟩, hS.F ht⟩) hS.2.2 dX2_init_16
abbrev rm_X6_init : Room := { frames := 1, cells := 2, slots := 48, locals := 12 }
set_option maxHeartbeats 4000000 in
set_option maxRecDepth 100000 in
theorem c_X6_init (l : Launch) (D : va_G) (ca : Nat → ClassId) (sz : Nat) (q_this : Nat) : Met l yX6_init wsX6_init rm_X6_init (va_Pc [.ref q_this] (kPreX D ca [(q_this, .inr (5, [.null, .null, .int 0]))] sz nTr)) (kQc (Nat × Nat) D ca (va_A [(q_this, .inr (5, [.null, .null, .int 0]))] sz) (fun u => [(q_this, .inr (5, [.ref u.1, .ref u.2, .int 0])), (u.1, .inl (ca 0, 16, .inl (fun _ => 0))), (u.2, .inl (ca 0, 32, .inl (fun _ => 0)))])) 2 48 (va_A [(q_this, .inr (5, [.null, .null, .int 0]))] sz) := by
  refine Met.ofW (cc := cX6_init) (maxL := 1) (ret := none) (by decide +kernel) rfl ?_
  intro p e s m args below meth c s₁ B hml hv
  obtain ⟨rfl, ⟨hsz, hP, hK, hD0⟩, hX⟩ := hv
  have hx := B.exec
  have hb := B.bytes
  have hr := B.returns
  have hts := atoms_spec (ws := wsX6_init) B.pre
  have hown : s.vm.findClass RX6 = some m.cls := findClass_of_methodNamed B.named
  have hin : meth.name = "<init>" := (name_of_methodNamed B.named B.method).1
  have hlocks := B.notSynchronized
  clear B
  subst hsz
  have hD := hD0.self (sz := s.heap.size)
  generalize hAe : va_A [(q_this, .inr (5, [.null, .null, .int 0]))] s.heap.size = A at hD ⊢
  have hA : ∀ q : Nat, s.heap.size ≤ q → A q := fun q h => by rw [← hAe]; exact Or.inr h
  have hS : va_S A s.heap s.heap [] := va_S.rf
  have hl := lv_entry ([.ref q_this]) (n := 1) (Nat.le_of_ble_eq_true rfl)
  rw [lg_entry_eq]
  generalize (lg_sl ([.ref q_this]) ++ List.replicate (1 - (lg_sl ([.ref q_this])).length) Slot.unset).toArray = ls at hl ⊢
  have hl : lv_has ls 1 [(0, .ref q_this)] := hl
  generalize ([.ref q_this] : List Value).toArray = args at hts ⊢
  generalize hQe : MQ below (kQc (Nat × Nat) D ca (A) (fun u => [(q_this, .inr (5, [.ref u.1, .ref u.2, .int 0])), (u.1, .inl (ca 0, 16, .inl (fun _ => 0))), (u.2, .inl (ca 0, 32, .inl (fun _ => 0)))])) args s 2 48 A = Q
  have k_3 := hts (.methodLink RX6 3 objectInit) (by decide +kernel)
  have ko_i := hts (.instanceMethod objectInit) (by decide +kernel)
  have ko_c := hts (.code objectInit ⟨#[0xb1]⟩ 1 none) (by decide +kernel)
  have ka_int := hts (.arrayClass .int) (by decide +kernel)
  have k_11 := hts (.fieldLink RX6 11 "TradeWords$Stands" "others" "[I") (by decide +kernel)
  have i_X6 : ∀ w ∈ u_ws RX6 TX6 3, w ∈ wsX6_init := by decide +kernel
  have k_15 := hts (.fieldLink RX6 15 "TradeWords$Stands" "keptOthers" "[I") (by decide +kernel)
  refine lv_aload_n hx hb dX6_init_0 rfl (lv_at hl 0 rfl) ?_
  refine W.objInit hx hb hown k_3 ko_i ko_c rfl (by rw [hml]; exact hl.1) rfl dX6_init_1 (Nat.le_of_ble_eq_true rfl) (Nat.le_of_ble_eq_true rfl) ?_
  refine W.eq (g2 := F0 m 4 ls []) rfl ?_
  refine lv_aload_n hx hb dX6_init_4 rfl (lv_at hl 0 rfl) ?_
  refine lv_bipush (v := (nI 16)) hx hb dX6_init_5 (by decide) ?_
  refine va_newa (atype := .int) (ty := .int) (N' := 16) (a0 := (16, .inl (fun _ => 0))) hx hb ka_int rfl hK hP hD hS hA (fun _ => rfl) (by decide) rfl (by decide) (Nat.le_of_ble_eq_true rfl) (Nat.le_of_ble_eq_true rfl) dX6_init_7 (fun q_others cA H hKn hP hD hS => ?_)
  obtain rfl := kn_int hKn
  clear hKn
  have hP : va_P D vwCl [(q_this, .inr (5, [.null, .null, .int 0])), (q_others, .inl (ca 0, 16, .inl (fun _ => 0)))] H := hP
  have hD : va_D A [(q_this, .inr (5, [.null, .null, .int 0])), (q_others, .inl (ca 0, 16, .inl (fun _ => 0)))] := hD
  refine W.widen (k := 1) (n := 16) (Nat.le_of_ble_eq_true rfl) (Nat.le_of_ble_eq_true rfl) ?_
  refine va_putF (D := D) (ci := 5) (v := .ref q_others) (ty := .array .int) (C := RX6) (T := TX6) (N := 3) hx hb hts i_X6 tyX6 tyX6_ok nmX6 hown hK hP hD hS 0 rfl rfl 0 (by decide) k_11 (fun _ h9 => h9) rfl hin rfl (by decide +kernel) rfl rfl (Nat.le_of_ble_eq_true rfl) dX6_init_9 (fun H locs hP hD hS => ?_)
  have hP : va_P D vwCl [(q_this, .inr (5, [.ref q_others, .null, .int 0])), (q_others, .inl (ca 0, 16, .inl (fun _ => 0)))] H := hP
  have hD : va_D A [(q_this, .inr (5, [.ref q_others, .null, .int 0])), (q_others, .inl (ca 0, 16, .inl (fun _ => 0)))] := hD
  refine lv_aload_n hx hb dX6_init_12 rfl (lv_at hl 0 rfl) ?_
  refine lv_bipush (v := (nI 32)) hx hb dX6_init_13 (by decide) ?_
  refine va_newa (atype := .int) (ty := .int) (N' := 32) (a0 := (32, .inl (fun _ => 0))) hx hb ka_int rfl hK hP hD hS hA (fun _ => rfl) (by decide) rfl (by decide) (Nat.le_of_ble_eq_true rfl) (Nat.le_of_ble_eq_true rfl) dX6_init_15 (fun q_keptOthers cA H hKn hP hD hS => ?_)
  obtain rfl := kn_int hKn
  clear hKn
  have hP : va_P D vwCl [(q_this, .inr (5, [.ref q_others, .null, .int 0])), (q_others, .inl (ca 0, 16, .inl (fun _ => 0))), (q_keptOthers, .inl (ca 0, 32, .inl (fun _ => 0)))] H := hP
  have hD : va_D A [(q_this, .inr (5, [.ref q_others, .null, .int 0])), (q_others, .inl (ca 0, 16, .inl (fun _ => 0))), (q_keptOthers, .inl (ca 0, 32, .inl (fun _ => 0)))] := hD
  refine W.widen (k := 2) (n := 48) (Nat.le_of_ble_eq_true rfl) (Nat.le_of_ble_eq_true rfl) ?_
  refine va_putF (D := D) (ci := 5) (v := .ref q_keptOthers) (ty := .array .int) (C := RX6) (T := TX6) (N := 3) hx hb hts i_X6 tyX6 tyX6_ok nmX6 hown hK hP hD hS 0 rfl rfl 1 (by decide) k_15 (fun _ h9 => h9) rfl hin rfl (by decide +kernel) rfl rfl (Nat.le_of_ble_eq_true rfl) dX6_init_17 (fun H locs hP hD hS => ?_)
  have hP : va_P D vwCl [(q_this, .inr (5, [.ref q_others, .ref q_keptOthers, .int 0])), (q_others, .inl (ca 0, 16, .inl (fun _ => 0))), (q_keptOthers, .inl (ca 0, 32, .inl (fun _ => 0)))] H := hP
  have hD : va_D A [(q_this, .inr (5, [.ref q_others, .ref q_keptOthers, .int 0])), (q_others, .inl (ca 0, 16, .inl (fun _ => 0))), (q_keptOthers, .inl (ca 0, 32, .inl (fun _ => 0)))] := hD
  rw [← hQe]
  have hP := hP.sub (ws' := [(q_this, .inr (5, [.ref q_others, .ref q_keptOthers, .int 0])), (q_others, .inl (ca 0, 16, .inl (fun _ => 0))), (q_keptOthers, .inl (ca 0, 32, .inl (fun _ => 0)))]) [0, 1, 2] rfl
  have hD := hD.sub (ws' := [(q_this, .inr (5, [.ref q_others, .ref q_keptOthers, .int 0])), (q_others, .inl (ca 0, 16, .inl (fun _ => 0))), (q_keptOthers, .inl (ca 0, 32, .inl (fun _ => 0)))]) [0, 1, 2] (by decide) rfl
  exact W.vret hx hb hr (fun t ht hW => ⟨⟨(q_others, q_keptOthers), rfl, trivial, by rw [ht]; exact hP, va_K.moved hW.alike hK, hD⟩, hS.F ht⟩) hS.2.2 dX6_init_20
abbrev rm_X1_init : Room := { frames := 1, cells := 2, slots := 162, locals := 12 }
set_option maxHeartbeats 4000000 in
set_option maxRecDepth 100000 in
theorem c_X1_init (l : Launch) (D : va_G) (ca : Nat → ClassId) (sz : Nat) (q_this : Nat) : Met l yX1_init wsX1_init rm_X1_init (va_Pc [.ref q_this] (kPreX D ca [(q_this, .inr (1, [.null, .null, .int 0, .int 0, .int 0, .int 0, .int 0]))] sz nTr)) (kQc (Nat × Nat) D ca (va_A [(q_this, .inr (1, [.null, .null, .int 0, .int 0, .int 0, .int 0, .int 0]))] sz) (fun u => [(q_this, .inr (1, [.ref u.1, .ref u.2, .int (nI 1), .int (nI 1), .int 0, .int 0, .int 0])), (u.1, .inl (ca 1, 81, .inr (.inl (fun _ => 0)))), (u.2, .inl (ca 1, 81, .inr (.inl (fun _ => 0))))])) 2 162 (va_A [(q_this, .inr (1, [.null, .null, .int 0, .int 0, .int 0, .int 0, .int 0]))] sz) := by
  refine Met.ofW (cc := cX1_init) (maxL := 1) (ret := none) (by decide +kernel) rfl ?_
  intro p e s m args below meth c s₁ B hml hv
  obtain ⟨rfl, ⟨hsz, hP, hK, hD0⟩, hX⟩ := hv
  have hx := B.exec
  have hb := B.bytes
  have hr := B.returns
  have hts := atoms_spec (ws := wsX1_init) B.pre
  have hown : s.vm.findClass RX1 = some m.cls := findClass_of_methodNamed B.named
  have hin : meth.name = "<init>" := (name_of_methodNamed B.named B.method).1
  have hlocks := B.notSynchronized
  clear B
  subst hsz
  have hD := hD0.self (sz := s.heap.size)
  generalize hAe : va_A [(q_this, .inr (1, [.null, .null, .int 0, .int 0, .int 0, .int 0, .int 0]))] s.heap.size = A at hD ⊢
  have hA : ∀ q : Nat, s.heap.size ≤ q → A q := fun q h => by rw [← hAe]; exact Or.inr h
  have hS : va_S A s.heap s.heap [] := va_S.rf
  have hl := lv_entry ([.ref q_this]) (n := 1) (Nat.le_of_ble_eq_true rfl)
  rw [lg_entry_eq]
  generalize (lg_sl ([.ref q_this]) ++ List.replicate (1 - (lg_sl ([.ref q_this])).length) Slot.unset).toArray = ls at hl ⊢
  have hl : lv_has ls 1 [(0, .ref q_this)] := hl
  generalize ([.ref q_this] : List Value).toArray = args at hts ⊢
  generalize hQe : MQ below (kQc (Nat × Nat) D ca (A) (fun u => [(q_this, .inr (1, [.ref u.1, .ref u.2, .int (nI 1), .int (nI 1), .int 0, .int 0, .int 0])), (u.1, .inl (ca 1, 81, .inr (.inl (fun _ => 0)))), (u.2, .inl (ca 1, 81, .inr (.inl (fun _ => 0))))])) args s 2 162 A = Q
  have k_3 := hts (.methodLink RX1 3 objectInit) (by decide +kernel)
  have ko_i := hts (.instanceMethod objectInit) (by decide +kernel)
  have ko_c := hts (.code objectInit ⟨#[0xb1]⟩ 1 none) (by decide +kernel)
  have ka_long := hts (.arrayClass .long) (by decide +kernel)
  have k_11 := hts (.fieldLink RX1 11 "TradeWords$Crowd" "now" "[J") (by decide +kernel)
  have i_X1 : ∀ w ∈ u_ws RX1 TX1 7, w ∈ wsX1_init := by decide +kernel
  have k_15 := hts (.fieldLink RX1 15 "TradeWords$Crowd" "next" "[J") (by decide +kernel)
  have k_18 := hts (.fieldLink RX1 18 "TradeWords$Crowd" "a" "I") (by decide +kernel)
  have k_22 := hts (.fieldLink RX1 22 "TradeWords$Crowd" "b" "I") (by decide +kernel)
  refine lv_aload_n hx hb dX1_init_0 rfl (lv_at hl 0 rfl) ?_
  refine W.objInit hx hb hown k_3 ko_i ko_c rfl (by rw [hml]; exact hl.1) rfl dX1_init_1 (Nat.le_of_ble_eq_true rfl) (Nat.le_of_ble_eq_true rfl) ?_
  refine W.eq (g2 := F0 m 4 ls []) rfl ?_
  refine lv_aload_n hx hb dX1_init_4 rfl (lv_at hl 0 rfl) ?_
  refine lv_bipush (v := (nI 81)) hx hb dX1_init_5 (by decide) ?_
  refine va_newa (atype := .long) (ty := .long) (N' := 81) (a0 := (81, .inr (.inl (fun _ => 0)))) hx hb ka_long rfl hK hP hD hS hA (fun _ => rfl) (by decide) rfl (by decide) (Nat.le_of_ble_eq_true rfl) (Nat.le_of_ble_eq_true rfl) dX1_init_7 (fun q_now cA H hKn hP hD hS => ?_)
  obtain rfl := kn_long hKn
  clear hKn
  have hP : va_P D vwCl [(q_this, .inr (1, [.null, .null, .int 0, .int 0, .int 0, .int 0, .int 0])), (q_now, .inl (ca 1, 81, .inr (.inl (fun _ => 0))))] H := hP
  have hD : va_D A [(q_this, .inr (1, [.null, .null, .int 0, .int 0, .int 0, .int 0, .int 0])), (q_now, .inl (ca 1, 81, .inr (.inl (fun _ => 0))))] := hD
  refine W.widen (k := 1) (n := 81) (Nat.le_of_ble_eq_true rfl) (Nat.le_of_ble_eq_true rfl) ?_
  refine va_putF (D := D) (ci := 1) (v := .ref q_now) (ty := .array .long) (C := RX1) (T := TX1) (N := 7) hx hb hts i_X1 tyX1 tyX1_ok nmX1 hown hK hP hD hS 0 rfl rfl 0 (by decide) k_11 (fun _ h9 => h9) rfl hin rfl (by decide +kernel) rfl rfl (Nat.le_of_ble_eq_true rfl) dX1_init_9 (fun H locs hP hD hS => ?_)
  have hP : va_P D vwCl [(q_this, .inr (1, [.ref q_now, .null, .int 0, .int 0, .int 0, .int 0, .int 0])), (q_now, .inl (ca 1, 81, .inr (.inl (fun _ => 0))))] H := hP
  have hD : va_D A [(q_this, .inr (1, [.ref q_now, .null, .int 0, .int 0, .int 0, .int 0, .int 0])), (q_now, .inl (ca 1, 81, .inr (.inl (fun _ => 0))))] := hD
  refine lv_aload_n hx hb dX1_init_12 rfl (lv_at hl 0 rfl) ?_
  refine lv_bipush (v := (nI 81)) hx hb dX1_init_13 (by decide) ?_
  refine va_newa (atype := .long) (ty := .long) (N' := 81) (a0 := (81, .inr (.inl (fun _ => 0)))) hx hb ka_long rfl hK hP hD hS hA (fun _ => rfl) (by decide) rfl (by decide) (Nat.le_of_ble_eq_true rfl) (Nat.le_of_ble_eq_true rfl) dX1_init_15 (fun q_next cA H hKn hP hD hS => ?_)
  obtain rfl := kn_long hKn
  clear hKn
  have hP : va_P D vwCl [(q_this, .inr (1, [.ref q_now, .null, .int 0, .int 0, .int 0, .int 0, .int 0])), (q_now, .inl (ca 1, 81, .inr (.inl (fun _ => 0)))), (q_next, .inl (ca 1, 81, .inr (.inl (fun _ => 0))))] H := hP
  have hD : va_D A [(q_this, .inr (1, [.ref q_now, .null, .int 0, .int 0, .int 0, .int 0, .int 0])), (q_now, .inl (ca 1, 81, .inr (.inl (fun _ => 0)))), (q_next, .inl (ca 1, 81, .inr (.inl (fun _ => 0))))] := hD
  refine W.widen (k := 2) (n := 162) (Nat.le_of_ble_eq_true rfl) (Nat.le_of_ble_eq_true rfl) ?_
  refine va_putF (D := D) (ci := 1) (v := .ref q_next) (ty := .array .long) (C := RX1) (T := TX1) (N := 7) hx hb hts i_X1 tyX1 tyX1_ok nmX1 hown hK hP hD hS 0 rfl rfl 1 (by decide) k_15 (fun _ h9 => h9) rfl hin rfl (by decide +kernel) rfl rfl (Nat.le_of_ble_eq_true rfl) dX1_init_17 (fun H locs hP hD hS => ?_)
  have hP : va_P D vwCl [(q_this, .inr (1, [.ref q_now, .ref q_next, .int 0, .int 0, .int 0, .int 0, .int 0])), (q_now, .inl (ca 1, 81, .inr (.inl (fun _ => 0)))), (q_next, .inl (ca 1, 81, .inr (.inl (fun _ => 0))))] H := hP
  have hD : va_D A [(q_this, .inr (1, [.ref q_now, .ref q_next, .int 0, .int 0, .int 0, .int 0, .int 0])), (q_now, .inl (ca 1, 81, .inr (.inl (fun _ => 0)))), (q_next, .inl (ca 1, 81, .inr (.inl (fun _ => 0))))] := hD
  refine lv_aload_n hx hb dX1_init_20 rfl (lv_at hl 0 rfl) ?_
  refine lv_iconst (v := (nI 1)) hx hb dX1_init_21 (by decide) ?_
  refine va_put (D := D) (ci := 1) (v := .int (nI 1)) (ty := .int) (C := RX1) (T := TX1) (N := 7) hx hb hts i_X1 tyX1 tyX1_ok nmX1 hown hK hP hD hS 0 rfl rfl 2 (by decide) k_18 (fun _ h9 => h9) rfl (by decide +kernel) rfl rfl (Nat.le_of_ble_eq_true rfl) dX1_init_22 (fun H locs hP hD hS => ?_)
  have hP : va_P D vwCl [(q_this, .inr (1, [.ref q_now, .ref q_next, .int (nI 1), .int 0, .int 0, .int 0, .int 0])), (q_now, .inl (ca 1, 81, .inr (.inl (fun _ => 0)))), (q_next, .inl (ca 1, 81, .inr (.inl (fun _ => 0))))] H := hP
  have hD : va_D A [(q_this, .inr (1, [.ref q_now, .ref q_next, .int (nI 1), .int 0, .int 0, .int 0, .int 0])), (q_now, .inl (ca 1, 81, .inr (.inl (fun _ => 0)))), (q_next, .inl (ca 1, 81, .inr (.inl (fun _ => 0))))] := hD
  refine lv_aload_n hx hb dX1_init_25 rfl (lv_at hl 0 rfl) ?_
  refine lv_iconst (v := (nI 1)) hx hb dX1_init_26 (by decide) ?_
  refine va_put (D := D) (ci := 1) (v := .int (nI 1)) (ty := .int) (C := RX1) (T := TX1) (N := 7) hx hb hts i_X1 tyX1 tyX1_ok nmX1 hown hK hP hD hS 0 rfl rfl 3 (by decide) k_22 (fun _ h9 => h9) rfl (by decide +kernel) rfl rfl (Nat.le_of_ble_eq_true rfl) dX1_init_27 (fun H locs hP hD hS => ?_)
  have hP : va_P D vwCl [(q_this, .inr (1, [.ref q_now, .ref q_next, .int (nI 1), .int (nI 1), .int 0, .int 0, .int 0])), (q_now, .inl (ca 1, 81, .inr (.inl (fun _ => 0)))), (q_next, .inl (ca 1, 81, .inr (.inl (fun _ => 0))))] H := hP
  have hD : va_D A [(q_this, .inr (1, [.ref q_now, .ref q_next, .int (nI 1), .int (nI 1), .int 0, .int 0, .int 0])), (q_now, .inl (ca 1, 81, .inr (.inl (fun _ => 0)))), (q_next, .inl (ca 1, 81, .inr (.inl (fun _ => 0))))] := hD
  rw [← hQe]
  have hP := hP.sub (ws' := [(q_this, .inr (1, [.ref q_now, .ref q_next, .int (nI 1), .int (nI 1), .int 0, .int 0, .int 0])), (q_now, .inl (ca 1, 81, .inr (.inl (fun _ => 0)))), (q_next, .inl (ca 1, 81, .inr (.inl (fun _ => 0))))]) [0, 1, 2] rfl
  have hD := hD.sub (ws' := [(q_this, .inr (1, [.ref q_now, .ref q_next, .int (nI 1), .int (nI 1), .int 0, .int 0, .int 0])), (q_now, .inl (ca 1, 81, .inr (.inl (fun _ => 0)))), (q_next, .inl (ca 1, 81, .inr (.inl (fun _ => 0))))]) [0, 1, 2] (by decide) rfl
  exact W.vret hx hb hr (fun t ht hW => ⟨⟨(q_now, q_next), rfl, trivial, by rw [ht]; exact hP, va_K.moved hW.alike hK, hD⟩, hS.F ht⟩) hS.2.2 dX1_init_30
abbrev rm_X3_init : Room := { frames := 1, cells := 1, slots := 7, locals := 12 }
set_option maxHeartbeats 4000000 in
set_option maxRecDepth 100000 in
theorem c_X3_init (l : Launch) (D : va_G) (ca : Nat → ClassId) (sz : Nat) (q_this : Nat) : Met l yX3_init wsX3_init rm_X3_init (va_Pc [.ref q_this] (kPreX D ca [(q_this, .inr (3, [.null]))] sz nTr)) (kQc (Nat) D ca (va_A [(q_this, .inr (3, [.null]))] sz) (fun u => [(q_this, .inr (3, [.ref u])), (u, .inl (ca 0, 7, .inl (fun _ => 0)))])) 1 7 (va_A [(q_this, .inr (3, [.null]))] sz) := by
  refine Met.ofW (cc := cX3_init) (maxL := 1) (ret := none) (by decide +kernel) rfl ?_
  intro p e s m args below meth c s₁ B hml hv
  obtain ⟨rfl, ⟨hsz, hP, hK, hD0⟩, hX⟩ := hv
  have hx := B.exec
  have hb := B.bytes
  have hr := B.returns
  have hts := atoms_spec (ws := wsX3_init) B.pre
  have hown : s.vm.findClass RX3 = some m.cls := findClass_of_methodNamed B.named
  have hin : meth.name = "<init>" := (name_of_methodNamed B.named B.method).1
  have hlocks := B.notSynchronized
  clear B
  subst hsz
  have hD := hD0.self (sz := s.heap.size)
  generalize hAe : va_A [(q_this, .inr (3, [.null]))] s.heap.size = A at hD ⊢
  have hA : ∀ q : Nat, s.heap.size ≤ q → A q := fun q h => by rw [← hAe]; exact Or.inr h
  have hS : va_S A s.heap s.heap [] := va_S.rf
  have hl := lv_entry ([.ref q_this]) (n := 1) (Nat.le_of_ble_eq_true rfl)
  rw [lg_entry_eq]
  generalize (lg_sl ([.ref q_this]) ++ List.replicate (1 - (lg_sl ([.ref q_this])).length) Slot.unset).toArray = ls at hl ⊢
  have hl : lv_has ls 1 [(0, .ref q_this)] := hl
  generalize ([.ref q_this] : List Value).toArray = args at hts ⊢
  generalize hQe : MQ below (kQc (Nat) D ca (A) (fun u => [(q_this, .inr (3, [.ref u])), (u, .inl (ca 0, 7, .inl (fun _ => 0)))])) args s 1 7 A = Q
  have k_3 := hts (.methodLink RX3 3 objectInit) (by decide +kernel)
  have ko_i := hts (.instanceMethod objectInit) (by decide +kernel)
  have ko_c := hts (.code objectInit ⟨#[0xb1]⟩ 1 none) (by decide +kernel)
  have ka_int := hts (.arrayClass .int) (by decide +kernel)
  have k_9 := hts (.fieldLink RX3 9 "TradeWords$Measure" "row" "[I") (by decide +kernel)
  have i_X3 : ∀ w ∈ u_ws RX3 TX3 1, w ∈ wsX3_init := by decide +kernel
  refine lv_aload_n hx hb dX3_init_0 rfl (lv_at hl 0 rfl) ?_
  refine W.objInit hx hb hown k_3 ko_i ko_c rfl (by rw [hml]; exact hl.1) rfl dX3_init_1 (Nat.le_of_ble_eq_true rfl) (Nat.le_of_ble_eq_true rfl) ?_
  refine W.eq (g2 := F0 m 4 ls []) rfl ?_
  refine lv_aload_n hx hb dX3_init_4 rfl (lv_at hl 0 rfl) ?_
  refine lv_bipush (v := (nI 7)) hx hb dX3_init_5 (by decide) ?_
  refine va_newa (atype := .int) (ty := .int) (N' := 7) (a0 := (7, .inl (fun _ => 0))) hx hb ka_int rfl hK hP hD hS hA (fun _ => rfl) (by decide) rfl (by decide) (Nat.le_of_ble_eq_true rfl) (Nat.le_of_ble_eq_true rfl) dX3_init_7 (fun q_row cA H hKn hP hD hS => ?_)
  obtain rfl := kn_int hKn
  clear hKn
  have hP : va_P D vwCl [(q_this, .inr (3, [.null])), (q_row, .inl (ca 0, 7, .inl (fun _ => 0)))] H := hP
  have hD : va_D A [(q_this, .inr (3, [.null])), (q_row, .inl (ca 0, 7, .inl (fun _ => 0)))] := hD
  refine W.widen (k := 1) (n := 7) (Nat.le_of_ble_eq_true rfl) (Nat.le_of_ble_eq_true rfl) ?_
  refine va_putF (D := D) (ci := 3) (v := .ref q_row) (ty := .array .int) (C := RX3) (T := TX3) (N := 1) hx hb hts i_X3 tyX3 tyX3_ok nmX3 hown hK hP hD hS 0 rfl rfl 0 (by decide) k_9 (fun _ h9 => h9) rfl hin rfl (by decide +kernel) rfl rfl (Nat.le_of_ble_eq_true rfl) dX3_init_9 (fun H locs hP hD hS => ?_)
  have hP : va_P D vwCl [(q_this, .inr (3, [.ref q_row])), (q_row, .inl (ca 0, 7, .inl (fun _ => 0)))] H := hP
  have hD : va_D A [(q_this, .inr (3, [.ref q_row])), (q_row, .inl (ca 0, 7, .inl (fun _ => 0)))] := hD
  rw [← hQe]
  have hP := hP.sub (ws' := [(q_this, .inr (3, [.ref q_row])), (q_row, .inl (ca 0, 7, .inl (fun _ => 0)))]) [0, 1] rfl
  have hD := hD.sub (ws' := [(q_this, .inr (3, [.ref q_row])), (q_row, .inl (ca 0, 7, .inl (fun _ => 0)))]) [0, 1] (by decide) rfl
  exact W.vret hx hb hr (fun t ht hW => ⟨⟨q_row, rfl, trivial, by rw [ht]; exact hP, va_K.moved hW.alike hK, hD⟩, hS.F ht⟩) hS.2.2 dX3_init_12
abbrev rm_X4_init : Room := { frames := 1, cells := 2, slots := 16, locals := 12 }
set_option maxHeartbeats 4000000 in
set_option maxRecDepth 100000 in
theorem c_X4_init (l : Launch) (D : va_G) (ca : Nat → ClassId) (sz : Nat) (q_this : Nat) : Met l yX4_init wsX4_init rm_X4_init (va_Pc [.ref q_this] (kPreX D ca [(q_this, .inr (4, [.null, .null, .int 0, .int 0, .int 0]))] sz nTr)) (kQc (Nat × Nat) D ca (va_A [(q_this, .inr (4, [.null, .null, .int 0, .int 0, .int 0]))] sz) (fun u => [(q_this, .inr (4, [.ref u.1, .ref u.2, .int 0, .int 0, .int 0])), (u.1, .inl (ca 0, 8, .inl (fun _ => 0))), (u.2, .inl (ca 0, 8, .inl (fun _ => 0)))])) 2 16 (va_A [(q_this, .inr (4, [.null, .null, .int 0, .int 0, .int 0]))] sz) := by
  refine Met.ofW (cc := cX4_init) (maxL := 1) (ret := none) (by decide +kernel) rfl ?_
  intro p e s m args below meth c s₁ B hml hv
  obtain ⟨rfl, ⟨hsz, hP, hK, hD0⟩, hX⟩ := hv
  have hx := B.exec
  have hb := B.bytes
  have hr := B.returns
  have hts := atoms_spec (ws := wsX4_init) B.pre
  have hown : s.vm.findClass RX4 = some m.cls := findClass_of_methodNamed B.named
  have hin : meth.name = "<init>" := (name_of_methodNamed B.named B.method).1
  have hlocks := B.notSynchronized
  clear B
  subst hsz
  have hD := hD0.self (sz := s.heap.size)
  generalize hAe : va_A [(q_this, .inr (4, [.null, .null, .int 0, .int 0, .int 0]))] s.heap.size = A at hD ⊢
  have hA : ∀ q : Nat, s.heap.size ≤ q → A q := fun q h => by rw [← hAe]; exact Or.inr h
  have hS : va_S A s.heap s.heap [] := va_S.rf
  have hl := lv_entry ([.ref q_this]) (n := 1) (Nat.le_of_ble_eq_true rfl)
  rw [lg_entry_eq]
  generalize (lg_sl ([.ref q_this]) ++ List.replicate (1 - (lg_sl ([.ref q_this])).length) Slot.unset).toArray = ls at hl ⊢
  have hl : lv_has ls 1 [(0, .ref q_this)] := hl
  generalize ([.ref q_this] : List Value).toArray = args at hts ⊢
  generalize hQe : MQ below (kQc (Nat × Nat) D ca (A) (fun u => [(q_this, .inr (4, [.ref u.1, .ref u.2, .int 0, .int 0, .int 0])), (u.1, .inl (ca 0, 8, .inl (fun _ => 0))), (u.2, .inl (ca 0, 8, .inl (fun _ => 0)))])) args s 2 16 A = Q
  have k_3 := hts (.methodLink RX4 3 objectInit) (by decide +kernel)
  have ko_i := hts (.instanceMethod objectInit) (by decide +kernel)
  have ko_c := hts (.code objectInit ⟨#[0xb1]⟩ 1 none) (by decide +kernel)
  have ka_int := hts (.arrayClass .int) (by decide +kernel)
  have k_9 := hts (.fieldLink RX4 9 "TradeWords$Needs" "joinedMeaning" "[I") (by decide +kernel)
  have i_X4 : ∀ w ∈ u_ws RX4 TX4 5, w ∈ wsX4_init := by decide +kernel
  have k_15 := hts (.fieldLink RX4 15 "TradeWords$Needs" "joinedPair" "[I") (by decide +kernel)
  refine lv_aload_n hx hb dX4_init_0 rfl (lv_at hl 0 rfl) ?_
  refine W.objInit hx hb hown k_3 ko_i ko_c rfl (by rw [hml]; exact hl.1) rfl dX4_init_1 (Nat.le_of_ble_eq_true rfl) (Nat.le_of_ble_eq_true rfl) ?_
  refine W.eq (g2 := F0 m 4 ls []) rfl ?_
  refine lv_aload_n hx hb dX4_init_4 rfl (lv_at hl 0 rfl) ?_
  refine lv_bipush (v := (nI 8)) hx hb dX4_init_5 (by decide) ?_
  refine va_newa (atype := .int) (ty := .int) (N' := 8) (a0 := (8, .inl (fun _ => 0))) hx hb ka_int rfl hK hP hD hS hA (fun _ => rfl) (by decide) rfl (by decide) (Nat.le_of_ble_eq_true rfl) (Nat.le_of_ble_eq_true rfl) dX4_init_7 (fun q_joinedMeaning cA H hKn hP hD hS => ?_)
  obtain rfl := kn_int hKn
  clear hKn
  have hP : va_P D vwCl [(q_this, .inr (4, [.null, .null, .int 0, .int 0, .int 0])), (q_joinedMeaning, .inl (ca 0, 8, .inl (fun _ => 0)))] H := hP
  have hD : va_D A [(q_this, .inr (4, [.null, .null, .int 0, .int 0, .int 0])), (q_joinedMeaning, .inl (ca 0, 8, .inl (fun _ => 0)))] := hD
  refine W.widen (k := 1) (n := 8) (Nat.le_of_ble_eq_true rfl) (Nat.le_of_ble_eq_true rfl) ?_
  refine va_putF (D := D) (ci := 4) (v := .ref q_joinedMeaning) (ty := .array .int) (C := RX4) (T := TX4) (N := 5) hx hb hts i_X4 tyX4 tyX4_ok nmX4 hown hK hP hD hS 0 rfl rfl 0 (by decide) k_9 (fun _ h9 => h9) rfl hin rfl (by decide +kernel) rfl rfl (Nat.le_of_ble_eq_true rfl) dX4_init_9 (fun H locs hP hD hS => ?_)
  have hP : va_P D vwCl [(q_this, .inr (4, [.ref q_joinedMeaning, .null, .int 0, .int 0, .int 0])), (q_joinedMeaning, .inl (ca 0, 8, .inl (fun _ => 0)))] H := hP
  have hD : va_D A [(q_this, .inr (4, [.ref q_joinedMeaning, .null, .int 0, .int 0, .int 0])), (q_joinedMeaning, .inl (ca 0, 8, .inl (fun _ => 0)))] := hD
  refine lv_aload_n hx hb dX4_init_12 rfl (lv_at hl 0 rfl) ?_
  refine lv_bipush (v := (nI 8)) hx hb dX4_init_13 (by decide) ?_
  refine va_newa (atype := .int) (ty := .int) (N' := 8) (a0 := (8, .inl (fun _ => 0))) hx hb ka_int rfl hK hP hD hS hA (fun _ => rfl) (by decide) rfl (by decide) (Nat.le_of_ble_eq_true rfl) (Nat.le_of_ble_eq_true rfl) dX4_init_15 (fun q_joinedPair cA H hKn hP hD hS => ?_)
  obtain rfl := kn_int hKn
  clear hKn
  have hP : va_P D vwCl [(q_this, .inr (4, [.ref q_joinedMeaning, .null, .int 0, .int 0, .int 0])), (q_joinedMeaning, .inl (ca 0, 8, .inl (fun _ => 0))), (q_joinedPair, .inl (ca 0, 8, .inl (fun _ => 0)))] H := hP
  have hD : va_D A [(q_this, .inr (4, [.ref q_joinedMeaning, .null, .int 0, .int 0, .int 0])), (q_joinedMeaning, .inl (ca 0, 8, .inl (fun _ => 0))), (q_joinedPair, .inl (ca 0, 8, .inl (fun _ => 0)))] := hD
  refine W.widen (k := 2) (n := 16) (Nat.le_of_ble_eq_true rfl) (Nat.le_of_ble_eq_true rfl) ?_
  refine va_putF (D := D) (ci := 4) (v := .ref q_joinedPair) (ty := .array .int) (C := RX4) (T := TX4) (N := 5) hx hb hts i_X4 tyX4 tyX4_ok nmX4 hown hK hP hD hS 0 rfl rfl 1 (by decide) k_15 (fun _ h9 => h9) rfl hin rfl (by decide +kernel) rfl rfl (Nat.le_of_ble_eq_true rfl) dX4_init_17 (fun H locs hP hD hS => ?_)
  have hP : va_P D vwCl [(q_this, .inr (4, [.ref q_joinedMeaning, .ref q_joinedPair, .int 0, .int 0, .int 0])), (q_joinedMeaning, .inl (ca 0, 8, .inl (fun _ => 0))), (q_joinedPair, .inl (ca 0, 8, .inl (fun _ => 0)))] H := hP
  have hD : va_D A [(q_this, .inr (4, [.ref q_joinedMeaning, .ref q_joinedPair, .int 0, .int 0, .int 0])), (q_joinedMeaning, .inl (ca 0, 8, .inl (fun _ => 0))), (q_joinedPair, .inl (ca 0, 8, .inl (fun _ => 0)))] := hD
  rw [← hQe]
  have hP := hP.sub (ws' := [(q_this, .inr (4, [.ref q_joinedMeaning, .ref q_joinedPair, .int 0, .int 0, .int 0])), (q_joinedMeaning, .inl (ca 0, 8, .inl (fun _ => 0))), (q_joinedPair, .inl (ca 0, 8, .inl (fun _ => 0)))]) [0, 1, 2] rfl
  have hD := hD.sub (ws' := [(q_this, .inr (4, [.ref q_joinedMeaning, .ref q_joinedPair, .int 0, .int 0, .int 0])), (q_joinedMeaning, .inl (ca 0, 8, .inl (fun _ => 0))), (q_joinedPair, .inl (ca 0, 8, .inl (fun _ => 0)))]) [0, 1, 2] (by decide) rfl
  exact W.vret hx hb hr (fun t ht hW => ⟨⟨(q_joinedMeaning, q_joinedPair), rfl, trivial, by rw [ht]; exact hP, va_K.moved hW.alike hK, hD⟩, hS.F ht⟩) hS.2.2 dX4_init_20
