def b_X9_summer_60 (p1 : Int32) (p2 : Int32) (v_l : Nat → Int32) (x3_7 : Int32) (z0_19 : Int32) (rec60 : Int32 → (Nat → Int32) → Option ((Nat → Int32))) (x5_23 : Int32) (y_stands_24 : Nat → Int32) : Option ((Nat → Int32)) := (if p2 ≤ x5_23 then some (y_stands_24) else (if z0_19 = 0 then some (y_stands_24) else bd1 (D_X9_meetBy p1 x3_7 x5_23 v_l y_stands_24) (fun y_stands_28 => nm (x5_23 + (nI 1)) (fun x5_30 => rec60 x5_30 y_stands_28))))
def j_X9_summer_55 (p1 : Int32) (p2 : Int32) (v_l : Nat → Int32) (F : Nat) (x3_7 : Int32) (y_stands_8 : Nat → Int32) (rec28 : Int32 → (Nat → Int32) → (Nat → Int32) → (Nat → Int32) → (Nat → Int32) → Option ((Nat → Int32) × (Nat → Int32) × (Nat → Int32) × (Nat → Int32))) (z0_19 : Int32) (y_one_20 : Nat → Int32) (y_two_21 : Nat → Int32) (y_ways_22 : Nat → Int32) : Option ((Nat → Int32) × (Nat → Int32) × (Nat → Int32) × (Nat → Int32)) := bd1 (lpg (T := Int32 → (Nat → Int32) → Option ((Nat → Int32))) (fun _ _ => none) (b_X9_summer_60 p1 p2 v_l x3_7 z0_19) F (nI 0) y_stands_8) (fun o_25 => nm (x3_7 + (nI 1)) (fun x3_32 => rec28 x3_32 o_25 y_one_20 y_two_21 y_ways_22))
def j_X9_summer_54 (p1 : Int32) (p2 : Int32) (v_l : Nat → Int32) (F : Nat) (x3_7 : Int32) (y_stands_8 : Nat → Int32) (rec28 : Int32 → (Nat → Int32) → (Nat → Int32) → (Nat → Int32) → (Nat → Int32) → Option ((Nat → Int32) × (Nat → Int32) × (Nat → Int32) × (Nat → Int32))) (y_one_34 : Nat → Int32) (y_two_35 : Nat → Int32) (y_ways_36 : Nat → Int32) : Option ((Nat → Int32) × (Nat → Int32) × (Nat → Int32) × (Nat → Int32)) := j_X9_summer_55 p1 p2 v_l F x3_7 y_stands_8 rec28 (nI 0) y_one_34 y_two_35 y_ways_36
def b_X9_summer_28 (p1 : Int32) (p2 : Int32) (v_l : Nat → Int32) (F : Nat) (rec28 : Int32 → (Nat → Int32) → (Nat → Int32) → (Nat → Int32) → (Nat → Int32) → Option ((Nat → Int32) × (Nat → Int32) × (Nat → Int32) × (Nat → Int32))) (x3_7 : Int32) (y_stands_8 : Nat → Int32) (y_one_9 : Nat → Int32) (y_two_10 : Nat → Int32) (y_ways_11 : Nat → Int32) : Option ((Nat → Int32) × (Nat → Int32) × (Nat → Int32) × (Nat → Int32)) := (if (nI 8) ≤ x3_7 then some (y_stands_8, y_one_9, y_two_10, y_ways_11) else bd1 (D_X9_isTold x3_7 v_l) (fun r_17 => (if r_17 = 0 then j_X9_summer_54 p1 p2 v_l F x3_7 y_stands_8 rec28 y_one_9 y_two_10 y_ways_11 else bd4 (D_X9_isAlike F x3_7 v_l y_one_9 y_two_10 y_ways_11) (fun r_38 y_one_39 y_two_40 y_ways_41 => (if r_38 = 0 then j_X9_summer_55 p1 p2 v_l F x3_7 y_stands_8 rec28 (nI 1) y_one_39 y_two_40 y_ways_41 else j_X9_summer_54 p1 p2 v_l F x3_7 y_stands_8 rec28 y_one_39 y_two_40 y_ways_41)))))
def D_X9_summer (F : Nat) (p1 : Int32) (p2 : Int32) (v_l : Nat → Int32) (v_stands : Nat → Int32) (v_one : Nat → Int32) (v_two : Nat → Int32) (v_ways : Nat → Int32) : Option (Int32 × (Nat → Int32) × (Nat → Int32) × (Nat → Int32) × (Nat → Int32)) := bd1 (D_X9_in p1.toInt64 (lN 0) (lN 9999)) (fun r_1 => (if r_1 = 0 then some ((-1 : Int32), v_stands, v_one, v_two, v_ways) else bd1 (D_X9_in p2.toInt64 (lN 1) (lN 99)) (fun r_4 => (if r_4 = 0 then some ((-1 : Int32), v_stands, v_one, v_two, v_ways) else bd4 (lpg (T := Int32 → (Nat → Int32) → (Nat → Int32) → (Nat → Int32) → (Nat → Int32) → Option ((Nat → Int32) × (Nat → Int32) × (Nat → Int32) × (Nat → Int32))) (fun _ _ _ _ _ => none) (b_X9_summer_28 p1 p2 v_l F) F (nI 0) v_stands v_one v_two v_ways) (fun o_12 o_13 o_14 o_15 => bd4 (D_X9_tongueBy F (nI 0) v_l o_12 o_13 o_14 o_15) (fun r_44 y_one_45 y_two_46 y_ways_47 => bd4 (D_X9_tongueBy F (nI 1) v_l o_12 y_one_45 y_two_46 y_ways_47) (fun r_49 y_one_50 y_two_51 y_ways_52 => bd1 (D_X9_ones F (r_44 ||| r_49)) (fun r_54 => some (r_54, o_12, y_one_50, y_two_51, y_ways_52)))))))))
abbrev rm_X9_summer : Room := { frames := 6, cells := 0, slots := 0, locals := 139 }
set_option maxHeartbeats 4000000 in
set_option maxRecDepth 100000 in
theorem c_X9_summer (l : Launch) (D : va_G) (ca : Nat → ClassId) (F : Nat) (sz : Nat) (q_this q_text q_read q_l q_stands q_kept q_one q_two q_ways q_now q_then : Nat) (p1 : Int32) (p2 : Int32) (v_size : Int32) (v_at : Int32) (v_keptMany : Int32) (v_l : Nat → Int32) (v_stands : Nat → Int32) (v_one : Nat → Int32) (v_two : Nat → Int32) (v_ways : Nat → Int32) (r : Int32) (o_stands : Nat → Int32) (o_one : Nat → Int32) (o_two : Nat → Int32) (o_ways : Nat → Int32) (h : D_X9_summer F p1 p2 v_l v_stands v_one v_two v_ways = some (r, o_stands, o_one, o_two, o_ways)) : Met l yX9_summer wsX9_summer rm_X9_summer (va_Pc [.ref q_this, .int p1, .int p2] (kPre D ca [(q_this, .inr (8, [.ref q_text, .int v_size, .int v_at, .ref q_read, .ref q_l, .ref q_stands, .ref q_kept, .int v_keptMany, .ref q_one, .ref q_two, .ref q_ways, .ref q_now, .ref q_then])), (q_l, .inl (ca 0, 336, .inl v_l)), (q_stands, .inl (ca 0, 16, .inl v_stands)), (q_one, .inl (ca 0, 7, .inl v_one)), (q_two, .inl (ca 0, 7, .inl v_two)), (q_ways, .inl (ca 0, 49, .inl v_ways))] sz)) (kQi D ca (va_A [(q_this, .inr (8, [.ref q_text, .int v_size, .int v_at, .ref q_read, .ref q_l, .ref q_stands, .ref q_kept, .int v_keptMany, .ref q_one, .ref q_two, .ref q_ways, .ref q_now, .ref q_then])), (q_l, .inl (ca 0, 336, .inl v_l)), (q_stands, .inl (ca 0, 16, .inl v_stands)), (q_one, .inl (ca 0, 7, .inl v_one)), (q_two, .inl (ca 0, 7, .inl v_two)), (q_ways, .inl (ca 0, 49, .inl v_ways))] sz) [(q_this, .inr (8, [.ref q_text, .int v_size, .int v_at, .ref q_read, .ref q_l, .ref q_stands, .ref q_kept, .int v_keptMany, .ref q_one, .ref q_two, .ref q_ways, .ref q_now, .ref q_then])), (q_l, .inl (ca 0, 336, .inl v_l)), (q_stands, .inl (ca 0, 16, .inl o_stands)), (q_one, .inl (ca 0, 7, .inl o_one)), (q_two, .inl (ca 0, 7, .inl o_two)), (q_ways, .inl (ca 0, 49, .inl o_ways))] r) 0 0 (va_A [(q_this, .inr (8, [.ref q_text, .int v_size, .int v_at, .ref q_read, .ref q_l, .ref q_stands, .ref q_kept, .int v_keptMany, .ref q_one, .ref q_two, .ref q_ways, .ref q_now, .ref q_then])), (q_l, .inl (ca 0, 336, .inl v_l)), (q_stands, .inl (ca 0, 16, .inl v_stands)), (q_one, .inl (ca 0, 7, .inl v_one)), (q_two, .inl (ca 0, 7, .inl v_two)), (q_ways, .inl (ca 0, 49, .inl v_ways))] sz) := by
  refine Met.ofW (cc := cX9_summer) (maxL := 6) (ret := (some .int)) (by decide +kernel) rfl ?_
  intro p e s m args below meth c s₁ B hml hv
  obtain ⟨rfl, hsz, hP, hK, hD0⟩ := hv
  have hx := B.exec
  have hb := B.bytes
  have hr := B.returns
  have hts := atoms_spec (ws := wsX9_summer) B.pre
  have hown : s.vm.findClass RX9 = some m.cls := findClass_of_methodNamed B.named
  have hlocks := B.notSynchronized
  clear B
  subst hsz
  have hD := hD0.self (sz := s.heap.size)
  generalize hAe : va_A [(q_this, .inr (8, [.ref q_text, .int v_size, .int v_at, .ref q_read, .ref q_l, .ref q_stands, .ref q_kept, .int v_keptMany, .ref q_one, .ref q_two, .ref q_ways, .ref q_now, .ref q_then])), (q_l, .inl (ca 0, 336, .inl v_l)), (q_stands, .inl (ca 0, 16, .inl v_stands)), (q_one, .inl (ca 0, 7, .inl v_one)), (q_two, .inl (ca 0, 7, .inl v_two)), (q_ways, .inl (ca 0, 49, .inl v_ways))] s.heap.size = A at hD ⊢
  have hA : ∀ q : Nat, s.heap.size ≤ q → A q := fun q h => by rw [← hAe]; exact Or.inr h
  have hS : va_S A s.heap s.heap [] := va_S.rf
  have hl := lv_entry ([.ref q_this, .int p1, .int p2]) (n := 6) (Nat.le_of_ble_eq_true rfl)
  rw [lg_entry_eq]
  generalize (lg_sl ([.ref q_this, .int p1, .int p2]) ++ List.replicate (6 - (lg_sl ([.ref q_this, .int p1, .int p2])).length) Slot.unset).toArray = ls at hl ⊢
  have hl : lv_has ls 6 [(0, .ref q_this), (1, .int p1), (2, .int p2)] := hl
  generalize ([.ref q_this, .int p1, .int p2] : List Value).toArray = args at hts ⊢
  generalize hQe : MQ below (kQi D ca (A) [(q_this, .inr (8, [.ref q_text, .int v_size, .int v_at, .ref q_read, .ref q_l, .ref q_stands, .ref q_kept, .int v_keptMany, .ref q_one, .ref q_two, .ref q_ways, .ref q_now, .ref q_then])), (q_l, .inl (ca 0, 336, .inl v_l)), (q_stands, .inl (ca 0, 16, .inl o_stands)), (q_one, .inl (ca 0, 7, .inl o_one)), (q_two, .inl (ca 0, 7, .inl o_two)), (q_ways, .inl (ca 0, 49, .inl o_ways))] r) args s 0 0 A = Q
  have k_217 := hts (.constantLong RX9 217 (lN 9999)) (by decide +kernel)
  have k_219 := hts (.constantLong RX9 219 (lN 99)) (by decide +kernel)
  rw [D_X9_summer] at h
  refine lv_iload_n hx hb dX9_summer_0 rfl (lv_at hl 1 rfl) ?_
  refine lv_i2l hx hb dX9_summer_1 rfl ?_
  refine lv_lconst (v := (lN 0)) hx hb dX9_summer_2 (by decide) ?_
  refine lv_ldc2 hx hb hown k_217 dX9_summer_3 ?_
  obtain ⟨r_1, hg_2, h⟩ := bd1_el h
  refine kx_Si (As := [.long p1.toInt64, .long (lN 0), .long (lN 9999)]) (rest := []) (wr := [(q_this, .inr (8, [.ref q_text, .int v_size, .int v_at, .ref q_read, .ref q_l, .ref q_stands, .ref q_kept, .int v_keptMany, .ref q_one, .ref q_two, .ref q_ways, .ref q_now, .ref q_then])), (q_l, .inl (ca 0, 336, .inl v_l)), (q_stands, .inl (ca 0, 16, .inl v_stands)), (q_one, .inl (ca 0, 7, .inl v_one)), (q_two, .inl (ca 0, 7, .inl v_two)), (q_ways, .inl (ca 0, 49, .inl v_ways))]) (w1 := []) (wn := [(q_this, .inr (8, [.ref q_text, .int v_size, .int v_at, .ref q_read, .ref q_l, .ref q_stands, .ref q_kept, .int v_keptMany, .ref q_one, .ref q_two, .ref q_ways, .ref q_now, .ref q_then])), (q_l, .inl (ca 0, 336, .inl v_l)), (q_stands, .inl (ca 0, 16, .inl v_stands)), (q_one, .inl (ca 0, 7, .inl v_one)), (q_two, .inl (ca 0, 7, .inl v_two)), (q_ways, .inl (ca 0, 49, .inl v_ways))]) ⟨hx, hb, hml, hown, hts⟩ (c_X9_in l D ca s.heap.size p1.toInt64 (lN 0) (lN 9999) r_1 hg_2) (va_cwS 3 hts gX9_summer_X9_in rfl rfl rfl (by decide +kernel) ⟨(Nat.le_of_ble_eq_true rfl), (Nat.le_of_ble_eq_true rfl)⟩) hK hP hD hS hA [] [0, 1, 2, 3, 4, 5] [0, 1, 2, 3, 4, 5] rfl rfl rfl rfl (by decide) rfl rfl rfl hl.1 rfl (Nat.le_of_ble_eq_true rfl) dX9_summer_6 ⟨Nat.zero_le _, Nat.zero_le _⟩ (fun H locs hP hD hS => ?_)
  refine lv_if_eq (tgt := 24) hx hb dX9_summer_9 (by decide) (fun c_3 => ?_) (fun c_3 => ?_)
  · replace h := ifp_el c_3 h
    refine lv_iconst (v := (-1 : Int32)) hx hb dX9_summer_24 (by decide) ?_
    cases h
    rw [← hQe]
    exact W.iret hx hb hr (fun t ht hW => ⟨⟨_, (), rfl, rfl, by rw [ht]; exact hP, va_K.moved hW.alike hK, hD⟩, hS.F ht⟩) hS.2.2 dX9_summer_25
  · replace h := ifn_el c_3 h
    refine lv_iload_n hx hb dX9_summer_12 rfl (lv_at hl 2 rfl) ?_
    refine lv_i2l hx hb dX9_summer_13 rfl ?_
    refine lv_lconst (v := (lN 1)) hx hb dX9_summer_14 (by decide) ?_
    refine lv_ldc2 hx hb hown k_219 dX9_summer_15 ?_
    obtain ⟨r_4, hg_5, h⟩ := bd1_el h
    refine kx_Si (As := [.long p2.toInt64, .long (lN 1), .long (lN 99)]) (rest := []) (wr := [(q_this, .inr (8, [.ref q_text, .int v_size, .int v_at, .ref q_read, .ref q_l, .ref q_stands, .ref q_kept, .int v_keptMany, .ref q_one, .ref q_two, .ref q_ways, .ref q_now, .ref q_then])), (q_l, .inl (ca 0, 336, .inl v_l)), (q_stands, .inl (ca 0, 16, .inl v_stands)), (q_one, .inl (ca 0, 7, .inl v_one)), (q_two, .inl (ca 0, 7, .inl v_two)), (q_ways, .inl (ca 0, 49, .inl v_ways))]) (w1 := []) (wn := [(q_this, .inr (8, [.ref q_text, .int v_size, .int v_at, .ref q_read, .ref q_l, .ref q_stands, .ref q_kept, .int v_keptMany, .ref q_one, .ref q_two, .ref q_ways, .ref q_now, .ref q_then])), (q_l, .inl (ca 0, 336, .inl v_l)), (q_stands, .inl (ca 0, 16, .inl v_stands)), (q_one, .inl (ca 0, 7, .inl v_one)), (q_two, .inl (ca 0, 7, .inl v_two)), (q_ways, .inl (ca 0, 49, .inl v_ways))]) ⟨hx, hb, hml, hown, hts⟩ (c_X9_in l D ca H.size p2.toInt64 (lN 1) (lN 99) r_4 hg_5) (va_cwS 3 hts gX9_summer_X9_in rfl rfl rfl (by decide +kernel) ⟨(Nat.le_of_ble_eq_true rfl), (Nat.le_of_ble_eq_true rfl)⟩) hK hP hD hS hA [] [0, 1, 2, 3, 4, 5] [0, 1, 2, 3, 4, 5] rfl rfl rfl rfl (by decide) rfl rfl rfl hl.1 rfl (Nat.le_of_ble_eq_true rfl) dX9_summer_18 ⟨Nat.zero_le _, Nat.zero_le _⟩ (fun H locs hP hD hS => ?_)
    refine lv_if_ne (tgt := 26) hx hb dX9_summer_21 (by decide) (fun c_6 => ?_) (fun c_6 => ?_)
    · replace h := ifn_el c_6 h
      refine lv_iconst (v := (nI 0)) hx hb dX9_summer_26 (by decide) ?_
      refine lv_istore_n (lv' := [(3, .int (nI 0)), (0, .ref q_this), (1, .int p1), (2, .int p2)]) hx hb dX9_summer_27 rfl hl (by decide) rfl (fun ls hl => ?_)
      obtain ⟨o_12, o_13, o_14, o_15, hL, h⟩ := bd4_el h
      have hex : ∀ (H : Heap) (locs : List Loc) (ls : Array Slot), va_P D vwCl [(q_this, .inr (8, [.ref q_text, .int v_size, .int v_at, .ref q_read, .ref q_l, .ref q_stands, .ref q_kept, .int v_keptMany, .ref q_one, .ref q_two, .ref q_ways, .ref q_now, .ref q_then])), (q_l, .inl (ca 0, 336, .inl v_l)), (q_stands, .inl (ca 0, 16, .inl o_12)), (q_one, .inl (ca 0, 7, .inl o_13)), (q_two, .inl (ca 0, 7, .inl o_14)), (q_ways, .inl (ca 0, 49, .inl o_15))] H → va_D A [(q_this, .inr (8, [.ref q_text, .int v_size, .int v_at, .ref q_read, .ref q_l, .ref q_stands, .ref q_kept, .int v_keptMany, .ref q_one, .ref q_two, .ref q_ways, .ref q_now, .ref q_then])), (q_l, .inl (ca 0, 336, .inl v_l)), (q_stands, .inl (ca 0, 16, .inl o_12)), (q_one, .inl (ca 0, 7, .inl o_13)), (q_two, .inl (ca 0, 7, .inl o_14)), (q_ways, .inl (ca 0, 49, .inl o_15))] → va_S A s.heap H locs → lv_has ls 6 [(0, .ref q_this)] → W p l e (headSpec wsX9_summer rm_X9_summer).room s m args below meth c H locs 0 0 Q (F0 m 91 ls []) := by
        intro H locs ls hP hD hS hl
        refine lv_aload_n hx hb dX9_summer_91 rfl (lv_at hl 0 rfl) ?_
        refine lv_iconst (v := (nI 0)) hx hb dX9_summer_92 (by decide) ?_
        obtain ⟨r_44, y_one_45, y_two_46, y_ways_47, hg_48, h⟩ := bd4_el h
        refine kx_Vi (As := [.int (nI 0)]) (rest := []) (wr := []) (w1 := [(q_this, .inr (8, [.ref q_text, .int v_size, .int v_at, .ref q_read, .ref q_l, .ref q_stands, .ref q_kept, .int v_keptMany, .ref q_one, .ref q_two, .ref q_ways, .ref q_now, .ref q_then])), (q_l, .inl (ca 0, 336, .inl v_l)), (q_stands, .inl (ca 0, 16, .inl o_12)), (q_one, .inl (ca 0, 7, .inl y_one_45)), (q_two, .inl (ca 0, 7, .inl y_two_46)), (q_ways, .inl (ca 0, 49, .inl y_ways_47))]) (wn := [(q_this, .inr (8, [.ref q_text, .int v_size, .int v_at, .ref q_read, .ref q_l, .ref q_stands, .ref q_kept, .int v_keptMany, .ref q_one, .ref q_two, .ref q_ways, .ref q_now, .ref q_then])), (q_l, .inl (ca 0, 336, .inl v_l)), (q_stands, .inl (ca 0, 16, .inl o_12)), (q_one, .inl (ca 0, 7, .inl y_one_45)), (q_two, .inl (ca 0, 7, .inl y_two_46)), (q_ways, .inl (ca 0, 49, .inl y_ways_47))]) ⟨hx, hb, hml, hown, hts⟩ (c_X9_tongueBy l D ca F H.size q_this q_text q_read q_l q_stands q_kept q_one q_two q_ways q_now q_then (nI 0) v_size v_at v_keptMany v_l o_12 o_13 o_14 o_15 r_44 y_one_45 y_two_46 y_ways_47 hg_48) (cwV 1 hts gX9_summer_X9_tongueBy rfl rfl rfl (by decide +kernel) ⟨(Nat.le_of_ble_eq_true rfl), (Nat.le_of_ble_eq_true rfl)⟩) hK hP hD hS hA (ci := 8) (q0 := 0) rfl rfl [0, 1, 2, 3, 4, 5] [] [0, 1, 2, 3, 4, 5] rfl rfl rfl rfl (by decide) rfl rfl rfl hl.1 rfl (Nat.le_of_ble_eq_true rfl) dX9_summer_93 ⟨Nat.zero_le _, Nat.zero_le _⟩ (fun H locs hP hD hS => ?_)
        refine lv_aload_n hx hb dX9_summer_96 rfl (lv_at hl 0 rfl) ?_
        refine lv_iconst (v := (nI 1)) hx hb dX9_summer_97 (by decide) ?_
        obtain ⟨r_49, y_one_50, y_two_51, y_ways_52, hg_53, h⟩ := bd4_el h
        refine kx_Vi (As := [.int (nI 1)]) (rest := [.int r_44]) (wr := []) (w1 := [(q_this, .inr (8, [.ref q_text, .int v_size, .int v_at, .ref q_read, .ref q_l, .ref q_stands, .ref q_kept, .int v_keptMany, .ref q_one, .ref q_two, .ref q_ways, .ref q_now, .ref q_then])), (q_l, .inl (ca 0, 336, .inl v_l)), (q_stands, .inl (ca 0, 16, .inl o_12)), (q_one, .inl (ca 0, 7, .inl y_one_50)), (q_two, .inl (ca 0, 7, .inl y_two_51)), (q_ways, .inl (ca 0, 49, .inl y_ways_52))]) (wn := [(q_this, .inr (8, [.ref q_text, .int v_size, .int v_at, .ref q_read, .ref q_l, .ref q_stands, .ref q_kept, .int v_keptMany, .ref q_one, .ref q_two, .ref q_ways, .ref q_now, .ref q_then])), (q_l, .inl (ca 0, 336, .inl v_l)), (q_stands, .inl (ca 0, 16, .inl o_12)), (q_one, .inl (ca 0, 7, .inl y_one_50)), (q_two, .inl (ca 0, 7, .inl y_two_51)), (q_ways, .inl (ca 0, 49, .inl y_ways_52))]) ⟨hx, hb, hml, hown, hts⟩ (c_X9_tongueBy l D ca F H.size q_this q_text q_read q_l q_stands q_kept q_one q_two q_ways q_now q_then (nI 1) v_size v_at v_keptMany v_l o_12 y_one_45 y_two_46 y_ways_47 r_49 y_one_50 y_two_51 y_ways_52 hg_53) (cwV 1 hts gX9_summer_X9_tongueBy rfl rfl rfl (by decide +kernel) ⟨(Nat.le_of_ble_eq_true rfl), (Nat.le_of_ble_eq_true rfl)⟩) hK hP hD hS hA (ci := 8) (q0 := 0) rfl rfl [0, 1, 2, 3, 4, 5] [] [0, 1, 2, 3, 4, 5] rfl rfl rfl rfl (by decide) rfl rfl rfl hl.1 rfl (Nat.le_of_ble_eq_true rfl) dX9_summer_98 ⟨Nat.zero_le _, Nat.zero_le _⟩ (fun H locs hP hD hS => ?_)
        refine lv_ior hx hb dX9_summer_101 ?_
        obtain ⟨r_54, hg_55, h⟩ := bd1_el h
        refine kx_Si (As := [.int (r_44 ||| r_49)]) (rest := []) (wr := [(q_this, .inr (8, [.ref q_text, .int v_size, .int v_at, .ref q_read, .ref q_l, .ref q_stands, .ref q_kept, .int v_keptMany, .ref q_one, .ref q_two, .ref q_ways, .ref q_now, .ref q_then])), (q_l, .inl (ca 0, 336, .inl v_l)), (q_stands, .inl (ca 0, 16, .inl o_12)), (q_one, .inl (ca 0, 7, .inl y_one_50)), (q_two, .inl (ca 0, 7, .inl y_two_51)), (q_ways, .inl (ca 0, 49, .inl y_ways_52))]) (w1 := []) (wn := [(q_this, .inr (8, [.ref q_text, .int v_size, .int v_at, .ref q_read, .ref q_l, .ref q_stands, .ref q_kept, .int v_keptMany, .ref q_one, .ref q_two, .ref q_ways, .ref q_now, .ref q_then])), (q_l, .inl (ca 0, 336, .inl v_l)), (q_stands, .inl (ca 0, 16, .inl o_12)), (q_one, .inl (ca 0, 7, .inl y_one_50)), (q_two, .inl (ca 0, 7, .inl y_two_51)), (q_ways, .inl (ca 0, 49, .inl y_ways_52))]) ⟨hx, hb, hml, hown, hts⟩ (c_X9_ones l D ca F H.size (r_44 ||| r_49) r_54 hg_55) (va_cwS 1 hts gX9_summer_X9_ones rfl rfl rfl (by decide +kernel) ⟨(Nat.le_of_ble_eq_true rfl), (Nat.le_of_ble_eq_true rfl)⟩) hK hP hD hS hA [] [0, 1, 2, 3, 4, 5] [0, 1, 2, 3, 4, 5] rfl rfl rfl rfl (by decide) rfl rfl rfl hl.1 rfl (Nat.le_of_ble_eq_true rfl) dX9_summer_102 ⟨Nat.zero_le _, Nat.zero_le _⟩ (fun H locs hP hD hS => ?_)
        cases h
        rw [← hQe]
        exact W.iret hx hb hr (fun t ht hW => ⟨⟨_, (), rfl, rfl, by rw [ht]; exact hP, va_K.moved hW.alike hK, hD⟩, hS.F ht⟩) hS.2.2 dX9_summer_105
      have hlp : ∀ (n : Nat) (x3_7 : Int32) (y_stands_8 : Nat → Int32) (y_one_9 : Nat → Int32) (y_two_10 : Nat → Int32) (y_ways_11 : Nat → Int32) (o_12 : Nat → Int32) (o_13 : Nat → Int32) (o_14 : Nat → Int32) (o_15 : Nat → Int32) (H : Heap) (locs : List Loc) (ls : Array Slot), lpg (T := Int32 → (Nat → Int32) → (Nat → Int32) → (Nat → Int32) → (Nat → Int32) → Option ((Nat → Int32) × (Nat → Int32) × (Nat → Int32) × (Nat → Int32))) (fun _ _ _ _ _ => none) (b_X9_summer_28 p1 p2 v_l F) n x3_7 y_stands_8 y_one_9 y_two_10 y_ways_11 = some (o_12, o_13, o_14, o_15) → (∀ (H : Heap) (locs : List Loc) (ls : Array Slot), va_P D vwCl [(q_this, .inr (8, [.ref q_text, .int v_size, .int v_at, .ref q_read, .ref q_l, .ref q_stands, .ref q_kept, .int v_keptMany, .ref q_one, .ref q_two, .ref q_ways, .ref q_now, .ref q_then])), (q_l, .inl (ca 0, 336, .inl v_l)), (q_stands, .inl (ca 0, 16, .inl o_12)), (q_one, .inl (ca 0, 7, .inl o_13)), (q_two, .inl (ca 0, 7, .inl o_14)), (q_ways, .inl (ca 0, 49, .inl o_15))] H → va_D A [(q_this, .inr (8, [.ref q_text, .int v_size, .int v_at, .ref q_read, .ref q_l, .ref q_stands, .ref q_kept, .int v_keptMany, .ref q_one, .ref q_two, .ref q_ways, .ref q_now, .ref q_then])), (q_l, .inl (ca 0, 336, .inl v_l)), (q_stands, .inl (ca 0, 16, .inl o_12)), (q_one, .inl (ca 0, 7, .inl o_13)), (q_two, .inl (ca 0, 7, .inl o_14)), (q_ways, .inl (ca 0, 49, .inl o_15))] → va_S A s.heap H locs → lv_has ls 6 [(0, .ref q_this)] → W p l e (headSpec wsX9_summer rm_X9_summer).room s m args below meth c H locs 0 0 Q (F0 m 91 ls [])) → va_P D vwCl [(q_this, .inr (8, [.ref q_text, .int v_size, .int v_at, .ref q_read, .ref q_l, .ref q_stands, .ref q_kept, .int v_keptMany, .ref q_one, .ref q_two, .ref q_ways, .ref q_now, .ref q_then])), (q_l, .inl (ca 0, 336, .inl v_l)), (q_stands, .inl (ca 0, 16, .inl y_stands_8)), (q_one, .inl (ca 0, 7, .inl y_one_9)), (q_two, .inl (ca 0, 7, .inl y_two_10)), (q_ways, .inl (ca 0, 49, .inl y_ways_11))] H → va_D A [(q_this, .inr (8, [.ref q_text, .int v_size, .int v_at, .ref q_read, .ref q_l, .ref q_stands, .ref q_kept, .int v_keptMany, .ref q_one, .ref q_two, .ref q_ways, .ref q_now, .ref q_then])), (q_l, .inl (ca 0, 336, .inl v_l)), (q_stands, .inl (ca 0, 16, .inl y_stands_8)), (q_one, .inl (ca 0, 7, .inl y_one_9)), (q_two, .inl (ca 0, 7, .inl y_two_10)), (q_ways, .inl (ca 0, 49, .inl y_ways_11))] → va_S A s.heap H locs → lv_has ls 6 [(0, .ref q_this), (1, .int p1), (2, .int p2), (3, .int x3_7)] → W p l e (headSpec wsX9_summer rm_X9_summer).room s m args below meth c H locs 0 0 Q (F0 m 28 ls []) := by
        intro n
        induction n with
        | zero => intro x3_7 y_stands_8 y_one_9 y_two_10 y_ways_11 o_12 o_13 o_14 o_15 H locs ls h; have h : (none : Option ((Nat → Int32) × (Nat → Int32) × (Nat → Int32) × (Nat → Int32))) = some _ := h; cases h
        | succ n ih =>
          intro x3_7 y_stands_8 y_one_9 y_two_10 y_ways_11 o_12 o_13 o_14 o_15 H locs ls h hex hP hD hS hl
          rw [lpg_succ, b_X9_summer_28] at h
          refine lv_iload_n hx hb dX9_summer_28 rfl (lv_at hl 3 rfl) ?_
          refine lv_bipush (v := (nI 8)) hx hb dX9_summer_29 (by decide) ?_
          refine lv_icmp_ge (tgt := 91) hx hb dX9_summer_31 (by decide) (fun c_16 => ?_) (fun c_16 => ?_)
          · replace h := ifp_el c_16 h
            cases h
            exact hex _ _ _ hP hD hS (lv_sub hl [0] rfl)
          · replace h := ifn_el c_16 h
            refine lv_aload_n hx hb dX9_summer_34 rfl (lv_at hl 0 rfl) ?_
            refine lv_iload_n hx hb dX9_summer_35 rfl (lv_at hl 3 rfl) ?_
            obtain ⟨r_17, hg_18, h⟩ := bd1_el h
            refine kx_Vi (As := [.int x3_7]) (rest := []) (wr := [(q_stands, .inl (ca 0, 16, .inl y_stands_8)), (q_one, .inl (ca 0, 7, .inl y_one_9)), (q_two, .inl (ca 0, 7, .inl y_two_10)), (q_ways, .inl (ca 0, 49, .inl y_ways_11))]) (w1 := [(q_this, .inr (8, [.ref q_text, .int v_size, .int v_at, .ref q_read, .ref q_l, .ref q_stands, .ref q_kept, .int v_keptMany, .ref q_one, .ref q_two, .ref q_ways, .ref q_now, .ref q_then])), (q_l, .inl (ca 0, 336, .inl v_l))]) (wn := [(q_this, .inr (8, [.ref q_text, .int v_size, .int v_at, .ref q_read, .ref q_l, .ref q_stands, .ref q_kept, .int v_keptMany, .ref q_one, .ref q_two, .ref q_ways, .ref q_now, .ref q_then])), (q_l, .inl (ca 0, 336, .inl v_l)), (q_stands, .inl (ca 0, 16, .inl y_stands_8)), (q_one, .inl (ca 0, 7, .inl y_one_9)), (q_two, .inl (ca 0, 7, .inl y_two_10)), (q_ways, .inl (ca 0, 49, .inl y_ways_11))]) ⟨hx, hb, hml, hown, hts⟩ (c_X9_isTold l D ca H.size q_this q_text q_read q_l q_stands q_kept q_one q_two q_ways q_now q_then x3_7 v_size v_at v_keptMany v_l r_17 hg_18) (cwV 1 hts gX9_summer_X9_isTold rfl rfl rfl (by decide +kernel) ⟨(Nat.le_of_ble_eq_true rfl), (Nat.le_of_ble_eq_true rfl)⟩) hK hP hD hS hA (ci := 8) (q0 := 0) rfl rfl [0, 1] [2, 3, 4, 5] [4, 5, 0, 1, 2, 3] rfl rfl rfl rfl (by decide) rfl rfl rfl hl.1 rfl (Nat.le_of_ble_eq_true rfl) dX9_summer_36 ⟨Nat.zero_le _, Nat.zero_le _⟩ (fun H locs hP hD hS => ?_)
            have hj_55 : ∀ (z0_19 : Int32) (y_one_20 : Nat → Int32) (y_two_21 : Nat → Int32) (y_ways_22 : Nat → Int32) (H : Heap) (locs : List Loc) (ls : Array Slot), j_X9_summer_55 p1 p2 v_l F x3_7 y_stands_8 (lpg (T := Int32 → (Nat → Int32) → (Nat → Int32) → (Nat → Int32) → (Nat → Int32) → Option ((Nat → Int32) × (Nat → Int32) × (Nat → Int32) × (Nat → Int32))) (fun _ _ _ _ _ => none) (b_X9_summer_28 p1 p2 v_l F) n) z0_19 y_one_20 y_two_21 y_ways_22 = some (o_12, o_13, o_14, o_15) → va_P D vwCl [(q_this, .inr (8, [.ref q_text, .int v_size, .int v_at, .ref q_read, .ref q_l, .ref q_stands, .ref q_kept, .int v_keptMany, .ref q_one, .ref q_two, .ref q_ways, .ref q_now, .ref q_then])), (q_l, .inl (ca 0, 336, .inl v_l)), (q_stands, .inl (ca 0, 16, .inl y_stands_8)), (q_one, .inl (ca 0, 7, .inl y_one_20)), (q_two, .inl (ca 0, 7, .inl y_two_21)), (q_ways, .inl (ca 0, 49, .inl y_ways_22))] H → va_D A [(q_this, .inr (8, [.ref q_text, .int v_size, .int v_at, .ref q_read, .ref q_l, .ref q_stands, .ref q_kept, .int v_keptMany, .ref q_one, .ref q_two, .ref q_ways, .ref q_now, .ref q_then])), (q_l, .inl (ca 0, 336, .inl v_l)), (q_stands, .inl (ca 0, 16, .inl y_stands_8)), (q_one, .inl (ca 0, 7, .inl y_one_20)), (q_two, .inl (ca 0, 7, .inl y_two_21)), (q_ways, .inl (ca 0, 49, .inl y_ways_22))] → va_S A s.heap H locs → lv_has ls 6 [(0, .ref q_this), (1, .int p1), (2, .int p2), (3, .int x3_7)] → W p l e (headSpec wsX9_summer rm_X9_summer).room s m args below meth c H locs 0 0 Q (F0 m 55 ls [.int z0_19]) := by
              intro z0_19 y_one_20 y_two_21 y_ways_22 H locs ls h hP hD hS hl
              rw [j_X9_summer_55] at h
              refine lv_istore (lv' := [(4, .int z0_19), (0, .ref q_this), (1, .int p1), (2, .int p2), (3, .int x3_7)]) hx hb dX9_summer_55 hl (by decide) rfl (fun ls hl => ?_)
              refine lv_iconst (v := (nI 0)) hx hb dX9_summer_57 (by decide) ?_
              refine lv_istore (lv' := [(5, .int (nI 0)), (4, .int z0_19), (0, .ref q_this), (1, .int p1), (2, .int p2), (3, .int x3_7)]) hx hb dX9_summer_58 hl (by decide) rfl (fun ls hl => ?_)
              obtain ⟨o_25, hL, h⟩ := bd1_el h
              have hex : ∀ (H : Heap) (locs : List Loc) (ls : Array Slot), va_P D vwCl [(q_this, .inr (8, [.ref q_text, .int v_size, .int v_at, .ref q_read, .ref q_l, .ref q_stands, .ref q_kept, .int v_keptMany, .ref q_one, .ref q_two, .ref q_ways, .ref q_now, .ref q_then])), (q_l, .inl (ca 0, 336, .inl v_l)), (q_stands, .inl (ca 0, 16, .inl o_25)), (q_one, .inl (ca 0, 7, .inl y_one_20)), (q_two, .inl (ca 0, 7, .inl y_two_21)), (q_ways, .inl (ca 0, 49, .inl y_ways_22))] H → va_D A [(q_this, .inr (8, [.ref q_text, .int v_size, .int v_at, .ref q_read, .ref q_l, .ref q_stands, .ref q_kept, .int v_keptMany, .ref q_one, .ref q_two, .ref q_ways, .ref q_now, .ref q_then])), (q_l, .inl (ca 0, 336, .inl v_l)), (q_stands, .inl (ca 0, 16, .inl o_25)), (q_one, .inl (ca 0, 7, .inl y_one_20)), (q_two, .inl (ca 0, 7, .inl y_two_21)), (q_ways, .inl (ca 0, 49, .inl y_ways_22))] → va_S A s.heap H locs → lv_has ls 6 [(0, .ref q_this), (1, .int p1), (2, .int p2), (3, .int x3_7)] → W p l e (headSpec wsX9_summer rm_X9_summer).room s m args below meth c H locs 0 0 Q (F0 m 85 ls []) := by
                intro H locs ls hP hD hS hl
                obtain ⟨x3_32, e_33, h⟩ := nm_el h
                refine lv_iinc (v := x3_32) (lv' := [(3, .int x3_32), (0, .ref q_this), (1, .int p1), (2, .int p2)]) hx hb dX9_summer_85 hl (k := 3) rfl (by rw [← e_33]; rfl) (by decide) rfl (fun ls hl => ?_)
                refine lv_goto (tgt := 28) hx hb dX9_summer_88 (by decide) ?_
                exact ih _ _ _ _ _ _ _ _ _ _ _ _ h hex hP hD hS (lv_sub hl [1, 2, 3, 0] rfl)
              have hlp : ∀ (n : Nat) (x5_23 : Int32) (y_stands_24 : Nat → Int32) (o_25 : Nat → Int32) (H : Heap) (locs : List Loc) (ls : Array Slot), lpg (T := Int32 → (Nat → Int32) → Option ((Nat → Int32))) (fun _ _ => none) (b_X9_summer_60 p1 p2 v_l x3_7 z0_19) n x5_23 y_stands_24 = some (o_25) → (∀ (H : Heap) (locs : List Loc) (ls : Array Slot), va_P D vwCl [(q_this, .inr (8, [.ref q_text, .int v_size, .int v_at, .ref q_read, .ref q_l, .ref q_stands, .ref q_kept, .int v_keptMany, .ref q_one, .ref q_two, .ref q_ways, .ref q_now, .ref q_then])), (q_l, .inl (ca 0, 336, .inl v_l)), (q_stands, .inl (ca 0, 16, .inl o_25)), (q_one, .inl (ca 0, 7, .inl y_one_20)), (q_two, .inl (ca 0, 7, .inl y_two_21)), (q_ways, .inl (ca 0, 49, .inl y_ways_22))] H → va_D A [(q_this, .inr (8, [.ref q_text, .int v_size, .int v_at, .ref q_read, .ref q_l, .ref q_stands, .ref q_kept, .int v_keptMany, .ref q_one, .ref q_two, .ref q_ways, .ref q_now, .ref q_then])), (q_l, .inl (ca 0, 336, .inl v_l)), (q_stands, .inl (ca 0, 16, .inl o_25)), (q_one, .inl (ca 0, 7, .inl y_one_20)), (q_two, .inl (ca 0, 7, .inl y_two_21)), (q_ways, .inl (ca 0, 49, .inl y_ways_22))] → va_S A s.heap H locs → lv_has ls 6 [(0, .ref q_this), (1, .int p1), (2, .int p2), (3, .int x3_7)] → W p l e (headSpec wsX9_summer rm_X9_summer).room s m args below meth c H locs 0 0 Q (F0 m 85 ls [])) → va_P D vwCl [(q_this, .inr (8, [.ref q_text, .int v_size, .int v_at, .ref q_read, .ref q_l, .ref q_stands, .ref q_kept, .int v_keptMany, .ref q_one, .ref q_two, .ref q_ways, .ref q_now, .ref q_then])), (q_l, .inl (ca 0, 336, .inl v_l)), (q_stands, .inl (ca 0, 16, .inl y_stands_24)), (q_one, .inl (ca 0, 7, .inl y_one_20)), (q_two, .inl (ca 0, 7, .inl y_two_21)), (q_ways, .inl (ca 0, 49, .inl y_ways_22))] H → va_D A [(q_this, .inr (8, [.ref q_text, .int v_size, .int v_at, .ref q_read, .ref q_l, .ref q_stands, .ref q_kept, .int v_keptMany, .ref q_one, .ref q_two, .ref q_ways, .ref q_now, .ref q_then])), (q_l, .inl (ca 0, 336, .inl v_l)), (q_stands, .inl (ca 0, 16, .inl y_stands_24)), (q_one, .inl (ca 0, 7, .inl y_one_20)), (q_two, .inl (ca 0, 7, .inl y_two_21)), (q_ways, .inl (ca 0, 49, .inl y_ways_22))] → va_S A s.heap H locs → lv_has ls 6 [(0, .ref q_this), (1, .int p1), (2, .int p2), (3, .int x3_7), (4, .int z0_19), (5, .int x5_23)] → W p l e (headSpec wsX9_summer rm_X9_summer).room s m args below meth c H locs 0 0 Q (F0 m 60 ls []) := by
                intro n
                induction n with
                | zero => intro x5_23 y_stands_24 o_25 H locs ls h; have h : (none : Option ((Nat → Int32))) = some _ := h; cases h
                | succ n ih =>
                  intro x5_23 y_stands_24 o_25 H locs ls h hex hP hD hS hl
                  rw [lpg_succ, b_X9_summer_60] at h
                  refine lv_iload hx hb dX9_summer_60 (lv_at hl 5 rfl) ?_
                  refine lv_iload_n hx hb dX9_summer_62 rfl (lv_at hl 2 rfl) ?_
                  refine lv_icmp_ge (tgt := 85) hx hb dX9_summer_63 (by decide) (fun c_26 => ?_) (fun c_26 => ?_)
                  · replace h := ifp_el c_26 h
                    cases h
                    exact hex _ _ _ hP hD hS (lv_sub hl [0, 1, 2, 3] rfl)
                  · replace h := ifn_el c_26 h
                    refine lv_iload hx hb dX9_summer_66 (lv_at hl 4 rfl) ?_
                    refine lv_if_eq (tgt := 85) hx hb dX9_summer_68 (by decide) (fun c_27 => ?_) (fun c_27 => ?_)
                    · replace h := ifp_el c_27 h
                      cases h
                      exact hex _ _ _ hP hD hS (lv_sub hl [0, 1, 2, 3] rfl)
                    · replace h := ifn_el c_27 h
                      refine lv_aload_n hx hb dX9_summer_71 rfl (lv_at hl 0 rfl) ?_
                      refine lv_iload_n hx hb dX9_summer_72 rfl (lv_at hl 1 rfl) ?_
                      refine lv_iload_n hx hb dX9_summer_73 rfl (lv_at hl 3 rfl) ?_
                      refine lv_iload hx hb dX9_summer_74 (lv_at hl 5 rfl) ?_
                      obtain ⟨y_stands_28, hg_29, h⟩ := bd1_el h
                      refine kx_Vv (As := [.int p1, .int x3_7, .int x5_23]) (rest := []) (wr := [(q_one, .inl (ca 0, 7, .inl y_one_20)), (q_two, .inl (ca 0, 7, .inl y_two_21)), (q_ways, .inl (ca 0, 49, .inl y_ways_22))]) (w1 := [(q_this, .inr (8, [.ref q_text, .int v_size, .int v_at, .ref q_read, .ref q_l, .ref q_stands, .ref q_kept, .int v_keptMany, .ref q_one, .ref q_two, .ref q_ways, .ref q_now, .ref q_then])), (q_l, .inl (ca 0, 336, .inl v_l)), (q_stands, .inl (ca 0, 16, .inl y_stands_28))]) (wn := [(q_this, .inr (8, [.ref q_text, .int v_size, .int v_at, .ref q_read, .ref q_l, .ref q_stands, .ref q_kept, .int v_keptMany, .ref q_one, .ref q_two, .ref q_ways, .ref q_now, .ref q_then])), (q_l, .inl (ca 0, 336, .inl v_l)), (q_stands, .inl (ca 0, 16, .inl y_stands_28)), (q_one, .inl (ca 0, 7, .inl y_one_20)), (q_two, .inl (ca 0, 7, .inl y_two_21)), (q_ways, .inl (ca 0, 49, .inl y_ways_22))]) ⟨hx, hb, hml, hown, hts⟩ (c_X9_meetBy l D ca H.size q_this q_text q_read q_l q_stands q_kept q_one q_two q_ways q_now q_then p1 x3_7 x5_23 v_size v_at v_keptMany v_l y_stands_24 y_stands_28 hg_29) (cwV 3 hts gX9_summer_X9_meetBy rfl rfl rfl (by decide +kernel) ⟨(Nat.le_of_ble_eq_true rfl), (Nat.le_of_ble_eq_true rfl)⟩) hK hP hD hS hA (ci := 8) (q0 := 0) rfl rfl [0, 1, 2] [3, 4, 5] [3, 4, 5, 0, 1, 2] rfl rfl rfl rfl (by decide) rfl rfl rfl hl.1 rfl (Nat.le_of_ble_eq_true rfl) dX9_summer_76 ⟨Nat.zero_le _, Nat.zero_le _⟩ (fun H locs hP hD hS => ?_)
                      obtain ⟨x5_30, e_31, h⟩ := nm_el h
                      refine lv_iinc (v := x5_30) (lv' := [(5, .int x5_30), (0, .ref q_this), (1, .int p1), (2, .int p2), (3, .int x3_7), (4, .int z0_19)]) hx hb dX9_summer_79 hl (k := 5) rfl (by rw [← e_31]; rfl) (by decide) rfl (fun ls hl => ?_)
                      refine lv_goto (tgt := 60) hx hb dX9_summer_82 (by decide) ?_
                      exact ih _ _ _ _ _ _ h hex hP hD hS (lv_sub hl [1, 2, 3, 4, 5, 0] rfl)
              exact hlp F (nI 0) y_stands_8 o_25 H locs ls hL hex hP hD hS (lv_sub hl [2, 3, 4, 5, 1, 0] rfl)
            have hj_54 : ∀ (y_one_34 : Nat → Int32) (y_two_35 : Nat → Int32) (y_ways_36 : Nat → Int32) (H : Heap) (locs : List Loc) (ls : Array Slot), j_X9_summer_54 p1 p2 v_l F x3_7 y_stands_8 (lpg (T := Int32 → (Nat → Int32) → (Nat → Int32) → (Nat → Int32) → (Nat → Int32) → Option ((Nat → Int32) × (Nat → Int32) × (Nat → Int32) × (Nat → Int32))) (fun _ _ _ _ _ => none) (b_X9_summer_28 p1 p2 v_l F) n) y_one_34 y_two_35 y_ways_36 = some (o_12, o_13, o_14, o_15) → va_P D vwCl [(q_this, .inr (8, [.ref q_text, .int v_size, .int v_at, .ref q_read, .ref q_l, .ref q_stands, .ref q_kept, .int v_keptMany, .ref q_one, .ref q_two, .ref q_ways, .ref q_now, .ref q_then])), (q_l, .inl (ca 0, 336, .inl v_l)), (q_stands, .inl (ca 0, 16, .inl y_stands_8)), (q_one, .inl (ca 0, 7, .inl y_one_34)), (q_two, .inl (ca 0, 7, .inl y_two_35)), (q_ways, .inl (ca 0, 49, .inl y_ways_36))] H → va_D A [(q_this, .inr (8, [.ref q_text, .int v_size, .int v_at, .ref q_read, .ref q_l, .ref q_stands, .ref q_kept, .int v_keptMany, .ref q_one, .ref q_two, .ref q_ways, .ref q_now, .ref q_then])), (q_l, .inl (ca 0, 336, .inl v_l)), (q_stands, .inl (ca 0, 16, .inl y_stands_8)), (q_one, .inl (ca 0, 7, .inl y_one_34)), (q_two, .inl (ca 0, 7, .inl y_two_35)), (q_ways, .inl (ca 0, 49, .inl y_ways_36))] → va_S A s.heap H locs → lv_has ls 6 [(0, .ref q_this), (1, .int p1), (2, .int p2), (3, .int x3_7)] → W p l e (headSpec wsX9_summer rm_X9_summer).room s m args below meth c H locs 0 0 Q (F0 m 54 ls []) := by
              intro y_one_34 y_two_35 y_ways_36 H locs ls h hP hD hS hl
              rw [j_X9_summer_54] at h
              refine lv_iconst (v := (nI 0)) hx hb dX9_summer_54 (by decide) ?_
              exact hj_55 _ _ _ _ _ _ _ h hP hD hS (lv_sub hl [0, 1, 2, 3] rfl)
            refine lv_if_eq (tgt := 54) hx hb dX9_summer_39 (by decide) (fun c_37 => ?_) (fun c_37 => ?_)
            · replace h := ifp_el c_37 h
              exact hj_54 _ _ _ _ _ _ h hP hD hS (lv_sub hl [0, 1, 2, 3] rfl)
            · replace h := ifn_el c_37 h
              refine lv_aload_n hx hb dX9_summer_42 rfl (lv_at hl 0 rfl) ?_
              refine lv_iload_n hx hb dX9_summer_43 rfl (lv_at hl 3 rfl) ?_
              obtain ⟨r_38, y_one_39, y_two_40, y_ways_41, hg_42, h⟩ := bd4_el h
              refine kx_Vi (As := [.int x3_7]) (rest := []) (wr := [(q_stands, .inl (ca 0, 16, .inl y_stands_8))]) (w1 := [(q_this, .inr (8, [.ref q_text, .int v_size, .int v_at, .ref q_read, .ref q_l, .ref q_stands, .ref q_kept, .int v_keptMany, .ref q_one, .ref q_two, .ref q_ways, .ref q_now, .ref q_then])), (q_l, .inl (ca 0, 336, .inl v_l)), (q_one, .inl (ca 0, 7, .inl y_one_39)), (q_two, .inl (ca 0, 7, .inl y_two_40)), (q_ways, .inl (ca 0, 49, .inl y_ways_41))]) (wn := [(q_this, .inr (8, [.ref q_text, .int v_size, .int v_at, .ref q_read, .ref q_l, .ref q_stands, .ref q_kept, .int v_keptMany, .ref q_one, .ref q_two, .ref q_ways, .ref q_now, .ref q_then])), (q_l, .inl (ca 0, 336, .inl v_l)), (q_stands, .inl (ca 0, 16, .inl y_stands_8)), (q_one, .inl (ca 0, 7, .inl y_one_39)), (q_two, .inl (ca 0, 7, .inl y_two_40)), (q_ways, .inl (ca 0, 49, .inl y_ways_41))]) ⟨hx, hb, hml, hown, hts⟩ (c_X9_isAlike l D ca F H.size q_this q_text q_read q_l q_stands q_kept q_one q_two q_ways q_now q_then x3_7 v_size v_at v_keptMany v_l y_one_9 y_two_10 y_ways_11 r_38 y_one_39 y_two_40 y_ways_41 hg_42) (cwV 1 hts gX9_summer_X9_isAlike rfl rfl rfl (by decide +kernel) ⟨(Nat.le_of_ble_eq_true rfl), (Nat.le_of_ble_eq_true rfl)⟩) hK hP hD hS hA (ci := 8) (q0 := 0) rfl rfl [0, 1, 3, 4, 5] [2] [1, 2, 0, 3, 4, 5] rfl rfl rfl rfl (by decide) rfl rfl rfl hl.1 rfl (Nat.le_of_ble_eq_true rfl) dX9_summer_44 ⟨Nat.zero_le _, Nat.zero_le _⟩ (fun H locs hP hD hS => ?_)
              refine lv_if_ne (tgt := 54) hx hb dX9_summer_47 (by decide) (fun c_43 => ?_) (fun c_43 => ?_)
              · replace h := ifn_el c_43 h
                exact hj_54 _ _ _ _ _ _ h hP hD hS (lv_sub hl [0, 1, 2, 3] rfl)
              · replace h := ifp_el c_43 h
                refine lv_iconst (v := (nI 1)) hx hb dX9_summer_50 (by decide) ?_
                refine lv_goto (tgt := 55) hx hb dX9_summer_51 (by decide) ?_
                exact hj_55 _ _ _ _ _ _ _ h hP hD hS (lv_sub hl [0, 1, 2, 3] rfl)
      exact hlp F (nI 0) v_stands v_one v_two v_ways o_12 o_13 o_14 o_15 H locs ls hL hex hP hD hS (lv_sub hl [1, 2, 3, 0] rfl)
    · replace h := ifp_el c_6 h
      refine lv_iconst (v := (-1 : Int32)) hx hb dX9_summer_24 (by decide) ?_
      cases h
      rw [← hQe]
      exact W.iret hx hb hr (fun t ht hW => ⟨⟨_, (), rfl, rfl, by rw [ht]; exact hP, va_K.moved hW.alike hK, hD⟩, hS.F ht⟩) hS.2.2 dX9_summer_25
def D_X9_tongue (F : Nat) (p1 : Int32) (v_l : Nat → Int32) (v_stands : Nat → Int32) (v_one : Nat → Int32) (v_two : Nat → Int32) (v_ways : Nat → Int32) : Option (Int32 × (Nat → Int32) × (Nat → Int32) × (Nat → Int32)) := bd1 (D_X9_in p1.toInt64 (lN 0) (lN 1)) (fun r_1 => (if r_1 = 0 then some ((-1 : Int32), v_one, v_two, v_ways) else bd4 (D_X9_tongueBy F p1 v_l v_stands v_one v_two v_ways) (fun r_4 y_one_5 y_two_6 y_ways_7 => some (r_4, y_one_5, y_two_6, y_ways_7))))
abbrev rm_X9_tongue : Room := { frames := 6, cells := 0, slots := 0, locals := 139 }
set_option maxHeartbeats 4000000 in
set_option maxRecDepth 100000 in
theorem c_X9_tongue (l : Launch) (D : va_G) (ca : Nat → ClassId) (F : Nat) (sz : Nat) (q_this q_text q_read q_l q_stands q_kept q_one q_two q_ways q_now q_then : Nat) (p1 : Int32) (v_size : Int32) (v_at : Int32) (v_keptMany : Int32) (v_l : Nat → Int32) (v_stands : Nat → Int32) (v_one : Nat → Int32) (v_two : Nat → Int32) (v_ways : Nat → Int32) (r : Int32) (o_one : Nat → Int32) (o_two : Nat → Int32) (o_ways : Nat → Int32) (h : D_X9_tongue F p1 v_l v_stands v_one v_two v_ways = some (r, o_one, o_two, o_ways)) : Met l yX9_tongue wsX9_tongue rm_X9_tongue (va_Pc [.ref q_this, .int p1] (kPre D ca [(q_this, .inr (8, [.ref q_text, .int v_size, .int v_at, .ref q_read, .ref q_l, .ref q_stands, .ref q_kept, .int v_keptMany, .ref q_one, .ref q_two, .ref q_ways, .ref q_now, .ref q_then])), (q_l, .inl (ca 0, 336, .inl v_l)), (q_stands, .inl (ca 0, 16, .inl v_stands)), (q_one, .inl (ca 0, 7, .inl v_one)), (q_two, .inl (ca 0, 7, .inl v_two)), (q_ways, .inl (ca 0, 49, .inl v_ways))] sz)) (kQi D ca (va_A [(q_this, .inr (8, [.ref q_text, .int v_size, .int v_at, .ref q_read, .ref q_l, .ref q_stands, .ref q_kept, .int v_keptMany, .ref q_one, .ref q_two, .ref q_ways, .ref q_now, .ref q_then])), (q_l, .inl (ca 0, 336, .inl v_l)), (q_stands, .inl (ca 0, 16, .inl v_stands)), (q_one, .inl (ca 0, 7, .inl v_one)), (q_two, .inl (ca 0, 7, .inl v_two)), (q_ways, .inl (ca 0, 49, .inl v_ways))] sz) [(q_this, .inr (8, [.ref q_text, .int v_size, .int v_at, .ref q_read, .ref q_l, .ref q_stands, .ref q_kept, .int v_keptMany, .ref q_one, .ref q_two, .ref q_ways, .ref q_now, .ref q_then])), (q_l, .inl (ca 0, 336, .inl v_l)), (q_stands, .inl (ca 0, 16, .inl v_stands)), (q_one, .inl (ca 0, 7, .inl o_one)), (q_two, .inl (ca 0, 7, .inl o_two)), (q_ways, .inl (ca 0, 49, .inl o_ways))] r) 0 0 (va_A [(q_this, .inr (8, [.ref q_text, .int v_size, .int v_at, .ref q_read, .ref q_l, .ref q_stands, .ref q_kept, .int v_keptMany, .ref q_one, .ref q_two, .ref q_ways, .ref q_now, .ref q_then])), (q_l, .inl (ca 0, 336, .inl v_l)), (q_stands, .inl (ca 0, 16, .inl v_stands)), (q_one, .inl (ca 0, 7, .inl v_one)), (q_two, .inl (ca 0, 7, .inl v_two)), (q_ways, .inl (ca 0, 49, .inl v_ways))] sz) := by
  refine Met.ofW (cc := cX9_tongue) (maxL := 2) (ret := (some .int)) (by decide +kernel) rfl ?_
  intro p e s m args below meth c s₁ B hml hv
  obtain ⟨rfl, hsz, hP, hK, hD0⟩ := hv
  have hx := B.exec
  have hb := B.bytes
  have hr := B.returns
  have hts := atoms_spec (ws := wsX9_tongue) B.pre
  have hown : s.vm.findClass RX9 = some m.cls := findClass_of_methodNamed B.named
  have hlocks := B.notSynchronized
  clear B
  subst hsz
  have hD := hD0.self (sz := s.heap.size)
  generalize hAe : va_A [(q_this, .inr (8, [.ref q_text, .int v_size, .int v_at, .ref q_read, .ref q_l, .ref q_stands, .ref q_kept, .int v_keptMany, .ref q_one, .ref q_two, .ref q_ways, .ref q_now, .ref q_then])), (q_l, .inl (ca 0, 336, .inl v_l)), (q_stands, .inl (ca 0, 16, .inl v_stands)), (q_one, .inl (ca 0, 7, .inl v_one)), (q_two, .inl (ca 0, 7, .inl v_two)), (q_ways, .inl (ca 0, 49, .inl v_ways))] s.heap.size = A at hD ⊢
  have hA : ∀ q : Nat, s.heap.size ≤ q → A q := fun q h => by rw [← hAe]; exact Or.inr h
  have hS : va_S A s.heap s.heap [] := va_S.rf
  have hl := lv_entry ([.ref q_this, .int p1]) (n := 2) (Nat.le_of_ble_eq_true rfl)
  rw [lg_entry_eq]
  generalize (lg_sl ([.ref q_this, .int p1]) ++ List.replicate (2 - (lg_sl ([.ref q_this, .int p1])).length) Slot.unset).toArray = ls at hl ⊢
  have hl : lv_has ls 2 [(0, .ref q_this), (1, .int p1)] := hl
  generalize ([.ref q_this, .int p1] : List Value).toArray = args at hts ⊢
  generalize hQe : MQ below (kQi D ca (A) [(q_this, .inr (8, [.ref q_text, .int v_size, .int v_at, .ref q_read, .ref q_l, .ref q_stands, .ref q_kept, .int v_keptMany, .ref q_one, .ref q_two, .ref q_ways, .ref q_now, .ref q_then])), (q_l, .inl (ca 0, 336, .inl v_l)), (q_stands, .inl (ca 0, 16, .inl v_stands)), (q_one, .inl (ca 0, 7, .inl o_one)), (q_two, .inl (ca 0, 7, .inl o_two)), (q_ways, .inl (ca 0, 49, .inl o_ways))] r) args s 0 0 A = Q
  rw [D_X9_tongue] at h
  refine lv_iload_n hx hb dX9_tongue_0 rfl (lv_at hl 1 rfl) ?_
  refine lv_i2l hx hb dX9_tongue_1 rfl ?_
  refine lv_lconst (v := (lN 0)) hx hb dX9_tongue_2 (by decide) ?_
  refine lv_lconst (v := (lN 1)) hx hb dX9_tongue_3 (by decide) ?_
  obtain ⟨r_1, hg_2, h⟩ := bd1_el h
  refine kx_Si (As := [.long p1.toInt64, .long (lN 0), .long (lN 1)]) (rest := []) (wr := [(q_this, .inr (8, [.ref q_text, .int v_size, .int v_at, .ref q_read, .ref q_l, .ref q_stands, .ref q_kept, .int v_keptMany, .ref q_one, .ref q_two, .ref q_ways, .ref q_now, .ref q_then])), (q_l, .inl (ca 0, 336, .inl v_l)), (q_stands, .inl (ca 0, 16, .inl v_stands)), (q_one, .inl (ca 0, 7, .inl v_one)), (q_two, .inl (ca 0, 7, .inl v_two)), (q_ways, .inl (ca 0, 49, .inl v_ways))]) (w1 := []) (wn := [(q_this, .inr (8, [.ref q_text, .int v_size, .int v_at, .ref q_read, .ref q_l, .ref q_stands, .ref q_kept, .int v_keptMany, .ref q_one, .ref q_two, .ref q_ways, .ref q_now, .ref q_then])), (q_l, .inl (ca 0, 336, .inl v_l)), (q_stands, .inl (ca 0, 16, .inl v_stands)), (q_one, .inl (ca 0, 7, .inl v_one)), (q_two, .inl (ca 0, 7, .inl v_two)), (q_ways, .inl (ca 0, 49, .inl v_ways))]) ⟨hx, hb, hml, hown, hts⟩ (c_X9_in l D ca s.heap.size p1.toInt64 (lN 0) (lN 1) r_1 hg_2) (va_cwS 3 hts gX9_tongue_X9_in rfl rfl rfl (by decide +kernel) ⟨(Nat.le_of_ble_eq_true rfl), (Nat.le_of_ble_eq_true rfl)⟩) hK hP hD hS hA [] [0, 1, 2, 3, 4, 5] [0, 1, 2, 3, 4, 5] rfl rfl rfl rfl (by decide) rfl rfl rfl hl.1 rfl (Nat.le_of_ble_eq_true rfl) dX9_tongue_4 ⟨Nat.zero_le _, Nat.zero_le _⟩ (fun H locs hP hD hS => ?_)
  refine lv_if_eq (tgt := 18) hx hb dX9_tongue_7 (by decide) (fun c_3 => ?_) (fun c_3 => ?_)
  · replace h := ifp_el c_3 h
    refine lv_iconst (v := (-1 : Int32)) hx hb dX9_tongue_18 (by decide) ?_
    cases h
    rw [← hQe]
    exact W.iret hx hb hr (fun t ht hW => ⟨⟨_, (), rfl, rfl, by rw [ht]; exact hP, va_K.moved hW.alike hK, hD⟩, hS.F ht⟩) hS.2.2 dX9_tongue_19
  · replace h := ifn_el c_3 h
    refine lv_aload_n hx hb dX9_tongue_10 rfl (lv_at hl 0 rfl) ?_
    refine lv_iload_n hx hb dX9_tongue_11 rfl (lv_at hl 1 rfl) ?_
    obtain ⟨r_4, y_one_5, y_two_6, y_ways_7, hg_8, h⟩ := bd4_el h
    refine kx_Vi (As := [.int p1]) (rest := []) (wr := []) (w1 := [(q_this, .inr (8, [.ref q_text, .int v_size, .int v_at, .ref q_read, .ref q_l, .ref q_stands, .ref q_kept, .int v_keptMany, .ref q_one, .ref q_two, .ref q_ways, .ref q_now, .ref q_then])), (q_l, .inl (ca 0, 336, .inl v_l)), (q_stands, .inl (ca 0, 16, .inl v_stands)), (q_one, .inl (ca 0, 7, .inl y_one_5)), (q_two, .inl (ca 0, 7, .inl y_two_6)), (q_ways, .inl (ca 0, 49, .inl y_ways_7))]) (wn := [(q_this, .inr (8, [.ref q_text, .int v_size, .int v_at, .ref q_read, .ref q_l, .ref q_stands, .ref q_kept, .int v_keptMany, .ref q_one, .ref q_two, .ref q_ways, .ref q_now, .ref q_then])), (q_l, .inl (ca 0, 336, .inl v_l)), (q_stands, .inl (ca 0, 16, .inl v_stands)), (q_one, .inl (ca 0, 7, .inl y_one_5)), (q_two, .inl (ca 0, 7, .inl y_two_6)), (q_ways, .inl (ca 0, 49, .inl y_ways_7))]) ⟨hx, hb, hml, hown, hts⟩ (c_X9_tongueBy l D ca F H.size q_this q_text q_read q_l q_stands q_kept q_one q_two q_ways q_now q_then p1 v_size v_at v_keptMany v_l v_stands v_one v_two v_ways r_4 y_one_5 y_two_6 y_ways_7 hg_8) (cwV 1 hts gX9_tongue_X9_tongueBy rfl rfl rfl (by decide +kernel) ⟨(Nat.le_of_ble_eq_true rfl), (Nat.le_of_ble_eq_true rfl)⟩) hK hP hD hS hA (ci := 8) (q0 := 0) rfl rfl [0, 1, 2, 3, 4, 5] [] [0, 1, 2, 3, 4, 5] rfl rfl rfl rfl (by decide) rfl rfl rfl hl.1 rfl (Nat.le_of_ble_eq_true rfl) dX9_tongue_12 ⟨Nat.zero_le _, Nat.zero_le _⟩ (fun H locs hP hD hS => ?_)
    refine lv_goto (tgt := 19) hx hb dX9_tongue_15 (by decide) ?_
    cases h
    rw [← hQe]
    exact W.iret hx hb hr (fun t ht hW => ⟨⟨_, (), rfl, rfl, by rw [ht]; exact hP, va_K.moved hW.alike hK, hD⟩, hS.F ht⟩) hS.2.2 dX9_tongue_19
def j_X9_from_130 (x4_12 : Int32) (x5_13 : Int32) (rec46 : Int32 → Int32 → Int32 → (Nat → Int32) → (Nat → Int32) → (Nat → Int32) → Option (Int32 × (Nat → Int32) × (Nat → Int32) × (Nat → Int32))) (y_one_24 : Nat → Int32) (y_two_28 : Nat → Int32) (z0_31 : Int32) (y_ways_32 : Nat → Int32) (z0_34 : Int32) : Option (Int32 × (Nat → Int32) × (Nat → Int32) × (Nat → Int32)) := (if z0_34 = x5_13 then nm (x5_13 + (nI 1)) (fun x5_38 => rec46 z0_34 z0_31 x5_38 y_one_24 y_two_28 y_ways_32) else nm (x5_13 + (nI 1)) (fun x5_36 => rec46 z0_34 x4_12 x5_36 y_one_24 y_two_28 y_ways_32))
def j_X9_from_129 (x3_11 : Int32) (x4_12 : Int32) (x5_13 : Int32) (rec46 : Int32 → Int32 → Int32 → (Nat → Int32) → (Nat → Int32) → (Nat → Int32) → Option (Int32 × (Nat → Int32) × (Nat → Int32) × (Nat → Int32))) (y_one_24 : Nat → Int32) (y_two_28 : Nat → Int32) (z0_31 : Int32) (y_ways_32 : Nat → Int32)  : Option (Int32 × (Nat → Int32) × (Nat → Int32) × (Nat → Int32)) := j_X9_from_130 x4_12 x5_13 rec46 y_one_24 y_two_28 z0_31 y_ways_32 x3_11
def j_X9_from_124 (x4_12 : Int32) (x5_13 : Int32) (rec46 : Int32 → Int32 → Int32 → (Nat → Int32) → (Nat → Int32) → (Nat → Int32) → Option (Int32 × (Nat → Int32) × (Nat → Int32) × (Nat → Int32))) (y_one_24 : Nat → Int32) (y_two_28 : Nat → Int32) (z0_31 : Int32) (y_ways_32 : Nat → Int32)  : Option (Int32 × (Nat → Int32) × (Nat → Int32) × (Nat → Int32)) := j_X9_from_130 x4_12 x5_13 rec46 y_one_24 y_two_28 z0_31 y_ways_32 x5_13
def j_X9_from_98 (v_l : Nat → Int32) (x3_11 : Int32) (x4_12 : Int32) (x5_13 : Int32) (rec46 : Int32 → Int32 → Int32 → (Nat → Int32) → (Nat → Int32) → (Nat → Int32) → Option (Int32 × (Nat → Int32) × (Nat → Int32) × (Nat → Int32))) (y_one_24 : Nat → Int32) (y_two_28 : Nat → Int32) (z0_31 : Int32) (y_ways_32 : Nat → Int32) : Option (Int32 × (Nat → Int32) × (Nat → Int32) × (Nat → Int32)) := ck 336 (nI 303) ((if z0_31 < (v_l (nI 303).toNatClampNeg) then j_X9_from_129 x3_11 x4_12 x5_13 rec46 y_one_24 y_two_28 z0_31 y_ways_32  else (if x3_11 < 0 then j_X9_from_124 x4_12 x5_13 rec46 y_one_24 y_two_28 z0_31 y_ways_32  else (if z0_31 ≤ x4_12 then j_X9_from_129 x3_11 x4_12 x5_13 rec46 y_one_24 y_two_28 z0_31 y_ways_32  else j_X9_from_124 x4_12 x5_13 rec46 y_one_24 y_two_28 z0_31 y_ways_32 ))))
def b_X9_from_46 (p1 : Int32) (p2 : Int32) (v_l : Nat → Int32) (F : Nat) (rec46 : Int32 → Int32 → Int32 → (Nat → Int32) → (Nat → Int32) → (Nat → Int32) → Option (Int32 × (Nat → Int32) × (Nat → Int32) × (Nat → Int32))) (x3_11 : Int32) (x4_12 : Int32) (x5_13 : Int32) (y_one_14 : Nat → Int32) (y_two_15 : Nat → Int32) (y_ways_16 : Nat → Int32) : Option (Int32 × (Nat → Int32) × (Nat → Int32) × (Nat → Int32)) := (if (nI 2) ≤ x5_13 then some (x3_11, y_one_14, y_two_15, y_ways_16) else bd1 (D_X9_earAt p1 p2) (fun r_22 => bd1 (D_X9_say F 7 r_22 (-1 : Int32) v_l y_one_14) (fun y_one_24 => bd1 (D_X9_wordAt x5_13 p2) (fun r_26 => bd1 (D_X9_say F 7 r_26 (-1 : Int32) v_l y_two_15) (fun y_two_28 => ck 7 (nI 0) ((if (y_two_28 (nI 0).toNatClampNeg) = 0 then j_X9_from_98 v_l x3_11 x4_12 x5_13 rec46 y_one_24 y_two_28 (-1 : Int32) y_ways_16 else bd2 (D_X9_likeOf F y_one_24 y_two_28 y_ways_16) (fun r_44 y_ways_45 => j_X9_from_98 v_l x3_11 x4_12 x5_13 rec46 y_one_24 y_two_28 r_44 y_ways_45))))))))
def D_X9_from (F : Nat) (p1 : Int32) (p2 : Int32) (v_l : Nat → Int32) (v_one : Nat → Int32) (v_two : Nat → Int32) (v_ways : Nat → Int32) : Option (Int32 × (Nat → Int32) × (Nat → Int32) × (Nat → Int32)) := bd1 (D_X9_in p1.toInt64 (lN 0) (lN 2)) (fun r_1 => (if r_1 = 0 then some ((-1 : Int32), v_one, v_two, v_ways) else bd1 (D_X9_isMeaning p2) (fun r_4 => (if r_4 = 0 then some ((-1 : Int32), v_one, v_two, v_ways) else bd1 (D_X9_earAt p1 p2) (fun r_7 => ck 336 r_7 ((if (v_l r_7.toNatClampNeg) = 0 then some ((-2 : Int32), v_one, v_two, v_ways) else bd4 (lpg (T := Int32 → Int32 → Int32 → (Nat → Int32) → (Nat → Int32) → (Nat → Int32) → Option (Int32 × (Nat → Int32) × (Nat → Int32) × (Nat → Int32))) (fun _ _ _ _ _ _ => none) (b_X9_from_46 p1 p2 v_l F) F (-4 : Int32) (nI 0) (nI 0) v_one v_two v_ways) (fun o_17 o_18 o_19 o_20 => some (o_17, o_18, o_19, o_20)))))))))
abbrev rm_X9_from : Room := { frames := 3, cells := 0, slots := 0, locals := 71 }
set_option maxHeartbeats 4000000 in
set_option maxRecDepth 100000 in
theorem c_X9_from (l : Launch) (D : va_G) (ca : Nat → ClassId) (F : Nat) (sz : Nat) (q_this q_text q_read q_l q_stands q_kept q_one q_two q_ways q_now q_then : Nat) (p1 : Int32) (p2 : Int32) (v_size : Int32) (v_at : Int32) (v_keptMany : Int32) (v_l : Nat → Int32) (v_one : Nat → Int32) (v_two : Nat → Int32) (v_ways : Nat → Int32) (r : Int32) (o_one : Nat → Int32) (o_two : Nat → Int32) (o_ways : Nat → Int32) (h : D_X9_from F p1 p2 v_l v_one v_two v_ways = some (r, o_one, o_two, o_ways)) : Met l yX9_from wsX9_from rm_X9_from (va_Pc [.ref q_this, .int p1, .int p2] (kPre D ca [(q_this, .inr (8, [.ref q_text, .int v_size, .int v_at, .ref q_read, .ref q_l, .ref q_stands, .ref q_kept, .int v_keptMany, .ref q_one, .ref q_two, .ref q_ways, .ref q_now, .ref q_then])), (q_l, .inl (ca 0, 336, .inl v_l)), (q_one, .inl (ca 0, 7, .inl v_one)), (q_two, .inl (ca 0, 7, .inl v_two)), (q_ways, .inl (ca 0, 49, .inl v_ways))] sz)) (kQi D ca (va_A [(q_this, .inr (8, [.ref q_text, .int v_size, .int v_at, .ref q_read, .ref q_l, .ref q_stands, .ref q_kept, .int v_keptMany, .ref q_one, .ref q_two, .ref q_ways, .ref q_now, .ref q_then])), (q_l, .inl (ca 0, 336, .inl v_l)), (q_one, .inl (ca 0, 7, .inl v_one)), (q_two, .inl (ca 0, 7, .inl v_two)), (q_ways, .inl (ca 0, 49, .inl v_ways))] sz) [(q_this, .inr (8, [.ref q_text, .int v_size, .int v_at, .ref q_read, .ref q_l, .ref q_stands, .ref q_kept, .int v_keptMany, .ref q_one, .ref q_two, .ref q_ways, .ref q_now, .ref q_then])), (q_l, .inl (ca 0, 336, .inl v_l)), (q_one, .inl (ca 0, 7, .inl o_one)), (q_two, .inl (ca 0, 7, .inl o_two)), (q_ways, .inl (ca 0, 49, .inl o_ways))] r) 0 0 (va_A [(q_this, .inr (8, [.ref q_text, .int v_size, .int v_at, .ref q_read, .ref q_l, .ref q_stands, .ref q_kept, .int v_keptMany, .ref q_one, .ref q_two, .ref q_ways, .ref q_now, .ref q_then])), (q_l, .inl (ca 0, 336, .inl v_l)), (q_one, .inl (ca 0, 7, .inl v_one)), (q_two, .inl (ca 0, 7, .inl v_two)), (q_ways, .inl (ca 0, 49, .inl v_ways))] sz) := by
  refine Met.ofW (cc := cX9_from) (maxL := 7) (ret := (some .int)) (by decide +kernel) rfl ?_
  intro p e s m args below meth c s₁ B hml hv
  obtain ⟨rfl, hsz, hP, hK, hD0⟩ := hv
  have hx := B.exec
  have hb := B.bytes
  have hr := B.returns
  have hts := atoms_spec (ws := wsX9_from) B.pre
  have hown : s.vm.findClass RX9 = some m.cls := findClass_of_methodNamed B.named
  have hlocks := B.notSynchronized
  clear B
  subst hsz
  have hD := hD0.self (sz := s.heap.size)
  generalize hAe : va_A [(q_this, .inr (8, [.ref q_text, .int v_size, .int v_at, .ref q_read, .ref q_l, .ref q_stands, .ref q_kept, .int v_keptMany, .ref q_one, .ref q_two, .ref q_ways, .ref q_now, .ref q_then])), (q_l, .inl (ca 0, 336, .inl v_l)), (q_one, .inl (ca 0, 7, .inl v_one)), (q_two, .inl (ca 0, 7, .inl v_two)), (q_ways, .inl (ca 0, 49, .inl v_ways))] s.heap.size = A at hD ⊢
  have hA : ∀ q : Nat, s.heap.size ≤ q → A q := fun q h => by rw [← hAe]; exact Or.inr h
  have hS : va_S A s.heap s.heap [] := va_S.rf
  have hl := lv_entry ([.ref q_this, .int p1, .int p2]) (n := 7) (Nat.le_of_ble_eq_true rfl)
  rw [lg_entry_eq]
  generalize (lg_sl ([.ref q_this, .int p1, .int p2]) ++ List.replicate (7 - (lg_sl ([.ref q_this, .int p1, .int p2])).length) Slot.unset).toArray = ls at hl ⊢
  have hl : lv_has ls 7 [(0, .ref q_this), (1, .int p1), (2, .int p2)] := hl
  generalize ([.ref q_this, .int p1, .int p2] : List Value).toArray = args at hts ⊢
  generalize hQe : MQ below (kQi D ca (A) [(q_this, .inr (8, [.ref q_text, .int v_size, .int v_at, .ref q_read, .ref q_l, .ref q_stands, .ref q_kept, .int v_keptMany, .ref q_one, .ref q_two, .ref q_ways, .ref q_now, .ref q_then])), (q_l, .inl (ca 0, 336, .inl v_l)), (q_one, .inl (ca 0, 7, .inl o_one)), (q_two, .inl (ca 0, 7, .inl o_two)), (q_ways, .inl (ca 0, 49, .inl o_ways))] r) args s 0 0 A = Q
  have k_228 := hts (.constantLong RX9 228 (lN 2)) (by decide +kernel)
  have i_X9 : ∀ w ∈ u_ws RX9 TX9 13, w ∈ wsX9_from := by decide +kernel
  have k_16 := hts (.fieldLink RX9 16 "TradeWordsModel" "l" "[I") (by decide +kernel)
  have k_25 := hts (.fieldLink RX9 25 "TradeWordsModel" "one" "[I") (by decide +kernel)
  have k_28 := hts (.fieldLink RX9 28 "TradeWordsModel" "two" "[I") (by decide +kernel)
  rw [D_X9_from] at h
  refine lv_iload_n hx hb dX9_from_0 rfl (lv_at hl 1 rfl) ?_
  refine lv_i2l hx hb dX9_from_1 rfl ?_
  refine lv_lconst (v := (lN 0)) hx hb dX9_from_2 (by decide) ?_
  refine lv_ldc2 hx hb hown k_228 dX9_from_3 ?_
  obtain ⟨r_1, hg_2, h⟩ := bd1_el h
  refine kx_Si (As := [.long p1.toInt64, .long (lN 0), .long (lN 2)]) (rest := []) (wr := [(q_this, .inr (8, [.ref q_text, .int v_size, .int v_at, .ref q_read, .ref q_l, .ref q_stands, .ref q_kept, .int v_keptMany, .ref q_one, .ref q_two, .ref q_ways, .ref q_now, .ref q_then])), (q_l, .inl (ca 0, 336, .inl v_l)), (q_one, .inl (ca 0, 7, .inl v_one)), (q_two, .inl (ca 0, 7, .inl v_two)), (q_ways, .inl (ca 0, 49, .inl v_ways))]) (w1 := []) (wn := [(q_this, .inr (8, [.ref q_text, .int v_size, .int v_at, .ref q_read, .ref q_l, .ref q_stands, .ref q_kept, .int v_keptMany, .ref q_one, .ref q_two, .ref q_ways, .ref q_now, .ref q_then])), (q_l, .inl (ca 0, 336, .inl v_l)), (q_one, .inl (ca 0, 7, .inl v_one)), (q_two, .inl (ca 0, 7, .inl v_two)), (q_ways, .inl (ca 0, 49, .inl v_ways))]) ⟨hx, hb, hml, hown, hts⟩ (c_X9_in l D ca s.heap.size p1.toInt64 (lN 0) (lN 2) r_1 hg_2) (va_cwS 3 hts gX9_from_X9_in rfl rfl rfl (by decide +kernel) ⟨(Nat.le_of_ble_eq_true rfl), (Nat.le_of_ble_eq_true rfl)⟩) hK hP hD hS hA [] [0, 1, 2, 3, 4] [0, 1, 2, 3, 4] rfl rfl rfl rfl (by decide) rfl rfl rfl hl.1 rfl (Nat.le_of_ble_eq_true rfl) dX9_from_6 ⟨Nat.zero_le _, Nat.zero_le _⟩ (fun H locs hP hD hS => ?_)
  refine lv_if_eq (tgt := 19) hx hb dX9_from_9 (by decide) (fun c_3 => ?_) (fun c_3 => ?_)
  · replace h := ifp_el c_3 h
    refine lv_iconst (v := (-1 : Int32)) hx hb dX9_from_19 (by decide) ?_
    cases h
    rw [← hQe]
    exact W.iret hx hb hr (fun t ht hW => ⟨⟨_, (), rfl, rfl, by rw [ht]; exact hP, va_K.moved hW.alike hK, hD⟩, hS.F ht⟩) hS.2.2 dX9_from_20
  · replace h := ifn_el c_3 h
    refine lv_iload_n hx hb dX9_from_12 rfl (lv_at hl 2 rfl) ?_
    obtain ⟨r_4, hg_5, h⟩ := bd1_el h
    refine kx_Si (As := [.int p2]) (rest := []) (wr := [(q_this, .inr (8, [.ref q_text, .int v_size, .int v_at, .ref q_read, .ref q_l, .ref q_stands, .ref q_kept, .int v_keptMany, .ref q_one, .ref q_two, .ref q_ways, .ref q_now, .ref q_then])), (q_l, .inl (ca 0, 336, .inl v_l)), (q_one, .inl (ca 0, 7, .inl v_one)), (q_two, .inl (ca 0, 7, .inl v_two)), (q_ways, .inl (ca 0, 49, .inl v_ways))]) (w1 := []) (wn := [(q_this, .inr (8, [.ref q_text, .int v_size, .int v_at, .ref q_read, .ref q_l, .ref q_stands, .ref q_kept, .int v_keptMany, .ref q_one, .ref q_two, .ref q_ways, .ref q_now, .ref q_then])), (q_l, .inl (ca 0, 336, .inl v_l)), (q_one, .inl (ca 0, 7, .inl v_one)), (q_two, .inl (ca 0, 7, .inl v_two)), (q_ways, .inl (ca 0, 49, .inl v_ways))]) ⟨hx, hb, hml, hown, hts⟩ (c_X9_isMeaning l D ca H.size p2 r_4 hg_5) (va_cwS 1 hts gX9_from_X9_isMeaning rfl rfl rfl (by decide +kernel) ⟨(Nat.le_of_ble_eq_true rfl), (Nat.le_of_ble_eq_true rfl)⟩) hK hP hD hS hA [] [0, 1, 2, 3, 4] [0, 1, 2, 3, 4] rfl rfl rfl rfl (by decide) rfl rfl rfl hl.1 rfl (Nat.le_of_ble_eq_true rfl) dX9_from_13 ⟨Nat.zero_le _, Nat.zero_le _⟩ (fun H locs hP hD hS => ?_)
    refine lv_if_ne (tgt := 21) hx hb dX9_from_16 (by decide) (fun c_6 => ?_) (fun c_6 => ?_)
    · replace h := ifn_el c_6 h
      refine lv_aload_n hx hb dX9_from_21 rfl (lv_at hl 0 rfl) ?_
      refine va_get (D := D) (ci := 8) (v := .ref q_l) (C := RX9) (T := TX9) (N := 13) hx hb hts i_X9 hown hK hP 0 rfl rfl 4 (by decide) k_16 (fun _ h9 => h9) rfl dX9_from_22 ?_
      refine lv_iload_n hx hb dX9_from_25 rfl (lv_at hl 1 rfl) ?_
      refine lv_iload_n hx hb dX9_from_26 rfl (lv_at hl 2 rfl) ?_
      obtain ⟨r_7, hg_8, h⟩ := bd1_el h
      refine kx_Si (As := [.int p1, .int p2]) (rest := [.ref q_l]) (wr := [(q_this, .inr (8, [.ref q_text, .int v_size, .int v_at, .ref q_read, .ref q_l, .ref q_stands, .ref q_kept, .int v_keptMany, .ref q_one, .ref q_two, .ref q_ways, .ref q_now, .ref q_then])), (q_l, .inl (ca 0, 336, .inl v_l)), (q_one, .inl (ca 0, 7, .inl v_one)), (q_two, .inl (ca 0, 7, .inl v_two)), (q_ways, .inl (ca 0, 49, .inl v_ways))]) (w1 := []) (wn := [(q_this, .inr (8, [.ref q_text, .int v_size, .int v_at, .ref q_read, .ref q_l, .ref q_stands, .ref q_kept, .int v_keptMany, .ref q_one, .ref q_two, .ref q_ways, .ref q_now, .ref q_then])), (q_l, .inl (ca 0, 336, .inl v_l)), (q_one, .inl (ca 0, 7, .inl v_one)), (q_two, .inl (ca 0, 7, .inl v_two)), (q_ways, .inl (ca 0, 49, .inl v_ways))]) ⟨hx, hb, hml, hown, hts⟩ (c_X9_earAt l D ca H.size p1 p2 r_7 hg_8) (va_cwS 2 hts gX9_from_X9_earAt rfl rfl rfl (by decide +kernel) ⟨(Nat.le_of_ble_eq_true rfl), (Nat.le_of_ble_eq_true rfl)⟩) hK hP hD hS hA [] [0, 1, 2, 3, 4] [0, 1, 2, 3, 4] rfl rfl rfl rfl (by decide) rfl rfl rfl hl.1 rfl (Nat.le_of_ble_eq_true rfl) dX9_from_27 ⟨Nat.zero_le _, Nat.zero_le _⟩ (fun H locs hP hD hS => ?_)
      obtain ⟨hi_9, h⟩ := ck_el h
      refine va_iald hx hb hK hP 1 0 rfl rfl hi_9 dX9_from_30 ?_
      refine lv_if_ne (tgt := 37) hx hb dX9_from_31 (by decide) (fun c_10 => ?_) (fun c_10 => ?_)
      · replace h := ifn_el c_10 h
        refine lv_bipush (v := (-4 : Int32)) hx hb dX9_from_37 (by decide) ?_
        refine lv_istore_n (lv' := [(3, .int (-4 : Int32)), (0, .ref q_this), (1, .int p1), (2, .int p2)]) hx hb dX9_from_39 rfl hl (by decide) rfl (fun ls hl => ?_)
        refine lv_iconst (v := (nI 0)) hx hb dX9_from_40 (by decide) ?_
        refine lv_istore (lv' := [(4, .int (nI 0)), (3, .int (-4 : Int32)), (0, .ref q_this), (1, .int p1), (2, .int p2)]) hx hb dX9_from_41 hl (by decide) rfl (fun ls hl => ?_)
        refine lv_iconst (v := (nI 0)) hx hb dX9_from_43 (by decide) ?_
        refine lv_istore (lv' := [(5, .int (nI 0)), (4, .int (nI 0)), (3, .int (-4 : Int32)), (0, .ref q_this), (1, .int p1), (2, .int p2)]) hx hb dX9_from_44 hl (by decide) rfl (fun ls hl => ?_)
        obtain ⟨o_17, o_18, o_19, o_20, hL, h⟩ := bd4_el h
        have hex : ∀ (H : Heap) (locs : List Loc) (ls : Array Slot), va_P D vwCl [(q_this, .inr (8, [.ref q_text, .int v_size, .int v_at, .ref q_read, .ref q_l, .ref q_stands, .ref q_kept, .int v_keptMany, .ref q_one, .ref q_two, .ref q_ways, .ref q_now, .ref q_then])), (q_l, .inl (ca 0, 336, .inl v_l)), (q_one, .inl (ca 0, 7, .inl o_18)), (q_two, .inl (ca 0, 7, .inl o_19)), (q_ways, .inl (ca 0, 49, .inl o_20))] H → va_D A [(q_this, .inr (8, [.ref q_text, .int v_size, .int v_at, .ref q_read, .ref q_l, .ref q_stands, .ref q_kept, .int v_keptMany, .ref q_one, .ref q_two, .ref q_ways, .ref q_now, .ref q_then])), (q_l, .inl (ca 0, 336, .inl v_l)), (q_one, .inl (ca 0, 7, .inl o_18)), (q_two, .inl (ca 0, 7, .inl o_19)), (q_ways, .inl (ca 0, 49, .inl o_20))] → va_S A s.heap H locs → lv_has ls 7 [(3, .int o_17)] → W p l e (headSpec wsX9_from rm_X9_from).room s m args below meth c H locs 0 0 Q (F0 m 152 ls []) := by
          intro H locs ls hP hD hS hl
          refine lv_iload_n hx hb dX9_from_152 rfl (lv_at hl 0 rfl) ?_
          cases h
          rw [← hQe]
          exact W.iret hx hb hr (fun t ht hW => ⟨⟨_, (), rfl, rfl, by rw [ht]; exact hP, va_K.moved hW.alike hK, hD⟩, hS.F ht⟩) hS.2.2 dX9_from_153
        have hlp : ∀ (n : Nat) (x3_11 : Int32) (x4_12 : Int32) (x5_13 : Int32) (y_one_14 : Nat → Int32) (y_two_15 : Nat → Int32) (y_ways_16 : Nat → Int32) (o_17 : Int32) (o_18 : Nat → Int32) (o_19 : Nat → Int32) (o_20 : Nat → Int32) (H : Heap) (locs : List Loc) (ls : Array Slot), lpg (T := Int32 → Int32 → Int32 → (Nat → Int32) → (Nat → Int32) → (Nat → Int32) → Option (Int32 × (Nat → Int32) × (Nat → Int32) × (Nat → Int32))) (fun _ _ _ _ _ _ => none) (b_X9_from_46 p1 p2 v_l F) n x3_11 x4_12 x5_13 y_one_14 y_two_15 y_ways_16 = some (o_17, o_18, o_19, o_20) → (∀ (H : Heap) (locs : List Loc) (ls : Array Slot), va_P D vwCl [(q_this, .inr (8, [.ref q_text, .int v_size, .int v_at, .ref q_read, .ref q_l, .ref q_stands, .ref q_kept, .int v_keptMany, .ref q_one, .ref q_two, .ref q_ways, .ref q_now, .ref q_then])), (q_l, .inl (ca 0, 336, .inl v_l)), (q_one, .inl (ca 0, 7, .inl o_18)), (q_two, .inl (ca 0, 7, .inl o_19)), (q_ways, .inl (ca 0, 49, .inl o_20))] H → va_D A [(q_this, .inr (8, [.ref q_text, .int v_size, .int v_at, .ref q_read, .ref q_l, .ref q_stands, .ref q_kept, .int v_keptMany, .ref q_one, .ref q_two, .ref q_ways, .ref q_now, .ref q_then])), (q_l, .inl (ca 0, 336, .inl v_l)), (q_one, .inl (ca 0, 7, .inl o_18)), (q_two, .inl (ca 0, 7, .inl o_19)), (q_ways, .inl (ca 0, 49, .inl o_20))] → va_S A s.heap H locs → lv_has ls 7 [(3, .int o_17)] → W p l e (headSpec wsX9_from rm_X9_from).room s m args below meth c H locs 0 0 Q (F0 m 152 ls [])) → va_P D vwCl [(q_this, .inr (8, [.ref q_text, .int v_size, .int v_at, .ref q_read, .ref q_l, .ref q_stands, .ref q_kept, .int v_keptMany, .ref q_one, .ref q_two, .ref q_ways, .ref q_now, .ref q_then])), (q_l, .inl (ca 0, 336, .inl v_l)), (q_one, .inl (ca 0, 7, .inl y_one_14)), (q_two, .inl (ca 0, 7, .inl y_two_15)), (q_ways, .inl (ca 0, 49, .inl y_ways_16))] H → va_D A [(q_this, .inr (8, [.ref q_text, .int v_size, .int v_at, .ref q_read, .ref q_l, .ref q_stands, .ref q_kept, .int v_keptMany, .ref q_one, .ref q_two, .ref q_ways, .ref q_now, .ref q_then])), (q_l, .inl (ca 0, 336, .inl v_l)), (q_one, .inl (ca 0, 7, .inl y_one_14)), (q_two, .inl (ca 0, 7, .inl y_two_15)), (q_ways, .inl (ca 0, 49, .inl y_ways_16))] → va_S A s.heap H locs → lv_has ls 7 [(0, .ref q_this), (1, .int p1), (2, .int p2), (3, .int x3_11), (4, .int x4_12), (5, .int x5_13)] → W p l e (headSpec wsX9_from rm_X9_from).room s m args below meth c H locs 0 0 Q (F0 m 46 ls []) := by
          intro n
          induction n with
          | zero => intro x3_11 x4_12 x5_13 y_one_14 y_two_15 y_ways_16 o_17 o_18 o_19 o_20 H locs ls h; have h : (none : Option (Int32 × (Nat → Int32) × (Nat → Int32) × (Nat → Int32))) = some _ := h; cases h
          | succ n ih =>
            intro x3_11 x4_12 x5_13 y_one_14 y_two_15 y_ways_16 o_17 o_18 o_19 o_20 H locs ls h hex hP hD hS hl
            rw [lpg_succ, b_X9_from_46] at h
            refine lv_iload hx hb dX9_from_46 (lv_at hl 5 rfl) ?_
            refine lv_iconst (v := (nI 2)) hx hb dX9_from_48 (by decide) ?_
            refine lv_icmp_ge (tgt := 152) hx hb dX9_from_49 (by decide) (fun c_21 => ?_) (fun c_21 => ?_)
            · replace h := ifp_el c_21 h
              cases h
              exact hex _ _ _ hP hD hS (lv_sub hl [3] rfl)
            · replace h := ifn_el c_21 h
              refine lv_aload_n hx hb dX9_from_52 rfl (lv_at hl 0 rfl) ?_
              refine lv_iload_n hx hb dX9_from_53 rfl (lv_at hl 1 rfl) ?_
              refine lv_iload_n hx hb dX9_from_54 rfl (lv_at hl 2 rfl) ?_
              obtain ⟨r_22, hg_23, h⟩ := bd1_el h
              refine kx_Si (As := [.int p1, .int p2]) (rest := [.ref q_this]) (wr := [(q_this, .inr (8, [.ref q_text, .int v_size, .int v_at, .ref q_read, .ref q_l, .ref q_stands, .ref q_kept, .int v_keptMany, .ref q_one, .ref q_two, .ref q_ways, .ref q_now, .ref q_then])), (q_l, .inl (ca 0, 336, .inl v_l)), (q_one, .inl (ca 0, 7, .inl y_one_14)), (q_two, .inl (ca 0, 7, .inl y_two_15)), (q_ways, .inl (ca 0, 49, .inl y_ways_16))]) (w1 := []) (wn := [(q_this, .inr (8, [.ref q_text, .int v_size, .int v_at, .ref q_read, .ref q_l, .ref q_stands, .ref q_kept, .int v_keptMany, .ref q_one, .ref q_two, .ref q_ways, .ref q_now, .ref q_then])), (q_l, .inl (ca 0, 336, .inl v_l)), (q_one, .inl (ca 0, 7, .inl y_one_14)), (q_two, .inl (ca 0, 7, .inl y_two_15)), (q_ways, .inl (ca 0, 49, .inl y_ways_16))]) ⟨hx, hb, hml, hown, hts⟩ (c_X9_earAt l D ca H.size p1 p2 r_22 hg_23) (va_cwS 2 hts gX9_from_X9_earAt rfl rfl rfl (by decide +kernel) ⟨(Nat.le_of_ble_eq_true rfl), (Nat.le_of_ble_eq_true rfl)⟩) hK hP hD hS hA [] [0, 1, 2, 3, 4] [0, 1, 2, 3, 4] rfl rfl rfl rfl (by decide) rfl rfl rfl hl.1 rfl (Nat.le_of_ble_eq_true rfl) dX9_from_55 ⟨Nat.zero_le _, Nat.zero_le _⟩ (fun H locs hP hD hS => ?_)
              refine lv_iconst (v := (-1 : Int32)) hx hb dX9_from_58 (by decide) ?_
              refine lv_aload_n hx hb dX9_from_59 rfl (lv_at hl 0 rfl) ?_
              refine va_get (D := D) (ci := 8) (v := .ref q_one) (C := RX9) (T := TX9) (N := 13) hx hb hts i_X9 hown hK hP 0 rfl rfl 8 (by decide) k_25 (fun _ h9 => h9) rfl dX9_from_60 ?_
              obtain ⟨y_one_24, hg_25, h⟩ := bd1_el h
              refine kx_Vv (As := [.int r_22, .int (-1 : Int32), .ref q_one]) (rest := []) (wr := [(q_two, .inl (ca 0, 7, .inl y_two_15)), (q_ways, .inl (ca 0, 49, .inl y_ways_16))]) (w1 := [(q_this, .inr (8, [.ref q_text, .int v_size, .int v_at, .ref q_read, .ref q_l, .ref q_stands, .ref q_kept, .int v_keptMany, .ref q_one, .ref q_two, .ref q_ways, .ref q_now, .ref q_then])), (q_l, .inl (ca 0, 336, .inl v_l)), (q_one, .inl (ca 0, 7, .inl y_one_24))]) (wn := [(q_this, .inr (8, [.ref q_text, .int v_size, .int v_at, .ref q_read, .ref q_l, .ref q_stands, .ref q_kept, .int v_keptMany, .ref q_one, .ref q_two, .ref q_ways, .ref q_now, .ref q_then])), (q_l, .inl (ca 0, 336, .inl v_l)), (q_one, .inl (ca 0, 7, .inl y_one_24)), (q_two, .inl (ca 0, 7, .inl y_two_15)), (q_ways, .inl (ca 0, 49, .inl y_ways_16))]) ⟨hx, hb, hml, hown, hts⟩ (c_X9_say l D ca F H.size q_this q_text q_read q_l q_stands q_kept q_one q_two q_ways q_now q_then q_one 7 r_22 (-1 : Int32) v_size v_at v_keptMany v_l y_one_14 y_one_24 hg_25) (cwV 3 hts gX9_from_X9_say rfl rfl rfl (by decide +kernel) ⟨(Nat.le_of_ble_eq_true rfl), (Nat.le_of_ble_eq_true rfl)⟩) hK hP hD hS hA (ci := 8) (q0 := 0) rfl rfl [0, 1, 2] [3, 4] [2, 3, 4, 0, 1] rfl rfl rfl rfl (by decide) rfl rfl rfl hl.1 rfl (Nat.le_of_ble_eq_true rfl) dX9_from_63 ⟨Nat.zero_le _, Nat.zero_le _⟩ (fun H locs hP hD hS => ?_)
              refine lv_aload_n hx hb dX9_from_66 rfl (lv_at hl 0 rfl) ?_
              refine lv_iload hx hb dX9_from_67 (lv_at hl 5 rfl) ?_
              refine lv_iload_n hx hb dX9_from_69 rfl (lv_at hl 2 rfl) ?_
              obtain ⟨r_26, hg_27, h⟩ := bd1_el h
              refine kx_Si (As := [.int x5_13, .int p2]) (rest := [.ref q_this]) (wr := [(q_this, .inr (8, [.ref q_text, .int v_size, .int v_at, .ref q_read, .ref q_l, .ref q_stands, .ref q_kept, .int v_keptMany, .ref q_one, .ref q_two, .ref q_ways, .ref q_now, .ref q_then])), (q_l, .inl (ca 0, 336, .inl v_l)), (q_one, .inl (ca 0, 7, .inl y_one_24)), (q_two, .inl (ca 0, 7, .inl y_two_15)), (q_ways, .inl (ca 0, 49, .inl y_ways_16))]) (w1 := []) (wn := [(q_this, .inr (8, [.ref q_text, .int v_size, .int v_at, .ref q_read, .ref q_l, .ref q_stands, .ref q_kept, .int v_keptMany, .ref q_one, .ref q_two, .ref q_ways, .ref q_now, .ref q_then])), (q_l, .inl (ca 0, 336, .inl v_l)), (q_one, .inl (ca 0, 7, .inl y_one_24)), (q_two, .inl (ca 0, 7, .inl y_two_15)), (q_ways, .inl (ca 0, 49, .inl y_ways_16))]) ⟨hx, hb, hml, hown, hts⟩ (c_X9_wordAt l D ca H.size x5_13 p2 r_26 hg_27) (va_cwS 2 hts gX9_from_X9_wordAt rfl rfl rfl (by decide +kernel) ⟨(Nat.le_of_ble_eq_true rfl), (Nat.le_of_ble_eq_true rfl)⟩) hK hP hD hS hA [] [0, 1, 2, 3, 4] [0, 1, 2, 3, 4] rfl rfl rfl rfl (by decide) rfl rfl rfl hl.1 rfl (Nat.le_of_ble_eq_true rfl) dX9_from_70 ⟨Nat.zero_le _, Nat.zero_le _⟩ (fun H locs hP hD hS => ?_)
              refine lv_iconst (v := (-1 : Int32)) hx hb dX9_from_73 (by decide) ?_
              refine lv_aload_n hx hb dX9_from_74 rfl (lv_at hl 0 rfl) ?_
              refine va_get (D := D) (ci := 8) (v := .ref q_two) (C := RX9) (T := TX9) (N := 13) hx hb hts i_X9 hown hK hP 0 rfl rfl 9 (by decide) k_28 (fun _ h9 => h9) rfl dX9_from_75 ?_
              obtain ⟨y_two_28, hg_29, h⟩ := bd1_el h
              refine kx_Vv (As := [.int r_26, .int (-1 : Int32), .ref q_two]) (rest := []) (wr := [(q_one, .inl (ca 0, 7, .inl y_one_24)), (q_ways, .inl (ca 0, 49, .inl y_ways_16))]) (w1 := [(q_this, .inr (8, [.ref q_text, .int v_size, .int v_at, .ref q_read, .ref q_l, .ref q_stands, .ref q_kept, .int v_keptMany, .ref q_one, .ref q_two, .ref q_ways, .ref q_now, .ref q_then])), (q_l, .inl (ca 0, 336, .inl v_l)), (q_two, .inl (ca 0, 7, .inl y_two_28))]) (wn := [(q_this, .inr (8, [.ref q_text, .int v_size, .int v_at, .ref q_read, .ref q_l, .ref q_stands, .ref q_kept, .int v_keptMany, .ref q_one, .ref q_two, .ref q_ways, .ref q_now, .ref q_then])), (q_l, .inl (ca 0, 336, .inl v_l)), (q_one, .inl (ca 0, 7, .inl y_one_24)), (q_two, .inl (ca 0, 7, .inl y_two_28)), (q_ways, .inl (ca 0, 49, .inl y_ways_16))]) ⟨hx, hb, hml, hown, hts⟩ (c_X9_say l D ca F H.size q_this q_text q_read q_l q_stands q_kept q_one q_two q_ways q_now q_then q_two 7 r_26 (-1 : Int32) v_size v_at v_keptMany v_l y_two_15 y_two_28 hg_29) (cwV 3 hts gX9_from_X9_say rfl rfl rfl (by decide +kernel) ⟨(Nat.le_of_ble_eq_true rfl), (Nat.le_of_ble_eq_true rfl)⟩) hK hP hD hS hA (ci := 8) (q0 := 0) rfl rfl [0, 1, 3] [2, 4] [2, 3, 0, 4, 1] rfl rfl rfl rfl (by decide) rfl rfl rfl hl.1 rfl (Nat.le_of_ble_eq_true rfl) dX9_from_78 ⟨Nat.zero_le _, Nat.zero_le _⟩ (fun H locs hP hD hS => ?_)
              refine lv_aload_n hx hb dX9_from_81 rfl (lv_at hl 0 rfl) ?_
              refine va_get (D := D) (ci := 8) (v := .ref q_two) (C := RX9) (T := TX9) (N := 13) hx hb hts i_X9 hown hK hP 0 rfl rfl 9 (by decide) k_28 (fun _ h9 => h9) rfl dX9_from_82 ?_
              refine lv_iconst (v := (nI 0)) hx hb dX9_from_85 (by decide) ?_
              obtain ⟨hi_30, h⟩ := ck_el h
              refine va_iald hx hb hK hP 3 0 rfl rfl hi_30 dX9_from_86 ?_
              have hj_98 : ∀ (z0_31 : Int32) (y_ways_32 : Nat → Int32) (H : Heap) (locs : List Loc) (ls : Array Slot), j_X9_from_98 v_l x3_11 x4_12 x5_13 (lpg (T := Int32 → Int32 → Int32 → (Nat → Int32) → (Nat → Int32) → (Nat → Int32) → Option (Int32 × (Nat → Int32) × (Nat → Int32) × (Nat → Int32))) (fun _ _ _ _ _ _ => none) (b_X9_from_46 p1 p2 v_l F) n) y_one_24 y_two_28 z0_31 y_ways_32 = some (o_17, o_18, o_19, o_20) → va_P D vwCl [(q_this, .inr (8, [.ref q_text, .int v_size, .int v_at, .ref q_read, .ref q_l, .ref q_stands, .ref q_kept, .int v_keptMany, .ref q_one, .ref q_two, .ref q_ways, .ref q_now, .ref q_then])), (q_l, .inl (ca 0, 336, .inl v_l)), (q_one, .inl (ca 0, 7, .inl y_one_24)), (q_two, .inl (ca 0, 7, .inl y_two_28)), (q_ways, .inl (ca 0, 49, .inl y_ways_32))] H → va_D A [(q_this, .inr (8, [.ref q_text, .int v_size, .int v_at, .ref q_read, .ref q_l, .ref q_stands, .ref q_kept, .int v_keptMany, .ref q_one, .ref q_two, .ref q_ways, .ref q_now, .ref q_then])), (q_l, .inl (ca 0, 336, .inl v_l)), (q_one, .inl (ca 0, 7, .inl y_one_24)), (q_two, .inl (ca 0, 7, .inl y_two_28)), (q_ways, .inl (ca 0, 49, .inl y_ways_32))] → va_S A s.heap H locs → lv_has ls 7 [(0, .ref q_this), (1, .int p1), (2, .int p2), (3, .int x3_11), (4, .int x4_12), (5, .int x5_13)] → W p l e (headSpec wsX9_from rm_X9_from).room s m args below meth c H locs 0 0 Q (F0 m 98 ls [.int z0_31]) := by
                intro z0_31 y_ways_32 H locs ls h hP hD hS hl
                rw [j_X9_from_98] at h
                refine lv_istore (lv' := [(6, .int z0_31), (0, .ref q_this), (1, .int p1), (2, .int p2), (3, .int x3_11), (4, .int x4_12), (5, .int x5_13)]) hx hb dX9_from_98 hl (by decide) rfl (fun ls hl => ?_)
                refine lv_iload hx hb dX9_from_100 (lv_at hl 0 rfl) ?_
                refine lv_aload_n hx hb dX9_from_102 rfl (lv_at hl 1 rfl) ?_
                refine va_get (D := D) (ci := 8) (v := .ref q_l) (C := RX9) (T := TX9) (N := 13) hx hb hts i_X9 hown hK hP 0 rfl rfl 4 (by decide) k_16 (fun _ h9 => h9) rfl dX9_from_103 ?_
                refine lv_sipush (v := (nI 303)) hx hb dX9_from_106 (by decide) ?_
                obtain ⟨hi_33, h⟩ := ck_el h
                refine va_iald hx hb hK hP 1 0 rfl rfl hi_33 dX9_from_109 ?_
                have hj_130 : ∀ (z0_34 : Int32) (H : Heap) (locs : List Loc) (ls : Array Slot), j_X9_from_130 x4_12 x5_13 (lpg (T := Int32 → Int32 → Int32 → (Nat → Int32) → (Nat → Int32) → (Nat → Int32) → Option (Int32 × (Nat → Int32) × (Nat → Int32) × (Nat → Int32))) (fun _ _ _ _ _ _ => none) (b_X9_from_46 p1 p2 v_l F) n) y_one_24 y_two_28 z0_31 y_ways_32 z0_34 = some (o_17, o_18, o_19, o_20) → va_P D vwCl [(q_this, .inr (8, [.ref q_text, .int v_size, .int v_at, .ref q_read, .ref q_l, .ref q_stands, .ref q_kept, .int v_keptMany, .ref q_one, .ref q_two, .ref q_ways, .ref q_now, .ref q_then])), (q_l, .inl (ca 0, 336, .inl v_l)), (q_one, .inl (ca 0, 7, .inl y_one_24)), (q_two, .inl (ca 0, 7, .inl y_two_28)), (q_ways, .inl (ca 0, 49, .inl y_ways_32))] H → va_D A [(q_this, .inr (8, [.ref q_text, .int v_size, .int v_at, .ref q_read, .ref q_l, .ref q_stands, .ref q_kept, .int v_keptMany, .ref q_one, .ref q_two, .ref q_ways, .ref q_now, .ref q_then])), (q_l, .inl (ca 0, 336, .inl v_l)), (q_one, .inl (ca 0, 7, .inl y_one_24)), (q_two, .inl (ca 0, 7, .inl y_two_28)), (q_ways, .inl (ca 0, 49, .inl y_ways_32))] → va_S A s.heap H locs → lv_has ls 7 [(0, .ref q_this), (1, .int p1), (2, .int p2), (4, .int x4_12), (5, .int x5_13), (6, .int z0_31)] → W p l e (headSpec wsX9_from rm_X9_from).room s m args below meth c H locs 0 0 Q (F0 m 130 ls [.int z0_34]) := by
                  intro z0_34 H locs ls h hP hD hS hl
                  rw [j_X9_from_130] at h
                  refine lv_istore_n (lv' := [(3, .int z0_34), (0, .ref q_this), (1, .int p1), (2, .int p2), (4, .int x4_12), (5, .int x5_13), (6, .int z0_31)]) hx hb dX9_from_130 rfl hl (by decide) rfl (fun ls hl => ?_)
                  refine lv_iload_n hx hb dX9_from_131 rfl (lv_at hl 0 rfl) ?_
                  refine lv_iload hx hb dX9_from_132 (lv_at hl 5 rfl) ?_
                  refine lv_icmp_ne (tgt := 142) hx hb dX9_from_134 (by decide) (fun c_35 => ?_) (fun c_35 => ?_)
                  · replace h := ifn_el c_35 h
                    refine lv_iload hx hb dX9_from_142 (lv_at hl 4 rfl) ?_
                    refine lv_istore (lv' := [(4, .int x4_12), (3, .int z0_34), (0, .ref q_this), (1, .int p1), (2, .int p2), (5, .int x5_13), (6, .int z0_31)]) hx hb dX9_from_144 hl (by decide) rfl (fun ls hl => ?_)
                    obtain ⟨x5_36, e_37, h⟩ := nm_el h
                    refine lv_iinc (v := x5_36) (lv' := [(5, .int x5_36), (4, .int x4_12), (3, .int z0_34), (0, .ref q_this), (1, .int p1), (2, .int p2), (6, .int z0_31)]) hx hb dX9_from_146 hl (k := 5) rfl (by rw [← e_37]; rfl) (by decide) rfl (fun ls hl => ?_)
                    refine lv_goto (tgt := 46) hx hb dX9_from_149 (by decide) ?_
                    exact ih _ _ _ _ _ _ _ _ _ _ _ _ _ h hex hP hD hS (lv_sub hl [3, 4, 5, 2, 1, 0] rfl)
                  · replace h := ifp_el c_35 h
                    refine lv_iload hx hb dX9_from_137 (lv_at hl 6 rfl) ?_
                    refine lv_goto (tgt := 144) hx hb dX9_from_139 (by decide) ?_
                    refine lv_istore (lv' := [(4, .int z0_31), (3, .int z0_34), (0, .ref q_this), (1, .int p1), (2, .int p2), (5, .int x5_13), (6, .int z0_31)]) hx hb dX9_from_144 hl (by decide) rfl (fun ls hl => ?_)
                    obtain ⟨x5_38, e_39, h⟩ := nm_el h
                    refine lv_iinc (v := x5_38) (lv' := [(5, .int x5_38), (4, .int z0_31), (3, .int z0_34), (0, .ref q_this), (1, .int p1), (2, .int p2), (6, .int z0_31)]) hx hb dX9_from_146 hl (k := 5) rfl (by rw [← e_39]; rfl) (by decide) rfl (fun ls hl => ?_)
                    refine lv_goto (tgt := 46) hx hb dX9_from_149 (by decide) ?_
                    exact ih _ _ _ _ _ _ _ _ _ _ _ _ _ h hex hP hD hS (lv_sub hl [3, 4, 5, 2, 1, 0] rfl)
                have hj_129 : ∀  (H : Heap) (locs : List Loc) (ls : Array Slot), j_X9_from_129 x3_11 x4_12 x5_13 (lpg (T := Int32 → Int32 → Int32 → (Nat → Int32) → (Nat → Int32) → (Nat → Int32) → Option (Int32 × (Nat → Int32) × (Nat → Int32) × (Nat → Int32))) (fun _ _ _ _ _ _ => none) (b_X9_from_46 p1 p2 v_l F) n) y_one_24 y_two_28 z0_31 y_ways_32  = some (o_17, o_18, o_19, o_20) → va_P D vwCl [(q_this, .inr (8, [.ref q_text, .int v_size, .int v_at, .ref q_read, .ref q_l, .ref q_stands, .ref q_kept, .int v_keptMany, .ref q_one, .ref q_two, .ref q_ways, .ref q_now, .ref q_then])), (q_l, .inl (ca 0, 336, .inl v_l)), (q_one, .inl (ca 0, 7, .inl y_one_24)), (q_two, .inl (ca 0, 7, .inl y_two_28)), (q_ways, .inl (ca 0, 49, .inl y_ways_32))] H → va_D A [(q_this, .inr (8, [.ref q_text, .int v_size, .int v_at, .ref q_read, .ref q_l, .ref q_stands, .ref q_kept, .int v_keptMany, .ref q_one, .ref q_two, .ref q_ways, .ref q_now, .ref q_then])), (q_l, .inl (ca 0, 336, .inl v_l)), (q_one, .inl (ca 0, 7, .inl y_one_24)), (q_two, .inl (ca 0, 7, .inl y_two_28)), (q_ways, .inl (ca 0, 49, .inl y_ways_32))] → va_S A s.heap H locs → lv_has ls 7 [(0, .ref q_this), (1, .int p1), (2, .int p2), (3, .int x3_11), (4, .int x4_12), (5, .int x5_13), (6, .int z0_31)] → W p l e (headSpec wsX9_from rm_X9_from).room s m args below meth c H locs 0 0 Q (F0 m 129 ls []) := by
                  intro  H locs ls h hP hD hS hl
                  rw [j_X9_from_129] at h
                  refine lv_iload_n hx hb dX9_from_129 rfl (lv_at hl 3 rfl) ?_
                  exact hj_130 _ _ _ _ h hP hD hS (lv_sub hl [0, 1, 2, 4, 5, 6] rfl)
                refine lv_icmp_lt (tgt := 129) hx hb dX9_from_110 (by decide) (fun c_40 => ?_) (fun c_40 => ?_)
                · replace h := ifp_el c_40 h
                  exact hj_129  _ _ _ h hP hD hS (lv_sub hl [1, 2, 3, 4, 5, 6, 0] rfl)
                · replace h := ifn_el c_40 h
                  refine lv_iload_n hx hb dX9_from_113 rfl (lv_at hl 4 rfl) ?_
                  have hj_124 : ∀  (H : Heap) (locs : List Loc) (ls : Array Slot), j_X9_from_124 x4_12 x5_13 (lpg (T := Int32 → Int32 → Int32 → (Nat → Int32) → (Nat → Int32) → (Nat → Int32) → Option (Int32 × (Nat → Int32) × (Nat → Int32) × (Nat → Int32))) (fun _ _ _ _ _ _ => none) (b_X9_from_46 p1 p2 v_l F) n) y_one_24 y_two_28 z0_31 y_ways_32  = some (o_17, o_18, o_19, o_20) → va_P D vwCl [(q_this, .inr (8, [.ref q_text, .int v_size, .int v_at, .ref q_read, .ref q_l, .ref q_stands, .ref q_kept, .int v_keptMany, .ref q_one, .ref q_two, .ref q_ways, .ref q_now, .ref q_then])), (q_l, .inl (ca 0, 336, .inl v_l)), (q_one, .inl (ca 0, 7, .inl y_one_24)), (q_two, .inl (ca 0, 7, .inl y_two_28)), (q_ways, .inl (ca 0, 49, .inl y_ways_32))] H → va_D A [(q_this, .inr (8, [.ref q_text, .int v_size, .int v_at, .ref q_read, .ref q_l, .ref q_stands, .ref q_kept, .int v_keptMany, .ref q_one, .ref q_two, .ref q_ways, .ref q_now, .ref q_then])), (q_l, .inl (ca 0, 336, .inl v_l)), (q_one, .inl (ca 0, 7, .inl y_one_24)), (q_two, .inl (ca 0, 7, .inl y_two_28)), (q_ways, .inl (ca 0, 49, .inl y_ways_32))] → va_S A s.heap H locs → lv_has ls 7 [(0, .ref q_this), (1, .int p1), (2, .int p2), (4, .int x4_12), (5, .int x5_13), (6, .int z0_31)] → W p l e (headSpec wsX9_from rm_X9_from).room s m args below meth c H locs 0 0 Q (F0 m 124 ls []) := by
                    intro  H locs ls h hP hD hS hl
                    rw [j_X9_from_124] at h
                    refine lv_iload hx hb dX9_from_124 (lv_at hl 4 rfl) ?_
                    refine lv_goto (tgt := 130) hx hb dX9_from_126 (by decide) ?_
                    exact hj_130 _ _ _ _ h hP hD hS (lv_sub hl [0, 1, 2, 3, 4, 5] rfl)
                  refine lv_if_lt (tgt := 124) hx hb dX9_from_114 (by decide) (fun c_41 => ?_) (fun c_41 => ?_)
                  · replace h := ifp_el c_41 h
                    exact hj_124  _ _ _ h hP hD hS (lv_sub hl [1, 2, 3, 5, 6, 0] rfl)
                  · replace h := ifn_el c_41 h
                    refine lv_iload hx hb dX9_from_117 (lv_at hl 0 rfl) ?_
                    refine lv_iload hx hb dX9_from_119 (lv_at hl 5 rfl) ?_
                    refine lv_icmp_le (tgt := 129) hx hb dX9_from_121 (by decide) (fun c_42 => ?_) (fun c_42 => ?_)
                    · replace h := ifp_el c_42 h
                      exact hj_129  _ _ _ h hP hD hS (lv_sub hl [1, 2, 3, 4, 5, 6, 0] rfl)
                    · replace h := ifn_el c_42 h
                      exact hj_124  _ _ _ h hP hD hS (lv_sub hl [1, 2, 3, 5, 6, 0] rfl)
              refine lv_if_ne (tgt := 94) hx hb dX9_from_87 (by decide) (fun c_43 => ?_) (fun c_43 => ?_)
              · replace h := ifn_el c_43 h
                refine lv_aload_n hx hb dX9_from_94 rfl (lv_at hl 0 rfl) ?_
                obtain ⟨r_44, y_ways_45, hg_46, h⟩ := bd2_el h
                refine kx_Vi (As := []) (rest := []) (wr := [(q_l, .inl (ca 0, 336, .inl v_l))]) (w1 := [(q_this, .inr (8, [.ref q_text, .int v_size, .int v_at, .ref q_read, .ref q_l, .ref q_stands, .ref q_kept, .int v_keptMany, .ref q_one, .ref q_two, .ref q_ways, .ref q_now, .ref q_then])), (q_one, .inl (ca 0, 7, .inl y_one_24)), (q_two, .inl (ca 0, 7, .inl y_two_28)), (q_ways, .inl (ca 0, 49, .inl y_ways_45))]) (wn := [(q_this, .inr (8, [.ref q_text, .int v_size, .int v_at, .ref q_read, .ref q_l, .ref q_stands, .ref q_kept, .int v_keptMany, .ref q_one, .ref q_two, .ref q_ways, .ref q_now, .ref q_then])), (q_l, .inl (ca 0, 336, .inl v_l)), (q_one, .inl (ca 0, 7, .inl y_one_24)), (q_two, .inl (ca 0, 7, .inl y_two_28)), (q_ways, .inl (ca 0, 49, .inl y_ways_45))]) ⟨hx, hb, hml, hown, hts⟩ (c_X9_likeOf l D ca F H.size q_this q_text q_read q_l q_stands q_kept q_one q_two q_ways q_now q_then v_size v_at v_keptMany y_one_24 y_two_28 y_ways_16 r_44 y_ways_45 hg_46) (cwV 0 hts gX9_from_X9_likeOf rfl rfl rfl (by decide +kernel) ⟨(Nat.le_of_ble_eq_true rfl), (Nat.le_of_ble_eq_true rfl)⟩) hK hP hD hS hA (ci := 8) (q0 := 0) rfl rfl [0, 2, 3, 4] [1] [1, 0, 2, 3, 4] rfl rfl rfl rfl (by decide) rfl rfl rfl hl.1 rfl (Nat.le_of_ble_eq_true rfl) dX9_from_95 ⟨Nat.zero_le _, Nat.zero_le _⟩ (fun H locs hP hD hS => ?_)
                exact hj_98 _ _ _ _ _ h hP hD hS (lv_sub hl [0, 1, 2, 3, 4, 5] rfl)
              · replace h := ifp_el c_43 h
                refine lv_iconst (v := (-1 : Int32)) hx hb dX9_from_90 (by decide) ?_
                refine lv_goto (tgt := 98) hx hb dX9_from_91 (by decide) ?_
                exact hj_98 _ _ _ _ _ h hP hD hS (lv_sub hl [0, 1, 2, 3, 4, 5] rfl)
        exact hlp F (-4 : Int32) (nI 0) (nI 0) v_one v_two v_ways o_17 o_18 o_19 o_20 H locs ls hL hex hP hD hS (lv_sub hl [3, 4, 5, 2, 1, 0] rfl)
      · replace h := ifp_el c_10 h
        refine lv_bipush (v := (-2 : Int32)) hx hb dX9_from_34 (by decide) ?_
        cases h
        rw [← hQe]
        exact W.iret hx hb hr (fun t ht hW => ⟨⟨_, (), rfl, rfl, by rw [ht]; exact hP, va_K.moved hW.alike hK, hD⟩, hS.F ht⟩) hS.2.2 dX9_from_36
    · replace h := ifp_el c_6 h
      refine lv_iconst (v := (-1 : Int32)) hx hb dX9_from_19 (by decide) ?_
      cases h
      rw [← hQe]
      exact W.iret hx hb hr (fun t ht hW => ⟨⟨_, (), rfl, rfl, by rw [ht]; exact hP, va_K.moved hW.alike hK, hD⟩, hS.F ht⟩) hS.2.2 dX9_from_20
def b_X9_chance_53 (p1 : Int32) (p2 : Int32) (v_l : Nat → Int32) (F : Nat) (x6_12 : Int32) (rec53 : Int32 → Int32 → Int32 → (Nat → Int32) → (Nat → Int32) → (Nat → Int32) → Option (Int32 × Int32 × (Nat → Int32) × (Nat → Int32) × (Nat → Int32))) (x4_22 : Int32) (x5_23 : Int32) (x7_24 : Int32) (y_one_25 : Nat → Int32) (y_two_26 : Nat → Int32) (y_ways_27 : Nat → Int32) : Option (Int32 × Int32 × (Nat → Int32) × (Nat → Int32) × (Nat → Int32)) := (if (nI 8) ≤ x7_24 then some (x4_22, x5_23, y_one_25, y_two_26, y_ways_27) else (if x6_12 = x7_24 then nm (x7_24 + (nI 1)) (fun x7_35 => rec53 x4_22 x5_23 x7_35 y_one_25 y_two_26 y_ways_27) else bd1 (D_X9_earAt p1 x6_12) (fun r_37 => ck 336 r_37 ((if (v_l r_37.toNatClampNeg) ≤ 0 then nm (x7_24 + (nI 1)) (fun x7_41 => rec53 x4_22 x5_23 x7_41 y_one_25 y_two_26 y_ways_27) else bd1 (D_X9_wordAt p2 x7_24) (fun r_43 => ck 336 r_43 ((if (v_l r_43.toNatClampNeg) ≤ 0 then nm (x7_24 + (nI 1)) (fun x7_47 => rec53 x4_22 x5_23 x7_47 y_one_25 y_two_26 y_ways_27) else bd1 (D_X9_earAt p1 x6_12) (fun r_49 => bd1 (D_X9_say F 7 r_49 (-1 : Int32) v_l y_one_25) (fun y_one_51 => bd1 (D_X9_wordAt p2 x7_24) (fun r_53 => bd1 (D_X9_say F 7 r_53 (-1 : Int32) v_l y_two_26) (fun y_two_55 => nm (x5_23 + (nI 1)) (fun x5_57 => bd2 (D_X9_likeOf F y_one_51 y_two_55 y_ways_27) (fun r_59 y_ways_60 => ck 336 (nI 303) ((if r_59 < (v_l (nI 303).toNatClampNeg) then nm (x4_22 + (nI 0)) (fun x4_64 => nm (x7_24 + (nI 1)) (fun x7_65 => rec53 x4_64 x5_57 x7_65 y_one_51 y_two_55 y_ways_60)) else nm (x4_22 + (nI 1)) (fun x4_67 => nm (x7_24 + (nI 1)) (fun x7_68 => rec53 x4_67 x5_57 x7_68 y_one_51 y_two_55 y_ways_60))))))))))))))))))
def b_X9_chance_43 (p1 : Int32) (p2 : Int32) (v_l : Nat → Int32) (F : Nat) (rec43 : Int32 → Int32 → Int32 → (Nat → Int32) → (Nat → Int32) → (Nat → Int32) → Option (Int32 × Int32 × (Nat → Int32) × (Nat → Int32) × (Nat → Int32))) (x4_10 : Int32) (x5_11 : Int32) (x6_12 : Int32) (y_one_13 : Nat → Int32) (y_two_14 : Nat → Int32) (y_ways_15 : Nat → Int32) : Option (Int32 × Int32 × (Nat → Int32) × (Nat → Int32) × (Nat → Int32)) := (if (nI 8) ≤ x6_12 then some (x4_10, x5_11, y_one_13, y_two_14, y_ways_15) else bd5 (lpg (T := Int32 → Int32 → Int32 → (Nat → Int32) → (Nat → Int32) → (Nat → Int32) → Option (Int32 × Int32 × (Nat → Int32) × (Nat → Int32) × (Nat → Int32))) (fun _ _ _ _ _ _ => none) (b_X9_chance_53 p1 p2 v_l F x6_12) F x4_10 x5_11 (nI 0) y_one_13 y_two_14 y_ways_15) (fun o_28 o_29 o_30 o_31 o_32 => nm (x6_12 + (nI 1)) (fun x6_70 => rec43 o_28 o_29 x6_70 o_30 o_31 o_32)))
def D_X9_chance (F : Nat) (p1 : Int32) (p2 : Int32) (p3 : Int32) (v_l : Nat → Int32) (v_one : Nat → Int32) (v_two : Nat → Int32) (v_ways : Nat → Int32) : Option (Int32 × (Nat → Int32) × (Nat → Int32) × (Nat → Int32)) := bd1 (D_X9_in p1.toInt64 (lN 0) (lN 2)) (fun r_1 => (if r_1 = 0 then some ((-1 : Int32), v_one, v_two, v_ways) else bd1 (D_X9_in p2.toInt64 (lN 0) (lN 1)) (fun r_4 => (if r_4 = 0 then some ((-1 : Int32), v_one, v_two, v_ways) else bd1 (D_X9_in p3.toInt64 (lN 0) (lN 1)) (fun r_7 => (if r_7 = 0 then some ((-1 : Int32), v_one, v_two, v_ways) else bd5 (lpg (T := Int32 → Int32 → Int32 → (Nat → Int32) → (Nat → Int32) → (Nat → Int32) → Option (Int32 × Int32 × (Nat → Int32) × (Nat → Int32) × (Nat → Int32))) (fun _ _ _ _ _ _ => none) (b_X9_chance_43 p1 p2 v_l F) F (nI 0) (nI 0) (nI 0) v_one v_two v_ways) (fun o_16 o_17 o_18 o_19 o_20 => (if p3 = 0 then some (o_16, o_18, o_19, o_20) else some (o_17, o_18, o_19, o_20)))))))))
abbrev rm_X9_chance : Room := { frames := 3, cells := 0, slots := 0, locals := 71 }
set_option maxHeartbeats 4000000 in
set_option maxRecDepth 100000 in
theorem c_X9_chance (l : Launch) (D : va_G) (ca : Nat → ClassId) (F : Nat) (sz : Nat) (q_this q_text q_read q_l q_stands q_kept q_one q_two q_ways q_now q_then : Nat) (p1 : Int32) (p2 : Int32) (p3 : Int32) (v_size : Int32) (v_at : Int32) (v_keptMany : Int32) (v_l : Nat → Int32) (v_one : Nat → Int32) (v_two : Nat → Int32) (v_ways : Nat → Int32) (r : Int32) (o_one : Nat → Int32) (o_two : Nat → Int32) (o_ways : Nat → Int32) (h : D_X9_chance F p1 p2 p3 v_l v_one v_two v_ways = some (r, o_one, o_two, o_ways)) : Met l yX9_chance wsX9_chance rm_X9_chance (va_Pc [.ref q_this, .int p1, .int p2, .int p3] (kPre D ca [(q_this, .inr (8, [.ref q_text, .int v_size, .int v_at, .ref q_read, .ref q_l, .ref q_stands, .ref q_kept, .int v_keptMany, .ref q_one, .ref q_two, .ref q_ways, .ref q_now, .ref q_then])), (q_l, .inl (ca 0, 336, .inl v_l)), (q_one, .inl (ca 0, 7, .inl v_one)), (q_two, .inl (ca 0, 7, .inl v_two)), (q_ways, .inl (ca 0, 49, .inl v_ways))] sz)) (kQi D ca (va_A [(q_this, .inr (8, [.ref q_text, .int v_size, .int v_at, .ref q_read, .ref q_l, .ref q_stands, .ref q_kept, .int v_keptMany, .ref q_one, .ref q_two, .ref q_ways, .ref q_now, .ref q_then])), (q_l, .inl (ca 0, 336, .inl v_l)), (q_one, .inl (ca 0, 7, .inl v_one)), (q_two, .inl (ca 0, 7, .inl v_two)), (q_ways, .inl (ca 0, 49, .inl v_ways))] sz) [(q_this, .inr (8, [.ref q_text, .int v_size, .int v_at, .ref q_read, .ref q_l, .ref q_stands, .ref q_kept, .int v_keptMany, .ref q_one, .ref q_two, .ref q_ways, .ref q_now, .ref q_then])), (q_l, .inl (ca 0, 336, .inl v_l)), (q_one, .inl (ca 0, 7, .inl o_one)), (q_two, .inl (ca 0, 7, .inl o_two)), (q_ways, .inl (ca 0, 49, .inl o_ways))] r) 0 0 (va_A [(q_this, .inr (8, [.ref q_text, .int v_size, .int v_at, .ref q_read, .ref q_l, .ref q_stands, .ref q_kept, .int v_keptMany, .ref q_one, .ref q_two, .ref q_ways, .ref q_now, .ref q_then])), (q_l, .inl (ca 0, 336, .inl v_l)), (q_one, .inl (ca 0, 7, .inl v_one)), (q_two, .inl (ca 0, 7, .inl v_two)), (q_ways, .inl (ca 0, 49, .inl v_ways))] sz) := by
  refine Met.ofW (cc := cX9_chance) (maxL := 8) (ret := (some .int)) (by decide +kernel) rfl ?_
  intro p e s m args below meth c s₁ B hml hv
  obtain ⟨rfl, hsz, hP, hK, hD0⟩ := hv
  have hx := B.exec
  have hb := B.bytes
  have hr := B.returns
  have hts := atoms_spec (ws := wsX9_chance) B.pre
  have hown : s.vm.findClass RX9 = some m.cls := findClass_of_methodNamed B.named
  have hlocks := B.notSynchronized
  clear B
  subst hsz
  have hD := hD0.self (sz := s.heap.size)
  generalize hAe : va_A [(q_this, .inr (8, [.ref q_text, .int v_size, .int v_at, .ref q_read, .ref q_l, .ref q_stands, .ref q_kept, .int v_keptMany, .ref q_one, .ref q_two, .ref q_ways, .ref q_now, .ref q_then])), (q_l, .inl (ca 0, 336, .inl v_l)), (q_one, .inl (ca 0, 7, .inl v_one)), (q_two, .inl (ca 0, 7, .inl v_two)), (q_ways, .inl (ca 0, 49, .inl v_ways))] s.heap.size = A at hD ⊢
  have hA : ∀ q : Nat, s.heap.size ≤ q → A q := fun q h => by rw [← hAe]; exact Or.inr h
  have hS : va_S A s.heap s.heap [] := va_S.rf
  have hl := lv_entry ([.ref q_this, .int p1, .int p2, .int p3]) (n := 8) (Nat.le_of_ble_eq_true rfl)
  rw [lg_entry_eq]
  generalize (lg_sl ([.ref q_this, .int p1, .int p2, .int p3]) ++ List.replicate (8 - (lg_sl ([.ref q_this, .int p1, .int p2, .int p3])).length) Slot.unset).toArray = ls at hl ⊢
  have hl : lv_has ls 8 [(0, .ref q_this), (1, .int p1), (2, .int p2), (3, .int p3)] := hl
  generalize ([.ref q_this, .int p1, .int p2, .int p3] : List Value).toArray = args at hts ⊢
  generalize hQe : MQ below (kQi D ca (A) [(q_this, .inr (8, [.ref q_text, .int v_size, .int v_at, .ref q_read, .ref q_l, .ref q_stands, .ref q_kept, .int v_keptMany, .ref q_one, .ref q_two, .ref q_ways, .ref q_now, .ref q_then])), (q_l, .inl (ca 0, 336, .inl v_l)), (q_one, .inl (ca 0, 7, .inl o_one)), (q_two, .inl (ca 0, 7, .inl o_two)), (q_ways, .inl (ca 0, 49, .inl o_ways))] r) args s 0 0 A = Q
  have k_228 := hts (.constantLong RX9 228 (lN 2)) (by decide +kernel)
  have i_X9 : ∀ w ∈ u_ws RX9 TX9 13, w ∈ wsX9_chance := by decide +kernel
  have k_16 := hts (.fieldLink RX9 16 "TradeWordsModel" "l" "[I") (by decide +kernel)
  have k_25 := hts (.fieldLink RX9 25 "TradeWordsModel" "one" "[I") (by decide +kernel)
  have k_28 := hts (.fieldLink RX9 28 "TradeWordsModel" "two" "[I") (by decide +kernel)
  rw [D_X9_chance] at h
  refine lv_iload_n hx hb dX9_chance_0 rfl (lv_at hl 1 rfl) ?_
  refine lv_i2l hx hb dX9_chance_1 rfl ?_
  refine lv_lconst (v := (lN 0)) hx hb dX9_chance_2 (by decide) ?_
  refine lv_ldc2 hx hb hown k_228 dX9_chance_3 ?_
  obtain ⟨r_1, hg_2, h⟩ := bd1_el h
  refine kx_Si (As := [.long p1.toInt64, .long (lN 0), .long (lN 2)]) (rest := []) (wr := [(q_this, .inr (8, [.ref q_text, .int v_size, .int v_at, .ref q_read, .ref q_l, .ref q_stands, .ref q_kept, .int v_keptMany, .ref q_one, .ref q_two, .ref q_ways, .ref q_now, .ref q_then])), (q_l, .inl (ca 0, 336, .inl v_l)), (q_one, .inl (ca 0, 7, .inl v_one)), (q_two, .inl (ca 0, 7, .inl v_two)), (q_ways, .inl (ca 0, 49, .inl v_ways))]) (w1 := []) (wn := [(q_this, .inr (8, [.ref q_text, .int v_size, .int v_at, .ref q_read, .ref q_l, .ref q_stands, .ref q_kept, .int v_keptMany, .ref q_one, .ref q_two, .ref q_ways, .ref q_now, .ref q_then])), (q_l, .inl (ca 0, 336, .inl v_l)), (q_one, .inl (ca 0, 7, .inl v_one)), (q_two, .inl (ca 0, 7, .inl v_two)), (q_ways, .inl (ca 0, 49, .inl v_ways))]) ⟨hx, hb, hml, hown, hts⟩ (c_X9_in l D ca s.heap.size p1.toInt64 (lN 0) (lN 2) r_1 hg_2) (va_cwS 3 hts gX9_chance_X9_in rfl rfl rfl (by decide +kernel) ⟨(Nat.le_of_ble_eq_true rfl), (Nat.le_of_ble_eq_true rfl)⟩) hK hP hD hS hA [] [0, 1, 2, 3, 4] [0, 1, 2, 3, 4] rfl rfl rfl rfl (by decide) rfl rfl rfl hl.1 rfl (Nat.le_of_ble_eq_true rfl) dX9_chance_6 ⟨Nat.zero_le _, Nat.zero_le _⟩ (fun H locs hP hD hS => ?_)
  refine lv_if_eq (tgt := 32) hx hb dX9_chance_9 (by decide) (fun c_3 => ?_) (fun c_3 => ?_)
  · replace h := ifp_el c_3 h
    refine lv_iconst (v := (-1 : Int32)) hx hb dX9_chance_32 (by decide) ?_
    cases h
    rw [← hQe]
    exact W.iret hx hb hr (fun t ht hW => ⟨⟨_, (), rfl, rfl, by rw [ht]; exact hP, va_K.moved hW.alike hK, hD⟩, hS.F ht⟩) hS.2.2 dX9_chance_33
  · replace h := ifn_el c_3 h
    refine lv_iload_n hx hb dX9_chance_12 rfl (lv_at hl 2 rfl) ?_
    refine lv_i2l hx hb dX9_chance_13 rfl ?_
    refine lv_lconst (v := (lN 0)) hx hb dX9_chance_14 (by decide) ?_
    refine lv_lconst (v := (lN 1)) hx hb dX9_chance_15 (by decide) ?_
    obtain ⟨r_4, hg_5, h⟩ := bd1_el h
    refine kx_Si (As := [.long p2.toInt64, .long (lN 0), .long (lN 1)]) (rest := []) (wr := [(q_this, .inr (8, [.ref q_text, .int v_size, .int v_at, .ref q_read, .ref q_l, .ref q_stands, .ref q_kept, .int v_keptMany, .ref q_one, .ref q_two, .ref q_ways, .ref q_now, .ref q_then])), (q_l, .inl (ca 0, 336, .inl v_l)), (q_one, .inl (ca 0, 7, .inl v_one)), (q_two, .inl (ca 0, 7, .inl v_two)), (q_ways, .inl (ca 0, 49, .inl v_ways))]) (w1 := []) (wn := [(q_this, .inr (8, [.ref q_text, .int v_size, .int v_at, .ref q_read, .ref q_l, .ref q_stands, .ref q_kept, .int v_keptMany, .ref q_one, .ref q_two, .ref q_ways, .ref q_now, .ref q_then])), (q_l, .inl (ca 0, 336, .inl v_l)), (q_one, .inl (ca 0, 7, .inl v_one)), (q_two, .inl (ca 0, 7, .inl v_two)), (q_ways, .inl (ca 0, 49, .inl v_ways))]) ⟨hx, hb, hml, hown, hts⟩ (c_X9_in l D ca H.size p2.toInt64 (lN 0) (lN 1) r_4 hg_5) (va_cwS 3 hts gX9_chance_X9_in rfl rfl rfl (by decide +kernel) ⟨(Nat.le_of_ble_eq_true rfl), (Nat.le_of_ble_eq_true rfl)⟩) hK hP hD hS hA [] [0, 1, 2, 3, 4] [0, 1, 2, 3, 4] rfl rfl rfl rfl (by decide) rfl rfl rfl hl.1 rfl (Nat.le_of_ble_eq_true rfl) dX9_chance_16 ⟨Nat.zero_le _, Nat.zero_le _⟩ (fun H locs hP hD hS => ?_)
    refine lv_if_eq (tgt := 32) hx hb dX9_chance_19 (by decide) (fun c_6 => ?_) (fun c_6 => ?_)
    · replace h := ifp_el c_6 h
      refine lv_iconst (v := (-1 : Int32)) hx hb dX9_chance_32 (by decide) ?_
      cases h
      rw [← hQe]
      exact W.iret hx hb hr (fun t ht hW => ⟨⟨_, (), rfl, rfl, by rw [ht]; exact hP, va_K.moved hW.alike hK, hD⟩, hS.F ht⟩) hS.2.2 dX9_chance_33
    · replace h := ifn_el c_6 h
      refine lv_iload_n hx hb dX9_chance_22 rfl (lv_at hl 3 rfl) ?_
      refine lv_i2l hx hb dX9_chance_23 rfl ?_
      refine lv_lconst (v := (lN 0)) hx hb dX9_chance_24 (by decide) ?_
      refine lv_lconst (v := (lN 1)) hx hb dX9_chance_25 (by decide) ?_
      obtain ⟨r_7, hg_8, h⟩ := bd1_el h
      refine kx_Si (As := [.long p3.toInt64, .long (lN 0), .long (lN 1)]) (rest := []) (wr := [(q_this, .inr (8, [.ref q_text, .int v_size, .int v_at, .ref q_read, .ref q_l, .ref q_stands, .ref q_kept, .int v_keptMany, .ref q_one, .ref q_two, .ref q_ways, .ref q_now, .ref q_then])), (q_l, .inl (ca 0, 336, .inl v_l)), (q_one, .inl (ca 0, 7, .inl v_one)), (q_two, .inl (ca 0, 7, .inl v_two)), (q_ways, .inl (ca 0, 49, .inl v_ways))]) (w1 := []) (wn := [(q_this, .inr (8, [.ref q_text, .int v_size, .int v_at, .ref q_read, .ref q_l, .ref q_stands, .ref q_kept, .int v_keptMany, .ref q_one, .ref q_two, .ref q_ways, .ref q_now, .ref q_then])), (q_l, .inl (ca 0, 336, .inl v_l)), (q_one, .inl (ca 0, 7, .inl v_one)), (q_two, .inl (ca 0, 7, .inl v_two)), (q_ways, .inl (ca 0, 49, .inl v_ways))]) ⟨hx, hb, hml, hown, hts⟩ (c_X9_in l D ca H.size p3.toInt64 (lN 0) (lN 1) r_7 hg_8) (va_cwS 3 hts gX9_chance_X9_in rfl rfl rfl (by decide +kernel) ⟨(Nat.le_of_ble_eq_true rfl), (Nat.le_of_ble_eq_true rfl)⟩) hK hP hD hS hA [] [0, 1, 2, 3, 4] [0, 1, 2, 3, 4] rfl rfl rfl rfl (by decide) rfl rfl rfl hl.1 rfl (Nat.le_of_ble_eq_true rfl) dX9_chance_26 ⟨Nat.zero_le _, Nat.zero_le _⟩ (fun H locs hP hD hS => ?_)
      refine lv_if_ne (tgt := 34) hx hb dX9_chance_29 (by decide) (fun c_9 => ?_) (fun c_9 => ?_)
      · replace h := ifn_el c_9 h
        refine lv_iconst (v := (nI 0)) hx hb dX9_chance_34 (by decide) ?_
        refine lv_istore (lv' := [(4, .int (nI 0)), (0, .ref q_this), (1, .int p1), (2, .int p2), (3, .int p3)]) hx hb dX9_chance_35 hl (by decide) rfl (fun ls hl => ?_)
        refine lv_iconst (v := (nI 0)) hx hb dX9_chance_37 (by decide) ?_
        refine lv_istore (lv' := [(5, .int (nI 0)), (4, .int (nI 0)), (0, .ref q_this), (1, .int p1), (2, .int p2), (3, .int p3)]) hx hb dX9_chance_38 hl (by decide) rfl (fun ls hl => ?_)
        refine lv_iconst (v := (nI 0)) hx hb dX9_chance_40 (by decide) ?_
        refine lv_istore (lv' := [(6, .int (nI 0)), (5, .int (nI 0)), (4, .int (nI 0)), (0, .ref q_this), (1, .int p1), (2, .int p2), (3, .int p3)]) hx hb dX9_chance_41 hl (by decide) rfl (fun ls hl => ?_)
        obtain ⟨o_16, o_17, o_18, o_19, o_20, hL, h⟩ := bd5_el h
        have hex : ∀ (H : Heap) (locs : List Loc) (ls : Array Slot), va_P D vwCl [(q_this, .inr (8, [.ref q_text, .int v_size, .int v_at, .ref q_read, .ref q_l, .ref q_stands, .ref q_kept, .int v_keptMany, .ref q_one, .ref q_two, .ref q_ways, .ref q_now, .ref q_then])), (q_l, .inl (ca 0, 336, .inl v_l)), (q_one, .inl (ca 0, 7, .inl o_18)), (q_two, .inl (ca 0, 7, .inl o_19)), (q_ways, .inl (ca 0, 49, .inl o_20))] H → va_D A [(q_this, .inr (8, [.ref q_text, .int v_size, .int v_at, .ref q_read, .ref q_l, .ref q_stands, .ref q_kept, .int v_keptMany, .ref q_one, .ref q_two, .ref q_ways, .ref q_now, .ref q_then])), (q_l, .inl (ca 0, 336, .inl v_l)), (q_one, .inl (ca 0, 7, .inl o_18)), (q_two, .inl (ca 0, 7, .inl o_19)), (q_ways, .inl (ca 0, 49, .inl o_20))] → va_S A s.heap H locs → lv_has ls 8 [(3, .int p3), (4, .int o_16), (5, .int o_17)] → W p l e (headSpec wsX9_chance rm_X9_chance).room s m args below meth c H locs 0 0 Q (F0 m 165 ls []) := by
          intro H locs ls hP hD hS hl
          refine lv_iload_n hx hb dX9_chance_165 rfl (lv_at hl 0 rfl) ?_
          refine lv_if_ne (tgt := 174) hx hb dX9_chance_166 (by decide) (fun c_72 => ?_) (fun c_72 => ?_)
          · replace h := ifn_el c_72 h
            refine lv_iload hx hb dX9_chance_174 (lv_at hl 2 rfl) ?_
            cases h
            rw [← hQe]
            exact W.iret hx hb hr (fun t ht hW => ⟨⟨_, (), rfl, rfl, by rw [ht]; exact hP, va_K.moved hW.alike hK, hD⟩, hS.F ht⟩) hS.2.2 dX9_chance_176
          · replace h := ifp_el c_72 h
            refine lv_iload hx hb dX9_chance_169 (lv_at hl 1 rfl) ?_
            refine lv_goto (tgt := 176) hx hb dX9_chance_171 (by decide) ?_
            cases h
            rw [← hQe]
            exact W.iret hx hb hr (fun t ht hW => ⟨⟨_, (), rfl, rfl, by rw [ht]; exact hP, va_K.moved hW.alike hK, hD⟩, hS.F ht⟩) hS.2.2 dX9_chance_176
        have hlp : ∀ (n : Nat) (x4_10 : Int32) (x5_11 : Int32) (x6_12 : Int32) (y_one_13 : Nat → Int32) (y_two_14 : Nat → Int32) (y_ways_15 : Nat → Int32) (o_16 : Int32) (o_17 : Int32) (o_18 : Nat → Int32) (o_19 : Nat → Int32) (o_20 : Nat → Int32) (H : Heap) (locs : List Loc) (ls : Array Slot), lpg (T := Int32 → Int32 → Int32 → (Nat → Int32) → (Nat → Int32) → (Nat → Int32) → Option (Int32 × Int32 × (Nat → Int32) × (Nat → Int32) × (Nat → Int32))) (fun _ _ _ _ _ _ => none) (b_X9_chance_43 p1 p2 v_l F) n x4_10 x5_11 x6_12 y_one_13 y_two_14 y_ways_15 = some (o_16, o_17, o_18, o_19, o_20) → (∀ (H : Heap) (locs : List Loc) (ls : Array Slot), va_P D vwCl [(q_this, .inr (8, [.ref q_text, .int v_size, .int v_at, .ref q_read, .ref q_l, .ref q_stands, .ref q_kept, .int v_keptMany, .ref q_one, .ref q_two, .ref q_ways, .ref q_now, .ref q_then])), (q_l, .inl (ca 0, 336, .inl v_l)), (q_one, .inl (ca 0, 7, .inl o_18)), (q_two, .inl (ca 0, 7, .inl o_19)), (q_ways, .inl (ca 0, 49, .inl o_20))] H → va_D A [(q_this, .inr (8, [.ref q_text, .int v_size, .int v_at, .ref q_read, .ref q_l, .ref q_stands, .ref q_kept, .int v_keptMany, .ref q_one, .ref q_two, .ref q_ways, .ref q_now, .ref q_then])), (q_l, .inl (ca 0, 336, .inl v_l)), (q_one, .inl (ca 0, 7, .inl o_18)), (q_two, .inl (ca 0, 7, .inl o_19)), (q_ways, .inl (ca 0, 49, .inl o_20))] → va_S A s.heap H locs → lv_has ls 8 [(3, .int p3), (4, .int o_16), (5, .int o_17)] → W p l e (headSpec wsX9_chance rm_X9_chance).room s m args below meth c H locs 0 0 Q (F0 m 165 ls [])) → va_P D vwCl [(q_this, .inr (8, [.ref q_text, .int v_size, .int v_at, .ref q_read, .ref q_l, .ref q_stands, .ref q_kept, .int v_keptMany, .ref q_one, .ref q_two, .ref q_ways, .ref q_now, .ref q_then])), (q_l, .inl (ca 0, 336, .inl v_l)), (q_one, .inl (ca 0, 7, .inl y_one_13)), (q_two, .inl (ca 0, 7, .inl y_two_14)), (q_ways, .inl (ca 0, 49, .inl y_ways_15))] H → va_D A [(q_this, .inr (8, [.ref q_text, .int v_size, .int v_at, .ref q_read, .ref q_l, .ref q_stands, .ref q_kept, .int v_keptMany, .ref q_one, .ref q_two, .ref q_ways, .ref q_now, .ref q_then])), (q_l, .inl (ca 0, 336, .inl v_l)), (q_one, .inl (ca 0, 7, .inl y_one_13)), (q_two, .inl (ca 0, 7, .inl y_two_14)), (q_ways, .inl (ca 0, 49, .inl y_ways_15))] → va_S A s.heap H locs → lv_has ls 8 [(0, .ref q_this), (1, .int p1), (2, .int p2), (3, .int p3), (4, .int x4_10), (5, .int x5_11), (6, .int x6_12)] → W p l e (headSpec wsX9_chance rm_X9_chance).room s m args below meth c H locs 0 0 Q (F0 m 43 ls []) := by
          intro n
          induction n with
          | zero => intro x4_10 x5_11 x6_12 y_one_13 y_two_14 y_ways_15 o_16 o_17 o_18 o_19 o_20 H locs ls h; have h : (none : Option (Int32 × Int32 × (Nat → Int32) × (Nat → Int32) × (Nat → Int32))) = some _ := h; cases h
          | succ n ih =>
            intro x4_10 x5_11 x6_12 y_one_13 y_two_14 y_ways_15 o_16 o_17 o_18 o_19 o_20 H locs ls h hex hP hD hS hl
            rw [lpg_succ, b_X9_chance_43] at h
            refine lv_iload hx hb dX9_chance_43 (lv_at hl 6 rfl) ?_
            refine lv_bipush (v := (nI 8)) hx hb dX9_chance_45 (by decide) ?_
            refine lv_icmp_ge (tgt := 165) hx hb dX9_chance_47 (by decide) (fun c_21 => ?_) (fun c_21 => ?_)
            · replace h := ifp_el c_21 h
              cases h
              exact hex _ _ _ hP hD hS (lv_sub hl [3, 4, 5] rfl)
            · replace h := ifn_el c_21 h
              refine lv_iconst (v := (nI 0)) hx hb dX9_chance_50 (by decide) ?_
              refine lv_istore (lv' := [(7, .int (nI 0)), (0, .ref q_this), (1, .int p1), (2, .int p2), (3, .int p3), (4, .int x4_10), (5, .int x5_11), (6, .int x6_12)]) hx hb dX9_chance_51 hl (by decide) rfl (fun ls hl => ?_)
              obtain ⟨o_28, o_29, o_30, o_31, o_32, hL, h⟩ := bd5_el h
              have hex : ∀ (H : Heap) (locs : List Loc) (ls : Array Slot), va_P D vwCl [(q_this, .inr (8, [.ref q_text, .int v_size, .int v_at, .ref q_read, .ref q_l, .ref q_stands, .ref q_kept, .int v_keptMany, .ref q_one, .ref q_two, .ref q_ways, .ref q_now, .ref q_then])), (q_l, .inl (ca 0, 336, .inl v_l)), (q_one, .inl (ca 0, 7, .inl o_30)), (q_two, .inl (ca 0, 7, .inl o_31)), (q_ways, .inl (ca 0, 49, .inl o_32))] H → va_D A [(q_this, .inr (8, [.ref q_text, .int v_size, .int v_at, .ref q_read, .ref q_l, .ref q_stands, .ref q_kept, .int v_keptMany, .ref q_one, .ref q_two, .ref q_ways, .ref q_now, .ref q_then])), (q_l, .inl (ca 0, 336, .inl v_l)), (q_one, .inl (ca 0, 7, .inl o_30)), (q_two, .inl (ca 0, 7, .inl o_31)), (q_ways, .inl (ca 0, 49, .inl o_32))] → va_S A s.heap H locs → lv_has ls 8 [(0, .ref q_this), (1, .int p1), (2, .int p2), (3, .int p3), (4, .int o_28), (5, .int o_29), (6, .int x6_12)] → W p l e (headSpec wsX9_chance rm_X9_chance).room s m args below meth c H locs 0 0 Q (F0 m 159 ls []) := by
                intro H locs ls hP hD hS hl
                obtain ⟨x6_70, e_71, h⟩ := nm_el h
                refine lv_iinc (v := x6_70) (lv' := [(6, .int x6_70), (0, .ref q_this), (1, .int p1), (2, .int p2), (3, .int p3), (4, .int o_28), (5, .int o_29)]) hx hb dX9_chance_159 hl (k := 6) rfl (by rw [← e_71]; rfl) (by decide) rfl (fun ls hl => ?_)
                refine lv_goto (tgt := 43) hx hb dX9_chance_162 (by decide) ?_
                exact ih _ _ _ _ _ _ _ _ _ _ _ _ _ _ h hex hP hD hS (lv_sub hl [1, 2, 3, 4, 5, 6, 0] rfl)
              have hlp : ∀ (n : Nat) (x4_22 : Int32) (x5_23 : Int32) (x7_24 : Int32) (y_one_25 : Nat → Int32) (y_two_26 : Nat → Int32) (y_ways_27 : Nat → Int32) (o_28 : Int32) (o_29 : Int32) (o_30 : Nat → Int32) (o_31 : Nat → Int32) (o_32 : Nat → Int32) (H : Heap) (locs : List Loc) (ls : Array Slot), lpg (T := Int32 → Int32 → Int32 → (Nat → Int32) → (Nat → Int32) → (Nat → Int32) → Option (Int32 × Int32 × (Nat → Int32) × (Nat → Int32) × (Nat → Int32))) (fun _ _ _ _ _ _ => none) (b_X9_chance_53 p1 p2 v_l F x6_12) n x4_22 x5_23 x7_24 y_one_25 y_two_26 y_ways_27 = some (o_28, o_29, o_30, o_31, o_32) → (∀ (H : Heap) (locs : List Loc) (ls : Array Slot), va_P D vwCl [(q_this, .inr (8, [.ref q_text, .int v_size, .int v_at, .ref q_read, .ref q_l, .ref q_stands, .ref q_kept, .int v_keptMany, .ref q_one, .ref q_two, .ref q_ways, .ref q_now, .ref q_then])), (q_l, .inl (ca 0, 336, .inl v_l)), (q_one, .inl (ca 0, 7, .inl o_30)), (q_two, .inl (ca 0, 7, .inl o_31)), (q_ways, .inl (ca 0, 49, .inl o_32))] H → va_D A [(q_this, .inr (8, [.ref q_text, .int v_size, .int v_at, .ref q_read, .ref q_l, .ref q_stands, .ref q_kept, .int v_keptMany, .ref q_one, .ref q_two, .ref q_ways, .ref q_now, .ref q_then])), (q_l, .inl (ca 0, 336, .inl v_l)), (q_one, .inl (ca 0, 7, .inl o_30)), (q_two, .inl (ca 0, 7, .inl o_31)), (q_ways, .inl (ca 0, 49, .inl o_32))] → va_S A s.heap H locs → lv_has ls 8 [(0, .ref q_this), (1, .int p1), (2, .int p2), (3, .int p3), (4, .int o_28), (5, .int o_29), (6, .int x6_12)] → W p l e (headSpec wsX9_chance rm_X9_chance).room s m args below meth c H locs 0 0 Q (F0 m 159 ls [])) → va_P D vwCl [(q_this, .inr (8, [.ref q_text, .int v_size, .int v_at, .ref q_read, .ref q_l, .ref q_stands, .ref q_kept, .int v_keptMany, .ref q_one, .ref q_two, .ref q_ways, .ref q_now, .ref q_then])), (q_l, .inl (ca 0, 336, .inl v_l)), (q_one, .inl (ca 0, 7, .inl y_one_25)), (q_two, .inl (ca 0, 7, .inl y_two_26)), (q_ways, .inl (ca 0, 49, .inl y_ways_27))] H → va_D A [(q_this, .inr (8, [.ref q_text, .int v_size, .int v_at, .ref q_read, .ref q_l, .ref q_stands, .ref q_kept, .int v_keptMany, .ref q_one, .ref q_two, .ref q_ways, .ref q_now, .ref q_then])), (q_l, .inl (ca 0, 336, .inl v_l)), (q_one, .inl (ca 0, 7, .inl y_one_25)), (q_two, .inl (ca 0, 7, .inl y_two_26)), (q_ways, .inl (ca 0, 49, .inl y_ways_27))] → va_S A s.heap H locs → lv_has ls 8 [(0, .ref q_this), (1, .int p1), (2, .int p2), (3, .int p3), (4, .int x4_22), (5, .int x5_23), (6, .int x6_12), (7, .int x7_24)] → W p l e (headSpec wsX9_chance rm_X9_chance).room s m args below meth c H locs 0 0 Q (F0 m 53 ls []) := by
                intro n
                induction n with
                | zero => intro x4_22 x5_23 x7_24 y_one_25 y_two_26 y_ways_27 o_28 o_29 o_30 o_31 o_32 H locs ls h; have h : (none : Option (Int32 × Int32 × (Nat → Int32) × (Nat → Int32) × (Nat → Int32))) = some _ := h; cases h
                | succ n ih =>
                  intro x4_22 x5_23 x7_24 y_one_25 y_two_26 y_ways_27 o_28 o_29 o_30 o_31 o_32 H locs ls h hex hP hD hS hl
                  rw [lpg_succ, b_X9_chance_53] at h
                  refine lv_iload hx hb dX9_chance_53 (lv_at hl 7 rfl) ?_
                  refine lv_bipush (v := (nI 8)) hx hb dX9_chance_55 (by decide) ?_
                  refine lv_icmp_ge (tgt := 159) hx hb dX9_chance_57 (by decide) (fun c_33 => ?_) (fun c_33 => ?_)
                  · replace h := ifp_el c_33 h
                    cases h
                    exact hex _ _ _ hP hD hS (lv_sub hl [0, 1, 2, 3, 4, 5, 6] rfl)
                  · replace h := ifn_el c_33 h
                    refine lv_iload hx hb dX9_chance_60 (lv_at hl 6 rfl) ?_
                    refine lv_iload hx hb dX9_chance_62 (lv_at hl 7 rfl) ?_
                    refine lv_icmp_eq (tgt := 153) hx hb dX9_chance_64 (by decide) (fun c_34 => ?_) (fun c_34 => ?_)
                    · replace h := ifp_el c_34 h
                      obtain ⟨x7_35, e_36, h⟩ := nm_el h
                      refine lv_iinc (v := x7_35) (lv' := [(7, .int x7_35), (0, .ref q_this), (1, .int p1), (2, .int p2), (3, .int p3), (4, .int x4_22), (5, .int x5_23), (6, .int x6_12)]) hx hb dX9_chance_153 hl (k := 7) rfl (by rw [← e_36]; rfl) (by decide) rfl (fun ls hl => ?_)
                      refine lv_goto (tgt := 53) hx hb dX9_chance_156 (by decide) ?_
                      exact ih _ _ _ _ _ _ _ _ _ _ _ _ _ _ h hex hP hD hS (lv_sub hl [1, 2, 3, 4, 5, 6, 7, 0] rfl)
                    · replace h := ifn_el c_34 h
                      refine lv_aload_n hx hb dX9_chance_67 rfl (lv_at hl 0 rfl) ?_
                      refine va_get (D := D) (ci := 8) (v := .ref q_l) (C := RX9) (T := TX9) (N := 13) hx hb hts i_X9 hown hK hP 0 rfl rfl 4 (by decide) k_16 (fun _ h9 => h9) rfl dX9_chance_68 ?_
                      refine lv_iload_n hx hb dX9_chance_71 rfl (lv_at hl 1 rfl) ?_
                      refine lv_iload hx hb dX9_chance_72 (lv_at hl 6 rfl) ?_
                      obtain ⟨r_37, hg_38, h⟩ := bd1_el h
                      refine kx_Si (As := [.int p1, .int x6_12]) (rest := [.ref q_l]) (wr := [(q_this, .inr (8, [.ref q_text, .int v_size, .int v_at, .ref q_read, .ref q_l, .ref q_stands, .ref q_kept, .int v_keptMany, .ref q_one, .ref q_two, .ref q_ways, .ref q_now, .ref q_then])), (q_l, .inl (ca 0, 336, .inl v_l)), (q_one, .inl (ca 0, 7, .inl y_one_25)), (q_two, .inl (ca 0, 7, .inl y_two_26)), (q_ways, .inl (ca 0, 49, .inl y_ways_27))]) (w1 := []) (wn := [(q_this, .inr (8, [.ref q_text, .int v_size, .int v_at, .ref q_read, .ref q_l, .ref q_stands, .ref q_kept, .int v_keptMany, .ref q_one, .ref q_two, .ref q_ways, .ref q_now, .ref q_then])), (q_l, .inl (ca 0, 336, .inl v_l)), (q_one, .inl (ca 0, 7, .inl y_one_25)), (q_two, .inl (ca 0, 7, .inl y_two_26)), (q_ways, .inl (ca 0, 49, .inl y_ways_27))]) ⟨hx, hb, hml, hown, hts⟩ (c_X9_earAt l D ca H.size p1 x6_12 r_37 hg_38) (va_cwS 2 hts gX9_chance_X9_earAt rfl rfl rfl (by decide +kernel) ⟨(Nat.le_of_ble_eq_true rfl), (Nat.le_of_ble_eq_true rfl)⟩) hK hP hD hS hA [] [0, 1, 2, 3, 4] [0, 1, 2, 3, 4] rfl rfl rfl rfl (by decide) rfl rfl rfl hl.1 rfl (Nat.le_of_ble_eq_true rfl) dX9_chance_74 ⟨Nat.zero_le _, Nat.zero_le _⟩ (fun H locs hP hD hS => ?_)
                      obtain ⟨hi_39, h⟩ := ck_el h
                      refine va_iald hx hb hK hP 1 0 rfl rfl hi_39 dX9_chance_77 ?_
                      refine lv_if_le (tgt := 153) hx hb dX9_chance_78 (by decide) (fun c_40 => ?_) (fun c_40 => ?_)
                      · replace h := ifp_el c_40 h
                        obtain ⟨x7_41, e_42, h⟩ := nm_el h
                        refine lv_iinc (v := x7_41) (lv' := [(7, .int x7_41), (0, .ref q_this), (1, .int p1), (2, .int p2), (3, .int p3), (4, .int x4_22), (5, .int x5_23), (6, .int x6_12)]) hx hb dX9_chance_153 hl (k := 7) rfl (by rw [← e_42]; rfl) (by decide) rfl (fun ls hl => ?_)
                        refine lv_goto (tgt := 53) hx hb dX9_chance_156 (by decide) ?_
                        exact ih _ _ _ _ _ _ _ _ _ _ _ _ _ _ h hex hP hD hS (lv_sub hl [1, 2, 3, 4, 5, 6, 7, 0] rfl)
                      · replace h := ifn_el c_40 h
                        refine lv_aload_n hx hb dX9_chance_81 rfl (lv_at hl 0 rfl) ?_
                        refine va_get (D := D) (ci := 8) (v := .ref q_l) (C := RX9) (T := TX9) (N := 13) hx hb hts i_X9 hown hK hP 0 rfl rfl 4 (by decide) k_16 (fun _ h9 => h9) rfl dX9_chance_82 ?_
                        refine lv_iload_n hx hb dX9_chance_85 rfl (lv_at hl 2 rfl) ?_
                        refine lv_iload hx hb dX9_chance_86 (lv_at hl 7 rfl) ?_
                        obtain ⟨r_43, hg_44, h⟩ := bd1_el h
                        refine kx_Si (As := [.int p2, .int x7_24]) (rest := [.ref q_l]) (wr := [(q_this, .inr (8, [.ref q_text, .int v_size, .int v_at, .ref q_read, .ref q_l, .ref q_stands, .ref q_kept, .int v_keptMany, .ref q_one, .ref q_two, .ref q_ways, .ref q_now, .ref q_then])), (q_l, .inl (ca 0, 336, .inl v_l)), (q_one, .inl (ca 0, 7, .inl y_one_25)), (q_two, .inl (ca 0, 7, .inl y_two_26)), (q_ways, .inl (ca 0, 49, .inl y_ways_27))]) (w1 := []) (wn := [(q_this, .inr (8, [.ref q_text, .int v_size, .int v_at, .ref q_read, .ref q_l, .ref q_stands, .ref q_kept, .int v_keptMany, .ref q_one, .ref q_two, .ref q_ways, .ref q_now, .ref q_then])), (q_l, .inl (ca 0, 336, .inl v_l)), (q_one, .inl (ca 0, 7, .inl y_one_25)), (q_two, .inl (ca 0, 7, .inl y_two_26)), (q_ways, .inl (ca 0, 49, .inl y_ways_27))]) ⟨hx, hb, hml, hown, hts⟩ (c_X9_wordAt l D ca H.size p2 x7_24 r_43 hg_44) (va_cwS 2 hts gX9_chance_X9_wordAt rfl rfl rfl (by decide +kernel) ⟨(Nat.le_of_ble_eq_true rfl), (Nat.le_of_ble_eq_true rfl)⟩) hK hP hD hS hA [] [0, 1, 2, 3, 4] [0, 1, 2, 3, 4] rfl rfl rfl rfl (by decide) rfl rfl rfl hl.1 rfl (Nat.le_of_ble_eq_true rfl) dX9_chance_88 ⟨Nat.zero_le _, Nat.zero_le _⟩ (fun H locs hP hD hS => ?_)
                        obtain ⟨hi_45, h⟩ := ck_el h
                        refine va_iald hx hb hK hP 1 0 rfl rfl hi_45 dX9_chance_91 ?_
                        refine lv_if_le (tgt := 153) hx hb dX9_chance_92 (by decide) (fun c_46 => ?_) (fun c_46 => ?_)
                        · replace h := ifp_el c_46 h
                          obtain ⟨x7_47, e_48, h⟩ := nm_el h
                          refine lv_iinc (v := x7_47) (lv' := [(7, .int x7_47), (0, .ref q_this), (1, .int p1), (2, .int p2), (3, .int p3), (4, .int x4_22), (5, .int x5_23), (6, .int x6_12)]) hx hb dX9_chance_153 hl (k := 7) rfl (by rw [← e_48]; rfl) (by decide) rfl (fun ls hl => ?_)
                          refine lv_goto (tgt := 53) hx hb dX9_chance_156 (by decide) ?_
                          exact ih _ _ _ _ _ _ _ _ _ _ _ _ _ _ h hex hP hD hS (lv_sub hl [1, 2, 3, 4, 5, 6, 7, 0] rfl)
                        · replace h := ifn_el c_46 h
                          refine lv_aload_n hx hb dX9_chance_95 rfl (lv_at hl 0 rfl) ?_
                          refine lv_iload_n hx hb dX9_chance_96 rfl (lv_at hl 1 rfl) ?_
                          refine lv_iload hx hb dX9_chance_97 (lv_at hl 6 rfl) ?_
                          obtain ⟨r_49, hg_50, h⟩ := bd1_el h
                          refine kx_Si (As := [.int p1, .int x6_12]) (rest := [.ref q_this]) (wr := [(q_this, .inr (8, [.ref q_text, .int v_size, .int v_at, .ref q_read, .ref q_l, .ref q_stands, .ref q_kept, .int v_keptMany, .ref q_one, .ref q_two, .ref q_ways, .ref q_now, .ref q_then])), (q_l, .inl (ca 0, 336, .inl v_l)), (q_one, .inl (ca 0, 7, .inl y_one_25)), (q_two, .inl (ca 0, 7, .inl y_two_26)), (q_ways, .inl (ca 0, 49, .inl y_ways_27))]) (w1 := []) (wn := [(q_this, .inr (8, [.ref q_text, .int v_size, .int v_at, .ref q_read, .ref q_l, .ref q_stands, .ref q_kept, .int v_keptMany, .ref q_one, .ref q_two, .ref q_ways, .ref q_now, .ref q_then])), (q_l, .inl (ca 0, 336, .inl v_l)), (q_one, .inl (ca 0, 7, .inl y_one_25)), (q_two, .inl (ca 0, 7, .inl y_two_26)), (q_ways, .inl (ca 0, 49, .inl y_ways_27))]) ⟨hx, hb, hml, hown, hts⟩ (c_X9_earAt l D ca H.size p1 x6_12 r_49 hg_50) (va_cwS 2 hts gX9_chance_X9_earAt rfl rfl rfl (by decide +kernel) ⟨(Nat.le_of_ble_eq_true rfl), (Nat.le_of_ble_eq_true rfl)⟩) hK hP hD hS hA [] [0, 1, 2, 3, 4] [0, 1, 2, 3, 4] rfl rfl rfl rfl (by decide) rfl rfl rfl hl.1 rfl (Nat.le_of_ble_eq_true rfl) dX9_chance_99 ⟨Nat.zero_le _, Nat.zero_le _⟩ (fun H locs hP hD hS => ?_)
                          refine lv_iconst (v := (-1 : Int32)) hx hb dX9_chance_102 (by decide) ?_
                          refine lv_aload_n hx hb dX9_chance_103 rfl (lv_at hl 0 rfl) ?_
                          refine va_get (D := D) (ci := 8) (v := .ref q_one) (C := RX9) (T := TX9) (N := 13) hx hb hts i_X9 hown hK hP 0 rfl rfl 8 (by decide) k_25 (fun _ h9 => h9) rfl dX9_chance_104 ?_
                          obtain ⟨y_one_51, hg_52, h⟩ := bd1_el h
                          refine kx_Vv (As := [.int r_49, .int (-1 : Int32), .ref q_one]) (rest := []) (wr := [(q_two, .inl (ca 0, 7, .inl y_two_26)), (q_ways, .inl (ca 0, 49, .inl y_ways_27))]) (w1 := [(q_this, .inr (8, [.ref q_text, .int v_size, .int v_at, .ref q_read, .ref q_l, .ref q_stands, .ref q_kept, .int v_keptMany, .ref q_one, .ref q_two, .ref q_ways, .ref q_now, .ref q_then])), (q_l, .inl (ca 0, 336, .inl v_l)), (q_one, .inl (ca 0, 7, .inl y_one_51))]) (wn := [(q_this, .inr (8, [.ref q_text, .int v_size, .int v_at, .ref q_read, .ref q_l, .ref q_stands, .ref q_kept, .int v_keptMany, .ref q_one, .ref q_two, .ref q_ways, .ref q_now, .ref q_then])), (q_l, .inl (ca 0, 336, .inl v_l)), (q_one, .inl (ca 0, 7, .inl y_one_51)), (q_two, .inl (ca 0, 7, .inl y_two_26)), (q_ways, .inl (ca 0, 49, .inl y_ways_27))]) ⟨hx, hb, hml, hown, hts⟩ (c_X9_say l D ca F H.size q_this q_text q_read q_l q_stands q_kept q_one q_two q_ways q_now q_then q_one 7 r_49 (-1 : Int32) v_size v_at v_keptMany v_l y_one_25 y_one_51 hg_52) (cwV 3 hts gX9_chance_X9_say rfl rfl rfl (by decide +kernel) ⟨(Nat.le_of_ble_eq_true rfl), (Nat.le_of_ble_eq_true rfl)⟩) hK hP hD hS hA (ci := 8) (q0 := 0) rfl rfl [0, 1, 2] [3, 4] [2, 3, 4, 0, 1] rfl rfl rfl rfl (by decide) rfl rfl rfl hl.1 rfl (Nat.le_of_ble_eq_true rfl) dX9_chance_107 ⟨Nat.zero_le _, Nat.zero_le _⟩ (fun H locs hP hD hS => ?_)
                          refine lv_aload_n hx hb dX9_chance_110 rfl (lv_at hl 0 rfl) ?_
                          refine lv_iload_n hx hb dX9_chance_111 rfl (lv_at hl 2 rfl) ?_
                          refine lv_iload hx hb dX9_chance_112 (lv_at hl 7 rfl) ?_
                          obtain ⟨r_53, hg_54, h⟩ := bd1_el h
                          refine kx_Si (As := [.int p2, .int x7_24]) (rest := [.ref q_this]) (wr := [(q_this, .inr (8, [.ref q_text, .int v_size, .int v_at, .ref q_read, .ref q_l, .ref q_stands, .ref q_kept, .int v_keptMany, .ref q_one, .ref q_two, .ref q_ways, .ref q_now, .ref q_then])), (q_l, .inl (ca 0, 336, .inl v_l)), (q_one, .inl (ca 0, 7, .inl y_one_51)), (q_two, .inl (ca 0, 7, .inl y_two_26)), (q_ways, .inl (ca 0, 49, .inl y_ways_27))]) (w1 := []) (wn := [(q_this, .inr (8, [.ref q_text, .int v_size, .int v_at, .ref q_read, .ref q_l, .ref q_stands, .ref q_kept, .int v_keptMany, .ref q_one, .ref q_two, .ref q_ways, .ref q_now, .ref q_then])), (q_l, .inl (ca 0, 336, .inl v_l)), (q_one, .inl (ca 0, 7, .inl y_one_51)), (q_two, .inl (ca 0, 7, .inl y_two_26)), (q_ways, .inl (ca 0, 49, .inl y_ways_27))]) ⟨hx, hb, hml, hown, hts⟩ (c_X9_wordAt l D ca H.size p2 x7_24 r_53 hg_54) (va_cwS 2 hts gX9_chance_X9_wordAt rfl rfl rfl (by decide +kernel) ⟨(Nat.le_of_ble_eq_true rfl), (Nat.le_of_ble_eq_true rfl)⟩) hK hP hD hS hA [] [0, 1, 2, 3, 4] [0, 1, 2, 3, 4] rfl rfl rfl rfl (by decide) rfl rfl rfl hl.1 rfl (Nat.le_of_ble_eq_true rfl) dX9_chance_114 ⟨Nat.zero_le _, Nat.zero_le _⟩ (fun H locs hP hD hS => ?_)
                          refine lv_iconst (v := (-1 : Int32)) hx hb dX9_chance_117 (by decide) ?_
                          refine lv_aload_n hx hb dX9_chance_118 rfl (lv_at hl 0 rfl) ?_
                          refine va_get (D := D) (ci := 8) (v := .ref q_two) (C := RX9) (T := TX9) (N := 13) hx hb hts i_X9 hown hK hP 0 rfl rfl 9 (by decide) k_28 (fun _ h9 => h9) rfl dX9_chance_119 ?_
                          obtain ⟨y_two_55, hg_56, h⟩ := bd1_el h
                          refine kx_Vv (As := [.int r_53, .int (-1 : Int32), .ref q_two]) (rest := []) (wr := [(q_one, .inl (ca 0, 7, .inl y_one_51)), (q_ways, .inl (ca 0, 49, .inl y_ways_27))]) (w1 := [(q_this, .inr (8, [.ref q_text, .int v_size, .int v_at, .ref q_read, .ref q_l, .ref q_stands, .ref q_kept, .int v_keptMany, .ref q_one, .ref q_two, .ref q_ways, .ref q_now, .ref q_then])), (q_l, .inl (ca 0, 336, .inl v_l)), (q_two, .inl (ca 0, 7, .inl y_two_55))]) (wn := [(q_this, .inr (8, [.ref q_text, .int v_size, .int v_at, .ref q_read, .ref q_l, .ref q_stands, .ref q_kept, .int v_keptMany, .ref q_one, .ref q_two, .ref q_ways, .ref q_now, .ref q_then])), (q_l, .inl (ca 0, 336, .inl v_l)), (q_one, .inl (ca 0, 7, .inl y_one_51)), (q_two, .inl (ca 0, 7, .inl y_two_55)), (q_ways, .inl (ca 0, 49, .inl y_ways_27))]) ⟨hx, hb, hml, hown, hts⟩ (c_X9_say l D ca F H.size q_this q_text q_read q_l q_stands q_kept q_one q_two q_ways q_now q_then q_two 7 r_53 (-1 : Int32) v_size v_at v_keptMany v_l y_two_26 y_two_55 hg_56) (cwV 3 hts gX9_chance_X9_say rfl rfl rfl (by decide +kernel) ⟨(Nat.le_of_ble_eq_true rfl), (Nat.le_of_ble_eq_true rfl)⟩) hK hP hD hS hA (ci := 8) (q0 := 0) rfl rfl [0, 1, 3] [2, 4] [2, 3, 0, 4, 1] rfl rfl rfl rfl (by decide) rfl rfl rfl hl.1 rfl (Nat.le_of_ble_eq_true rfl) dX9_chance_122 ⟨Nat.zero_le _, Nat.zero_le _⟩ (fun H locs hP hD hS => ?_)
                          obtain ⟨x5_57, e_58, h⟩ := nm_el h
                          refine lv_iinc (v := x5_57) (lv' := [(5, .int x5_57), (0, .ref q_this), (1, .int p1), (2, .int p2), (3, .int p3), (4, .int x4_22), (6, .int x6_12), (7, .int x7_24)]) hx hb dX9_chance_125 hl (k := 5) rfl (by rw [← e_58]; rfl) (by decide) rfl (fun ls hl => ?_)
                          refine lv_iload hx hb dX9_chance_128 (lv_at hl 5 rfl) ?_
                          refine lv_aload_n hx hb dX9_chance_130 rfl (lv_at hl 1 rfl) ?_
                          obtain ⟨r_59, y_ways_60, hg_61, h⟩ := bd2_el h
                          refine kx_Vi (As := []) (rest := [.int x4_22]) (wr := [(q_l, .inl (ca 0, 336, .inl v_l))]) (w1 := [(q_this, .inr (8, [.ref q_text, .int v_size, .int v_at, .ref q_read, .ref q_l, .ref q_stands, .ref q_kept, .int v_keptMany, .ref q_one, .ref q_two, .ref q_ways, .ref q_now, .ref q_then])), (q_one, .inl (ca 0, 7, .inl y_one_51)), (q_two, .inl (ca 0, 7, .inl y_two_55)), (q_ways, .inl (ca 0, 49, .inl y_ways_60))]) (wn := [(q_this, .inr (8, [.ref q_text, .int v_size, .int v_at, .ref q_read, .ref q_l, .ref q_stands, .ref q_kept, .int v_keptMany, .ref q_one, .ref q_two, .ref q_ways, .ref q_now, .ref q_then])), (q_l, .inl (ca 0, 336, .inl v_l)), (q_one, .inl (ca 0, 7, .inl y_one_51)), (q_two, .inl (ca 0, 7, .inl y_two_55)), (q_ways, .inl (ca 0, 49, .inl y_ways_60))]) ⟨hx, hb, hml, hown, hts⟩ (c_X9_likeOf l D ca F H.size q_this q_text q_read q_l q_stands q_kept q_one q_two q_ways q_now q_then v_size v_at v_keptMany y_one_51 y_two_55 y_ways_27 r_59 y_ways_60 hg_61) (cwV 0 hts gX9_chance_X9_likeOf rfl rfl rfl (by decide +kernel) ⟨(Nat.le_of_ble_eq_true rfl), (Nat.le_of_ble_eq_true rfl)⟩) hK hP hD hS hA (ci := 8) (q0 := 0) rfl rfl [0, 2, 3, 4] [1] [1, 0, 2, 3, 4] rfl rfl rfl rfl (by decide) rfl rfl rfl hl.1 rfl (Nat.le_of_ble_eq_true rfl) dX9_chance_131 ⟨Nat.zero_le _, Nat.zero_le _⟩ (fun H locs hP hD hS => ?_)
                          refine lv_aload_n hx hb dX9_chance_134 rfl (lv_at hl 1 rfl) ?_
                          refine va_get (D := D) (ci := 8) (v := .ref q_l) (C := RX9) (T := TX9) (N := 13) hx hb hts i_X9 hown hK hP 0 rfl rfl 4 (by decide) k_16 (fun _ h9 => h9) rfl dX9_chance_135 ?_
                          refine lv_sipush (v := (nI 303)) hx hb dX9_chance_138 (by decide) ?_
                          obtain ⟨hi_62, h⟩ := ck_el h
                          refine va_iald hx hb hK hP 1 0 rfl rfl hi_62 dX9_chance_141 ?_
                          refine lv_icmp_lt (tgt := 149) hx hb dX9_chance_142 (by decide) (fun c_63 => ?_) (fun c_63 => ?_)
                          · replace h := ifp_el c_63 h
                            refine lv_iconst (v := (nI 0)) hx hb dX9_chance_149 (by decide) ?_
                            refine lv_iadd hx hb dX9_chance_150 ?_
                            refine lv_nmi h (fun x4_64 h => ?_)
                            refine lv_istore (lv' := [(4, .int x4_64), (5, .int x5_57), (0, .ref q_this), (1, .int p1), (2, .int p2), (3, .int p3), (6, .int x6_12), (7, .int x7_24)]) hx hb dX9_chance_151 hl (by decide) rfl (fun ls hl => ?_)
                            obtain ⟨x7_65, e_66, h⟩ := nm_el h
                            refine lv_iinc (v := x7_65) (lv' := [(7, .int x7_65), (4, .int x4_64), (5, .int x5_57), (0, .ref q_this), (1, .int p1), (2, .int p2), (3, .int p3), (6, .int x6_12)]) hx hb dX9_chance_153 hl (k := 7) rfl (by rw [← e_66]; rfl) (by decide) rfl (fun ls hl => ?_)
                            refine lv_goto (tgt := 53) hx hb dX9_chance_156 (by decide) ?_
                            exact ih _ _ _ _ _ _ _ _ _ _ _ _ _ _ h hex hP hD hS (lv_sub hl [3, 4, 5, 6, 1, 2, 7, 0] rfl)
                          · replace h := ifn_el c_63 h
                            refine lv_iconst (v := (nI 1)) hx hb dX9_chance_145 (by decide) ?_
                            refine lv_goto (tgt := 150) hx hb dX9_chance_146 (by decide) ?_
                            refine lv_iadd hx hb dX9_chance_150 ?_
                            refine lv_nmi h (fun x4_67 h => ?_)
                            refine lv_istore (lv' := [(4, .int x4_67), (5, .int x5_57), (0, .ref q_this), (1, .int p1), (2, .int p2), (3, .int p3), (6, .int x6_12), (7, .int x7_24)]) hx hb dX9_chance_151 hl (by decide) rfl (fun ls hl => ?_)
                            obtain ⟨x7_68, e_69, h⟩ := nm_el h
                            refine lv_iinc (v := x7_68) (lv' := [(7, .int x7_68), (4, .int x4_67), (5, .int x5_57), (0, .ref q_this), (1, .int p1), (2, .int p2), (3, .int p3), (6, .int x6_12)]) hx hb dX9_chance_153 hl (k := 7) rfl (by rw [← e_69]; rfl) (by decide) rfl (fun ls hl => ?_)
                            refine lv_goto (tgt := 53) hx hb dX9_chance_156 (by decide) ?_
                            exact ih _ _ _ _ _ _ _ _ _ _ _ _ _ _ h hex hP hD hS (lv_sub hl [3, 4, 5, 6, 1, 2, 7, 0] rfl)
              exact hlp F x4_10 x5_11 (nI 0) y_one_13 y_two_14 y_ways_15 o_28 o_29 o_30 o_31 o_32 H locs ls hL hex hP hD hS (lv_sub hl [1, 2, 3, 4, 5, 6, 7, 0] rfl)
        exact hlp F (nI 0) (nI 0) (nI 0) v_one v_two v_ways o_16 o_17 o_18 o_19 o_20 H locs ls hL hex hP hD hS (lv_sub hl [3, 4, 5, 6, 2, 1, 0] rfl)
      · replace h := ifp_el c_9 h
        refine lv_iconst (v := (-1 : Int32)) hx hb dX9_chance_32 (by decide) ?_
        cases h
        rw [← hQe]
        exact W.iret hx hb hr (fun t ht hW => ⟨⟨_, (), rfl, rfl, by rw [ht]; exact hP, va_K.moved hW.alike hK, hD⟩, hS.F ht⟩) hS.2.2 dX9_chance_33
def b_X9_joined_29 (p1 : Int32) (v_l : Nat → Int32) (F : Nat) (x4_6 : Int32) (rec29 : Int32 → Int32 → (Nat → Int32) → (Nat → Int32) → (Nat → Int32) → Option (Int32 × (Nat → Int32) × (Nat → Int32) × (Nat → Int32))) (x5_15 : Int32) (x6_16 : Int32) (y_one_17 : Nat → Int32) (y_two_18 : Nat → Int32) (y_ways_19 : Nat → Int32) : Option (Int32 × (Nat → Int32) × (Nat → Int32) × (Nat → Int32)) := (if (nI 3) ≤ x6_16 then some (x5_15, y_one_17, y_two_18, y_ways_19) else bd1 (D_X9_earAt x4_6 p1) (fun r_25 => ck 336 r_25 ((if (v_l r_25.toNatClampNeg) ≤ 0 then some (x5_15, y_one_17, y_two_18, y_ways_19) else bd1 (D_X9_earAt x4_6 p1) (fun r_29 => bd1 (D_X9_say F 7 r_29 (-1 : Int32) v_l y_one_17) (fun y_one_31 => bd1 (D_X9_earAt x6_16 p1) (fun r_33 => bd1 (D_X9_say F 7 r_33 (-1 : Int32) v_l y_two_18) (fun y_two_35 => ck 7 (nI 0) ((if (y_two_35 (nI 0).toNatClampNeg) = 0 then nm (x5_15 + (nI 0)) (fun x5_45 => nm (x6_16 + (nI 1)) (fun x6_46 => rec29 x5_45 x6_46 y_one_31 y_two_35 y_ways_19)) else bd2 (D_X9_farOf F y_one_31 y_two_35 y_ways_19) (fun r_39 y_ways_40 => nm (x5_15 + r_39) (fun x5_42 => nm (x6_16 + (nI 1)) (fun x6_43 => rec29 x5_42 x6_43 y_one_31 y_two_35 y_ways_40)))))))))))))
def b_X9_joined_17 (p1 : Int32) (v_l : Nat → Int32) (F : Nat) (rec17 : Int32 → Int32 → Int32 → (Nat → Int32) → (Nat → Int32) → (Nat → Int32) → Option (Int32 × (Nat → Int32) × (Nat → Int32) × (Nat → Int32))) (x2_4 : Int32) (x3_5 : Int32) (x4_6 : Int32) (y_one_7 : Nat → Int32) (y_two_8 : Nat → Int32) (y_ways_9 : Nat → Int32) : Option (Int32 × (Nat → Int32) × (Nat → Int32) × (Nat → Int32)) := (if (nI 3) ≤ x4_6 then some (x2_4, y_one_7, y_two_8, y_ways_9) else bd4 (lpg (T := Int32 → Int32 → (Nat → Int32) → (Nat → Int32) → (Nat → Int32) → Option (Int32 × (Nat → Int32) × (Nat → Int32) × (Nat → Int32))) (fun _ _ _ _ _ => none) (b_X9_joined_29 p1 v_l F x4_6) F (nI 0) (nI 0) y_one_7 y_two_8 y_ways_9) (fun o_20 o_21 o_22 o_23 => bd1 (D_X9_earAt x4_6 p1) (fun r_48 => ck 336 r_48 ((if (v_l r_48.toNatClampNeg) ≤ 0 then nm (x4_6 + (nI 1)) (fun x4_52 => rec17 x2_4 x3_5 x4_52 o_21 o_22 o_23) else (if x2_4 < 0 then nm (x4_6 + (nI 1)) (fun x4_55 => rec17 x4_6 o_20 x4_55 o_21 o_22 o_23) else (if x3_5 ≤ o_20 then nm (x4_6 + (nI 1)) (fun x4_58 => rec17 x2_4 x3_5 x4_58 o_21 o_22 o_23) else nm (x4_6 + (nI 1)) (fun x4_60 => rec17 x4_6 o_20 x4_60 o_21 o_22 o_23))))))))
def D_X9_joined (F : Nat) (p1 : Int32) (v_l : Nat → Int32) (v_one : Nat → Int32) (v_two : Nat → Int32) (v_ways : Nat → Int32) : Option (Int32 × (Nat → Int32) × (Nat → Int32) × (Nat → Int32)) := bd1 (D_X9_isMeaning p1) (fun r_1 => (if r_1 = 0 then some ((-1 : Int32), v_one, v_two, v_ways) else bd4 (lpg (T := Int32 → Int32 → Int32 → (Nat → Int32) → (Nat → Int32) → (Nat → Int32) → Option (Int32 × (Nat → Int32) × (Nat → Int32) × (Nat → Int32))) (fun _ _ _ _ _ _ => none) (b_X9_joined_17 p1 v_l F) F (-4 : Int32) (nI 0) (nI 0) v_one v_two v_ways) (fun o_10 o_11 o_12 o_13 => some (o_10, o_11, o_12, o_13))))
abbrev rm_X9_joined : Room := { frames := 3, cells := 0, slots := 0, locals := 71 }
set_option maxHeartbeats 4000000 in
set_option maxRecDepth 100000 in
theorem c_X9_joined (l : Launch) (D : va_G) (ca : Nat → ClassId) (F : Nat) (sz : Nat) (q_this q_text q_read q_l q_stands q_kept q_one q_two q_ways q_now q_then : Nat) (p1 : Int32) (v_size : Int32) (v_at : Int32) (v_keptMany : Int32) (v_l : Nat → Int32) (v_one : Nat → Int32) (v_two : Nat → Int32) (v_ways : Nat → Int32) (r : Int32) (o_one : Nat → Int32) (o_two : Nat → Int32) (o_ways : Nat → Int32) (h : D_X9_joined F p1 v_l v_one v_two v_ways = some (r, o_one, o_two, o_ways)) : Met l yX9_joined wsX9_joined rm_X9_joined (va_Pc [.ref q_this, .int p1] (kPre D ca [(q_this, .inr (8, [.ref q_text, .int v_size, .int v_at, .ref q_read, .ref q_l, .ref q_stands, .ref q_kept, .int v_keptMany, .ref q_one, .ref q_two, .ref q_ways, .ref q_now, .ref q_then])), (q_l, .inl (ca 0, 336, .inl v_l)), (q_one, .inl (ca 0, 7, .inl v_one)), (q_two, .inl (ca 0, 7, .inl v_two)), (q_ways, .inl (ca 0, 49, .inl v_ways))] sz)) (kQi D ca (va_A [(q_this, .inr (8, [.ref q_text, .int v_size, .int v_at, .ref q_read, .ref q_l, .ref q_stands, .ref q_kept, .int v_keptMany, .ref q_one, .ref q_two, .ref q_ways, .ref q_now, .ref q_then])), (q_l, .inl (ca 0, 336, .inl v_l)), (q_one, .inl (ca 0, 7, .inl v_one)), (q_two, .inl (ca 0, 7, .inl v_two)), (q_ways, .inl (ca 0, 49, .inl v_ways))] sz) [(q_this, .inr (8, [.ref q_text, .int v_size, .int v_at, .ref q_read, .ref q_l, .ref q_stands, .ref q_kept, .int v_keptMany, .ref q_one, .ref q_two, .ref q_ways, .ref q_now, .ref q_then])), (q_l, .inl (ca 0, 336, .inl v_l)), (q_one, .inl (ca 0, 7, .inl o_one)), (q_two, .inl (ca 0, 7, .inl o_two)), (q_ways, .inl (ca 0, 49, .inl o_ways))] r) 0 0 (va_A [(q_this, .inr (8, [.ref q_text, .int v_size, .int v_at, .ref q_read, .ref q_l, .ref q_stands, .ref q_kept, .int v_keptMany, .ref q_one, .ref q_two, .ref q_ways, .ref q_now, .ref q_then])), (q_l, .inl (ca 0, 336, .inl v_l)), (q_one, .inl (ca 0, 7, .inl v_one)), (q_two, .inl (ca 0, 7, .inl v_two)), (q_ways, .inl (ca 0, 49, .inl v_ways))] sz) := by
  refine Met.ofW (cc := cX9_joined) (maxL := 7) (ret := (some .int)) (by decide +kernel) rfl ?_
  intro p e s m args below meth c s₁ B hml hv
  obtain ⟨rfl, hsz, hP, hK, hD0⟩ := hv
  have hx := B.exec
  have hb := B.bytes
  have hr := B.returns
  have hts := atoms_spec (ws := wsX9_joined) B.pre
  have hown : s.vm.findClass RX9 = some m.cls := findClass_of_methodNamed B.named
  have hlocks := B.notSynchronized
  clear B
  subst hsz
  have hD := hD0.self (sz := s.heap.size)
  generalize hAe : va_A [(q_this, .inr (8, [.ref q_text, .int v_size, .int v_at, .ref q_read, .ref q_l, .ref q_stands, .ref q_kept, .int v_keptMany, .ref q_one, .ref q_two, .ref q_ways, .ref q_now, .ref q_then])), (q_l, .inl (ca 0, 336, .inl v_l)), (q_one, .inl (ca 0, 7, .inl v_one)), (q_two, .inl (ca 0, 7, .inl v_two)), (q_ways, .inl (ca 0, 49, .inl v_ways))] s.heap.size = A at hD ⊢
  have hA : ∀ q : Nat, s.heap.size ≤ q → A q := fun q h => by rw [← hAe]; exact Or.inr h
  have hS : va_S A s.heap s.heap [] := va_S.rf
  have hl := lv_entry ([.ref q_this, .int p1]) (n := 7) (Nat.le_of_ble_eq_true rfl)
  rw [lg_entry_eq]
  generalize (lg_sl ([.ref q_this, .int p1]) ++ List.replicate (7 - (lg_sl ([.ref q_this, .int p1])).length) Slot.unset).toArray = ls at hl ⊢
  have hl : lv_has ls 7 [(0, .ref q_this), (1, .int p1)] := hl
  generalize ([.ref q_this, .int p1] : List Value).toArray = args at hts ⊢
  generalize hQe : MQ below (kQi D ca (A) [(q_this, .inr (8, [.ref q_text, .int v_size, .int v_at, .ref q_read, .ref q_l, .ref q_stands, .ref q_kept, .int v_keptMany, .ref q_one, .ref q_two, .ref q_ways, .ref q_now, .ref q_then])), (q_l, .inl (ca 0, 336, .inl v_l)), (q_one, .inl (ca 0, 7, .inl o_one)), (q_two, .inl (ca 0, 7, .inl o_two)), (q_ways, .inl (ca 0, 49, .inl o_ways))] r) args s 0 0 A = Q
  have i_X9 : ∀ w ∈ u_ws RX9 TX9 13, w ∈ wsX9_joined := by decide +kernel
  have k_16 := hts (.fieldLink RX9 16 "TradeWordsModel" "l" "[I") (by decide +kernel)
  have k_25 := hts (.fieldLink RX9 25 "TradeWordsModel" "one" "[I") (by decide +kernel)
  have k_28 := hts (.fieldLink RX9 28 "TradeWordsModel" "two" "[I") (by decide +kernel)
  rw [D_X9_joined] at h
  refine lv_iload_n hx hb dX9_joined_0 rfl (lv_at hl 1 rfl) ?_
  obtain ⟨r_1, hg_2, h⟩ := bd1_el h
  refine kx_Si (As := [.int p1]) (rest := []) (wr := [(q_this, .inr (8, [.ref q_text, .int v_size, .int v_at, .ref q_read, .ref q_l, .ref q_stands, .ref q_kept, .int v_keptMany, .ref q_one, .ref q_two, .ref q_ways, .ref q_now, .ref q_then])), (q_l, .inl (ca 0, 336, .inl v_l)), (q_one, .inl (ca 0, 7, .inl v_one)), (q_two, .inl (ca 0, 7, .inl v_two)), (q_ways, .inl (ca 0, 49, .inl v_ways))]) (w1 := []) (wn := [(q_this, .inr (8, [.ref q_text, .int v_size, .int v_at, .ref q_read, .ref q_l, .ref q_stands, .ref q_kept, .int v_keptMany, .ref q_one, .ref q_two, .ref q_ways, .ref q_now, .ref q_then])), (q_l, .inl (ca 0, 336, .inl v_l)), (q_one, .inl (ca 0, 7, .inl v_one)), (q_two, .inl (ca 0, 7, .inl v_two)), (q_ways, .inl (ca 0, 49, .inl v_ways))]) ⟨hx, hb, hml, hown, hts⟩ (c_X9_isMeaning l D ca s.heap.size p1 r_1 hg_2) (va_cwS 1 hts gX9_joined_X9_isMeaning rfl rfl rfl (by decide +kernel) ⟨(Nat.le_of_ble_eq_true rfl), (Nat.le_of_ble_eq_true rfl)⟩) hK hP hD hS hA [] [0, 1, 2, 3, 4] [0, 1, 2, 3, 4] rfl rfl rfl rfl (by decide) rfl rfl rfl hl.1 rfl (Nat.le_of_ble_eq_true rfl) dX9_joined_1 ⟨Nat.zero_le _, Nat.zero_le _⟩ (fun H locs hP hD hS => ?_)
  refine lv_if_ne (tgt := 9) hx hb dX9_joined_4 (by decide) (fun c_3 => ?_) (fun c_3 => ?_)
  · replace h := ifn_el c_3 h
    refine lv_bipush (v := (-4 : Int32)) hx hb dX9_joined_9 (by decide) ?_
    refine lv_istore_n (lv' := [(2, .int (-4 : Int32)), (0, .ref q_this), (1, .int p1)]) hx hb dX9_joined_11 rfl hl (by decide) rfl (fun ls hl => ?_)
    refine lv_iconst (v := (nI 0)) hx hb dX9_joined_12 (by decide) ?_
    refine lv_istore_n (lv' := [(3, .int (nI 0)), (2, .int (-4 : Int32)), (0, .ref q_this), (1, .int p1)]) hx hb dX9_joined_13 rfl hl (by decide) rfl (fun ls hl => ?_)
    refine lv_iconst (v := (nI 0)) hx hb dX9_joined_14 (by decide) ?_
    refine lv_istore (lv' := [(4, .int (nI 0)), (3, .int (nI 0)), (2, .int (-4 : Int32)), (0, .ref q_this), (1, .int p1)]) hx hb dX9_joined_15 hl (by decide) rfl (fun ls hl => ?_)
    obtain ⟨o_10, o_11, o_12, o_13, hL, h⟩ := bd4_el h
    have hex : ∀ (H : Heap) (locs : List Loc) (ls : Array Slot), va_P D vwCl [(q_this, .inr (8, [.ref q_text, .int v_size, .int v_at, .ref q_read, .ref q_l, .ref q_stands, .ref q_kept, .int v_keptMany, .ref q_one, .ref q_two, .ref q_ways, .ref q_now, .ref q_then])), (q_l, .inl (ca 0, 336, .inl v_l)), (q_one, .inl (ca 0, 7, .inl o_11)), (q_two, .inl (ca 0, 7, .inl o_12)), (q_ways, .inl (ca 0, 49, .inl o_13))] H → va_D A [(q_this, .inr (8, [.ref q_text, .int v_size, .int v_at, .ref q_read, .ref q_l, .ref q_stands, .ref q_kept, .int v_keptMany, .ref q_one, .ref q_two, .ref q_ways, .ref q_now, .ref q_then])), (q_l, .inl (ca 0, 336, .inl v_l)), (q_one, .inl (ca 0, 7, .inl o_11)), (q_two, .inl (ca 0, 7, .inl o_12)), (q_ways, .inl (ca 0, 49, .inl o_13))] → va_S A s.heap H locs → lv_has ls 7 [(2, .int o_10)] → W p l e (headSpec wsX9_joined rm_X9_joined).room s m args below meth c H locs 0 0 Q (F0 m 143 ls []) := by
      intro H locs ls hP hD hS hl
      refine lv_iload_n hx hb dX9_joined_143 rfl (lv_at hl 0 rfl) ?_
      cases h
      rw [← hQe]
      exact W.iret hx hb hr (fun t ht hW => ⟨⟨_, (), rfl, rfl, by rw [ht]; exact hP, va_K.moved hW.alike hK, hD⟩, hS.F ht⟩) hS.2.2 dX9_joined_144
    have hlp : ∀ (n : Nat) (x2_4 : Int32) (x3_5 : Int32) (x4_6 : Int32) (y_one_7 : Nat → Int32) (y_two_8 : Nat → Int32) (y_ways_9 : Nat → Int32) (o_10 : Int32) (o_11 : Nat → Int32) (o_12 : Nat → Int32) (o_13 : Nat → Int32) (H : Heap) (locs : List Loc) (ls : Array Slot), lpg (T := Int32 → Int32 → Int32 → (Nat → Int32) → (Nat → Int32) → (Nat → Int32) → Option (Int32 × (Nat → Int32) × (Nat → Int32) × (Nat → Int32))) (fun _ _ _ _ _ _ => none) (b_X9_joined_17 p1 v_l F) n x2_4 x3_5 x4_6 y_one_7 y_two_8 y_ways_9 = some (o_10, o_11, o_12, o_13) → (∀ (H : Heap) (locs : List Loc) (ls : Array Slot), va_P D vwCl [(q_this, .inr (8, [.ref q_text, .int v_size, .int v_at, .ref q_read, .ref q_l, .ref q_stands, .ref q_kept, .int v_keptMany, .ref q_one, .ref q_two, .ref q_ways, .ref q_now, .ref q_then])), (q_l, .inl (ca 0, 336, .inl v_l)), (q_one, .inl (ca 0, 7, .inl o_11)), (q_two, .inl (ca 0, 7, .inl o_12)), (q_ways, .inl (ca 0, 49, .inl o_13))] H → va_D A [(q_this, .inr (8, [.ref q_text, .int v_size, .int v_at, .ref q_read, .ref q_l, .ref q_stands, .ref q_kept, .int v_keptMany, .ref q_one, .ref q_two, .ref q_ways, .ref q_now, .ref q_then])), (q_l, .inl (ca 0, 336, .inl v_l)), (q_one, .inl (ca 0, 7, .inl o_11)), (q_two, .inl (ca 0, 7, .inl o_12)), (q_ways, .inl (ca 0, 49, .inl o_13))] → va_S A s.heap H locs → lv_has ls 7 [(2, .int o_10)] → W p l e (headSpec wsX9_joined rm_X9_joined).room s m args below meth c H locs 0 0 Q (F0 m 143 ls [])) → va_P D vwCl [(q_this, .inr (8, [.ref q_text, .int v_size, .int v_at, .ref q_read, .ref q_l, .ref q_stands, .ref q_kept, .int v_keptMany, .ref q_one, .ref q_two, .ref q_ways, .ref q_now, .ref q_then])), (q_l, .inl (ca 0, 336, .inl v_l)), (q_one, .inl (ca 0, 7, .inl y_one_7)), (q_two, .inl (ca 0, 7, .inl y_two_8)), (q_ways, .inl (ca 0, 49, .inl y_ways_9))] H → va_D A [(q_this, .inr (8, [.ref q_text, .int v_size, .int v_at, .ref q_read, .ref q_l, .ref q_stands, .ref q_kept, .int v_keptMany, .ref q_one, .ref q_two, .ref q_ways, .ref q_now, .ref q_then])), (q_l, .inl (ca 0, 336, .inl v_l)), (q_one, .inl (ca 0, 7, .inl y_one_7)), (q_two, .inl (ca 0, 7, .inl y_two_8)), (q_ways, .inl (ca 0, 49, .inl y_ways_9))] → va_S A s.heap H locs → lv_has ls 7 [(0, .ref q_this), (1, .int p1), (2, .int x2_4), (3, .int x3_5), (4, .int x4_6)] → W p l e (headSpec wsX9_joined rm_X9_joined).room s m args below meth c H locs 0 0 Q (F0 m 17 ls []) := by
      intro n
      induction n with
      | zero => intro x2_4 x3_5 x4_6 y_one_7 y_two_8 y_ways_9 o_10 o_11 o_12 o_13 H locs ls h; have h : (none : Option (Int32 × (Nat → Int32) × (Nat → Int32) × (Nat → Int32))) = some _ := h; cases h
      | succ n ih =>
        intro x2_4 x3_5 x4_6 y_one_7 y_two_8 y_ways_9 o_10 o_11 o_12 o_13 H locs ls h hex hP hD hS hl
        rw [lpg_succ, b_X9_joined_17] at h
        refine lv_iload hx hb dX9_joined_17 (lv_at hl 4 rfl) ?_
        refine lv_iconst (v := (nI 3)) hx hb dX9_joined_19 (by decide) ?_
        refine lv_icmp_ge (tgt := 143) hx hb dX9_joined_20 (by decide) (fun c_14 => ?_) (fun c_14 => ?_)
        · replace h := ifp_el c_14 h
          cases h
          exact hex _ _ _ hP hD hS (lv_sub hl [2] rfl)
        · replace h := ifn_el c_14 h
          refine lv_iconst (v := (nI 0)) hx hb dX9_joined_23 (by decide) ?_
          refine lv_istore (lv' := [(5, .int (nI 0)), (0, .ref q_this), (1, .int p1), (2, .int x2_4), (3, .int x3_5), (4, .int x4_6)]) hx hb dX9_joined_24 hl (by decide) rfl (fun ls hl => ?_)
          refine lv_iconst (v := (nI 0)) hx hb dX9_joined_26 (by decide) ?_
          refine lv_istore (lv' := [(6, .int (nI 0)), (5, .int (nI 0)), (0, .ref q_this), (1, .int p1), (2, .int x2_4), (3, .int x3_5), (4, .int x4_6)]) hx hb dX9_joined_27 hl (by decide) rfl (fun ls hl => ?_)
          obtain ⟨o_20, o_21, o_22, o_23, hL, h⟩ := bd4_el h
          have hex : ∀ (H : Heap) (locs : List Loc) (ls : Array Slot), va_P D vwCl [(q_this, .inr (8, [.ref q_text, .int v_size, .int v_at, .ref q_read, .ref q_l, .ref q_stands, .ref q_kept, .int v_keptMany, .ref q_one, .ref q_two, .ref q_ways, .ref q_now, .ref q_then])), (q_l, .inl (ca 0, 336, .inl v_l)), (q_one, .inl (ca 0, 7, .inl o_21)), (q_two, .inl (ca 0, 7, .inl o_22)), (q_ways, .inl (ca 0, 49, .inl o_23))] H → va_D A [(q_this, .inr (8, [.ref q_text, .int v_size, .int v_at, .ref q_read, .ref q_l, .ref q_stands, .ref q_kept, .int v_keptMany, .ref q_one, .ref q_two, .ref q_ways, .ref q_now, .ref q_then])), (q_l, .inl (ca 0, 336, .inl v_l)), (q_one, .inl (ca 0, 7, .inl o_21)), (q_two, .inl (ca 0, 7, .inl o_22)), (q_ways, .inl (ca 0, 49, .inl o_23))] → va_S A s.heap H locs → lv_has ls 7 [(0, .ref q_this), (1, .int p1), (2, .int x2_4), (3, .int x3_5), (4, .int x4_6), (5, .int o_20)] → W p l e (headSpec wsX9_joined rm_X9_joined).room s m args below meth c H locs 0 0 Q (F0 m 107 ls []) := by
            intro H locs ls hP hD hS hl
            refine lv_aload_n hx hb dX9_joined_107 rfl (lv_at hl 0 rfl) ?_
            refine va_get (D := D) (ci := 8) (v := .ref q_l) (C := RX9) (T := TX9) (N := 13) hx hb hts i_X9 hown hK hP 0 rfl rfl 4 (by decide) k_16 (fun _ h9 => h9) rfl dX9_joined_108 ?_
            refine lv_iload hx hb dX9_joined_111 (lv_at hl 4 rfl) ?_
            refine lv_iload_n hx hb dX9_joined_113 rfl (lv_at hl 1 rfl) ?_
            obtain ⟨r_48, hg_49, h⟩ := bd1_el h
            refine kx_Si (As := [.int x4_6, .int p1]) (rest := [.ref q_l]) (wr := [(q_this, .inr (8, [.ref q_text, .int v_size, .int v_at, .ref q_read, .ref q_l, .ref q_stands, .ref q_kept, .int v_keptMany, .ref q_one, .ref q_two, .ref q_ways, .ref q_now, .ref q_then])), (q_l, .inl (ca 0, 336, .inl v_l)), (q_one, .inl (ca 0, 7, .inl o_21)), (q_two, .inl (ca 0, 7, .inl o_22)), (q_ways, .inl (ca 0, 49, .inl o_23))]) (w1 := []) (wn := [(q_this, .inr (8, [.ref q_text, .int v_size, .int v_at, .ref q_read, .ref q_l, .ref q_stands, .ref q_kept, .int v_keptMany, .ref q_one, .ref q_two, .ref q_ways, .ref q_now, .ref q_then])), (q_l, .inl (ca 0, 336, .inl v_l)), (q_one, .inl (ca 0, 7, .inl o_21)), (q_two, .inl (ca 0, 7, .inl o_22)), (q_ways, .inl (ca 0, 49, .inl o_23))]) ⟨hx, hb, hml, hown, hts⟩ (c_X9_earAt l D ca H.size x4_6 p1 r_48 hg_49) (va_cwS 2 hts gX9_joined_X9_earAt rfl rfl rfl (by decide +kernel) ⟨(Nat.le_of_ble_eq_true rfl), (Nat.le_of_ble_eq_true rfl)⟩) hK hP hD hS hA [] [0, 1, 2, 3, 4] [0, 1, 2, 3, 4] rfl rfl rfl rfl (by decide) rfl rfl rfl hl.1 rfl (Nat.le_of_ble_eq_true rfl) dX9_joined_114 ⟨Nat.zero_le _, Nat.zero_le _⟩ (fun H locs hP hD hS => ?_)
            obtain ⟨hi_50, h⟩ := ck_el h
            refine va_iald hx hb hK hP 1 0 rfl rfl hi_50 dX9_joined_117 ?_
            refine lv_if_le (tgt := 137) hx hb dX9_joined_118 (by decide) (fun c_51 => ?_) (fun c_51 => ?_)
            · replace h := ifp_el c_51 h
              obtain ⟨x4_52, e_53, h⟩ := nm_el h
              refine lv_iinc (v := x4_52) (lv' := [(4, .int x4_52), (0, .ref q_this), (1, .int p1), (2, .int x2_4), (3, .int x3_5), (5, .int o_20)]) hx hb dX9_joined_137 hl (k := 4) rfl (by rw [← e_53]; rfl) (by decide) rfl (fun ls hl => ?_)
              refine lv_goto (tgt := 17) hx hb dX9_joined_140 (by decide) ?_
              exact ih _ _ _ _ _ _ _ _ _ _ _ _ _ h hex hP hD hS (lv_sub hl [1, 2, 3, 4, 0] rfl)
            · replace h := ifn_el c_51 h
              refine lv_iload_n hx hb dX9_joined_121 rfl (lv_at hl 2 rfl) ?_
              refine lv_if_lt (tgt := 131) hx hb dX9_joined_122 (by decide) (fun c_54 => ?_) (fun c_54 => ?_)
              · replace h := ifp_el c_54 h
                refine lv_iload hx hb dX9_joined_131 (lv_at hl 4 rfl) ?_
                refine lv_istore_n (lv' := [(2, .int x4_6), (0, .ref q_this), (1, .int p1), (3, .int x3_5), (4, .int x4_6), (5, .int o_20)]) hx hb dX9_joined_133 rfl hl (by decide) rfl (fun ls hl => ?_)
                refine lv_iload hx hb dX9_joined_134 (lv_at hl 5 rfl) ?_
                refine lv_istore_n (lv' := [(3, .int o_20), (2, .int x4_6), (0, .ref q_this), (1, .int p1), (4, .int x4_6), (5, .int o_20)]) hx hb dX9_joined_136 rfl hl (by decide) rfl (fun ls hl => ?_)
                obtain ⟨x4_55, e_56, h⟩ := nm_el h
                refine lv_iinc (v := x4_55) (lv' := [(4, .int x4_55), (3, .int o_20), (2, .int x4_6), (0, .ref q_this), (1, .int p1), (5, .int o_20)]) hx hb dX9_joined_137 hl (k := 4) rfl (by rw [← e_56]; rfl) (by decide) rfl (fun ls hl => ?_)
                refine lv_goto (tgt := 17) hx hb dX9_joined_140 (by decide) ?_
                exact ih _ _ _ _ _ _ _ _ _ _ _ _ _ h hex hP hD hS (lv_sub hl [3, 4, 2, 1, 0] rfl)
              · replace h := ifn_el c_54 h
                refine lv_iload hx hb dX9_joined_125 (lv_at hl 5 rfl) ?_
                refine lv_iload_n hx hb dX9_joined_127 rfl (lv_at hl 3 rfl) ?_
                refine lv_icmp_ge (tgt := 137) hx hb dX9_joined_128 (by decide) (fun c_57 => ?_) (fun c_57 => ?_)
                · replace h := ifp_el c_57 h
                  obtain ⟨x4_58, e_59, h⟩ := nm_el h
                  refine lv_iinc (v := x4_58) (lv' := [(4, .int x4_58), (0, .ref q_this), (1, .int p1), (2, .int x2_4), (3, .int x3_5), (5, .int o_20)]) hx hb dX9_joined_137 hl (k := 4) rfl (by rw [← e_59]; rfl) (by decide) rfl (fun ls hl => ?_)
                  refine lv_goto (tgt := 17) hx hb dX9_joined_140 (by decide) ?_
                  exact ih _ _ _ _ _ _ _ _ _ _ _ _ _ h hex hP hD hS (lv_sub hl [1, 2, 3, 4, 0] rfl)
                · replace h := ifn_el c_57 h
                  refine lv_iload hx hb dX9_joined_131 (lv_at hl 4 rfl) ?_
                  refine lv_istore_n (lv' := [(2, .int x4_6), (0, .ref q_this), (1, .int p1), (3, .int x3_5), (4, .int x4_6), (5, .int o_20)]) hx hb dX9_joined_133 rfl hl (by decide) rfl (fun ls hl => ?_)
                  refine lv_iload hx hb dX9_joined_134 (lv_at hl 5 rfl) ?_
                  refine lv_istore_n (lv' := [(3, .int o_20), (2, .int x4_6), (0, .ref q_this), (1, .int p1), (4, .int x4_6), (5, .int o_20)]) hx hb dX9_joined_136 rfl hl (by decide) rfl (fun ls hl => ?_)
                  obtain ⟨x4_60, e_61, h⟩ := nm_el h
                  refine lv_iinc (v := x4_60) (lv' := [(4, .int x4_60), (3, .int o_20), (2, .int x4_6), (0, .ref q_this), (1, .int p1), (5, .int o_20)]) hx hb dX9_joined_137 hl (k := 4) rfl (by rw [← e_61]; rfl) (by decide) rfl (fun ls hl => ?_)
                  refine lv_goto (tgt := 17) hx hb dX9_joined_140 (by decide) ?_
                  exact ih _ _ _ _ _ _ _ _ _ _ _ _ _ h hex hP hD hS (lv_sub hl [3, 4, 2, 1, 0] rfl)
          have hlp : ∀ (n : Nat) (x5_15 : Int32) (x6_16 : Int32) (y_one_17 : Nat → Int32) (y_two_18 : Nat → Int32) (y_ways_19 : Nat → Int32) (o_20 : Int32) (o_21 : Nat → Int32) (o_22 : Nat → Int32) (o_23 : Nat → Int32) (H : Heap) (locs : List Loc) (ls : Array Slot), lpg (T := Int32 → Int32 → (Nat → Int32) → (Nat → Int32) → (Nat → Int32) → Option (Int32 × (Nat → Int32) × (Nat → Int32) × (Nat → Int32))) (fun _ _ _ _ _ => none) (b_X9_joined_29 p1 v_l F x4_6) n x5_15 x6_16 y_one_17 y_two_18 y_ways_19 = some (o_20, o_21, o_22, o_23) → (∀ (H : Heap) (locs : List Loc) (ls : Array Slot), va_P D vwCl [(q_this, .inr (8, [.ref q_text, .int v_size, .int v_at, .ref q_read, .ref q_l, .ref q_stands, .ref q_kept, .int v_keptMany, .ref q_one, .ref q_two, .ref q_ways, .ref q_now, .ref q_then])), (q_l, .inl (ca 0, 336, .inl v_l)), (q_one, .inl (ca 0, 7, .inl o_21)), (q_two, .inl (ca 0, 7, .inl o_22)), (q_ways, .inl (ca 0, 49, .inl o_23))] H → va_D A [(q_this, .inr (8, [.ref q_text, .int v_size, .int v_at, .ref q_read, .ref q_l, .ref q_stands, .ref q_kept, .int v_keptMany, .ref q_one, .ref q_two, .ref q_ways, .ref q_now, .ref q_then])), (q_l, .inl (ca 0, 336, .inl v_l)), (q_one, .inl (ca 0, 7, .inl o_21)), (q_two, .inl (ca 0, 7, .inl o_22)), (q_ways, .inl (ca 0, 49, .inl o_23))] → va_S A s.heap H locs → lv_has ls 7 [(0, .ref q_this), (1, .int p1), (2, .int x2_4), (3, .int x3_5), (4, .int x4_6), (5, .int o_20)] → W p l e (headSpec wsX9_joined rm_X9_joined).room s m args below meth c H locs 0 0 Q (F0 m 107 ls [])) → va_P D vwCl [(q_this, .inr (8, [.ref q_text, .int v_size, .int v_at, .ref q_read, .ref q_l, .ref q_stands, .ref q_kept, .int v_keptMany, .ref q_one, .ref q_two, .ref q_ways, .ref q_now, .ref q_then])), (q_l, .inl (ca 0, 336, .inl v_l)), (q_one, .inl (ca 0, 7, .inl y_one_17)), (q_two, .inl (ca 0, 7, .inl y_two_18)), (q_ways, .inl (ca 0, 49, .inl y_ways_19))] H → va_D A [(q_this, .inr (8, [.ref q_text, .int v_size, .int v_at, .ref q_read, .ref q_l, .ref q_stands, .ref q_kept, .int v_keptMany, .ref q_one, .ref q_two, .ref q_ways, .ref q_now, .ref q_then])), (q_l, .inl (ca 0, 336, .inl v_l)), (q_one, .inl (ca 0, 7, .inl y_one_17)), (q_two, .inl (ca 0, 7, .inl y_two_18)), (q_ways, .inl (ca 0, 49, .inl y_ways_19))] → va_S A s.heap H locs → lv_has ls 7 [(0, .ref q_this), (1, .int p1), (2, .int x2_4), (3, .int x3_5), (4, .int x4_6), (5, .int x5_15), (6, .int x6_16)] → W p l e (headSpec wsX9_joined rm_X9_joined).room s m args below meth c H locs 0 0 Q (F0 m 29 ls []) := by
            intro n
            induction n with
            | zero => intro x5_15 x6_16 y_one_17 y_two_18 y_ways_19 o_20 o_21 o_22 o_23 H locs ls h; have h : (none : Option (Int32 × (Nat → Int32) × (Nat → Int32) × (Nat → Int32))) = some _ := h; cases h
            | succ n ih =>
              intro x5_15 x6_16 y_one_17 y_two_18 y_ways_19 o_20 o_21 o_22 o_23 H locs ls h hex hP hD hS hl
              rw [lpg_succ, b_X9_joined_29] at h
              refine lv_iload hx hb dX9_joined_29 (lv_at hl 6 rfl) ?_
              refine lv_iconst (v := (nI 3)) hx hb dX9_joined_31 (by decide) ?_
              refine lv_icmp_ge (tgt := 107) hx hb dX9_joined_32 (by decide) (fun c_24 => ?_) (fun c_24 => ?_)
              · replace h := ifp_el c_24 h
                cases h
                exact hex _ _ _ hP hD hS (lv_sub hl [0, 1, 2, 3, 4, 5] rfl)
              · replace h := ifn_el c_24 h
                refine lv_aload_n hx hb dX9_joined_35 rfl (lv_at hl 0 rfl) ?_
                refine va_get (D := D) (ci := 8) (v := .ref q_l) (C := RX9) (T := TX9) (N := 13) hx hb hts i_X9 hown hK hP 0 rfl rfl 4 (by decide) k_16 (fun _ h9 => h9) rfl dX9_joined_36 ?_
                refine lv_iload hx hb dX9_joined_39 (lv_at hl 4 rfl) ?_
                refine lv_iload_n hx hb dX9_joined_41 rfl (lv_at hl 1 rfl) ?_
                obtain ⟨r_25, hg_26, h⟩ := bd1_el h
                refine kx_Si (As := [.int x4_6, .int p1]) (rest := [.ref q_l]) (wr := [(q_this, .inr (8, [.ref q_text, .int v_size, .int v_at, .ref q_read, .ref q_l, .ref q_stands, .ref q_kept, .int v_keptMany, .ref q_one, .ref q_two, .ref q_ways, .ref q_now, .ref q_then])), (q_l, .inl (ca 0, 336, .inl v_l)), (q_one, .inl (ca 0, 7, .inl y_one_17)), (q_two, .inl (ca 0, 7, .inl y_two_18)), (q_ways, .inl (ca 0, 49, .inl y_ways_19))]) (w1 := []) (wn := [(q_this, .inr (8, [.ref q_text, .int v_size, .int v_at, .ref q_read, .ref q_l, .ref q_stands, .ref q_kept, .int v_keptMany, .ref q_one, .ref q_two, .ref q_ways, .ref q_now, .ref q_then])), (q_l, .inl (ca 0, 336, .inl v_l)), (q_one, .inl (ca 0, 7, .inl y_one_17)), (q_two, .inl (ca 0, 7, .inl y_two_18)), (q_ways, .inl (ca 0, 49, .inl y_ways_19))]) ⟨hx, hb, hml, hown, hts⟩ (c_X9_earAt l D ca H.size x4_6 p1 r_25 hg_26) (va_cwS 2 hts gX9_joined_X9_earAt rfl rfl rfl (by decide +kernel) ⟨(Nat.le_of_ble_eq_true rfl), (Nat.le_of_ble_eq_true rfl)⟩) hK hP hD hS hA [] [0, 1, 2, 3, 4] [0, 1, 2, 3, 4] rfl rfl rfl rfl (by decide) rfl rfl rfl hl.1 rfl (Nat.le_of_ble_eq_true rfl) dX9_joined_42 ⟨Nat.zero_le _, Nat.zero_le _⟩ (fun H locs hP hD hS => ?_)
                obtain ⟨hi_27, h⟩ := ck_el h
                refine va_iald hx hb hK hP 1 0 rfl rfl hi_27 dX9_joined_45 ?_
                refine lv_if_le (tgt := 107) hx hb dX9_joined_46 (by decide) (fun c_28 => ?_) (fun c_28 => ?_)
                · replace h := ifp_el c_28 h
                  cases h
                  exact hex _ _ _ hP hD hS (lv_sub hl [0, 1, 2, 3, 4, 5] rfl)
                · replace h := ifn_el c_28 h
                  refine lv_aload_n hx hb dX9_joined_49 rfl (lv_at hl 0 rfl) ?_
                  refine lv_iload hx hb dX9_joined_50 (lv_at hl 4 rfl) ?_
                  refine lv_iload_n hx hb dX9_joined_52 rfl (lv_at hl 1 rfl) ?_
                  obtain ⟨r_29, hg_30, h⟩ := bd1_el h
                  refine kx_Si (As := [.int x4_6, .int p1]) (rest := [.ref q_this]) (wr := [(q_this, .inr (8, [.ref q_text, .int v_size, .int v_at, .ref q_read, .ref q_l, .ref q_stands, .ref q_kept, .int v_keptMany, .ref q_one, .ref q_two, .ref q_ways, .ref q_now, .ref q_then])), (q_l, .inl (ca 0, 336, .inl v_l)), (q_one, .inl (ca 0, 7, .inl y_one_17)), (q_two, .inl (ca 0, 7, .inl y_two_18)), (q_ways, .inl (ca 0, 49, .inl y_ways_19))]) (w1 := []) (wn := [(q_this, .inr (8, [.ref q_text, .int v_size, .int v_at, .ref q_read, .ref q_l, .ref q_stands, .ref q_kept, .int v_keptMany, .ref q_one, .ref q_two, .ref q_ways, .ref q_now, .ref q_then])), (q_l, .inl (ca 0, 336, .inl v_l)), (q_one, .inl (ca 0, 7, .inl y_one_17)), (q_two, .inl (ca 0, 7, .inl y_two_18)), (q_ways, .inl (ca 0, 49, .inl y_ways_19))]) ⟨hx, hb, hml, hown, hts⟩ (c_X9_earAt l D ca H.size x4_6 p1 r_29 hg_30) (va_cwS 2 hts gX9_joined_X9_earAt rfl rfl rfl (by decide +kernel) ⟨(Nat.le_of_ble_eq_true rfl), (Nat.le_of_ble_eq_true rfl)⟩) hK hP hD hS hA [] [0, 1, 2, 3, 4] [0, 1, 2, 3, 4] rfl rfl rfl rfl (by decide) rfl rfl rfl hl.1 rfl (Nat.le_of_ble_eq_true rfl) dX9_joined_53 ⟨Nat.zero_le _, Nat.zero_le _⟩ (fun H locs hP hD hS => ?_)
                  refine lv_iconst (v := (-1 : Int32)) hx hb dX9_joined_56 (by decide) ?_
                  refine lv_aload_n hx hb dX9_joined_57 rfl (lv_at hl 0 rfl) ?_
                  refine va_get (D := D) (ci := 8) (v := .ref q_one) (C := RX9) (T := TX9) (N := 13) hx hb hts i_X9 hown hK hP 0 rfl rfl 8 (by decide) k_25 (fun _ h9 => h9) rfl dX9_joined_58 ?_
                  obtain ⟨y_one_31, hg_32, h⟩ := bd1_el h
                  refine kx_Vv (As := [.int r_29, .int (-1 : Int32), .ref q_one]) (rest := []) (wr := [(q_two, .inl (ca 0, 7, .inl y_two_18)), (q_ways, .inl (ca 0, 49, .inl y_ways_19))]) (w1 := [(q_this, .inr (8, [.ref q_text, .int v_size, .int v_at, .ref q_read, .ref q_l, .ref q_stands, .ref q_kept, .int v_keptMany, .ref q_one, .ref q_two, .ref q_ways, .ref q_now, .ref q_then])), (q_l, .inl (ca 0, 336, .inl v_l)), (q_one, .inl (ca 0, 7, .inl y_one_31))]) (wn := [(q_this, .inr (8, [.ref q_text, .int v_size, .int v_at, .ref q_read, .ref q_l, .ref q_stands, .ref q_kept, .int v_keptMany, .ref q_one, .ref q_two, .ref q_ways, .ref q_now, .ref q_then])), (q_l, .inl (ca 0, 336, .inl v_l)), (q_one, .inl (ca 0, 7, .inl y_one_31)), (q_two, .inl (ca 0, 7, .inl y_two_18)), (q_ways, .inl (ca 0, 49, .inl y_ways_19))]) ⟨hx, hb, hml, hown, hts⟩ (c_X9_say l D ca F H.size q_this q_text q_read q_l q_stands q_kept q_one q_two q_ways q_now q_then q_one 7 r_29 (-1 : Int32) v_size v_at v_keptMany v_l y_one_17 y_one_31 hg_32) (cwV 3 hts gX9_joined_X9_say rfl rfl rfl (by decide +kernel) ⟨(Nat.le_of_ble_eq_true rfl), (Nat.le_of_ble_eq_true rfl)⟩) hK hP hD hS hA (ci := 8) (q0 := 0) rfl rfl [0, 1, 2] [3, 4] [2, 3, 4, 0, 1] rfl rfl rfl rfl (by decide) rfl rfl rfl hl.1 rfl (Nat.le_of_ble_eq_true rfl) dX9_joined_61 ⟨Nat.zero_le _, Nat.zero_le _⟩ (fun H locs hP hD hS => ?_)
                  refine lv_aload_n hx hb dX9_joined_64 rfl (lv_at hl 0 rfl) ?_
                  refine lv_iload hx hb dX9_joined_65 (lv_at hl 6 rfl) ?_
                  refine lv_iload_n hx hb dX9_joined_67 rfl (lv_at hl 1 rfl) ?_
                  obtain ⟨r_33, hg_34, h⟩ := bd1_el h
                  refine kx_Si (As := [.int x6_16, .int p1]) (rest := [.ref q_this]) (wr := [(q_this, .inr (8, [.ref q_text, .int v_size, .int v_at, .ref q_read, .ref q_l, .ref q_stands, .ref q_kept, .int v_keptMany, .ref q_one, .ref q_two, .ref q_ways, .ref q_now, .ref q_then])), (q_l, .inl (ca 0, 336, .inl v_l)), (q_one, .inl (ca 0, 7, .inl y_one_31)), (q_two, .inl (ca 0, 7, .inl y_two_18)), (q_ways, .inl (ca 0, 49, .inl y_ways_19))]) (w1 := []) (wn := [(q_this, .inr (8, [.ref q_text, .int v_size, .int v_at, .ref q_read, .ref q_l, .ref q_stands, .ref q_kept, .int v_keptMany, .ref q_one, .ref q_two, .ref q_ways, .ref q_now, .ref q_then])), (q_l, .inl (ca 0, 336, .inl v_l)), (q_one, .inl (ca 0, 7, .inl y_one_31)), (q_two, .inl (ca 0, 7, .inl y_two_18)), (q_ways, .inl (ca 0, 49, .inl y_ways_19))]) ⟨hx, hb, hml, hown, hts⟩ (c_X9_earAt l D ca H.size x6_16 p1 r_33 hg_34) (va_cwS 2 hts gX9_joined_X9_earAt rfl rfl rfl (by decide +kernel) ⟨(Nat.le_of_ble_eq_true rfl), (Nat.le_of_ble_eq_true rfl)⟩) hK hP hD hS hA [] [0, 1, 2, 3, 4] [0, 1, 2, 3, 4] rfl rfl rfl rfl (by decide) rfl rfl rfl hl.1 rfl (Nat.le_of_ble_eq_true rfl) dX9_joined_68 ⟨Nat.zero_le _, Nat.zero_le _⟩ (fun H locs hP hD hS => ?_)
                  refine lv_iconst (v := (-1 : Int32)) hx hb dX9_joined_71 (by decide) ?_
                  refine lv_aload_n hx hb dX9_joined_72 rfl (lv_at hl 0 rfl) ?_
                  refine va_get (D := D) (ci := 8) (v := .ref q_two) (C := RX9) (T := TX9) (N := 13) hx hb hts i_X9 hown hK hP 0 rfl rfl 9 (by decide) k_28 (fun _ h9 => h9) rfl dX9_joined_73 ?_
                  obtain ⟨y_two_35, hg_36, h⟩ := bd1_el h
                  refine kx_Vv (As := [.int r_33, .int (-1 : Int32), .ref q_two]) (rest := []) (wr := [(q_one, .inl (ca 0, 7, .inl y_one_31)), (q_ways, .inl (ca 0, 49, .inl y_ways_19))]) (w1 := [(q_this, .inr (8, [.ref q_text, .int v_size, .int v_at, .ref q_read, .ref q_l, .ref q_stands, .ref q_kept, .int v_keptMany, .ref q_one, .ref q_two, .ref q_ways, .ref q_now, .ref q_then])), (q_l, .inl (ca 0, 336, .inl v_l)), (q_two, .inl (ca 0, 7, .inl y_two_35))]) (wn := [(q_this, .inr (8, [.ref q_text, .int v_size, .int v_at, .ref q_read, .ref q_l, .ref q_stands, .ref q_kept, .int v_keptMany, .ref q_one, .ref q_two, .ref q_ways, .ref q_now, .ref q_then])), (q_l, .inl (ca 0, 336, .inl v_l)), (q_one, .inl (ca 0, 7, .inl y_one_31)), (q_two, .inl (ca 0, 7, .inl y_two_35)), (q_ways, .inl (ca 0, 49, .inl y_ways_19))]) ⟨hx, hb, hml, hown, hts⟩ (c_X9_say l D ca F H.size q_this q_text q_read q_l q_stands q_kept q_one q_two q_ways q_now q_then q_two 7 r_33 (-1 : Int32) v_size v_at v_keptMany v_l y_two_18 y_two_35 hg_36) (cwV 3 hts gX9_joined_X9_say rfl rfl rfl (by decide +kernel) ⟨(Nat.le_of_ble_eq_true rfl), (Nat.le_of_ble_eq_true rfl)⟩) hK hP hD hS hA (ci := 8) (q0 := 0) rfl rfl [0, 1, 3] [2, 4] [2, 3, 0, 4, 1] rfl rfl rfl rfl (by decide) rfl rfl rfl hl.1 rfl (Nat.le_of_ble_eq_true rfl) dX9_joined_76 ⟨Nat.zero_le _, Nat.zero_le _⟩ (fun H locs hP hD hS => ?_)
                  refine lv_iload hx hb dX9_joined_79 (lv_at hl 5 rfl) ?_
                  refine lv_aload_n hx hb dX9_joined_81 rfl (lv_at hl 0 rfl) ?_
                  refine va_get (D := D) (ci := 8) (v := .ref q_two) (C := RX9) (T := TX9) (N := 13) hx hb hts i_X9 hown hK hP 0 rfl rfl 9 (by decide) k_28 (fun _ h9 => h9) rfl dX9_joined_82 ?_
                  refine lv_iconst (v := (nI 0)) hx hb dX9_joined_85 (by decide) ?_
                  obtain ⟨hi_37, h⟩ := ck_el h
                  refine va_iald hx hb hK hP 3 0 rfl rfl hi_37 dX9_joined_86 ?_
                  refine lv_if_ne (tgt := 94) hx hb dX9_joined_87 (by decide) (fun c_38 => ?_) (fun c_38 => ?_)
                  · replace h := ifn_el c_38 h
                    refine lv_aload_n hx hb dX9_joined_94 rfl (lv_at hl 0 rfl) ?_
                    obtain ⟨r_39, y_ways_40, hg_41, h⟩ := bd2_el h
                    refine kx_Vi (As := []) (rest := [.int x5_15]) (wr := [(q_l, .inl (ca 0, 336, .inl v_l))]) (w1 := [(q_this, .inr (8, [.ref q_text, .int v_size, .int v_at, .ref q_read, .ref q_l, .ref q_stands, .ref q_kept, .int v_keptMany, .ref q_one, .ref q_two, .ref q_ways, .ref q_now, .ref q_then])), (q_one, .inl (ca 0, 7, .inl y_one_31)), (q_two, .inl (ca 0, 7, .inl y_two_35)), (q_ways, .inl (ca 0, 49, .inl y_ways_40))]) (wn := [(q_this, .inr (8, [.ref q_text, .int v_size, .int v_at, .ref q_read, .ref q_l, .ref q_stands, .ref q_kept, .int v_keptMany, .ref q_one, .ref q_two, .ref q_ways, .ref q_now, .ref q_then])), (q_l, .inl (ca 0, 336, .inl v_l)), (q_one, .inl (ca 0, 7, .inl y_one_31)), (q_two, .inl (ca 0, 7, .inl y_two_35)), (q_ways, .inl (ca 0, 49, .inl y_ways_40))]) ⟨hx, hb, hml, hown, hts⟩ (c_X9_farOf l D ca F H.size q_this q_text q_read q_l q_stands q_kept q_one q_two q_ways q_now q_then v_size v_at v_keptMany y_one_31 y_two_35 y_ways_19 r_39 y_ways_40 hg_41) (cwV 0 hts gX9_joined_X9_farOf rfl rfl rfl (by decide +kernel) ⟨(Nat.le_of_ble_eq_true rfl), (Nat.le_of_ble_eq_true rfl)⟩) hK hP hD hS hA (ci := 8) (q0 := 0) rfl rfl [0, 2, 3, 4] [1] [1, 0, 2, 3, 4] rfl rfl rfl rfl (by decide) rfl rfl rfl hl.1 rfl (Nat.le_of_ble_eq_true rfl) dX9_joined_95 ⟨Nat.zero_le _, Nat.zero_le _⟩ (fun H locs hP hD hS => ?_)
                    refine lv_iadd hx hb dX9_joined_98 ?_
                    refine lv_nmi h (fun x5_42 h => ?_)
                    refine lv_istore (lv' := [(5, .int x5_42), (0, .ref q_this), (1, .int p1), (2, .int x2_4), (3, .int x3_5), (4, .int x4_6), (6, .int x6_16)]) hx hb dX9_joined_99 hl (by decide) rfl (fun ls hl => ?_)
                    obtain ⟨x6_43, e_44, h⟩ := nm_el h
                    refine lv_iinc (v := x6_43) (lv' := [(6, .int x6_43), (5, .int x5_42), (0, .ref q_this), (1, .int p1), (2, .int x2_4), (3, .int x3_5), (4, .int x4_6)]) hx hb dX9_joined_101 hl (k := 6) rfl (by rw [← e_44]; rfl) (by decide) rfl (fun ls hl => ?_)
                    refine lv_goto (tgt := 29) hx hb dX9_joined_104 (by decide) ?_
                    exact ih _ _ _ _ _ _ _ _ _ _ _ _ h hex hP hD hS (lv_sub hl [2, 3, 4, 5, 6, 1, 0] rfl)
                  · replace h := ifp_el c_38 h
                    refine lv_iconst (v := (nI 0)) hx hb dX9_joined_90 (by decide) ?_
                    refine lv_goto (tgt := 98) hx hb dX9_joined_91 (by decide) ?_
                    refine lv_iadd hx hb dX9_joined_98 ?_
                    refine lv_nmi h (fun x5_45 h => ?_)
                    refine lv_istore (lv' := [(5, .int x5_45), (0, .ref q_this), (1, .int p1), (2, .int x2_4), (3, .int x3_5), (4, .int x4_6), (6, .int x6_16)]) hx hb dX9_joined_99 hl (by decide) rfl (fun ls hl => ?_)
                    obtain ⟨x6_46, e_47, h⟩ := nm_el h
                    refine lv_iinc (v := x6_46) (lv' := [(6, .int x6_46), (5, .int x5_45), (0, .ref q_this), (1, .int p1), (2, .int x2_4), (3, .int x3_5), (4, .int x4_6)]) hx hb dX9_joined_101 hl (k := 6) rfl (by rw [← e_47]; rfl) (by decide) rfl (fun ls hl => ?_)
                    refine lv_goto (tgt := 29) hx hb dX9_joined_104 (by decide) ?_
                    exact ih _ _ _ _ _ _ _ _ _ _ _ _ h hex hP hD hS (lv_sub hl [2, 3, 4, 5, 6, 1, 0] rfl)
          exact hlp F (nI 0) (nI 0) y_one_7 y_two_8 y_ways_9 o_20 o_21 o_22 o_23 H locs ls hL hex hP hD hS (lv_sub hl [2, 3, 4, 5, 6, 1, 0] rfl)
    exact hlp F (-4 : Int32) (nI 0) (nI 0) v_one v_two v_ways o_10 o_11 o_12 o_13 H locs ls hL hex hP hD hS (lv_sub hl [3, 4, 2, 1, 0] rfl)
  · replace h := ifp_el c_3 h
    refine lv_iconst (v := (-1 : Int32)) hx hb dX9_joined_7 (by decide) ?_
    cases h
    rw [← hQe]
    exact W.iret hx hb hr (fun t ht hW => ⟨⟨_, (), rfl, rfl, by rw [ht]; exact hP, va_K.moved hW.alike hK, hD⟩, hS.F ht⟩) hS.2.2 dX9_joined_8
def b_X9_hear_8 (p1 : Int32) (p2 : Int32) (rec8 : Int64 → Int64 → Int32 → Option (Int64 × Int64)) (x2_1 : Int64) (x4_2 : Int64) (x6_3 : Int32) : Option (Int64 × Int64) := (if p2 ≤ x6_3 then some (x2_1, x4_2) else nm (x2_1 * p1.toInt64) (fun x2_7 => nm (x4_2 * (((nI 1000) - p1).toInt64)) (fun x4_8 => nm (x6_3 + (nI 1)) (fun x6_9 => rec8 x2_7 x4_8 x6_9))))
def D_X9_hear (F : Nat) (p1 : Int32) (p2 : Int32) : Option (Int32) := bd2 (lpg (T := Int64 → Int64 → Int32 → Option (Int64 × Int64)) (fun _ _ _ => none) (b_X9_hear_8 p1 p2) F (lN 1) (lN 1) (nI 0)) (fun o_4 o_5 => dzl (o_4 + o_5) (some (((o_4 * (lN 1000)) / (o_4 + o_5)).toInt32)))
abbrev rm_X9_hear : Room := { frames := 0, cells := 0, slots := 0, locals := 0 }
set_option maxHeartbeats 4000000 in
set_option maxRecDepth 100000 in
theorem c_X9_hear (l : Launch) (D : va_G) (ca : Nat → ClassId) (F : Nat) (sz : Nat) (p1 : Int32) (p2 : Int32) (r : Int32) (h : D_X9_hear F p1 p2 = some (r)) : Met l yX9_hear wsX9_hear rm_X9_hear (va_Pc [.int p1, .int p2] (kPre D ca [] sz)) (kQi D ca (va_A [] sz) [] r) 0 0 (va_A [] sz) := by
  refine Met.ofW (cc := cX9_hear) (maxL := 7) (ret := (some .int)) (by decide +kernel) rfl ?_
  intro p e s m args below meth c s₁ B hml hv
  obtain ⟨rfl, hsz, hP, hK, hD0⟩ := hv
  have hx := B.exec
  have hb := B.bytes
  have hr := B.returns
  have hts := atoms_spec (ws := wsX9_hear) B.pre
  have hown : s.vm.findClass RX9 = some m.cls := findClass_of_methodNamed B.named
  have hlocks := B.notSynchronized
  clear B
  subst hsz
  have hD := hD0.self (sz := s.heap.size)
  generalize hAe : va_A [] s.heap.size = A at hD ⊢
  have hA : ∀ q : Nat, s.heap.size ≤ q → A q := fun q h => by rw [← hAe]; exact Or.inr h
  have hS : va_S A s.heap s.heap [] := va_S.rf
  have hl := lv_entry ([.int p1, .int p2]) (n := 7) (Nat.le_of_ble_eq_true rfl)
  rw [lg_entry_eq]
  generalize (lg_sl ([.int p1, .int p2]) ++ List.replicate (7 - (lg_sl ([.int p1, .int p2])).length) Slot.unset).toArray = ls at hl ⊢
  have hl : lv_has ls 7 [(0, .int p1), (1, .int p2)] := hl
  generalize ([.int p1, .int p2] : List Value).toArray = args at hts ⊢
  generalize hQe : MQ below (kQi D ca (A) [] r) args s 0 0 A = Q
  have k_201 := hts (.constantLong RX9 201 (lN 1000)) (by decide +kernel)
  rw [D_X9_hear] at h
  refine lv_lconst (v := (lN 1)) hx hb dX9_hear_0 (by decide) ?_
  refine lv_lstore_n (lv' := [(2, .long (lN 1)), (0, .int p1), (1, .int p2)]) hx hb dX9_hear_1 rfl hl (by decide) rfl (fun ls hl => ?_)
  refine lv_lconst (v := (lN 1)) hx hb dX9_hear_2 (by decide) ?_
  refine lv_lstore (lv' := [(4, .long (lN 1)), (2, .long (lN 1)), (0, .int p1), (1, .int p2)]) hx hb dX9_hear_3 hl (by decide) rfl (fun ls hl => ?_)
  refine lv_iconst (v := (nI 0)) hx hb dX9_hear_5 (by decide) ?_
  refine lv_istore (lv' := [(6, .int (nI 0)), (4, .long (lN 1)), (2, .long (lN 1)), (0, .int p1), (1, .int p2)]) hx hb dX9_hear_6 hl (by decide) rfl (fun ls hl => ?_)
  obtain ⟨o_4, o_5, hL, h⟩ := bd2_el h
  have hex : ∀ (H : Heap) (locs : List Loc) (ls : Array Slot), va_P D vwCl [] H → va_D A [] → va_S A s.heap H locs → lv_has ls 7 [(2, .long o_4), (4, .long o_5)] → W p l e (headSpec wsX9_hear rm_X9_hear).room s m args below meth c H locs 0 0 Q (F0 m 36 ls []) := by
    intro H locs ls hP hD hS hl
    refine lv_lload_n hx hb dX9_hear_36 rfl (lv_at hl 0 rfl) ?_
    refine lv_ldc2 hx hb hown k_201 dX9_hear_37 ?_
    refine lv_lmul hx hb dX9_hear_40 ?_
    refine lv_lload_n hx hb dX9_hear_41 rfl (lv_at hl 0 rfl) ?_
    refine lv_lload hx hb dX9_hear_42 (lv_at hl 1 rfl) ?_
    refine lv_ladd hx hb dX9_hear_44 ?_
    obtain ⟨hn_11, h⟩ := dzl_el h
    refine lv_ldiv hx hb dX9_hear_45 hn_11 ?_
    refine lv_l2i hx hb dX9_hear_46 rfl ?_
    cases h
    rw [← hQe]
    exact W.iret hx hb hr (fun t ht hW => ⟨⟨_, (), rfl, rfl, by rw [ht]; exact hP, va_K.moved hW.alike hK, hD⟩, hS.F ht⟩) hS.2.2 dX9_hear_47
  have hlp : ∀ (n : Nat) (x2_1 : Int64) (x4_2 : Int64) (x6_3 : Int32) (o_4 : Int64) (o_5 : Int64) (H : Heap) (locs : List Loc) (ls : Array Slot), lpg (T := Int64 → Int64 → Int32 → Option (Int64 × Int64)) (fun _ _ _ => none) (b_X9_hear_8 p1 p2) n x2_1 x4_2 x6_3 = some (o_4, o_5) → (∀ (H : Heap) (locs : List Loc) (ls : Array Slot), va_P D vwCl [] H → va_D A [] → va_S A s.heap H locs → lv_has ls 7 [(2, .long o_4), (4, .long o_5)] → W p l e (headSpec wsX9_hear rm_X9_hear).room s m args below meth c H locs 0 0 Q (F0 m 36 ls [])) → va_P D vwCl [] H → va_D A [] → va_S A s.heap H locs → lv_has ls 7 [(0, .int p1), (1, .int p2), (2, .long x2_1), (4, .long x4_2), (6, .int x6_3)] → W p l e (headSpec wsX9_hear rm_X9_hear).room s m args below meth c H locs 0 0 Q (F0 m 8 ls []) := by
    intro n
    induction n with
    | zero => intro x2_1 x4_2 x6_3 o_4 o_5 H locs ls h; have h : (none : Option (Int64 × Int64)) = some _ := h; cases h
    | succ n ih =>
      intro x2_1 x4_2 x6_3 o_4 o_5 H locs ls h hex hP hD hS hl
      rw [lpg_succ, b_X9_hear_8] at h
      refine lv_iload hx hb dX9_hear_8 (lv_at hl 4 rfl) ?_
      refine lv_iload_n hx hb dX9_hear_10 rfl (lv_at hl 1 rfl) ?_
      refine lv_icmp_ge (tgt := 36) hx hb dX9_hear_11 (by decide) (fun c_6 => ?_) (fun c_6 => ?_)
      · replace h := ifp_el c_6 h
        cases h
        exact hex _ _ _ hP hD hS (lv_sub hl [2, 3] rfl)
      · replace h := ifn_el c_6 h
        refine lv_lload_n hx hb dX9_hear_14 rfl (lv_at hl 2 rfl) ?_
        refine lv_iload_n hx hb dX9_hear_15 rfl (lv_at hl 0 rfl) ?_
        refine lv_i2l hx hb dX9_hear_16 rfl ?_
        refine lv_lmul hx hb dX9_hear_17 ?_
        refine lv_nml h (fun x2_7 h => ?_)
        refine lv_lstore_n (lv' := [(2, .long x2_7), (0, .int p1), (1, .int p2), (4, .long x4_2), (6, .int x6_3)]) hx hb dX9_hear_18 rfl hl (by decide) rfl (fun ls hl => ?_)
        refine lv_lload hx hb dX9_hear_19 (lv_at hl 3 rfl) ?_
        refine lv_sipush (v := (nI 1000)) hx hb dX9_hear_21 (by decide) ?_
        refine lv_iload_n hx hb dX9_hear_24 rfl (lv_at hl 1 rfl) ?_
        refine lv_isub hx hb dX9_hear_25 ?_
        refine lv_i2l hx hb dX9_hear_26 rfl ?_
        refine lv_lmul hx hb dX9_hear_27 ?_
        refine lv_nml h (fun x4_8 h => ?_)
        refine lv_lstore (lv' := [(4, .long x4_8), (2, .long x2_7), (0, .int p1), (1, .int p2), (6, .int x6_3)]) hx hb dX9_hear_28 hl (by decide) rfl (fun ls hl => ?_)
        obtain ⟨x6_9, e_10, h⟩ := nm_el h
        refine lv_iinc (v := x6_9) (lv' := [(6, .int x6_9), (4, .long x4_8), (2, .long x2_7), (0, .int p1), (1, .int p2)]) hx hb dX9_hear_30 hl (k := 4) rfl (by rw [← e_10]; rfl) (by decide) rfl (fun ls hl => ?_)
        refine lv_goto (tgt := 8) hx hb dX9_hear_33 (by decide) ?_
        exact ih _ _ _ _ _ _ _ _ h hex hP hD hS (lv_sub hl [3, 4, 2, 1, 0] rfl)
  exact hlp F (lN 1) (lN 1) (nI 0) o_4 o_5 s.heap [] ls hL hex hP hD hS (lv_sub hl [3, 4, 2, 1, 0] rfl)
def b_X9_children_44 (p2 : Int32) (p3 : Int32) (F : Nat) (rec44 : Int32 → Int32 → Option (Int32)) (x4_10 : Int32) (x5_11 : Int32) : Option (Int32) := (if p3 ≤ x5_11 then some (x4_10) else bd1 (D_X9_hear F x4_10 p2) (fun r_14 => nm (x5_11 + (nI 1)) (fun x5_16 => rec44 r_14 x5_16)))
def D_X9_children (F : Nat) (p1 : Int32) (p2 : Int32) (p3 : Int32) : Option (Int32) := bd1 (D_X9_in p1.toInt64 (lN 0) (lN 1000)) (fun r_1 => (if r_1 = 0 then some ((-1 : Int32)) else bd1 (D_X9_in p2.toInt64 (lN 1) (lN 3)) (fun r_4 => (if r_4 = 0 then some ((-1 : Int32)) else bd1 (D_X9_in p3.toInt64 (lN 0) (lN 20)) (fun r_7 => (if r_7 = 0 then some ((-1 : Int32)) else bd1 (lpg (T := Int32 → Int32 → Option (Int32)) (fun _ _ => none) (b_X9_children_44 p2 p3 F) F p1 (nI 0)) (fun o_12 => some (o_12))))))))
abbrev rm_X9_children : Room := { frames := 1, cells := 0, slots := 0, locals := 26 }
set_option maxHeartbeats 4000000 in
set_option maxRecDepth 100000 in
theorem c_X9_children (l : Launch) (D : va_G) (ca : Nat → ClassId) (F : Nat) (sz : Nat) (q_this : Nat) (p1 : Int32) (p2 : Int32) (p3 : Int32) (r : Int32) (h : D_X9_children F p1 p2 p3 = some (r)) : Met l yX9_children wsX9_children rm_X9_children (va_Pc [.ref q_this, .int p1, .int p2, .int p3] (kPre D ca [] sz)) (kQi D ca (va_A [] sz) [] r) 0 0 (va_A [] sz) := by
  refine Met.ofW (cc := cX9_children) (maxL := 6) (ret := (some .int)) (by decide +kernel) rfl ?_
  intro p e s m args below meth c s₁ B hml hv
  obtain ⟨rfl, hsz, hP, hK, hD0⟩ := hv
  have hx := B.exec
  have hb := B.bytes
  have hr := B.returns
  have hts := atoms_spec (ws := wsX9_children) B.pre
  have hown : s.vm.findClass RX9 = some m.cls := findClass_of_methodNamed B.named
  have hlocks := B.notSynchronized
  clear B
  subst hsz
  have hD := hD0.self (sz := s.heap.size)
  generalize hAe : va_A [] s.heap.size = A at hD ⊢
  have hA : ∀ q : Nat, s.heap.size ≤ q → A q := fun q h => by rw [← hAe]; exact Or.inr h
  have hS : va_S A s.heap s.heap [] := va_S.rf
  have hl := lv_entry ([.ref q_this, .int p1, .int p2, .int p3]) (n := 6) (Nat.le_of_ble_eq_true rfl)
  rw [lg_entry_eq]
  generalize (lg_sl ([.ref q_this, .int p1, .int p2, .int p3]) ++ List.replicate (6 - (lg_sl ([.ref q_this, .int p1, .int p2, .int p3])).length) Slot.unset).toArray = ls at hl ⊢
  have hl : lv_has ls 6 [(0, .ref q_this), (1, .int p1), (2, .int p2), (3, .int p3)] := hl
  generalize ([.ref q_this, .int p1, .int p2, .int p3] : List Value).toArray = args at hts ⊢
  generalize hQe : MQ below (kQi D ca (A) [] r) args s 0 0 A = Q
  have k_201 := hts (.constantLong RX9 201 (lN 1000)) (by decide +kernel)
  have k_233 := hts (.constantLong RX9 233 (lN 3)) (by decide +kernel)
  have k_235 := hts (.constantLong RX9 235 (lN 20)) (by decide +kernel)
  rw [D_X9_children] at h
  refine lv_iload_n hx hb dX9_children_0 rfl (lv_at hl 1 rfl) ?_
  refine lv_i2l hx hb dX9_children_1 rfl ?_
  refine lv_lconst (v := (lN 0)) hx hb dX9_children_2 (by decide) ?_
  refine lv_ldc2 hx hb hown k_201 dX9_children_3 ?_
  obtain ⟨r_1, hg_2, h⟩ := bd1_el h
  refine kx_Si (As := [.long p1.toInt64, .long (lN 0), .long (lN 1000)]) (rest := []) (wr := []) (w1 := []) (wn := []) ⟨hx, hb, hml, hown, hts⟩ (c_X9_in l D ca s.heap.size p1.toInt64 (lN 0) (lN 1000) r_1 hg_2) (va_cwS 3 hts gX9_children_X9_in rfl rfl rfl (by decide +kernel) ⟨(Nat.le_of_ble_eq_true rfl), (Nat.le_of_ble_eq_true rfl)⟩) hK hP hD hS hA [] [] [] rfl rfl rfl rfl (by decide) rfl rfl rfl hl.1 rfl (Nat.le_of_ble_eq_true rfl) dX9_children_6 ⟨Nat.zero_le _, Nat.zero_le _⟩ (fun H locs hP hD hS => ?_)
  refine lv_if_eq (tgt := 36) hx hb dX9_children_9 (by decide) (fun c_3 => ?_) (fun c_3 => ?_)
  · replace h := ifp_el c_3 h
    refine lv_iconst (v := (-1 : Int32)) hx hb dX9_children_36 (by decide) ?_
    cases h
    rw [← hQe]
    exact W.iret hx hb hr (fun t ht hW => ⟨⟨_, (), rfl, rfl, by rw [ht]; exact hP, va_K.moved hW.alike hK, hD⟩, hS.F ht⟩) hS.2.2 dX9_children_37
  · replace h := ifn_el c_3 h
    refine lv_iload_n hx hb dX9_children_12 rfl (lv_at hl 2 rfl) ?_
    refine lv_i2l hx hb dX9_children_13 rfl ?_
    refine lv_lconst (v := (lN 1)) hx hb dX9_children_14 (by decide) ?_
    refine lv_ldc2 hx hb hown k_233 dX9_children_15 ?_
    obtain ⟨r_4, hg_5, h⟩ := bd1_el h
    refine kx_Si (As := [.long p2.toInt64, .long (lN 1), .long (lN 3)]) (rest := []) (wr := []) (w1 := []) (wn := []) ⟨hx, hb, hml, hown, hts⟩ (c_X9_in l D ca H.size p2.toInt64 (lN 1) (lN 3) r_4 hg_5) (va_cwS 3 hts gX9_children_X9_in rfl rfl rfl (by decide +kernel) ⟨(Nat.le_of_ble_eq_true rfl), (Nat.le_of_ble_eq_true rfl)⟩) hK hP hD hS hA [] [] [] rfl rfl rfl rfl (by decide) rfl rfl rfl hl.1 rfl (Nat.le_of_ble_eq_true rfl) dX9_children_18 ⟨Nat.zero_le _, Nat.zero_le _⟩ (fun H locs hP hD hS => ?_)
    refine lv_if_eq (tgt := 36) hx hb dX9_children_21 (by decide) (fun c_6 => ?_) (fun c_6 => ?_)
    · replace h := ifp_el c_6 h
      refine lv_iconst (v := (-1 : Int32)) hx hb dX9_children_36 (by decide) ?_
      cases h
      rw [← hQe]
      exact W.iret hx hb hr (fun t ht hW => ⟨⟨_, (), rfl, rfl, by rw [ht]; exact hP, va_K.moved hW.alike hK, hD⟩, hS.F ht⟩) hS.2.2 dX9_children_37
    · replace h := ifn_el c_6 h
      refine lv_iload_n hx hb dX9_children_24 rfl (lv_at hl 3 rfl) ?_
      refine lv_i2l hx hb dX9_children_25 rfl ?_
      refine lv_lconst (v := (lN 0)) hx hb dX9_children_26 (by decide) ?_
      refine lv_ldc2 hx hb hown k_235 dX9_children_27 ?_
      obtain ⟨r_7, hg_8, h⟩ := bd1_el h
      refine kx_Si (As := [.long p3.toInt64, .long (lN 0), .long (lN 20)]) (rest := []) (wr := []) (w1 := []) (wn := []) ⟨hx, hb, hml, hown, hts⟩ (c_X9_in l D ca H.size p3.toInt64 (lN 0) (lN 20) r_7 hg_8) (va_cwS 3 hts gX9_children_X9_in rfl rfl rfl (by decide +kernel) ⟨(Nat.le_of_ble_eq_true rfl), (Nat.le_of_ble_eq_true rfl)⟩) hK hP hD hS hA [] [] [] rfl rfl rfl rfl (by decide) rfl rfl rfl hl.1 rfl (Nat.le_of_ble_eq_true rfl) dX9_children_30 ⟨Nat.zero_le _, Nat.zero_le _⟩ (fun H locs hP hD hS => ?_)
      refine lv_if_ne (tgt := 38) hx hb dX9_children_33 (by decide) (fun c_9 => ?_) (fun c_9 => ?_)
      · replace h := ifn_el c_9 h
        refine lv_iload_n hx hb dX9_children_38 rfl (lv_at hl 1 rfl) ?_
        refine lv_istore (lv' := [(4, .int p1), (0, .ref q_this), (1, .int p1), (2, .int p2), (3, .int p3)]) hx hb dX9_children_39 hl (by decide) rfl (fun ls hl => ?_)
        refine lv_iconst (v := (nI 0)) hx hb dX9_children_41 (by decide) ?_
        refine lv_istore (lv' := [(5, .int (nI 0)), (4, .int p1), (0, .ref q_this), (1, .int p1), (2, .int p2), (3, .int p3)]) hx hb dX9_children_42 hl (by decide) rfl (fun ls hl => ?_)
        obtain ⟨o_12, hL, h⟩ := bd1_el h
        have hex : ∀ (H : Heap) (locs : List Loc) (ls : Array Slot), va_P D vwCl [] H → va_D A [] → va_S A s.heap H locs → lv_has ls 6 [(4, .int o_12)] → W p l e (headSpec wsX9_children rm_X9_children).room s m args below meth c H locs 0 0 Q (F0 m 64 ls []) := by
          intro H locs ls hP hD hS hl
          refine lv_iload hx hb dX9_children_64 (lv_at hl 0 rfl) ?_
          cases h
          rw [← hQe]
          exact W.iret hx hb hr (fun t ht hW => ⟨⟨_, (), rfl, rfl, by rw [ht]; exact hP, va_K.moved hW.alike hK, hD⟩, hS.F ht⟩) hS.2.2 dX9_children_66
        have hlp : ∀ (n : Nat) (x4_10 : Int32) (x5_11 : Int32) (o_12 : Int32) (H : Heap) (locs : List Loc) (ls : Array Slot), lpg (T := Int32 → Int32 → Option (Int32)) (fun _ _ => none) (b_X9_children_44 p2 p3 F) n x4_10 x5_11 = some (o_12) → (∀ (H : Heap) (locs : List Loc) (ls : Array Slot), va_P D vwCl [] H → va_D A [] → va_S A s.heap H locs → lv_has ls 6 [(4, .int o_12)] → W p l e (headSpec wsX9_children rm_X9_children).room s m args below meth c H locs 0 0 Q (F0 m 64 ls [])) → va_P D vwCl [] H → va_D A [] → va_S A s.heap H locs → lv_has ls 6 [(2, .int p2), (3, .int p3), (4, .int x4_10), (5, .int x5_11)] → W p l e (headSpec wsX9_children rm_X9_children).room s m args below meth c H locs 0 0 Q (F0 m 44 ls []) := by
          intro n
          induction n with
          | zero => intro x4_10 x5_11 o_12 H locs ls h; have h : (none : Option (Int32)) = some _ := h; cases h
          | succ n ih =>
            intro x4_10 x5_11 o_12 H locs ls h hex hP hD hS hl
            rw [lpg_succ, b_X9_children_44] at h
            refine lv_iload hx hb dX9_children_44 (lv_at hl 3 rfl) ?_
            refine lv_iload_n hx hb dX9_children_46 rfl (lv_at hl 1 rfl) ?_
            refine lv_icmp_ge (tgt := 64) hx hb dX9_children_47 (by decide) (fun c_13 => ?_) (fun c_13 => ?_)
            · replace h := ifp_el c_13 h
              cases h
              exact hex _ _ _ hP hD hS (lv_sub hl [2] rfl)
            · replace h := ifn_el c_13 h
              refine lv_iload hx hb dX9_children_50 (lv_at hl 2 rfl) ?_
              refine lv_iload_n hx hb dX9_children_52 rfl (lv_at hl 0 rfl) ?_
              obtain ⟨r_14, hg_15, h⟩ := bd1_el h
              refine kx_Si (As := [.int x4_10, .int p2]) (rest := []) (wr := []) (w1 := []) (wn := []) ⟨hx, hb, hml, hown, hts⟩ (c_X9_hear l D ca F H.size x4_10 p2 r_14 hg_15) (va_cwS 2 hts gX9_children_X9_hear rfl rfl rfl (by decide +kernel) ⟨(Nat.le_of_ble_eq_true rfl), (Nat.le_of_ble_eq_true rfl)⟩) hK hP hD hS hA [] [] [] rfl rfl rfl rfl (by decide) rfl rfl rfl hl.1 rfl (Nat.le_of_ble_eq_true rfl) dX9_children_53 ⟨Nat.zero_le _, Nat.zero_le _⟩ (fun H locs hP hD hS => ?_)
              refine lv_istore (lv' := [(4, .int r_14), (2, .int p2), (3, .int p3), (5, .int x5_11)]) hx hb dX9_children_56 hl (by decide) rfl (fun ls hl => ?_)
              obtain ⟨x5_16, e_17, h⟩ := nm_el h
              refine lv_iinc (v := x5_16) (lv' := [(5, .int x5_16), (4, .int r_14), (2, .int p2), (3, .int p3)]) hx hb dX9_children_58 hl (k := 3) rfl (by rw [← e_17]; rfl) (by decide) rfl (fun ls hl => ?_)
              refine lv_goto (tgt := 44) hx hb dX9_children_61 (by decide) ?_
              exact ih _ _ _ _ _ _ h hex hP hD hS (lv_sub hl [2, 3, 1, 0] rfl)
        exact hlp F p1 (nI 0) o_12 H locs ls hL hex hP hD hS (lv_sub hl [4, 5, 1, 0] rfl)
      · replace h := ifp_el c_9 h
        refine lv_iconst (v := (-1 : Int32)) hx hb dX9_children_36 (by decide) ?_
        cases h
        rw [← hQe]
        exact W.iret hx hb hr (fun t ht hW => ⟨⟨_, (), rfl, rfl, by rw [ht]; exact hP, va_K.moved hW.alike hK, hD⟩, hS.F ht⟩) hS.2.2 dX9_children_37
def b_X9_even_31 (p2 : Int32) (F : Nat) (rec31 : Int32 → Int32 → Option (Int32)) (x3_7 : Int32) (x4_8 : Int32) : Option (Int32) := (if (nI 20) < x4_8 then some ((-4 : Int32)) else (if (nI 950) ≤ x3_7 then some (x4_8) else (if (nI 50) < x3_7 then bd1 (D_X9_hear F x3_7 p2) (fun r_12 => nm (x4_8 + (nI 1)) (fun x4_14 => rec31 r_12 x4_14)) else some (x4_8))))
def D_X9_even (F : Nat) (p1 : Int32) (p2 : Int32) : Option (Int32) := bd1 (D_X9_in p1.toInt64 (lN 0) (lN 1000)) (fun r_1 => (if r_1 = 0 then some ((-1 : Int32)) else bd1 (D_X9_in p2.toInt64 (lN 1) (lN 3)) (fun r_4 => (if r_4 = 0 then some ((-1 : Int32)) else lpg (T := Int32 → Int32 → Option (Int32)) (fun _ _ => none) (b_X9_even_31 p2 F) F p1 (nI 0)))))
abbrev rm_X9_even : Room := { frames := 1, cells := 0, slots := 0, locals := 26 }
set_option maxHeartbeats 4000000 in
set_option maxRecDepth 100000 in
theorem c_X9_even (l : Launch) (D : va_G) (ca : Nat → ClassId) (F : Nat) (sz : Nat) (q_this : Nat) (p1 : Int32) (p2 : Int32) (r : Int32) (h : D_X9_even F p1 p2 = some (r)) : Met l yX9_even wsX9_even rm_X9_even (va_Pc [.ref q_this, .int p1, .int p2] (kPre D ca [] sz)) (kQi D ca (va_A [] sz) [] r) 0 0 (va_A [] sz) := by
  refine Met.ofW (cc := cX9_even) (maxL := 5) (ret := (some .int)) (by decide +kernel) rfl ?_
  intro p e s m args below meth c s₁ B hml hv
  obtain ⟨rfl, hsz, hP, hK, hD0⟩ := hv
  have hx := B.exec
  have hb := B.bytes
  have hr := B.returns
  have hts := atoms_spec (ws := wsX9_even) B.pre
  have hown : s.vm.findClass RX9 = some m.cls := findClass_of_methodNamed B.named
  have hlocks := B.notSynchronized
  clear B
  subst hsz
  have hD := hD0.self (sz := s.heap.size)
  generalize hAe : va_A [] s.heap.size = A at hD ⊢
  have hA : ∀ q : Nat, s.heap.size ≤ q → A q := fun q h => by rw [← hAe]; exact Or.inr h
  have hS : va_S A s.heap s.heap [] := va_S.rf
  have hl := lv_entry ([.ref q_this, .int p1, .int p2]) (n := 5) (Nat.le_of_ble_eq_true rfl)
  rw [lg_entry_eq]
  generalize (lg_sl ([.ref q_this, .int p1, .int p2]) ++ List.replicate (5 - (lg_sl ([.ref q_this, .int p1, .int p2])).length) Slot.unset).toArray = ls at hl ⊢
  have hl : lv_has ls 5 [(0, .ref q_this), (1, .int p1), (2, .int p2)] := hl
  generalize ([.ref q_this, .int p1, .int p2] : List Value).toArray = args at hts ⊢
  generalize hQe : MQ below (kQi D ca (A) [] r) args s 0 0 A = Q
  have k_201 := hts (.constantLong RX9 201 (lN 1000)) (by decide +kernel)
  have k_233 := hts (.constantLong RX9 233 (lN 3)) (by decide +kernel)
  rw [D_X9_even] at h
  refine lv_iload_n hx hb dX9_even_0 rfl (lv_at hl 1 rfl) ?_
  refine lv_i2l hx hb dX9_even_1 rfl ?_
  refine lv_lconst (v := (lN 0)) hx hb dX9_even_2 (by decide) ?_
  refine lv_ldc2 hx hb hown k_201 dX9_even_3 ?_
  obtain ⟨r_1, hg_2, h⟩ := bd1_el h
  refine kx_Si (As := [.long p1.toInt64, .long (lN 0), .long (lN 1000)]) (rest := []) (wr := []) (w1 := []) (wn := []) ⟨hx, hb, hml, hown, hts⟩ (c_X9_in l D ca s.heap.size p1.toInt64 (lN 0) (lN 1000) r_1 hg_2) (va_cwS 3 hts gX9_even_X9_in rfl rfl rfl (by decide +kernel) ⟨(Nat.le_of_ble_eq_true rfl), (Nat.le_of_ble_eq_true rfl)⟩) hK hP hD hS hA [] [] [] rfl rfl rfl rfl (by decide) rfl rfl rfl hl.1 rfl (Nat.le_of_ble_eq_true rfl) dX9_even_6 ⟨Nat.zero_le _, Nat.zero_le _⟩ (fun H locs hP hD hS => ?_)
  refine lv_if_eq (tgt := 24) hx hb dX9_even_9 (by decide) (fun c_3 => ?_) (fun c_3 => ?_)
  · replace h := ifp_el c_3 h
    refine lv_iconst (v := (-1 : Int32)) hx hb dX9_even_24 (by decide) ?_
    cases h
    rw [← hQe]
    exact W.iret hx hb hr (fun t ht hW => ⟨⟨_, (), rfl, rfl, by rw [ht]; exact hP, va_K.moved hW.alike hK, hD⟩, hS.F ht⟩) hS.2.2 dX9_even_25
  · replace h := ifn_el c_3 h
    refine lv_iload_n hx hb dX9_even_12 rfl (lv_at hl 2 rfl) ?_
    refine lv_i2l hx hb dX9_even_13 rfl ?_
    refine lv_lconst (v := (lN 1)) hx hb dX9_even_14 (by decide) ?_
    refine lv_ldc2 hx hb hown k_233 dX9_even_15 ?_
    obtain ⟨r_4, hg_5, h⟩ := bd1_el h
    refine kx_Si (As := [.long p2.toInt64, .long (lN 1), .long (lN 3)]) (rest := []) (wr := []) (w1 := []) (wn := []) ⟨hx, hb, hml, hown, hts⟩ (c_X9_in l D ca H.size p2.toInt64 (lN 1) (lN 3) r_4 hg_5) (va_cwS 3 hts gX9_even_X9_in rfl rfl rfl (by decide +kernel) ⟨(Nat.le_of_ble_eq_true rfl), (Nat.le_of_ble_eq_true rfl)⟩) hK hP hD hS hA [] [] [] rfl rfl rfl rfl (by decide) rfl rfl rfl hl.1 rfl (Nat.le_of_ble_eq_true rfl) dX9_even_18 ⟨Nat.zero_le _, Nat.zero_le _⟩ (fun H locs hP hD hS => ?_)
    refine lv_if_ne (tgt := 26) hx hb dX9_even_21 (by decide) (fun c_6 => ?_) (fun c_6 => ?_)
    · replace h := ifn_el c_6 h
      refine lv_iload_n hx hb dX9_even_26 rfl (lv_at hl 1 rfl) ?_
      refine lv_istore_n (lv' := [(3, .int p1), (0, .ref q_this), (1, .int p1), (2, .int p2)]) hx hb dX9_even_27 rfl hl (by decide) rfl (fun ls hl => ?_)
      refine lv_iconst (v := (nI 0)) hx hb dX9_even_28 (by decide) ?_
      refine lv_istore (lv' := [(4, .int (nI 0)), (3, .int p1), (0, .ref q_this), (1, .int p1), (2, .int p2)]) hx hb dX9_even_29 hl (by decide) rfl (fun ls hl => ?_)
      have hlp : ∀ (n : Nat) (x3_7 : Int32) (x4_8 : Int32) (H : Heap) (locs : List Loc) (ls : Array Slot), lpg (T := Int32 → Int32 → Option (Int32)) (fun _ _ => none) (b_X9_even_31 p2 F) n x3_7 x4_8 = some (r) → va_P D vwCl [] H → va_D A [] → va_S A s.heap H locs → lv_has ls 5 [(2, .int p2), (3, .int x3_7), (4, .int x4_8)] → W p l e (headSpec wsX9_even rm_X9_even).room s m args below meth c H locs 0 0 Q (F0 m 31 ls []) := by
        intro n
        induction n with
        | zero => intro x3_7 x4_8 H locs ls h; have h : (none : Option (Int32)) = some _ := h; cases h
        | succ n ih =>
          intro x3_7 x4_8 H locs ls h hP hD hS hl
          rw [lpg_succ, b_X9_even_31] at h
          refine lv_iload hx hb dX9_even_31 (lv_at hl 2 rfl) ?_
          refine lv_bipush (v := (nI 20)) hx hb dX9_even_33 (by decide) ?_
          refine lv_icmp_gt (tgt := 66) hx hb dX9_even_35 (by decide) (fun c_9 => ?_) (fun c_9 => ?_)
          · replace h := ifp_el c_9 h
            refine lv_bipush (v := (-4 : Int32)) hx hb dX9_even_66 (by decide) ?_
            cases h
            rw [← hQe]
            exact W.iret hx hb hr (fun t ht hW => ⟨⟨_, (), rfl, rfl, by rw [ht]; exact hP, va_K.moved hW.alike hK, hD⟩, hS.F ht⟩) hS.2.2 dX9_even_68
          · replace h := ifn_el c_9 h
            refine lv_iload_n hx hb dX9_even_38 rfl (lv_at hl 1 rfl) ?_
            refine lv_sipush (v := (nI 950)) hx hb dX9_even_39 (by decide) ?_
            refine lv_icmp_ge (tgt := 51) hx hb dX9_even_42 (by decide) (fun c_10 => ?_) (fun c_10 => ?_)
            · replace h := ifp_el c_10 h
              refine lv_iload hx hb dX9_even_51 (lv_at hl 2 rfl) ?_
              cases h
              rw [← hQe]
              exact W.iret hx hb hr (fun t ht hW => ⟨⟨_, (), rfl, rfl, by rw [ht]; exact hP, va_K.moved hW.alike hK, hD⟩, hS.F ht⟩) hS.2.2 dX9_even_53
            · replace h := ifn_el c_10 h
              refine lv_iload_n hx hb dX9_even_45 rfl (lv_at hl 1 rfl) ?_
              refine lv_bipush (v := (nI 50)) hx hb dX9_even_46 (by decide) ?_
              refine lv_icmp_gt (tgt := 54) hx hb dX9_even_48 (by decide) (fun c_11 => ?_) (fun c_11 => ?_)
              · replace h := ifp_el c_11 h
                refine lv_iload_n hx hb dX9_even_54 rfl (lv_at hl 1 rfl) ?_
                refine lv_iload_n hx hb dX9_even_55 rfl (lv_at hl 0 rfl) ?_
                obtain ⟨r_12, hg_13, h⟩ := bd1_el h
                refine kx_Si (As := [.int x3_7, .int p2]) (rest := []) (wr := []) (w1 := []) (wn := []) ⟨hx, hb, hml, hown, hts⟩ (c_X9_hear l D ca F H.size x3_7 p2 r_12 hg_13) (va_cwS 2 hts gX9_even_X9_hear rfl rfl rfl (by decide +kernel) ⟨(Nat.le_of_ble_eq_true rfl), (Nat.le_of_ble_eq_true rfl)⟩) hK hP hD hS hA [] [] [] rfl rfl rfl rfl (by decide) rfl rfl rfl hl.1 rfl (Nat.le_of_ble_eq_true rfl) dX9_even_56 ⟨Nat.zero_le _, Nat.zero_le _⟩ (fun H locs hP hD hS => ?_)
                refine lv_istore_n (lv' := [(3, .int r_12), (2, .int p2), (4, .int x4_8)]) hx hb dX9_even_59 rfl hl (by decide) rfl (fun ls hl => ?_)
                obtain ⟨x4_14, e_15, h⟩ := nm_el h
                refine lv_iinc (v := x4_14) (lv' := [(4, .int x4_14), (3, .int r_12), (2, .int p2)]) hx hb dX9_even_60 hl (k := 2) rfl (by rw [← e_15]; rfl) (by decide) rfl (fun ls hl => ?_)
                refine lv_goto (tgt := 31) hx hb dX9_even_63 (by decide) ?_
                exact ih _ _ _ _ _ h hP hD hS (lv_sub hl [2, 1, 0] rfl)
              · replace h := ifn_el c_11 h
                refine lv_iload hx hb dX9_even_51 (lv_at hl 2 rfl) ?_
                cases h
                rw [← hQe]
                exact W.iret hx hb hr (fun t ht hW => ⟨⟨_, (), rfl, rfl, by rw [ht]; exact hP, va_K.moved hW.alike hK, hD⟩, hS.F ht⟩) hS.2.2 dX9_even_53
      exact hlp F p1 (nI 0) H locs ls h hP hD hS (lv_sub hl [4, 1, 0] rfl)
    · replace h := ifp_el c_6 h
      refine lv_iconst (v := (-1 : Int32)) hx hb dX9_even_24 (by decide) ?_
      cases h
      rw [← hQe]
      exact W.iret hx hb hr (fun t ht hW => ⟨⟨_, (), rfl, rfl, by rw [ht]; exact hP, va_K.moved hW.alike hK, hD⟩, hS.F ht⟩) hS.2.2 dX9_even_25
def b_X9_canSay_9 (p1 : Int32) (p2 : Int32) (v_l : Nat → Int32) (rec9 : Int32 → Int32 → Option (Int32)) (x3_3 : Int32) (x4_4 : Int32) : Option (Int32) := ck 336 (nI 304) ((if (v_l (nI 304).toNatClampNeg) ≤ x4_4 then some (x3_3) else nm ((nI 305) + ((nI 3) * x4_4)) (fun x5_8 => (if x3_3 = 0 then ck 336 x5_8 ((if (v_l x5_8.toNatClampNeg) = p2 then ck 336 (x5_8 + (nI 1)) (bd1 (D_X9_has p1 (v_l (x5_8 + (nI 1)).toNatClampNeg)) (fun r_17 => (if r_17 = 0 then nm (x4_4 + (nI 1)) (fun x4_20 => rec9 (nI 0) x4_20) else ck 336 (x5_8 + (nI 2)) (bd1 (D_X9_has p1 (v_l (x5_8 + (nI 2)).toNatClampNeg)) (fun r_23 => (if r_23 = 0 then nm (x4_4 + (nI 1)) (fun x4_26 => rec9 (nI 0) x4_26) else nm (x4_4 + (nI 1)) (fun x4_28 => rec9 (nI 1) x4_28))))))) else nm (x4_4 + (nI 1)) (fun x4_14 => rec9 (nI 0) x4_14))) else nm (x4_4 + (nI 1)) (fun x4_10 => rec9 (nI 1) x4_10)))))
def D_X9_canSay (F : Nat) (p1 : Int32) (p2 : Int32) (v_l : Nat → Int32) : Option (Int32) := bd1 (D_X9_has p1 p2) (fun r_1 => bd1 (lpg (T := Int32 → Int32 → Option (Int32)) (fun _ _ => none) (b_X9_canSay_9 p1 p2 v_l) F r_1 (nI 0)) (fun o_5 => cz o_5 (some (o_5))))
abbrev rm_X9_canSay : Room := { frames := 1, cells := 0, slots := 0, locals := 21 }
set_option maxHeartbeats 4000000 in
set_option maxRecDepth 100000 in
theorem c_X9_canSay (l : Launch) (D : va_G) (ca : Nat → ClassId) (F : Nat) (sz : Nat) (q_this q_text q_read q_l q_stands q_kept q_one q_two q_ways q_now q_then : Nat) (p1 : Int32) (p2 : Int32) (v_size : Int32) (v_at : Int32) (v_keptMany : Int32) (v_l : Nat → Int32) (r : Int32) (h : D_X9_canSay F p1 p2 v_l = some (r)) : Met l yX9_canSay wsX9_canSay rm_X9_canSay (va_Pc [.ref q_this, .int p1, .int p2] (kPre D ca [(q_this, .inr (8, [.ref q_text, .int v_size, .int v_at, .ref q_read, .ref q_l, .ref q_stands, .ref q_kept, .int v_keptMany, .ref q_one, .ref q_two, .ref q_ways, .ref q_now, .ref q_then])), (q_l, .inl (ca 0, 336, .inl v_l))] sz)) (kQi D ca (va_A [(q_this, .inr (8, [.ref q_text, .int v_size, .int v_at, .ref q_read, .ref q_l, .ref q_stands, .ref q_kept, .int v_keptMany, .ref q_one, .ref q_two, .ref q_ways, .ref q_now, .ref q_then])), (q_l, .inl (ca 0, 336, .inl v_l))] sz) [(q_this, .inr (8, [.ref q_text, .int v_size, .int v_at, .ref q_read, .ref q_l, .ref q_stands, .ref q_kept, .int v_keptMany, .ref q_one, .ref q_two, .ref q_ways, .ref q_now, .ref q_then])), (q_l, .inl (ca 0, 336, .inl v_l))] r) 0 0 (va_A [(q_this, .inr (8, [.ref q_text, .int v_size, .int v_at, .ref q_read, .ref q_l, .ref q_stands, .ref q_kept, .int v_keptMany, .ref q_one, .ref q_two, .ref q_ways, .ref q_now, .ref q_then])), (q_l, .inl (ca 0, 336, .inl v_l))] sz) := by
  refine Met.ofW (cc := cX9_canSay) (maxL := 6) (ret := (some .boolean)) (by decide +kernel) rfl ?_
  intro p e s m args below meth c s₁ B hml hv
  obtain ⟨rfl, hsz, hP, hK, hD0⟩ := hv
  have hx := B.exec
  have hb := B.bytes
  have hr := B.returns
  have hts := atoms_spec (ws := wsX9_canSay) B.pre
  have hown : s.vm.findClass RX9 = some m.cls := findClass_of_methodNamed B.named
  have hlocks := B.notSynchronized
  clear B
  subst hsz
  have hD := hD0.self (sz := s.heap.size)
  generalize hAe : va_A [(q_this, .inr (8, [.ref q_text, .int v_size, .int v_at, .ref q_read, .ref q_l, .ref q_stands, .ref q_kept, .int v_keptMany, .ref q_one, .ref q_two, .ref q_ways, .ref q_now, .ref q_then])), (q_l, .inl (ca 0, 336, .inl v_l))] s.heap.size = A at hD ⊢
  have hA : ∀ q : Nat, s.heap.size ≤ q → A q := fun q h => by rw [← hAe]; exact Or.inr h
  have hS : va_S A s.heap s.heap [] := va_S.rf
  have hl := lv_entry ([.ref q_this, .int p1, .int p2]) (n := 6) (Nat.le_of_ble_eq_true rfl)
  rw [lg_entry_eq]
  generalize (lg_sl ([.ref q_this, .int p1, .int p2]) ++ List.replicate (6 - (lg_sl ([.ref q_this, .int p1, .int p2])).length) Slot.unset).toArray = ls at hl ⊢
  have hl : lv_has ls 6 [(0, .ref q_this), (1, .int p1), (2, .int p2)] := hl
  generalize ([.ref q_this, .int p1, .int p2] : List Value).toArray = args at hts ⊢
  generalize hQe : MQ below (kQi D ca (A) [(q_this, .inr (8, [.ref q_text, .int v_size, .int v_at, .ref q_read, .ref q_l, .ref q_stands, .ref q_kept, .int v_keptMany, .ref q_one, .ref q_two, .ref q_ways, .ref q_now, .ref q_then])), (q_l, .inl (ca 0, 336, .inl v_l))] r) args s 0 0 A = Q
  have i_X9 : ∀ w ∈ u_ws RX9 TX9 13, w ∈ wsX9_canSay := by decide +kernel
  have k_16 := hts (.fieldLink RX9 16 "TradeWordsModel" "l" "[I") (by decide +kernel)
  rw [D_X9_canSay] at h
  refine lv_iload_n hx hb dX9_canSay_0 rfl (lv_at hl 1 rfl) ?_
  refine lv_iload_n hx hb dX9_canSay_1 rfl (lv_at hl 2 rfl) ?_
  obtain ⟨r_1, hg_2, h⟩ := bd1_el h
  refine kx_Si (As := [.int p1, .int p2]) (rest := []) (wr := [(q_this, .inr (8, [.ref q_text, .int v_size, .int v_at, .ref q_read, .ref q_l, .ref q_stands, .ref q_kept, .int v_keptMany, .ref q_one, .ref q_two, .ref q_ways, .ref q_now, .ref q_then])), (q_l, .inl (ca 0, 336, .inl v_l))]) (w1 := []) (wn := [(q_this, .inr (8, [.ref q_text, .int v_size, .int v_at, .ref q_read, .ref q_l, .ref q_stands, .ref q_kept, .int v_keptMany, .ref q_one, .ref q_two, .ref q_ways, .ref q_now, .ref q_then])), (q_l, .inl (ca 0, 336, .inl v_l))]) ⟨hx, hb, hml, hown, hts⟩ (c_X9_has l D ca s.heap.size p1 p2 r_1 hg_2) (va_cwS 2 hts gX9_canSay_X9_has rfl rfl rfl (by decide +kernel) ⟨(Nat.le_of_ble_eq_true rfl), (Nat.le_of_ble_eq_true rfl)⟩) hK hP hD hS hA [] [0, 1] [0, 1] rfl rfl rfl rfl (by decide) rfl rfl rfl hl.1 rfl (Nat.le_of_ble_eq_true rfl) dX9_canSay_2 ⟨Nat.zero_le _, Nat.zero_le _⟩ (fun H locs hP hD hS => ?_)
  refine lv_istore_n (lv' := [(3, .int r_1), (0, .ref q_this), (1, .int p1), (2, .int p2)]) hx hb dX9_canSay_5 rfl hl (by decide) rfl (fun ls hl => ?_)
  refine lv_iconst (v := (nI 0)) hx hb dX9_canSay_6 (by decide) ?_
  refine lv_istore (lv' := [(4, .int (nI 0)), (3, .int r_1), (0, .ref q_this), (1, .int p1), (2, .int p2)]) hx hb dX9_canSay_7 hl (by decide) rfl (fun ls hl => ?_)
  obtain ⟨o_5, hL, h⟩ := bd1_el h
  have hex : ∀ (H : Heap) (locs : List Loc) (ls : Array Slot), va_P D vwCl [(q_this, .inr (8, [.ref q_text, .int v_size, .int v_at, .ref q_read, .ref q_l, .ref q_stands, .ref q_kept, .int v_keptMany, .ref q_one, .ref q_two, .ref q_ways, .ref q_now, .ref q_then])), (q_l, .inl (ca 0, 336, .inl v_l))] H → va_D A [(q_this, .inr (8, [.ref q_text, .int v_size, .int v_at, .ref q_read, .ref q_l, .ref q_stands, .ref q_kept, .int v_keptMany, .ref q_one, .ref q_two, .ref q_ways, .ref q_now, .ref q_then])), (q_l, .inl (ca 0, 336, .inl v_l))] → va_S A s.heap H locs → lv_has ls 6 [(3, .int o_5)] → W p l e (headSpec wsX9_canSay rm_X9_canSay).room s m args below meth c H locs 0 0 Q (F0 m 91 ls []) := by
    intro H locs ls hP hD hS hl
    refine lv_iload_n hx hb dX9_canSay_91 rfl (lv_at hl 0 rfl) ?_
    obtain ⟨hz, h⟩ := cz_el h
    cases h
    rw [← hQe]
    exact W.zret hx hb hr hz (fun t ht hW => ⟨⟨_, (), rfl, rfl, by rw [ht]; exact hP, va_K.moved hW.alike hK, hD⟩, hS.F ht⟩) hS.2.2 dX9_canSay_92
  have hlp : ∀ (n : Nat) (x3_3 : Int32) (x4_4 : Int32) (o_5 : Int32) (H : Heap) (locs : List Loc) (ls : Array Slot), lpg (T := Int32 → Int32 → Option (Int32)) (fun _ _ => none) (b_X9_canSay_9 p1 p2 v_l) n x3_3 x4_4 = some (o_5) → (∀ (H : Heap) (locs : List Loc) (ls : Array Slot), va_P D vwCl [(q_this, .inr (8, [.ref q_text, .int v_size, .int v_at, .ref q_read, .ref q_l, .ref q_stands, .ref q_kept, .int v_keptMany, .ref q_one, .ref q_two, .ref q_ways, .ref q_now, .ref q_then])), (q_l, .inl (ca 0, 336, .inl v_l))] H → va_D A [(q_this, .inr (8, [.ref q_text, .int v_size, .int v_at, .ref q_read, .ref q_l, .ref q_stands, .ref q_kept, .int v_keptMany, .ref q_one, .ref q_two, .ref q_ways, .ref q_now, .ref q_then])), (q_l, .inl (ca 0, 336, .inl v_l))] → va_S A s.heap H locs → lv_has ls 6 [(3, .int o_5)] → W p l e (headSpec wsX9_canSay rm_X9_canSay).room s m args below meth c H locs 0 0 Q (F0 m 91 ls [])) → va_P D vwCl [(q_this, .inr (8, [.ref q_text, .int v_size, .int v_at, .ref q_read, .ref q_l, .ref q_stands, .ref q_kept, .int v_keptMany, .ref q_one, .ref q_two, .ref q_ways, .ref q_now, .ref q_then])), (q_l, .inl (ca 0, 336, .inl v_l))] H → va_D A [(q_this, .inr (8, [.ref q_text, .int v_size, .int v_at, .ref q_read, .ref q_l, .ref q_stands, .ref q_kept, .int v_keptMany, .ref q_one, .ref q_two, .ref q_ways, .ref q_now, .ref q_then])), (q_l, .inl (ca 0, 336, .inl v_l))] → va_S A s.heap H locs → lv_has ls 6 [(0, .ref q_this), (1, .int p1), (2, .int p2), (3, .int x3_3), (4, .int x4_4)] → W p l e (headSpec wsX9_canSay rm_X9_canSay).room s m args below meth c H locs 0 0 Q (F0 m 9 ls []) := by
    intro n
    induction n with
    | zero => intro x3_3 x4_4 o_5 H locs ls h; have h : (none : Option (Int32)) = some _ := h; cases h
    | succ n ih =>
      intro x3_3 x4_4 o_5 H locs ls h hex hP hD hS hl
      rw [lpg_succ, b_X9_canSay_9] at h
      refine lv_iload hx hb dX9_canSay_9 (lv_at hl 4 rfl) ?_
      refine lv_aload_n hx hb dX9_canSay_11 rfl (lv_at hl 0 rfl) ?_
      refine va_get (D := D) (ci := 8) (v := .ref q_l) (C := RX9) (T := TX9) (N := 13) hx hb hts i_X9 hown hK hP 0 rfl rfl 4 (by decide) k_16 (fun _ h9 => h9) rfl dX9_canSay_12 ?_
      refine lv_sipush (v := (nI 304)) hx hb dX9_canSay_15 (by decide) ?_
      obtain ⟨hi_6, h⟩ := ck_el h
      refine va_iald hx hb hK hP 1 0 rfl rfl hi_6 dX9_canSay_18 ?_
      refine lv_icmp_ge (tgt := 91) hx hb dX9_canSay_19 (by decide) (fun c_7 => ?_) (fun c_7 => ?_)
      · replace h := ifp_el c_7 h
        cases h
        exact hex _ _ _ hP hD hS (lv_sub hl [3] rfl)
      · replace h := ifn_el c_7 h
        refine lv_sipush (v := (nI 305)) hx hb dX9_canSay_22 (by decide) ?_
        refine lv_iconst (v := (nI 3)) hx hb dX9_canSay_25 (by decide) ?_
        refine lv_iload hx hb dX9_canSay_26 (lv_at hl 4 rfl) ?_
        refine lv_imul hx hb dX9_canSay_28 ?_
        refine lv_iadd hx hb dX9_canSay_29 ?_
        refine lv_nmi h (fun x5_8 h => ?_)
        refine lv_istore (lv' := [(5, .int x5_8), (0, .ref q_this), (1, .int p1), (2, .int p2), (3, .int x3_3), (4, .int x4_4)]) hx hb dX9_canSay_30 hl (by decide) rfl (fun ls hl => ?_)
        refine lv_iload_n hx hb dX9_canSay_32 rfl (lv_at hl 4 rfl) ?_
        refine lv_if_ne (tgt := 79) hx hb dX9_canSay_33 (by decide) (fun c_9 => ?_) (fun c_9 => ?_)
        · replace h := ifn_el c_9 h
          refine lv_iconst (v := (nI 1)) hx hb dX9_canSay_79 (by decide) ?_
          refine lv_goto (tgt := 84) hx hb dX9_canSay_80 (by decide) ?_
          refine lv_istore_n (lv' := [(3, .int (nI 1)), (5, .int x5_8), (0, .ref q_this), (1, .int p1), (2, .int p2), (4, .int x4_4)]) hx hb dX9_canSay_84 rfl hl (by decide) rfl (fun ls hl => ?_)
          obtain ⟨x4_10, e_11, h⟩ := nm_el h
          refine lv_iinc (v := x4_10) (lv' := [(4, .int x4_10), (3, .int (nI 1)), (5, .int x5_8), (0, .ref q_this), (1, .int p1), (2, .int p2)]) hx hb dX9_canSay_85 hl (k := 5) rfl (by rw [← e_11]; rfl) (by decide) rfl (fun ls hl => ?_)
          refine lv_goto (tgt := 9) hx hb dX9_canSay_88 (by decide) ?_
          exact ih _ _ _ _ _ _ h hex hP hD hS (lv_sub hl [3, 4, 5, 1, 0] rfl)
        · replace h := ifp_el c_9 h
          refine lv_aload_n hx hb dX9_canSay_36 rfl (lv_at hl 1 rfl) ?_
          refine va_get (D := D) (ci := 8) (v := .ref q_l) (C := RX9) (T := TX9) (N := 13) hx hb hts i_X9 hown hK hP 0 rfl rfl 4 (by decide) k_16 (fun _ h9 => h9) rfl dX9_canSay_37 ?_
          refine lv_iload hx hb dX9_canSay_40 (lv_at hl 0 rfl) ?_
          obtain ⟨hi_12, h⟩ := ck_el h
          refine va_iald hx hb hK hP 1 0 rfl rfl hi_12 dX9_canSay_42 ?_
          refine lv_iload_n hx hb dX9_canSay_43 rfl (lv_at hl 3 rfl) ?_
          refine lv_icmp_ne (tgt := 83) hx hb dX9_canSay_44 (by decide) (fun c_13 => ?_) (fun c_13 => ?_)
          · replace h := ifn_el c_13 h
            refine lv_iconst (v := (nI 0)) hx hb dX9_canSay_83 (by decide) ?_
            refine lv_istore_n (lv' := [(3, .int (nI 0)), (5, .int x5_8), (0, .ref q_this), (1, .int p1), (2, .int p2), (4, .int x4_4)]) hx hb dX9_canSay_84 rfl hl (by decide) rfl (fun ls hl => ?_)
            obtain ⟨x4_14, e_15, h⟩ := nm_el h
            refine lv_iinc (v := x4_14) (lv' := [(4, .int x4_14), (3, .int (nI 0)), (5, .int x5_8), (0, .ref q_this), (1, .int p1), (2, .int p2)]) hx hb dX9_canSay_85 hl (k := 5) rfl (by rw [← e_15]; rfl) (by decide) rfl (fun ls hl => ?_)
            refine lv_goto (tgt := 9) hx hb dX9_canSay_88 (by decide) ?_
            exact ih _ _ _ _ _ _ h hex hP hD hS (lv_sub hl [3, 4, 5, 1, 0] rfl)
          · replace h := ifp_el c_13 h
            refine lv_iload_n hx hb dX9_canSay_47 rfl (lv_at hl 2 rfl) ?_
            refine lv_aload_n hx hb dX9_canSay_48 rfl (lv_at hl 1 rfl) ?_
            refine va_get (D := D) (ci := 8) (v := .ref q_l) (C := RX9) (T := TX9) (N := 13) hx hb hts i_X9 hown hK hP 0 rfl rfl 4 (by decide) k_16 (fun _ h9 => h9) rfl dX9_canSay_49 ?_
            refine lv_iload hx hb dX9_canSay_52 (lv_at hl 0 rfl) ?_
            refine lv_iconst (v := (nI 1)) hx hb dX9_canSay_54 (by decide) ?_
            refine lv_iadd hx hb dX9_canSay_55 ?_
            obtain ⟨hi_16, h⟩ := ck_el h
            refine va_iald hx hb hK hP 1 0 rfl rfl hi_16 dX9_canSay_56 ?_
            obtain ⟨r_17, hg_18, h⟩ := bd1_el h
            refine kx_Si (As := [.int p1, .int (v_l (x5_8 + (nI 1)).toNatClampNeg)]) (rest := []) (wr := [(q_this, .inr (8, [.ref q_text, .int v_size, .int v_at, .ref q_read, .ref q_l, .ref q_stands, .ref q_kept, .int v_keptMany, .ref q_one, .ref q_two, .ref q_ways, .ref q_now, .ref q_then])), (q_l, .inl (ca 0, 336, .inl v_l))]) (w1 := []) (wn := [(q_this, .inr (8, [.ref q_text, .int v_size, .int v_at, .ref q_read, .ref q_l, .ref q_stands, .ref q_kept, .int v_keptMany, .ref q_one, .ref q_two, .ref q_ways, .ref q_now, .ref q_then])), (q_l, .inl (ca 0, 336, .inl v_l))]) ⟨hx, hb, hml, hown, hts⟩ (c_X9_has l D ca H.size p1 (v_l (x5_8 + (nI 1)).toNatClampNeg) r_17 hg_18) (va_cwS 2 hts gX9_canSay_X9_has rfl rfl rfl (by decide +kernel) ⟨(Nat.le_of_ble_eq_true rfl), (Nat.le_of_ble_eq_true rfl)⟩) hK hP hD hS hA [] [0, 1] [0, 1] rfl rfl rfl rfl (by decide) rfl rfl rfl hl.1 rfl (Nat.le_of_ble_eq_true rfl) dX9_canSay_57 ⟨Nat.zero_le _, Nat.zero_le _⟩ (fun H locs hP hD hS => ?_)
            refine lv_if_eq (tgt := 83) hx hb dX9_canSay_60 (by decide) (fun c_19 => ?_) (fun c_19 => ?_)
            · replace h := ifp_el c_19 h
              refine lv_iconst (v := (nI 0)) hx hb dX9_canSay_83 (by decide) ?_
              refine lv_istore_n (lv' := [(3, .int (nI 0)), (5, .int x5_8), (0, .ref q_this), (1, .int p1), (2, .int p2), (4, .int x4_4)]) hx hb dX9_canSay_84 rfl hl (by decide) rfl (fun ls hl => ?_)
              obtain ⟨x4_20, e_21, h⟩ := nm_el h
              refine lv_iinc (v := x4_20) (lv' := [(4, .int x4_20), (3, .int (nI 0)), (5, .int x5_8), (0, .ref q_this), (1, .int p1), (2, .int p2)]) hx hb dX9_canSay_85 hl (k := 5) rfl (by rw [← e_21]; rfl) (by decide) rfl (fun ls hl => ?_)
              refine lv_goto (tgt := 9) hx hb dX9_canSay_88 (by decide) ?_
              exact ih _ _ _ _ _ _ h hex hP hD hS (lv_sub hl [3, 4, 5, 1, 0] rfl)
            · replace h := ifn_el c_19 h
              refine lv_iload_n hx hb dX9_canSay_63 rfl (lv_at hl 2 rfl) ?_
              refine lv_aload_n hx hb dX9_canSay_64 rfl (lv_at hl 1 rfl) ?_
              refine va_get (D := D) (ci := 8) (v := .ref q_l) (C := RX9) (T := TX9) (N := 13) hx hb hts i_X9 hown hK hP 0 rfl rfl 4 (by decide) k_16 (fun _ h9 => h9) rfl dX9_canSay_65 ?_
              refine lv_iload hx hb dX9_canSay_68 (lv_at hl 0 rfl) ?_
              refine lv_iconst (v := (nI 2)) hx hb dX9_canSay_70 (by decide) ?_
              refine lv_iadd hx hb dX9_canSay_71 ?_
              obtain ⟨hi_22, h⟩ := ck_el h
              refine va_iald hx hb hK hP 1 0 rfl rfl hi_22 dX9_canSay_72 ?_
              obtain ⟨r_23, hg_24, h⟩ := bd1_el h
              refine kx_Si (As := [.int p1, .int (v_l (x5_8 + (nI 2)).toNatClampNeg)]) (rest := []) (wr := [(q_this, .inr (8, [.ref q_text, .int v_size, .int v_at, .ref q_read, .ref q_l, .ref q_stands, .ref q_kept, .int v_keptMany, .ref q_one, .ref q_two, .ref q_ways, .ref q_now, .ref q_then])), (q_l, .inl (ca 0, 336, .inl v_l))]) (w1 := []) (wn := [(q_this, .inr (8, [.ref q_text, .int v_size, .int v_at, .ref q_read, .ref q_l, .ref q_stands, .ref q_kept, .int v_keptMany, .ref q_one, .ref q_two, .ref q_ways, .ref q_now, .ref q_then])), (q_l, .inl (ca 0, 336, .inl v_l))]) ⟨hx, hb, hml, hown, hts⟩ (c_X9_has l D ca H.size p1 (v_l (x5_8 + (nI 2)).toNatClampNeg) r_23 hg_24) (va_cwS 2 hts gX9_canSay_X9_has rfl rfl rfl (by decide +kernel) ⟨(Nat.le_of_ble_eq_true rfl), (Nat.le_of_ble_eq_true rfl)⟩) hK hP hD hS hA [] [0, 1] [0, 1] rfl rfl rfl rfl (by decide) rfl rfl rfl hl.1 rfl (Nat.le_of_ble_eq_true rfl) dX9_canSay_73 ⟨Nat.zero_le _, Nat.zero_le _⟩ (fun H locs hP hD hS => ?_)
              refine lv_if_eq (tgt := 83) hx hb dX9_canSay_76 (by decide) (fun c_25 => ?_) (fun c_25 => ?_)
              · replace h := ifp_el c_25 h
                refine lv_iconst (v := (nI 0)) hx hb dX9_canSay_83 (by decide) ?_
                refine lv_istore_n (lv' := [(3, .int (nI 0)), (5, .int x5_8), (0, .ref q_this), (1, .int p1), (2, .int p2), (4, .int x4_4)]) hx hb dX9_canSay_84 rfl hl (by decide) rfl (fun ls hl => ?_)
                obtain ⟨x4_26, e_27, h⟩ := nm_el h
                refine lv_iinc (v := x4_26) (lv' := [(4, .int x4_26), (3, .int (nI 0)), (5, .int x5_8), (0, .ref q_this), (1, .int p1), (2, .int p2)]) hx hb dX9_canSay_85 hl (k := 5) rfl (by rw [← e_27]; rfl) (by decide) rfl (fun ls hl => ?_)
                refine lv_goto (tgt := 9) hx hb dX9_canSay_88 (by decide) ?_
                exact ih _ _ _ _ _ _ h hex hP hD hS (lv_sub hl [3, 4, 5, 1, 0] rfl)
              · replace h := ifn_el c_25 h
                refine lv_iconst (v := (nI 1)) hx hb dX9_canSay_79 (by decide) ?_
                refine lv_goto (tgt := 84) hx hb dX9_canSay_80 (by decide) ?_
                refine lv_istore_n (lv' := [(3, .int (nI 1)), (5, .int x5_8), (0, .ref q_this), (1, .int p1), (2, .int p2), (4, .int x4_4)]) hx hb dX9_canSay_84 rfl hl (by decide) rfl (fun ls hl => ?_)
                obtain ⟨x4_28, e_29, h⟩ := nm_el h
                refine lv_iinc (v := x4_28) (lv' := [(4, .int x4_28), (3, .int (nI 1)), (5, .int x5_8), (0, .ref q_this), (1, .int p1), (2, .int p2)]) hx hb dX9_canSay_85 hl (k := 5) rfl (by rw [← e_29]; rfl) (by decide) rfl (fun ls hl => ?_)
                refine lv_goto (tgt := 9) hx hb dX9_canSay_88 (by decide) ?_
                exact ih _ _ _ _ _ _ h hex hP hD hS (lv_sub hl [3, 4, 5, 1, 0] rfl)
  exact hlp F r_1 (nI 0) o_5 H locs ls hL hex hP hD hS (lv_sub hl [2, 3, 4, 1, 0] rfl)
def b_X9_isEnoughFor_19 (p1 : Int32) (v_l : Nat → Int32) (F : Nat) (x3_2 : Int32) (rec19 : Int32 → Int32 → Option (Int32)) (x2_6 : Int32) (x4_7 : Int32) : Option (Int32) := (if (nI 8) ≤ x4_7 then some (x2_6) else (if x2_6 = 0 then nm (x4_7 + (nI 1)) (fun x4_11 => rec19 (nI 0) x4_11) else ck 336 ((nI 330) + x3_2) (bd1 (D_X9_has (v_l ((nI 330) + x3_2).toNatClampNeg) x4_7) (fun r_14 => (if r_14 = 0 then nm (x4_7 + (nI 1)) (fun x4_17 => rec19 (nI 1) x4_17) else bd1 (D_X9_canSay F p1 x4_7 v_l) (fun r_19 => (if r_19 = 0 then nm (x4_7 + (nI 1)) (fun x4_22 => rec19 (nI 0) x4_22) else nm (x4_7 + (nI 1)) (fun x4_24 => rec19 (nI 1) x4_24))))))))
def b_X9_isEnoughFor_4 (p1 : Int32) (v_l : Nat → Int32) (F : Nat) (rec4 : Int32 → Int32 → Option (Int32)) (x2_1 : Int32) (x3_2 : Int32) : Option (Int32) := ck 336 (nI 329) ((if (v_l (nI 329).toNatClampNeg) ≤ x3_2 then some (x2_1) else bd1 (lpg (T := Int32 → Int32 → Option (Int32)) (fun _ _ => none) (b_X9_isEnoughFor_19 p1 v_l F x3_2) F x2_1 (nI 0)) (fun o_8 => nm (x3_2 + (nI 1)) (fun x3_26 => rec4 o_8 x3_26))))
def D_X9_isEnoughFor (F : Nat) (p1 : Int32) (v_l : Nat → Int32) : Option (Int32) := bd1 (lpg (T := Int32 → Int32 → Option (Int32)) (fun _ _ => none) (b_X9_isEnoughFor_4 p1 v_l F) F (nI 1) (nI 0)) (fun o_3 => cz o_3 (some (o_3)))
abbrev rm_X9_isEnoughFor : Room := { frames := 2, cells := 0, slots := 0, locals := 46 }
set_option maxHeartbeats 4000000 in
set_option maxRecDepth 100000 in
theorem c_X9_isEnoughFor (l : Launch) (D : va_G) (ca : Nat → ClassId) (F : Nat) (sz : Nat) (q_this q_text q_read q_l q_stands q_kept q_one q_two q_ways q_now q_then : Nat) (p1 : Int32) (v_size : Int32) (v_at : Int32) (v_keptMany : Int32) (v_l : Nat → Int32) (r : Int32) (h : D_X9_isEnoughFor F p1 v_l = some (r)) : Met l yX9_isEnoughFor wsX9_isEnoughFor rm_X9_isEnoughFor (va_Pc [.ref q_this, .int p1] (kPre D ca [(q_this, .inr (8, [.ref q_text, .int v_size, .int v_at, .ref q_read, .ref q_l, .ref q_stands, .ref q_kept, .int v_keptMany, .ref q_one, .ref q_two, .ref q_ways, .ref q_now, .ref q_then])), (q_l, .inl (ca 0, 336, .inl v_l))] sz)) (kQi D ca (va_A [(q_this, .inr (8, [.ref q_text, .int v_size, .int v_at, .ref q_read, .ref q_l, .ref q_stands, .ref q_kept, .int v_keptMany, .ref q_one, .ref q_two, .ref q_ways, .ref q_now, .ref q_then])), (q_l, .inl (ca 0, 336, .inl v_l))] sz) [(q_this, .inr (8, [.ref q_text, .int v_size, .int v_at, .ref q_read, .ref q_l, .ref q_stands, .ref q_kept, .int v_keptMany, .ref q_one, .ref q_two, .ref q_ways, .ref q_now, .ref q_then])), (q_l, .inl (ca 0, 336, .inl v_l))] r) 0 0 (va_A [(q_this, .inr (8, [.ref q_text, .int v_size, .int v_at, .ref q_read, .ref q_l, .ref q_stands, .ref q_kept, .int v_keptMany, .ref q_one, .ref q_two, .ref q_ways, .ref q_now, .ref q_then])), (q_l, .inl (ca 0, 336, .inl v_l))] sz) := by
  refine Met.ofW (cc := cX9_isEnoughFor) (maxL := 5) (ret := (some .boolean)) (by decide +kernel) rfl ?_
  intro p e s m args below meth c s₁ B hml hv
  obtain ⟨rfl, hsz, hP, hK, hD0⟩ := hv
  have hx := B.exec
  have hb := B.bytes
  have hr := B.returns
  have hts := atoms_spec (ws := wsX9_isEnoughFor) B.pre
  have hown : s.vm.findClass RX9 = some m.cls := findClass_of_methodNamed B.named
  have hlocks := B.notSynchronized
  clear B
  subst hsz
  have hD := hD0.self (sz := s.heap.size)
  generalize hAe : va_A [(q_this, .inr (8, [.ref q_text, .int v_size, .int v_at, .ref q_read, .ref q_l, .ref q_stands, .ref q_kept, .int v_keptMany, .ref q_one, .ref q_two, .ref q_ways, .ref q_now, .ref q_then])), (q_l, .inl (ca 0, 336, .inl v_l))] s.heap.size = A at hD ⊢
  have hA : ∀ q : Nat, s.heap.size ≤ q → A q := fun q h => by rw [← hAe]; exact Or.inr h
  have hS : va_S A s.heap s.heap [] := va_S.rf
  have hl := lv_entry ([.ref q_this, .int p1]) (n := 5) (Nat.le_of_ble_eq_true rfl)
  rw [lg_entry_eq]
  generalize (lg_sl ([.ref q_this, .int p1]) ++ List.replicate (5 - (lg_sl ([.ref q_this, .int p1])).length) Slot.unset).toArray = ls at hl ⊢
  have hl : lv_has ls 5 [(0, .ref q_this), (1, .int p1)] := hl
  generalize ([.ref q_this, .int p1] : List Value).toArray = args at hts ⊢
  generalize hQe : MQ below (kQi D ca (A) [(q_this, .inr (8, [.ref q_text, .int v_size, .int v_at, .ref q_read, .ref q_l, .ref q_stands, .ref q_kept, .int v_keptMany, .ref q_one, .ref q_two, .ref q_ways, .ref q_now, .ref q_then])), (q_l, .inl (ca 0, 336, .inl v_l))] r) args s 0 0 A = Q
  have i_X9 : ∀ w ∈ u_ws RX9 TX9 13, w ∈ wsX9_isEnoughFor := by decide +kernel
  have k_16 := hts (.fieldLink RX9 16 "TradeWordsModel" "l" "[I") (by decide +kernel)
  rw [D_X9_isEnoughFor] at h
  refine lv_iconst (v := (nI 1)) hx hb dX9_isEnoughFor_0 (by decide) ?_
  refine lv_istore_n (lv' := [(2, .int (nI 1)), (0, .ref q_this), (1, .int p1)]) hx hb dX9_isEnoughFor_1 rfl hl (by decide) rfl (fun ls hl => ?_)
  refine lv_iconst (v := (nI 0)) hx hb dX9_isEnoughFor_2 (by decide) ?_
  refine lv_istore_n (lv' := [(3, .int (nI 0)), (2, .int (nI 1)), (0, .ref q_this), (1, .int p1)]) hx hb dX9_isEnoughFor_3 rfl hl (by decide) rfl (fun ls hl => ?_)
  obtain ⟨o_3, hL, h⟩ := bd1_el h
  have hex : ∀ (H : Heap) (locs : List Loc) (ls : Array Slot), va_P D vwCl [(q_this, .inr (8, [.ref q_text, .int v_size, .int v_at, .ref q_read, .ref q_l, .ref q_stands, .ref q_kept, .int v_keptMany, .ref q_one, .ref q_two, .ref q_ways, .ref q_now, .ref q_then])), (q_l, .inl (ca 0, 336, .inl v_l))] H → va_D A [(q_this, .inr (8, [.ref q_text, .int v_size, .int v_at, .ref q_read, .ref q_l, .ref q_stands, .ref q_kept, .int v_keptMany, .ref q_one, .ref q_two, .ref q_ways, .ref q_now, .ref q_then])), (q_l, .inl (ca 0, 336, .inl v_l))] → va_S A s.heap H locs → lv_has ls 5 [(2, .int o_3)] → W p l e (headSpec wsX9_isEnoughFor rm_X9_isEnoughFor).room s m args below meth c H locs 0 0 Q (F0 m 76 ls []) := by
    intro H locs ls hP hD hS hl
    refine lv_iload_n hx hb dX9_isEnoughFor_76 rfl (lv_at hl 0 rfl) ?_
    obtain ⟨hz, h⟩ := cz_el h
    cases h
    rw [← hQe]
    exact W.zret hx hb hr hz (fun t ht hW => ⟨⟨_, (), rfl, rfl, by rw [ht]; exact hP, va_K.moved hW.alike hK, hD⟩, hS.F ht⟩) hS.2.2 dX9_isEnoughFor_77
  have hlp : ∀ (n : Nat) (x2_1 : Int32) (x3_2 : Int32) (o_3 : Int32) (H : Heap) (locs : List Loc) (ls : Array Slot), lpg (T := Int32 → Int32 → Option (Int32)) (fun _ _ => none) (b_X9_isEnoughFor_4 p1 v_l F) n x2_1 x3_2 = some (o_3) → (∀ (H : Heap) (locs : List Loc) (ls : Array Slot), va_P D vwCl [(q_this, .inr (8, [.ref q_text, .int v_size, .int v_at, .ref q_read, .ref q_l, .ref q_stands, .ref q_kept, .int v_keptMany, .ref q_one, .ref q_two, .ref q_ways, .ref q_now, .ref q_then])), (q_l, .inl (ca 0, 336, .inl v_l))] H → va_D A [(q_this, .inr (8, [.ref q_text, .int v_size, .int v_at, .ref q_read, .ref q_l, .ref q_stands, .ref q_kept, .int v_keptMany, .ref q_one, .ref q_two, .ref q_ways, .ref q_now, .ref q_then])), (q_l, .inl (ca 0, 336, .inl v_l))] → va_S A s.heap H locs → lv_has ls 5 [(2, .int o_3)] → W p l e (headSpec wsX9_isEnoughFor rm_X9_isEnoughFor).room s m args below meth c H locs 0 0 Q (F0 m 76 ls [])) → va_P D vwCl [(q_this, .inr (8, [.ref q_text, .int v_size, .int v_at, .ref q_read, .ref q_l, .ref q_stands, .ref q_kept, .int v_keptMany, .ref q_one, .ref q_two, .ref q_ways, .ref q_now, .ref q_then])), (q_l, .inl (ca 0, 336, .inl v_l))] H → va_D A [(q_this, .inr (8, [.ref q_text, .int v_size, .int v_at, .ref q_read, .ref q_l, .ref q_stands, .ref q_kept, .int v_keptMany, .ref q_one, .ref q_two, .ref q_ways, .ref q_now, .ref q_then])), (q_l, .inl (ca 0, 336, .inl v_l))] → va_S A s.heap H locs → lv_has ls 5 [(0, .ref q_this), (1, .int p1), (2, .int x2_1), (3, .int x3_2)] → W p l e (headSpec wsX9_isEnoughFor rm_X9_isEnoughFor).room s m args below meth c H locs 0 0 Q (F0 m 4 ls []) := by
    intro n
    induction n with
    | zero => intro x2_1 x3_2 o_3 H locs ls h; have h : (none : Option (Int32)) = some _ := h; cases h
    | succ n ih =>
      intro x2_1 x3_2 o_3 H locs ls h hex hP hD hS hl
      rw [lpg_succ, b_X9_isEnoughFor_4] at h
      refine lv_iload_n hx hb dX9_isEnoughFor_4 rfl (lv_at hl 3 rfl) ?_
      refine lv_aload_n hx hb dX9_isEnoughFor_5 rfl (lv_at hl 0 rfl) ?_
      refine va_get (D := D) (ci := 8) (v := .ref q_l) (C := RX9) (T := TX9) (N := 13) hx hb hts i_X9 hown hK hP 0 rfl rfl 4 (by decide) k_16 (fun _ h9 => h9) rfl dX9_isEnoughFor_6 ?_
      refine lv_sipush (v := (nI 329)) hx hb dX9_isEnoughFor_9 (by decide) ?_
      obtain ⟨hi_4, h⟩ := ck_el h
      refine va_iald hx hb hK hP 1 0 rfl rfl hi_4 dX9_isEnoughFor_12 ?_
      refine lv_icmp_ge (tgt := 76) hx hb dX9_isEnoughFor_13 (by decide) (fun c_5 => ?_) (fun c_5 => ?_)
      · replace h := ifp_el c_5 h
        cases h
        exact hex _ _ _ hP hD hS (lv_sub hl [2] rfl)
      · replace h := ifn_el c_5 h
        refine lv_iconst (v := (nI 0)) hx hb dX9_isEnoughFor_16 (by decide) ?_
        refine lv_istore (lv' := [(4, .int (nI 0)), (0, .ref q_this), (1, .int p1), (2, .int x2_1), (3, .int x3_2)]) hx hb dX9_isEnoughFor_17 hl (by decide) rfl (fun ls hl => ?_)
        obtain ⟨o_8, hL, h⟩ := bd1_el h
        have hex : ∀ (H : Heap) (locs : List Loc) (ls : Array Slot), va_P D vwCl [(q_this, .inr (8, [.ref q_text, .int v_size, .int v_at, .ref q_read, .ref q_l, .ref q_stands, .ref q_kept, .int v_keptMany, .ref q_one, .ref q_two, .ref q_ways, .ref q_now, .ref q_then])), (q_l, .inl (ca 0, 336, .inl v_l))] H → va_D A [(q_this, .inr (8, [.ref q_text, .int v_size, .int v_at, .ref q_read, .ref q_l, .ref q_stands, .ref q_kept, .int v_keptMany, .ref q_one, .ref q_two, .ref q_ways, .ref q_now, .ref q_then])), (q_l, .inl (ca 0, 336, .inl v_l))] → va_S A s.heap H locs → lv_has ls 5 [(0, .ref q_this), (1, .int p1), (2, .int o_8), (3, .int x3_2)] → W p l e (headSpec wsX9_isEnoughFor rm_X9_isEnoughFor).room s m args below meth c H locs 0 0 Q (F0 m 70 ls []) := by
          intro H locs ls hP hD hS hl
          obtain ⟨x3_26, e_27, h⟩ := nm_el h
          refine lv_iinc (v := x3_26) (lv' := [(3, .int x3_26), (0, .ref q_this), (1, .int p1), (2, .int o_8)]) hx hb dX9_isEnoughFor_70 hl (k := 3) rfl (by rw [← e_27]; rfl) (by decide) rfl (fun ls hl => ?_)
          refine lv_goto (tgt := 4) hx hb dX9_isEnoughFor_73 (by decide) ?_
          exact ih _ _ _ _ _ _ h hex hP hD hS (lv_sub hl [1, 2, 3, 0] rfl)
        have hlp : ∀ (n : Nat) (x2_6 : Int32) (x4_7 : Int32) (o_8 : Int32) (H : Heap) (locs : List Loc) (ls : Array Slot), lpg (T := Int32 → Int32 → Option (Int32)) (fun _ _ => none) (b_X9_isEnoughFor_19 p1 v_l F x3_2) n x2_6 x4_7 = some (o_8) → (∀ (H : Heap) (locs : List Loc) (ls : Array Slot), va_P D vwCl [(q_this, .inr (8, [.ref q_text, .int v_size, .int v_at, .ref q_read, .ref q_l, .ref q_stands, .ref q_kept, .int v_keptMany, .ref q_one, .ref q_two, .ref q_ways, .ref q_now, .ref q_then])), (q_l, .inl (ca 0, 336, .inl v_l))] H → va_D A [(q_this, .inr (8, [.ref q_text, .int v_size, .int v_at, .ref q_read, .ref q_l, .ref q_stands, .ref q_kept, .int v_keptMany, .ref q_one, .ref q_two, .ref q_ways, .ref q_now, .ref q_then])), (q_l, .inl (ca 0, 336, .inl v_l))] → va_S A s.heap H locs → lv_has ls 5 [(0, .ref q_this), (1, .int p1), (2, .int o_8), (3, .int x3_2)] → W p l e (headSpec wsX9_isEnoughFor rm_X9_isEnoughFor).room s m args below meth c H locs 0 0 Q (F0 m 70 ls [])) → va_P D vwCl [(q_this, .inr (8, [.ref q_text, .int v_size, .int v_at, .ref q_read, .ref q_l, .ref q_stands, .ref q_kept, .int v_keptMany, .ref q_one, .ref q_two, .ref q_ways, .ref q_now, .ref q_then])), (q_l, .inl (ca 0, 336, .inl v_l))] H → va_D A [(q_this, .inr (8, [.ref q_text, .int v_size, .int v_at, .ref q_read, .ref q_l, .ref q_stands, .ref q_kept, .int v_keptMany, .ref q_one, .ref q_two, .ref q_ways, .ref q_now, .ref q_then])), (q_l, .inl (ca 0, 336, .inl v_l))] → va_S A s.heap H locs → lv_has ls 5 [(0, .ref q_this), (1, .int p1), (2, .int x2_6), (3, .int x3_2), (4, .int x4_7)] → W p l e (headSpec wsX9_isEnoughFor rm_X9_isEnoughFor).room s m args below meth c H locs 0 0 Q (F0 m 19 ls []) := by
          intro n
          induction n with
          | zero => intro x2_6 x4_7 o_8 H locs ls h; have h : (none : Option (Int32)) = some _ := h; cases h
          | succ n ih =>
            intro x2_6 x4_7 o_8 H locs ls h hex hP hD hS hl
            rw [lpg_succ, b_X9_isEnoughFor_19] at h
            refine lv_iload hx hb dX9_isEnoughFor_19 (lv_at hl 4 rfl) ?_
            refine lv_bipush (v := (nI 8)) hx hb dX9_isEnoughFor_21 (by decide) ?_
            refine lv_icmp_ge (tgt := 70) hx hb dX9_isEnoughFor_23 (by decide) (fun c_9 => ?_) (fun c_9 => ?_)
            · replace h := ifp_el c_9 h
              cases h
              exact hex _ _ _ hP hD hS (lv_sub hl [0, 1, 2, 3] rfl)
            · replace h := ifn_el c_9 h
              refine lv_iload_n hx hb dX9_isEnoughFor_26 rfl (lv_at hl 2 rfl) ?_
              refine lv_if_eq (tgt := 62) hx hb dX9_isEnoughFor_27 (by decide) (fun c_10 => ?_) (fun c_10 => ?_)
              · replace h := ifp_el c_10 h
                refine lv_iconst (v := (nI 0)) hx hb dX9_isEnoughFor_62 (by decide) ?_
                refine lv_istore_n (lv' := [(2, .int (nI 0)), (0, .ref q_this), (1, .int p1), (3, .int x3_2), (4, .int x4_7)]) hx hb dX9_isEnoughFor_63 rfl hl (by decide) rfl (fun ls hl => ?_)
                obtain ⟨x4_11, e_12, h⟩ := nm_el h
                refine lv_iinc (v := x4_11) (lv' := [(4, .int x4_11), (2, .int (nI 0)), (0, .ref q_this), (1, .int p1), (3, .int x3_2)]) hx hb dX9_isEnoughFor_64 hl (k := 4) rfl (by rw [← e_12]; rfl) (by decide) rfl (fun ls hl => ?_)
                refine lv_goto (tgt := 19) hx hb dX9_isEnoughFor_67 (by decide) ?_
                exact ih _ _ _ _ _ _ h hex hP hD hS (lv_sub hl [2, 3, 1, 4, 0] rfl)
              · replace h := ifn_el c_10 h
                refine lv_aload_n hx hb dX9_isEnoughFor_30 rfl (lv_at hl 0 rfl) ?_
                refine va_get (D := D) (ci := 8) (v := .ref q_l) (C := RX9) (T := TX9) (N := 13) hx hb hts i_X9 hown hK hP 0 rfl rfl 4 (by decide) k_16 (fun _ h9 => h9) rfl dX9_isEnoughFor_31 ?_
                refine lv_sipush (v := (nI 330)) hx hb dX9_isEnoughFor_34 (by decide) ?_
                refine lv_iload_n hx hb dX9_isEnoughFor_37 rfl (lv_at hl 3 rfl) ?_
                refine lv_iadd hx hb dX9_isEnoughFor_38 ?_
                obtain ⟨hi_13, h⟩ := ck_el h
                refine va_iald hx hb hK hP 1 0 rfl rfl hi_13 dX9_isEnoughFor_39 ?_
                refine lv_iload hx hb dX9_isEnoughFor_40 (lv_at hl 4 rfl) ?_
                obtain ⟨r_14, hg_15, h⟩ := bd1_el h
                refine kx_Si (As := [.int (v_l ((nI 330) + x3_2).toNatClampNeg), .int x4_7]) (rest := []) (wr := [(q_this, .inr (8, [.ref q_text, .int v_size, .int v_at, .ref q_read, .ref q_l, .ref q_stands, .ref q_kept, .int v_keptMany, .ref q_one, .ref q_two, .ref q_ways, .ref q_now, .ref q_then])), (q_l, .inl (ca 0, 336, .inl v_l))]) (w1 := []) (wn := [(q_this, .inr (8, [.ref q_text, .int v_size, .int v_at, .ref q_read, .ref q_l, .ref q_stands, .ref q_kept, .int v_keptMany, .ref q_one, .ref q_two, .ref q_ways, .ref q_now, .ref q_then])), (q_l, .inl (ca 0, 336, .inl v_l))]) ⟨hx, hb, hml, hown, hts⟩ (c_X9_has l D ca H.size (v_l ((nI 330) + x3_2).toNatClampNeg) x4_7 r_14 hg_15) (va_cwS 2 hts gX9_isEnoughFor_X9_has rfl rfl rfl (by decide +kernel) ⟨(Nat.le_of_ble_eq_true rfl), (Nat.le_of_ble_eq_true rfl)⟩) hK hP hD hS hA [] [0, 1] [0, 1] rfl rfl rfl rfl (by decide) rfl rfl rfl hl.1 rfl (Nat.le_of_ble_eq_true rfl) dX9_isEnoughFor_42 ⟨Nat.zero_le _, Nat.zero_le _⟩ (fun H locs hP hD hS => ?_)
                refine lv_if_eq (tgt := 58) hx hb dX9_isEnoughFor_45 (by decide) (fun c_16 => ?_) (fun c_16 => ?_)
                · replace h := ifp_el c_16 h
                  refine lv_iconst (v := (nI 1)) hx hb dX9_isEnoughFor_58 (by decide) ?_
                  refine lv_goto (tgt := 63) hx hb dX9_isEnoughFor_59 (by decide) ?_
                  refine lv_istore_n (lv' := [(2, .int (nI 1)), (0, .ref q_this), (1, .int p1), (3, .int x3_2), (4, .int x4_7)]) hx hb dX9_isEnoughFor_63 rfl hl (by decide) rfl (fun ls hl => ?_)
                  obtain ⟨x4_17, e_18, h⟩ := nm_el h
                  refine lv_iinc (v := x4_17) (lv' := [(4, .int x4_17), (2, .int (nI 1)), (0, .ref q_this), (1, .int p1), (3, .int x3_2)]) hx hb dX9_isEnoughFor_64 hl (k := 4) rfl (by rw [← e_18]; rfl) (by decide) rfl (fun ls hl => ?_)
                  refine lv_goto (tgt := 19) hx hb dX9_isEnoughFor_67 (by decide) ?_
                  exact ih _ _ _ _ _ _ h hex hP hD hS (lv_sub hl [2, 3, 1, 4, 0] rfl)
                · replace h := ifn_el c_16 h
                  refine lv_aload_n hx hb dX9_isEnoughFor_48 rfl (lv_at hl 0 rfl) ?_
                  refine lv_iload_n hx hb dX9_isEnoughFor_49 rfl (lv_at hl 1 rfl) ?_
                  refine lv_iload hx hb dX9_isEnoughFor_50 (lv_at hl 4 rfl) ?_
                  obtain ⟨r_19, hg_20, h⟩ := bd1_el h
                  refine kx_Vi (As := [.int p1, .int x4_7]) (rest := []) (wr := []) (w1 := [(q_this, .inr (8, [.ref q_text, .int v_size, .int v_at, .ref q_read, .ref q_l, .ref q_stands, .ref q_kept, .int v_keptMany, .ref q_one, .ref q_two, .ref q_ways, .ref q_now, .ref q_then])), (q_l, .inl (ca 0, 336, .inl v_l))]) (wn := [(q_this, .inr (8, [.ref q_text, .int v_size, .int v_at, .ref q_read, .ref q_l, .ref q_stands, .ref q_kept, .int v_keptMany, .ref q_one, .ref q_two, .ref q_ways, .ref q_now, .ref q_then])), (q_l, .inl (ca 0, 336, .inl v_l))]) ⟨hx, hb, hml, hown, hts⟩ (c_X9_canSay l D ca F H.size q_this q_text q_read q_l q_stands q_kept q_one q_two q_ways q_now q_then p1 x4_7 v_size v_at v_keptMany v_l r_19 hg_20) (cwV 2 hts gX9_isEnoughFor_X9_canSay rfl rfl rfl (by decide +kernel) ⟨(Nat.le_of_ble_eq_true rfl), (Nat.le_of_ble_eq_true rfl)⟩) hK hP hD hS hA (ci := 8) (q0 := 0) rfl rfl [0, 1] [] [0, 1] rfl rfl rfl rfl (by decide) rfl rfl rfl hl.1 rfl (Nat.le_of_ble_eq_true rfl) dX9_isEnoughFor_52 ⟨Nat.zero_le _, Nat.zero_le _⟩ (fun H locs hP hD hS => ?_)
                  refine lv_if_eq (tgt := 62) hx hb dX9_isEnoughFor_55 (by decide) (fun c_21 => ?_) (fun c_21 => ?_)
                  · replace h := ifp_el c_21 h
                    refine lv_iconst (v := (nI 0)) hx hb dX9_isEnoughFor_62 (by decide) ?_
                    refine lv_istore_n (lv' := [(2, .int (nI 0)), (0, .ref q_this), (1, .int p1), (3, .int x3_2), (4, .int x4_7)]) hx hb dX9_isEnoughFor_63 rfl hl (by decide) rfl (fun ls hl => ?_)
                    obtain ⟨x4_22, e_23, h⟩ := nm_el h
                    refine lv_iinc (v := x4_22) (lv' := [(4, .int x4_22), (2, .int (nI 0)), (0, .ref q_this), (1, .int p1), (3, .int x3_2)]) hx hb dX9_isEnoughFor_64 hl (k := 4) rfl (by rw [← e_23]; rfl) (by decide) rfl (fun ls hl => ?_)
                    refine lv_goto (tgt := 19) hx hb dX9_isEnoughFor_67 (by decide) ?_
                    exact ih _ _ _ _ _ _ h hex hP hD hS (lv_sub hl [2, 3, 1, 4, 0] rfl)
                  · replace h := ifn_el c_21 h
                    refine lv_iconst (v := (nI 1)) hx hb dX9_isEnoughFor_58 (by decide) ?_
                    refine lv_goto (tgt := 63) hx hb dX9_isEnoughFor_59 (by decide) ?_
                    refine lv_istore_n (lv' := [(2, .int (nI 1)), (0, .ref q_this), (1, .int p1), (3, .int x3_2), (4, .int x4_7)]) hx hb dX9_isEnoughFor_63 rfl hl (by decide) rfl (fun ls hl => ?_)
                    obtain ⟨x4_24, e_25, h⟩ := nm_el h
                    refine lv_iinc (v := x4_24) (lv' := [(4, .int x4_24), (2, .int (nI 1)), (0, .ref q_this), (1, .int p1), (3, .int x3_2)]) hx hb dX9_isEnoughFor_64 hl (k := 4) rfl (by rw [← e_25]; rfl) (by decide) rfl (fun ls hl => ?_)
                    refine lv_goto (tgt := 19) hx hb dX9_isEnoughFor_67 (by decide) ?_
                    exact ih _ _ _ _ _ _ h hex hP hD hS (lv_sub hl [2, 3, 1, 4, 0] rfl)
        exact hlp F x2_1 (nI 0) o_8 H locs ls hL hex hP hD hS (lv_sub hl [1, 2, 3, 4, 0] rfl)
  exact hlp F (nI 1) (nI 0) o_3 s.heap [] ls hL hex hP hD hS (lv_sub hl [2, 3, 1, 0] rfl)
def b_X9_fewest_20 (v_l : Nat → Int32) (F : Nat) (rec20 : Int32 → Int32 → Option (Int32)) (x2_4 : Int32) (x3_5 : Int32) : Option (Int32) := (if x3_5 < 0 then some (x2_4) else bd1 (D_X9_ones F x3_5) (fun r_8 => bd1 (D_X9_ones F x2_4) (fun r_10 => (if r_10 < r_8 then nm (x3_5 + (-1 : Int32)) (fun x3_13 => rec20 x2_4 x3_13) else bd1 (D_X9_isEnoughFor F x3_5 v_l) (fun r_15 => (if r_15 = 0 then nm (x3_5 + (-1 : Int32)) (fun x3_18 => rec20 x2_4 x3_18) else nm (x3_5 + (-1 : Int32)) (fun x3_20 => rec20 x3_5 x3_20)))))))
def D_X9_fewest (F : Nat) (p1 : Int32) (v_l : Nat → Int32) : Option (Int32) := bd1 (D_X9_in p1.toInt64 (lN 0) (lN 1)) (fun r_1 => (if r_1 = 0 then some ((-1 : Int32)) else bd1 (lpg (T := Int32 → Int32 → Option (Int32)) (fun _ _ => none) (b_X9_fewest_20 v_l F) F (nI 255) (nI 255)) (fun o_6 => (if p1 = 0 then some (o_6) else bd1 (D_X9_ones F o_6) (fun r_23 => some (r_23))))))
abbrev rm_X9_fewest : Room := { frames := 3, cells := 0, slots := 0, locals := 70 }
set_option maxHeartbeats 4000000 in
set_option maxRecDepth 100000 in
theorem c_X9_fewest (l : Launch) (D : va_G) (ca : Nat → ClassId) (F : Nat) (sz : Nat) (q_this q_text q_read q_l q_stands q_kept q_one q_two q_ways q_now q_then : Nat) (p1 : Int32) (v_size : Int32) (v_at : Int32) (v_keptMany : Int32) (v_l : Nat → Int32) (r : Int32) (h : D_X9_fewest F p1 v_l = some (r)) : Met l yX9_fewest wsX9_fewest rm_X9_fewest (va_Pc [.ref q_this, .int p1] (kPre D ca [(q_this, .inr (8, [.ref q_text, .int v_size, .int v_at, .ref q_read, .ref q_l, .ref q_stands, .ref q_kept, .int v_keptMany, .ref q_one, .ref q_two, .ref q_ways, .ref q_now, .ref q_then])), (q_l, .inl (ca 0, 336, .inl v_l))] sz)) (kQi D ca (va_A [(q_this, .inr (8, [.ref q_text, .int v_size, .int v_at, .ref q_read, .ref q_l, .ref q_stands, .ref q_kept, .int v_keptMany, .ref q_one, .ref q_two, .ref q_ways, .ref q_now, .ref q_then])), (q_l, .inl (ca 0, 336, .inl v_l))] sz) [(q_this, .inr (8, [.ref q_text, .int v_size, .int v_at, .ref q_read, .ref q_l, .ref q_stands, .ref q_kept, .int v_keptMany, .ref q_one, .ref q_two, .ref q_ways, .ref q_now, .ref q_then])), (q_l, .inl (ca 0, 336, .inl v_l))] r) 0 0 (va_A [(q_this, .inr (8, [.ref q_text, .int v_size, .int v_at, .ref q_read, .ref q_l, .ref q_stands, .ref q_kept, .int v_keptMany, .ref q_one, .ref q_two, .ref q_ways, .ref q_now, .ref q_then])), (q_l, .inl (ca 0, 336, .inl v_l))] sz) := by
  refine Met.ofW (cc := cX9_fewest) (maxL := 4) (ret := (some .int)) (by decide +kernel) rfl ?_
  intro p e s m args below meth c s₁ B hml hv
  obtain ⟨rfl, hsz, hP, hK, hD0⟩ := hv
  have hx := B.exec
  have hb := B.bytes
  have hr := B.returns
  have hts := atoms_spec (ws := wsX9_fewest) B.pre
  have hown : s.vm.findClass RX9 = some m.cls := findClass_of_methodNamed B.named
  have hlocks := B.notSynchronized
  clear B
  subst hsz
  have hD := hD0.self (sz := s.heap.size)
  generalize hAe : va_A [(q_this, .inr (8, [.ref q_text, .int v_size, .int v_at, .ref q_read, .ref q_l, .ref q_stands, .ref q_kept, .int v_keptMany, .ref q_one, .ref q_two, .ref q_ways, .ref q_now, .ref q_then])), (q_l, .inl (ca 0, 336, .inl v_l))] s.heap.size = A at hD ⊢
  have hA : ∀ q : Nat, s.heap.size ≤ q → A q := fun q h => by rw [← hAe]; exact Or.inr h
  have hS : va_S A s.heap s.heap [] := va_S.rf
  have hl := lv_entry ([.ref q_this, .int p1]) (n := 4) (Nat.le_of_ble_eq_true rfl)
  rw [lg_entry_eq]
  generalize (lg_sl ([.ref q_this, .int p1]) ++ List.replicate (4 - (lg_sl ([.ref q_this, .int p1])).length) Slot.unset).toArray = ls at hl ⊢
  have hl : lv_has ls 4 [(0, .ref q_this), (1, .int p1)] := hl
  generalize ([.ref q_this, .int p1] : List Value).toArray = args at hts ⊢
  generalize hQe : MQ below (kQi D ca (A) [(q_this, .inr (8, [.ref q_text, .int v_size, .int v_at, .ref q_read, .ref q_l, .ref q_stands, .ref q_kept, .int v_keptMany, .ref q_one, .ref q_two, .ref q_ways, .ref q_now, .ref q_then])), (q_l, .inl (ca 0, 336, .inl v_l))] r) args s 0 0 A = Q
  rw [D_X9_fewest] at h
  refine lv_iload_n hx hb dX9_fewest_0 rfl (lv_at hl 1 rfl) ?_
  refine lv_i2l hx hb dX9_fewest_1 rfl ?_
  refine lv_lconst (v := (lN 0)) hx hb dX9_fewest_2 (by decide) ?_
  refine lv_lconst (v := (lN 1)) hx hb dX9_fewest_3 (by decide) ?_
  obtain ⟨r_1, hg_2, h⟩ := bd1_el h
  refine kx_Si (As := [.long p1.toInt64, .long (lN 0), .long (lN 1)]) (rest := []) (wr := [(q_this, .inr (8, [.ref q_text, .int v_size, .int v_at, .ref q_read, .ref q_l, .ref q_stands, .ref q_kept, .int v_keptMany, .ref q_one, .ref q_two, .ref q_ways, .ref q_now, .ref q_then])), (q_l, .inl (ca 0, 336, .inl v_l))]) (w1 := []) (wn := [(q_this, .inr (8, [.ref q_text, .int v_size, .int v_at, .ref q_read, .ref q_l, .ref q_stands, .ref q_kept, .int v_keptMany, .ref q_one, .ref q_two, .ref q_ways, .ref q_now, .ref q_then])), (q_l, .inl (ca 0, 336, .inl v_l))]) ⟨hx, hb, hml, hown, hts⟩ (c_X9_in l D ca s.heap.size p1.toInt64 (lN 0) (lN 1) r_1 hg_2) (va_cwS 3 hts gX9_fewest_X9_in rfl rfl rfl (by decide +kernel) ⟨(Nat.le_of_ble_eq_true rfl), (Nat.le_of_ble_eq_true rfl)⟩) hK hP hD hS hA [] [0, 1] [0, 1] rfl rfl rfl rfl (by decide) rfl rfl rfl hl.1 rfl (Nat.le_of_ble_eq_true rfl) dX9_fewest_4 ⟨Nat.zero_le _, Nat.zero_le _⟩ (fun H locs hP hD hS => ?_)
  refine lv_if_ne (tgt := 12) hx hb dX9_fewest_7 (by decide) (fun c_3 => ?_) (fun c_3 => ?_)
  · replace h := ifn_el c_3 h
    refine lv_sipush (v := (nI 255)) hx hb dX9_fewest_12 (by decide) ?_
    refine lv_istore_n (lv' := [(2, .int (nI 255)), (0, .ref q_this), (1, .int p1)]) hx hb dX9_fewest_15 rfl hl (by decide) rfl (fun ls hl => ?_)
    refine lv_sipush (v := (nI 255)) hx hb dX9_fewest_16 (by decide) ?_
    refine lv_istore_n (lv' := [(3, .int (nI 255)), (2, .int (nI 255)), (0, .ref q_this), (1, .int p1)]) hx hb dX9_fewest_19 rfl hl (by decide) rfl (fun ls hl => ?_)
    obtain ⟨o_6, hL, h⟩ := bd1_el h
    have hex : ∀ (H : Heap) (locs : List Loc) (ls : Array Slot), va_P D vwCl [(q_this, .inr (8, [.ref q_text, .int v_size, .int v_at, .ref q_read, .ref q_l, .ref q_stands, .ref q_kept, .int v_keptMany, .ref q_one, .ref q_two, .ref q_ways, .ref q_now, .ref q_then])), (q_l, .inl (ca 0, 336, .inl v_l))] H → va_D A [(q_this, .inr (8, [.ref q_text, .int v_size, .int v_at, .ref q_read, .ref q_l, .ref q_stands, .ref q_kept, .int v_keptMany, .ref q_one, .ref q_two, .ref q_ways, .ref q_now, .ref q_then])), (q_l, .inl (ca 0, 336, .inl v_l))] → va_S A s.heap H locs → lv_has ls 4 [(1, .int p1), (2, .int o_6)] → W p l e (headSpec wsX9_fewest rm_X9_fewest).room s m args below meth c H locs 0 0 Q (F0 m 55 ls []) := by
      intro H locs ls hP hD hS hl
      refine lv_iload_n hx hb dX9_fewest_55 rfl (lv_at hl 0 rfl) ?_
      refine lv_if_ne (tgt := 63) hx hb dX9_fewest_56 (by decide) (fun c_22 => ?_) (fun c_22 => ?_)
      · replace h := ifn_el c_22 h
        refine lv_iload_n hx hb dX9_fewest_63 rfl (lv_at hl 1 rfl) ?_
        obtain ⟨r_23, hg_24, h⟩ := bd1_el h
        refine kx_Si (As := [.int o_6]) (rest := []) (wr := [(q_this, .inr (8, [.ref q_text, .int v_size, .int v_at, .ref q_read, .ref q_l, .ref q_stands, .ref q_kept, .int v_keptMany, .ref q_one, .ref q_two, .ref q_ways, .ref q_now, .ref q_then])), (q_l, .inl (ca 0, 336, .inl v_l))]) (w1 := []) (wn := [(q_this, .inr (8, [.ref q_text, .int v_size, .int v_at, .ref q_read, .ref q_l, .ref q_stands, .ref q_kept, .int v_keptMany, .ref q_one, .ref q_two, .ref q_ways, .ref q_now, .ref q_then])), (q_l, .inl (ca 0, 336, .inl v_l))]) ⟨hx, hb, hml, hown, hts⟩ (c_X9_ones l D ca F H.size o_6 r_23 hg_24) (va_cwS 1 hts gX9_fewest_X9_ones rfl rfl rfl (by decide +kernel) ⟨(Nat.le_of_ble_eq_true rfl), (Nat.le_of_ble_eq_true rfl)⟩) hK hP hD hS hA [] [0, 1] [0, 1] rfl rfl rfl rfl (by decide) rfl rfl rfl hl.1 rfl (Nat.le_of_ble_eq_true rfl) dX9_fewest_64 ⟨Nat.zero_le _, Nat.zero_le _⟩ (fun H locs hP hD hS => ?_)
        cases h
        rw [← hQe]
        exact W.iret hx hb hr (fun t ht hW => ⟨⟨_, (), rfl, rfl, by rw [ht]; exact hP, va_K.moved hW.alike hK, hD⟩, hS.F ht⟩) hS.2.2 dX9_fewest_67
      · replace h := ifp_el c_22 h
        refine lv_iload_n hx hb dX9_fewest_59 rfl (lv_at hl 1 rfl) ?_
        refine lv_goto (tgt := 67) hx hb dX9_fewest_60 (by decide) ?_
        cases h
        rw [← hQe]
        exact W.iret hx hb hr (fun t ht hW => ⟨⟨_, (), rfl, rfl, by rw [ht]; exact hP, va_K.moved hW.alike hK, hD⟩, hS.F ht⟩) hS.2.2 dX9_fewest_67
    have hlp : ∀ (n : Nat) (x2_4 : Int32) (x3_5 : Int32) (o_6 : Int32) (H : Heap) (locs : List Loc) (ls : Array Slot), lpg (T := Int32 → Int32 → Option (Int32)) (fun _ _ => none) (b_X9_fewest_20 v_l F) n x2_4 x3_5 = some (o_6) → (∀ (H : Heap) (locs : List Loc) (ls : Array Slot), va_P D vwCl [(q_this, .inr (8, [.ref q_text, .int v_size, .int v_at, .ref q_read, .ref q_l, .ref q_stands, .ref q_kept, .int v_keptMany, .ref q_one, .ref q_two, .ref q_ways, .ref q_now, .ref q_then])), (q_l, .inl (ca 0, 336, .inl v_l))] H → va_D A [(q_this, .inr (8, [.ref q_text, .int v_size, .int v_at, .ref q_read, .ref q_l, .ref q_stands, .ref q_kept, .int v_keptMany, .ref q_one, .ref q_two, .ref q_ways, .ref q_now, .ref q_then])), (q_l, .inl (ca 0, 336, .inl v_l))] → va_S A s.heap H locs → lv_has ls 4 [(1, .int p1), (2, .int o_6)] → W p l e (headSpec wsX9_fewest rm_X9_fewest).room s m args below meth c H locs 0 0 Q (F0 m 55 ls [])) → va_P D vwCl [(q_this, .inr (8, [.ref q_text, .int v_size, .int v_at, .ref q_read, .ref q_l, .ref q_stands, .ref q_kept, .int v_keptMany, .ref q_one, .ref q_two, .ref q_ways, .ref q_now, .ref q_then])), (q_l, .inl (ca 0, 336, .inl v_l))] H → va_D A [(q_this, .inr (8, [.ref q_text, .int v_size, .int v_at, .ref q_read, .ref q_l, .ref q_stands, .ref q_kept, .int v_keptMany, .ref q_one, .ref q_two, .ref q_ways, .ref q_now, .ref q_then])), (q_l, .inl (ca 0, 336, .inl v_l))] → va_S A s.heap H locs → lv_has ls 4 [(0, .ref q_this), (1, .int p1), (2, .int x2_4), (3, .int x3_5)] → W p l e (headSpec wsX9_fewest rm_X9_fewest).room s m args below meth c H locs 0 0 Q (F0 m 20 ls []) := by
      intro n
      induction n with
      | zero => intro x2_4 x3_5 o_6 H locs ls h; have h : (none : Option (Int32)) = some _ := h; cases h
      | succ n ih =>
        intro x2_4 x3_5 o_6 H locs ls h hex hP hD hS hl
        rw [lpg_succ, b_X9_fewest_20] at h
        refine lv_iload_n hx hb dX9_fewest_20 rfl (lv_at hl 3 rfl) ?_
        refine lv_if_lt (tgt := 55) hx hb dX9_fewest_21 (by decide) (fun c_7 => ?_) (fun c_7 => ?_)
        · replace h := ifp_el c_7 h
          cases h
          exact hex _ _ _ hP hD hS (lv_sub hl [1, 2] rfl)
        · replace h := ifn_el c_7 h
          refine lv_iload_n hx hb dX9_fewest_24 rfl (lv_at hl 3 rfl) ?_
          obtain ⟨r_8, hg_9, h⟩ := bd1_el h
          refine kx_Si (As := [.int x3_5]) (rest := []) (wr := [(q_this, .inr (8, [.ref q_text, .int v_size, .int v_at, .ref q_read, .ref q_l, .ref q_stands, .ref q_kept, .int v_keptMany, .ref q_one, .ref q_two, .ref q_ways, .ref q_now, .ref q_then])), (q_l, .inl (ca 0, 336, .inl v_l))]) (w1 := []) (wn := [(q_this, .inr (8, [.ref q_text, .int v_size, .int v_at, .ref q_read, .ref q_l, .ref q_stands, .ref q_kept, .int v_keptMany, .ref q_one, .ref q_two, .ref q_ways, .ref q_now, .ref q_then])), (q_l, .inl (ca 0, 336, .inl v_l))]) ⟨hx, hb, hml, hown, hts⟩ (c_X9_ones l D ca F H.size x3_5 r_8 hg_9) (va_cwS 1 hts gX9_fewest_X9_ones rfl rfl rfl (by decide +kernel) ⟨(Nat.le_of_ble_eq_true rfl), (Nat.le_of_ble_eq_true rfl)⟩) hK hP hD hS hA [] [0, 1] [0, 1] rfl rfl rfl rfl (by decide) rfl rfl rfl hl.1 rfl (Nat.le_of_ble_eq_true rfl) dX9_fewest_25 ⟨Nat.zero_le _, Nat.zero_le _⟩ (fun H locs hP hD hS => ?_)
          refine lv_iload_n hx hb dX9_fewest_28 rfl (lv_at hl 2 rfl) ?_
          obtain ⟨r_10, hg_11, h⟩ := bd1_el h
          refine kx_Si (As := [.int x2_4]) (rest := [.int r_8]) (wr := [(q_this, .inr (8, [.ref q_text, .int v_size, .int v_at, .ref q_read, .ref q_l, .ref q_stands, .ref q_kept, .int v_keptMany, .ref q_one, .ref q_two, .ref q_ways, .ref q_now, .ref q_then])), (q_l, .inl (ca 0, 336, .inl v_l))]) (w1 := []) (wn := [(q_this, .inr (8, [.ref q_text, .int v_size, .int v_at, .ref q_read, .ref q_l, .ref q_stands, .ref q_kept, .int v_keptMany, .ref q_one, .ref q_two, .ref q_ways, .ref q_now, .ref q_then])), (q_l, .inl (ca 0, 336, .inl v_l))]) ⟨hx, hb, hml, hown, hts⟩ (c_X9_ones l D ca F H.size x2_4 r_10 hg_11) (va_cwS 1 hts gX9_fewest_X9_ones rfl rfl rfl (by decide +kernel) ⟨(Nat.le_of_ble_eq_true rfl), (Nat.le_of_ble_eq_true rfl)⟩) hK hP hD hS hA [] [0, 1] [0, 1] rfl rfl rfl rfl (by decide) rfl rfl rfl hl.1 rfl (Nat.le_of_ble_eq_true rfl) dX9_fewest_29 ⟨Nat.zero_le _, Nat.zero_le _⟩ (fun H locs hP hD hS => ?_)
          refine lv_icmp_gt (tgt := 47) hx hb dX9_fewest_32 (by decide) (fun c_12 => ?_) (fun c_12 => ?_)
          · replace h := ifp_el c_12 h
            refine lv_iload_n hx hb dX9_fewest_47 rfl (lv_at hl 2 rfl) ?_
            refine lv_istore_n (lv' := [(2, .int x2_4), (0, .ref q_this), (1, .int p1), (3, .int x3_5)]) hx hb dX9_fewest_48 rfl hl (by decide) rfl (fun ls hl => ?_)
            obtain ⟨x3_13, e_14, h⟩ := nm_el h
            refine lv_iinc (v := x3_13) (lv' := [(3, .int x3_13), (2, .int x2_4), (0, .ref q_this), (1, .int p1)]) hx hb dX9_fewest_49 hl (k := 3) rfl (by rw [← e_14]; rfl) (by decide) rfl (fun ls hl => ?_)
            refine lv_goto (tgt := 20) hx hb dX9_fewest_52 (by decide) ?_
            exact ih _ _ _ _ _ _ h hex hP hD hS (lv_sub hl [2, 3, 1, 0] rfl)
          · replace h := ifn_el c_12 h
            refine lv_aload_n hx hb dX9_fewest_35 rfl (lv_at hl 0 rfl) ?_
            refine lv_iload_n hx hb dX9_fewest_36 rfl (lv_at hl 3 rfl) ?_
            obtain ⟨r_15, hg_16, h⟩ := bd1_el h
            refine kx_Vi (As := [.int x3_5]) (rest := []) (wr := []) (w1 := [(q_this, .inr (8, [.ref q_text, .int v_size, .int v_at, .ref q_read, .ref q_l, .ref q_stands, .ref q_kept, .int v_keptMany, .ref q_one, .ref q_two, .ref q_ways, .ref q_now, .ref q_then])), (q_l, .inl (ca 0, 336, .inl v_l))]) (wn := [(q_this, .inr (8, [.ref q_text, .int v_size, .int v_at, .ref q_read, .ref q_l, .ref q_stands, .ref q_kept, .int v_keptMany, .ref q_one, .ref q_two, .ref q_ways, .ref q_now, .ref q_then])), (q_l, .inl (ca 0, 336, .inl v_l))]) ⟨hx, hb, hml, hown, hts⟩ (c_X9_isEnoughFor l D ca F H.size q_this q_text q_read q_l q_stands q_kept q_one q_two q_ways q_now q_then x3_5 v_size v_at v_keptMany v_l r_15 hg_16) (cwV 1 hts gX9_fewest_X9_isEnoughFor rfl rfl rfl (by decide +kernel) ⟨(Nat.le_of_ble_eq_true rfl), (Nat.le_of_ble_eq_true rfl)⟩) hK hP hD hS hA (ci := 8) (q0 := 0) rfl rfl [0, 1] [] [0, 1] rfl rfl rfl rfl (by decide) rfl rfl rfl hl.1 rfl (Nat.le_of_ble_eq_true rfl) dX9_fewest_37 ⟨Nat.zero_le _, Nat.zero_le _⟩ (fun H locs hP hD hS => ?_)
            refine lv_if_eq (tgt := 47) hx hb dX9_fewest_40 (by decide) (fun c_17 => ?_) (fun c_17 => ?_)
            · replace h := ifp_el c_17 h
              refine lv_iload_n hx hb dX9_fewest_47 rfl (lv_at hl 2 rfl) ?_
              refine lv_istore_n (lv' := [(2, .int x2_4), (0, .ref q_this), (1, .int p1), (3, .int x3_5)]) hx hb dX9_fewest_48 rfl hl (by decide) rfl (fun ls hl => ?_)
              obtain ⟨x3_18, e_19, h⟩ := nm_el h
              refine lv_iinc (v := x3_18) (lv' := [(3, .int x3_18), (2, .int x2_4), (0, .ref q_this), (1, .int p1)]) hx hb dX9_fewest_49 hl (k := 3) rfl (by rw [← e_19]; rfl) (by decide) rfl (fun ls hl => ?_)
              refine lv_goto (tgt := 20) hx hb dX9_fewest_52 (by decide) ?_
              exact ih _ _ _ _ _ _ h hex hP hD hS (lv_sub hl [2, 3, 1, 0] rfl)
            · replace h := ifn_el c_17 h
              refine lv_iload_n hx hb dX9_fewest_43 rfl (lv_at hl 3 rfl) ?_
              refine lv_goto (tgt := 48) hx hb dX9_fewest_44 (by decide) ?_
              refine lv_istore_n (lv' := [(2, .int x3_5), (0, .ref q_this), (1, .int p1), (3, .int x3_5)]) hx hb dX9_fewest_48 rfl hl (by decide) rfl (fun ls hl => ?_)
              obtain ⟨x3_20, e_21, h⟩ := nm_el h
              refine lv_iinc (v := x3_20) (lv' := [(3, .int x3_20), (2, .int x3_5), (0, .ref q_this), (1, .int p1)]) hx hb dX9_fewest_49 hl (k := 3) rfl (by rw [← e_21]; rfl) (by decide) rfl (fun ls hl => ?_)
              refine lv_goto (tgt := 20) hx hb dX9_fewest_52 (by decide) ?_
              exact ih _ _ _ _ _ _ h hex hP hD hS (lv_sub hl [2, 3, 1, 0] rfl)
    exact hlp F (nI 255) (nI 255) o_6 H locs ls hL hex hP hD hS (lv_sub hl [2, 3, 1, 0] rfl)
  · replace h := ifp_el c_3 h
    refine lv_iconst (v := (-1 : Int32)) hx hb dX9_fewest_10 (by decide) ?_
    cases h
    rw [← hQe]
    exact W.iret hx hb hr (fun t ht hW => ⟨⟨_, (), rfl, rfl, by rw [ht]; exact hP, va_K.moved hW.alike hK, hD⟩, hS.F ht⟩) hS.2.2 dX9_fewest_11
def D_X9_both (v_l : Nat → Int32) : Option (Int32) := ck 336 (nI 280) (ck 336 (nI 281) (some (((v_l (nI 280).toNatClampNeg) &&& (v_l (nI 281).toNatClampNeg)))))
abbrev rm_X9_both : Room := { frames := 0, cells := 0, slots := 0, locals := 0 }
set_option maxHeartbeats 4000000 in
set_option maxRecDepth 100000 in
theorem c_X9_both (l : Launch) (D : va_G) (ca : Nat → ClassId) (sz : Nat) (q_this q_text q_read q_l q_stands q_kept q_one q_two q_ways q_now q_then : Nat) (v_size : Int32) (v_at : Int32) (v_keptMany : Int32) (v_l : Nat → Int32) (r : Int32) (h : D_X9_both v_l = some (r)) : Met l yX9_both wsX9_both rm_X9_both (va_Pc [.ref q_this] (kPre D ca [(q_this, .inr (8, [.ref q_text, .int v_size, .int v_at, .ref q_read, .ref q_l, .ref q_stands, .ref q_kept, .int v_keptMany, .ref q_one, .ref q_two, .ref q_ways, .ref q_now, .ref q_then])), (q_l, .inl (ca 0, 336, .inl v_l))] sz)) (kQi D ca (va_A [(q_this, .inr (8, [.ref q_text, .int v_size, .int v_at, .ref q_read, .ref q_l, .ref q_stands, .ref q_kept, .int v_keptMany, .ref q_one, .ref q_two, .ref q_ways, .ref q_now, .ref q_then])), (q_l, .inl (ca 0, 336, .inl v_l))] sz) [(q_this, .inr (8, [.ref q_text, .int v_size, .int v_at, .ref q_read, .ref q_l, .ref q_stands, .ref q_kept, .int v_keptMany, .ref q_one, .ref q_two, .ref q_ways, .ref q_now, .ref q_then])), (q_l, .inl (ca 0, 336, .inl v_l))] r) 0 0 (va_A [(q_this, .inr (8, [.ref q_text, .int v_size, .int v_at, .ref q_read, .ref q_l, .ref q_stands, .ref q_kept, .int v_keptMany, .ref q_one, .ref q_two, .ref q_ways, .ref q_now, .ref q_then])), (q_l, .inl (ca 0, 336, .inl v_l))] sz) := by
  refine Met.ofW (cc := cX9_both) (maxL := 1) (ret := (some .int)) (by decide +kernel) rfl ?_
  intro p e s m args below meth c s₁ B hml hv
  obtain ⟨rfl, hsz, hP, hK, hD0⟩ := hv
  have hx := B.exec
  have hb := B.bytes
  have hr := B.returns
  have hts := atoms_spec (ws := wsX9_both) B.pre
  have hown : s.vm.findClass RX9 = some m.cls := findClass_of_methodNamed B.named
  have hlocks := B.notSynchronized
  clear B
  subst hsz
  have hD := hD0.self (sz := s.heap.size)
  generalize hAe : va_A [(q_this, .inr (8, [.ref q_text, .int v_size, .int v_at, .ref q_read, .ref q_l, .ref q_stands, .ref q_kept, .int v_keptMany, .ref q_one, .ref q_two, .ref q_ways, .ref q_now, .ref q_then])), (q_l, .inl (ca 0, 336, .inl v_l))] s.heap.size = A at hD ⊢
  have hA : ∀ q : Nat, s.heap.size ≤ q → A q := fun q h => by rw [← hAe]; exact Or.inr h
  have hS : va_S A s.heap s.heap [] := va_S.rf
  have hl := lv_entry ([.ref q_this]) (n := 1) (Nat.le_of_ble_eq_true rfl)
  rw [lg_entry_eq]
  generalize (lg_sl ([.ref q_this]) ++ List.replicate (1 - (lg_sl ([.ref q_this])).length) Slot.unset).toArray = ls at hl ⊢
  have hl : lv_has ls 1 [(0, .ref q_this)] := hl
  generalize ([.ref q_this] : List Value).toArray = args at hts ⊢
  generalize hQe : MQ below (kQi D ca (A) [(q_this, .inr (8, [.ref q_text, .int v_size, .int v_at, .ref q_read, .ref q_l, .ref q_stands, .ref q_kept, .int v_keptMany, .ref q_one, .ref q_two, .ref q_ways, .ref q_now, .ref q_then])), (q_l, .inl (ca 0, 336, .inl v_l))] r) args s 0 0 A = Q
  have i_X9 : ∀ w ∈ u_ws RX9 TX9 13, w ∈ wsX9_both := by decide +kernel
  have k_16 := hts (.fieldLink RX9 16 "TradeWordsModel" "l" "[I") (by decide +kernel)
  rw [D_X9_both] at h
  refine lv_aload_n hx hb dX9_both_0 rfl (lv_at hl 0 rfl) ?_
  refine va_get (D := D) (ci := 8) (v := .ref q_l) (C := RX9) (T := TX9) (N := 13) hx hb hts i_X9 hown hK hP 0 rfl rfl 4 (by decide) k_16 (fun _ h9 => h9) rfl dX9_both_1 ?_
  refine lv_sipush (v := (nI 280)) hx hb dX9_both_4 (by decide) ?_
  obtain ⟨hi_1, h⟩ := ck_el h
  refine va_iald hx hb hK hP 1 0 rfl rfl hi_1 dX9_both_7 ?_
  refine lv_aload_n hx hb dX9_both_8 rfl (lv_at hl 0 rfl) ?_
  refine va_get (D := D) (ci := 8) (v := .ref q_l) (C := RX9) (T := TX9) (N := 13) hx hb hts i_X9 hown hK hP 0 rfl rfl 4 (by decide) k_16 (fun _ h9 => h9) rfl dX9_both_9 ?_
  refine lv_sipush (v := (nI 281)) hx hb dX9_both_12 (by decide) ?_
  obtain ⟨hi_2, h⟩ := ck_el h
  refine va_iald hx hb hK hP 1 0 rfl rfl hi_2 dX9_both_15 ?_
  refine lv_iand hx hb dX9_both_16 ?_
  cases h
  rw [← hQe]
  exact W.iret hx hb hr (fun t ht hW => ⟨⟨_, (), rfl, rfl, by rw [ht]; exact hP, va_K.moved hW.alike hK, hD⟩, hS.F ht⟩) hS.2.2 dX9_both_17
