def b_X10_even_31 (p2 : Int32) (F : Nat) (rec31 : Int32 → Int32 → Option (Int32)) (x3_7 : Int32) (x4_8 : Int32) : Option (Int32) := (if (nI 20) < x4_8 then some ((-4 : Int32)) else (if (nI 950) ≤ x3_7 then some (x4_8) else (if (nI 50) < x3_7 then bd1 (D_X10_hear F x3_7 p2) (fun r_12 => nm (x4_8 + (nI 1)) (fun x4_14 => rec31 r_12 x4_14)) else some (x4_8))))
def D_X10_even (F : Nat) (p1 : Int32) (p2 : Int32) : Option (Int32) := bd1 (D_X10_in p1.toInt64 (lN 0) (lN 1000)) (fun r_1 => (if r_1 = 0 then some ((-1 : Int32)) else bd1 (D_X10_in p2.toInt64 (lN 1) (lN 3)) (fun r_4 => (if r_4 = 0 then some ((-1 : Int32)) else lpg (T := Int32 → Int32 → Option (Int32)) (fun _ _ => none) (b_X10_even_31 p2 F) F p1 (nI 0)))))
abbrev rm_X10_even : Room := { frames := 1, cells := 0, slots := 0, locals := 26 }
set_option maxHeartbeats 4000000 in
set_option maxRecDepth 100000 in
theorem c_X10_even (l : Launch) (D : va_G) (ca : Nat → ClassId) (F : Nat) (sz : Nat) (q_this : Nat) (p1 : Int32) (p2 : Int32) (r : Int32) (h : D_X10_even F p1 p2 = some (r)) : Met l yX10_even wsX10_even rm_X10_even (va_Pc [.ref q_this, .int p1, .int p2] (kPre D ca [] sz)) (kQi D ca (va_A [] sz) [] r) 0 0 (va_A [] sz) := by
  refine Met.ofW (cc := cX10_even) (maxL := 5) (ret := (some .int)) (by decide +kernel) rfl ?_
  intro p e s m args below meth c s₁ B hml hv
  obtain ⟨rfl, hsz, hP, hK, hD0⟩ := hv
  have hx := B.exec
  have hb := B.bytes
  have hr := B.returns
  have hts := atoms_spec (ws := wsX10_even) B.pre
  have hown : s.vm.findClass RX10 = some m.cls := findClass_of_methodNamed B.named
  have hlocks := B.notSynchronized
  clear B
  subst hsz
  have hD := hD0.self (sz := s.heap.size)
  generalize hAe : va_A [] s.heap.size = A at hD ⊢
  have hA : ∀ q : Nat, s.heap.size ≤ q → A q := fun q h => by rw [← hAe]; exact Or.inr h
  have hS : va_S A s.heap s.heap [] := va_S.rf
  have hl := lv_entry ([.ref q_this, .int p1, .int p2]) (n := 5) (Nat.le_of_ble_eq_true rfl)
  rw [lg_entry_eq]
  generalize (lg_sl ([.ref q_this, .int p1, .int p2]) ++ List.replicate (5 - (lg_sl ([.ref q_this, .int p1, .int p2])).length) Slot.unset).toArray = ls at hl ⊢
  have hl : lv_has ls 5 [(0, .ref q_this), (1, .int p1), (2, .int p2)] := hl
  generalize ([.ref q_this, .int p1, .int p2] : List Value).toArray = args at hts ⊢
  generalize hQe : MQ below (kQi D ca (A) [] r) args s 0 0 A = Q
  have k_201 := hts (.constantLong RX10 201 (lN 1000)) (by decide +kernel)
  have k_233 := hts (.constantLong RX10 233 (lN 3)) (by decide +kernel)
  rw [D_X10_even] at h
  refine lv_iload_n hx hb dX10_even_0 rfl (lv_at hl 1 rfl) ?_
  refine lv_i2l hx hb dX10_even_1 rfl ?_
  refine lv_lconst (v := (lN 0)) hx hb dX10_even_2 (by decide) ?_
  refine lv_ldc2 hx hb hown k_201 dX10_even_3 ?_
  obtain ⟨r_1, hg_2, h⟩ := bd1_el h
  refine kx_Si (As := [.long p1.toInt64, .long (lN 0), .long (lN 1000)]) (rest := []) (wr := []) (w1 := []) (wn := []) ⟨hx, hb, hml, hown, hts⟩ (c_X10_in l D ca s.heap.size p1.toInt64 (lN 0) (lN 1000) r_1 hg_2) (va_cwS 3 hts gX10_even_X10_in rfl rfl rfl (by decide +kernel) ⟨(Nat.le_of_ble_eq_true rfl), (Nat.le_of_ble_eq_true rfl)⟩) hK hP hD hS hA [] [] [] rfl rfl rfl rfl (by decide) rfl rfl rfl hl.1 rfl (Nat.le_of_ble_eq_true rfl) dX10_even_6 ⟨Nat.zero_le _, Nat.zero_le _⟩ (fun H locs hP hD hS => ?_)
  refine lv_if_eq (tgt := 24) hx hb dX10_even_9 (by decide) (fun c_3 => ?_) (fun c_3 => ?_)
  · replace h := ifp_el c_3 h
    refine lv_iconst (v := (-1 : Int32)) hx hb dX10_even_24 (by decide) ?_
    cases h
    rw [← hQe]
    exact W.iret hx hb hr (fun t ht hW => ⟨⟨_, (), rfl, rfl, by rw [ht]; exact hP, va_K.moved hW.alike hK, hD⟩, hS.F ht⟩) hS.2.2 dX10_even_25
  · replace h := ifn_el c_3 h
    refine lv_iload_n hx hb dX10_even_12 rfl (lv_at hl 2 rfl) ?_
    refine lv_i2l hx hb dX10_even_13 rfl ?_
    refine lv_lconst (v := (lN 1)) hx hb dX10_even_14 (by decide) ?_
    refine lv_ldc2 hx hb hown k_233 dX10_even_15 ?_
    obtain ⟨r_4, hg_5, h⟩ := bd1_el h
    refine kx_Si (As := [.long p2.toInt64, .long (lN 1), .long (lN 3)]) (rest := []) (wr := []) (w1 := []) (wn := []) ⟨hx, hb, hml, hown, hts⟩ (c_X10_in l D ca H.size p2.toInt64 (lN 1) (lN 3) r_4 hg_5) (va_cwS 3 hts gX10_even_X10_in rfl rfl rfl (by decide +kernel) ⟨(Nat.le_of_ble_eq_true rfl), (Nat.le_of_ble_eq_true rfl)⟩) hK hP hD hS hA [] [] [] rfl rfl rfl rfl (by decide) rfl rfl rfl hl.1 rfl (Nat.le_of_ble_eq_true rfl) dX10_even_18 ⟨Nat.zero_le _, Nat.zero_le _⟩ (fun H locs hP hD hS => ?_)
    refine lv_if_ne (tgt := 26) hx hb dX10_even_21 (by decide) (fun c_6 => ?_) (fun c_6 => ?_)
    · replace h := ifn_el c_6 h
      refine lv_iload_n hx hb dX10_even_26 rfl (lv_at hl 1 rfl) ?_
      refine lv_istore_n (lv' := [(3, .int p1), (0, .ref q_this), (1, .int p1), (2, .int p2)]) hx hb dX10_even_27 rfl hl (by decide) rfl (fun ls hl => ?_)
      refine lv_iconst (v := (nI 0)) hx hb dX10_even_28 (by decide) ?_
      refine lv_istore (lv' := [(4, .int (nI 0)), (3, .int p1), (0, .ref q_this), (1, .int p1), (2, .int p2)]) hx hb dX10_even_29 hl (by decide) rfl (fun ls hl => ?_)
      have hlp : ∀ (n : Nat) (x3_7 : Int32) (x4_8 : Int32) (H : Heap) (locs : List Loc) (ls : Array Slot), lpg (T := Int32 → Int32 → Option (Int32)) (fun _ _ => none) (b_X10_even_31 p2 F) n x3_7 x4_8 = some (r) → va_P D vwCl [] H → va_D A [] → va_S A s.heap H locs → lv_has ls 5 [(2, .int p2), (3, .int x3_7), (4, .int x4_8)] → W p l e (headSpec wsX10_even rm_X10_even).room s m args below meth c H locs 0 0 Q (F0 m 31 ls []) := by
        intro n
        induction n with
        | zero => intro x3_7 x4_8 H locs ls h; have h : (none : Option (Int32)) = some _ := h; cases h
        | succ n ih =>
          intro x3_7 x4_8 H locs ls h hP hD hS hl
          rw [lpg_succ, b_X10_even_31] at h
          refine lv_iload hx hb dX10_even_31 (lv_at hl 2 rfl) ?_
          refine lv_bipush (v := (nI 20)) hx hb dX10_even_33 (by decide) ?_
          refine lv_icmp_gt (tgt := 66) hx hb dX10_even_35 (by decide) (fun c_9 => ?_) (fun c_9 => ?_)
          · replace h := ifp_el c_9 h
            refine lv_bipush (v := (-4 : Int32)) hx hb dX10_even_66 (by decide) ?_
            cases h
            rw [← hQe]
            exact W.iret hx hb hr (fun t ht hW => ⟨⟨_, (), rfl, rfl, by rw [ht]; exact hP, va_K.moved hW.alike hK, hD⟩, hS.F ht⟩) hS.2.2 dX10_even_68
          · replace h := ifn_el c_9 h
            refine lv_iload_n hx hb dX10_even_38 rfl (lv_at hl 1 rfl) ?_
            refine lv_sipush (v := (nI 950)) hx hb dX10_even_39 (by decide) ?_
            refine lv_icmp_ge (tgt := 51) hx hb dX10_even_42 (by decide) (fun c_10 => ?_) (fun c_10 => ?_)
            · replace h := ifp_el c_10 h
              refine lv_iload hx hb dX10_even_51 (lv_at hl 2 rfl) ?_
              cases h
              rw [← hQe]
              exact W.iret hx hb hr (fun t ht hW => ⟨⟨_, (), rfl, rfl, by rw [ht]; exact hP, va_K.moved hW.alike hK, hD⟩, hS.F ht⟩) hS.2.2 dX10_even_53
            · replace h := ifn_el c_10 h
              refine lv_iload_n hx hb dX10_even_45 rfl (lv_at hl 1 rfl) ?_
              refine lv_bipush (v := (nI 50)) hx hb dX10_even_46 (by decide) ?_
              refine lv_icmp_gt (tgt := 54) hx hb dX10_even_48 (by decide) (fun c_11 => ?_) (fun c_11 => ?_)
              · replace h := ifp_el c_11 h
                refine lv_iload_n hx hb dX10_even_54 rfl (lv_at hl 1 rfl) ?_
                refine lv_iload_n hx hb dX10_even_55 rfl (lv_at hl 0 rfl) ?_
                obtain ⟨r_12, hg_13, h⟩ := bd1_el h
                refine kx_Si (As := [.int x3_7, .int p2]) (rest := []) (wr := []) (w1 := []) (wn := []) ⟨hx, hb, hml, hown, hts⟩ (c_X10_hear l D ca F H.size x3_7 p2 r_12 hg_13) (va_cwS 2 hts gX10_even_X10_hear rfl rfl rfl (by decide +kernel) ⟨(Nat.le_of_ble_eq_true rfl), (Nat.le_of_ble_eq_true rfl)⟩) hK hP hD hS hA [] [] [] rfl rfl rfl rfl (by decide) rfl rfl rfl hl.1 rfl (Nat.le_of_ble_eq_true rfl) dX10_even_56 ⟨Nat.zero_le _, Nat.zero_le _⟩ (fun H locs hP hD hS => ?_)
                refine lv_istore_n (lv' := [(3, .int r_12), (2, .int p2), (4, .int x4_8)]) hx hb dX10_even_59 rfl hl (by decide) rfl (fun ls hl => ?_)
                obtain ⟨x4_14, e_15, h⟩ := nm_el h
                refine lv_iinc (v := x4_14) (lv' := [(4, .int x4_14), (3, .int r_12), (2, .int p2)]) hx hb dX10_even_60 hl (k := 2) rfl (by rw [← e_15]; rfl) (by decide) rfl (fun ls hl => ?_)
                refine lv_goto (tgt := 31) hx hb dX10_even_63 (by decide) ?_
                exact ih _ _ _ _ _ h hP hD hS (lv_sub hl [2, 1, 0] rfl)
              · replace h := ifn_el c_11 h
                refine lv_iload hx hb dX10_even_51 (lv_at hl 2 rfl) ?_
                cases h
                rw [← hQe]
                exact W.iret hx hb hr (fun t ht hW => ⟨⟨_, (), rfl, rfl, by rw [ht]; exact hP, va_K.moved hW.alike hK, hD⟩, hS.F ht⟩) hS.2.2 dX10_even_53
      exact hlp F p1 (nI 0) H locs ls h hP hD hS (lv_sub hl [4, 1, 0] rfl)
    · replace h := ifp_el c_6 h
      refine lv_iconst (v := (-1 : Int32)) hx hb dX10_even_24 (by decide) ?_
      cases h
      rw [← hQe]
      exact W.iret hx hb hr (fun t ht hW => ⟨⟨_, (), rfl, rfl, by rw [ht]; exact hP, va_K.moved hW.alike hK, hD⟩, hS.F ht⟩) hS.2.2 dX10_even_25
def b_X10_canSay_9 (p1 : Int32) (p2 : Int32) (v_l : Nat → Int32) (rec9 : Int32 → Int32 → Option (Int32)) (x3_3 : Int32) (x4_4 : Int32) : Option (Int32) := ck 336 (nI 304) ((if (v_l (nI 304).toNatClampNeg) ≤ x4_4 then some (x3_3) else nm ((nI 305) + ((nI 3) * x4_4)) (fun x5_8 => (if x3_3 = 0 then ck 336 x5_8 ((if (v_l x5_8.toNatClampNeg) = p2 then ck 336 (x5_8 + (nI 1)) (bd1 (D_X10_has p1 (v_l (x5_8 + (nI 1)).toNatClampNeg)) (fun r_17 => (if r_17 = 0 then nm (x4_4 + (nI 1)) (fun x4_20 => rec9 (nI 0) x4_20) else ck 336 (x5_8 + (nI 2)) (bd1 (D_X10_has p1 (v_l (x5_8 + (nI 2)).toNatClampNeg)) (fun r_23 => (if r_23 = 0 then nm (x4_4 + (nI 1)) (fun x4_26 => rec9 (nI 0) x4_26) else nm (x4_4 + (nI 1)) (fun x4_28 => rec9 (nI 1) x4_28))))))) else nm (x4_4 + (nI 1)) (fun x4_14 => rec9 (nI 0) x4_14))) else nm (x4_4 + (nI 1)) (fun x4_10 => rec9 (nI 1) x4_10)))))
def D_X10_canSay (F : Nat) (p1 : Int32) (p2 : Int32) (v_l : Nat → Int32) : Option (Int32) := bd1 (D_X10_has p1 p2) (fun r_1 => bd1 (lpg (T := Int32 → Int32 → Option (Int32)) (fun _ _ => none) (b_X10_canSay_9 p1 p2 v_l) F r_1 (nI 0)) (fun o_5 => cz o_5 (some (o_5))))
abbrev rm_X10_canSay : Room := { frames := 1, cells := 0, slots := 0, locals := 21 }
set_option maxHeartbeats 4000000 in
set_option maxRecDepth 100000 in
theorem c_X10_canSay (l : Launch) (D : va_G) (ca : Nat → ClassId) (F : Nat) (sz : Nat) (q_this q_text q_read q_l q_stands q_kept q_one q_two q_ways q_now q_then : Nat) (p1 : Int32) (p2 : Int32) (v_size : Int32) (v_at : Int32) (v_keptMany : Int32) (v_l : Nat → Int32) (r : Int32) (h : D_X10_canSay F p1 p2 v_l = some (r)) : Met l yX10_canSay wsX10_canSay rm_X10_canSay (va_Pc [.ref q_this, .int p1, .int p2] (kPre D ca [(q_this, .inr (8, [.ref q_text, .int v_size, .int v_at, .ref q_read, .ref q_l, .ref q_stands, .ref q_kept, .int v_keptMany, .ref q_one, .ref q_two, .ref q_ways, .ref q_now, .ref q_then])), (q_l, .inl (ca 0, 336, .inl v_l))] sz)) (kQi D ca (va_A [(q_this, .inr (8, [.ref q_text, .int v_size, .int v_at, .ref q_read, .ref q_l, .ref q_stands, .ref q_kept, .int v_keptMany, .ref q_one, .ref q_two, .ref q_ways, .ref q_now, .ref q_then])), (q_l, .inl (ca 0, 336, .inl v_l))] sz) [(q_this, .inr (8, [.ref q_text, .int v_size, .int v_at, .ref q_read, .ref q_l, .ref q_stands, .ref q_kept, .int v_keptMany, .ref q_one, .ref q_two, .ref q_ways, .ref q_now, .ref q_then])), (q_l, .inl (ca 0, 336, .inl v_l))] r) 0 0 (va_A [(q_this, .inr (8, [.ref q_text, .int v_size, .int v_at, .ref q_read, .ref q_l, .ref q_stands, .ref q_kept, .int v_keptMany, .ref q_one, .ref q_two, .ref q_ways, .ref q_now, .ref q_then])), (q_l, .inl (ca 0, 336, .inl v_l))] sz) := by
  refine Met.ofW (cc := cX10_canSay) (maxL := 6) (ret := (some .boolean)) (by decide +kernel) rfl ?_
  intro p e s m args below meth c s₁ B hml hv
  obtain ⟨rfl, hsz, hP, hK, hD0⟩ := hv
  have hx := B.exec
  have hb := B.bytes
  have hr := B.returns
  have hts := atoms_spec (ws := wsX10_canSay) B.pre
  have hown : s.vm.findClass RX10 = some m.cls := findClass_of_methodNamed B.named
  have hlocks := B.notSynchronized
  clear B
  subst hsz
  have hD := hD0.self (sz := s.heap.size)
  generalize hAe : va_A [(q_this, .inr (8, [.ref q_text, .int v_size, .int v_at, .ref q_read, .ref q_l, .ref q_stands, .ref q_kept, .int v_keptMany, .ref q_one, .ref q_two, .ref q_ways, .ref q_now, .ref q_then])), (q_l, .inl (ca 0, 336, .inl v_l))] s.heap.size = A at hD ⊢
  have hA : ∀ q : Nat, s.heap.size ≤ q → A q := fun q h => by rw [← hAe]; exact Or.inr h
  have hS : va_S A s.heap s.heap [] := va_S.rf
  have hl := lv_entry ([.ref q_this, .int p1, .int p2]) (n := 6) (Nat.le_of_ble_eq_true rfl)
  rw [lg_entry_eq]
  generalize (lg_sl ([.ref q_this, .int p1, .int p2]) ++ List.replicate (6 - (lg_sl ([.ref q_this, .int p1, .int p2])).length) Slot.unset).toArray = ls at hl ⊢
  have hl : lv_has ls 6 [(0, .ref q_this), (1, .int p1), (2, .int p2)] := hl
  generalize ([.ref q_this, .int p1, .int p2] : List Value).toArray = args at hts ⊢
  generalize hQe : MQ below (kQi D ca (A) [(q_this, .inr (8, [.ref q_text, .int v_size, .int v_at, .ref q_read, .ref q_l, .ref q_stands, .ref q_kept, .int v_keptMany, .ref q_one, .ref q_two, .ref q_ways, .ref q_now, .ref q_then])), (q_l, .inl (ca 0, 336, .inl v_l))] r) args s 0 0 A = Q
  have i_X10 : ∀ w ∈ u_ws RX10 TX10 13, w ∈ wsX10_canSay := by decide +kernel
  have k_16 := hts (.fieldLink RX10 16 "TradeWordsModel" "l" "[I") (by decide +kernel)
  rw [D_X10_canSay] at h
  refine lv_iload_n hx hb dX10_canSay_0 rfl (lv_at hl 1 rfl) ?_
  refine lv_iload_n hx hb dX10_canSay_1 rfl (lv_at hl 2 rfl) ?_
  obtain ⟨r_1, hg_2, h⟩ := bd1_el h
  refine kx_Si (As := [.int p1, .int p2]) (rest := []) (wr := [(q_this, .inr (8, [.ref q_text, .int v_size, .int v_at, .ref q_read, .ref q_l, .ref q_stands, .ref q_kept, .int v_keptMany, .ref q_one, .ref q_two, .ref q_ways, .ref q_now, .ref q_then])), (q_l, .inl (ca 0, 336, .inl v_l))]) (w1 := []) (wn := [(q_this, .inr (8, [.ref q_text, .int v_size, .int v_at, .ref q_read, .ref q_l, .ref q_stands, .ref q_kept, .int v_keptMany, .ref q_one, .ref q_two, .ref q_ways, .ref q_now, .ref q_then])), (q_l, .inl (ca 0, 336, .inl v_l))]) ⟨hx, hb, hml, hown, hts⟩ (c_X10_has l D ca s.heap.size p1 p2 r_1 hg_2) (va_cwS 2 hts gX10_canSay_X10_has rfl rfl rfl (by decide +kernel) ⟨(Nat.le_of_ble_eq_true rfl), (Nat.le_of_ble_eq_true rfl)⟩) hK hP hD hS hA [] [0, 1] [0, 1] rfl rfl rfl rfl (by decide) rfl rfl rfl hl.1 rfl (Nat.le_of_ble_eq_true rfl) dX10_canSay_2 ⟨Nat.zero_le _, Nat.zero_le _⟩ (fun H locs hP hD hS => ?_)
  refine lv_istore_n (lv' := [(3, .int r_1), (0, .ref q_this), (1, .int p1), (2, .int p2)]) hx hb dX10_canSay_5 rfl hl (by decide) rfl (fun ls hl => ?_)
  refine lv_iconst (v := (nI 0)) hx hb dX10_canSay_6 (by decide) ?_
  refine lv_istore (lv' := [(4, .int (nI 0)), (3, .int r_1), (0, .ref q_this), (1, .int p1), (2, .int p2)]) hx hb dX10_canSay_7 hl (by decide) rfl (fun ls hl => ?_)
  obtain ⟨o_5, hL, h⟩ := bd1_el h
  have hex : ∀ (H : Heap) (locs : List Loc) (ls : Array Slot), va_P D vwCl [(q_this, .inr (8, [.ref q_text, .int v_size, .int v_at, .ref q_read, .ref q_l, .ref q_stands, .ref q_kept, .int v_keptMany, .ref q_one, .ref q_two, .ref q_ways, .ref q_now, .ref q_then])), (q_l, .inl (ca 0, 336, .inl v_l))] H → va_D A [(q_this, .inr (8, [.ref q_text, .int v_size, .int v_at, .ref q_read, .ref q_l, .ref q_stands, .ref q_kept, .int v_keptMany, .ref q_one, .ref q_two, .ref q_ways, .ref q_now, .ref q_then])), (q_l, .inl (ca 0, 336, .inl v_l))] → va_S A s.heap H locs → lv_has ls 6 [(3, .int o_5)] → W p l e (headSpec wsX10_canSay rm_X10_canSay).room s m args below meth c H locs 0 0 Q (F0 m 91 ls []) := by
    intro H locs ls hP hD hS hl
    refine lv_iload_n hx hb dX10_canSay_91 rfl (lv_at hl 0 rfl) ?_
    obtain ⟨hz, h⟩ := cz_el h
    cases h
    rw [← hQe]
    exact W.zret hx hb hr hz (fun t ht hW => ⟨⟨_, (), rfl, rfl, by rw [ht]; exact hP, va_K.moved hW.alike hK, hD⟩, hS.F ht⟩) hS.2.2 dX10_canSay_92
  have hlp : ∀ (n : Nat) (x3_3 : Int32) (x4_4 : Int32) (o_5 : Int32) (H : Heap) (locs : List Loc) (ls : Array Slot), lpg (T := Int32 → Int32 → Option (Int32)) (fun _ _ => none) (b_X10_canSay_9 p1 p2 v_l) n x3_3 x4_4 = some (o_5) → (∀ (H : Heap) (locs : List Loc) (ls : Array Slot), va_P D vwCl [(q_this, .inr (8, [.ref q_text, .int v_size, .int v_at, .ref q_read, .ref q_l, .ref q_stands, .ref q_kept, .int v_keptMany, .ref q_one, .ref q_two, .ref q_ways, .ref q_now, .ref q_then])), (q_l, .inl (ca 0, 336, .inl v_l))] H → va_D A [(q_this, .inr (8, [.ref q_text, .int v_size, .int v_at, .ref q_read, .ref q_l, .ref q_stands, .ref q_kept, .int v_keptMany, .ref q_one, .ref q_two, .ref q_ways, .ref q_now, .ref q_then])), (q_l, .inl (ca 0, 336, .inl v_l))] → va_S A s.heap H locs → lv_has ls 6 [(3, .int o_5)] → W p l e (headSpec wsX10_canSay rm_X10_canSay).room s m args below meth c H locs 0 0 Q (F0 m 91 ls [])) → va_P D vwCl [(q_this, .inr (8, [.ref q_text, .int v_size, .int v_at, .ref q_read, .ref q_l, .ref q_stands, .ref q_kept, .int v_keptMany, .ref q_one, .ref q_two, .ref q_ways, .ref q_now, .ref q_then])), (q_l, .inl (ca 0, 336, .inl v_l))] H → va_D A [(q_this, .inr (8, [.ref q_text, .int v_size, .int v_at, .ref q_read, .ref q_l, .ref q_stands, .ref q_kept, .int v_keptMany, .ref q_one, .ref q_two, .ref q_ways, .ref q_now, .ref q_then])), (q_l, .inl (ca 0, 336, .inl v_l))] → va_S A s.heap H locs → lv_has ls 6 [(0, .ref q_this), (1, .int p1), (2, .int p2), (3, .int x3_3), (4, .int x4_4)] → W p l e (headSpec wsX10_canSay rm_X10_canSay).room s m args below meth c H locs 0 0 Q (F0 m 9 ls []) := by
    intro n
    induction n with
    | zero => intro x3_3 x4_4 o_5 H locs ls h; have h : (none : Option (Int32)) = some _ := h; cases h
    | succ n ih =>
      intro x3_3 x4_4 o_5 H locs ls h hex hP hD hS hl
      rw [lpg_succ, b_X10_canSay_9] at h
      refine lv_iload hx hb dX10_canSay_9 (lv_at hl 4 rfl) ?_
      refine lv_aload_n hx hb dX10_canSay_11 rfl (lv_at hl 0 rfl) ?_
      refine va_get (D := D) (ci := 8) (v := .ref q_l) (C := RX10) (T := TX10) (N := 13) hx hb hts i_X10 hown hK hP 0 rfl rfl 4 (by decide) k_16 (fun _ h9 => h9) rfl dX10_canSay_12 ?_
      refine lv_sipush (v := (nI 304)) hx hb dX10_canSay_15 (by decide) ?_
      obtain ⟨hi_6, h⟩ := ck_el h
      refine va_iald hx hb hK hP 1 0 rfl rfl hi_6 dX10_canSay_18 ?_
      refine lv_icmp_ge (tgt := 91) hx hb dX10_canSay_19 (by decide) (fun c_7 => ?_) (fun c_7 => ?_)
      · replace h := ifp_el c_7 h
        cases h
        exact hex _ _ _ hP hD hS (lv_sub hl [3] rfl)
      · replace h := ifn_el c_7 h
        refine lv_sipush (v := (nI 305)) hx hb dX10_canSay_22 (by decide) ?_
        refine lv_iconst (v := (nI 3)) hx hb dX10_canSay_25 (by decide) ?_
        refine lv_iload hx hb dX10_canSay_26 (lv_at hl 4 rfl) ?_
        refine lv_imul hx hb dX10_canSay_28 ?_
        refine lv_iadd hx hb dX10_canSay_29 ?_
        refine lv_nmi h (fun x5_8 h => ?_)
        refine lv_istore (lv' := [(5, .int x5_8), (0, .ref q_this), (1, .int p1), (2, .int p2), (3, .int x3_3), (4, .int x4_4)]) hx hb dX10_canSay_30 hl (by decide) rfl (fun ls hl => ?_)
        refine lv_iload_n hx hb dX10_canSay_32 rfl (lv_at hl 4 rfl) ?_
        refine lv_if_ne (tgt := 79) hx hb dX10_canSay_33 (by decide) (fun c_9 => ?_) (fun c_9 => ?_)
        · replace h := ifn_el c_9 h
          refine lv_iconst (v := (nI 1)) hx hb dX10_canSay_79 (by decide) ?_
          refine lv_goto (tgt := 84) hx hb dX10_canSay_80 (by decide) ?_
          refine lv_istore_n (lv' := [(3, .int (nI 1)), (5, .int x5_8), (0, .ref q_this), (1, .int p1), (2, .int p2), (4, .int x4_4)]) hx hb dX10_canSay_84 rfl hl (by decide) rfl (fun ls hl => ?_)
          obtain ⟨x4_10, e_11, h⟩ := nm_el h
          refine lv_iinc (v := x4_10) (lv' := [(4, .int x4_10), (3, .int (nI 1)), (5, .int x5_8), (0, .ref q_this), (1, .int p1), (2, .int p2)]) hx hb dX10_canSay_85 hl (k := 5) rfl (by rw [← e_11]; rfl) (by decide) rfl (fun ls hl => ?_)
          refine lv_goto (tgt := 9) hx hb dX10_canSay_88 (by decide) ?_
          exact ih _ _ _ _ _ _ h hex hP hD hS (lv_sub hl [3, 4, 5, 1, 0] rfl)
        · replace h := ifp_el c_9 h
          refine lv_aload_n hx hb dX10_canSay_36 rfl (lv_at hl 1 rfl) ?_
          refine va_get (D := D) (ci := 8) (v := .ref q_l) (C := RX10) (T := TX10) (N := 13) hx hb hts i_X10 hown hK hP 0 rfl rfl 4 (by decide) k_16 (fun _ h9 => h9) rfl dX10_canSay_37 ?_
          refine lv_iload hx hb dX10_canSay_40 (lv_at hl 0 rfl) ?_
          obtain ⟨hi_12, h⟩ := ck_el h
          refine va_iald hx hb hK hP 1 0 rfl rfl hi_12 dX10_canSay_42 ?_
          refine lv_iload_n hx hb dX10_canSay_43 rfl (lv_at hl 3 rfl) ?_
          refine lv_icmp_ne (tgt := 83) hx hb dX10_canSay_44 (by decide) (fun c_13 => ?_) (fun c_13 => ?_)
          · replace h := ifn_el c_13 h
            refine lv_iconst (v := (nI 0)) hx hb dX10_canSay_83 (by decide) ?_
            refine lv_istore_n (lv' := [(3, .int (nI 0)), (5, .int x5_8), (0, .ref q_this), (1, .int p1), (2, .int p2), (4, .int x4_4)]) hx hb dX10_canSay_84 rfl hl (by decide) rfl (fun ls hl => ?_)
            obtain ⟨x4_14, e_15, h⟩ := nm_el h
            refine lv_iinc (v := x4_14) (lv' := [(4, .int x4_14), (3, .int (nI 0)), (5, .int x5_8), (0, .ref q_this), (1, .int p1), (2, .int p2)]) hx hb dX10_canSay_85 hl (k := 5) rfl (by rw [← e_15]; rfl) (by decide) rfl (fun ls hl => ?_)
            refine lv_goto (tgt := 9) hx hb dX10_canSay_88 (by decide) ?_
            exact ih _ _ _ _ _ _ h hex hP hD hS (lv_sub hl [3, 4, 5, 1, 0] rfl)
          · replace h := ifp_el c_13 h
            refine lv_iload_n hx hb dX10_canSay_47 rfl (lv_at hl 2 rfl) ?_
            refine lv_aload_n hx hb dX10_canSay_48 rfl (lv_at hl 1 rfl) ?_
            refine va_get (D := D) (ci := 8) (v := .ref q_l) (C := RX10) (T := TX10) (N := 13) hx hb hts i_X10 hown hK hP 0 rfl rfl 4 (by decide) k_16 (fun _ h9 => h9) rfl dX10_canSay_49 ?_
            refine lv_iload hx hb dX10_canSay_52 (lv_at hl 0 rfl) ?_
            refine lv_iconst (v := (nI 1)) hx hb dX10_canSay_54 (by decide) ?_
            refine lv_iadd hx hb dX10_canSay_55 ?_
            obtain ⟨hi_16, h⟩ := ck_el h
            refine va_iald hx hb hK hP 1 0 rfl rfl hi_16 dX10_canSay_56 ?_
            obtain ⟨r_17, hg_18, h⟩ := bd1_el h
            refine kx_Si (As := [.int p1, .int (v_l (x5_8 + (nI 1)).toNatClampNeg)]) (rest := []) (wr := [(q_this, .inr (8, [.ref q_text, .int v_size, .int v_at, .ref q_read, .ref q_l, .ref q_stands, .ref q_kept, .int v_keptMany, .ref q_one, .ref q_two, .ref q_ways, .ref q_now, .ref q_then])), (q_l, .inl (ca 0, 336, .inl v_l))]) (w1 := []) (wn := [(q_this, .inr (8, [.ref q_text, .int v_size, .int v_at, .ref q_read, .ref q_l, .ref q_stands, .ref q_kept, .int v_keptMany, .ref q_one, .ref q_two, .ref q_ways, .ref q_now, .ref q_then])), (q_l, .inl (ca 0, 336, .inl v_l))]) ⟨hx, hb, hml, hown, hts⟩ (c_X10_has l D ca H.size p1 (v_l (x5_8 + (nI 1)).toNatClampNeg) r_17 hg_18) (va_cwS 2 hts gX10_canSay_X10_has rfl rfl rfl (by decide +kernel) ⟨(Nat.le_of_ble_eq_true rfl), (Nat.le_of_ble_eq_true rfl)⟩) hK hP hD hS hA [] [0, 1] [0, 1] rfl rfl rfl rfl (by decide) rfl rfl rfl hl.1 rfl (Nat.le_of_ble_eq_true rfl) dX10_canSay_57 ⟨Nat.zero_le _, Nat.zero_le _⟩ (fun H locs hP hD hS => ?_)
            refine lv_if_eq (tgt := 83) hx hb dX10_canSay_60 (by decide) (fun c_19 => ?_) (fun c_19 => ?_)
            · replace h := ifp_el c_19 h
              refine lv_iconst (v := (nI 0)) hx hb dX10_canSay_83 (by decide) ?_
              refine lv_istore_n (lv' := [(3, .int (nI 0)), (5, .int x5_8), (0, .ref q_this), (1, .int p1), (2, .int p2), (4, .int x4_4)]) hx hb dX10_canSay_84 rfl hl (by decide) rfl (fun ls hl => ?_)
              obtain ⟨x4_20, e_21, h⟩ := nm_el h
              refine lv_iinc (v := x4_20) (lv' := [(4, .int x4_20), (3, .int (nI 0)), (5, .int x5_8), (0, .ref q_this), (1, .int p1), (2, .int p2)]) hx hb dX10_canSay_85 hl (k := 5) rfl (by rw [← e_21]; rfl) (by decide) rfl (fun ls hl => ?_)
              refine lv_goto (tgt := 9) hx hb dX10_canSay_88 (by decide) ?_
              exact ih _ _ _ _ _ _ h hex hP hD hS (lv_sub hl [3, 4, 5, 1, 0] rfl)
            · replace h := ifn_el c_19 h
              refine lv_iload_n hx hb dX10_canSay_63 rfl (lv_at hl 2 rfl) ?_
              refine lv_aload_n hx hb dX10_canSay_64 rfl (lv_at hl 1 rfl) ?_
              refine va_get (D := D) (ci := 8) (v := .ref q_l) (C := RX10) (T := TX10) (N := 13) hx hb hts i_X10 hown hK hP 0 rfl rfl 4 (by decide) k_16 (fun _ h9 => h9) rfl dX10_canSay_65 ?_
              refine lv_iload hx hb dX10_canSay_68 (lv_at hl 0 rfl) ?_
              refine lv_iconst (v := (nI 2)) hx hb dX10_canSay_70 (by decide) ?_
              refine lv_iadd hx hb dX10_canSay_71 ?_
              obtain ⟨hi_22, h⟩ := ck_el h
              refine va_iald hx hb hK hP 1 0 rfl rfl hi_22 dX10_canSay_72 ?_
              obtain ⟨r_23, hg_24, h⟩ := bd1_el h
              refine kx_Si (As := [.int p1, .int (v_l (x5_8 + (nI 2)).toNatClampNeg)]) (rest := []) (wr := [(q_this, .inr (8, [.ref q_text, .int v_size, .int v_at, .ref q_read, .ref q_l, .ref q_stands, .ref q_kept, .int v_keptMany, .ref q_one, .ref q_two, .ref q_ways, .ref q_now, .ref q_then])), (q_l, .inl (ca 0, 336, .inl v_l))]) (w1 := []) (wn := [(q_this, .inr (8, [.ref q_text, .int v_size, .int v_at, .ref q_read, .ref q_l, .ref q_stands, .ref q_kept, .int v_keptMany, .ref q_one, .ref q_two, .ref q_ways, .ref q_now, .ref q_then])), (q_l, .inl (ca 0, 336, .inl v_l))]) ⟨hx, hb, hml, hown, hts⟩ (c_X10_has l D ca H.size p1 (v_l (x5_8 + (nI 2)).toNatClampNeg) r_23 hg_24) (va_cwS 2 hts gX10_canSay_X10_has rfl rfl rfl (by decide +kernel) ⟨(Nat.le_of_ble_eq_true rfl), (Nat.le_of_ble_eq_true rfl)⟩) hK hP hD hS hA [] [0, 1] [0, 1] rfl rfl rfl rfl (by decide) rfl rfl rfl hl.1 rfl (Nat.le_of_ble_eq_true rfl) dX10_canSay_73 ⟨Nat.zero_le _, Nat.zero_le _⟩ (fun H locs hP hD hS => ?_)
              refine lv_if_eq (tgt := 83) hx hb dX10_canSay_76 (by decide) (fun c_25 => ?_) (fun c_25 => ?_)
              · replace h := ifp_el c_25 h
                refine lv_iconst (v := (nI 0)) hx hb dX10_canSay_83 (by decide) ?_
                refine lv_istore_n (lv' := [(3, .int (nI 0)), (5, .int x5_8), (0, .ref q_this), (1, .int p1), (2, .int p2), (4, .int x4_4)]) hx hb dX10_canSay_84 rfl hl (by decide) rfl (fun ls hl => ?_)
                obtain ⟨x4_26, e_27, h⟩ := nm_el h
                refine lv_iinc (v := x4_26) (lv' := [(4, .int x4_26), (3, .int (nI 0)), (5, .int x5_8), (0, .ref q_this), (1, .int p1), (2, .int p2)]) hx hb dX10_canSay_85 hl (k := 5) rfl (by rw [← e_27]; rfl) (by decide) rfl (fun ls hl => ?_)
                refine lv_goto (tgt := 9) hx hb dX10_canSay_88 (by decide) ?_
                exact ih _ _ _ _ _ _ h hex hP hD hS (lv_sub hl [3, 4, 5, 1, 0] rfl)
              · replace h := ifn_el c_25 h
                refine lv_iconst (v := (nI 1)) hx hb dX10_canSay_79 (by decide) ?_
                refine lv_goto (tgt := 84) hx hb dX10_canSay_80 (by decide) ?_
                refine lv_istore_n (lv' := [(3, .int (nI 1)), (5, .int x5_8), (0, .ref q_this), (1, .int p1), (2, .int p2), (4, .int x4_4)]) hx hb dX10_canSay_84 rfl hl (by decide) rfl (fun ls hl => ?_)
                obtain ⟨x4_28, e_29, h⟩ := nm_el h
                refine lv_iinc (v := x4_28) (lv' := [(4, .int x4_28), (3, .int (nI 1)), (5, .int x5_8), (0, .ref q_this), (1, .int p1), (2, .int p2)]) hx hb dX10_canSay_85 hl (k := 5) rfl (by rw [← e_29]; rfl) (by decide) rfl (fun ls hl => ?_)
                refine lv_goto (tgt := 9) hx hb dX10_canSay_88 (by decide) ?_
                exact ih _ _ _ _ _ _ h hex hP hD hS (lv_sub hl [3, 4, 5, 1, 0] rfl)
  exact hlp F r_1 (nI 0) o_5 H locs ls hL hex hP hD hS (lv_sub hl [2, 3, 4, 1, 0] rfl)
def b_X10_isEnoughFor_19 (p1 : Int32) (v_l : Nat → Int32) (F : Nat) (x3_2 : Int32) (rec19 : Int32 → Int32 → Option (Int32)) (x2_6 : Int32) (x4_7 : Int32) : Option (Int32) := (if (nI 8) ≤ x4_7 then some (x2_6) else (if x2_6 = 0 then nm (x4_7 + (nI 1)) (fun x4_11 => rec19 (nI 0) x4_11) else ck 336 ((nI 330) + x3_2) (bd1 (D_X10_has (v_l ((nI 330) + x3_2).toNatClampNeg) x4_7) (fun r_14 => (if r_14 = 0 then nm (x4_7 + (nI 1)) (fun x4_17 => rec19 (nI 1) x4_17) else bd1 (D_X10_canSay F p1 x4_7 v_l) (fun r_19 => (if r_19 = 0 then nm (x4_7 + (nI 1)) (fun x4_22 => rec19 (nI 0) x4_22) else nm (x4_7 + (nI 1)) (fun x4_24 => rec19 (nI 1) x4_24))))))))
def b_X10_isEnoughFor_4 (p1 : Int32) (v_l : Nat → Int32) (F : Nat) (rec4 : Int32 → Int32 → Option (Int32)) (x2_1 : Int32) (x3_2 : Int32) : Option (Int32) := ck 336 (nI 329) ((if (v_l (nI 329).toNatClampNeg) ≤ x3_2 then some (x2_1) else bd1 (lpg (T := Int32 → Int32 → Option (Int32)) (fun _ _ => none) (b_X10_isEnoughFor_19 p1 v_l F x3_2) F x2_1 (nI 0)) (fun o_8 => nm (x3_2 + (nI 1)) (fun x3_26 => rec4 o_8 x3_26))))
def D_X10_isEnoughFor (F : Nat) (p1 : Int32) (v_l : Nat → Int32) : Option (Int32) := bd1 (lpg (T := Int32 → Int32 → Option (Int32)) (fun _ _ => none) (b_X10_isEnoughFor_4 p1 v_l F) F (nI 1) (nI 0)) (fun o_3 => cz o_3 (some (o_3)))
abbrev rm_X10_isEnoughFor : Room := { frames := 2, cells := 0, slots := 0, locals := 46 }
set_option maxHeartbeats 4000000 in
set_option maxRecDepth 100000 in
theorem c_X10_isEnoughFor (l : Launch) (D : va_G) (ca : Nat → ClassId) (F : Nat) (sz : Nat) (q_this q_text q_read q_l q_stands q_kept q_one q_two q_ways q_now q_then : Nat) (p1 : Int32) (v_size : Int32) (v_at : Int32) (v_keptMany : Int32) (v_l : Nat → Int32) (r : Int32) (h : D_X10_isEnoughFor F p1 v_l = some (r)) : Met l yX10_isEnoughFor wsX10_isEnoughFor rm_X10_isEnoughFor (va_Pc [.ref q_this, .int p1] (kPre D ca [(q_this, .inr (8, [.ref q_text, .int v_size, .int v_at, .ref q_read, .ref q_l, .ref q_stands, .ref q_kept, .int v_keptMany, .ref q_one, .ref q_two, .ref q_ways, .ref q_now, .ref q_then])), (q_l, .inl (ca 0, 336, .inl v_l))] sz)) (kQi D ca (va_A [(q_this, .inr (8, [.ref q_text, .int v_size, .int v_at, .ref q_read, .ref q_l, .ref q_stands, .ref q_kept, .int v_keptMany, .ref q_one, .ref q_two, .ref q_ways, .ref q_now, .ref q_then])), (q_l, .inl (ca 0, 336, .inl v_l))] sz) [(q_this, .inr (8, [.ref q_text, .int v_size, .int v_at, .ref q_read, .ref q_l, .ref q_stands, .ref q_kept, .int v_keptMany, .ref q_one, .ref q_two, .ref q_ways, .ref q_now, .ref q_then])), (q_l, .inl (ca 0, 336, .inl v_l))] r) 0 0 (va_A [(q_this, .inr (8, [.ref q_text, .int v_size, .int v_at, .ref q_read, .ref q_l, .ref q_stands, .ref q_kept, .int v_keptMany, .ref q_one, .ref q_two, .ref q_ways, .ref q_now, .ref q_then])), (q_l, .inl (ca 0, 336, .inl v_l))] sz) := by
  refine Met.ofW (cc := cX10_isEnoughFor) (maxL := 5) (ret := (some .boolean)) (by decide +kernel) rfl ?_
  intro p e s m args below meth c s₁ B hml hv
  obtain ⟨rfl, hsz, hP, hK, hD0⟩ := hv
  have hx := B.exec
  have hb := B.bytes
  have hr := B.returns
  have hts := atoms_spec (ws := wsX10_isEnoughFor) B.pre
  have hown : s.vm.findClass RX10 = some m.cls := findClass_of_methodNamed B.named
  have hlocks := B.notSynchronized
  clear B
  subst hsz
  have hD := hD0.self (sz := s.heap.size)
  generalize hAe : va_A [(q_this, .inr (8, [.ref q_text, .int v_size, .int v_at, .ref q_read, .ref q_l, .ref q_stands, .ref q_kept, .int v_keptMany, .ref q_one, .ref q_two, .ref q_ways, .ref q_now, .ref q_then])), (q_l, .inl (ca 0, 336, .inl v_l))] s.heap.size = A at hD ⊢
  have hA : ∀ q : Nat, s.heap.size ≤ q → A q := fun q h => by rw [← hAe]; exact Or.inr h
  have hS : va_S A s.heap s.heap [] := va_S.rf
  have hl := lv_entry ([.ref q_this, .int p1]) (n := 5) (Nat.le_of_ble_eq_true rfl)
  rw [lg_entry_eq]
  generalize (lg_sl ([.ref q_this, .int p1]) ++ List.replicate (5 - (lg_sl ([.ref q_this, .int p1])).length) Slot.unset).toArray = ls at hl ⊢
  have hl : lv_has ls 5 [(0, .ref q_this), (1, .int p1)] := hl
  generalize ([.ref q_this, .int p1] : List Value).toArray = args at hts ⊢
  generalize hQe : MQ below (kQi D ca (A) [(q_this, .inr (8, [.ref q_text, .int v_size, .int v_at, .ref q_read, .ref q_l, .ref q_stands, .ref q_kept, .int v_keptMany, .ref q_one, .ref q_two, .ref q_ways, .ref q_now, .ref q_then])), (q_l, .inl (ca 0, 336, .inl v_l))] r) args s 0 0 A = Q
  have i_X10 : ∀ w ∈ u_ws RX10 TX10 13, w ∈ wsX10_isEnoughFor := by decide +kernel
  have k_16 := hts (.fieldLink RX10 16 "TradeWordsModel" "l" "[I") (by decide +kernel)
  rw [D_X10_isEnoughFor] at h
  refine lv_iconst (v := (nI 1)) hx hb dX10_isEnoughFor_0 (by decide) ?_
  refine lv_istore_n (lv' := [(2, .int (nI 1)), (0, .ref q_this), (1, .int p1)]) hx hb dX10_isEnoughFor_1 rfl hl (by decide) rfl (fun ls hl => ?_)
  refine lv_iconst (v := (nI 0)) hx hb dX10_isEnoughFor_2 (by decide) ?_
  refine lv_istore_n (lv' := [(3, .int (nI 0)), (2, .int (nI 1)), (0, .ref q_this), (1, .int p1)]) hx hb dX10_isEnoughFor_3 rfl hl (by decide) rfl (fun ls hl => ?_)
  obtain ⟨o_3, hL, h⟩ := bd1_el h
  have hex : ∀ (H : Heap) (locs : List Loc) (ls : Array Slot), va_P D vwCl [(q_this, .inr (8, [.ref q_text, .int v_size, .int v_at, .ref q_read, .ref q_l, .ref q_stands, .ref q_kept, .int v_keptMany, .ref q_one, .ref q_two, .ref q_ways, .ref q_now, .ref q_then])), (q_l, .inl (ca 0, 336, .inl v_l))] H → va_D A [(q_this, .inr (8, [.ref q_text, .int v_size, .int v_at, .ref q_read, .ref q_l, .ref q_stands, .ref q_kept, .int v_keptMany, .ref q_one, .ref q_two, .ref q_ways, .ref q_now, .ref q_then])), (q_l, .inl (ca 0, 336, .inl v_l))] → va_S A s.heap H locs → lv_has ls 5 [(2, .int o_3)] → W p l e (headSpec wsX10_isEnoughFor rm_X10_isEnoughFor).room s m args below meth c H locs 0 0 Q (F0 m 76 ls []) := by
    intro H locs ls hP hD hS hl
    refine lv_iload_n hx hb dX10_isEnoughFor_76 rfl (lv_at hl 0 rfl) ?_
    obtain ⟨hz, h⟩ := cz_el h
    cases h
    rw [← hQe]
    exact W.zret hx hb hr hz (fun t ht hW => ⟨⟨_, (), rfl, rfl, by rw [ht]; exact hP, va_K.moved hW.alike hK, hD⟩, hS.F ht⟩) hS.2.2 dX10_isEnoughFor_77
  have hlp : ∀ (n : Nat) (x2_1 : Int32) (x3_2 : Int32) (o_3 : Int32) (H : Heap) (locs : List Loc) (ls : Array Slot), lpg (T := Int32 → Int32 → Option (Int32)) (fun _ _ => none) (b_X10_isEnoughFor_4 p1 v_l F) n x2_1 x3_2 = some (o_3) → (∀ (H : Heap) (locs : List Loc) (ls : Array Slot), va_P D vwCl [(q_this, .inr (8, [.ref q_text, .int v_size, .int v_at, .ref q_read, .ref q_l, .ref q_stands, .ref q_kept, .int v_keptMany, .ref q_one, .ref q_two, .ref q_ways, .ref q_now, .ref q_then])), (q_l, .inl (ca 0, 336, .inl v_l))] H → va_D A [(q_this, .inr (8, [.ref q_text, .int v_size, .int v_at, .ref q_read, .ref q_l, .ref q_stands, .ref q_kept, .int v_keptMany, .ref q_one, .ref q_two, .ref q_ways, .ref q_now, .ref q_then])), (q_l, .inl (ca 0, 336, .inl v_l))] → va_S A s.heap H locs → lv_has ls 5 [(2, .int o_3)] → W p l e (headSpec wsX10_isEnoughFor rm_X10_isEnoughFor).room s m args below meth c H locs 0 0 Q (F0 m 76 ls [])) → va_P D vwCl [(q_this, .inr (8, [.ref q_text, .int v_size, .int v_at, .ref q_read, .ref q_l, .ref q_stands, .ref q_kept, .int v_keptMany, .ref q_one, .ref q_two, .ref q_ways, .ref q_now, .ref q_then])), (q_l, .inl (ca 0, 336, .inl v_l))] H → va_D A [(q_this, .inr (8, [.ref q_text, .int v_size, .int v_at, .ref q_read, .ref q_l, .ref q_stands, .ref q_kept, .int v_keptMany, .ref q_one, .ref q_two, .ref q_ways, .ref q_now, .ref q_then])), (q_l, .inl (ca 0, 336, .inl v_l))] → va_S A s.heap H locs → lv_has ls 5 [(0, .ref q_this), (1, .int p1), (2, .int x2_1), (3, .int x3_2)] → W p l e (headSpec wsX10_isEnoughFor rm_X10_isEnoughFor).room s m args below meth c H locs 0 0 Q (F0 m 4 ls []) := by
    intro n
    induction n with
    | zero => intro x2_1 x3_2 o_3 H locs ls h; have h : (none : Option (Int32)) = some _ := h; cases h
    | succ n ih =>
      intro x2_1 x3_2 o_3 H locs ls h hex hP hD hS hl
      rw [lpg_succ, b_X10_isEnoughFor_4] at h
      refine lv_iload_n hx hb dX10_isEnoughFor_4 rfl (lv_at hl 3 rfl) ?_
      refine lv_aload_n hx hb dX10_isEnoughFor_5 rfl (lv_at hl 0 rfl) ?_
      refine va_get (D := D) (ci := 8) (v := .ref q_l) (C := RX10) (T := TX10) (N := 13) hx hb hts i_X10 hown hK hP 0 rfl rfl 4 (by decide) k_16 (fun _ h9 => h9) rfl dX10_isEnoughFor_6 ?_
      refine lv_sipush (v := (nI 329)) hx hb dX10_isEnoughFor_9 (by decide) ?_
      obtain ⟨hi_4, h⟩ := ck_el h
      refine va_iald hx hb hK hP 1 0 rfl rfl hi_4 dX10_isEnoughFor_12 ?_
      refine lv_icmp_ge (tgt := 76) hx hb dX10_isEnoughFor_13 (by decide) (fun c_5 => ?_) (fun c_5 => ?_)
      · replace h := ifp_el c_5 h
        cases h
        exact hex _ _ _ hP hD hS (lv_sub hl [2] rfl)
      · replace h := ifn_el c_5 h
        refine lv_iconst (v := (nI 0)) hx hb dX10_isEnoughFor_16 (by decide) ?_
        refine lv_istore (lv' := [(4, .int (nI 0)), (0, .ref q_this), (1, .int p1), (2, .int x2_1), (3, .int x3_2)]) hx hb dX10_isEnoughFor_17 hl (by decide) rfl (fun ls hl => ?_)
        obtain ⟨o_8, hL, h⟩ := bd1_el h
        have hex : ∀ (H : Heap) (locs : List Loc) (ls : Array Slot), va_P D vwCl [(q_this, .inr (8, [.ref q_text, .int v_size, .int v_at, .ref q_read, .ref q_l, .ref q_stands, .ref q_kept, .int v_keptMany, .ref q_one, .ref q_two, .ref q_ways, .ref q_now, .ref q_then])), (q_l, .inl (ca 0, 336, .inl v_l))] H → va_D A [(q_this, .inr (8, [.ref q_text, .int v_size, .int v_at, .ref q_read, .ref q_l, .ref q_stands, .ref q_kept, .int v_keptMany, .ref q_one, .ref q_two, .ref q_ways, .ref q_now, .ref q_then])), (q_l, .inl (ca 0, 336, .inl v_l))] → va_S A s.heap H locs → lv_has ls 5 [(0, .ref q_this), (1, .int p1), (2, .int o_8), (3, .int x3_2)] → W p l e (headSpec wsX10_isEnoughFor rm_X10_isEnoughFor).room s m args below meth c H locs 0 0 Q (F0 m 70 ls []) := by
          intro H locs ls hP hD hS hl
          obtain ⟨x3_26, e_27, h⟩ := nm_el h
          refine lv_iinc (v := x3_26) (lv' := [(3, .int x3_26), (0, .ref q_this), (1, .int p1), (2, .int o_8)]) hx hb dX10_isEnoughFor_70 hl (k := 3) rfl (by rw [← e_27]; rfl) (by decide) rfl (fun ls hl => ?_)
          refine lv_goto (tgt := 4) hx hb dX10_isEnoughFor_73 (by decide) ?_
          exact ih _ _ _ _ _ _ h hex hP hD hS (lv_sub hl [1, 2, 3, 0] rfl)
        have hlp : ∀ (n : Nat) (x2_6 : Int32) (x4_7 : Int32) (o_8 : Int32) (H : Heap) (locs : List Loc) (ls : Array Slot), lpg (T := Int32 → Int32 → Option (Int32)) (fun _ _ => none) (b_X10_isEnoughFor_19 p1 v_l F x3_2) n x2_6 x4_7 = some (o_8) → (∀ (H : Heap) (locs : List Loc) (ls : Array Slot), va_P D vwCl [(q_this, .inr (8, [.ref q_text, .int v_size, .int v_at, .ref q_read, .ref q_l, .ref q_stands, .ref q_kept, .int v_keptMany, .ref q_one, .ref q_two, .ref q_ways, .ref q_now, .ref q_then])), (q_l, .inl (ca 0, 336, .inl v_l))] H → va_D A [(q_this, .inr (8, [.ref q_text, .int v_size, .int v_at, .ref q_read, .ref q_l, .ref q_stands, .ref q_kept, .int v_keptMany, .ref q_one, .ref q_two, .ref q_ways, .ref q_now, .ref q_then])), (q_l, .inl (ca 0, 336, .inl v_l))] → va_S A s.heap H locs → lv_has ls 5 [(0, .ref q_this), (1, .int p1), (2, .int o_8), (3, .int x3_2)] → W p l e (headSpec wsX10_isEnoughFor rm_X10_isEnoughFor).room s m args below meth c H locs 0 0 Q (F0 m 70 ls [])) → va_P D vwCl [(q_this, .inr (8, [.ref q_text, .int v_size, .int v_at, .ref q_read, .ref q_l, .ref q_stands, .ref q_kept, .int v_keptMany, .ref q_one, .ref q_two, .ref q_ways, .ref q_now, .ref q_then])), (q_l, .inl (ca 0, 336, .inl v_l))] H → va_D A [(q_this, .inr (8, [.ref q_text, .int v_size, .int v_at, .ref q_read, .ref q_l, .ref q_stands, .ref q_kept, .int v_keptMany, .ref q_one, .ref q_two, .ref q_ways, .ref q_now, .ref q_then])), (q_l, .inl (ca 0, 336, .inl v_l))] → va_S A s.heap H locs → lv_has ls 5 [(0, .ref q_this), (1, .int p1), (2, .int x2_6), (3, .int x3_2), (4, .int x4_7)] → W p l e (headSpec wsX10_isEnoughFor rm_X10_isEnoughFor).room s m args below meth c H locs 0 0 Q (F0 m 19 ls []) := by
          intro n
          induction n with
          | zero => intro x2_6 x4_7 o_8 H locs ls h; have h : (none : Option (Int32)) = some _ := h; cases h
          | succ n ih =>
            intro x2_6 x4_7 o_8 H locs ls h hex hP hD hS hl
            rw [lpg_succ, b_X10_isEnoughFor_19] at h
            refine lv_iload hx hb dX10_isEnoughFor_19 (lv_at hl 4 rfl) ?_
            refine lv_bipush (v := (nI 8)) hx hb dX10_isEnoughFor_21 (by decide) ?_
            refine lv_icmp_ge (tgt := 70) hx hb dX10_isEnoughFor_23 (by decide) (fun c_9 => ?_) (fun c_9 => ?_)
            · replace h := ifp_el c_9 h
              cases h
              exact hex _ _ _ hP hD hS (lv_sub hl [0, 1, 2, 3] rfl)
            · replace h := ifn_el c_9 h
              refine lv_iload_n hx hb dX10_isEnoughFor_26 rfl (lv_at hl 2 rfl) ?_
              refine lv_if_eq (tgt := 62) hx hb dX10_isEnoughFor_27 (by decide) (fun c_10 => ?_) (fun c_10 => ?_)
              · replace h := ifp_el c_10 h
                refine lv_iconst (v := (nI 0)) hx hb dX10_isEnoughFor_62 (by decide) ?_
                refine lv_istore_n (lv' := [(2, .int (nI 0)), (0, .ref q_this), (1, .int p1), (3, .int x3_2), (4, .int x4_7)]) hx hb dX10_isEnoughFor_63 rfl hl (by decide) rfl (fun ls hl => ?_)
                obtain ⟨x4_11, e_12, h⟩ := nm_el h
                refine lv_iinc (v := x4_11) (lv' := [(4, .int x4_11), (2, .int (nI 0)), (0, .ref q_this), (1, .int p1), (3, .int x3_2)]) hx hb dX10_isEnoughFor_64 hl (k := 4) rfl (by rw [← e_12]; rfl) (by decide) rfl (fun ls hl => ?_)
                refine lv_goto (tgt := 19) hx hb dX10_isEnoughFor_67 (by decide) ?_
                exact ih _ _ _ _ _ _ h hex hP hD hS (lv_sub hl [2, 3, 1, 4, 0] rfl)
              · replace h := ifn_el c_10 h
                refine lv_aload_n hx hb dX10_isEnoughFor_30 rfl (lv_at hl 0 rfl) ?_
                refine va_get (D := D) (ci := 8) (v := .ref q_l) (C := RX10) (T := TX10) (N := 13) hx hb hts i_X10 hown hK hP 0 rfl rfl 4 (by decide) k_16 (fun _ h9 => h9) rfl dX10_isEnoughFor_31 ?_
                refine lv_sipush (v := (nI 330)) hx hb dX10_isEnoughFor_34 (by decide) ?_
                refine lv_iload_n hx hb dX10_isEnoughFor_37 rfl (lv_at hl 3 rfl) ?_
                refine lv_iadd hx hb dX10_isEnoughFor_38 ?_
                obtain ⟨hi_13, h⟩ := ck_el h
                refine va_iald hx hb hK hP 1 0 rfl rfl hi_13 dX10_isEnoughFor_39 ?_
                refine lv_iload hx hb dX10_isEnoughFor_40 (lv_at hl 4 rfl) ?_
                obtain ⟨r_14, hg_15, h⟩ := bd1_el h
                refine kx_Si (As := [.int (v_l ((nI 330) + x3_2).toNatClampNeg), .int x4_7]) (rest := []) (wr := [(q_this, .inr (8, [.ref q_text, .int v_size, .int v_at, .ref q_read, .ref q_l, .ref q_stands, .ref q_kept, .int v_keptMany, .ref q_one, .ref q_two, .ref q_ways, .ref q_now, .ref q_then])), (q_l, .inl (ca 0, 336, .inl v_l))]) (w1 := []) (wn := [(q_this, .inr (8, [.ref q_text, .int v_size, .int v_at, .ref q_read, .ref q_l, .ref q_stands, .ref q_kept, .int v_keptMany, .ref q_one, .ref q_two, .ref q_ways, .ref q_now, .ref q_then])), (q_l, .inl (ca 0, 336, .inl v_l))]) ⟨hx, hb, hml, hown, hts⟩ (c_X10_has l D ca H.size (v_l ((nI 330) + x3_2).toNatClampNeg) x4_7 r_14 hg_15) (va_cwS 2 hts gX10_isEnoughFor_X10_has rfl rfl rfl (by decide +kernel) ⟨(Nat.le_of_ble_eq_true rfl), (Nat.le_of_ble_eq_true rfl)⟩) hK hP hD hS hA [] [0, 1] [0, 1] rfl rfl rfl rfl (by decide) rfl rfl rfl hl.1 rfl (Nat.le_of_ble_eq_true rfl) dX10_isEnoughFor_42 ⟨Nat.zero_le _, Nat.zero_le _⟩ (fun H locs hP hD hS => ?_)
                refine lv_if_eq (tgt := 58) hx hb dX10_isEnoughFor_45 (by decide) (fun c_16 => ?_) (fun c_16 => ?_)
                · replace h := ifp_el c_16 h
                  refine lv_iconst (v := (nI 1)) hx hb dX10_isEnoughFor_58 (by decide) ?_
                  refine lv_goto (tgt := 63) hx hb dX10_isEnoughFor_59 (by decide) ?_
                  refine lv_istore_n (lv' := [(2, .int (nI 1)), (0, .ref q_this), (1, .int p1), (3, .int x3_2), (4, .int x4_7)]) hx hb dX10_isEnoughFor_63 rfl hl (by decide) rfl (fun ls hl => ?_)
                  obtain ⟨x4_17, e_18, h⟩ := nm_el h
                  refine lv_iinc (v := x4_17) (lv' := [(4, .int x4_17), (2, .int (nI 1)), (0, .ref q_this), (1, .int p1), (3, .int x3_2)]) hx hb dX10_isEnoughFor_64 hl (k := 4) rfl (by rw [← e_18]; rfl) (by decide) rfl (fun ls hl => ?_)
                  refine lv_goto (tgt := 19) hx hb dX10_isEnoughFor_67 (by decide) ?_
                  exact ih _ _ _ _ _ _ h hex hP hD hS (lv_sub hl [2, 3, 1, 4, 0] rfl)
                · replace h := ifn_el c_16 h
                  refine lv_aload_n hx hb dX10_isEnoughFor_48 rfl (lv_at hl 0 rfl) ?_
                  refine lv_iload_n hx hb dX10_isEnoughFor_49 rfl (lv_at hl 1 rfl) ?_
                  refine lv_iload hx hb dX10_isEnoughFor_50 (lv_at hl 4 rfl) ?_
                  obtain ⟨r_19, hg_20, h⟩ := bd1_el h
                  refine kx_Vi (As := [.int p1, .int x4_7]) (rest := []) (wr := []) (w1 := [(q_this, .inr (8, [.ref q_text, .int v_size, .int v_at, .ref q_read, .ref q_l, .ref q_stands, .ref q_kept, .int v_keptMany, .ref q_one, .ref q_two, .ref q_ways, .ref q_now, .ref q_then])), (q_l, .inl (ca 0, 336, .inl v_l))]) (wn := [(q_this, .inr (8, [.ref q_text, .int v_size, .int v_at, .ref q_read, .ref q_l, .ref q_stands, .ref q_kept, .int v_keptMany, .ref q_one, .ref q_two, .ref q_ways, .ref q_now, .ref q_then])), (q_l, .inl (ca 0, 336, .inl v_l))]) ⟨hx, hb, hml, hown, hts⟩ (c_X10_canSay l D ca F H.size q_this q_text q_read q_l q_stands q_kept q_one q_two q_ways q_now q_then p1 x4_7 v_size v_at v_keptMany v_l r_19 hg_20) (cwV 2 hts gX10_isEnoughFor_X10_canSay rfl rfl rfl (by decide +kernel) ⟨(Nat.le_of_ble_eq_true rfl), (Nat.le_of_ble_eq_true rfl)⟩) hK hP hD hS hA (ci := 8) (q0 := 0) rfl rfl [0, 1] [] [0, 1] rfl rfl rfl rfl (by decide) rfl rfl rfl hl.1 rfl (Nat.le_of_ble_eq_true rfl) dX10_isEnoughFor_52 ⟨Nat.zero_le _, Nat.zero_le _⟩ (fun H locs hP hD hS => ?_)
                  refine lv_if_eq (tgt := 62) hx hb dX10_isEnoughFor_55 (by decide) (fun c_21 => ?_) (fun c_21 => ?_)
                  · replace h := ifp_el c_21 h
                    refine lv_iconst (v := (nI 0)) hx hb dX10_isEnoughFor_62 (by decide) ?_
                    refine lv_istore_n (lv' := [(2, .int (nI 0)), (0, .ref q_this), (1, .int p1), (3, .int x3_2), (4, .int x4_7)]) hx hb dX10_isEnoughFor_63 rfl hl (by decide) rfl (fun ls hl => ?_)
                    obtain ⟨x4_22, e_23, h⟩ := nm_el h
                    refine lv_iinc (v := x4_22) (lv' := [(4, .int x4_22), (2, .int (nI 0)), (0, .ref q_this), (1, .int p1), (3, .int x3_2)]) hx hb dX10_isEnoughFor_64 hl (k := 4) rfl (by rw [← e_23]; rfl) (by decide) rfl (fun ls hl => ?_)
                    refine lv_goto (tgt := 19) hx hb dX10_isEnoughFor_67 (by decide) ?_
                    exact ih _ _ _ _ _ _ h hex hP hD hS (lv_sub hl [2, 3, 1, 4, 0] rfl)
                  · replace h := ifn_el c_21 h
                    refine lv_iconst (v := (nI 1)) hx hb dX10_isEnoughFor_58 (by decide) ?_
                    refine lv_goto (tgt := 63) hx hb dX10_isEnoughFor_59 (by decide) ?_
                    refine lv_istore_n (lv' := [(2, .int (nI 1)), (0, .ref q_this), (1, .int p1), (3, .int x3_2), (4, .int x4_7)]) hx hb dX10_isEnoughFor_63 rfl hl (by decide) rfl (fun ls hl => ?_)
                    obtain ⟨x4_24, e_25, h⟩ := nm_el h
                    refine lv_iinc (v := x4_24) (lv' := [(4, .int x4_24), (2, .int (nI 1)), (0, .ref q_this), (1, .int p1), (3, .int x3_2)]) hx hb dX10_isEnoughFor_64 hl (k := 4) rfl (by rw [← e_25]; rfl) (by decide) rfl (fun ls hl => ?_)
                    refine lv_goto (tgt := 19) hx hb dX10_isEnoughFor_67 (by decide) ?_
                    exact ih _ _ _ _ _ _ h hex hP hD hS (lv_sub hl [2, 3, 1, 4, 0] rfl)
        exact hlp F x2_1 (nI 0) o_8 H locs ls hL hex hP hD hS (lv_sub hl [1, 2, 3, 4, 0] rfl)
  exact hlp F (nI 1) (nI 0) o_3 s.heap [] ls hL hex hP hD hS (lv_sub hl [2, 3, 1, 0] rfl)
def b_X10_fewest_20 (v_l : Nat → Int32) (F : Nat) (rec20 : Int32 → Int32 → Option (Int32)) (x2_4 : Int32) (x3_5 : Int32) : Option (Int32) := (if x3_5 < 0 then some (x2_4) else bd1 (D_X10_ones F x3_5) (fun r_8 => bd1 (D_X10_ones F x2_4) (fun r_10 => (if r_10 < r_8 then nm (x3_5 + (-1 : Int32)) (fun x3_13 => rec20 x2_4 x3_13) else bd1 (D_X10_isEnoughFor F x3_5 v_l) (fun r_15 => (if r_15 = 0 then nm (x3_5 + (-1 : Int32)) (fun x3_18 => rec20 x2_4 x3_18) else nm (x3_5 + (-1 : Int32)) (fun x3_20 => rec20 x3_5 x3_20)))))))
def D_X10_fewest (F : Nat) (p1 : Int32) (v_l : Nat → Int32) : Option (Int32) := bd1 (D_X10_in p1.toInt64 (lN 0) (lN 1)) (fun r_1 => (if r_1 = 0 then some ((-1 : Int32)) else bd1 (lpg (T := Int32 → Int32 → Option (Int32)) (fun _ _ => none) (b_X10_fewest_20 v_l F) F (nI 255) (nI 255)) (fun o_6 => (if p1 = 0 then some (o_6) else bd1 (D_X10_ones F o_6) (fun r_23 => some (r_23))))))
abbrev rm_X10_fewest : Room := { frames := 3, cells := 0, slots := 0, locals := 70 }
set_option maxHeartbeats 4000000 in
set_option maxRecDepth 100000 in
theorem c_X10_fewest (l : Launch) (D : va_G) (ca : Nat → ClassId) (F : Nat) (sz : Nat) (q_this q_text q_read q_l q_stands q_kept q_one q_two q_ways q_now q_then : Nat) (p1 : Int32) (v_size : Int32) (v_at : Int32) (v_keptMany : Int32) (v_l : Nat → Int32) (r : Int32) (h : D_X10_fewest F p1 v_l = some (r)) : Met l yX10_fewest wsX10_fewest rm_X10_fewest (va_Pc [.ref q_this, .int p1] (kPre D ca [(q_this, .inr (8, [.ref q_text, .int v_size, .int v_at, .ref q_read, .ref q_l, .ref q_stands, .ref q_kept, .int v_keptMany, .ref q_one, .ref q_two, .ref q_ways, .ref q_now, .ref q_then])), (q_l, .inl (ca 0, 336, .inl v_l))] sz)) (kQi D ca (va_A [(q_this, .inr (8, [.ref q_text, .int v_size, .int v_at, .ref q_read, .ref q_l, .ref q_stands, .ref q_kept, .int v_keptMany, .ref q_one, .ref q_two, .ref q_ways, .ref q_now, .ref q_then])), (q_l, .inl (ca 0, 336, .inl v_l))] sz) [(q_this, .inr (8, [.ref q_text, .int v_size, .int v_at, .ref q_read, .ref q_l, .ref q_stands, .ref q_kept, .int v_keptMany, .ref q_one, .ref q_two, .ref q_ways, .ref q_now, .ref q_then])), (q_l, .inl (ca 0, 336, .inl v_l))] r) 0 0 (va_A [(q_this, .inr (8, [.ref q_text, .int v_size, .int v_at, .ref q_read, .ref q_l, .ref q_stands, .ref q_kept, .int v_keptMany, .ref q_one, .ref q_two, .ref q_ways, .ref q_now, .ref q_then])), (q_l, .inl (ca 0, 336, .inl v_l))] sz) := by
  refine Met.ofW (cc := cX10_fewest) (maxL := 4) (ret := (some .int)) (by decide +kernel) rfl ?_
  intro p e s m args below meth c s₁ B hml hv
  obtain ⟨rfl, hsz, hP, hK, hD0⟩ := hv
  have hx := B.exec
  have hb := B.bytes
  have hr := B.returns
  have hts := atoms_spec (ws := wsX10_fewest) B.pre
  have hown : s.vm.findClass RX10 = some m.cls := findClass_of_methodNamed B.named
  have hlocks := B.notSynchronized
  clear B
  subst hsz
  have hD := hD0.self (sz := s.heap.size)
  generalize hAe : va_A [(q_this, .inr (8, [.ref q_text, .int v_size, .int v_at, .ref q_read, .ref q_l, .ref q_stands, .ref q_kept, .int v_keptMany, .ref q_one, .ref q_two, .ref q_ways, .ref q_now, .ref q_then])), (q_l, .inl (ca 0, 336, .inl v_l))] s.heap.size = A at hD ⊢
  have hA : ∀ q : Nat, s.heap.size ≤ q → A q := fun q h => by rw [← hAe]; exact Or.inr h
  have hS : va_S A s.heap s.heap [] := va_S.rf
  have hl := lv_entry ([.ref q_this, .int p1]) (n := 4) (Nat.le_of_ble_eq_true rfl)
  rw [lg_entry_eq]
  generalize (lg_sl ([.ref q_this, .int p1]) ++ List.replicate (4 - (lg_sl ([.ref q_this, .int p1])).length) Slot.unset).toArray = ls at hl ⊢
  have hl : lv_has ls 4 [(0, .ref q_this), (1, .int p1)] := hl
  generalize ([.ref q_this, .int p1] : List Value).toArray = args at hts ⊢
  generalize hQe : MQ below (kQi D ca (A) [(q_this, .inr (8, [.ref q_text, .int v_size, .int v_at, .ref q_read, .ref q_l, .ref q_stands, .ref q_kept, .int v_keptMany, .ref q_one, .ref q_two, .ref q_ways, .ref q_now, .ref q_then])), (q_l, .inl (ca 0, 336, .inl v_l))] r) args s 0 0 A = Q
  rw [D_X10_fewest] at h
  refine lv_iload_n hx hb dX10_fewest_0 rfl (lv_at hl 1 rfl) ?_
  refine lv_i2l hx hb dX10_fewest_1 rfl ?_
  refine lv_lconst (v := (lN 0)) hx hb dX10_fewest_2 (by decide) ?_
  refine lv_lconst (v := (lN 1)) hx hb dX10_fewest_3 (by decide) ?_
  obtain ⟨r_1, hg_2, h⟩ := bd1_el h
  refine kx_Si (As := [.long p1.toInt64, .long (lN 0), .long (lN 1)]) (rest := []) (wr := [(q_this, .inr (8, [.ref q_text, .int v_size, .int v_at, .ref q_read, .ref q_l, .ref q_stands, .ref q_kept, .int v_keptMany, .ref q_one, .ref q_two, .ref q_ways, .ref q_now, .ref q_then])), (q_l, .inl (ca 0, 336, .inl v_l))]) (w1 := []) (wn := [(q_this, .inr (8, [.ref q_text, .int v_size, .int v_at, .ref q_read, .ref q_l, .ref q_stands, .ref q_kept, .int v_keptMany, .ref q_one, .ref q_two, .ref q_ways, .ref q_now, .ref q_then])), (q_l, .inl (ca 0, 336, .inl v_l))]) ⟨hx, hb, hml, hown, hts⟩ (c_X10_in l D ca s.heap.size p1.toInt64 (lN 0) (lN 1) r_1 hg_2) (va_cwS 3 hts gX10_fewest_X10_in rfl rfl rfl (by decide +kernel) ⟨(Nat.le_of_ble_eq_true rfl), (Nat.le_of_ble_eq_true rfl)⟩) hK hP hD hS hA [] [0, 1] [0, 1] rfl rfl rfl rfl (by decide) rfl rfl rfl hl.1 rfl (Nat.le_of_ble_eq_true rfl) dX10_fewest_4 ⟨Nat.zero_le _, Nat.zero_le _⟩ (fun H locs hP hD hS => ?_)
  refine lv_if_ne (tgt := 12) hx hb dX10_fewest_7 (by decide) (fun c_3 => ?_) (fun c_3 => ?_)
  · replace h := ifn_el c_3 h
    refine lv_sipush (v := (nI 255)) hx hb dX10_fewest_12 (by decide) ?_
    refine lv_istore_n (lv' := [(2, .int (nI 255)), (0, .ref q_this), (1, .int p1)]) hx hb dX10_fewest_15 rfl hl (by decide) rfl (fun ls hl => ?_)
    refine lv_sipush (v := (nI 255)) hx hb dX10_fewest_16 (by decide) ?_
    refine lv_istore_n (lv' := [(3, .int (nI 255)), (2, .int (nI 255)), (0, .ref q_this), (1, .int p1)]) hx hb dX10_fewest_19 rfl hl (by decide) rfl (fun ls hl => ?_)
    obtain ⟨o_6, hL, h⟩ := bd1_el h
    have hex : ∀ (H : Heap) (locs : List Loc) (ls : Array Slot), va_P D vwCl [(q_this, .inr (8, [.ref q_text, .int v_size, .int v_at, .ref q_read, .ref q_l, .ref q_stands, .ref q_kept, .int v_keptMany, .ref q_one, .ref q_two, .ref q_ways, .ref q_now, .ref q_then])), (q_l, .inl (ca 0, 336, .inl v_l))] H → va_D A [(q_this, .inr (8, [.ref q_text, .int v_size, .int v_at, .ref q_read, .ref q_l, .ref q_stands, .ref q_kept, .int v_keptMany, .ref q_one, .ref q_two, .ref q_ways, .ref q_now, .ref q_then])), (q_l, .inl (ca 0, 336, .inl v_l))] → va_S A s.heap H locs → lv_has ls 4 [(1, .int p1), (2, .int o_6)] → W p l e (headSpec wsX10_fewest rm_X10_fewest).room s m args below meth c H locs 0 0 Q (F0 m 55 ls []) := by
      intro H locs ls hP hD hS hl
      refine lv_iload_n hx hb dX10_fewest_55 rfl (lv_at hl 0 rfl) ?_
      refine lv_if_ne (tgt := 63) hx hb dX10_fewest_56 (by decide) (fun c_22 => ?_) (fun c_22 => ?_)
      · replace h := ifn_el c_22 h
        refine lv_iload_n hx hb dX10_fewest_63 rfl (lv_at hl 1 rfl) ?_
        obtain ⟨r_23, hg_24, h⟩ := bd1_el h
        refine kx_Si (As := [.int o_6]) (rest := []) (wr := [(q_this, .inr (8, [.ref q_text, .int v_size, .int v_at, .ref q_read, .ref q_l, .ref q_stands, .ref q_kept, .int v_keptMany, .ref q_one, .ref q_two, .ref q_ways, .ref q_now, .ref q_then])), (q_l, .inl (ca 0, 336, .inl v_l))]) (w1 := []) (wn := [(q_this, .inr (8, [.ref q_text, .int v_size, .int v_at, .ref q_read, .ref q_l, .ref q_stands, .ref q_kept, .int v_keptMany, .ref q_one, .ref q_two, .ref q_ways, .ref q_now, .ref q_then])), (q_l, .inl (ca 0, 336, .inl v_l))]) ⟨hx, hb, hml, hown, hts⟩ (c_X10_ones l D ca F H.size o_6 r_23 hg_24) (va_cwS 1 hts gX10_fewest_X10_ones rfl rfl rfl (by decide +kernel) ⟨(Nat.le_of_ble_eq_true rfl), (Nat.le_of_ble_eq_true rfl)⟩) hK hP hD hS hA [] [0, 1] [0, 1] rfl rfl rfl rfl (by decide) rfl rfl rfl hl.1 rfl (Nat.le_of_ble_eq_true rfl) dX10_fewest_64 ⟨Nat.zero_le _, Nat.zero_le _⟩ (fun H locs hP hD hS => ?_)
        cases h
        rw [← hQe]
        exact W.iret hx hb hr (fun t ht hW => ⟨⟨_, (), rfl, rfl, by rw [ht]; exact hP, va_K.moved hW.alike hK, hD⟩, hS.F ht⟩) hS.2.2 dX10_fewest_67
      · replace h := ifp_el c_22 h
        refine lv_iload_n hx hb dX10_fewest_59 rfl (lv_at hl 1 rfl) ?_
        refine lv_goto (tgt := 67) hx hb dX10_fewest_60 (by decide) ?_
        cases h
        rw [← hQe]
        exact W.iret hx hb hr (fun t ht hW => ⟨⟨_, (), rfl, rfl, by rw [ht]; exact hP, va_K.moved hW.alike hK, hD⟩, hS.F ht⟩) hS.2.2 dX10_fewest_67
    have hlp : ∀ (n : Nat) (x2_4 : Int32) (x3_5 : Int32) (o_6 : Int32) (H : Heap) (locs : List Loc) (ls : Array Slot), lpg (T := Int32 → Int32 → Option (Int32)) (fun _ _ => none) (b_X10_fewest_20 v_l F) n x2_4 x3_5 = some (o_6) → (∀ (H : Heap) (locs : List Loc) (ls : Array Slot), va_P D vwCl [(q_this, .inr (8, [.ref q_text, .int v_size, .int v_at, .ref q_read, .ref q_l, .ref q_stands, .ref q_kept, .int v_keptMany, .ref q_one, .ref q_two, .ref q_ways, .ref q_now, .ref q_then])), (q_l, .inl (ca 0, 336, .inl v_l))] H → va_D A [(q_this, .inr (8, [.ref q_text, .int v_size, .int v_at, .ref q_read, .ref q_l, .ref q_stands, .ref q_kept, .int v_keptMany, .ref q_one, .ref q_two, .ref q_ways, .ref q_now, .ref q_then])), (q_l, .inl (ca 0, 336, .inl v_l))] → va_S A s.heap H locs → lv_has ls 4 [(1, .int p1), (2, .int o_6)] → W p l e (headSpec wsX10_fewest rm_X10_fewest).room s m args below meth c H locs 0 0 Q (F0 m 55 ls [])) → va_P D vwCl [(q_this, .inr (8, [.ref q_text, .int v_size, .int v_at, .ref q_read, .ref q_l, .ref q_stands, .ref q_kept, .int v_keptMany, .ref q_one, .ref q_two, .ref q_ways, .ref q_now, .ref q_then])), (q_l, .inl (ca 0, 336, .inl v_l))] H → va_D A [(q_this, .inr (8, [.ref q_text, .int v_size, .int v_at, .ref q_read, .ref q_l, .ref q_stands, .ref q_kept, .int v_keptMany, .ref q_one, .ref q_two, .ref q_ways, .ref q_now, .ref q_then])), (q_l, .inl (ca 0, 336, .inl v_l))] → va_S A s.heap H locs → lv_has ls 4 [(0, .ref q_this), (1, .int p1), (2, .int x2_4), (3, .int x3_5)] → W p l e (headSpec wsX10_fewest rm_X10_fewest).room s m args below meth c H locs 0 0 Q (F0 m 20 ls []) := by
      intro n
      induction n with
      | zero => intro x2_4 x3_5 o_6 H locs ls h; have h : (none : Option (Int32)) = some _ := h; cases h
      | succ n ih =>
        intro x2_4 x3_5 o_6 H locs ls h hex hP hD hS hl
        rw [lpg_succ, b_X10_fewest_20] at h
        refine lv_iload_n hx hb dX10_fewest_20 rfl (lv_at hl 3 rfl) ?_
        refine lv_if_lt (tgt := 55) hx hb dX10_fewest_21 (by decide) (fun c_7 => ?_) (fun c_7 => ?_)
        · replace h := ifp_el c_7 h
          cases h
          exact hex _ _ _ hP hD hS (lv_sub hl [1, 2] rfl)
        · replace h := ifn_el c_7 h
          refine lv_iload_n hx hb dX10_fewest_24 rfl (lv_at hl 3 rfl) ?_
          obtain ⟨r_8, hg_9, h⟩ := bd1_el h
          refine kx_Si (As := [.int x3_5]) (rest := []) (wr := [(q_this, .inr (8, [.ref q_text, .int v_size, .int v_at, .ref q_read, .ref q_l, .ref q_stands, .ref q_kept, .int v_keptMany, .ref q_one, .ref q_two, .ref q_ways, .ref q_now, .ref q_then])), (q_l, .inl (ca 0, 336, .inl v_l))]) (w1 := []) (wn := [(q_this, .inr (8, [.ref q_text, .int v_size, .int v_at, .ref q_read, .ref q_l, .ref q_stands, .ref q_kept, .int v_keptMany, .ref q_one, .ref q_two, .ref q_ways, .ref q_now, .ref q_then])), (q_l, .inl (ca 0, 336, .inl v_l))]) ⟨hx, hb, hml, hown, hts⟩ (c_X10_ones l D ca F H.size x3_5 r_8 hg_9) (va_cwS 1 hts gX10_fewest_X10_ones rfl rfl rfl (by decide +kernel) ⟨(Nat.le_of_ble_eq_true rfl), (Nat.le_of_ble_eq_true rfl)⟩) hK hP hD hS hA [] [0, 1] [0, 1] rfl rfl rfl rfl (by decide) rfl rfl rfl hl.1 rfl (Nat.le_of_ble_eq_true rfl) dX10_fewest_25 ⟨Nat.zero_le _, Nat.zero_le _⟩ (fun H locs hP hD hS => ?_)
          refine lv_iload_n hx hb dX10_fewest_28 rfl (lv_at hl 2 rfl) ?_
          obtain ⟨r_10, hg_11, h⟩ := bd1_el h
          refine kx_Si (As := [.int x2_4]) (rest := [.int r_8]) (wr := [(q_this, .inr (8, [.ref q_text, .int v_size, .int v_at, .ref q_read, .ref q_l, .ref q_stands, .ref q_kept, .int v_keptMany, .ref q_one, .ref q_two, .ref q_ways, .ref q_now, .ref q_then])), (q_l, .inl (ca 0, 336, .inl v_l))]) (w1 := []) (wn := [(q_this, .inr (8, [.ref q_text, .int v_size, .int v_at, .ref q_read, .ref q_l, .ref q_stands, .ref q_kept, .int v_keptMany, .ref q_one, .ref q_two, .ref q_ways, .ref q_now, .ref q_then])), (q_l, .inl (ca 0, 336, .inl v_l))]) ⟨hx, hb, hml, hown, hts⟩ (c_X10_ones l D ca F H.size x2_4 r_10 hg_11) (va_cwS 1 hts gX10_fewest_X10_ones rfl rfl rfl (by decide +kernel) ⟨(Nat.le_of_ble_eq_true rfl), (Nat.le_of_ble_eq_true rfl)⟩) hK hP hD hS hA [] [0, 1] [0, 1] rfl rfl rfl rfl (by decide) rfl rfl rfl hl.1 rfl (Nat.le_of_ble_eq_true rfl) dX10_fewest_29 ⟨Nat.zero_le _, Nat.zero_le _⟩ (fun H locs hP hD hS => ?_)
          refine lv_icmp_gt (tgt := 47) hx hb dX10_fewest_32 (by decide) (fun c_12 => ?_) (fun c_12 => ?_)
          · replace h := ifp_el c_12 h
            refine lv_iload_n hx hb dX10_fewest_47 rfl (lv_at hl 2 rfl) ?_
            refine lv_istore_n (lv' := [(2, .int x2_4), (0, .ref q_this), (1, .int p1), (3, .int x3_5)]) hx hb dX10_fewest_48 rfl hl (by decide) rfl (fun ls hl => ?_)
            obtain ⟨x3_13, e_14, h⟩ := nm_el h
            refine lv_iinc (v := x3_13) (lv' := [(3, .int x3_13), (2, .int x2_4), (0, .ref q_this), (1, .int p1)]) hx hb dX10_fewest_49 hl (k := 3) rfl (by rw [← e_14]; rfl) (by decide) rfl (fun ls hl => ?_)
            refine lv_goto (tgt := 20) hx hb dX10_fewest_52 (by decide) ?_
            exact ih _ _ _ _ _ _ h hex hP hD hS (lv_sub hl [2, 3, 1, 0] rfl)
          · replace h := ifn_el c_12 h
            refine lv_aload_n hx hb dX10_fewest_35 rfl (lv_at hl 0 rfl) ?_
            refine lv_iload_n hx hb dX10_fewest_36 rfl (lv_at hl 3 rfl) ?_
            obtain ⟨r_15, hg_16, h⟩ := bd1_el h
            refine kx_Vi (As := [.int x3_5]) (rest := []) (wr := []) (w1 := [(q_this, .inr (8, [.ref q_text, .int v_size, .int v_at, .ref q_read, .ref q_l, .ref q_stands, .ref q_kept, .int v_keptMany, .ref q_one, .ref q_two, .ref q_ways, .ref q_now, .ref q_then])), (q_l, .inl (ca 0, 336, .inl v_l))]) (wn := [(q_this, .inr (8, [.ref q_text, .int v_size, .int v_at, .ref q_read, .ref q_l, .ref q_stands, .ref q_kept, .int v_keptMany, .ref q_one, .ref q_two, .ref q_ways, .ref q_now, .ref q_then])), (q_l, .inl (ca 0, 336, .inl v_l))]) ⟨hx, hb, hml, hown, hts⟩ (c_X10_isEnoughFor l D ca F H.size q_this q_text q_read q_l q_stands q_kept q_one q_two q_ways q_now q_then x3_5 v_size v_at v_keptMany v_l r_15 hg_16) (cwV 1 hts gX10_fewest_X10_isEnoughFor rfl rfl rfl (by decide +kernel) ⟨(Nat.le_of_ble_eq_true rfl), (Nat.le_of_ble_eq_true rfl)⟩) hK hP hD hS hA (ci := 8) (q0 := 0) rfl rfl [0, 1] [] [0, 1] rfl rfl rfl rfl (by decide) rfl rfl rfl hl.1 rfl (Nat.le_of_ble_eq_true rfl) dX10_fewest_37 ⟨Nat.zero_le _, Nat.zero_le _⟩ (fun H locs hP hD hS => ?_)
            refine lv_if_eq (tgt := 47) hx hb dX10_fewest_40 (by decide) (fun c_17 => ?_) (fun c_17 => ?_)
            · replace h := ifp_el c_17 h
              refine lv_iload_n hx hb dX10_fewest_47 rfl (lv_at hl 2 rfl) ?_
              refine lv_istore_n (lv' := [(2, .int x2_4), (0, .ref q_this), (1, .int p1), (3, .int x3_5)]) hx hb dX10_fewest_48 rfl hl (by decide) rfl (fun ls hl => ?_)
              obtain ⟨x3_18, e_19, h⟩ := nm_el h
              refine lv_iinc (v := x3_18) (lv' := [(3, .int x3_18), (2, .int x2_4), (0, .ref q_this), (1, .int p1)]) hx hb dX10_fewest_49 hl (k := 3) rfl (by rw [← e_19]; rfl) (by decide) rfl (fun ls hl => ?_)
              refine lv_goto (tgt := 20) hx hb dX10_fewest_52 (by decide) ?_
              exact ih _ _ _ _ _ _ h hex hP hD hS (lv_sub hl [2, 3, 1, 0] rfl)
            · replace h := ifn_el c_17 h
              refine lv_iload_n hx hb dX10_fewest_43 rfl (lv_at hl 3 rfl) ?_
              refine lv_goto (tgt := 48) hx hb dX10_fewest_44 (by decide) ?_
              refine lv_istore_n (lv' := [(2, .int x3_5), (0, .ref q_this), (1, .int p1), (3, .int x3_5)]) hx hb dX10_fewest_48 rfl hl (by decide) rfl (fun ls hl => ?_)
              obtain ⟨x3_20, e_21, h⟩ := nm_el h
              refine lv_iinc (v := x3_20) (lv' := [(3, .int x3_20), (2, .int x3_5), (0, .ref q_this), (1, .int p1)]) hx hb dX10_fewest_49 hl (k := 3) rfl (by rw [← e_21]; rfl) (by decide) rfl (fun ls hl => ?_)
              refine lv_goto (tgt := 20) hx hb dX10_fewest_52 (by decide) ?_
              exact ih _ _ _ _ _ _ h hex hP hD hS (lv_sub hl [2, 3, 1, 0] rfl)
    exact hlp F (nI 255) (nI 255) o_6 H locs ls hL hex hP hD hS (lv_sub hl [2, 3, 1, 0] rfl)
  · replace h := ifp_el c_3 h
    refine lv_iconst (v := (-1 : Int32)) hx hb dX10_fewest_10 (by decide) ?_
    cases h
    rw [← hQe]
    exact W.iret hx hb hr (fun t ht hW => ⟨⟨_, (), rfl, rfl, by rw [ht]; exact hP, va_K.moved hW.alike hK, hD⟩, hS.F ht⟩) hS.2.2 dX10_fewest_11
def D_X10_both (v_l : Nat → Int32) : Option (Int32) := ck 336 (nI 280) (ck 336 (nI 281) (some (((v_l (nI 280).toNatClampNeg) &&& (v_l (nI 281).toNatClampNeg)))))
abbrev rm_X10_both : Room := { frames := 0, cells := 0, slots := 0, locals := 0 }
set_option maxHeartbeats 4000000 in
set_option maxRecDepth 100000 in
theorem c_X10_both (l : Launch) (D : va_G) (ca : Nat → ClassId) (sz : Nat) (q_this q_text q_read q_l q_stands q_kept q_one q_two q_ways q_now q_then : Nat) (v_size : Int32) (v_at : Int32) (v_keptMany : Int32) (v_l : Nat → Int32) (r : Int32) (h : D_X10_both v_l = some (r)) : Met l yX10_both wsX10_both rm_X10_both (va_Pc [.ref q_this] (kPre D ca [(q_this, .inr (8, [.ref q_text, .int v_size, .int v_at, .ref q_read, .ref q_l, .ref q_stands, .ref q_kept, .int v_keptMany, .ref q_one, .ref q_two, .ref q_ways, .ref q_now, .ref q_then])), (q_l, .inl (ca 0, 336, .inl v_l))] sz)) (kQi D ca (va_A [(q_this, .inr (8, [.ref q_text, .int v_size, .int v_at, .ref q_read, .ref q_l, .ref q_stands, .ref q_kept, .int v_keptMany, .ref q_one, .ref q_two, .ref q_ways, .ref q_now, .ref q_then])), (q_l, .inl (ca 0, 336, .inl v_l))] sz) [(q_this, .inr (8, [.ref q_text, .int v_size, .int v_at, .ref q_read, .ref q_l, .ref q_stands, .ref q_kept, .int v_keptMany, .ref q_one, .ref q_two, .ref q_ways, .ref q_now, .ref q_then])), (q_l, .inl (ca 0, 336, .inl v_l))] r) 0 0 (va_A [(q_this, .inr (8, [.ref q_text, .int v_size, .int v_at, .ref q_read, .ref q_l, .ref q_stands, .ref q_kept, .int v_keptMany, .ref q_one, .ref q_two, .ref q_ways, .ref q_now, .ref q_then])), (q_l, .inl (ca 0, 336, .inl v_l))] sz) := by
  refine Met.ofW (cc := cX10_both) (maxL := 1) (ret := (some .int)) (by decide +kernel) rfl ?_
  intro p e s m args below meth c s₁ B hml hv
  obtain ⟨rfl, hsz, hP, hK, hD0⟩ := hv
  have hx := B.exec
  have hb := B.bytes
  have hr := B.returns
  have hts := atoms_spec (ws := wsX10_both) B.pre
  have hown : s.vm.findClass RX10 = some m.cls := findClass_of_methodNamed B.named
  have hlocks := B.notSynchronized
  clear B
  subst hsz
  have hD := hD0.self (sz := s.heap.size)
  generalize hAe : va_A [(q_this, .inr (8, [.ref q_text, .int v_size, .int v_at, .ref q_read, .ref q_l, .ref q_stands, .ref q_kept, .int v_keptMany, .ref q_one, .ref q_two, .ref q_ways, .ref q_now, .ref q_then])), (q_l, .inl (ca 0, 336, .inl v_l))] s.heap.size = A at hD ⊢
  have hA : ∀ q : Nat, s.heap.size ≤ q → A q := fun q h => by rw [← hAe]; exact Or.inr h
  have hS : va_S A s.heap s.heap [] := va_S.rf
  have hl := lv_entry ([.ref q_this]) (n := 1) (Nat.le_of_ble_eq_true rfl)
  rw [lg_entry_eq]
  generalize (lg_sl ([.ref q_this]) ++ List.replicate (1 - (lg_sl ([.ref q_this])).length) Slot.unset).toArray = ls at hl ⊢
  have hl : lv_has ls 1 [(0, .ref q_this)] := hl
  generalize ([.ref q_this] : List Value).toArray = args at hts ⊢
  generalize hQe : MQ below (kQi D ca (A) [(q_this, .inr (8, [.ref q_text, .int v_size, .int v_at, .ref q_read, .ref q_l, .ref q_stands, .ref q_kept, .int v_keptMany, .ref q_one, .ref q_two, .ref q_ways, .ref q_now, .ref q_then])), (q_l, .inl (ca 0, 336, .inl v_l))] r) args s 0 0 A = Q
  have i_X10 : ∀ w ∈ u_ws RX10 TX10 13, w ∈ wsX10_both := by decide +kernel
  have k_16 := hts (.fieldLink RX10 16 "TradeWordsModel" "l" "[I") (by decide +kernel)
  rw [D_X10_both] at h
  refine lv_aload_n hx hb dX10_both_0 rfl (lv_at hl 0 rfl) ?_
  refine va_get (D := D) (ci := 8) (v := .ref q_l) (C := RX10) (T := TX10) (N := 13) hx hb hts i_X10 hown hK hP 0 rfl rfl 4 (by decide) k_16 (fun _ h9 => h9) rfl dX10_both_1 ?_
  refine lv_sipush (v := (nI 280)) hx hb dX10_both_4 (by decide) ?_
  obtain ⟨hi_1, h⟩ := ck_el h
  refine va_iald hx hb hK hP 1 0 rfl rfl hi_1 dX10_both_7 ?_
  refine lv_aload_n hx hb dX10_both_8 rfl (lv_at hl 0 rfl) ?_
  refine va_get (D := D) (ci := 8) (v := .ref q_l) (C := RX10) (T := TX10) (N := 13) hx hb hts i_X10 hown hK hP 0 rfl rfl 4 (by decide) k_16 (fun _ h9 => h9) rfl dX10_both_9 ?_
  refine lv_sipush (v := (nI 281)) hx hb dX10_both_12 (by decide) ?_
  obtain ⟨hi_2, h⟩ := ck_el h
  refine va_iald hx hb hK hP 1 0 rfl rfl hi_2 dX10_both_15 ?_
  refine lv_iand hx hb dX10_both_16 ?_
  cases h
  rw [← hQe]
  exact W.iret hx hb hr (fun t ht hW => ⟨⟨_, (), rfl, rfl, by rw [ht]; exact hP, va_K.moved hW.alike hK, hD⟩, hS.F ht⟩) hS.2.2 dX10_both_17
def b_X10_lost_32 (p1 : Int32) (v_l : Nat → Int32) (r_8 : Int32) (rec32 : Int32 → Int32 → Option (Int32)) (x2_10 : Int32) (x5_11 : Int32) : Option (Int32) := ck 336 r_8 ((if (v_l r_8.toNatClampNeg) ≤ x5_11 then some (x2_10) else ck 336 ((r_8 + (nI 1)) + x5_11) (nm (v_l ((r_8 + (nI 1)) + x5_11).toNatClampNeg) (fun x6_16 => bd1 (D_X10_said ((nI 1) - p1) x6_16 v_l) (fun r_17 => (if 0 ≤ r_17 then nm (x2_10 ||| (nI 0)) (fun x2_20 => nm (x5_11 + (nI 1)) (fun x5_21 => rec32 x2_20 x5_21)) else nm (x2_10 ||| ((nI 1) <<< (x6_16 &&& 31))) (fun x2_23 => nm (x5_11 + (nI 1)) (fun x5_24 => rec32 x2_23 x5_24))))))))
def b_X10_lost_16 (p1 : Int32) (v_l : Nat → Int32) (F : Nat) (rec16 : Int32 → Int32 → Option (Int32)) (x2_4 : Int32) (x3_5 : Int32) : Option (Int32) := (if (nI 8) ≤ x3_5 then some (x2_4) else bd1 (D_X10_wordAt p1 x3_5) (fun r_8 => bd1 (lpg (T := Int32 → Int32 → Option (Int32)) (fun _ _ => none) (b_X10_lost_32 p1 v_l r_8) F x2_4 (nI 0)) (fun o_12 => nm (x3_5 + (nI 1)) (fun x3_26 => rec16 o_12 x3_26))))
def D_X10_lost (F : Nat) (p1 : Int32) (v_l : Nat → Int32) : Option (Int32) := bd1 (D_X10_in p1.toInt64 (lN 0) (lN 1)) (fun r_1 => (if r_1 = 0 then some ((-1 : Int32)) else bd1 (lpg (T := Int32 → Int32 → Option (Int32)) (fun _ _ => none) (b_X10_lost_16 p1 v_l F) F (nI 0) (nI 0)) (fun o_6 => some (o_6))))
abbrev rm_X10_lost : Room := { frames := 2, cells := 0, slots := 0, locals := 44 }
set_option maxHeartbeats 4000000 in
set_option maxRecDepth 100000 in
theorem c_X10_lost (l : Launch) (D : va_G) (ca : Nat → ClassId) (F : Nat) (sz : Nat) (q_this q_text q_read q_l q_stands q_kept q_one q_two q_ways q_now q_then : Nat) (p1 : Int32) (v_size : Int32) (v_at : Int32) (v_keptMany : Int32) (v_l : Nat → Int32) (r : Int32) (h : D_X10_lost F p1 v_l = some (r)) : Met l yX10_lost wsX10_lost rm_X10_lost (va_Pc [.ref q_this, .int p1] (kPre D ca [(q_this, .inr (8, [.ref q_text, .int v_size, .int v_at, .ref q_read, .ref q_l, .ref q_stands, .ref q_kept, .int v_keptMany, .ref q_one, .ref q_two, .ref q_ways, .ref q_now, .ref q_then])), (q_l, .inl (ca 0, 336, .inl v_l))] sz)) (kQi D ca (va_A [(q_this, .inr (8, [.ref q_text, .int v_size, .int v_at, .ref q_read, .ref q_l, .ref q_stands, .ref q_kept, .int v_keptMany, .ref q_one, .ref q_two, .ref q_ways, .ref q_now, .ref q_then])), (q_l, .inl (ca 0, 336, .inl v_l))] sz) [(q_this, .inr (8, [.ref q_text, .int v_size, .int v_at, .ref q_read, .ref q_l, .ref q_stands, .ref q_kept, .int v_keptMany, .ref q_one, .ref q_two, .ref q_ways, .ref q_now, .ref q_then])), (q_l, .inl (ca 0, 336, .inl v_l))] r) 0 0 (va_A [(q_this, .inr (8, [.ref q_text, .int v_size, .int v_at, .ref q_read, .ref q_l, .ref q_stands, .ref q_kept, .int v_keptMany, .ref q_one, .ref q_two, .ref q_ways, .ref q_now, .ref q_then])), (q_l, .inl (ca 0, 336, .inl v_l))] sz) := by
  refine Met.ofW (cc := cX10_lost) (maxL := 7) (ret := (some .int)) (by decide +kernel) rfl ?_
  intro p e s m args below meth c s₁ B hml hv
  obtain ⟨rfl, hsz, hP, hK, hD0⟩ := hv
  have hx := B.exec
  have hb := B.bytes
  have hr := B.returns
  have hts := atoms_spec (ws := wsX10_lost) B.pre
  have hown : s.vm.findClass RX10 = some m.cls := findClass_of_methodNamed B.named
  have hlocks := B.notSynchronized
  clear B
  subst hsz
  have hD := hD0.self (sz := s.heap.size)
  generalize hAe : va_A [(q_this, .inr (8, [.ref q_text, .int v_size, .int v_at, .ref q_read, .ref q_l, .ref q_stands, .ref q_kept, .int v_keptMany, .ref q_one, .ref q_two, .ref q_ways, .ref q_now, .ref q_then])), (q_l, .inl (ca 0, 336, .inl v_l))] s.heap.size = A at hD ⊢
  have hA : ∀ q : Nat, s.heap.size ≤ q → A q := fun q h => by rw [← hAe]; exact Or.inr h
  have hS : va_S A s.heap s.heap [] := va_S.rf
  have hl := lv_entry ([.ref q_this, .int p1]) (n := 7) (Nat.le_of_ble_eq_true rfl)
  rw [lg_entry_eq]
  generalize (lg_sl ([.ref q_this, .int p1]) ++ List.replicate (7 - (lg_sl ([.ref q_this, .int p1])).length) Slot.unset).toArray = ls at hl ⊢
  have hl : lv_has ls 7 [(0, .ref q_this), (1, .int p1)] := hl
  generalize ([.ref q_this, .int p1] : List Value).toArray = args at hts ⊢
  generalize hQe : MQ below (kQi D ca (A) [(q_this, .inr (8, [.ref q_text, .int v_size, .int v_at, .ref q_read, .ref q_l, .ref q_stands, .ref q_kept, .int v_keptMany, .ref q_one, .ref q_two, .ref q_ways, .ref q_now, .ref q_then])), (q_l, .inl (ca 0, 336, .inl v_l))] r) args s 0 0 A = Q
  have i_X10 : ∀ w ∈ u_ws RX10 TX10 13, w ∈ wsX10_lost := by decide +kernel
  have k_16 := hts (.fieldLink RX10 16 "TradeWordsModel" "l" "[I") (by decide +kernel)
  rw [D_X10_lost] at h
  refine lv_iload_n hx hb dX10_lost_0 rfl (lv_at hl 1 rfl) ?_
  refine lv_i2l hx hb dX10_lost_1 rfl ?_
  refine lv_lconst (v := (lN 0)) hx hb dX10_lost_2 (by decide) ?_
  refine lv_lconst (v := (lN 1)) hx hb dX10_lost_3 (by decide) ?_
  obtain ⟨r_1, hg_2, h⟩ := bd1_el h
  refine kx_Si (As := [.long p1.toInt64, .long (lN 0), .long (lN 1)]) (rest := []) (wr := [(q_this, .inr (8, [.ref q_text, .int v_size, .int v_at, .ref q_read, .ref q_l, .ref q_stands, .ref q_kept, .int v_keptMany, .ref q_one, .ref q_two, .ref q_ways, .ref q_now, .ref q_then])), (q_l, .inl (ca 0, 336, .inl v_l))]) (w1 := []) (wn := [(q_this, .inr (8, [.ref q_text, .int v_size, .int v_at, .ref q_read, .ref q_l, .ref q_stands, .ref q_kept, .int v_keptMany, .ref q_one, .ref q_two, .ref q_ways, .ref q_now, .ref q_then])), (q_l, .inl (ca 0, 336, .inl v_l))]) ⟨hx, hb, hml, hown, hts⟩ (c_X10_in l D ca s.heap.size p1.toInt64 (lN 0) (lN 1) r_1 hg_2) (va_cwS 3 hts gX10_lost_X10_in rfl rfl rfl (by decide +kernel) ⟨(Nat.le_of_ble_eq_true rfl), (Nat.le_of_ble_eq_true rfl)⟩) hK hP hD hS hA [] [0, 1] [0, 1] rfl rfl rfl rfl (by decide) rfl rfl rfl hl.1 rfl (Nat.le_of_ble_eq_true rfl) dX10_lost_4 ⟨Nat.zero_le _, Nat.zero_le _⟩ (fun H locs hP hD hS => ?_)
  refine lv_if_ne (tgt := 12) hx hb dX10_lost_7 (by decide) (fun c_3 => ?_) (fun c_3 => ?_)
  · replace h := ifn_el c_3 h
    refine lv_iconst (v := (nI 0)) hx hb dX10_lost_12 (by decide) ?_
    refine lv_istore_n (lv' := [(2, .int (nI 0)), (0, .ref q_this), (1, .int p1)]) hx hb dX10_lost_13 rfl hl (by decide) rfl (fun ls hl => ?_)
    refine lv_iconst (v := (nI 0)) hx hb dX10_lost_14 (by decide) ?_
    refine lv_istore_n (lv' := [(3, .int (nI 0)), (2, .int (nI 0)), (0, .ref q_this), (1, .int p1)]) hx hb dX10_lost_15 rfl hl (by decide) rfl (fun ls hl => ?_)
    obtain ⟨o_6, hL, h⟩ := bd1_el h
    have hex : ∀ (H : Heap) (locs : List Loc) (ls : Array Slot), va_P D vwCl [(q_this, .inr (8, [.ref q_text, .int v_size, .int v_at, .ref q_read, .ref q_l, .ref q_stands, .ref q_kept, .int v_keptMany, .ref q_one, .ref q_two, .ref q_ways, .ref q_now, .ref q_then])), (q_l, .inl (ca 0, 336, .inl v_l))] H → va_D A [(q_this, .inr (8, [.ref q_text, .int v_size, .int v_at, .ref q_read, .ref q_l, .ref q_stands, .ref q_kept, .int v_keptMany, .ref q_one, .ref q_two, .ref q_ways, .ref q_now, .ref q_then])), (q_l, .inl (ca 0, 336, .inl v_l))] → va_S A s.heap H locs → lv_has ls 7 [(2, .int o_6)] → W p l e (headSpec wsX10_lost rm_X10_lost).room s m args below meth c H locs 0 0 Q (F0 m 93 ls []) := by
      intro H locs ls hP hD hS hl
      refine lv_iload_n hx hb dX10_lost_93 rfl (lv_at hl 0 rfl) ?_
      cases h
      rw [← hQe]
      exact W.iret hx hb hr (fun t ht hW => ⟨⟨_, (), rfl, rfl, by rw [ht]; exact hP, va_K.moved hW.alike hK, hD⟩, hS.F ht⟩) hS.2.2 dX10_lost_94
    have hlp : ∀ (n : Nat) (x2_4 : Int32) (x3_5 : Int32) (o_6 : Int32) (H : Heap) (locs : List Loc) (ls : Array Slot), lpg (T := Int32 → Int32 → Option (Int32)) (fun _ _ => none) (b_X10_lost_16 p1 v_l F) n x2_4 x3_5 = some (o_6) → (∀ (H : Heap) (locs : List Loc) (ls : Array Slot), va_P D vwCl [(q_this, .inr (8, [.ref q_text, .int v_size, .int v_at, .ref q_read, .ref q_l, .ref q_stands, .ref q_kept, .int v_keptMany, .ref q_one, .ref q_two, .ref q_ways, .ref q_now, .ref q_then])), (q_l, .inl (ca 0, 336, .inl v_l))] H → va_D A [(q_this, .inr (8, [.ref q_text, .int v_size, .int v_at, .ref q_read, .ref q_l, .ref q_stands, .ref q_kept, .int v_keptMany, .ref q_one, .ref q_two, .ref q_ways, .ref q_now, .ref q_then])), (q_l, .inl (ca 0, 336, .inl v_l))] → va_S A s.heap H locs → lv_has ls 7 [(2, .int o_6)] → W p l e (headSpec wsX10_lost rm_X10_lost).room s m args below meth c H locs 0 0 Q (F0 m 93 ls [])) → va_P D vwCl [(q_this, .inr (8, [.ref q_text, .int v_size, .int v_at, .ref q_read, .ref q_l, .ref q_stands, .ref q_kept, .int v_keptMany, .ref q_one, .ref q_two, .ref q_ways, .ref q_now, .ref q_then])), (q_l, .inl (ca 0, 336, .inl v_l))] H → va_D A [(q_this, .inr (8, [.ref q_text, .int v_size, .int v_at, .ref q_read, .ref q_l, .ref q_stands, .ref q_kept, .int v_keptMany, .ref q_one, .ref q_two, .ref q_ways, .ref q_now, .ref q_then])), (q_l, .inl (ca 0, 336, .inl v_l))] → va_S A s.heap H locs → lv_has ls 7 [(0, .ref q_this), (1, .int p1), (2, .int x2_4), (3, .int x3_5)] → W p l e (headSpec wsX10_lost rm_X10_lost).room s m args below meth c H locs 0 0 Q (F0 m 16 ls []) := by
      intro n
      induction n with
      | zero => intro x2_4 x3_5 o_6 H locs ls h; have h : (none : Option (Int32)) = some _ := h; cases h
      | succ n ih =>
        intro x2_4 x3_5 o_6 H locs ls h hex hP hD hS hl
        rw [lpg_succ, b_X10_lost_16] at h
        refine lv_iload_n hx hb dX10_lost_16 rfl (lv_at hl 3 rfl) ?_
        refine lv_bipush (v := (nI 8)) hx hb dX10_lost_17 (by decide) ?_
        refine lv_icmp_ge (tgt := 93) hx hb dX10_lost_19 (by decide) (fun c_7 => ?_) (fun c_7 => ?_)
        · replace h := ifp_el c_7 h
          cases h
          exact hex _ _ _ hP hD hS (lv_sub hl [2] rfl)
        · replace h := ifn_el c_7 h
          refine lv_iload_n hx hb dX10_lost_22 rfl (lv_at hl 1 rfl) ?_
          refine lv_iload_n hx hb dX10_lost_23 rfl (lv_at hl 3 rfl) ?_
          obtain ⟨r_8, hg_9, h⟩ := bd1_el h
          refine kx_Si (As := [.int p1, .int x3_5]) (rest := []) (wr := [(q_this, .inr (8, [.ref q_text, .int v_size, .int v_at, .ref q_read, .ref q_l, .ref q_stands, .ref q_kept, .int v_keptMany, .ref q_one, .ref q_two, .ref q_ways, .ref q_now, .ref q_then])), (q_l, .inl (ca 0, 336, .inl v_l))]) (w1 := []) (wn := [(q_this, .inr (8, [.ref q_text, .int v_size, .int v_at, .ref q_read, .ref q_l, .ref q_stands, .ref q_kept, .int v_keptMany, .ref q_one, .ref q_two, .ref q_ways, .ref q_now, .ref q_then])), (q_l, .inl (ca 0, 336, .inl v_l))]) ⟨hx, hb, hml, hown, hts⟩ (c_X10_wordAt l D ca H.size p1 x3_5 r_8 hg_9) (va_cwS 2 hts gX10_lost_X10_wordAt rfl rfl rfl (by decide +kernel) ⟨(Nat.le_of_ble_eq_true rfl), (Nat.le_of_ble_eq_true rfl)⟩) hK hP hD hS hA [] [0, 1] [0, 1] rfl rfl rfl rfl (by decide) rfl rfl rfl hl.1 rfl (Nat.le_of_ble_eq_true rfl) dX10_lost_24 ⟨Nat.zero_le _, Nat.zero_le _⟩ (fun H locs hP hD hS => ?_)
          refine lv_istore (lv' := [(4, .int r_8), (0, .ref q_this), (1, .int p1), (2, .int x2_4), (3, .int x3_5)]) hx hb dX10_lost_27 hl (by decide) rfl (fun ls hl => ?_)
          refine lv_iconst (v := (nI 0)) hx hb dX10_lost_29 (by decide) ?_
          refine lv_istore (lv' := [(5, .int (nI 0)), (4, .int r_8), (0, .ref q_this), (1, .int p1), (2, .int x2_4), (3, .int x3_5)]) hx hb dX10_lost_30 hl (by decide) rfl (fun ls hl => ?_)
          obtain ⟨o_12, hL, h⟩ := bd1_el h
          have hex : ∀ (H : Heap) (locs : List Loc) (ls : Array Slot), va_P D vwCl [(q_this, .inr (8, [.ref q_text, .int v_size, .int v_at, .ref q_read, .ref q_l, .ref q_stands, .ref q_kept, .int v_keptMany, .ref q_one, .ref q_two, .ref q_ways, .ref q_now, .ref q_then])), (q_l, .inl (ca 0, 336, .inl v_l))] H → va_D A [(q_this, .inr (8, [.ref q_text, .int v_size, .int v_at, .ref q_read, .ref q_l, .ref q_stands, .ref q_kept, .int v_keptMany, .ref q_one, .ref q_two, .ref q_ways, .ref q_now, .ref q_then])), (q_l, .inl (ca 0, 336, .inl v_l))] → va_S A s.heap H locs → lv_has ls 7 [(0, .ref q_this), (1, .int p1), (2, .int o_12), (3, .int x3_5)] → W p l e (headSpec wsX10_lost rm_X10_lost).room s m args below meth c H locs 0 0 Q (F0 m 87 ls []) := by
            intro H locs ls hP hD hS hl
            obtain ⟨x3_26, e_27, h⟩ := nm_el h
            refine lv_iinc (v := x3_26) (lv' := [(3, .int x3_26), (0, .ref q_this), (1, .int p1), (2, .int o_12)]) hx hb dX10_lost_87 hl (k := 3) rfl (by rw [← e_27]; rfl) (by decide) rfl (fun ls hl => ?_)
            refine lv_goto (tgt := 16) hx hb dX10_lost_90 (by decide) ?_
            exact ih _ _ _ _ _ _ h hex hP hD hS (lv_sub hl [1, 2, 3, 0] rfl)
          have hlp : ∀ (n : Nat) (x2_10 : Int32) (x5_11 : Int32) (o_12 : Int32) (H : Heap) (locs : List Loc) (ls : Array Slot), lpg (T := Int32 → Int32 → Option (Int32)) (fun _ _ => none) (b_X10_lost_32 p1 v_l r_8) n x2_10 x5_11 = some (o_12) → (∀ (H : Heap) (locs : List Loc) (ls : Array Slot), va_P D vwCl [(q_this, .inr (8, [.ref q_text, .int v_size, .int v_at, .ref q_read, .ref q_l, .ref q_stands, .ref q_kept, .int v_keptMany, .ref q_one, .ref q_two, .ref q_ways, .ref q_now, .ref q_then])), (q_l, .inl (ca 0, 336, .inl v_l))] H → va_D A [(q_this, .inr (8, [.ref q_text, .int v_size, .int v_at, .ref q_read, .ref q_l, .ref q_stands, .ref q_kept, .int v_keptMany, .ref q_one, .ref q_two, .ref q_ways, .ref q_now, .ref q_then])), (q_l, .inl (ca 0, 336, .inl v_l))] → va_S A s.heap H locs → lv_has ls 7 [(0, .ref q_this), (1, .int p1), (2, .int o_12), (3, .int x3_5)] → W p l e (headSpec wsX10_lost rm_X10_lost).room s m args below meth c H locs 0 0 Q (F0 m 87 ls [])) → va_P D vwCl [(q_this, .inr (8, [.ref q_text, .int v_size, .int v_at, .ref q_read, .ref q_l, .ref q_stands, .ref q_kept, .int v_keptMany, .ref q_one, .ref q_two, .ref q_ways, .ref q_now, .ref q_then])), (q_l, .inl (ca 0, 336, .inl v_l))] H → va_D A [(q_this, .inr (8, [.ref q_text, .int v_size, .int v_at, .ref q_read, .ref q_l, .ref q_stands, .ref q_kept, .int v_keptMany, .ref q_one, .ref q_two, .ref q_ways, .ref q_now, .ref q_then])), (q_l, .inl (ca 0, 336, .inl v_l))] → va_S A s.heap H locs → lv_has ls 7 [(0, .ref q_this), (1, .int p1), (2, .int x2_10), (3, .int x3_5), (4, .int r_8), (5, .int x5_11)] → W p l e (headSpec wsX10_lost rm_X10_lost).room s m args below meth c H locs 0 0 Q (F0 m 32 ls []) := by
            intro n
            induction n with
            | zero => intro x2_10 x5_11 o_12 H locs ls h; have h : (none : Option (Int32)) = some _ := h; cases h
            | succ n ih =>
              intro x2_10 x5_11 o_12 H locs ls h hex hP hD hS hl
              rw [lpg_succ, b_X10_lost_32] at h
              refine lv_iload hx hb dX10_lost_32 (lv_at hl 5 rfl) ?_
              refine lv_aload_n hx hb dX10_lost_34 rfl (lv_at hl 0 rfl) ?_
              refine va_get (D := D) (ci := 8) (v := .ref q_l) (C := RX10) (T := TX10) (N := 13) hx hb hts i_X10 hown hK hP 0 rfl rfl 4 (by decide) k_16 (fun _ h9 => h9) rfl dX10_lost_35 ?_
              refine lv_iload hx hb dX10_lost_38 (lv_at hl 4 rfl) ?_
              obtain ⟨hi_13, h⟩ := ck_el h
              refine va_iald hx hb hK hP 1 0 rfl rfl hi_13 dX10_lost_40 ?_
              refine lv_icmp_ge (tgt := 87) hx hb dX10_lost_41 (by decide) (fun c_14 => ?_) (fun c_14 => ?_)
              · replace h := ifp_el c_14 h
                cases h
                exact hex _ _ _ hP hD hS (lv_sub hl [0, 1, 2, 3] rfl)
              · replace h := ifn_el c_14 h
                refine lv_aload_n hx hb dX10_lost_44 rfl (lv_at hl 0 rfl) ?_
                refine va_get (D := D) (ci := 8) (v := .ref q_l) (C := RX10) (T := TX10) (N := 13) hx hb hts i_X10 hown hK hP 0 rfl rfl 4 (by decide) k_16 (fun _ h9 => h9) rfl dX10_lost_45 ?_
                refine lv_iload hx hb dX10_lost_48 (lv_at hl 4 rfl) ?_
                refine lv_iconst (v := (nI 1)) hx hb dX10_lost_50 (by decide) ?_
                refine lv_iadd hx hb dX10_lost_51 ?_
                refine lv_iload hx hb dX10_lost_52 (lv_at hl 5 rfl) ?_
                refine lv_iadd hx hb dX10_lost_54 ?_
                obtain ⟨hi_15, h⟩ := ck_el h
                refine va_iald hx hb hK hP 1 0 rfl rfl hi_15 dX10_lost_55 ?_
                refine lv_nmi h (fun x6_16 h => ?_)
                refine lv_istore (lv' := [(6, .int x6_16), (0, .ref q_this), (1, .int p1), (2, .int x2_10), (3, .int x3_5), (4, .int r_8), (5, .int x5_11)]) hx hb dX10_lost_56 hl (by decide) rfl (fun ls hl => ?_)
                refine lv_iload_n hx hb dX10_lost_58 rfl (lv_at hl 3 rfl) ?_
                refine lv_aload_n hx hb dX10_lost_59 rfl (lv_at hl 1 rfl) ?_
                refine lv_iconst (v := (nI 1)) hx hb dX10_lost_60 (by decide) ?_
                refine lv_iload_n hx hb dX10_lost_61 rfl (lv_at hl 2 rfl) ?_
                refine lv_isub hx hb dX10_lost_62 ?_
                refine lv_iload hx hb dX10_lost_63 (lv_at hl 0 rfl) ?_
                obtain ⟨r_17, hg_18, h⟩ := bd1_el h
                refine kx_Vi (As := [.int ((nI 1) - p1), .int x6_16]) (rest := [.int x2_10]) (wr := []) (w1 := [(q_this, .inr (8, [.ref q_text, .int v_size, .int v_at, .ref q_read, .ref q_l, .ref q_stands, .ref q_kept, .int v_keptMany, .ref q_one, .ref q_two, .ref q_ways, .ref q_now, .ref q_then])), (q_l, .inl (ca 0, 336, .inl v_l))]) (wn := [(q_this, .inr (8, [.ref q_text, .int v_size, .int v_at, .ref q_read, .ref q_l, .ref q_stands, .ref q_kept, .int v_keptMany, .ref q_one, .ref q_two, .ref q_ways, .ref q_now, .ref q_then])), (q_l, .inl (ca 0, 336, .inl v_l))]) ⟨hx, hb, hml, hown, hts⟩ (c_X10_said l D ca H.size q_this q_text q_read q_l q_stands q_kept q_one q_two q_ways q_now q_then ((nI 1) - p1) x6_16 v_size v_at v_keptMany v_l r_17 hg_18) (cwV 2 hts gX10_lost_X10_said rfl rfl rfl (by decide +kernel) ⟨(Nat.le_of_ble_eq_true rfl), (Nat.le_of_ble_eq_true rfl)⟩) hK hP hD hS hA (ci := 8) (q0 := 0) rfl rfl [0, 1] [] [0, 1] rfl rfl rfl rfl (by decide) rfl rfl rfl hl.1 rfl (Nat.le_of_ble_eq_true rfl) dX10_lost_65 ⟨Nat.zero_le _, Nat.zero_le _⟩ (fun H locs hP hD hS => ?_)
                refine lv_if_ge (tgt := 78) hx hb dX10_lost_68 (by decide) (fun c_19 => ?_) (fun c_19 => ?_)
                · replace h := ifp_el c_19 h
                  refine lv_iconst (v := (nI 0)) hx hb dX10_lost_78 (by decide) ?_
                  refine lv_ior hx hb dX10_lost_79 ?_
                  refine lv_nmi h (fun x2_20 h => ?_)
                  refine lv_istore_n (lv' := [(2, .int x2_20), (6, .int x6_16), (0, .ref q_this), (1, .int p1), (3, .int x3_5), (4, .int r_8), (5, .int x5_11)]) hx hb dX10_lost_80 rfl hl (by decide) rfl (fun ls hl => ?_)
                  obtain ⟨x5_21, e_22, h⟩ := nm_el h
                  refine lv_iinc (v := x5_21) (lv' := [(5, .int x5_21), (2, .int x2_20), (6, .int x6_16), (0, .ref q_this), (1, .int p1), (3, .int x3_5), (4, .int r_8)]) hx hb dX10_lost_81 hl (k := 6) rfl (by rw [← e_22]; rfl) (by decide) rfl (fun ls hl => ?_)
                  refine lv_goto (tgt := 32) hx hb dX10_lost_84 (by decide) ?_
                  exact ih _ _ _ _ _ _ h hex hP hD hS (lv_sub hl [3, 4, 1, 5, 6, 0] rfl)
                · replace h := ifn_el c_19 h
                  refine lv_iconst (v := (nI 1)) hx hb dX10_lost_71 (by decide) ?_
                  refine lv_iload hx hb dX10_lost_72 (lv_at hl 0 rfl) ?_
                  refine lv_ishl hx hb dX10_lost_74 ?_
                  refine lv_goto (tgt := 79) hx hb dX10_lost_75 (by decide) ?_
                  refine lv_ior hx hb dX10_lost_79 ?_
                  refine lv_nmi h (fun x2_23 h => ?_)
                  refine lv_istore_n (lv' := [(2, .int x2_23), (6, .int x6_16), (0, .ref q_this), (1, .int p1), (3, .int x3_5), (4, .int r_8), (5, .int x5_11)]) hx hb dX10_lost_80 rfl hl (by decide) rfl (fun ls hl => ?_)
                  obtain ⟨x5_24, e_25, h⟩ := nm_el h
                  refine lv_iinc (v := x5_24) (lv' := [(5, .int x5_24), (2, .int x2_23), (6, .int x6_16), (0, .ref q_this), (1, .int p1), (3, .int x3_5), (4, .int r_8)]) hx hb dX10_lost_81 hl (k := 6) rfl (by rw [← e_25]; rfl) (by decide) rfl (fun ls hl => ?_)
                  refine lv_goto (tgt := 32) hx hb dX10_lost_84 (by decide) ?_
                  exact ih _ _ _ _ _ _ h hex hP hD hS (lv_sub hl [3, 4, 1, 5, 6, 0] rfl)
          exact hlp F x2_4 (nI 0) o_12 H locs ls hL hex hP hD hS (lv_sub hl [2, 3, 4, 5, 1, 0] rfl)
    exact hlp F (nI 0) (nI 0) o_6 H locs ls hL hex hP hD hS (lv_sub hl [2, 3, 1, 0] rfl)
  · replace h := ifp_el c_3 h
    refine lv_iconst (v := (-1 : Int32)) hx hb dX10_lost_10 (by decide) ?_
    cases h
    rw [← hQe]
    exact W.iret hx hb hr (fun t ht hW => ⟨⟨_, (), rfl, rfl, by rw [ht]; exact hP, va_K.moved hW.alike hK, hD⟩, hS.F ht⟩) hS.2.2 dX10_lost_11
def b_X10_keep_13 (v_keptMany : Int32) (v_stands : Nat → Int32) (rec13 : Int32 → (Nat → Int32) → Option ((Nat → Int32))) (x1_2 : Int32) (y_kept_3 : Nat → Int32) : Option ((Nat → Int32)) := (if (nI 16) ≤ x1_2 then some (y_kept_3) else ck 16 x1_2 (nm (v_stands x1_2.toNatClampNeg) (fun w_7 => ck 32 (((nI 16) * v_keptMany) + x1_2) (nm (x1_2 + (nI 1)) (fun x1_9 => rec13 x1_9 (upd y_kept_3 (((nI 16) * v_keptMany) + x1_2).toNatClampNeg w_7))))))
def D_X10_keep (F : Nat) (v_keptMany : Int32) (v_stands : Nat → Int32) (v_kept : Nat → Int32) : Option (Int32 × Int32 × (Nat → Int32)) := (if v_keptMany = (nI 2) then some ((-3 : Int32), v_keptMany, v_kept) else bd1 (lpg (T := Int32 → (Nat → Int32) → Option ((Nat → Int32))) (fun _ _ => none) (b_X10_keep_13 v_keptMany v_stands) F (nI 0) v_kept) (fun o_4 => nm (v_keptMany + (nI 1)) (fun w_11 => some (w_11, w_11, o_4))))
abbrev rm_X10_keep : Room := { frames := 0, cells := 0, slots := 0, locals := 0 }
set_option maxHeartbeats 4000000 in
set_option maxRecDepth 100000 in
theorem c_X10_keep (l : Launch) (D : va_G) (ca : Nat → ClassId) (F : Nat) (sz : Nat) (q_this q_text q_read q_l q_stands q_kept q_one q_two q_ways q_now q_then : Nat) (v_size : Int32) (v_at : Int32) (v_keptMany : Int32) (v_stands : Nat → Int32) (v_kept : Nat → Int32) (r : Int32) (o_keptMany : Int32) (o_kept : Nat → Int32) (h : D_X10_keep F v_keptMany v_stands v_kept = some (r, o_keptMany, o_kept)) : Met l yX10_keep wsX10_keep rm_X10_keep (va_Pc [.ref q_this] (kPre D ca [(q_this, .inr (8, [.ref q_text, .int v_size, .int v_at, .ref q_read, .ref q_l, .ref q_stands, .ref q_kept, .int v_keptMany, .ref q_one, .ref q_two, .ref q_ways, .ref q_now, .ref q_then])), (q_stands, .inl (ca 0, 16, .inl v_stands)), (q_kept, .inl (ca 0, 32, .inl v_kept))] sz)) (kQi D ca (va_A [(q_this, .inr (8, [.ref q_text, .int v_size, .int v_at, .ref q_read, .ref q_l, .ref q_stands, .ref q_kept, .int v_keptMany, .ref q_one, .ref q_two, .ref q_ways, .ref q_now, .ref q_then])), (q_stands, .inl (ca 0, 16, .inl v_stands)), (q_kept, .inl (ca 0, 32, .inl v_kept))] sz) [(q_this, .inr (8, [.ref q_text, .int v_size, .int v_at, .ref q_read, .ref q_l, .ref q_stands, .ref q_kept, .int o_keptMany, .ref q_one, .ref q_two, .ref q_ways, .ref q_now, .ref q_then])), (q_stands, .inl (ca 0, 16, .inl v_stands)), (q_kept, .inl (ca 0, 32, .inl o_kept))] r) 0 0 (va_A [(q_this, .inr (8, [.ref q_text, .int v_size, .int v_at, .ref q_read, .ref q_l, .ref q_stands, .ref q_kept, .int v_keptMany, .ref q_one, .ref q_two, .ref q_ways, .ref q_now, .ref q_then])), (q_stands, .inl (ca 0, 16, .inl v_stands)), (q_kept, .inl (ca 0, 32, .inl v_kept))] sz) := by
  refine Met.ofW (cc := cX10_keep) (maxL := 2) (ret := (some .int)) (by decide +kernel) rfl ?_
  intro p e s m args below meth c s₁ B hml hv
  obtain ⟨rfl, hsz, hP, hK, hD0⟩ := hv
  have hx := B.exec
  have hb := B.bytes
  have hr := B.returns
  have hts := atoms_spec (ws := wsX10_keep) B.pre
  have hown : s.vm.findClass RX10 = some m.cls := findClass_of_methodNamed B.named
  have hlocks := B.notSynchronized
  clear B
  subst hsz
  have hD := hD0.self (sz := s.heap.size)
  generalize hAe : va_A [(q_this, .inr (8, [.ref q_text, .int v_size, .int v_at, .ref q_read, .ref q_l, .ref q_stands, .ref q_kept, .int v_keptMany, .ref q_one, .ref q_two, .ref q_ways, .ref q_now, .ref q_then])), (q_stands, .inl (ca 0, 16, .inl v_stands)), (q_kept, .inl (ca 0, 32, .inl v_kept))] s.heap.size = A at hD ⊢
  have hA : ∀ q : Nat, s.heap.size ≤ q → A q := fun q h => by rw [← hAe]; exact Or.inr h
  have hS : va_S A s.heap s.heap [] := va_S.rf
  have hl := lv_entry ([.ref q_this]) (n := 2) (Nat.le_of_ble_eq_true rfl)
  rw [lg_entry_eq]
  generalize (lg_sl ([.ref q_this]) ++ List.replicate (2 - (lg_sl ([.ref q_this])).length) Slot.unset).toArray = ls at hl ⊢
  have hl : lv_has ls 2 [(0, .ref q_this)] := hl
  generalize ([.ref q_this] : List Value).toArray = args at hts ⊢
  generalize hQe : MQ below (kQi D ca (A) [(q_this, .inr (8, [.ref q_text, .int v_size, .int v_at, .ref q_read, .ref q_l, .ref q_stands, .ref q_kept, .int o_keptMany, .ref q_one, .ref q_two, .ref q_ways, .ref q_now, .ref q_then])), (q_stands, .inl (ca 0, 16, .inl v_stands)), (q_kept, .inl (ca 0, 32, .inl o_kept))] r) args s 0 0 A = Q
  have i_X10 : ∀ w ∈ u_ws RX10 TX10 13, w ∈ wsX10_keep := by decide +kernel
  have k_119 := hts (.fieldLink RX10 119 "TradeWordsModel" "keptMany" "I") (by decide +kernel)
  have k_22 := hts (.fieldLink RX10 22 "TradeWordsModel" "kept" "[I") (by decide +kernel)
  have k_19 := hts (.fieldLink RX10 19 "TradeWordsModel" "stands" "[I") (by decide +kernel)
  rw [D_X10_keep] at h
  refine lv_aload_n hx hb dX10_keep_0 rfl (lv_at hl 0 rfl) ?_
  refine va_get (D := D) (ci := 8) (v := .int v_keptMany) (C := RX10) (T := TX10) (N := 13) hx hb hts i_X10 hown hK hP 0 rfl rfl 7 (by decide) k_119 (fun _ h9 => h9) rfl dX10_keep_1 ?_
  refine lv_iconst (v := (nI 2)) hx hb dX10_keep_4 (by decide) ?_
  refine lv_icmp_ne (tgt := 11) hx hb dX10_keep_5 (by decide) (fun c_1 => ?_) (fun c_1 => ?_)
  · replace h := ifn_el c_1 h
    refine lv_iconst (v := (nI 0)) hx hb dX10_keep_11 (by decide) ?_
    refine lv_istore_n (lv' := [(1, .int (nI 0)), (0, .ref q_this)]) hx hb dX10_keep_12 rfl hl (by decide) rfl (fun ls hl => ?_)
    obtain ⟨o_4, hL, h⟩ := bd1_el h
    have hex : ∀ (H : Heap) (locs : List Loc) (ls : Array Slot), va_P D vwCl [(q_this, .inr (8, [.ref q_text, .int v_size, .int v_at, .ref q_read, .ref q_l, .ref q_stands, .ref q_kept, .int v_keptMany, .ref q_one, .ref q_two, .ref q_ways, .ref q_now, .ref q_then])), (q_stands, .inl (ca 0, 16, .inl v_stands)), (q_kept, .inl (ca 0, 32, .inl o_4))] H → va_D A [(q_this, .inr (8, [.ref q_text, .int v_size, .int v_at, .ref q_read, .ref q_l, .ref q_stands, .ref q_kept, .int v_keptMany, .ref q_one, .ref q_two, .ref q_ways, .ref q_now, .ref q_then])), (q_stands, .inl (ca 0, 16, .inl v_stands)), (q_kept, .inl (ca 0, 32, .inl o_4))] → va_S A s.heap H locs → lv_has ls 2 [(0, .ref q_this)] → W p l e (headSpec wsX10_keep rm_X10_keep).room s m args below meth c H locs 0 0 Q (F0 m 45 ls []) := by
      intro H locs ls hP hD hS hl
      refine lv_aload_n hx hb dX10_keep_45 rfl (lv_at hl 0 rfl) ?_
      refine lv_dup hx hb dX10_keep_46 rfl ?_
      refine va_get (D := D) (ci := 8) (v := .int v_keptMany) (C := RX10) (T := TX10) (N := 13) hx hb hts i_X10 hown hK hP 0 rfl rfl 7 (by decide) k_119 (fun _ h9 => h9) rfl dX10_keep_47 ?_
      refine lv_iconst (v := (nI 1)) hx hb dX10_keep_50 (by decide) ?_
      refine lv_iadd hx hb dX10_keep_51 ?_
      refine lv_nmi h (fun w_11 h => ?_)
      refine va_put (D := D) (ci := 8) (v := .int w_11) (ty := .int) (C := RX10) (T := TX10) (N := 13) hx hb hts i_X10 tyX10 tyX10_ok nmX10 hown hK hP hD hS 0 rfl rfl 7 (by decide) k_119 (fun _ h9 => h9) rfl (by decide +kernel) rfl rfl (Nat.le_of_ble_eq_true rfl) dX10_keep_52 (fun H locs hP hD hS => ?_)
      have hP : va_P D vwCl [(q_this, .inr (8, [.ref q_text, .int v_size, .int v_at, .ref q_read, .ref q_l, .ref q_stands, .ref q_kept, .int w_11, .ref q_one, .ref q_two, .ref q_ways, .ref q_now, .ref q_then])), (q_stands, .inl (ca 0, 16, .inl v_stands)), (q_kept, .inl (ca 0, 32, .inl o_4))] H := hP
      have hD : va_D A [(q_this, .inr (8, [.ref q_text, .int v_size, .int v_at, .ref q_read, .ref q_l, .ref q_stands, .ref q_kept, .int w_11, .ref q_one, .ref q_two, .ref q_ways, .ref q_now, .ref q_then])), (q_stands, .inl (ca 0, 16, .inl v_stands)), (q_kept, .inl (ca 0, 32, .inl o_4))] := hD
      refine lv_aload_n hx hb dX10_keep_55 rfl (lv_at hl 0 rfl) ?_
      refine va_get (D := D) (ci := 8) (v := .int w_11) (C := RX10) (T := TX10) (N := 13) hx hb hts i_X10 hown hK hP 0 rfl rfl 7 (by decide) k_119 (fun _ h9 => h9) rfl dX10_keep_56 ?_
      cases h
      rw [← hQe]
      exact W.iret hx hb hr (fun t ht hW => ⟨⟨_, (), rfl, rfl, by rw [ht]; exact hP, va_K.moved hW.alike hK, hD⟩, hS.F ht⟩) hS.2.2 dX10_keep_59
    have hlp : ∀ (n : Nat) (x1_2 : Int32) (y_kept_3 : Nat → Int32) (o_4 : Nat → Int32) (H : Heap) (locs : List Loc) (ls : Array Slot), lpg (T := Int32 → (Nat → Int32) → Option ((Nat → Int32))) (fun _ _ => none) (b_X10_keep_13 v_keptMany v_stands) n x1_2 y_kept_3 = some (o_4) → (∀ (H : Heap) (locs : List Loc) (ls : Array Slot), va_P D vwCl [(q_this, .inr (8, [.ref q_text, .int v_size, .int v_at, .ref q_read, .ref q_l, .ref q_stands, .ref q_kept, .int v_keptMany, .ref q_one, .ref q_two, .ref q_ways, .ref q_now, .ref q_then])), (q_stands, .inl (ca 0, 16, .inl v_stands)), (q_kept, .inl (ca 0, 32, .inl o_4))] H → va_D A [(q_this, .inr (8, [.ref q_text, .int v_size, .int v_at, .ref q_read, .ref q_l, .ref q_stands, .ref q_kept, .int v_keptMany, .ref q_one, .ref q_two, .ref q_ways, .ref q_now, .ref q_then])), (q_stands, .inl (ca 0, 16, .inl v_stands)), (q_kept, .inl (ca 0, 32, .inl o_4))] → va_S A s.heap H locs → lv_has ls 2 [(0, .ref q_this)] → W p l e (headSpec wsX10_keep rm_X10_keep).room s m args below meth c H locs 0 0 Q (F0 m 45 ls [])) → va_P D vwCl [(q_this, .inr (8, [.ref q_text, .int v_size, .int v_at, .ref q_read, .ref q_l, .ref q_stands, .ref q_kept, .int v_keptMany, .ref q_one, .ref q_two, .ref q_ways, .ref q_now, .ref q_then])), (q_stands, .inl (ca 0, 16, .inl v_stands)), (q_kept, .inl (ca 0, 32, .inl y_kept_3))] H → va_D A [(q_this, .inr (8, [.ref q_text, .int v_size, .int v_at, .ref q_read, .ref q_l, .ref q_stands, .ref q_kept, .int v_keptMany, .ref q_one, .ref q_two, .ref q_ways, .ref q_now, .ref q_then])), (q_stands, .inl (ca 0, 16, .inl v_stands)), (q_kept, .inl (ca 0, 32, .inl y_kept_3))] → va_S A s.heap H locs → lv_has ls 2 [(0, .ref q_this), (1, .int x1_2)] → W p l e (headSpec wsX10_keep rm_X10_keep).room s m args below meth c H locs 0 0 Q (F0 m 13 ls []) := by
      intro n
      induction n with
      | zero => intro x1_2 y_kept_3 o_4 H locs ls h; have h : (none : Option ((Nat → Int32))) = some _ := h; cases h
      | succ n ih =>
        intro x1_2 y_kept_3 o_4 H locs ls h hex hP hD hS hl
        rw [lpg_succ, b_X10_keep_13] at h
        refine lv_iload_n hx hb dX10_keep_13 rfl (lv_at hl 1 rfl) ?_
        refine lv_bipush (v := (nI 16)) hx hb dX10_keep_14 (by decide) ?_
        refine lv_icmp_ge (tgt := 45) hx hb dX10_keep_16 (by decide) (fun c_5 => ?_) (fun c_5 => ?_)
        · replace h := ifp_el c_5 h
          cases h
          exact hex _ _ _ hP hD hS (lv_sub hl [0] rfl)
        · replace h := ifn_el c_5 h
          refine lv_aload_n hx hb dX10_keep_19 rfl (lv_at hl 0 rfl) ?_
          refine va_get (D := D) (ci := 8) (v := .ref q_kept) (C := RX10) (T := TX10) (N := 13) hx hb hts i_X10 hown hK hP 0 rfl rfl 6 (by decide) k_22 (fun _ h9 => h9) rfl dX10_keep_20 ?_
          refine lv_bipush (v := (nI 16)) hx hb dX10_keep_23 (by decide) ?_
          refine lv_aload_n hx hb dX10_keep_25 rfl (lv_at hl 0 rfl) ?_
          refine va_get (D := D) (ci := 8) (v := .int v_keptMany) (C := RX10) (T := TX10) (N := 13) hx hb hts i_X10 hown hK hP 0 rfl rfl 7 (by decide) k_119 (fun _ h9 => h9) rfl dX10_keep_26 ?_
          refine lv_imul hx hb dX10_keep_29 ?_
          refine lv_iload_n hx hb dX10_keep_30 rfl (lv_at hl 1 rfl) ?_
          refine lv_iadd hx hb dX10_keep_31 ?_
          refine lv_aload_n hx hb dX10_keep_32 rfl (lv_at hl 0 rfl) ?_
          refine va_get (D := D) (ci := 8) (v := .ref q_stands) (C := RX10) (T := TX10) (N := 13) hx hb hts i_X10 hown hK hP 0 rfl rfl 5 (by decide) k_19 (fun _ h9 => h9) rfl dX10_keep_33 ?_
          refine lv_iload_n hx hb dX10_keep_36 rfl (lv_at hl 1 rfl) ?_
          obtain ⟨hi_6, h⟩ := ck_el h
          refine va_iald hx hb hK hP 1 0 rfl rfl hi_6 dX10_keep_37 ?_
          refine lv_nmi h (fun w_7 h => ?_)
          obtain ⟨hi_8, h⟩ := ck_el h
          refine va_iast hx hb hK hP hD hS 2 0 rfl rfl hi_8 dX10_keep_38 (fun H locs hP hD hS => ?_)
          have hP : va_P D vwCl [(q_this, .inr (8, [.ref q_text, .int v_size, .int v_at, .ref q_read, .ref q_l, .ref q_stands, .ref q_kept, .int v_keptMany, .ref q_one, .ref q_two, .ref q_ways, .ref q_now, .ref q_then])), (q_stands, .inl (ca 0, 16, .inl v_stands)), (q_kept, .inl (ca 0, 32, .inl (upd y_kept_3 (((nI 16) * v_keptMany) + x1_2).toNatClampNeg w_7)))] H := hP
          have hD : va_D A [(q_this, .inr (8, [.ref q_text, .int v_size, .int v_at, .ref q_read, .ref q_l, .ref q_stands, .ref q_kept, .int v_keptMany, .ref q_one, .ref q_two, .ref q_ways, .ref q_now, .ref q_then])), (q_stands, .inl (ca 0, 16, .inl v_stands)), (q_kept, .inl (ca 0, 32, .inl (upd y_kept_3 (((nI 16) * v_keptMany) + x1_2).toNatClampNeg w_7)))] := hD
          obtain ⟨x1_9, e_10, h⟩ := nm_el h
          refine lv_iinc (v := x1_9) (lv' := [(1, .int x1_9), (0, .ref q_this)]) hx hb dX10_keep_39 hl (k := 1) rfl (by rw [← e_10]; rfl) (by decide) rfl (fun ls hl => ?_)
          refine lv_goto (tgt := 13) hx hb dX10_keep_42 (by decide) ?_
          exact ih _ _ _ _ _ _ h hex hP hD hS (lv_sub hl [1, 0] rfl)
    exact hlp F (nI 0) v_kept o_4 s.heap [] ls hL hex hP hD hS (lv_sub hl [1, 0] rfl)
  · replace h := ifp_el c_1 h
    refine lv_bipush (v := (-3 : Int32)) hx hb dX10_keep_8 (by decide) ?_
    cases h
    rw [← hQe]
    exact W.iret hx hb hr (fun t ht hW => ⟨⟨_, (), rfl, rfl, by rw [ht]; exact hP, va_K.moved hW.alike hK, hD⟩, hS.F ht⟩) hS.2.2 dX10_keep_10
def b_X10_back_22 (v_kept : Nat → Int32) (w_2 : Int32) (rec22 : Int32 → (Nat → Int32) → Option ((Nat → Int32))) (x1_3 : Int32) (y_stands_4 : Nat → Int32) : Option ((Nat → Int32)) := (if (nI 16) ≤ x1_3 then some (y_stands_4) else ck 32 (((nI 16) * w_2) + x1_3) (nm (v_kept (((nI 16) * w_2) + x1_3).toNatClampNeg) (fun w_8 => ck 16 x1_3 (nm (x1_3 + (nI 1)) (fun x1_10 => rec22 x1_10 (upd y_stands_4 x1_3.toNatClampNeg w_8))))))
def D_X10_back (F : Nat) (v_keptMany : Int32) (v_stands : Nat → Int32) (v_kept : Nat → Int32) : Option (Int32 × Int32 × (Nat → Int32)) := (if v_keptMany = 0 then some ((-2 : Int32), v_keptMany, v_stands) else nm (v_keptMany - (nI 1)) (fun w_2 => bd1 (lpg (T := Int32 → (Nat → Int32) → Option ((Nat → Int32))) (fun _ _ => none) (b_X10_back_22 v_kept w_2) F (nI 0) v_stands) (fun o_5 => some (w_2, w_2, o_5))))
abbrev rm_X10_back : Room := { frames := 0, cells := 0, slots := 0, locals := 0 }
set_option maxHeartbeats 4000000 in
set_option maxRecDepth 100000 in
theorem c_X10_back (l : Launch) (D : va_G) (ca : Nat → ClassId) (F : Nat) (sz : Nat) (q_this q_text q_read q_l q_stands q_kept q_one q_two q_ways q_now q_then : Nat) (v_size : Int32) (v_at : Int32) (v_keptMany : Int32) (v_stands : Nat → Int32) (v_kept : Nat → Int32) (r : Int32) (o_keptMany : Int32) (o_stands : Nat → Int32) (h : D_X10_back F v_keptMany v_stands v_kept = some (r, o_keptMany, o_stands)) : Met l yX10_back wsX10_back rm_X10_back (va_Pc [.ref q_this] (kPre D ca [(q_this, .inr (8, [.ref q_text, .int v_size, .int v_at, .ref q_read, .ref q_l, .ref q_stands, .ref q_kept, .int v_keptMany, .ref q_one, .ref q_two, .ref q_ways, .ref q_now, .ref q_then])), (q_stands, .inl (ca 0, 16, .inl v_stands)), (q_kept, .inl (ca 0, 32, .inl v_kept))] sz)) (kQi D ca (va_A [(q_this, .inr (8, [.ref q_text, .int v_size, .int v_at, .ref q_read, .ref q_l, .ref q_stands, .ref q_kept, .int v_keptMany, .ref q_one, .ref q_two, .ref q_ways, .ref q_now, .ref q_then])), (q_stands, .inl (ca 0, 16, .inl v_stands)), (q_kept, .inl (ca 0, 32, .inl v_kept))] sz) [(q_this, .inr (8, [.ref q_text, .int v_size, .int v_at, .ref q_read, .ref q_l, .ref q_stands, .ref q_kept, .int o_keptMany, .ref q_one, .ref q_two, .ref q_ways, .ref q_now, .ref q_then])), (q_stands, .inl (ca 0, 16, .inl o_stands)), (q_kept, .inl (ca 0, 32, .inl v_kept))] r) 0 0 (va_A [(q_this, .inr (8, [.ref q_text, .int v_size, .int v_at, .ref q_read, .ref q_l, .ref q_stands, .ref q_kept, .int v_keptMany, .ref q_one, .ref q_two, .ref q_ways, .ref q_now, .ref q_then])), (q_stands, .inl (ca 0, 16, .inl v_stands)), (q_kept, .inl (ca 0, 32, .inl v_kept))] sz) := by
  refine Met.ofW (cc := cX10_back) (maxL := 2) (ret := (some .int)) (by decide +kernel) rfl ?_
  intro p e s m args below meth c s₁ B hml hv
  obtain ⟨rfl, hsz, hP, hK, hD0⟩ := hv
  have hx := B.exec
  have hb := B.bytes
  have hr := B.returns
  have hts := atoms_spec (ws := wsX10_back) B.pre
  have hown : s.vm.findClass RX10 = some m.cls := findClass_of_methodNamed B.named
  have hlocks := B.notSynchronized
  clear B
  subst hsz
  have hD := hD0.self (sz := s.heap.size)
  generalize hAe : va_A [(q_this, .inr (8, [.ref q_text, .int v_size, .int v_at, .ref q_read, .ref q_l, .ref q_stands, .ref q_kept, .int v_keptMany, .ref q_one, .ref q_two, .ref q_ways, .ref q_now, .ref q_then])), (q_stands, .inl (ca 0, 16, .inl v_stands)), (q_kept, .inl (ca 0, 32, .inl v_kept))] s.heap.size = A at hD ⊢
  have hA : ∀ q : Nat, s.heap.size ≤ q → A q := fun q h => by rw [← hAe]; exact Or.inr h
  have hS : va_S A s.heap s.heap [] := va_S.rf
  have hl := lv_entry ([.ref q_this]) (n := 2) (Nat.le_of_ble_eq_true rfl)
  rw [lg_entry_eq]
  generalize (lg_sl ([.ref q_this]) ++ List.replicate (2 - (lg_sl ([.ref q_this])).length) Slot.unset).toArray = ls at hl ⊢
  have hl : lv_has ls 2 [(0, .ref q_this)] := hl
  generalize ([.ref q_this] : List Value).toArray = args at hts ⊢
  generalize hQe : MQ below (kQi D ca (A) [(q_this, .inr (8, [.ref q_text, .int v_size, .int v_at, .ref q_read, .ref q_l, .ref q_stands, .ref q_kept, .int o_keptMany, .ref q_one, .ref q_two, .ref q_ways, .ref q_now, .ref q_then])), (q_stands, .inl (ca 0, 16, .inl o_stands)), (q_kept, .inl (ca 0, 32, .inl v_kept))] r) args s 0 0 A = Q
  have i_X10 : ∀ w ∈ u_ws RX10 TX10 13, w ∈ wsX10_back := by decide +kernel
  have k_119 := hts (.fieldLink RX10 119 "TradeWordsModel" "keptMany" "I") (by decide +kernel)
  have k_19 := hts (.fieldLink RX10 19 "TradeWordsModel" "stands" "[I") (by decide +kernel)
  have k_22 := hts (.fieldLink RX10 22 "TradeWordsModel" "kept" "[I") (by decide +kernel)
  rw [D_X10_back] at h
  refine lv_aload_n hx hb dX10_back_0 rfl (lv_at hl 0 rfl) ?_
  refine va_get (D := D) (ci := 8) (v := .int v_keptMany) (C := RX10) (T := TX10) (N := 13) hx hb hts i_X10 hown hK hP 0 rfl rfl 7 (by decide) k_119 (fun _ h9 => h9) rfl dX10_back_1 ?_
  refine lv_if_ne (tgt := 10) hx hb dX10_back_4 (by decide) (fun c_1 => ?_) (fun c_1 => ?_)
  · replace h := ifn_el c_1 h
    refine lv_aload_n hx hb dX10_back_10 rfl (lv_at hl 0 rfl) ?_
    refine lv_dup hx hb dX10_back_11 rfl ?_
    refine va_get (D := D) (ci := 8) (v := .int v_keptMany) (C := RX10) (T := TX10) (N := 13) hx hb hts i_X10 hown hK hP 0 rfl rfl 7 (by decide) k_119 (fun _ h9 => h9) rfl dX10_back_12 ?_
    refine lv_iconst (v := (nI 1)) hx hb dX10_back_15 (by decide) ?_
    refine lv_isub hx hb dX10_back_16 ?_
    refine lv_nmi h (fun w_2 h => ?_)
    refine va_put (D := D) (ci := 8) (v := .int w_2) (ty := .int) (C := RX10) (T := TX10) (N := 13) hx hb hts i_X10 tyX10 tyX10_ok nmX10 hown hK hP hD hS 0 rfl rfl 7 (by decide) k_119 (fun _ h9 => h9) rfl (by decide +kernel) rfl rfl (Nat.le_of_ble_eq_true rfl) dX10_back_17 (fun H locs hP hD hS => ?_)
    have hP : va_P D vwCl [(q_this, .inr (8, [.ref q_text, .int v_size, .int v_at, .ref q_read, .ref q_l, .ref q_stands, .ref q_kept, .int w_2, .ref q_one, .ref q_two, .ref q_ways, .ref q_now, .ref q_then])), (q_stands, .inl (ca 0, 16, .inl v_stands)), (q_kept, .inl (ca 0, 32, .inl v_kept))] H := hP
    have hD : va_D A [(q_this, .inr (8, [.ref q_text, .int v_size, .int v_at, .ref q_read, .ref q_l, .ref q_stands, .ref q_kept, .int w_2, .ref q_one, .ref q_two, .ref q_ways, .ref q_now, .ref q_then])), (q_stands, .inl (ca 0, 16, .inl v_stands)), (q_kept, .inl (ca 0, 32, .inl v_kept))] := hD
    refine lv_iconst (v := (nI 0)) hx hb dX10_back_20 (by decide) ?_
    refine lv_istore_n (lv' := [(1, .int (nI 0)), (0, .ref q_this)]) hx hb dX10_back_21 rfl hl (by decide) rfl (fun ls hl => ?_)
    obtain ⟨o_5, hL, h⟩ := bd1_el h
    have hex : ∀ (H : Heap) (locs : List Loc) (ls : Array Slot), va_P D vwCl [(q_this, .inr (8, [.ref q_text, .int v_size, .int v_at, .ref q_read, .ref q_l, .ref q_stands, .ref q_kept, .int w_2, .ref q_one, .ref q_two, .ref q_ways, .ref q_now, .ref q_then])), (q_stands, .inl (ca 0, 16, .inl o_5)), (q_kept, .inl (ca 0, 32, .inl v_kept))] H → va_D A [(q_this, .inr (8, [.ref q_text, .int v_size, .int v_at, .ref q_read, .ref q_l, .ref q_stands, .ref q_kept, .int w_2, .ref q_one, .ref q_two, .ref q_ways, .ref q_now, .ref q_then])), (q_stands, .inl (ca 0, 16, .inl o_5)), (q_kept, .inl (ca 0, 32, .inl v_kept))] → va_S A s.heap H locs → lv_has ls 2 [(0, .ref q_this)] → W p l e (headSpec wsX10_back rm_X10_back).room s m args below meth c H locs 0 0 Q (F0 m 54 ls []) := by
      intro H locs ls hP hD hS hl
      refine lv_aload_n hx hb dX10_back_54 rfl (lv_at hl 0 rfl) ?_
      refine va_get (D := D) (ci := 8) (v := .int w_2) (C := RX10) (T := TX10) (N := 13) hx hb hts i_X10 hown hK hP 0 rfl rfl 7 (by decide) k_119 (fun _ h9 => h9) rfl dX10_back_55 ?_
      cases h
      rw [← hQe]
      exact W.iret hx hb hr (fun t ht hW => ⟨⟨_, (), rfl, rfl, by rw [ht]; exact hP, va_K.moved hW.alike hK, hD⟩, hS.F ht⟩) hS.2.2 dX10_back_58
    have hlp : ∀ (n : Nat) (x1_3 : Int32) (y_stands_4 : Nat → Int32) (o_5 : Nat → Int32) (H : Heap) (locs : List Loc) (ls : Array Slot), lpg (T := Int32 → (Nat → Int32) → Option ((Nat → Int32))) (fun _ _ => none) (b_X10_back_22 v_kept w_2) n x1_3 y_stands_4 = some (o_5) → (∀ (H : Heap) (locs : List Loc) (ls : Array Slot), va_P D vwCl [(q_this, .inr (8, [.ref q_text, .int v_size, .int v_at, .ref q_read, .ref q_l, .ref q_stands, .ref q_kept, .int w_2, .ref q_one, .ref q_two, .ref q_ways, .ref q_now, .ref q_then])), (q_stands, .inl (ca 0, 16, .inl o_5)), (q_kept, .inl (ca 0, 32, .inl v_kept))] H → va_D A [(q_this, .inr (8, [.ref q_text, .int v_size, .int v_at, .ref q_read, .ref q_l, .ref q_stands, .ref q_kept, .int w_2, .ref q_one, .ref q_two, .ref q_ways, .ref q_now, .ref q_then])), (q_stands, .inl (ca 0, 16, .inl o_5)), (q_kept, .inl (ca 0, 32, .inl v_kept))] → va_S A s.heap H locs → lv_has ls 2 [(0, .ref q_this)] → W p l e (headSpec wsX10_back rm_X10_back).room s m args below meth c H locs 0 0 Q (F0 m 54 ls [])) → va_P D vwCl [(q_this, .inr (8, [.ref q_text, .int v_size, .int v_at, .ref q_read, .ref q_l, .ref q_stands, .ref q_kept, .int w_2, .ref q_one, .ref q_two, .ref q_ways, .ref q_now, .ref q_then])), (q_stands, .inl (ca 0, 16, .inl y_stands_4)), (q_kept, .inl (ca 0, 32, .inl v_kept))] H → va_D A [(q_this, .inr (8, [.ref q_text, .int v_size, .int v_at, .ref q_read, .ref q_l, .ref q_stands, .ref q_kept, .int w_2, .ref q_one, .ref q_two, .ref q_ways, .ref q_now, .ref q_then])), (q_stands, .inl (ca 0, 16, .inl y_stands_4)), (q_kept, .inl (ca 0, 32, .inl v_kept))] → va_S A s.heap H locs → lv_has ls 2 [(0, .ref q_this), (1, .int x1_3)] → W p l e (headSpec wsX10_back rm_X10_back).room s m args below meth c H locs 0 0 Q (F0 m 22 ls []) := by
      intro n
      induction n with
      | zero => intro x1_3 y_stands_4 o_5 H locs ls h; have h : (none : Option ((Nat → Int32))) = some _ := h; cases h
      | succ n ih =>
        intro x1_3 y_stands_4 o_5 H locs ls h hex hP hD hS hl
        rw [lpg_succ, b_X10_back_22] at h
        refine lv_iload_n hx hb dX10_back_22 rfl (lv_at hl 1 rfl) ?_
        refine lv_bipush (v := (nI 16)) hx hb dX10_back_23 (by decide) ?_
        refine lv_icmp_ge (tgt := 54) hx hb dX10_back_25 (by decide) (fun c_6 => ?_) (fun c_6 => ?_)
        · replace h := ifp_el c_6 h
          cases h
          exact hex _ _ _ hP hD hS (lv_sub hl [0] rfl)
        · replace h := ifn_el c_6 h
          refine lv_aload_n hx hb dX10_back_28 rfl (lv_at hl 0 rfl) ?_
          refine va_get (D := D) (ci := 8) (v := .ref q_stands) (C := RX10) (T := TX10) (N := 13) hx hb hts i_X10 hown hK hP 0 rfl rfl 5 (by decide) k_19 (fun _ h9 => h9) rfl dX10_back_29 ?_
          refine lv_iload_n hx hb dX10_back_32 rfl (lv_at hl 1 rfl) ?_
          refine lv_aload_n hx hb dX10_back_33 rfl (lv_at hl 0 rfl) ?_
          refine va_get (D := D) (ci := 8) (v := .ref q_kept) (C := RX10) (T := TX10) (N := 13) hx hb hts i_X10 hown hK hP 0 rfl rfl 6 (by decide) k_22 (fun _ h9 => h9) rfl dX10_back_34 ?_
          refine lv_bipush (v := (nI 16)) hx hb dX10_back_37 (by decide) ?_
          refine lv_aload_n hx hb dX10_back_39 rfl (lv_at hl 0 rfl) ?_
          refine va_get (D := D) (ci := 8) (v := .int w_2) (C := RX10) (T := TX10) (N := 13) hx hb hts i_X10 hown hK hP 0 rfl rfl 7 (by decide) k_119 (fun _ h9 => h9) rfl dX10_back_40 ?_
          refine lv_imul hx hb dX10_back_43 ?_
          refine lv_iload_n hx hb dX10_back_44 rfl (lv_at hl 1 rfl) ?_
          refine lv_iadd hx hb dX10_back_45 ?_
          obtain ⟨hi_7, h⟩ := ck_el h
          refine va_iald hx hb hK hP 2 0 rfl rfl hi_7 dX10_back_46 ?_
          refine lv_nmi h (fun w_8 h => ?_)
          obtain ⟨hi_9, h⟩ := ck_el h
          refine va_iast hx hb hK hP hD hS 1 0 rfl rfl hi_9 dX10_back_47 (fun H locs hP hD hS => ?_)
          have hP : va_P D vwCl [(q_this, .inr (8, [.ref q_text, .int v_size, .int v_at, .ref q_read, .ref q_l, .ref q_stands, .ref q_kept, .int w_2, .ref q_one, .ref q_two, .ref q_ways, .ref q_now, .ref q_then])), (q_stands, .inl (ca 0, 16, .inl (upd y_stands_4 x1_3.toNatClampNeg w_8))), (q_kept, .inl (ca 0, 32, .inl v_kept))] H := hP
          have hD : va_D A [(q_this, .inr (8, [.ref q_text, .int v_size, .int v_at, .ref q_read, .ref q_l, .ref q_stands, .ref q_kept, .int w_2, .ref q_one, .ref q_two, .ref q_ways, .ref q_now, .ref q_then])), (q_stands, .inl (ca 0, 16, .inl (upd y_stands_4 x1_3.toNatClampNeg w_8))), (q_kept, .inl (ca 0, 32, .inl v_kept))] := hD
          obtain ⟨x1_10, e_11, h⟩ := nm_el h
          refine lv_iinc (v := x1_10) (lv' := [(1, .int x1_10), (0, .ref q_this)]) hx hb dX10_back_48 hl (k := 1) rfl (by rw [← e_11]; rfl) (by decide) rfl (fun ls hl => ?_)
          refine lv_goto (tgt := 22) hx hb dX10_back_51 (by decide) ?_
          exact ih _ _ _ _ _ _ h hex hP hD hS (lv_sub hl [1, 0] rfl)
    exact hlp F (nI 0) v_stands o_5 H locs ls hL hex hP hD hS (lv_sub hl [1, 0] rfl)
  · replace h := ifp_el c_1 h
    refine lv_bipush (v := (-2 : Int32)) hx hb dX10_back_7 (by decide) ?_
    cases h
    rw [← hQe]
    exact W.iret hx hb hr (fun t ht hW => ⟨⟨_, (), rfl, rfl, by rw [ht]; exact hP, va_K.moved hW.alike hK, hD⟩, hS.F ht⟩) hS.2.2 dX10_back_9
def D_X10_count (F : Nat) (p1 : Int32) (v_size : Int32) (v_keptMany : Int32) (v_l : Nat → Int32) : Option (Int32) := (if p1 = (nI 0) then bd1 (D_X10_toldSet F v_l) (fun r_2 => bd1 (D_X10_ones F r_2) (fun r_4 => some (r_4))) else (if p1 = (nI 1) then some (v_size) else (if p1 = (nI 2) then ck 336 (nI 329) (some ((v_l (nI 329).toNatClampNeg))) else (if p1 = (nI 3) then ck 336 (nI 304) (some ((v_l (nI 304).toNatClampNeg))) else (if p1 = (nI 4) then some (v_keptMany) else (if p1 = (nI 5) then ck 336 (nI 298) (some ((v_l (nI 298).toNatClampNeg))) else (if p1 = (nI 6) then ck 336 (nI 299) (some ((v_l (nI 299).toNatClampNeg))) else some ((-1 : Int32)))))))))
abbrev rm_X10_count : Room := { frames := 3, cells := 0, slots := 0, locals := 64 }
set_option maxHeartbeats 4000000 in
set_option maxRecDepth 100000 in
theorem c_X10_count (l : Launch) (D : va_G) (ca : Nat → ClassId) (F : Nat) (sz : Nat) (q_this q_text q_read q_l q_stands q_kept q_one q_two q_ways q_now q_then : Nat) (p1 : Int32) (v_size : Int32) (v_at : Int32) (v_keptMany : Int32) (v_l : Nat → Int32) (r : Int32) (h : D_X10_count F p1 v_size v_keptMany v_l = some (r)) : Met l yX10_count wsX10_count rm_X10_count (va_Pc [.ref q_this, .int p1] (kPre D ca [(q_this, .inr (8, [.ref q_text, .int v_size, .int v_at, .ref q_read, .ref q_l, .ref q_stands, .ref q_kept, .int v_keptMany, .ref q_one, .ref q_two, .ref q_ways, .ref q_now, .ref q_then])), (q_l, .inl (ca 0, 336, .inl v_l))] sz)) (kQi D ca (va_A [(q_this, .inr (8, [.ref q_text, .int v_size, .int v_at, .ref q_read, .ref q_l, .ref q_stands, .ref q_kept, .int v_keptMany, .ref q_one, .ref q_two, .ref q_ways, .ref q_now, .ref q_then])), (q_l, .inl (ca 0, 336, .inl v_l))] sz) [(q_this, .inr (8, [.ref q_text, .int v_size, .int v_at, .ref q_read, .ref q_l, .ref q_stands, .ref q_kept, .int v_keptMany, .ref q_one, .ref q_two, .ref q_ways, .ref q_now, .ref q_then])), (q_l, .inl (ca 0, 336, .inl v_l))] r) 0 0 (va_A [(q_this, .inr (8, [.ref q_text, .int v_size, .int v_at, .ref q_read, .ref q_l, .ref q_stands, .ref q_kept, .int v_keptMany, .ref q_one, .ref q_two, .ref q_ways, .ref q_now, .ref q_then])), (q_l, .inl (ca 0, 336, .inl v_l))] sz) := by
  refine Met.ofW (cc := cX10_count) (maxL := 2) (ret := (some .int)) (by decide +kernel) rfl ?_
  intro p e s m args below meth c s₁ B hml hv
  obtain ⟨rfl, hsz, hP, hK, hD0⟩ := hv
  have hx := B.exec
  have hb := B.bytes
  have hr := B.returns
  have hts := atoms_spec (ws := wsX10_count) B.pre
  have hown : s.vm.findClass RX10 = some m.cls := findClass_of_methodNamed B.named
  have hlocks := B.notSynchronized
  clear B
  subst hsz
  have hD := hD0.self (sz := s.heap.size)
  generalize hAe : va_A [(q_this, .inr (8, [.ref q_text, .int v_size, .int v_at, .ref q_read, .ref q_l, .ref q_stands, .ref q_kept, .int v_keptMany, .ref q_one, .ref q_two, .ref q_ways, .ref q_now, .ref q_then])), (q_l, .inl (ca 0, 336, .inl v_l))] s.heap.size = A at hD ⊢
  have hA : ∀ q : Nat, s.heap.size ≤ q → A q := fun q h => by rw [← hAe]; exact Or.inr h
  have hS : va_S A s.heap s.heap [] := va_S.rf
  have hl := lv_entry ([.ref q_this, .int p1]) (n := 2) (Nat.le_of_ble_eq_true rfl)
  rw [lg_entry_eq]
  generalize (lg_sl ([.ref q_this, .int p1]) ++ List.replicate (2 - (lg_sl ([.ref q_this, .int p1])).length) Slot.unset).toArray = ls at hl ⊢
  have hl : lv_has ls 2 [(0, .ref q_this), (1, .int p1)] := hl
  generalize ([.ref q_this, .int p1] : List Value).toArray = args at hts ⊢
  generalize hQe : MQ below (kQi D ca (A) [(q_this, .inr (8, [.ref q_text, .int v_size, .int v_at, .ref q_read, .ref q_l, .ref q_stands, .ref q_kept, .int v_keptMany, .ref q_one, .ref q_two, .ref q_ways, .ref q_now, .ref q_then])), (q_l, .inl (ca 0, 336, .inl v_l))] r) args s 0 0 A = Q
  have i_X10 : ∀ w ∈ u_ws RX10 TX10 13, w ∈ wsX10_count := by decide +kernel
  have k_53 := hts (.fieldLink RX10 53 "TradeWordsModel" "size" "I") (by decide +kernel)
  have k_16 := hts (.fieldLink RX10 16 "TradeWordsModel" "l" "[I") (by decide +kernel)
  have k_119 := hts (.fieldLink RX10 119 "TradeWordsModel" "keptMany" "I") (by decide +kernel)
  rw [D_X10_count] at h
  refine lv_iload_n hx hb dX10_count_0 rfl (lv_at hl 1 rfl) ?_
  by_cases c_1 : p1 = (nI 0)
  · replace h := ifp_el c_1 h
    refine lv_tableIn (off := 43) (tgt := 44) hx hb dX10_count_1 (by rw [c_1]; decide) (by rw [c_1]; decide) (by rw [c_1]; decide) (by decide) ?_
    refine lv_aload_n hx hb dX10_count_44 rfl (lv_at hl 0 rfl) ?_
    obtain ⟨r_2, hg_3, h⟩ := bd1_el h
    refine kx_Vi (As := []) (rest := []) (wr := []) (w1 := [(q_this, .inr (8, [.ref q_text, .int v_size, .int v_at, .ref q_read, .ref q_l, .ref q_stands, .ref q_kept, .int v_keptMany, .ref q_one, .ref q_two, .ref q_ways, .ref q_now, .ref q_then])), (q_l, .inl (ca 0, 336, .inl v_l))]) (wn := [(q_this, .inr (8, [.ref q_text, .int v_size, .int v_at, .ref q_read, .ref q_l, .ref q_stands, .ref q_kept, .int v_keptMany, .ref q_one, .ref q_two, .ref q_ways, .ref q_now, .ref q_then])), (q_l, .inl (ca 0, 336, .inl v_l))]) ⟨hx, hb, hml, hown, hts⟩ (c_X10_toldSet l D ca F s.heap.size q_this q_text q_read q_l q_stands q_kept q_one q_two q_ways q_now q_then v_size v_at v_keptMany v_l r_2 hg_3) (cwV 0 hts gX10_count_X10_toldSet rfl rfl rfl (by decide +kernel) ⟨(Nat.le_of_ble_eq_true rfl), (Nat.le_of_ble_eq_true rfl)⟩) hK hP hD hS hA (ci := 8) (q0 := 0) rfl rfl [0, 1] [] [0, 1] rfl rfl rfl rfl (by decide) rfl rfl rfl hl.1 rfl (Nat.le_of_ble_eq_true rfl) dX10_count_45 ⟨Nat.zero_le _, Nat.zero_le _⟩ (fun H locs hP hD hS => ?_)
    obtain ⟨r_4, hg_5, h⟩ := bd1_el h
    refine kx_Si (As := [.int r_2]) (rest := []) (wr := [(q_this, .inr (8, [.ref q_text, .int v_size, .int v_at, .ref q_read, .ref q_l, .ref q_stands, .ref q_kept, .int v_keptMany, .ref q_one, .ref q_two, .ref q_ways, .ref q_now, .ref q_then])), (q_l, .inl (ca 0, 336, .inl v_l))]) (w1 := []) (wn := [(q_this, .inr (8, [.ref q_text, .int v_size, .int v_at, .ref q_read, .ref q_l, .ref q_stands, .ref q_kept, .int v_keptMany, .ref q_one, .ref q_two, .ref q_ways, .ref q_now, .ref q_then])), (q_l, .inl (ca 0, 336, .inl v_l))]) ⟨hx, hb, hml, hown, hts⟩ (c_X10_ones l D ca F H.size r_2 r_4 hg_5) (va_cwS 1 hts gX10_count_X10_ones rfl rfl rfl (by decide +kernel) ⟨(Nat.le_of_ble_eq_true rfl), (Nat.le_of_ble_eq_true rfl)⟩) hK hP hD hS hA [] [0, 1] [0, 1] rfl rfl rfl rfl (by decide) rfl rfl rfl hl.1 rfl (Nat.le_of_ble_eq_true rfl) dX10_count_48 ⟨Nat.zero_le _, Nat.zero_le _⟩ (fun H locs hP hD hS => ?_)
    cases h
    rw [← hQe]
    exact W.iret hx hb hr (fun t ht hW => ⟨⟨_, (), rfl, rfl, by rw [ht]; exact hP, va_K.moved hW.alike hK, hD⟩, hS.F ht⟩) hS.2.2 dX10_count_51
  replace h := ifn_el c_1 h
  by_cases c_6 : p1 = (nI 1)
  · replace h := ifp_el c_6 h
    refine lv_tableIn (off := 51) (tgt := 52) hx hb dX10_count_1 (by rw [c_6]; decide) (by rw [c_6]; decide) (by rw [c_6]; decide) (by decide) ?_
    refine lv_aload_n hx hb dX10_count_52 rfl (lv_at hl 0 rfl) ?_
    refine va_get (D := D) (ci := 8) (v := .int v_size) (C := RX10) (T := TX10) (N := 13) hx hb hts i_X10 hown hK hP 0 rfl rfl 1 (by decide) k_53 (fun _ h9 => h9) rfl dX10_count_53 ?_
    cases h
    rw [← hQe]
    exact W.iret hx hb hr (fun t ht hW => ⟨⟨_, (), rfl, rfl, by rw [ht]; exact hP, va_K.moved hW.alike hK, hD⟩, hS.F ht⟩) hS.2.2 dX10_count_56
  replace h := ifn_el c_6 h
  by_cases c_7 : p1 = (nI 2)
  · replace h := ifp_el c_7 h
    refine lv_tableIn (off := 56) (tgt := 57) hx hb dX10_count_1 (by rw [c_7]; decide) (by rw [c_7]; decide) (by rw [c_7]; decide) (by decide) ?_
    refine lv_aload_n hx hb dX10_count_57 rfl (lv_at hl 0 rfl) ?_
    refine va_get (D := D) (ci := 8) (v := .ref q_l) (C := RX10) (T := TX10) (N := 13) hx hb hts i_X10 hown hK hP 0 rfl rfl 4 (by decide) k_16 (fun _ h9 => h9) rfl dX10_count_58 ?_
    refine lv_sipush (v := (nI 329)) hx hb dX10_count_61 (by decide) ?_
    obtain ⟨hi_8, h⟩ := ck_el h
    refine va_iald hx hb hK hP 1 0 rfl rfl hi_8 dX10_count_64 ?_
    cases h
    rw [← hQe]
    exact W.iret hx hb hr (fun t ht hW => ⟨⟨_, (), rfl, rfl, by rw [ht]; exact hP, va_K.moved hW.alike hK, hD⟩, hS.F ht⟩) hS.2.2 dX10_count_65
  replace h := ifn_el c_7 h
  by_cases c_9 : p1 = (nI 3)
  · replace h := ifp_el c_9 h
    refine lv_tableIn (off := 65) (tgt := 66) hx hb dX10_count_1 (by rw [c_9]; decide) (by rw [c_9]; decide) (by rw [c_9]; decide) (by decide) ?_
    refine lv_aload_n hx hb dX10_count_66 rfl (lv_at hl 0 rfl) ?_
    refine va_get (D := D) (ci := 8) (v := .ref q_l) (C := RX10) (T := TX10) (N := 13) hx hb hts i_X10 hown hK hP 0 rfl rfl 4 (by decide) k_16 (fun _ h9 => h9) rfl dX10_count_67 ?_
    refine lv_sipush (v := (nI 304)) hx hb dX10_count_70 (by decide) ?_
    obtain ⟨hi_10, h⟩ := ck_el h
    refine va_iald hx hb hK hP 1 0 rfl rfl hi_10 dX10_count_73 ?_
    cases h
    rw [← hQe]
    exact W.iret hx hb hr (fun t ht hW => ⟨⟨_, (), rfl, rfl, by rw [ht]; exact hP, va_K.moved hW.alike hK, hD⟩, hS.F ht⟩) hS.2.2 dX10_count_74
  replace h := ifn_el c_9 h
  by_cases c_11 : p1 = (nI 4)
  · replace h := ifp_el c_11 h
    refine lv_tableIn (off := 74) (tgt := 75) hx hb dX10_count_1 (by rw [c_11]; decide) (by rw [c_11]; decide) (by rw [c_11]; decide) (by decide) ?_
    refine lv_aload_n hx hb dX10_count_75 rfl (lv_at hl 0 rfl) ?_
    refine va_get (D := D) (ci := 8) (v := .int v_keptMany) (C := RX10) (T := TX10) (N := 13) hx hb hts i_X10 hown hK hP 0 rfl rfl 7 (by decide) k_119 (fun _ h9 => h9) rfl dX10_count_76 ?_
    cases h
    rw [← hQe]
    exact W.iret hx hb hr (fun t ht hW => ⟨⟨_, (), rfl, rfl, by rw [ht]; exact hP, va_K.moved hW.alike hK, hD⟩, hS.F ht⟩) hS.2.2 dX10_count_79
  replace h := ifn_el c_11 h
  by_cases c_12 : p1 = (nI 5)
  · replace h := ifp_el c_12 h
    refine lv_tableIn (off := 79) (tgt := 80) hx hb dX10_count_1 (by rw [c_12]; decide) (by rw [c_12]; decide) (by rw [c_12]; decide) (by decide) ?_
    refine lv_aload_n hx hb dX10_count_80 rfl (lv_at hl 0 rfl) ?_
    refine va_get (D := D) (ci := 8) (v := .ref q_l) (C := RX10) (T := TX10) (N := 13) hx hb hts i_X10 hown hK hP 0 rfl rfl 4 (by decide) k_16 (fun _ h9 => h9) rfl dX10_count_81 ?_
    refine lv_sipush (v := (nI 298)) hx hb dX10_count_84 (by decide) ?_
    obtain ⟨hi_13, h⟩ := ck_el h
    refine va_iald hx hb hK hP 1 0 rfl rfl hi_13 dX10_count_87 ?_
    cases h
    rw [← hQe]
    exact W.iret hx hb hr (fun t ht hW => ⟨⟨_, (), rfl, rfl, by rw [ht]; exact hP, va_K.moved hW.alike hK, hD⟩, hS.F ht⟩) hS.2.2 dX10_count_88
  replace h := ifn_el c_12 h
  by_cases c_14 : p1 = (nI 6)
  · replace h := ifp_el c_14 h
    refine lv_tableIn (off := 88) (tgt := 89) hx hb dX10_count_1 (by rw [c_14]; decide) (by rw [c_14]; decide) (by rw [c_14]; decide) (by decide) ?_
    refine lv_aload_n hx hb dX10_count_89 rfl (lv_at hl 0 rfl) ?_
    refine va_get (D := D) (ci := 8) (v := .ref q_l) (C := RX10) (T := TX10) (N := 13) hx hb hts i_X10 hown hK hP 0 rfl rfl 4 (by decide) k_16 (fun _ h9 => h9) rfl dX10_count_90 ?_
    refine lv_sipush (v := (nI 299)) hx hb dX10_count_93 (by decide) ?_
    obtain ⟨hi_15, h⟩ := ck_el h
    refine va_iald hx hb hK hP 1 0 rfl rfl hi_15 dX10_count_96 ?_
    cases h
    rw [← hQe]
    exact W.iret hx hb hr (fun t ht hW => ⟨⟨_, (), rfl, rfl, by rw [ht]; exact hP, va_K.moved hW.alike hK, hD⟩, hS.F ht⟩) hS.2.2 dX10_count_97
  replace h := ifn_el c_14 h
  have hdf : W p l e (headSpec wsX10_count rm_X10_count).room s m args below meth c s.heap [] 0 0 Q (F0 m 98 ls []) := by
    refine lv_iconst (v := (-1 : Int32)) hx hb dX10_count_98 (by decide) ?_
    cases h
    rw [← hQe]
    exact W.iret hx hb hr (fun t ht hW => ⟨⟨_, (), rfl, rfl, by rw [ht]; exact hP, va_K.moved hW.alike hK, hD⟩, hS.F ht⟩) hS.2.2 dX10_count_99
  by_cases c_16 : (p1).toInt < 0 ∨ 6 < (p1).toInt
  · exact lv_tableOut hx hb dX10_count_1 c_16 (by decide) hdf
  have n_c_1 := lv_neT (a := 0) c_1 (by decide)
  have n_c_6 := lv_neT (a := 1) c_6 (by decide)
  have n_c_7 := lv_neT (a := 2) c_7 (by decide)
  have n_c_9 := lv_neT (a := 3) c_9 (by decide)
  have n_c_11 := lv_neT (a := 4) c_11 (by decide)
  have n_c_12 := lv_neT (a := 5) c_12 (by decide)
  have n_c_14 := lv_neT (a := 6) c_14 (by decide)
  omega
