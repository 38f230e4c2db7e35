def b_X10_write_34 (p2 : Int64) (rec34 : Int32 → Int32 → (Nat → Int32) → Option (Int32 × (Nat → Int32))) (x4_6 : Int32) (y_size_7 : Int32) (y_text_8 : Nat → Int32) : Option (Int32 × (Nat → Int32)) := (if x4_6 < 0 then some (y_size_7, y_text_8) else nm (((p2 >>> (((nI 8) * x4_6).toInt64 &&& 63)) &&& (lN 255)).toInt32) (fun w_12 => ck 500 y_size_7 (nm (y_size_7 + (nI 1)) (fun w_14 => nm (x4_6 + (-1 : Int32)) (fun x4_15 => rec34 x4_15 w_14 (upd y_text_8 y_size_7.toNatClampNeg w_12))))))
def D_X10_write (F : Nat) (p1 : Int32) (p2 : Int64) (v_size : Int32) (v_text : Nat → Int32) : Option (Int32 × Int32 × (Nat → Int32)) := bd1 (D_X10_in p1.toInt64 (lN 1) (lN 8)) (fun r_1 => (if r_1 = 0 then some ((-1 : Int32), v_size, v_text) else (if (v_size + p1) ≤ (nI 500) then nm (p1 - (nI 1)) (fun x4_5 => bd2 (lpg (T := Int32 → Int32 → (Nat → Int32) → Option (Int32 × (Nat → Int32))) (fun _ _ _ => none) (b_X10_write_34 p2) F x4_5 v_size v_text) (fun o_9 o_10 => some (o_9, o_9, o_10))) else some ((-3 : Int32), v_size, v_text))))
abbrev rm_X10_write : Room := { frames := 1, cells := 0, slots := 0, locals := 25 }
set_option maxHeartbeats 4000000 in
set_option maxRecDepth 100000 in
theorem c_X10_write (l : Launch) (D : va_G) (ca : Nat → ClassId) (F : Nat) (sz : Nat) (q_this q_text q_read q_l q_stands q_kept q_one q_two q_ways q_now q_then : Nat) (p1 : Int32) (p2 : Int64) (v_size : Int32) (v_at : Int32) (v_keptMany : Int32) (v_text : Nat → Int32) (r : Int32) (o_size : Int32) (o_text : Nat → Int32) (h : D_X10_write F p1 p2 v_size v_text = some (r, o_size, o_text)) : Met l yX10_write wsX10_write rm_X10_write (va_Pc [.ref q_this, .int p1, .long p2] (kPre D ca [(q_this, .inr (8, [.ref q_text, .int v_size, .int v_at, .ref q_read, .ref q_l, .ref q_stands, .ref q_kept, .int v_keptMany, .ref q_one, .ref q_two, .ref q_ways, .ref q_now, .ref q_then])), (q_text, .inl (ca 0, 500, .inl v_text))] sz)) (kQi D ca (va_A [(q_this, .inr (8, [.ref q_text, .int v_size, .int v_at, .ref q_read, .ref q_l, .ref q_stands, .ref q_kept, .int v_keptMany, .ref q_one, .ref q_two, .ref q_ways, .ref q_now, .ref q_then])), (q_text, .inl (ca 0, 500, .inl v_text))] sz) [(q_this, .inr (8, [.ref q_text, .int o_size, .int v_at, .ref q_read, .ref q_l, .ref q_stands, .ref q_kept, .int v_keptMany, .ref q_one, .ref q_two, .ref q_ways, .ref q_now, .ref q_then])), (q_text, .inl (ca 0, 500, .inl o_text))] r) 0 0 (va_A [(q_this, .inr (8, [.ref q_text, .int v_size, .int v_at, .ref q_read, .ref q_l, .ref q_stands, .ref q_kept, .int v_keptMany, .ref q_one, .ref q_two, .ref q_ways, .ref q_now, .ref q_then])), (q_text, .inl (ca 0, 500, .inl v_text))] sz) := by
  refine Met.ofW (cc := cX10_write) (maxL := 5) (ret := (some .int)) (by decide +kernel) rfl ?_
  intro p e s m args below meth c s₁ B hml hv
  obtain ⟨rfl, hsz, hP, hK, hD0⟩ := hv
  have hx := B.exec
  have hb := B.bytes
  have hr := B.returns
  have hts := atoms_spec (ws := wsX10_write) B.pre
  have hown : s.vm.findClass RX10 = some m.cls := findClass_of_methodNamed B.named
  have hlocks := B.notSynchronized
  clear B
  subst hsz
  have hD := hD0.self (sz := s.heap.size)
  generalize hAe : va_A [(q_this, .inr (8, [.ref q_text, .int v_size, .int v_at, .ref q_read, .ref q_l, .ref q_stands, .ref q_kept, .int v_keptMany, .ref q_one, .ref q_two, .ref q_ways, .ref q_now, .ref q_then])), (q_text, .inl (ca 0, 500, .inl v_text))] s.heap.size = A at hD ⊢
  have hA : ∀ q : Nat, s.heap.size ≤ q → A q := fun q h => by rw [← hAe]; exact Or.inr h
  have hS : va_S A s.heap s.heap [] := va_S.rf
  have hl := lv_entry ([.ref q_this, .int p1, .long p2]) (n := 5) (Nat.le_of_ble_eq_true rfl)
  rw [lg_entry_eq]
  generalize (lg_sl ([.ref q_this, .int p1, .long p2]) ++ List.replicate (5 - (lg_sl ([.ref q_this, .int p1, .long p2])).length) Slot.unset).toArray = ls at hl ⊢
  have hl : lv_has ls 5 [(0, .ref q_this), (1, .int p1), (2, .long p2)] := hl
  generalize ([.ref q_this, .int p1, .long p2] : List Value).toArray = args at hts ⊢
  generalize hQe : MQ below (kQi D ca (A) [(q_this, .inr (8, [.ref q_text, .int o_size, .int v_at, .ref q_read, .ref q_l, .ref q_stands, .ref q_kept, .int v_keptMany, .ref q_one, .ref q_two, .ref q_ways, .ref q_now, .ref q_then])), (q_text, .inl (ca 0, 500, .inl o_text))] r) args s 0 0 A = Q
  have k_47 := hts (.constantLong RX10 47 (lN 8)) (by decide +kernel)
  have i_X10 : ∀ w ∈ u_ws RX10 TX10 13, w ∈ wsX10_write := by decide +kernel
  have k_53 := hts (.fieldLink RX10 53 "TradeWordsModel" "size" "I") (by decide +kernel)
  have k_7 := hts (.fieldLink RX10 7 "TradeWordsModel" "text" "[I") (by decide +kernel)
  have k_57 := hts (.constantLong RX10 57 (lN 255)) (by decide +kernel)
  rw [D_X10_write] at h
  refine lv_iload_n hx hb dX10_write_0 rfl (lv_at hl 1 rfl) ?_
  refine lv_i2l hx hb dX10_write_1 rfl ?_
  refine lv_lconst (v := (lN 1)) hx hb dX10_write_2 (by decide) ?_
  refine lv_ldc2 hx hb hown k_47 dX10_write_3 ?_
  obtain ⟨r_1, hg_2, h⟩ := bd1_el h
  refine kx_Si (As := [.long p1.toInt64, .long (lN 1), .long (lN 8)]) (rest := []) (wr := [(q_this, .inr (8, [.ref q_text, .int v_size, .int v_at, .ref q_read, .ref q_l, .ref q_stands, .ref q_kept, .int v_keptMany, .ref q_one, .ref q_two, .ref q_ways, .ref q_now, .ref q_then])), (q_text, .inl (ca 0, 500, .inl v_text))]) (w1 := []) (wn := [(q_this, .inr (8, [.ref q_text, .int v_size, .int v_at, .ref q_read, .ref q_l, .ref q_stands, .ref q_kept, .int v_keptMany, .ref q_one, .ref q_two, .ref q_ways, .ref q_now, .ref q_then])), (q_text, .inl (ca 0, 500, .inl v_text))]) ⟨hx, hb, hml, hown, hts⟩ (c_X10_in l D ca s.heap.size p1.toInt64 (lN 1) (lN 8) r_1 hg_2) (va_cwS 3 hts gX10_write_X10_in rfl rfl rfl (by decide +kernel) ⟨(Nat.le_of_ble_eq_true rfl), (Nat.le_of_ble_eq_true rfl)⟩) hK hP hD hS hA [] [0, 1] [0, 1] rfl rfl rfl rfl (by decide) rfl rfl rfl hl.1 rfl (Nat.le_of_ble_eq_true rfl) dX10_write_6 ⟨Nat.zero_le _, Nat.zero_le _⟩ (fun H locs hP hD hS => ?_)
  refine lv_if_ne (tgt := 14) hx hb dX10_write_9 (by decide) (fun c_3 => ?_) (fun c_3 => ?_)
  · replace h := ifn_el c_3 h
    refine lv_aload_n hx hb dX10_write_14 rfl (lv_at hl 0 rfl) ?_
    refine va_get (D := D) (ci := 8) (v := .int v_size) (C := RX10) (T := TX10) (N := 13) hx hb hts i_X10 hown hK hP 0 rfl rfl 1 (by decide) k_53 (fun _ h9 => h9) rfl dX10_write_15 ?_
    refine lv_iload_n hx hb dX10_write_18 rfl (lv_at hl 1 rfl) ?_
    refine lv_iadd hx hb dX10_write_19 ?_
    refine lv_sipush (v := (nI 500)) hx hb dX10_write_20 (by decide) ?_
    refine lv_icmp_le (tgt := 29) hx hb dX10_write_23 (by decide) (fun c_4 => ?_) (fun c_4 => ?_)
    · replace h := ifp_el c_4 h
      refine lv_iload_n hx hb dX10_write_29 rfl (lv_at hl 1 rfl) ?_
      refine lv_iconst (v := (nI 1)) hx hb dX10_write_30 (by decide) ?_
      refine lv_isub hx hb dX10_write_31 ?_
      refine lv_nmi h (fun x4_5 h => ?_)
      refine lv_istore (lv' := [(4, .int x4_5), (0, .ref q_this), (1, .int p1), (2, .long p2)]) hx hb dX10_write_32 hl (by decide) rfl (fun ls hl => ?_)
      obtain ⟨o_9, o_10, hL, h⟩ := bd2_el h
      have hex : ∀ (H : Heap) (locs : List Loc) (ls : Array Slot), va_P D vwCl [(q_this, .inr (8, [.ref q_text, .int o_9, .int v_at, .ref q_read, .ref q_l, .ref q_stands, .ref q_kept, .int v_keptMany, .ref q_one, .ref q_two, .ref q_ways, .ref q_now, .ref q_then])), (q_text, .inl (ca 0, 500, .inl o_10))] H → va_D A [(q_this, .inr (8, [.ref q_text, .int o_9, .int v_at, .ref q_read, .ref q_l, .ref q_stands, .ref q_kept, .int v_keptMany, .ref q_one, .ref q_two, .ref q_ways, .ref q_now, .ref q_then])), (q_text, .inl (ca 0, 500, .inl o_10))] → va_S A s.heap H locs → lv_has ls 5 [(0, .ref q_this)] → W p l e (headSpec wsX10_write rm_X10_write).room s m args below meth c H locs 0 0 Q (F0 m 76 ls []) := by
        intro H locs ls hP hD hS hl
        refine lv_aload_n hx hb dX10_write_76 rfl (lv_at hl 0 rfl) ?_
        refine va_get (D := D) (ci := 8) (v := .int o_9) (C := RX10) (T := TX10) (N := 13) hx hb hts i_X10 hown hK hP 0 rfl rfl 1 (by decide) k_53 (fun _ h9 => h9) rfl dX10_write_77 ?_
        cases h
        rw [← hQe]
        exact W.iret hx hb hr (fun t ht hW => ⟨⟨_, (), rfl, rfl, by rw [ht]; exact hP, va_K.moved hW.alike hK, hD⟩, hS.F ht⟩) hS.2.2 dX10_write_80
      have hlp : ∀ (n : Nat) (x4_6 : Int32) (y_size_7 : Int32) (y_text_8 : Nat → Int32) (o_9 : Int32) (o_10 : Nat → Int32) (H : Heap) (locs : List Loc) (ls : Array Slot), lpg (T := Int32 → Int32 → (Nat → Int32) → Option (Int32 × (Nat → Int32))) (fun _ _ _ => none) (b_X10_write_34 p2) n x4_6 y_size_7 y_text_8 = some (o_9, o_10) → (∀ (H : Heap) (locs : List Loc) (ls : Array Slot), va_P D vwCl [(q_this, .inr (8, [.ref q_text, .int o_9, .int v_at, .ref q_read, .ref q_l, .ref q_stands, .ref q_kept, .int v_keptMany, .ref q_one, .ref q_two, .ref q_ways, .ref q_now, .ref q_then])), (q_text, .inl (ca 0, 500, .inl o_10))] H → va_D A [(q_this, .inr (8, [.ref q_text, .int o_9, .int v_at, .ref q_read, .ref q_l, .ref q_stands, .ref q_kept, .int v_keptMany, .ref q_one, .ref q_two, .ref q_ways, .ref q_now, .ref q_then])), (q_text, .inl (ca 0, 500, .inl o_10))] → va_S A s.heap H locs → lv_has ls 5 [(0, .ref q_this)] → W p l e (headSpec wsX10_write rm_X10_write).room s m args below meth c H locs 0 0 Q (F0 m 76 ls [])) → va_P D vwCl [(q_this, .inr (8, [.ref q_text, .int y_size_7, .int v_at, .ref q_read, .ref q_l, .ref q_stands, .ref q_kept, .int v_keptMany, .ref q_one, .ref q_two, .ref q_ways, .ref q_now, .ref q_then])), (q_text, .inl (ca 0, 500, .inl y_text_8))] H → va_D A [(q_this, .inr (8, [.ref q_text, .int y_size_7, .int v_at, .ref q_read, .ref q_l, .ref q_stands, .ref q_kept, .int v_keptMany, .ref q_one, .ref q_two, .ref q_ways, .ref q_now, .ref q_then])), (q_text, .inl (ca 0, 500, .inl y_text_8))] → va_S A s.heap H locs → lv_has ls 5 [(0, .ref q_this), (2, .long p2), (4, .int x4_6)] → W p l e (headSpec wsX10_write rm_X10_write).room s m args below meth c H locs 0 0 Q (F0 m 34 ls []) := by
        intro n
        induction n with
        | zero => intro x4_6 y_size_7 y_text_8 o_9 o_10 H locs ls h; have h : (none : Option (Int32 × (Nat → Int32))) = some _ := h; cases h
        | succ n ih =>
          intro x4_6 y_size_7 y_text_8 o_9 o_10 H locs ls h hex hP hD hS hl
          rw [lpg_succ, b_X10_write_34] at h
          refine lv_iload hx hb dX10_write_34 (lv_at hl 2 rfl) ?_
          refine lv_if_lt (tgt := 76) hx hb dX10_write_36 (by decide) (fun c_11 => ?_) (fun c_11 => ?_)
          · replace h := ifp_el c_11 h
            cases h
            exact hex _ _ _ hP hD hS (lv_sub hl [0] rfl)
          · replace h := ifn_el c_11 h
            refine lv_aload_n hx hb dX10_write_39 rfl (lv_at hl 0 rfl) ?_
            refine va_get (D := D) (ci := 8) (v := .ref q_text) (C := RX10) (T := TX10) (N := 13) hx hb hts i_X10 hown hK hP 0 rfl rfl 0 (by decide) k_7 (fun _ h9 => h9) rfl dX10_write_40 ?_
            refine lv_aload_n hx hb dX10_write_43 rfl (lv_at hl 0 rfl) ?_
            refine va_get (D := D) (ci := 8) (v := .int y_size_7) (C := RX10) (T := TX10) (N := 13) hx hb hts i_X10 hown hK hP 0 rfl rfl 1 (by decide) k_53 (fun _ h9 => h9) rfl dX10_write_44 ?_
            refine lv_lload_n hx hb dX10_write_47 rfl (lv_at hl 1 rfl) ?_
            refine lv_bipush (v := (nI 8)) hx hb dX10_write_48 (by decide) ?_
            refine lv_iload hx hb dX10_write_50 (lv_at hl 2 rfl) ?_
            refine lv_imul hx hb dX10_write_52 ?_
            refine lv_lshr hx hb dX10_write_53 rfl ?_
            refine lv_ldc2 hx hb hown k_57 dX10_write_54 ?_
            refine lv_land hx hb dX10_write_57 ?_
            refine lv_l2i hx hb dX10_write_58 rfl ?_
            refine lv_nmi h (fun w_12 h => ?_)
            obtain ⟨hi_13, h⟩ := ck_el h
            refine va_iast hx hb hK hP hD hS 1 0 rfl rfl hi_13 dX10_write_59 (fun H locs hP hD hS => ?_)
            have hP : va_P D vwCl [(q_this, .inr (8, [.ref q_text, .int y_size_7, .int v_at, .ref q_read, .ref q_l, .ref q_stands, .ref q_kept, .int v_keptMany, .ref q_one, .ref q_two, .ref q_ways, .ref q_now, .ref q_then])), (q_text, .inl (ca 0, 500, .inl (upd y_text_8 y_size_7.toNatClampNeg w_12)))] H := hP
            have hD : va_D A [(q_this, .inr (8, [.ref q_text, .int y_size_7, .int v_at, .ref q_read, .ref q_l, .ref q_stands, .ref q_kept, .int v_keptMany, .ref q_one, .ref q_two, .ref q_ways, .ref q_now, .ref q_then])), (q_text, .inl (ca 0, 500, .inl (upd y_text_8 y_size_7.toNatClampNeg w_12)))] := hD
            refine lv_aload_n hx hb dX10_write_60 rfl (lv_at hl 0 rfl) ?_
            refine lv_dup hx hb dX10_write_61 rfl ?_
            refine va_get (D := D) (ci := 8) (v := .int y_size_7) (C := RX10) (T := TX10) (N := 13) hx hb hts i_X10 hown hK hP 0 rfl rfl 1 (by decide) k_53 (fun _ h9 => h9) rfl dX10_write_62 ?_
            refine lv_iconst (v := (nI 1)) hx hb dX10_write_65 (by decide) ?_
            refine lv_iadd hx hb dX10_write_66 ?_
            refine lv_nmi h (fun w_14 h => ?_)
            refine va_put (D := D) (ci := 8) (v := .int w_14) (ty := .int) (C := RX10) (T := TX10) (N := 13) hx hb hts i_X10 tyX10 tyX10_ok nmX10 hown hK hP hD hS 0 rfl rfl 1 (by decide) k_53 (fun _ h9 => h9) rfl (by decide +kernel) rfl rfl (Nat.le_of_ble_eq_true rfl) dX10_write_67 (fun H locs hP hD hS => ?_)
            have hP : va_P D vwCl [(q_this, .inr (8, [.ref q_text, .int w_14, .int v_at, .ref q_read, .ref q_l, .ref q_stands, .ref q_kept, .int v_keptMany, .ref q_one, .ref q_two, .ref q_ways, .ref q_now, .ref q_then])), (q_text, .inl (ca 0, 500, .inl (upd y_text_8 y_size_7.toNatClampNeg w_12)))] H := hP
            have hD : va_D A [(q_this, .inr (8, [.ref q_text, .int w_14, .int v_at, .ref q_read, .ref q_l, .ref q_stands, .ref q_kept, .int v_keptMany, .ref q_one, .ref q_two, .ref q_ways, .ref q_now, .ref q_then])), (q_text, .inl (ca 0, 500, .inl (upd y_text_8 y_size_7.toNatClampNeg w_12)))] := hD
            obtain ⟨x4_15, e_16, h⟩ := nm_el h
            refine lv_iinc (v := x4_15) (lv' := [(4, .int x4_15), (0, .ref q_this), (2, .long p2)]) hx hb dX10_write_70 hl (k := 2) rfl (by rw [← e_16]; rfl) (by decide) rfl (fun ls hl => ?_)
            refine lv_goto (tgt := 34) hx hb dX10_write_73 (by decide) ?_
            exact ih _ _ _ _ _ _ _ _ h hex hP hD hS (lv_sub hl [1, 2, 0] rfl)
      exact hlp F x4_5 v_size v_text o_9 o_10 H locs ls hL hex hP hD hS (lv_sub hl [1, 3, 0] rfl)
    · replace h := ifn_el c_4 h
      refine lv_bipush (v := (-3 : Int32)) hx hb dX10_write_26 (by decide) ?_
      cases h
      rw [← hQe]
      exact W.iret hx hb hr (fun t ht hW => ⟨⟨_, (), rfl, rfl, by rw [ht]; exact hP, va_K.moved hW.alike hK, hD⟩, hS.F ht⟩) hS.2.2 dX10_write_28
  · replace h := ifp_el c_3 h
    refine lv_iconst (v := (-1 : Int32)) hx hb dX10_write_12 (by decide) ?_
    cases h
    rw [← hQe]
    exact W.iret hx hb hr (fun t ht hW => ⟨⟨_, (), rfl, rfl, by rw [ht]; exact hP, va_K.moved hW.alike hK, hD⟩, hS.F ht⟩) hS.2.2 dX10_write_13
def D_X10_wipe (v_size : Int32) : Option (Int32 × Int32) := some (v_size, (nI 0))
abbrev rm_X10_wipe : Room := { frames := 0, cells := 0, slots := 0, locals := 0 }
set_option maxHeartbeats 4000000 in
set_option maxRecDepth 100000 in
theorem c_X10_wipe (l : Launch) (D : va_G) (ca : Nat → ClassId) (sz : Nat) (q_this q_text q_read q_l q_stands q_kept q_one q_two q_ways q_now q_then : Nat) (v_size : Int32) (v_at : Int32) (v_keptMany : Int32) (r : Int32) (o_size : Int32) (h : D_X10_wipe v_size = some (r, o_size)) : Met l yX10_wipe wsX10_wipe rm_X10_wipe (va_Pc [.ref q_this] (kPre D ca [(q_this, .inr (8, [.ref q_text, .int v_size, .int v_at, .ref q_read, .ref q_l, .ref q_stands, .ref q_kept, .int v_keptMany, .ref q_one, .ref q_two, .ref q_ways, .ref q_now, .ref q_then]))] sz)) (kQi D ca (va_A [(q_this, .inr (8, [.ref q_text, .int v_size, .int v_at, .ref q_read, .ref q_l, .ref q_stands, .ref q_kept, .int v_keptMany, .ref q_one, .ref q_two, .ref q_ways, .ref q_now, .ref q_then]))] sz) [(q_this, .inr (8, [.ref q_text, .int o_size, .int v_at, .ref q_read, .ref q_l, .ref q_stands, .ref q_kept, .int v_keptMany, .ref q_one, .ref q_two, .ref q_ways, .ref q_now, .ref q_then]))] r) 0 0 (va_A [(q_this, .inr (8, [.ref q_text, .int v_size, .int v_at, .ref q_read, .ref q_l, .ref q_stands, .ref q_kept, .int v_keptMany, .ref q_one, .ref q_two, .ref q_ways, .ref q_now, .ref q_then]))] sz) := by
  refine Met.ofW (cc := cX10_wipe) (maxL := 2) (ret := (some .int)) (by decide +kernel) rfl ?_
  intro p e s m args below meth c s₁ B hml hv
  obtain ⟨rfl, hsz, hP, hK, hD0⟩ := hv
  have hx := B.exec
  have hb := B.bytes
  have hr := B.returns
  have hts := atoms_spec (ws := wsX10_wipe) B.pre
  have hown : s.vm.findClass RX10 = some m.cls := findClass_of_methodNamed B.named
  have hlocks := B.notSynchronized
  clear B
  subst hsz
  have hD := hD0.self (sz := s.heap.size)
  generalize hAe : va_A [(q_this, .inr (8, [.ref q_text, .int v_size, .int v_at, .ref q_read, .ref q_l, .ref q_stands, .ref q_kept, .int v_keptMany, .ref q_one, .ref q_two, .ref q_ways, .ref q_now, .ref q_then]))] s.heap.size = A at hD ⊢
  have hA : ∀ q : Nat, s.heap.size ≤ q → A q := fun q h => by rw [← hAe]; exact Or.inr h
  have hS : va_S A s.heap s.heap [] := va_S.rf
  have hl := lv_entry ([.ref q_this]) (n := 2) (Nat.le_of_ble_eq_true rfl)
  rw [lg_entry_eq]
  generalize (lg_sl ([.ref q_this]) ++ List.replicate (2 - (lg_sl ([.ref q_this])).length) Slot.unset).toArray = ls at hl ⊢
  have hl : lv_has ls 2 [(0, .ref q_this)] := hl
  generalize ([.ref q_this] : List Value).toArray = args at hts ⊢
  generalize hQe : MQ below (kQi D ca (A) [(q_this, .inr (8, [.ref q_text, .int o_size, .int v_at, .ref q_read, .ref q_l, .ref q_stands, .ref q_kept, .int v_keptMany, .ref q_one, .ref q_two, .ref q_ways, .ref q_now, .ref q_then]))] r) args s 0 0 A = Q
  have i_X10 : ∀ w ∈ u_ws RX10 TX10 13, w ∈ wsX10_wipe := by decide +kernel
  have k_53 := hts (.fieldLink RX10 53 "TradeWordsModel" "size" "I") (by decide +kernel)
  rw [D_X10_wipe] at h
  refine lv_aload_n hx hb dX10_wipe_0 rfl (lv_at hl 0 rfl) ?_
  refine va_get (D := D) (ci := 8) (v := .int v_size) (C := RX10) (T := TX10) (N := 13) hx hb hts i_X10 hown hK hP 0 rfl rfl 1 (by decide) k_53 (fun _ h9 => h9) rfl dX10_wipe_1 ?_
  refine lv_istore_n (lv' := [(1, .int v_size), (0, .ref q_this)]) hx hb dX10_wipe_4 rfl hl (by decide) rfl (fun ls hl => ?_)
  refine lv_aload_n hx hb dX10_wipe_5 rfl (lv_at hl 1 rfl) ?_
  refine lv_iconst (v := (nI 0)) hx hb dX10_wipe_6 (by decide) ?_
  refine va_put (D := D) (ci := 8) (v := .int (nI 0)) (ty := .int) (C := RX10) (T := TX10) (N := 13) hx hb hts i_X10 tyX10 tyX10_ok nmX10 hown hK hP hD hS 0 rfl rfl 1 (by decide) k_53 (fun _ h9 => h9) rfl (by decide +kernel) rfl rfl (Nat.le_of_ble_eq_true rfl) dX10_wipe_7 (fun H locs hP hD hS => ?_)
  have hP : va_P D vwCl [(q_this, .inr (8, [.ref q_text, .int (nI 0), .int v_at, .ref q_read, .ref q_l, .ref q_stands, .ref q_kept, .int v_keptMany, .ref q_one, .ref q_two, .ref q_ways, .ref q_now, .ref q_then]))] H := hP
  have hD : va_D A [(q_this, .inr (8, [.ref q_text, .int (nI 0), .int v_at, .ref q_read, .ref q_l, .ref q_stands, .ref q_kept, .int v_keptMany, .ref q_one, .ref q_two, .ref q_ways, .ref q_now, .ref q_then]))] := hD
  refine lv_iload_n hx hb dX10_wipe_10 rfl (lv_at hl 0 rfl) ?_
  cases h
  rw [← hQe]
  exact W.iret hx hb hr (fun t ht hW => ⟨⟨_, (), rfl, rfl, by rw [ht]; exact hP, va_K.moved hW.alike hK, hD⟩, hS.F ht⟩) hS.2.2 dX10_wipe_11
def b_X10_begin_2  (rec2 : Int32 → (Nat → Int32) → Option ((Nat → Int32))) (x1_1 : Int32) (y_read_2 : Nat → Int32) : Option ((Nat → Int32)) := (if (nI 336) ≤ x1_1 then some (y_read_2) else ck 336 x1_1 (nm (x1_1 + (nI 1)) (fun x1_6 => rec2 x1_6 (upd y_read_2 x1_1.toNatClampNeg (nI 0)))))
def b_X10_begin_24  (rec24 : Int32 → (Nat → Int32) → Option ((Nat → Int32))) (x1_8 : Int32) (y_read_9 : Nat → Int32) : Option ((Nat → Int32)) := (if (nI 16) ≤ x1_8 then some (y_read_9) else ck 336 ((nI 282) + x1_8) (nm (x1_8 + (nI 1)) (fun x1_13 => rec24 x1_13 (upd y_read_9 ((nI 282) + x1_8).toNatClampNeg (-1 : Int32)))))
def D_X10_begin (F : Nat) (v_read : Nat → Int32) : Option ((Nat → Int32)) := bd1 (lpg (T := Int32 → (Nat → Int32) → Option ((Nat → Int32))) (fun _ _ => none) (b_X10_begin_2) F (nI 0) v_read) (fun o_3 => bd1 (lpg (T := Int32 → (Nat → Int32) → Option ((Nat → Int32))) (fun _ _ => none) (b_X10_begin_24) F (nI 0) o_3) (fun o_10 => ck 336 (nI 280) (ck 336 (nI 281) (ck 336 (nI 298) (ck 336 (nI 299) (ck 336 (nI 300) (ck 336 (nI 301) (ck 336 (nI 302) (ck 336 (nI 303) (some ((upd (upd (upd (upd (upd (upd (upd (upd o_10 (nI 280).toNatClampNeg (nI 65535)) (nI 281).toNatClampNeg (nI 65535)) (nI 298).toNatClampNeg (nI 4)) (nI 299).toNatClampNeg (nI 4)) (nI 300).toNatClampNeg (nI 5)) (nI 301).toNatClampNeg (nI 5)) (nI 302).toNatClampNeg (nI 5)) (nI 303).toNatClampNeg (nI 70)))))))))))))
abbrev rm_X10_begin : Room := { frames := 0, cells := 0, slots := 0, locals := 0 }
set_option maxHeartbeats 4000000 in
set_option maxRecDepth 100000 in
theorem c_X10_begin (l : Launch) (D : va_G) (ca : Nat → ClassId) (F : Nat) (sz : Nat) (q_this q_text q_read q_l q_stands q_kept q_one q_two q_ways q_now q_then : Nat) (v_size : Int32) (v_at : Int32) (v_keptMany : Int32) (v_read : Nat → Int32) (o_read : Nat → Int32) (h : D_X10_begin F v_read = some (o_read)) : Met l yX10_begin wsX10_begin rm_X10_begin (va_Pc [.ref q_this] (kPre D ca [(q_this, .inr (8, [.ref q_text, .int v_size, .int v_at, .ref q_read, .ref q_l, .ref q_stands, .ref q_kept, .int v_keptMany, .ref q_one, .ref q_two, .ref q_ways, .ref q_now, .ref q_then])), (q_read, .inl (ca 0, 336, .inl v_read))] sz)) (kQv D ca (va_A [(q_this, .inr (8, [.ref q_text, .int v_size, .int v_at, .ref q_read, .ref q_l, .ref q_stands, .ref q_kept, .int v_keptMany, .ref q_one, .ref q_two, .ref q_ways, .ref q_now, .ref q_then])), (q_read, .inl (ca 0, 336, .inl v_read))] sz) [(q_this, .inr (8, [.ref q_text, .int v_size, .int v_at, .ref q_read, .ref q_l, .ref q_stands, .ref q_kept, .int v_keptMany, .ref q_one, .ref q_two, .ref q_ways, .ref q_now, .ref q_then])), (q_read, .inl (ca 0, 336, .inl o_read))]) 0 0 (va_A [(q_this, .inr (8, [.ref q_text, .int v_size, .int v_at, .ref q_read, .ref q_l, .ref q_stands, .ref q_kept, .int v_keptMany, .ref q_one, .ref q_two, .ref q_ways, .ref q_now, .ref q_then])), (q_read, .inl (ca 0, 336, .inl v_read))] sz) := by
  refine Met.ofW (cc := cX10_begin) (maxL := 2) (ret := none) (by decide +kernel) rfl ?_
  intro p e s m args below meth c s₁ B hml hv
  obtain ⟨rfl, hsz, hP, hK, hD0⟩ := hv
  have hx := B.exec
  have hb := B.bytes
  have hr := B.returns
  have hts := atoms_spec (ws := wsX10_begin) B.pre
  have hown : s.vm.findClass RX10 = some m.cls := findClass_of_methodNamed B.named
  have hlocks := B.notSynchronized
  clear B
  subst hsz
  have hD := hD0.self (sz := s.heap.size)
  generalize hAe : va_A [(q_this, .inr (8, [.ref q_text, .int v_size, .int v_at, .ref q_read, .ref q_l, .ref q_stands, .ref q_kept, .int v_keptMany, .ref q_one, .ref q_two, .ref q_ways, .ref q_now, .ref q_then])), (q_read, .inl (ca 0, 336, .inl v_read))] s.heap.size = A at hD ⊢
  have hA : ∀ q : Nat, s.heap.size ≤ q → A q := fun q h => by rw [← hAe]; exact Or.inr h
  have hS : va_S A s.heap s.heap [] := va_S.rf
  have hl := lv_entry ([.ref q_this]) (n := 2) (Nat.le_of_ble_eq_true rfl)
  rw [lg_entry_eq]
  generalize (lg_sl ([.ref q_this]) ++ List.replicate (2 - (lg_sl ([.ref q_this])).length) Slot.unset).toArray = ls at hl ⊢
  have hl : lv_has ls 2 [(0, .ref q_this)] := hl
  generalize ([.ref q_this] : List Value).toArray = args at hts ⊢
  generalize hQe : MQ below (kQv D ca (A) [(q_this, .inr (8, [.ref q_text, .int v_size, .int v_at, .ref q_read, .ref q_l, .ref q_stands, .ref q_kept, .int v_keptMany, .ref q_one, .ref q_two, .ref q_ways, .ref q_now, .ref q_then])), (q_read, .inl (ca 0, 336, .inl o_read))]) args s 0 0 A = Q
  have i_X10 : ∀ w ∈ u_ws RX10 TX10 13, w ∈ wsX10_begin := by decide +kernel
  have k_13 := hts (.fieldLink RX10 13 "TradeWordsModel" "read" "[I") (by decide +kernel)
  have k_59 := hts (.constant RX10 59 (nI 65535)) (by decide +kernel)
  rw [D_X10_begin] at h
  refine lv_iconst (v := (nI 0)) hx hb dX10_begin_0 (by decide) ?_
  refine lv_istore_n (lv' := [(1, .int (nI 0)), (0, .ref q_this)]) hx hb dX10_begin_1 rfl hl (by decide) rfl (fun ls hl => ?_)
  obtain ⟨o_3, hL, h⟩ := bd1_el h
  have hex : ∀ (H : Heap) (locs : List Loc) (ls : Array Slot), va_P D vwCl [(q_this, .inr (8, [.ref q_text, .int v_size, .int v_at, .ref q_read, .ref q_l, .ref q_stands, .ref q_kept, .int v_keptMany, .ref q_one, .ref q_two, .ref q_ways, .ref q_now, .ref q_then])), (q_read, .inl (ca 0, 336, .inl o_3))] H → va_D A [(q_this, .inr (8, [.ref q_text, .int v_size, .int v_at, .ref q_read, .ref q_l, .ref q_stands, .ref q_kept, .int v_keptMany, .ref q_one, .ref q_two, .ref q_ways, .ref q_now, .ref q_then])), (q_read, .inl (ca 0, 336, .inl o_3))] → va_S A s.heap H locs → lv_has ls 2 [(0, .ref q_this)] → W p l e (headSpec wsX10_begin rm_X10_begin).room s m args below meth c H locs 0 0 Q (F0 m 22 ls []) := by
    intro H locs ls hP hD hS hl
    refine lv_iconst (v := (nI 0)) hx hb dX10_begin_22 (by decide) ?_
    refine lv_istore_n (lv' := [(1, .int (nI 0)), (0, .ref q_this)]) hx hb dX10_begin_23 rfl hl (by decide) rfl (fun ls hl => ?_)
    obtain ⟨o_10, hL, h⟩ := bd1_el h
    have hex : ∀ (H : Heap) (locs : List Loc) (ls : Array Slot), va_P D vwCl [(q_this, .inr (8, [.ref q_text, .int v_size, .int v_at, .ref q_read, .ref q_l, .ref q_stands, .ref q_kept, .int v_keptMany, .ref q_one, .ref q_two, .ref q_ways, .ref q_now, .ref q_then])), (q_read, .inl (ca 0, 336, .inl o_10))] H → va_D A [(q_this, .inr (8, [.ref q_text, .int v_size, .int v_at, .ref q_read, .ref q_l, .ref q_stands, .ref q_kept, .int v_keptMany, .ref q_one, .ref q_two, .ref q_ways, .ref q_now, .ref q_then])), (q_read, .inl (ca 0, 336, .inl o_10))] → va_S A s.heap H locs → lv_has ls 2 [(0, .ref q_this)] → W p l e (headSpec wsX10_begin rm_X10_begin).room s m args below meth c H locs 0 0 Q (F0 m 47 ls []) := by
      intro H locs ls hP hD hS hl
      refine lv_aload_n hx hb dX10_begin_47 rfl (lv_at hl 0 rfl) ?_
      refine va_get (D := D) (ci := 8) (v := .ref q_read) (C := RX10) (T := TX10) (N := 13) hx hb hts i_X10 hown hK hP 0 rfl rfl 3 (by decide) k_13 (fun _ h9 => h9) rfl dX10_begin_48 ?_
      refine lv_sipush (v := (nI 280)) hx hb dX10_begin_51 (by decide) ?_
      refine lv_ldc hx hb hown k_59 dX10_begin_54 ?_
      obtain ⟨hi_15, h⟩ := ck_el h
      refine va_iast hx hb hK hP hD hS 1 0 rfl rfl hi_15 dX10_begin_56 (fun H locs hP hD hS => ?_)
      have hP : va_P D vwCl [(q_this, .inr (8, [.ref q_text, .int v_size, .int v_at, .ref q_read, .ref q_l, .ref q_stands, .ref q_kept, .int v_keptMany, .ref q_one, .ref q_two, .ref q_ways, .ref q_now, .ref q_then])), (q_read, .inl (ca 0, 336, .inl (upd o_10 (nI 280).toNatClampNeg (nI 65535))))] H := hP
      have hD : va_D A [(q_this, .inr (8, [.ref q_text, .int v_size, .int v_at, .ref q_read, .ref q_l, .ref q_stands, .ref q_kept, .int v_keptMany, .ref q_one, .ref q_two, .ref q_ways, .ref q_now, .ref q_then])), (q_read, .inl (ca 0, 336, .inl (upd o_10 (nI 280).toNatClampNeg (nI 65535))))] := hD
      refine lv_aload_n hx hb dX10_begin_57 rfl (lv_at hl 0 rfl) ?_
      refine va_get (D := D) (ci := 8) (v := .ref q_read) (C := RX10) (T := TX10) (N := 13) hx hb hts i_X10 hown hK hP 0 rfl rfl 3 (by decide) k_13 (fun _ h9 => h9) rfl dX10_begin_58 ?_
      refine lv_sipush (v := (nI 281)) hx hb dX10_begin_61 (by decide) ?_
      refine lv_ldc hx hb hown k_59 dX10_begin_64 ?_
      obtain ⟨hi_16, h⟩ := ck_el h
      refine va_iast hx hb hK hP hD hS 1 0 rfl rfl hi_16 dX10_begin_66 (fun H locs hP hD hS => ?_)
      have hP : va_P D vwCl [(q_this, .inr (8, [.ref q_text, .int v_size, .int v_at, .ref q_read, .ref q_l, .ref q_stands, .ref q_kept, .int v_keptMany, .ref q_one, .ref q_two, .ref q_ways, .ref q_now, .ref q_then])), (q_read, .inl (ca 0, 336, .inl (upd (upd o_10 (nI 280).toNatClampNeg (nI 65535)) (nI 281).toNatClampNeg (nI 65535))))] H := hP
      have hD : va_D A [(q_this, .inr (8, [.ref q_text, .int v_size, .int v_at, .ref q_read, .ref q_l, .ref q_stands, .ref q_kept, .int v_keptMany, .ref q_one, .ref q_two, .ref q_ways, .ref q_now, .ref q_then])), (q_read, .inl (ca 0, 336, .inl (upd (upd o_10 (nI 280).toNatClampNeg (nI 65535)) (nI 281).toNatClampNeg (nI 65535))))] := hD
      refine lv_aload_n hx hb dX10_begin_67 rfl (lv_at hl 0 rfl) ?_
      refine va_get (D := D) (ci := 8) (v := .ref q_read) (C := RX10) (T := TX10) (N := 13) hx hb hts i_X10 hown hK hP 0 rfl rfl 3 (by decide) k_13 (fun _ h9 => h9) rfl dX10_begin_68 ?_
      refine lv_sipush (v := (nI 298)) hx hb dX10_begin_71 (by decide) ?_
      refine lv_iconst (v := (nI 4)) hx hb dX10_begin_74 (by decide) ?_
      obtain ⟨hi_17, h⟩ := ck_el h
      refine va_iast hx hb hK hP hD hS 1 0 rfl rfl hi_17 dX10_begin_75 (fun H locs hP hD hS => ?_)
      have hP : va_P D vwCl [(q_this, .inr (8, [.ref q_text, .int v_size, .int v_at, .ref q_read, .ref q_l, .ref q_stands, .ref q_kept, .int v_keptMany, .ref q_one, .ref q_two, .ref q_ways, .ref q_now, .ref q_then])), (q_read, .inl (ca 0, 336, .inl (upd (upd (upd o_10 (nI 280).toNatClampNeg (nI 65535)) (nI 281).toNatClampNeg (nI 65535)) (nI 298).toNatClampNeg (nI 4))))] H := hP
      have hD : va_D A [(q_this, .inr (8, [.ref q_text, .int v_size, .int v_at, .ref q_read, .ref q_l, .ref q_stands, .ref q_kept, .int v_keptMany, .ref q_one, .ref q_two, .ref q_ways, .ref q_now, .ref q_then])), (q_read, .inl (ca 0, 336, .inl (upd (upd (upd o_10 (nI 280).toNatClampNeg (nI 65535)) (nI 281).toNatClampNeg (nI 65535)) (nI 298).toNatClampNeg (nI 4))))] := hD
      refine lv_aload_n hx hb dX10_begin_76 rfl (lv_at hl 0 rfl) ?_
      refine va_get (D := D) (ci := 8) (v := .ref q_read) (C := RX10) (T := TX10) (N := 13) hx hb hts i_X10 hown hK hP 0 rfl rfl 3 (by decide) k_13 (fun _ h9 => h9) rfl dX10_begin_77 ?_
      refine lv_sipush (v := (nI 299)) hx hb dX10_begin_80 (by decide) ?_
      refine lv_iconst (v := (nI 4)) hx hb dX10_begin_83 (by decide) ?_
      obtain ⟨hi_18, h⟩ := ck_el h
      refine va_iast hx hb hK hP hD hS 1 0 rfl rfl hi_18 dX10_begin_84 (fun H locs hP hD hS => ?_)
      have hP : va_P D vwCl [(q_this, .inr (8, [.ref q_text, .int v_size, .int v_at, .ref q_read, .ref q_l, .ref q_stands, .ref q_kept, .int v_keptMany, .ref q_one, .ref q_two, .ref q_ways, .ref q_now, .ref q_then])), (q_read, .inl (ca 0, 336, .inl (upd (upd (upd (upd o_10 (nI 280).toNatClampNeg (nI 65535)) (nI 281).toNatClampNeg (nI 65535)) (nI 298).toNatClampNeg (nI 4)) (nI 299).toNatClampNeg (nI 4))))] H := hP
      have hD : va_D A [(q_this, .inr (8, [.ref q_text, .int v_size, .int v_at, .ref q_read, .ref q_l, .ref q_stands, .ref q_kept, .int v_keptMany, .ref q_one, .ref q_two, .ref q_ways, .ref q_now, .ref q_then])), (q_read, .inl (ca 0, 336, .inl (upd (upd (upd (upd o_10 (nI 280).toNatClampNeg (nI 65535)) (nI 281).toNatClampNeg (nI 65535)) (nI 298).toNatClampNeg (nI 4)) (nI 299).toNatClampNeg (nI 4))))] := hD
      refine lv_aload_n hx hb dX10_begin_85 rfl (lv_at hl 0 rfl) ?_
      refine va_get (D := D) (ci := 8) (v := .ref q_read) (C := RX10) (T := TX10) (N := 13) hx hb hts i_X10 hown hK hP 0 rfl rfl 3 (by decide) k_13 (fun _ h9 => h9) rfl dX10_begin_86 ?_
      refine lv_sipush (v := (nI 300)) hx hb dX10_begin_89 (by decide) ?_
      refine lv_iconst (v := (nI 5)) hx hb dX10_begin_92 (by decide) ?_
      obtain ⟨hi_19, h⟩ := ck_el h
      refine va_iast hx hb hK hP hD hS 1 0 rfl rfl hi_19 dX10_begin_93 (fun H locs hP hD hS => ?_)
      have hP : va_P D vwCl [(q_this, .inr (8, [.ref q_text, .int v_size, .int v_at, .ref q_read, .ref q_l, .ref q_stands, .ref q_kept, .int v_keptMany, .ref q_one, .ref q_two, .ref q_ways, .ref q_now, .ref q_then])), (q_read, .inl (ca 0, 336, .inl (upd (upd (upd (upd (upd o_10 (nI 280).toNatClampNeg (nI 65535)) (nI 281).toNatClampNeg (nI 65535)) (nI 298).toNatClampNeg (nI 4)) (nI 299).toNatClampNeg (nI 4)) (nI 300).toNatClampNeg (nI 5))))] H := hP
      have hD : va_D A [(q_this, .inr (8, [.ref q_text, .int v_size, .int v_at, .ref q_read, .ref q_l, .ref q_stands, .ref q_kept, .int v_keptMany, .ref q_one, .ref q_two, .ref q_ways, .ref q_now, .ref q_then])), (q_read, .inl (ca 0, 336, .inl (upd (upd (upd (upd (upd o_10 (nI 280).toNatClampNeg (nI 65535)) (nI 281).toNatClampNeg (nI 65535)) (nI 298).toNatClampNeg (nI 4)) (nI 299).toNatClampNeg (nI 4)) (nI 300).toNatClampNeg (nI 5))))] := hD
      refine lv_aload_n hx hb dX10_begin_94 rfl (lv_at hl 0 rfl) ?_
      refine va_get (D := D) (ci := 8) (v := .ref q_read) (C := RX10) (T := TX10) (N := 13) hx hb hts i_X10 hown hK hP 0 rfl rfl 3 (by decide) k_13 (fun _ h9 => h9) rfl dX10_begin_95 ?_
      refine lv_sipush (v := (nI 301)) hx hb dX10_begin_98 (by decide) ?_
      refine lv_iconst (v := (nI 5)) hx hb dX10_begin_101 (by decide) ?_
      obtain ⟨hi_20, h⟩ := ck_el h
      refine va_iast hx hb hK hP hD hS 1 0 rfl rfl hi_20 dX10_begin_102 (fun H locs hP hD hS => ?_)
      have hP : va_P D vwCl [(q_this, .inr (8, [.ref q_text, .int v_size, .int v_at, .ref q_read, .ref q_l, .ref q_stands, .ref q_kept, .int v_keptMany, .ref q_one, .ref q_two, .ref q_ways, .ref q_now, .ref q_then])), (q_read, .inl (ca 0, 336, .inl (upd (upd (upd (upd (upd (upd o_10 (nI 280).toNatClampNeg (nI 65535)) (nI 281).toNatClampNeg (nI 65535)) (nI 298).toNatClampNeg (nI 4)) (nI 299).toNatClampNeg (nI 4)) (nI 300).toNatClampNeg (nI 5)) (nI 301).toNatClampNeg (nI 5))))] H := hP
      have hD : va_D A [(q_this, .inr (8, [.ref q_text, .int v_size, .int v_at, .ref q_read, .ref q_l, .ref q_stands, .ref q_kept, .int v_keptMany, .ref q_one, .ref q_two, .ref q_ways, .ref q_now, .ref q_then])), (q_read, .inl (ca 0, 336, .inl (upd (upd (upd (upd (upd (upd o_10 (nI 280).toNatClampNeg (nI 65535)) (nI 281).toNatClampNeg (nI 65535)) (nI 298).toNatClampNeg (nI 4)) (nI 299).toNatClampNeg (nI 4)) (nI 300).toNatClampNeg (nI 5)) (nI 301).toNatClampNeg (nI 5))))] := hD
      refine lv_aload_n hx hb dX10_begin_103 rfl (lv_at hl 0 rfl) ?_
      refine va_get (D := D) (ci := 8) (v := .ref q_read) (C := RX10) (T := TX10) (N := 13) hx hb hts i_X10 hown hK hP 0 rfl rfl 3 (by decide) k_13 (fun _ h9 => h9) rfl dX10_begin_104 ?_
      refine lv_sipush (v := (nI 302)) hx hb dX10_begin_107 (by decide) ?_
      refine lv_iconst (v := (nI 5)) hx hb dX10_begin_110 (by decide) ?_
      obtain ⟨hi_21, h⟩ := ck_el h
      refine va_iast hx hb hK hP hD hS 1 0 rfl rfl hi_21 dX10_begin_111 (fun H locs hP hD hS => ?_)
      have hP : va_P D vwCl [(q_this, .inr (8, [.ref q_text, .int v_size, .int v_at, .ref q_read, .ref q_l, .ref q_stands, .ref q_kept, .int v_keptMany, .ref q_one, .ref q_two, .ref q_ways, .ref q_now, .ref q_then])), (q_read, .inl (ca 0, 336, .inl (upd (upd (upd (upd (upd (upd (upd o_10 (nI 280).toNatClampNeg (nI 65535)) (nI 281).toNatClampNeg (nI 65535)) (nI 298).toNatClampNeg (nI 4)) (nI 299).toNatClampNeg (nI 4)) (nI 300).toNatClampNeg (nI 5)) (nI 301).toNatClampNeg (nI 5)) (nI 302).toNatClampNeg (nI 5))))] H := hP
      have hD : va_D A [(q_this, .inr (8, [.ref q_text, .int v_size, .int v_at, .ref q_read, .ref q_l, .ref q_stands, .ref q_kept, .int v_keptMany, .ref q_one, .ref q_two, .ref q_ways, .ref q_now, .ref q_then])), (q_read, .inl (ca 0, 336, .inl (upd (upd (upd (upd (upd (upd (upd o_10 (nI 280).toNatClampNeg (nI 65535)) (nI 281).toNatClampNeg (nI 65535)) (nI 298).toNatClampNeg (nI 4)) (nI 299).toNatClampNeg (nI 4)) (nI 300).toNatClampNeg (nI 5)) (nI 301).toNatClampNeg (nI 5)) (nI 302).toNatClampNeg (nI 5))))] := hD
      refine lv_aload_n hx hb dX10_begin_112 rfl (lv_at hl 0 rfl) ?_
      refine va_get (D := D) (ci := 8) (v := .ref q_read) (C := RX10) (T := TX10) (N := 13) hx hb hts i_X10 hown hK hP 0 rfl rfl 3 (by decide) k_13 (fun _ h9 => h9) rfl dX10_begin_113 ?_
      refine lv_sipush (v := (nI 303)) hx hb dX10_begin_116 (by decide) ?_
      refine lv_bipush (v := (nI 70)) hx hb dX10_begin_119 (by decide) ?_
      obtain ⟨hi_22, h⟩ := ck_el h
      refine va_iast hx hb hK hP hD hS 1 0 rfl rfl hi_22 dX10_begin_121 (fun H locs hP hD hS => ?_)
      have hP : va_P D vwCl [(q_this, .inr (8, [.ref q_text, .int v_size, .int v_at, .ref q_read, .ref q_l, .ref q_stands, .ref q_kept, .int v_keptMany, .ref q_one, .ref q_two, .ref q_ways, .ref q_now, .ref q_then])), (q_read, .inl (ca 0, 336, .inl (upd (upd (upd (upd (upd (upd (upd (upd o_10 (nI 280).toNatClampNeg (nI 65535)) (nI 281).toNatClampNeg (nI 65535)) (nI 298).toNatClampNeg (nI 4)) (nI 299).toNatClampNeg (nI 4)) (nI 300).toNatClampNeg (nI 5)) (nI 301).toNatClampNeg (nI 5)) (nI 302).toNatClampNeg (nI 5)) (nI 303).toNatClampNeg (nI 70))))] H := hP
      have hD : va_D A [(q_this, .inr (8, [.ref q_text, .int v_size, .int v_at, .ref q_read, .ref q_l, .ref q_stands, .ref q_kept, .int v_keptMany, .ref q_one, .ref q_two, .ref q_ways, .ref q_now, .ref q_then])), (q_read, .inl (ca 0, 336, .inl (upd (upd (upd (upd (upd (upd (upd (upd o_10 (nI 280).toNatClampNeg (nI 65535)) (nI 281).toNatClampNeg (nI 65535)) (nI 298).toNatClampNeg (nI 4)) (nI 299).toNatClampNeg (nI 4)) (nI 300).toNatClampNeg (nI 5)) (nI 301).toNatClampNeg (nI 5)) (nI 302).toNatClampNeg (nI 5)) (nI 303).toNatClampNeg (nI 70))))] := hD
      cases h
      rw [← hQe]
      exact W.vret hx hb hr (fun t ht hW => ⟨⟨(), rfl, trivial, by rw [ht]; exact hP, va_K.moved hW.alike hK, hD⟩, hS.F ht⟩) hS.2.2 dX10_begin_122
    have hlp : ∀ (n : Nat) (x1_8 : Int32) (y_read_9 : Nat → Int32) (o_10 : Nat → Int32) (H : Heap) (locs : List Loc) (ls : Array Slot), lpg (T := Int32 → (Nat → Int32) → Option ((Nat → Int32))) (fun _ _ => none) (b_X10_begin_24) n x1_8 y_read_9 = some (o_10) → (∀ (H : Heap) (locs : List Loc) (ls : Array Slot), va_P D vwCl [(q_this, .inr (8, [.ref q_text, .int v_size, .int v_at, .ref q_read, .ref q_l, .ref q_stands, .ref q_kept, .int v_keptMany, .ref q_one, .ref q_two, .ref q_ways, .ref q_now, .ref q_then])), (q_read, .inl (ca 0, 336, .inl o_10))] H → va_D A [(q_this, .inr (8, [.ref q_text, .int v_size, .int v_at, .ref q_read, .ref q_l, .ref q_stands, .ref q_kept, .int v_keptMany, .ref q_one, .ref q_two, .ref q_ways, .ref q_now, .ref q_then])), (q_read, .inl (ca 0, 336, .inl o_10))] → va_S A s.heap H locs → lv_has ls 2 [(0, .ref q_this)] → W p l e (headSpec wsX10_begin rm_X10_begin).room s m args below meth c H locs 0 0 Q (F0 m 47 ls [])) → va_P D vwCl [(q_this, .inr (8, [.ref q_text, .int v_size, .int v_at, .ref q_read, .ref q_l, .ref q_stands, .ref q_kept, .int v_keptMany, .ref q_one, .ref q_two, .ref q_ways, .ref q_now, .ref q_then])), (q_read, .inl (ca 0, 336, .inl y_read_9))] H → va_D A [(q_this, .inr (8, [.ref q_text, .int v_size, .int v_at, .ref q_read, .ref q_l, .ref q_stands, .ref q_kept, .int v_keptMany, .ref q_one, .ref q_two, .ref q_ways, .ref q_now, .ref q_then])), (q_read, .inl (ca 0, 336, .inl y_read_9))] → va_S A s.heap H locs → lv_has ls 2 [(0, .ref q_this), (1, .int x1_8)] → W p l e (headSpec wsX10_begin rm_X10_begin).room s m args below meth c H locs 0 0 Q (F0 m 24 ls []) := by
      intro n
      induction n with
      | zero => intro x1_8 y_read_9 o_10 H locs ls h; have h : (none : Option ((Nat → Int32))) = some _ := h; cases h
      | succ n ih =>
        intro x1_8 y_read_9 o_10 H locs ls h hex hP hD hS hl
        rw [lpg_succ, b_X10_begin_24] at h
        refine lv_iload_n hx hb dX10_begin_24 rfl (lv_at hl 1 rfl) ?_
        refine lv_bipush (v := (nI 16)) hx hb dX10_begin_25 (by decide) ?_
        refine lv_icmp_ge (tgt := 47) hx hb dX10_begin_27 (by decide) (fun c_11 => ?_) (fun c_11 => ?_)
        · replace h := ifp_el c_11 h
          cases h
          exact hex _ _ _ hP hD hS (lv_sub hl [0] rfl)
        · replace h := ifn_el c_11 h
          refine lv_aload_n hx hb dX10_begin_30 rfl (lv_at hl 0 rfl) ?_
          refine va_get (D := D) (ci := 8) (v := .ref q_read) (C := RX10) (T := TX10) (N := 13) hx hb hts i_X10 hown hK hP 0 rfl rfl 3 (by decide) k_13 (fun _ h9 => h9) rfl dX10_begin_31 ?_
          refine lv_sipush (v := (nI 282)) hx hb dX10_begin_34 (by decide) ?_
          refine lv_iload_n hx hb dX10_begin_37 rfl (lv_at hl 1 rfl) ?_
          refine lv_iadd hx hb dX10_begin_38 ?_
          refine lv_iconst (v := (-1 : Int32)) hx hb dX10_begin_39 (by decide) ?_
          obtain ⟨hi_12, h⟩ := ck_el h
          refine va_iast hx hb hK hP hD hS 1 0 rfl rfl hi_12 dX10_begin_40 (fun H locs hP hD hS => ?_)
          have hP : va_P D vwCl [(q_this, .inr (8, [.ref q_text, .int v_size, .int v_at, .ref q_read, .ref q_l, .ref q_stands, .ref q_kept, .int v_keptMany, .ref q_one, .ref q_two, .ref q_ways, .ref q_now, .ref q_then])), (q_read, .inl (ca 0, 336, .inl (upd y_read_9 ((nI 282) + x1_8).toNatClampNeg (-1 : Int32))))] H := hP
          have hD : va_D A [(q_this, .inr (8, [.ref q_text, .int v_size, .int v_at, .ref q_read, .ref q_l, .ref q_stands, .ref q_kept, .int v_keptMany, .ref q_one, .ref q_two, .ref q_ways, .ref q_now, .ref q_then])), (q_read, .inl (ca 0, 336, .inl (upd y_read_9 ((nI 282) + x1_8).toNatClampNeg (-1 : Int32))))] := hD
          obtain ⟨x1_13, e_14, h⟩ := nm_el h
          refine lv_iinc (v := x1_13) (lv' := [(1, .int x1_13), (0, .ref q_this)]) hx hb dX10_begin_41 hl (k := 1) rfl (by rw [← e_14]; rfl) (by decide) rfl (fun ls hl => ?_)
          refine lv_goto (tgt := 24) hx hb dX10_begin_44 (by decide) ?_
          exact ih _ _ _ _ _ _ h hex hP hD hS (lv_sub hl [1, 0] rfl)
    exact hlp F (nI 0) o_3 o_10 H locs ls hL hex hP hD hS (lv_sub hl [1, 0] rfl)
  have hlp : ∀ (n : Nat) (x1_1 : Int32) (y_read_2 : Nat → Int32) (o_3 : Nat → Int32) (H : Heap) (locs : List Loc) (ls : Array Slot), lpg (T := Int32 → (Nat → Int32) → Option ((Nat → Int32))) (fun _ _ => none) (b_X10_begin_2) n x1_1 y_read_2 = some (o_3) → (∀ (H : Heap) (locs : List Loc) (ls : Array Slot), va_P D vwCl [(q_this, .inr (8, [.ref q_text, .int v_size, .int v_at, .ref q_read, .ref q_l, .ref q_stands, .ref q_kept, .int v_keptMany, .ref q_one, .ref q_two, .ref q_ways, .ref q_now, .ref q_then])), (q_read, .inl (ca 0, 336, .inl o_3))] H → va_D A [(q_this, .inr (8, [.ref q_text, .int v_size, .int v_at, .ref q_read, .ref q_l, .ref q_stands, .ref q_kept, .int v_keptMany, .ref q_one, .ref q_two, .ref q_ways, .ref q_now, .ref q_then])), (q_read, .inl (ca 0, 336, .inl o_3))] → va_S A s.heap H locs → lv_has ls 2 [(0, .ref q_this)] → W p l e (headSpec wsX10_begin rm_X10_begin).room s m args below meth c H locs 0 0 Q (F0 m 22 ls [])) → va_P D vwCl [(q_this, .inr (8, [.ref q_text, .int v_size, .int v_at, .ref q_read, .ref q_l, .ref q_stands, .ref q_kept, .int v_keptMany, .ref q_one, .ref q_two, .ref q_ways, .ref q_now, .ref q_then])), (q_read, .inl (ca 0, 336, .inl y_read_2))] H → va_D A [(q_this, .inr (8, [.ref q_text, .int v_size, .int v_at, .ref q_read, .ref q_l, .ref q_stands, .ref q_kept, .int v_keptMany, .ref q_one, .ref q_two, .ref q_ways, .ref q_now, .ref q_then])), (q_read, .inl (ca 0, 336, .inl y_read_2))] → va_S A s.heap H locs → lv_has ls 2 [(0, .ref q_this), (1, .int x1_1)] → W p l e (headSpec wsX10_begin rm_X10_begin).room s m args below meth c H locs 0 0 Q (F0 m 2 ls []) := by
    intro n
    induction n with
    | zero => intro x1_1 y_read_2 o_3 H locs ls h; have h : (none : Option ((Nat → Int32))) = some _ := h; cases h
    | succ n ih =>
      intro x1_1 y_read_2 o_3 H locs ls h hex hP hD hS hl
      rw [lpg_succ, b_X10_begin_2] at h
      refine lv_iload_n hx hb dX10_begin_2 rfl (lv_at hl 1 rfl) ?_
      refine lv_sipush (v := (nI 336)) hx hb dX10_begin_3 (by decide) ?_
      refine lv_icmp_ge (tgt := 22) hx hb dX10_begin_6 (by decide) (fun c_4 => ?_) (fun c_4 => ?_)
      · replace h := ifp_el c_4 h
        cases h
        exact hex _ _ _ hP hD hS (lv_sub hl [0] rfl)
      · replace h := ifn_el c_4 h
        refine lv_aload_n hx hb dX10_begin_9 rfl (lv_at hl 0 rfl) ?_
        refine va_get (D := D) (ci := 8) (v := .ref q_read) (C := RX10) (T := TX10) (N := 13) hx hb hts i_X10 hown hK hP 0 rfl rfl 3 (by decide) k_13 (fun _ h9 => h9) rfl dX10_begin_10 ?_
        refine lv_iload_n hx hb dX10_begin_13 rfl (lv_at hl 1 rfl) ?_
        refine lv_iconst (v := (nI 0)) hx hb dX10_begin_14 (by decide) ?_
        obtain ⟨hi_5, h⟩ := ck_el h
        refine va_iast hx hb hK hP hD hS 1 0 rfl rfl hi_5 dX10_begin_15 (fun H locs hP hD hS => ?_)
        have hP : va_P D vwCl [(q_this, .inr (8, [.ref q_text, .int v_size, .int v_at, .ref q_read, .ref q_l, .ref q_stands, .ref q_kept, .int v_keptMany, .ref q_one, .ref q_two, .ref q_ways, .ref q_now, .ref q_then])), (q_read, .inl (ca 0, 336, .inl (upd y_read_2 x1_1.toNatClampNeg (nI 0))))] H := hP
        have hD : va_D A [(q_this, .inr (8, [.ref q_text, .int v_size, .int v_at, .ref q_read, .ref q_l, .ref q_stands, .ref q_kept, .int v_keptMany, .ref q_one, .ref q_two, .ref q_ways, .ref q_now, .ref q_then])), (q_read, .inl (ca 0, 336, .inl (upd y_read_2 x1_1.toNatClampNeg (nI 0))))] := hD
        obtain ⟨x1_6, e_7, h⟩ := nm_el h
        refine lv_iinc (v := x1_6) (lv' := [(1, .int x1_6), (0, .ref q_this)]) hx hb dX10_begin_16 hl (k := 1) rfl (by rw [← e_7]; rfl) (by decide) rfl (fun ls hl => ?_)
        refine lv_goto (tgt := 2) hx hb dX10_begin_19 (by decide) ?_
        exact ih _ _ _ _ _ _ h hex hP hD hS (lv_sub hl [1, 0] rfl)
  exact hlp F (nI 0) v_read o_3 s.heap [] ls hL hex hP hD hS (lv_sub hl [1, 0] rfl)
def b_X10_layRead_2 (v_read : Nat → Int32) (rec2 : Int32 → (Nat → Int32) → Option ((Nat → Int32))) (x1_1 : Int32) (y_l_2 : Nat → Int32) : Option ((Nat → Int32)) := (if (nI 336) ≤ x1_1 then some (y_l_2) else ck 336 x1_1 (nm (v_read x1_1.toNatClampNeg) (fun w_6 => ck 336 x1_1 (nm (x1_1 + (nI 1)) (fun x1_8 => rec2 x1_8 (upd y_l_2 x1_1.toNatClampNeg w_6))))))
def D_X10_layRead (F : Nat) (v_read : Nat → Int32) (v_l : Nat → Int32) : Option ((Nat → Int32)) := bd1 (lpg (T := Int32 → (Nat → Int32) → Option ((Nat → Int32))) (fun _ _ => none) (b_X10_layRead_2 v_read) F (nI 0) v_l) (fun o_3 => some (o_3))
abbrev rm_X10_layRead : Room := { frames := 0, cells := 0, slots := 0, locals := 0 }
set_option maxHeartbeats 4000000 in
set_option maxRecDepth 100000 in
theorem c_X10_layRead (l : Launch) (D : va_G) (ca : Nat → ClassId) (F : Nat) (sz : Nat) (q_this q_text q_read q_l q_stands q_kept q_one q_two q_ways q_now q_then : Nat) (v_size : Int32) (v_at : Int32) (v_keptMany : Int32) (v_read : Nat → Int32) (v_l : Nat → Int32) (o_l : Nat → Int32) (h : D_X10_layRead F v_read v_l = some (o_l)) : Met l yX10_layRead wsX10_layRead rm_X10_layRead (va_Pc [.ref q_this] (kPre D ca [(q_this, .inr (8, [.ref q_text, .int v_size, .int v_at, .ref q_read, .ref q_l, .ref q_stands, .ref q_kept, .int v_keptMany, .ref q_one, .ref q_two, .ref q_ways, .ref q_now, .ref q_then])), (q_read, .inl (ca 0, 336, .inl v_read)), (q_l, .inl (ca 0, 336, .inl v_l))] sz)) (kQv D ca (va_A [(q_this, .inr (8, [.ref q_text, .int v_size, .int v_at, .ref q_read, .ref q_l, .ref q_stands, .ref q_kept, .int v_keptMany, .ref q_one, .ref q_two, .ref q_ways, .ref q_now, .ref q_then])), (q_read, .inl (ca 0, 336, .inl v_read)), (q_l, .inl (ca 0, 336, .inl v_l))] sz) [(q_this, .inr (8, [.ref q_text, .int v_size, .int v_at, .ref q_read, .ref q_l, .ref q_stands, .ref q_kept, .int v_keptMany, .ref q_one, .ref q_two, .ref q_ways, .ref q_now, .ref q_then])), (q_read, .inl (ca 0, 336, .inl v_read)), (q_l, .inl (ca 0, 336, .inl o_l))]) 0 0 (va_A [(q_this, .inr (8, [.ref q_text, .int v_size, .int v_at, .ref q_read, .ref q_l, .ref q_stands, .ref q_kept, .int v_keptMany, .ref q_one, .ref q_two, .ref q_ways, .ref q_now, .ref q_then])), (q_read, .inl (ca 0, 336, .inl v_read)), (q_l, .inl (ca 0, 336, .inl v_l))] sz) := by
  refine Met.ofW (cc := cX10_layRead) (maxL := 2) (ret := none) (by decide +kernel) rfl ?_
  intro p e s m args below meth c s₁ B hml hv
  obtain ⟨rfl, hsz, hP, hK, hD0⟩ := hv
  have hx := B.exec
  have hb := B.bytes
  have hr := B.returns
  have hts := atoms_spec (ws := wsX10_layRead) B.pre
  have hown : s.vm.findClass RX10 = some m.cls := findClass_of_methodNamed B.named
  have hlocks := B.notSynchronized
  clear B
  subst hsz
  have hD := hD0.self (sz := s.heap.size)
  generalize hAe : va_A [(q_this, .inr (8, [.ref q_text, .int v_size, .int v_at, .ref q_read, .ref q_l, .ref q_stands, .ref q_kept, .int v_keptMany, .ref q_one, .ref q_two, .ref q_ways, .ref q_now, .ref q_then])), (q_read, .inl (ca 0, 336, .inl v_read)), (q_l, .inl (ca 0, 336, .inl v_l))] s.heap.size = A at hD ⊢
  have hA : ∀ q : Nat, s.heap.size ≤ q → A q := fun q h => by rw [← hAe]; exact Or.inr h
  have hS : va_S A s.heap s.heap [] := va_S.rf
  have hl := lv_entry ([.ref q_this]) (n := 2) (Nat.le_of_ble_eq_true rfl)
  rw [lg_entry_eq]
  generalize (lg_sl ([.ref q_this]) ++ List.replicate (2 - (lg_sl ([.ref q_this])).length) Slot.unset).toArray = ls at hl ⊢
  have hl : lv_has ls 2 [(0, .ref q_this)] := hl
  generalize ([.ref q_this] : List Value).toArray = args at hts ⊢
  generalize hQe : MQ below (kQv D ca (A) [(q_this, .inr (8, [.ref q_text, .int v_size, .int v_at, .ref q_read, .ref q_l, .ref q_stands, .ref q_kept, .int v_keptMany, .ref q_one, .ref q_two, .ref q_ways, .ref q_now, .ref q_then])), (q_read, .inl (ca 0, 336, .inl v_read)), (q_l, .inl (ca 0, 336, .inl o_l))]) args s 0 0 A = Q
  have i_X10 : ∀ w ∈ u_ws RX10 TX10 13, w ∈ wsX10_layRead := by decide +kernel
  have k_16 := hts (.fieldLink RX10 16 "TradeWordsModel" "l" "[I") (by decide +kernel)
  have k_13 := hts (.fieldLink RX10 13 "TradeWordsModel" "read" "[I") (by decide +kernel)
  rw [D_X10_layRead] at h
  refine lv_iconst (v := (nI 0)) hx hb dX10_layRead_0 (by decide) ?_
  refine lv_istore_n (lv' := [(1, .int (nI 0)), (0, .ref q_this)]) hx hb dX10_layRead_1 rfl hl (by decide) rfl (fun ls hl => ?_)
  obtain ⟨o_3, hL, h⟩ := bd1_el h
  have hex : ∀ (H : Heap) (locs : List Loc) (ls : Array Slot), va_P D vwCl [(q_this, .inr (8, [.ref q_text, .int v_size, .int v_at, .ref q_read, .ref q_l, .ref q_stands, .ref q_kept, .int v_keptMany, .ref q_one, .ref q_two, .ref q_ways, .ref q_now, .ref q_then])), (q_read, .inl (ca 0, 336, .inl v_read)), (q_l, .inl (ca 0, 336, .inl o_3))] H → va_D A [(q_this, .inr (8, [.ref q_text, .int v_size, .int v_at, .ref q_read, .ref q_l, .ref q_stands, .ref q_kept, .int v_keptMany, .ref q_one, .ref q_two, .ref q_ways, .ref q_now, .ref q_then])), (q_read, .inl (ca 0, 336, .inl v_read)), (q_l, .inl (ca 0, 336, .inl o_3))] → va_S A s.heap H locs → lv_has ls 2 [] → W p l e (headSpec wsX10_layRead rm_X10_layRead).room s m args below meth c H locs 0 0 Q (F0 m 27 ls []) := by
    intro H locs ls hP hD hS hl
    cases h
    rw [← hQe]
    exact W.vret hx hb hr (fun t ht hW => ⟨⟨(), rfl, trivial, by rw [ht]; exact hP, va_K.moved hW.alike hK, hD⟩, hS.F ht⟩) hS.2.2 dX10_layRead_27
  have hlp : ∀ (n : Nat) (x1_1 : Int32) (y_l_2 : Nat → Int32) (o_3 : Nat → Int32) (H : Heap) (locs : List Loc) (ls : Array Slot), lpg (T := Int32 → (Nat → Int32) → Option ((Nat → Int32))) (fun _ _ => none) (b_X10_layRead_2 v_read) n x1_1 y_l_2 = some (o_3) → (∀ (H : Heap) (locs : List Loc) (ls : Array Slot), va_P D vwCl [(q_this, .inr (8, [.ref q_text, .int v_size, .int v_at, .ref q_read, .ref q_l, .ref q_stands, .ref q_kept, .int v_keptMany, .ref q_one, .ref q_two, .ref q_ways, .ref q_now, .ref q_then])), (q_read, .inl (ca 0, 336, .inl v_read)), (q_l, .inl (ca 0, 336, .inl o_3))] H → va_D A [(q_this, .inr (8, [.ref q_text, .int v_size, .int v_at, .ref q_read, .ref q_l, .ref q_stands, .ref q_kept, .int v_keptMany, .ref q_one, .ref q_two, .ref q_ways, .ref q_now, .ref q_then])), (q_read, .inl (ca 0, 336, .inl v_read)), (q_l, .inl (ca 0, 336, .inl o_3))] → va_S A s.heap H locs → lv_has ls 2 [] → W p l e (headSpec wsX10_layRead rm_X10_layRead).room s m args below meth c H locs 0 0 Q (F0 m 27 ls [])) → va_P D vwCl [(q_this, .inr (8, [.ref q_text, .int v_size, .int v_at, .ref q_read, .ref q_l, .ref q_stands, .ref q_kept, .int v_keptMany, .ref q_one, .ref q_two, .ref q_ways, .ref q_now, .ref q_then])), (q_read, .inl (ca 0, 336, .inl v_read)), (q_l, .inl (ca 0, 336, .inl y_l_2))] H → va_D A [(q_this, .inr (8, [.ref q_text, .int v_size, .int v_at, .ref q_read, .ref q_l, .ref q_stands, .ref q_kept, .int v_keptMany, .ref q_one, .ref q_two, .ref q_ways, .ref q_now, .ref q_then])), (q_read, .inl (ca 0, 336, .inl v_read)), (q_l, .inl (ca 0, 336, .inl y_l_2))] → va_S A s.heap H locs → lv_has ls 2 [(0, .ref q_this), (1, .int x1_1)] → W p l e (headSpec wsX10_layRead rm_X10_layRead).room s m args below meth c H locs 0 0 Q (F0 m 2 ls []) := by
    intro n
    induction n with
    | zero => intro x1_1 y_l_2 o_3 H locs ls h; have h : (none : Option ((Nat → Int32))) = some _ := h; cases h
    | succ n ih =>
      intro x1_1 y_l_2 o_3 H locs ls h hex hP hD hS hl
      rw [lpg_succ, b_X10_layRead_2] at h
      refine lv_iload_n hx hb dX10_layRead_2 rfl (lv_at hl 1 rfl) ?_
      refine lv_sipush (v := (nI 336)) hx hb dX10_layRead_3 (by decide) ?_
      refine lv_icmp_ge (tgt := 27) hx hb dX10_layRead_6 (by decide) (fun c_4 => ?_) (fun c_4 => ?_)
      · replace h := ifp_el c_4 h
        cases h
        exact hex _ _ _ hP hD hS (lv_sub hl [] rfl)
      · replace h := ifn_el c_4 h
        refine lv_aload_n hx hb dX10_layRead_9 rfl (lv_at hl 0 rfl) ?_
        refine va_get (D := D) (ci := 8) (v := .ref q_l) (C := RX10) (T := TX10) (N := 13) hx hb hts i_X10 hown hK hP 0 rfl rfl 4 (by decide) k_16 (fun _ h9 => h9) rfl dX10_layRead_10 ?_
        refine lv_iload_n hx hb dX10_layRead_13 rfl (lv_at hl 1 rfl) ?_
        refine lv_aload_n hx hb dX10_layRead_14 rfl (lv_at hl 0 rfl) ?_
        refine va_get (D := D) (ci := 8) (v := .ref q_read) (C := RX10) (T := TX10) (N := 13) hx hb hts i_X10 hown hK hP 0 rfl rfl 3 (by decide) k_13 (fun _ h9 => h9) rfl dX10_layRead_15 ?_
        refine lv_iload_n hx hb dX10_layRead_18 rfl (lv_at hl 1 rfl) ?_
        obtain ⟨hi_5, h⟩ := ck_el h
        refine va_iald hx hb hK hP 1 0 rfl rfl hi_5 dX10_layRead_19 ?_
        refine lv_nmi h (fun w_6 h => ?_)
        obtain ⟨hi_7, h⟩ := ck_el h
        refine va_iast hx hb hK hP hD hS 2 0 rfl rfl hi_7 dX10_layRead_20 (fun H locs hP hD hS => ?_)
        have hP : va_P D vwCl [(q_this, .inr (8, [.ref q_text, .int v_size, .int v_at, .ref q_read, .ref q_l, .ref q_stands, .ref q_kept, .int v_keptMany, .ref q_one, .ref q_two, .ref q_ways, .ref q_now, .ref q_then])), (q_read, .inl (ca 0, 336, .inl v_read)), (q_l, .inl (ca 0, 336, .inl (upd y_l_2 x1_1.toNatClampNeg w_6)))] H := hP
        have hD : va_D A [(q_this, .inr (8, [.ref q_text, .int v_size, .int v_at, .ref q_read, .ref q_l, .ref q_stands, .ref q_kept, .int v_keptMany, .ref q_one, .ref q_two, .ref q_ways, .ref q_now, .ref q_then])), (q_read, .inl (ca 0, 336, .inl v_read)), (q_l, .inl (ca 0, 336, .inl (upd y_l_2 x1_1.toNatClampNeg w_6)))] := hD
        obtain ⟨x1_8, e_9, h⟩ := nm_el h
        refine lv_iinc (v := x1_8) (lv' := [(1, .int x1_8), (0, .ref q_this)]) hx hb dX10_layRead_21 hl (k := 1) rfl (by rw [← e_9]; rfl) (by decide) rfl (fun ls hl => ?_)
        refine lv_goto (tgt := 2) hx hb dX10_layRead_24 (by decide) ?_
        exact ih _ _ _ _ _ _ h hex hP hD hS (lv_sub hl [1, 0] rfl)
  exact hlp F (nI 0) v_l o_3 s.heap [] ls hL hex hP hD hS (lv_sub hl [1, 0] rfl)
def D_X10_byteAt (v_size : Int32) (v_at : Int32) (v_text : Nat → Int32) : Option (Int32) := (if v_size ≤ v_at then some ((-1 : Int32)) else ck 500 v_at (some ((v_text v_at.toNatClampNeg))))
abbrev rm_X10_byteAt : Room := { frames := 0, cells := 0, slots := 0, locals := 0 }
set_option maxHeartbeats 4000000 in
set_option maxRecDepth 100000 in
theorem c_X10_byteAt (l : Launch) (D : va_G) (ca : Nat → ClassId) (sz : Nat) (q_this q_text q_read q_l q_stands q_kept q_one q_two q_ways q_now q_then : Nat) (v_size : Int32) (v_at : Int32) (v_keptMany : Int32) (v_text : Nat → Int32) (r : Int32) (h : D_X10_byteAt v_size v_at v_text = some (r)) : Met l yX10_byteAt wsX10_byteAt rm_X10_byteAt (va_Pc [.ref q_this] (kPre D ca [(q_this, .inr (8, [.ref q_text, .int v_size, .int v_at, .ref q_read, .ref q_l, .ref q_stands, .ref q_kept, .int v_keptMany, .ref q_one, .ref q_two, .ref q_ways, .ref q_now, .ref q_then])), (q_text, .inl (ca 0, 500, .inl v_text))] sz)) (kQi D ca (va_A [(q_this, .inr (8, [.ref q_text, .int v_size, .int v_at, .ref q_read, .ref q_l, .ref q_stands, .ref q_kept, .int v_keptMany, .ref q_one, .ref q_two, .ref q_ways, .ref q_now, .ref q_then])), (q_text, .inl (ca 0, 500, .inl v_text))] sz) [(q_this, .inr (8, [.ref q_text, .int v_size, .int v_at, .ref q_read, .ref q_l, .ref q_stands, .ref q_kept, .int v_keptMany, .ref q_one, .ref q_two, .ref q_ways, .ref q_now, .ref q_then])), (q_text, .inl (ca 0, 500, .inl v_text))] r) 0 0 (va_A [(q_this, .inr (8, [.ref q_text, .int v_size, .int v_at, .ref q_read, .ref q_l, .ref q_stands, .ref q_kept, .int v_keptMany, .ref q_one, .ref q_two, .ref q_ways, .ref q_now, .ref q_then])), (q_text, .inl (ca 0, 500, .inl v_text))] sz) := by
  refine Met.ofW (cc := cX10_byteAt) (maxL := 1) (ret := (some .int)) (by decide +kernel) rfl ?_
  intro p e s m args below meth c s₁ B hml hv
  obtain ⟨rfl, hsz, hP, hK, hD0⟩ := hv
  have hx := B.exec
  have hb := B.bytes
  have hr := B.returns
  have hts := atoms_spec (ws := wsX10_byteAt) B.pre
  have hown : s.vm.findClass RX10 = some m.cls := findClass_of_methodNamed B.named
  have hlocks := B.notSynchronized
  clear B
  subst hsz
  have hD := hD0.self (sz := s.heap.size)
  generalize hAe : va_A [(q_this, .inr (8, [.ref q_text, .int v_size, .int v_at, .ref q_read, .ref q_l, .ref q_stands, .ref q_kept, .int v_keptMany, .ref q_one, .ref q_two, .ref q_ways, .ref q_now, .ref q_then])), (q_text, .inl (ca 0, 500, .inl v_text))] s.heap.size = A at hD ⊢
  have hA : ∀ q : Nat, s.heap.size ≤ q → A q := fun q h => by rw [← hAe]; exact Or.inr h
  have hS : va_S A s.heap s.heap [] := va_S.rf
  have hl := lv_entry ([.ref q_this]) (n := 1) (Nat.le_of_ble_eq_true rfl)
  rw [lg_entry_eq]
  generalize (lg_sl ([.ref q_this]) ++ List.replicate (1 - (lg_sl ([.ref q_this])).length) Slot.unset).toArray = ls at hl ⊢
  have hl : lv_has ls 1 [(0, .ref q_this)] := hl
  generalize ([.ref q_this] : List Value).toArray = args at hts ⊢
  generalize hQe : MQ below (kQi D ca (A) [(q_this, .inr (8, [.ref q_text, .int v_size, .int v_at, .ref q_read, .ref q_l, .ref q_stands, .ref q_kept, .int v_keptMany, .ref q_one, .ref q_two, .ref q_ways, .ref q_now, .ref q_then])), (q_text, .inl (ca 0, 500, .inl v_text))] r) args s 0 0 A = Q
  have i_X10 : ∀ w ∈ u_ws RX10 TX10 13, w ∈ wsX10_byteAt := by decide +kernel
  have k_60 := hts (.fieldLink RX10 60 "TradeWordsModel" "at" "I") (by decide +kernel)
  have k_53 := hts (.fieldLink RX10 53 "TradeWordsModel" "size" "I") (by decide +kernel)
  have k_7 := hts (.fieldLink RX10 7 "TradeWordsModel" "text" "[I") (by decide +kernel)
  rw [D_X10_byteAt] at h
  refine lv_aload_n hx hb dX10_byteAt_0 rfl (lv_at hl 0 rfl) ?_
  refine va_get (D := D) (ci := 8) (v := .int v_at) (C := RX10) (T := TX10) (N := 13) hx hb hts i_X10 hown hK hP 0 rfl rfl 2 (by decide) k_60 (fun _ h9 => h9) rfl dX10_byteAt_1 ?_
  refine lv_aload_n hx hb dX10_byteAt_4 rfl (lv_at hl 0 rfl) ?_
  refine va_get (D := D) (ci := 8) (v := .int v_size) (C := RX10) (T := TX10) (N := 13) hx hb hts i_X10 hown hK hP 0 rfl rfl 1 (by decide) k_53 (fun _ h9 => h9) rfl dX10_byteAt_5 ?_
  refine lv_icmp_ge (tgt := 23) hx hb dX10_byteAt_8 (by decide) (fun c_1 => ?_) (fun c_1 => ?_)
  · replace h := ifp_el c_1 h
    refine lv_iconst (v := (-1 : Int32)) hx hb dX10_byteAt_23 (by decide) ?_
    cases h
    rw [← hQe]
    exact W.iret hx hb hr (fun t ht hW => ⟨⟨_, (), rfl, rfl, by rw [ht]; exact hP, va_K.moved hW.alike hK, hD⟩, hS.F ht⟩) hS.2.2 dX10_byteAt_24
  · replace h := ifn_el c_1 h
    refine lv_aload_n hx hb dX10_byteAt_11 rfl (lv_at hl 0 rfl) ?_
    refine va_get (D := D) (ci := 8) (v := .ref q_text) (C := RX10) (T := TX10) (N := 13) hx hb hts i_X10 hown hK hP 0 rfl rfl 0 (by decide) k_7 (fun _ h9 => h9) rfl dX10_byteAt_12 ?_
    refine lv_aload_n hx hb dX10_byteAt_15 rfl (lv_at hl 0 rfl) ?_
    refine va_get (D := D) (ci := 8) (v := .int v_at) (C := RX10) (T := TX10) (N := 13) hx hb hts i_X10 hown hK hP 0 rfl rfl 2 (by decide) k_60 (fun _ h9 => h9) rfl dX10_byteAt_16 ?_
    obtain ⟨hi_2, h⟩ := ck_el h
    refine va_iald hx hb hK hP 1 0 rfl rfl hi_2 dX10_byteAt_19 ?_
    refine lv_goto (tgt := 24) hx hb dX10_byteAt_20 (by decide) ?_
    cases h
    rw [← hQe]
    exact W.iret hx hb hr (fun t ht hW => ⟨⟨_, (), rfl, rfl, by rw [ht]; exact hP, va_K.moved hW.alike hK, hD⟩, hS.F ht⟩) hS.2.2 dX10_byteAt_24
def j_X10_takes_13 (v_at : Int32) (z0_3 : Int32) : Option (Int32 × Int32) := (if z0_3 = 0 then nm (v_at + (nI 0)) (fun w_5 => cz z0_3 (some (z0_3, w_5))) else nm (v_at + (nI 1)) (fun w_6 => cz z0_3 (some (z0_3, w_6))))
def D_X10_takes (p1 : Int32) (v_size : Int32) (v_at : Int32) (v_text : Nat → Int32) : Option (Int32 × Int32) := bd1 (D_X10_byteAt v_size v_at v_text) (fun r_1 => (if r_1 = p1 then j_X10_takes_13 v_at (nI 1) else j_X10_takes_13 v_at (nI 0)))
abbrev rm_X10_takes : Room := { frames := 1, cells := 0, slots := 0, locals := 20 }
set_option maxHeartbeats 4000000 in
set_option maxRecDepth 100000 in
theorem c_X10_takes (l : Launch) (D : va_G) (ca : Nat → ClassId) (sz : Nat) (q_this q_text q_read q_l q_stands q_kept q_one q_two q_ways q_now q_then : Nat) (p1 : Int32) (v_size : Int32) (v_at : Int32) (v_keptMany : Int32) (v_text : Nat → Int32) (r : Int32) (o_at : Int32) (h : D_X10_takes p1 v_size v_at v_text = some (r, o_at)) : Met l yX10_takes wsX10_takes rm_X10_takes (va_Pc [.ref q_this, .int p1] (kPre D ca [(q_this, .inr (8, [.ref q_text, .int v_size, .int v_at, .ref q_read, .ref q_l, .ref q_stands, .ref q_kept, .int v_keptMany, .ref q_one, .ref q_two, .ref q_ways, .ref q_now, .ref q_then])), (q_text, .inl (ca 0, 500, .inl v_text))] sz)) (kQi D ca (va_A [(q_this, .inr (8, [.ref q_text, .int v_size, .int v_at, .ref q_read, .ref q_l, .ref q_stands, .ref q_kept, .int v_keptMany, .ref q_one, .ref q_two, .ref q_ways, .ref q_now, .ref q_then])), (q_text, .inl (ca 0, 500, .inl v_text))] sz) [(q_this, .inr (8, [.ref q_text, .int v_size, .int o_at, .ref q_read, .ref q_l, .ref q_stands, .ref q_kept, .int v_keptMany, .ref q_one, .ref q_two, .ref q_ways, .ref q_now, .ref q_then])), (q_text, .inl (ca 0, 500, .inl v_text))] r) 0 0 (va_A [(q_this, .inr (8, [.ref q_text, .int v_size, .int v_at, .ref q_read, .ref q_l, .ref q_stands, .ref q_kept, .int v_keptMany, .ref q_one, .ref q_two, .ref q_ways, .ref q_now, .ref q_then])), (q_text, .inl (ca 0, 500, .inl v_text))] sz) := by
  refine Met.ofW (cc := cX10_takes) (maxL := 3) (ret := (some .boolean)) (by decide +kernel) rfl ?_
  intro p e s m args below meth c s₁ B hml hv
  obtain ⟨rfl, hsz, hP, hK, hD0⟩ := hv
  have hx := B.exec
  have hb := B.bytes
  have hr := B.returns
  have hts := atoms_spec (ws := wsX10_takes) B.pre
  have hown : s.vm.findClass RX10 = some m.cls := findClass_of_methodNamed B.named
  have hlocks := B.notSynchronized
  clear B
  subst hsz
  have hD := hD0.self (sz := s.heap.size)
  generalize hAe : va_A [(q_this, .inr (8, [.ref q_text, .int v_size, .int v_at, .ref q_read, .ref q_l, .ref q_stands, .ref q_kept, .int v_keptMany, .ref q_one, .ref q_two, .ref q_ways, .ref q_now, .ref q_then])), (q_text, .inl (ca 0, 500, .inl v_text))] s.heap.size = A at hD ⊢
  have hA : ∀ q : Nat, s.heap.size ≤ q → A q := fun q h => by rw [← hAe]; exact Or.inr h
  have hS : va_S A s.heap s.heap [] := va_S.rf
  have hl := lv_entry ([.ref q_this, .int p1]) (n := 3) (Nat.le_of_ble_eq_true rfl)
  rw [lg_entry_eq]
  generalize (lg_sl ([.ref q_this, .int p1]) ++ List.replicate (3 - (lg_sl ([.ref q_this, .int p1])).length) Slot.unset).toArray = ls at hl ⊢
  have hl : lv_has ls 3 [(0, .ref q_this), (1, .int p1)] := hl
  generalize ([.ref q_this, .int p1] : List Value).toArray = args at hts ⊢
  generalize hQe : MQ below (kQi D ca (A) [(q_this, .inr (8, [.ref q_text, .int v_size, .int o_at, .ref q_read, .ref q_l, .ref q_stands, .ref q_kept, .int v_keptMany, .ref q_one, .ref q_two, .ref q_ways, .ref q_now, .ref q_then])), (q_text, .inl (ca 0, 500, .inl v_text))] r) args s 0 0 A = Q
  have i_X10 : ∀ w ∈ u_ws RX10 TX10 13, w ∈ wsX10_takes := by decide +kernel
  have k_60 := hts (.fieldLink RX10 60 "TradeWordsModel" "at" "I") (by decide +kernel)
  rw [D_X10_takes] at h
  refine lv_aload_n hx hb dX10_takes_0 rfl (lv_at hl 0 rfl) ?_
  obtain ⟨r_1, hg_2, h⟩ := bd1_el h
  refine kx_Vi (As := []) (rest := []) (wr := []) (w1 := [(q_this, .inr (8, [.ref q_text, .int v_size, .int v_at, .ref q_read, .ref q_l, .ref q_stands, .ref q_kept, .int v_keptMany, .ref q_one, .ref q_two, .ref q_ways, .ref q_now, .ref q_then])), (q_text, .inl (ca 0, 500, .inl v_text))]) (wn := [(q_this, .inr (8, [.ref q_text, .int v_size, .int v_at, .ref q_read, .ref q_l, .ref q_stands, .ref q_kept, .int v_keptMany, .ref q_one, .ref q_two, .ref q_ways, .ref q_now, .ref q_then])), (q_text, .inl (ca 0, 500, .inl v_text))]) ⟨hx, hb, hml, hown, hts⟩ (c_X10_byteAt l D ca s.heap.size q_this q_text q_read q_l q_stands q_kept q_one q_two q_ways q_now q_then v_size v_at v_keptMany v_text r_1 hg_2) (cwV 0 hts gX10_takes_X10_byteAt rfl rfl rfl (by decide +kernel) ⟨(Nat.le_of_ble_eq_true rfl), (Nat.le_of_ble_eq_true rfl)⟩) hK hP hD hS hA (ci := 8) (q0 := 0) rfl rfl [0, 1] [] [0, 1] rfl rfl rfl rfl (by decide) rfl rfl rfl hl.1 rfl (Nat.le_of_ble_eq_true rfl) dX10_takes_1 ⟨Nat.zero_le _, Nat.zero_le _⟩ (fun H locs hP hD hS => ?_)
  refine lv_iload_n hx hb dX10_takes_4 rfl (lv_at hl 1 rfl) ?_
  have hj_13 : ∀ (z0_3 : Int32) (H : Heap) (locs : List Loc) (ls : Array Slot), j_X10_takes_13 v_at z0_3 = some (r, o_at) → va_P D vwCl [(q_this, .inr (8, [.ref q_text, .int v_size, .int v_at, .ref q_read, .ref q_l, .ref q_stands, .ref q_kept, .int v_keptMany, .ref q_one, .ref q_two, .ref q_ways, .ref q_now, .ref q_then])), (q_text, .inl (ca 0, 500, .inl v_text))] H → va_D A [(q_this, .inr (8, [.ref q_text, .int v_size, .int v_at, .ref q_read, .ref q_l, .ref q_stands, .ref q_kept, .int v_keptMany, .ref q_one, .ref q_two, .ref q_ways, .ref q_now, .ref q_then])), (q_text, .inl (ca 0, 500, .inl v_text))] → va_S A s.heap H locs → lv_has ls 3 [(0, .ref q_this)] → W p l e (headSpec wsX10_takes rm_X10_takes).room s m args below meth c H locs 0 0 Q (F0 m 13 ls [.int z0_3]) := by
    intro z0_3 H locs ls h hP hD hS hl
    rw [j_X10_takes_13] at h
    refine lv_istore_n (lv' := [(2, .int z0_3), (0, .ref q_this)]) hx hb dX10_takes_13 rfl hl (by decide) rfl (fun ls hl => ?_)
    refine lv_aload_n hx hb dX10_takes_14 rfl (lv_at hl 1 rfl) ?_
    refine lv_dup hx hb dX10_takes_15 rfl ?_
    refine va_get (D := D) (ci := 8) (v := .int v_at) (C := RX10) (T := TX10) (N := 13) hx hb hts i_X10 hown hK hP 0 rfl rfl 2 (by decide) k_60 (fun _ h9 => h9) rfl dX10_takes_16 ?_
    refine lv_iload_n hx hb dX10_takes_19 rfl (lv_at hl 0 rfl) ?_
    refine lv_if_eq (tgt := 27) hx hb dX10_takes_20 (by decide) (fun c_4 => ?_) (fun c_4 => ?_)
    · replace h := ifp_el c_4 h
      refine lv_iconst (v := (nI 0)) hx hb dX10_takes_27 (by decide) ?_
      refine lv_iadd hx hb dX10_takes_28 ?_
      refine lv_nmi h (fun w_5 h => ?_)
      refine va_put (D := D) (ci := 8) (v := .int w_5) (ty := .int) (C := RX10) (T := TX10) (N := 13) hx hb hts i_X10 tyX10 tyX10_ok nmX10 hown hK hP hD hS 0 rfl rfl 2 (by decide) k_60 (fun _ h9 => h9) rfl (by decide +kernel) rfl rfl (Nat.le_of_ble_eq_true rfl) dX10_takes_29 (fun H locs hP hD hS => ?_)
      have hP : va_P D vwCl [(q_this, .inr (8, [.ref q_text, .int v_size, .int w_5, .ref q_read, .ref q_l, .ref q_stands, .ref q_kept, .int v_keptMany, .ref q_one, .ref q_two, .ref q_ways, .ref q_now, .ref q_then])), (q_text, .inl (ca 0, 500, .inl v_text))] H := hP
      have hD : va_D A [(q_this, .inr (8, [.ref q_text, .int v_size, .int w_5, .ref q_read, .ref q_l, .ref q_stands, .ref q_kept, .int v_keptMany, .ref q_one, .ref q_two, .ref q_ways, .ref q_now, .ref q_then])), (q_text, .inl (ca 0, 500, .inl v_text))] := hD
      refine lv_iload_n hx hb dX10_takes_32 rfl (lv_at hl 0 rfl) ?_
      obtain ⟨hz, h⟩ := cz_el h
      cases h
      rw [← hQe]
      exact W.zret hx hb hr hz (fun t ht hW => ⟨⟨_, (), rfl, rfl, by rw [ht]; exact hP, va_K.moved hW.alike hK, hD⟩, hS.F ht⟩) hS.2.2 dX10_takes_33
    · replace h := ifn_el c_4 h
      refine lv_iconst (v := (nI 1)) hx hb dX10_takes_23 (by decide) ?_
      refine lv_goto (tgt := 28) hx hb dX10_takes_24 (by decide) ?_
      refine lv_iadd hx hb dX10_takes_28 ?_
      refine lv_nmi h (fun w_6 h => ?_)
      refine va_put (D := D) (ci := 8) (v := .int w_6) (ty := .int) (C := RX10) (T := TX10) (N := 13) hx hb hts i_X10 tyX10 tyX10_ok nmX10 hown hK hP hD hS 0 rfl rfl 2 (by decide) k_60 (fun _ h9 => h9) rfl (by decide +kernel) rfl rfl (Nat.le_of_ble_eq_true rfl) dX10_takes_29 (fun H locs hP hD hS => ?_)
      have hP : va_P D vwCl [(q_this, .inr (8, [.ref q_text, .int v_size, .int w_6, .ref q_read, .ref q_l, .ref q_stands, .ref q_kept, .int v_keptMany, .ref q_one, .ref q_two, .ref q_ways, .ref q_now, .ref q_then])), (q_text, .inl (ca 0, 500, .inl v_text))] H := hP
      have hD : va_D A [(q_this, .inr (8, [.ref q_text, .int v_size, .int w_6, .ref q_read, .ref q_l, .ref q_stands, .ref q_kept, .int v_keptMany, .ref q_one, .ref q_two, .ref q_ways, .ref q_now, .ref q_then])), (q_text, .inl (ca 0, 500, .inl v_text))] := hD
      refine lv_iload_n hx hb dX10_takes_32 rfl (lv_at hl 0 rfl) ?_
      obtain ⟨hz, h⟩ := cz_el h
      cases h
      rw [← hQe]
      exact W.zret hx hb hr hz (fun t ht hW => ⟨⟨_, (), rfl, rfl, by rw [ht]; exact hP, va_K.moved hW.alike hK, hD⟩, hS.F ht⟩) hS.2.2 dX10_takes_33
  refine lv_icmp_ne (tgt := 12) hx hb dX10_takes_5 (by decide) (fun c_7 => ?_) (fun c_7 => ?_)
  · replace h := ifn_el c_7 h
    refine lv_iconst (v := (nI 0)) hx hb dX10_takes_12 (by decide) ?_
    exact hj_13 _ _ _ _ h hP hD hS (lv_sub hl [0] rfl)
  · replace h := ifp_el c_7 h
    refine lv_iconst (v := (nI 1)) hx hb dX10_takes_8 (by decide) ?_
    refine lv_goto (tgt := 13) hx hb dX10_takes_9 (by decide) ?_
    exact hj_13 _ _ _ _ h hP hD hS (lv_sub hl [0] rfl)
def b_X10_number_5 (v_size : Int32) (v_text : Nat → Int32) (rec5 : Int32 → Int32 → Int32 → Option (Int32 × Int32 × Int32)) (x3_1 : Int32) (x4_2 : Int32) (y_at_3 : Int32) : Option (Int32 × Int32 × Int32) := (if (nI 2) ≤ x4_2 then some (x3_1, x4_2, y_at_3) else bd1 (D_X10_byteAt v_size y_at_3 v_text) (fun r_8 => bd1 (D_X10_in r_8.toInt64 (lN 48) (lN 57)) (fun r_10 => (if r_10 = 0 then some (x3_1, x4_2, y_at_3) else bd1 (D_X10_byteAt v_size y_at_3 v_text) (fun r_13 => nm ((((nI 10) * x3_1) + r_13) - (nI 48)) (fun x3_15 => nm (y_at_3 + (nI 1)) (fun w_16 => nm (x4_2 + (nI 1)) (fun x4_17 => rec5 x3_15 x4_17 w_16))))))))
def D_X10_number (F : Nat) (p1 : Int32) (p2 : Int32) (v_size : Int32) (v_at : Int32) (v_text : Nat → Int32) : Option (Int32 × Int32) := bd3 (lpg (T := Int32 → Int32 → Int32 → Option (Int32 × Int32 × Int32)) (fun _ _ _ => none) (b_X10_number_5 v_size v_text) F (nI 0) (nI 0) v_at) (fun o_4 o_5 o_6 => (if o_5 ≤ 0 then some ((-1 : Int32), o_6) else bd1 (D_X10_in o_4.toInt64 p1.toInt64 p2.toInt64) (fun r_20 => (if r_20 = 0 then some ((-1 : Int32), o_6) else some (o_4, o_6)))))
abbrev rm_X10_number : Room := { frames := 1, cells := 0, slots := 0, locals := 25 }
set_option maxHeartbeats 4000000 in
set_option maxRecDepth 100000 in
theorem c_X10_number (l : Launch) (D : va_G) (ca : Nat → ClassId) (F : Nat) (sz : Nat) (q_this q_text q_read q_l q_stands q_kept q_one q_two q_ways q_now q_then : Nat) (p1 : Int32) (p2 : Int32) (v_size : Int32) (v_at : Int32) (v_keptMany : Int32) (v_text : Nat → Int32) (r : Int32) (o_at : Int32) (h : D_X10_number F p1 p2 v_size v_at v_text = some (r, o_at)) : Met l yX10_number wsX10_number rm_X10_number (va_Pc [.ref q_this, .int p1, .int p2] (kPre D ca [(q_this, .inr (8, [.ref q_text, .int v_size, .int v_at, .ref q_read, .ref q_l, .ref q_stands, .ref q_kept, .int v_keptMany, .ref q_one, .ref q_two, .ref q_ways, .ref q_now, .ref q_then])), (q_text, .inl (ca 0, 500, .inl v_text))] sz)) (kQi D ca (va_A [(q_this, .inr (8, [.ref q_text, .int v_size, .int v_at, .ref q_read, .ref q_l, .ref q_stands, .ref q_kept, .int v_keptMany, .ref q_one, .ref q_two, .ref q_ways, .ref q_now, .ref q_then])), (q_text, .inl (ca 0, 500, .inl v_text))] sz) [(q_this, .inr (8, [.ref q_text, .int v_size, .int o_at, .ref q_read, .ref q_l, .ref q_stands, .ref q_kept, .int v_keptMany, .ref q_one, .ref q_two, .ref q_ways, .ref q_now, .ref q_then])), (q_text, .inl (ca 0, 500, .inl v_text))] r) 0 0 (va_A [(q_this, .inr (8, [.ref q_text, .int v_size, .int v_at, .ref q_read, .ref q_l, .ref q_stands, .ref q_kept, .int v_keptMany, .ref q_one, .ref q_two, .ref q_ways, .ref q_now, .ref q_then])), (q_text, .inl (ca 0, 500, .inl v_text))] sz) := by
  refine Met.ofW (cc := cX10_number) (maxL := 5) (ret := (some .int)) (by decide +kernel) rfl ?_
  intro p e s m args below meth c s₁ B hml hv
  obtain ⟨rfl, hsz, hP, hK, hD0⟩ := hv
  have hx := B.exec
  have hb := B.bytes
  have hr := B.returns
  have hts := atoms_spec (ws := wsX10_number) B.pre
  have hown : s.vm.findClass RX10 = some m.cls := findClass_of_methodNamed B.named
  have hlocks := B.notSynchronized
  clear B
  subst hsz
  have hD := hD0.self (sz := s.heap.size)
  generalize hAe : va_A [(q_this, .inr (8, [.ref q_text, .int v_size, .int v_at, .ref q_read, .ref q_l, .ref q_stands, .ref q_kept, .int v_keptMany, .ref q_one, .ref q_two, .ref q_ways, .ref q_now, .ref q_then])), (q_text, .inl (ca 0, 500, .inl v_text))] s.heap.size = A at hD ⊢
  have hA : ∀ q : Nat, s.heap.size ≤ q → A q := fun q h => by rw [← hAe]; exact Or.inr h
  have hS : va_S A s.heap s.heap [] := va_S.rf
  have hl := lv_entry ([.ref q_this, .int p1, .int p2]) (n := 5) (Nat.le_of_ble_eq_true rfl)
  rw [lg_entry_eq]
  generalize (lg_sl ([.ref q_this, .int p1, .int p2]) ++ List.replicate (5 - (lg_sl ([.ref q_this, .int p1, .int p2])).length) Slot.unset).toArray = ls at hl ⊢
  have hl : lv_has ls 5 [(0, .ref q_this), (1, .int p1), (2, .int p2)] := hl
  generalize ([.ref q_this, .int p1, .int p2] : List Value).toArray = args at hts ⊢
  generalize hQe : MQ below (kQi D ca (A) [(q_this, .inr (8, [.ref q_text, .int v_size, .int o_at, .ref q_read, .ref q_l, .ref q_stands, .ref q_kept, .int v_keptMany, .ref q_one, .ref q_two, .ref q_ways, .ref q_now, .ref q_then])), (q_text, .inl (ca 0, 500, .inl v_text))] r) args s 0 0 A = Q
  have k_67 := hts (.constantLong RX10 67 (lN 48)) (by decide +kernel)
  have k_69 := hts (.constantLong RX10 69 (lN 57)) (by decide +kernel)
  have i_X10 : ∀ w ∈ u_ws RX10 TX10 13, w ∈ wsX10_number := by decide +kernel
  have k_60 := hts (.fieldLink RX10 60 "TradeWordsModel" "at" "I") (by decide +kernel)
  rw [D_X10_number] at h
  refine lv_iconst (v := (nI 0)) hx hb dX10_number_0 (by decide) ?_
  refine lv_istore_n (lv' := [(3, .int (nI 0)), (0, .ref q_this), (1, .int p1), (2, .int p2)]) hx hb dX10_number_1 rfl hl (by decide) rfl (fun ls hl => ?_)
  refine lv_iconst (v := (nI 0)) hx hb dX10_number_2 (by decide) ?_
  refine lv_istore (lv' := [(4, .int (nI 0)), (3, .int (nI 0)), (0, .ref q_this), (1, .int p1), (2, .int p2)]) hx hb dX10_number_3 hl (by decide) rfl (fun ls hl => ?_)
  obtain ⟨o_4, o_5, o_6, hL, h⟩ := bd3_el h
  have hex : ∀ (H : Heap) (locs : List Loc) (ls : Array Slot), va_P D vwCl [(q_this, .inr (8, [.ref q_text, .int v_size, .int o_6, .ref q_read, .ref q_l, .ref q_stands, .ref q_kept, .int v_keptMany, .ref q_one, .ref q_two, .ref q_ways, .ref q_now, .ref q_then])), (q_text, .inl (ca 0, 500, .inl v_text))] H → va_D A [(q_this, .inr (8, [.ref q_text, .int v_size, .int o_6, .ref q_read, .ref q_l, .ref q_stands, .ref q_kept, .int v_keptMany, .ref q_one, .ref q_two, .ref q_ways, .ref q_now, .ref q_then])), (q_text, .inl (ca 0, 500, .inl v_text))] → va_S A s.heap H locs → lv_has ls 5 [(1, .int p1), (2, .int p2), (3, .int o_4), (4, .int o_5)] → W p l e (headSpec wsX10_number rm_X10_number).room s m args below meth c H locs 0 0 Q (F0 m 57 ls []) := by
    intro H locs ls hP hD hS hl
    refine lv_iload hx hb dX10_number_57 (lv_at hl 3 rfl) ?_
    refine lv_if_le (tgt := 78) hx hb dX10_number_59 (by decide) (fun c_19 => ?_) (fun c_19 => ?_)
    · replace h := ifp_el c_19 h
      refine lv_iconst (v := (-1 : Int32)) hx hb dX10_number_78 (by decide) ?_
      cases h
      rw [← hQe]
      exact W.iret hx hb hr (fun t ht hW => ⟨⟨_, (), rfl, rfl, by rw [ht]; exact hP, va_K.moved hW.alike hK, hD⟩, hS.F ht⟩) hS.2.2 dX10_number_79
    · replace h := ifn_el c_19 h
      refine lv_iload_n hx hb dX10_number_62 rfl (lv_at hl 2 rfl) ?_
      refine lv_i2l hx hb dX10_number_63 rfl ?_
      refine lv_iload_n hx hb dX10_number_64 rfl (lv_at hl 0 rfl) ?_
      refine lv_i2l hx hb dX10_number_65 rfl ?_
      refine lv_iload_n hx hb dX10_number_66 rfl (lv_at hl 1 rfl) ?_
      refine lv_i2l hx hb dX10_number_67 rfl ?_
      obtain ⟨r_20, hg_21, h⟩ := bd1_el h
      refine kx_Si (As := [.long o_4.toInt64, .long p1.toInt64, .long p2.toInt64]) (rest := []) (wr := [(q_this, .inr (8, [.ref q_text, .int v_size, .int o_6, .ref q_read, .ref q_l, .ref q_stands, .ref q_kept, .int v_keptMany, .ref q_one, .ref q_two, .ref q_ways, .ref q_now, .ref q_then])), (q_text, .inl (ca 0, 500, .inl v_text))]) (w1 := []) (wn := [(q_this, .inr (8, [.ref q_text, .int v_size, .int o_6, .ref q_read, .ref q_l, .ref q_stands, .ref q_kept, .int v_keptMany, .ref q_one, .ref q_two, .ref q_ways, .ref q_now, .ref q_then])), (q_text, .inl (ca 0, 500, .inl v_text))]) ⟨hx, hb, hml, hown, hts⟩ (c_X10_in l D ca H.size o_4.toInt64 p1.toInt64 p2.toInt64 r_20 hg_21) (va_cwS 3 hts gX10_number_X10_in rfl rfl rfl (by decide +kernel) ⟨(Nat.le_of_ble_eq_true rfl), (Nat.le_of_ble_eq_true rfl)⟩) hK hP hD hS hA [] [0, 1] [0, 1] rfl rfl rfl rfl (by decide) rfl rfl rfl hl.1 rfl (Nat.le_of_ble_eq_true rfl) dX10_number_68 ⟨Nat.zero_le _, Nat.zero_le _⟩ (fun H locs hP hD hS => ?_)
      refine lv_if_eq (tgt := 78) hx hb dX10_number_71 (by decide) (fun c_22 => ?_) (fun c_22 => ?_)
      · replace h := ifp_el c_22 h
        refine lv_iconst (v := (-1 : Int32)) hx hb dX10_number_78 (by decide) ?_
        cases h
        rw [← hQe]
        exact W.iret hx hb hr (fun t ht hW => ⟨⟨_, (), rfl, rfl, by rw [ht]; exact hP, va_K.moved hW.alike hK, hD⟩, hS.F ht⟩) hS.2.2 dX10_number_79
      · replace h := ifn_el c_22 h
        refine lv_iload_n hx hb dX10_number_74 rfl (lv_at hl 2 rfl) ?_
        refine lv_goto (tgt := 79) hx hb dX10_number_75 (by decide) ?_
        cases h
        rw [← hQe]
        exact W.iret hx hb hr (fun t ht hW => ⟨⟨_, (), rfl, rfl, by rw [ht]; exact hP, va_K.moved hW.alike hK, hD⟩, hS.F ht⟩) hS.2.2 dX10_number_79
  have hlp : ∀ (n : Nat) (x3_1 : Int32) (x4_2 : Int32) (y_at_3 : Int32) (o_4 : Int32) (o_5 : Int32) (o_6 : Int32) (H : Heap) (locs : List Loc) (ls : Array Slot), lpg (T := Int32 → Int32 → Int32 → Option (Int32 × Int32 × Int32)) (fun _ _ _ => none) (b_X10_number_5 v_size v_text) n x3_1 x4_2 y_at_3 = some (o_4, o_5, o_6) → (∀ (H : Heap) (locs : List Loc) (ls : Array Slot), va_P D vwCl [(q_this, .inr (8, [.ref q_text, .int v_size, .int o_6, .ref q_read, .ref q_l, .ref q_stands, .ref q_kept, .int v_keptMany, .ref q_one, .ref q_two, .ref q_ways, .ref q_now, .ref q_then])), (q_text, .inl (ca 0, 500, .inl v_text))] H → va_D A [(q_this, .inr (8, [.ref q_text, .int v_size, .int o_6, .ref q_read, .ref q_l, .ref q_stands, .ref q_kept, .int v_keptMany, .ref q_one, .ref q_two, .ref q_ways, .ref q_now, .ref q_then])), (q_text, .inl (ca 0, 500, .inl v_text))] → va_S A s.heap H locs → lv_has ls 5 [(1, .int p1), (2, .int p2), (3, .int o_4), (4, .int o_5)] → W p l e (headSpec wsX10_number rm_X10_number).room s m args below meth c H locs 0 0 Q (F0 m 57 ls [])) → va_P D vwCl [(q_this, .inr (8, [.ref q_text, .int v_size, .int y_at_3, .ref q_read, .ref q_l, .ref q_stands, .ref q_kept, .int v_keptMany, .ref q_one, .ref q_two, .ref q_ways, .ref q_now, .ref q_then])), (q_text, .inl (ca 0, 500, .inl v_text))] H → va_D A [(q_this, .inr (8, [.ref q_text, .int v_size, .int y_at_3, .ref q_read, .ref q_l, .ref q_stands, .ref q_kept, .int v_keptMany, .ref q_one, .ref q_two, .ref q_ways, .ref q_now, .ref q_then])), (q_text, .inl (ca 0, 500, .inl v_text))] → va_S A s.heap H locs → lv_has ls 5 [(0, .ref q_this), (1, .int p1), (2, .int p2), (3, .int x3_1), (4, .int x4_2)] → W p l e (headSpec wsX10_number rm_X10_number).room s m args below meth c H locs 0 0 Q (F0 m 5 ls []) := by
    intro n
    induction n with
    | zero => intro x3_1 x4_2 y_at_3 o_4 o_5 o_6 H locs ls h; have h : (none : Option (Int32 × Int32 × Int32)) = some _ := h; cases h
    | succ n ih =>
      intro x3_1 x4_2 y_at_3 o_4 o_5 o_6 H locs ls h hex hP hD hS hl
      rw [lpg_succ, b_X10_number_5] at h
      refine lv_iload hx hb dX10_number_5 (lv_at hl 4 rfl) ?_
      refine lv_iconst (v := (nI 2)) hx hb dX10_number_7 (by decide) ?_
      refine lv_icmp_ge (tgt := 57) hx hb dX10_number_8 (by decide) (fun c_7 => ?_) (fun c_7 => ?_)
      · replace h := ifp_el c_7 h
        cases h
        exact hex _ _ _ hP hD hS (lv_sub hl [1, 2, 3, 4] rfl)
      · replace h := ifn_el c_7 h
        refine lv_aload_n hx hb dX10_number_11 rfl (lv_at hl 0 rfl) ?_
        obtain ⟨r_8, hg_9, h⟩ := bd1_el h
        refine kx_Vi (As := []) (rest := []) (wr := []) (w1 := [(q_this, .inr (8, [.ref q_text, .int v_size, .int y_at_3, .ref q_read, .ref q_l, .ref q_stands, .ref q_kept, .int v_keptMany, .ref q_one, .ref q_two, .ref q_ways, .ref q_now, .ref q_then])), (q_text, .inl (ca 0, 500, .inl v_text))]) (wn := [(q_this, .inr (8, [.ref q_text, .int v_size, .int y_at_3, .ref q_read, .ref q_l, .ref q_stands, .ref q_kept, .int v_keptMany, .ref q_one, .ref q_two, .ref q_ways, .ref q_now, .ref q_then])), (q_text, .inl (ca 0, 500, .inl v_text))]) ⟨hx, hb, hml, hown, hts⟩ (c_X10_byteAt l D ca H.size q_this q_text q_read q_l q_stands q_kept q_one q_two q_ways q_now q_then v_size y_at_3 v_keptMany v_text r_8 hg_9) (cwV 0 hts gX10_number_X10_byteAt rfl rfl rfl (by decide +kernel) ⟨(Nat.le_of_ble_eq_true rfl), (Nat.le_of_ble_eq_true rfl)⟩) hK hP hD hS hA (ci := 8) (q0 := 0) rfl rfl [0, 1] [] [0, 1] rfl rfl rfl rfl (by decide) rfl rfl rfl hl.1 rfl (Nat.le_of_ble_eq_true rfl) dX10_number_12 ⟨Nat.zero_le _, Nat.zero_le _⟩ (fun H locs hP hD hS => ?_)
        refine lv_i2l hx hb dX10_number_15 rfl ?_
        refine lv_ldc2 hx hb hown k_67 dX10_number_16 ?_
        refine lv_ldc2 hx hb hown k_69 dX10_number_19 ?_
        obtain ⟨r_10, hg_11, h⟩ := bd1_el h
        refine kx_Si (As := [.long r_8.toInt64, .long (lN 48), .long (lN 57)]) (rest := []) (wr := [(q_this, .inr (8, [.ref q_text, .int v_size, .int y_at_3, .ref q_read, .ref q_l, .ref q_stands, .ref q_kept, .int v_keptMany, .ref q_one, .ref q_two, .ref q_ways, .ref q_now, .ref q_then])), (q_text, .inl (ca 0, 500, .inl v_text))]) (w1 := []) (wn := [(q_this, .inr (8, [.ref q_text, .int v_size, .int y_at_3, .ref q_read, .ref q_l, .ref q_stands, .ref q_kept, .int v_keptMany, .ref q_one, .ref q_two, .ref q_ways, .ref q_now, .ref q_then])), (q_text, .inl (ca 0, 500, .inl v_text))]) ⟨hx, hb, hml, hown, hts⟩ (c_X10_in l D ca H.size r_8.toInt64 (lN 48) (lN 57) r_10 hg_11) (va_cwS 3 hts gX10_number_X10_in rfl rfl rfl (by decide +kernel) ⟨(Nat.le_of_ble_eq_true rfl), (Nat.le_of_ble_eq_true rfl)⟩) hK hP hD hS hA [] [0, 1] [0, 1] rfl rfl rfl rfl (by decide) rfl rfl rfl hl.1 rfl (Nat.le_of_ble_eq_true rfl) dX10_number_22 ⟨Nat.zero_le _, Nat.zero_le _⟩ (fun H locs hP hD hS => ?_)
        refine lv_if_eq (tgt := 57) hx hb dX10_number_25 (by decide) (fun c_12 => ?_) (fun c_12 => ?_)
        · replace h := ifp_el c_12 h
          cases h
          exact hex _ _ _ hP hD hS (lv_sub hl [1, 2, 3, 4] rfl)
        · replace h := ifn_el c_12 h
          refine lv_bipush (v := (nI 10)) hx hb dX10_number_28 (by decide) ?_
          refine lv_iload_n hx hb dX10_number_30 rfl (lv_at hl 3 rfl) ?_
          refine lv_imul hx hb dX10_number_31 ?_
          refine lv_aload_n hx hb dX10_number_32 rfl (lv_at hl 0 rfl) ?_
          obtain ⟨r_13, hg_14, h⟩ := bd1_el h
          refine kx_Vi (As := []) (rest := [.int ((nI 10) * x3_1)]) (wr := []) (w1 := [(q_this, .inr (8, [.ref q_text, .int v_size, .int y_at_3, .ref q_read, .ref q_l, .ref q_stands, .ref q_kept, .int v_keptMany, .ref q_one, .ref q_two, .ref q_ways, .ref q_now, .ref q_then])), (q_text, .inl (ca 0, 500, .inl v_text))]) (wn := [(q_this, .inr (8, [.ref q_text, .int v_size, .int y_at_3, .ref q_read, .ref q_l, .ref q_stands, .ref q_kept, .int v_keptMany, .ref q_one, .ref q_two, .ref q_ways, .ref q_now, .ref q_then])), (q_text, .inl (ca 0, 500, .inl v_text))]) ⟨hx, hb, hml, hown, hts⟩ (c_X10_byteAt l D ca H.size q_this q_text q_read q_l q_stands q_kept q_one q_two q_ways q_now q_then v_size y_at_3 v_keptMany v_text r_13 hg_14) (cwV 0 hts gX10_number_X10_byteAt rfl rfl rfl (by decide +kernel) ⟨(Nat.le_of_ble_eq_true rfl), (Nat.le_of_ble_eq_true rfl)⟩) hK hP hD hS hA (ci := 8) (q0 := 0) rfl rfl [0, 1] [] [0, 1] rfl rfl rfl rfl (by decide) rfl rfl rfl hl.1 rfl (Nat.le_of_ble_eq_true rfl) dX10_number_33 ⟨Nat.zero_le _, Nat.zero_le _⟩ (fun H locs hP hD hS => ?_)
          refine lv_iadd hx hb dX10_number_36 ?_
          refine lv_bipush (v := (nI 48)) hx hb dX10_number_37 (by decide) ?_
          refine lv_isub hx hb dX10_number_39 ?_
          refine lv_nmi h (fun x3_15 h => ?_)
          refine lv_istore_n (lv' := [(3, .int x3_15), (0, .ref q_this), (1, .int p1), (2, .int p2), (4, .int x4_2)]) hx hb dX10_number_40 rfl hl (by decide) rfl (fun ls hl => ?_)
          refine lv_aload_n hx hb dX10_number_41 rfl (lv_at hl 1 rfl) ?_
          refine lv_dup hx hb dX10_number_42 rfl ?_
          refine va_get (D := D) (ci := 8) (v := .int y_at_3) (C := RX10) (T := TX10) (N := 13) hx hb hts i_X10 hown hK hP 0 rfl rfl 2 (by decide) k_60 (fun _ h9 => h9) rfl dX10_number_43 ?_
          refine lv_iconst (v := (nI 1)) hx hb dX10_number_46 (by decide) ?_
          refine lv_iadd hx hb dX10_number_47 ?_
          refine lv_nmi h (fun w_16 h => ?_)
          refine va_put (D := D) (ci := 8) (v := .int w_16) (ty := .int) (C := RX10) (T := TX10) (N := 13) hx hb hts i_X10 tyX10 tyX10_ok nmX10 hown hK hP hD hS 0 rfl rfl 2 (by decide) k_60 (fun _ h9 => h9) rfl (by decide +kernel) rfl rfl (Nat.le_of_ble_eq_true rfl) dX10_number_48 (fun H locs hP hD hS => ?_)
          have hP : va_P D vwCl [(q_this, .inr (8, [.ref q_text, .int v_size, .int w_16, .ref q_read, .ref q_l, .ref q_stands, .ref q_kept, .int v_keptMany, .ref q_one, .ref q_two, .ref q_ways, .ref q_now, .ref q_then])), (q_text, .inl (ca 0, 500, .inl v_text))] H := hP
          have hD : va_D A [(q_this, .inr (8, [.ref q_text, .int v_size, .int w_16, .ref q_read, .ref q_l, .ref q_stands, .ref q_kept, .int v_keptMany, .ref q_one, .ref q_two, .ref q_ways, .ref q_now, .ref q_then])), (q_text, .inl (ca 0, 500, .inl v_text))] := hD
          obtain ⟨x4_17, e_18, h⟩ := nm_el h
          refine lv_iinc (v := x4_17) (lv' := [(4, .int x4_17), (3, .int x3_15), (0, .ref q_this), (1, .int p1), (2, .int p2)]) hx hb dX10_number_51 hl (k := 4) rfl (by rw [← e_18]; rfl) (by decide) rfl (fun ls hl => ?_)
          refine lv_goto (tgt := 5) hx hb dX10_number_54 (by decide) ?_
          exact ih _ _ _ _ _ _ _ _ _ h hex hP hD hS (lv_sub hl [2, 3, 4, 1, 0] rfl)
  exact hlp F (nI 0) (nI 0) v_at o_4 o_5 o_6 s.heap [] ls hL hex hP hD hS (lv_sub hl [2, 3, 4, 1, 0] rfl)
def D_X10_sound (v_size : Int32) (v_at : Int32) (v_text : Nat → Int32) : Option (Int32 × Int32) := bd1 (D_X10_byteAt v_size v_at v_text) (fun r_1 => nm (r_1 - (nI 97)) (fun x1_3 => bd1 (D_X10_in x1_3.toInt64 (lN 0) (lN 15)) (fun r_4 => (if r_4 = 0 then some ((-1 : Int32), v_at) else nm (v_at + (nI 1)) (fun w_7 => some (x1_3, w_7))))))
abbrev rm_X10_sound : Room := { frames := 1, cells := 0, slots := 0, locals := 25 }
set_option maxHeartbeats 4000000 in
set_option maxRecDepth 100000 in
theorem c_X10_sound (l : Launch) (D : va_G) (ca : Nat → ClassId) (sz : Nat) (q_this q_text q_read q_l q_stands q_kept q_one q_two q_ways q_now q_then : Nat) (v_size : Int32) (v_at : Int32) (v_keptMany : Int32) (v_text : Nat → Int32) (r : Int32) (o_at : Int32) (h : D_X10_sound v_size v_at v_text = some (r, o_at)) : Met l yX10_sound wsX10_sound rm_X10_sound (va_Pc [.ref q_this] (kPre D ca [(q_this, .inr (8, [.ref q_text, .int v_size, .int v_at, .ref q_read, .ref q_l, .ref q_stands, .ref q_kept, .int v_keptMany, .ref q_one, .ref q_two, .ref q_ways, .ref q_now, .ref q_then])), (q_text, .inl (ca 0, 500, .inl v_text))] sz)) (kQi D ca (va_A [(q_this, .inr (8, [.ref q_text, .int v_size, .int v_at, .ref q_read, .ref q_l, .ref q_stands, .ref q_kept, .int v_keptMany, .ref q_one, .ref q_two, .ref q_ways, .ref q_now, .ref q_then])), (q_text, .inl (ca 0, 500, .inl v_text))] sz) [(q_this, .inr (8, [.ref q_text, .int v_size, .int o_at, .ref q_read, .ref q_l, .ref q_stands, .ref q_kept, .int v_keptMany, .ref q_one, .ref q_two, .ref q_ways, .ref q_now, .ref q_then])), (q_text, .inl (ca 0, 500, .inl v_text))] r) 0 0 (va_A [(q_this, .inr (8, [.ref q_text, .int v_size, .int v_at, .ref q_read, .ref q_l, .ref q_stands, .ref q_kept, .int v_keptMany, .ref q_one, .ref q_two, .ref q_ways, .ref q_now, .ref q_then])), (q_text, .inl (ca 0, 500, .inl v_text))] sz) := by
  refine Met.ofW (cc := cX10_sound) (maxL := 2) (ret := (some .int)) (by decide +kernel) rfl ?_
  intro p e s m args below meth c s₁ B hml hv
  obtain ⟨rfl, hsz, hP, hK, hD0⟩ := hv
  have hx := B.exec
  have hb := B.bytes
  have hr := B.returns
  have hts := atoms_spec (ws := wsX10_sound) B.pre
  have hown : s.vm.findClass RX10 = some m.cls := findClass_of_methodNamed B.named
  have hlocks := B.notSynchronized
  clear B
  subst hsz
  have hD := hD0.self (sz := s.heap.size)
  generalize hAe : va_A [(q_this, .inr (8, [.ref q_text, .int v_size, .int v_at, .ref q_read, .ref q_l, .ref q_stands, .ref q_kept, .int v_keptMany, .ref q_one, .ref q_two, .ref q_ways, .ref q_now, .ref q_then])), (q_text, .inl (ca 0, 500, .inl v_text))] s.heap.size = A at hD ⊢
  have hA : ∀ q : Nat, s.heap.size ≤ q → A q := fun q h => by rw [← hAe]; exact Or.inr h
  have hS : va_S A s.heap s.heap [] := va_S.rf
  have hl := lv_entry ([.ref q_this]) (n := 2) (Nat.le_of_ble_eq_true rfl)
  rw [lg_entry_eq]
  generalize (lg_sl ([.ref q_this]) ++ List.replicate (2 - (lg_sl ([.ref q_this])).length) Slot.unset).toArray = ls at hl ⊢
  have hl : lv_has ls 2 [(0, .ref q_this)] := hl
  generalize ([.ref q_this] : List Value).toArray = args at hts ⊢
  generalize hQe : MQ below (kQi D ca (A) [(q_this, .inr (8, [.ref q_text, .int v_size, .int o_at, .ref q_read, .ref q_l, .ref q_stands, .ref q_kept, .int v_keptMany, .ref q_one, .ref q_two, .ref q_ways, .ref q_now, .ref q_then])), (q_text, .inl (ca 0, 500, .inl v_text))] r) args s 0 0 A = Q
  have k_71 := hts (.constantLong RX10 71 (lN 15)) (by decide +kernel)
  have i_X10 : ∀ w ∈ u_ws RX10 TX10 13, w ∈ wsX10_sound := by decide +kernel
  have k_60 := hts (.fieldLink RX10 60 "TradeWordsModel" "at" "I") (by decide +kernel)
  rw [D_X10_sound] at h
  refine lv_aload_n hx hb dX10_sound_0 rfl (lv_at hl 0 rfl) ?_
  obtain ⟨r_1, hg_2, h⟩ := bd1_el h
  refine kx_Vi (As := []) (rest := []) (wr := []) (w1 := [(q_this, .inr (8, [.ref q_text, .int v_size, .int v_at, .ref q_read, .ref q_l, .ref q_stands, .ref q_kept, .int v_keptMany, .ref q_one, .ref q_two, .ref q_ways, .ref q_now, .ref q_then])), (q_text, .inl (ca 0, 500, .inl v_text))]) (wn := [(q_this, .inr (8, [.ref q_text, .int v_size, .int v_at, .ref q_read, .ref q_l, .ref q_stands, .ref q_kept, .int v_keptMany, .ref q_one, .ref q_two, .ref q_ways, .ref q_now, .ref q_then])), (q_text, .inl (ca 0, 500, .inl v_text))]) ⟨hx, hb, hml, hown, hts⟩ (c_X10_byteAt l D ca s.heap.size q_this q_text q_read q_l q_stands q_kept q_one q_two q_ways q_now q_then v_size v_at v_keptMany v_text r_1 hg_2) (cwV 0 hts gX10_sound_X10_byteAt rfl rfl rfl (by decide +kernel) ⟨(Nat.le_of_ble_eq_true rfl), (Nat.le_of_ble_eq_true rfl)⟩) hK hP hD hS hA (ci := 8) (q0 := 0) rfl rfl [0, 1] [] [0, 1] rfl rfl rfl rfl (by decide) rfl rfl rfl hl.1 rfl (Nat.le_of_ble_eq_true rfl) dX10_sound_1 ⟨Nat.zero_le _, Nat.zero_le _⟩ (fun H locs hP hD hS => ?_)
  refine lv_bipush (v := (nI 97)) hx hb dX10_sound_4 (by decide) ?_
  refine lv_isub hx hb dX10_sound_6 ?_
  refine lv_nmi h (fun x1_3 h => ?_)
  refine lv_istore_n (lv' := [(1, .int x1_3), (0, .ref q_this)]) hx hb dX10_sound_7 rfl hl (by decide) rfl (fun ls hl => ?_)
  refine lv_iload_n hx hb dX10_sound_8 rfl (lv_at hl 0 rfl) ?_
  refine lv_i2l hx hb dX10_sound_9 rfl ?_
  refine lv_lconst (v := (lN 0)) hx hb dX10_sound_10 (by decide) ?_
  refine lv_ldc2 hx hb hown k_71 dX10_sound_11 ?_
  obtain ⟨r_4, hg_5, h⟩ := bd1_el h
  refine kx_Si (As := [.long x1_3.toInt64, .long (lN 0), .long (lN 15)]) (rest := []) (wr := [(q_this, .inr (8, [.ref q_text, .int v_size, .int v_at, .ref q_read, .ref q_l, .ref q_stands, .ref q_kept, .int v_keptMany, .ref q_one, .ref q_two, .ref q_ways, .ref q_now, .ref q_then])), (q_text, .inl (ca 0, 500, .inl v_text))]) (w1 := []) (wn := [(q_this, .inr (8, [.ref q_text, .int v_size, .int v_at, .ref q_read, .ref q_l, .ref q_stands, .ref q_kept, .int v_keptMany, .ref q_one, .ref q_two, .ref q_ways, .ref q_now, .ref q_then])), (q_text, .inl (ca 0, 500, .inl v_text))]) ⟨hx, hb, hml, hown, hts⟩ (c_X10_in l D ca H.size x1_3.toInt64 (lN 0) (lN 15) r_4 hg_5) (va_cwS 3 hts gX10_sound_X10_in rfl rfl rfl (by decide +kernel) ⟨(Nat.le_of_ble_eq_true rfl), (Nat.le_of_ble_eq_true rfl)⟩) hK hP hD hS hA [] [0, 1] [0, 1] rfl rfl rfl rfl (by decide) rfl rfl rfl hl.1 rfl (Nat.le_of_ble_eq_true rfl) dX10_sound_14 ⟨Nat.zero_le _, Nat.zero_le _⟩ (fun H locs hP hD hS => ?_)
  refine lv_if_ne (tgt := 22) hx hb dX10_sound_17 (by decide) (fun c_6 => ?_) (fun c_6 => ?_)
  · replace h := ifn_el c_6 h
    refine lv_aload_n hx hb dX10_sound_22 rfl (lv_at hl 1 rfl) ?_
    refine lv_dup hx hb dX10_sound_23 rfl ?_
    refine va_get (D := D) (ci := 8) (v := .int v_at) (C := RX10) (T := TX10) (N := 13) hx hb hts i_X10 hown hK hP 0 rfl rfl 2 (by decide) k_60 (fun _ h9 => h9) rfl dX10_sound_24 ?_
    refine lv_iconst (v := (nI 1)) hx hb dX10_sound_27 (by decide) ?_
    refine lv_iadd hx hb dX10_sound_28 ?_
    refine lv_nmi h (fun w_7 h => ?_)
    refine va_put (D := D) (ci := 8) (v := .int w_7) (ty := .int) (C := RX10) (T := TX10) (N := 13) hx hb hts i_X10 tyX10 tyX10_ok nmX10 hown hK hP hD hS 0 rfl rfl 2 (by decide) k_60 (fun _ h9 => h9) rfl (by decide +kernel) rfl rfl (Nat.le_of_ble_eq_true rfl) dX10_sound_29 (fun H locs hP hD hS => ?_)
    have hP : va_P D vwCl [(q_this, .inr (8, [.ref q_text, .int v_size, .int w_7, .ref q_read, .ref q_l, .ref q_stands, .ref q_kept, .int v_keptMany, .ref q_one, .ref q_two, .ref q_ways, .ref q_now, .ref q_then])), (q_text, .inl (ca 0, 500, .inl v_text))] H := hP
    have hD : va_D A [(q_this, .inr (8, [.ref q_text, .int v_size, .int w_7, .ref q_read, .ref q_l, .ref q_stands, .ref q_kept, .int v_keptMany, .ref q_one, .ref q_two, .ref q_ways, .ref q_now, .ref q_then])), (q_text, .inl (ca 0, 500, .inl v_text))] := hD
    refine lv_iload_n hx hb dX10_sound_32 rfl (lv_at hl 0 rfl) ?_
    cases h
    rw [← hQe]
    exact W.iret hx hb hr (fun t ht hW => ⟨⟨_, (), rfl, rfl, by rw [ht]; exact hP, va_K.moved hW.alike hK, hD⟩, hS.F ht⟩) hS.2.2 dX10_sound_33
  · replace h := ifp_el c_6 h
    refine lv_iconst (v := (-1 : Int32)) hx hb dX10_sound_20 (by decide) ?_
    cases h
    rw [← hQe]
    exact W.iret hx hb hr (fun t ht hW => ⟨⟨_, (), rfl, rfl, by rw [ht]; exact hP, va_K.moved hW.alike hK, hD⟩, hS.F ht⟩) hS.2.2 dX10_sound_21
def b_X10_word_7 (p1 : Int32) (v_size : Int32) (v_text : Nat → Int32) (rec7 : Int32 → Int32 → Int32 → (Nat → Int32) → Option (Int32 × Int32 × (Nat → Int32))) (x2_4 : Int32) (x3_5 : Int32) (y_at_6 : Int32) (y_read_7 : Nat → Int32) : Option (Int32 × Int32 × (Nat → Int32)) := (if x3_5 < 0 then ck 336 p1 ((if x2_4 ≤ 0 then some ((nI 0), y_at_6, (upd y_read_7 p1.toNatClampNeg x2_4)) else some ((nI 1), y_at_6, (upd y_read_7 p1.toNatClampNeg x2_4)))) else (if x2_4 = (nI 6) then some ((nI 0), y_at_6, y_read_7) else ck 336 ((p1 + (nI 1)) + x2_4) (nm (x2_4 + (nI 1)) (fun x2_13 => bd2 (D_X10_sound v_size y_at_6 v_text) (fun r_15 y_at_16 => rec7 x2_13 r_15 y_at_16 (upd y_read_7 ((p1 + (nI 1)) + x2_4).toNatClampNeg x3_5))))))
def D_X10_word (F : Nat) (p1 : Int32) (v_size : Int32) (v_at : Int32) (v_text : Nat → Int32) (v_read : Nat → Int32) : Option (Int32 × Int32 × (Nat → Int32)) := bd2 (D_X10_sound v_size v_at v_text) (fun r_1 y_at_2 => lpg (T := Int32 → Int32 → Int32 → (Nat → Int32) → Option (Int32 × Int32 × (Nat → Int32))) (fun _ _ _ _ => none) (b_X10_word_7 p1 v_size v_text) F (nI 0) r_1 y_at_2 v_read)
abbrev rm_X10_word : Room := { frames := 2, cells := 0, slots := 0, locals := 46 }
set_option maxHeartbeats 4000000 in
set_option maxRecDepth 100000 in
theorem c_X10_word (l : Launch) (D : va_G) (ca : Nat → ClassId) (F : Nat) (sz : Nat) (q_this q_text q_read q_l q_stands q_kept q_one q_two q_ways q_now q_then : Nat) (p1 : Int32) (v_size : Int32) (v_at : Int32) (v_keptMany : Int32) (v_text : Nat → Int32) (v_read : Nat → Int32) (r : Int32) (o_at : Int32) (o_read : Nat → Int32) (h : D_X10_word F p1 v_size v_at v_text v_read = some (r, o_at, o_read)) : Met l yX10_word wsX10_word rm_X10_word (va_Pc [.ref q_this, .int p1] (kPre D ca [(q_this, .inr (8, [.ref q_text, .int v_size, .int v_at, .ref q_read, .ref q_l, .ref q_stands, .ref q_kept, .int v_keptMany, .ref q_one, .ref q_two, .ref q_ways, .ref q_now, .ref q_then])), (q_text, .inl (ca 0, 500, .inl v_text)), (q_read, .inl (ca 0, 336, .inl v_read))] sz)) (kQi D ca (va_A [(q_this, .inr (8, [.ref q_text, .int v_size, .int v_at, .ref q_read, .ref q_l, .ref q_stands, .ref q_kept, .int v_keptMany, .ref q_one, .ref q_two, .ref q_ways, .ref q_now, .ref q_then])), (q_text, .inl (ca 0, 500, .inl v_text)), (q_read, .inl (ca 0, 336, .inl v_read))] sz) [(q_this, .inr (8, [.ref q_text, .int v_size, .int o_at, .ref q_read, .ref q_l, .ref q_stands, .ref q_kept, .int v_keptMany, .ref q_one, .ref q_two, .ref q_ways, .ref q_now, .ref q_then])), (q_text, .inl (ca 0, 500, .inl v_text)), (q_read, .inl (ca 0, 336, .inl o_read))] r) 0 0 (va_A [(q_this, .inr (8, [.ref q_text, .int v_size, .int v_at, .ref q_read, .ref q_l, .ref q_stands, .ref q_kept, .int v_keptMany, .ref q_one, .ref q_two, .ref q_ways, .ref q_now, .ref q_then])), (q_text, .inl (ca 0, 500, .inl v_text)), (q_read, .inl (ca 0, 336, .inl v_read))] sz) := by
  refine Met.ofW (cc := cX10_word) (maxL := 4) (ret := (some .boolean)) (by decide +kernel) rfl ?_
  intro p e s m args below meth c s₁ B hml hv
  obtain ⟨rfl, hsz, hP, hK, hD0⟩ := hv
  have hx := B.exec
  have hb := B.bytes
  have hr := B.returns
  have hts := atoms_spec (ws := wsX10_word) B.pre
  have hown : s.vm.findClass RX10 = some m.cls := findClass_of_methodNamed B.named
  have hlocks := B.notSynchronized
  clear B
  subst hsz
  have hD := hD0.self (sz := s.heap.size)
  generalize hAe : va_A [(q_this, .inr (8, [.ref q_text, .int v_size, .int v_at, .ref q_read, .ref q_l, .ref q_stands, .ref q_kept, .int v_keptMany, .ref q_one, .ref q_two, .ref q_ways, .ref q_now, .ref q_then])), (q_text, .inl (ca 0, 500, .inl v_text)), (q_read, .inl (ca 0, 336, .inl v_read))] s.heap.size = A at hD ⊢
  have hA : ∀ q : Nat, s.heap.size ≤ q → A q := fun q h => by rw [← hAe]; exact Or.inr h
  have hS : va_S A s.heap s.heap [] := va_S.rf
  have hl := lv_entry ([.ref q_this, .int p1]) (n := 4) (Nat.le_of_ble_eq_true rfl)
  rw [lg_entry_eq]
  generalize (lg_sl ([.ref q_this, .int p1]) ++ List.replicate (4 - (lg_sl ([.ref q_this, .int p1])).length) Slot.unset).toArray = ls at hl ⊢
  have hl : lv_has ls 4 [(0, .ref q_this), (1, .int p1)] := hl
  generalize ([.ref q_this, .int p1] : List Value).toArray = args at hts ⊢
  generalize hQe : MQ below (kQi D ca (A) [(q_this, .inr (8, [.ref q_text, .int v_size, .int o_at, .ref q_read, .ref q_l, .ref q_stands, .ref q_kept, .int v_keptMany, .ref q_one, .ref q_two, .ref q_ways, .ref q_now, .ref q_then])), (q_text, .inl (ca 0, 500, .inl v_text)), (q_read, .inl (ca 0, 336, .inl o_read))] r) args s 0 0 A = Q
  have i_X10 : ∀ w ∈ u_ws RX10 TX10 13, w ∈ wsX10_word := by decide +kernel
  have k_13 := hts (.fieldLink RX10 13 "TradeWordsModel" "read" "[I") (by decide +kernel)
  rw [D_X10_word] at h
  refine lv_iconst (v := (nI 0)) hx hb dX10_word_0 (by decide) ?_
  refine lv_istore_n (lv' := [(2, .int (nI 0)), (0, .ref q_this), (1, .int p1)]) hx hb dX10_word_1 rfl hl (by decide) rfl (fun ls hl => ?_)
  refine lv_aload_n hx hb dX10_word_2 rfl (lv_at hl 1 rfl) ?_
  obtain ⟨r_1, y_at_2, hg_3, h⟩ := bd2_el h
  refine kx_Vi (As := []) (rest := []) (wr := [(q_read, .inl (ca 0, 336, .inl v_read))]) (w1 := [(q_this, .inr (8, [.ref q_text, .int v_size, .int y_at_2, .ref q_read, .ref q_l, .ref q_stands, .ref q_kept, .int v_keptMany, .ref q_one, .ref q_two, .ref q_ways, .ref q_now, .ref q_then])), (q_text, .inl (ca 0, 500, .inl v_text))]) (wn := [(q_this, .inr (8, [.ref q_text, .int v_size, .int y_at_2, .ref q_read, .ref q_l, .ref q_stands, .ref q_kept, .int v_keptMany, .ref q_one, .ref q_two, .ref q_ways, .ref q_now, .ref q_then])), (q_text, .inl (ca 0, 500, .inl v_text)), (q_read, .inl (ca 0, 336, .inl v_read))]) ⟨hx, hb, hml, hown, hts⟩ (c_X10_sound l D ca s.heap.size q_this q_text q_read q_l q_stands q_kept q_one q_two q_ways q_now q_then v_size v_at v_keptMany v_text r_1 y_at_2 hg_3) (cwV 0 hts gX10_word_X10_sound rfl rfl rfl (by decide +kernel) ⟨(Nat.le_of_ble_eq_true rfl), (Nat.le_of_ble_eq_true rfl)⟩) hK hP hD hS hA (ci := 8) (q0 := 0) rfl rfl [0, 1] [2] [1, 2, 0] rfl rfl rfl rfl (by decide) rfl rfl rfl hl.1 rfl (Nat.le_of_ble_eq_true rfl) dX10_word_3 ⟨Nat.zero_le _, Nat.zero_le _⟩ (fun H locs hP hD hS => ?_)
  refine lv_istore_n (lv' := [(3, .int r_1), (2, .int (nI 0)), (0, .ref q_this), (1, .int p1)]) hx hb dX10_word_6 rfl hl (by decide) rfl (fun ls hl => ?_)
  have hlp : ∀ (n : Nat) (x2_4 : Int32) (x3_5 : Int32) (y_at_6 : Int32) (y_read_7 : Nat → Int32) (H : Heap) (locs : List Loc) (ls : Array Slot), lpg (T := Int32 → Int32 → Int32 → (Nat → Int32) → Option (Int32 × Int32 × (Nat → Int32))) (fun _ _ _ _ => none) (b_X10_word_7 p1 v_size v_text) n x2_4 x3_5 y_at_6 y_read_7 = some (r, o_at, o_read) → va_P D vwCl [(q_this, .inr (8, [.ref q_text, .int v_size, .int y_at_6, .ref q_read, .ref q_l, .ref q_stands, .ref q_kept, .int v_keptMany, .ref q_one, .ref q_two, .ref q_ways, .ref q_now, .ref q_then])), (q_text, .inl (ca 0, 500, .inl v_text)), (q_read, .inl (ca 0, 336, .inl y_read_7))] H → va_D A [(q_this, .inr (8, [.ref q_text, .int v_size, .int y_at_6, .ref q_read, .ref q_l, .ref q_stands, .ref q_kept, .int v_keptMany, .ref q_one, .ref q_two, .ref q_ways, .ref q_now, .ref q_then])), (q_text, .inl (ca 0, 500, .inl v_text)), (q_read, .inl (ca 0, 336, .inl y_read_7))] → va_S A s.heap H locs → lv_has ls 4 [(0, .ref q_this), (1, .int p1), (2, .int x2_4), (3, .int x3_5)] → W p l e (headSpec wsX10_word rm_X10_word).room s m args below meth c H locs 0 0 Q (F0 m 7 ls []) := by
    intro n
    induction n with
    | zero => intro x2_4 x3_5 y_at_6 y_read_7 H locs ls h; have h : (none : Option (Int32 × Int32 × (Nat → Int32))) = some _ := h; cases h
    | succ n ih =>
      intro x2_4 x3_5 y_at_6 y_read_7 H locs ls h hP hD hS hl
      rw [lpg_succ, b_X10_word_7] at h
      refine lv_iload_n hx hb dX10_word_7 rfl (lv_at hl 3 rfl) ?_
      refine lv_if_lt (tgt := 41) hx hb dX10_word_8 (by decide) (fun c_8 => ?_) (fun c_8 => ?_)
      · replace h := ifp_el c_8 h
        refine lv_aload_n hx hb dX10_word_41 rfl (lv_at hl 0 rfl) ?_
        refine va_get (D := D) (ci := 8) (v := .ref q_read) (C := RX10) (T := TX10) (N := 13) hx hb hts i_X10 hown hK hP 0 rfl rfl 3 (by decide) k_13 (fun _ h9 => h9) rfl dX10_word_42 ?_
        refine lv_iload_n hx hb dX10_word_45 rfl (lv_at hl 1 rfl) ?_
        refine lv_iload_n hx hb dX10_word_46 rfl (lv_at hl 2 rfl) ?_
        obtain ⟨hi_9, h⟩ := ck_el h
        refine va_iast hx hb hK hP hD hS 2 0 rfl rfl hi_9 dX10_word_47 (fun H locs hP hD hS => ?_)
        have hP : va_P D vwCl [(q_this, .inr (8, [.ref q_text, .int v_size, .int y_at_6, .ref q_read, .ref q_l, .ref q_stands, .ref q_kept, .int v_keptMany, .ref q_one, .ref q_two, .ref q_ways, .ref q_now, .ref q_then])), (q_text, .inl (ca 0, 500, .inl v_text)), (q_read, .inl (ca 0, 336, .inl (upd y_read_7 p1.toNatClampNeg x2_4)))] H := hP
        have hD : va_D A [(q_this, .inr (8, [.ref q_text, .int v_size, .int y_at_6, .ref q_read, .ref q_l, .ref q_stands, .ref q_kept, .int v_keptMany, .ref q_one, .ref q_two, .ref q_ways, .ref q_now, .ref q_then])), (q_text, .inl (ca 0, 500, .inl v_text)), (q_read, .inl (ca 0, 336, .inl (upd y_read_7 p1.toNatClampNeg x2_4)))] := hD
        refine lv_iload_n hx hb dX10_word_48 rfl (lv_at hl 2 rfl) ?_
        refine lv_if_le (tgt := 56) hx hb dX10_word_49 (by decide) (fun c_10 => ?_) (fun c_10 => ?_)
        · replace h := ifp_el c_10 h
          refine lv_iconst (v := (nI 0)) hx hb dX10_word_56 (by decide) ?_
          cases h
          rw [← hQe]
          exact W.zret hx hb hr rfl (fun t ht hW => ⟨⟨_, (), rfl, rfl, by rw [ht]; exact hP, va_K.moved hW.alike hK, hD⟩, hS.F ht⟩) hS.2.2 dX10_word_57
        · replace h := ifn_el c_10 h
          refine lv_iconst (v := (nI 1)) hx hb dX10_word_52 (by decide) ?_
          refine lv_goto (tgt := 57) hx hb dX10_word_53 (by decide) ?_
          cases h
          rw [← hQe]
          exact W.zret hx hb hr rfl (fun t ht hW => ⟨⟨_, (), rfl, rfl, by rw [ht]; exact hP, va_K.moved hW.alike hK, hD⟩, hS.F ht⟩) hS.2.2 dX10_word_57
      · replace h := ifn_el c_8 h
        refine lv_iload_n hx hb dX10_word_11 rfl (lv_at hl 2 rfl) ?_
        refine lv_bipush (v := (nI 6)) hx hb dX10_word_12 (by decide) ?_
        refine lv_icmp_ne (tgt := 19) hx hb dX10_word_14 (by decide) (fun c_11 => ?_) (fun c_11 => ?_)
        · replace h := ifn_el c_11 h
          refine lv_aload_n hx hb dX10_word_19 rfl (lv_at hl 0 rfl) ?_
          refine va_get (D := D) (ci := 8) (v := .ref q_read) (C := RX10) (T := TX10) (N := 13) hx hb hts i_X10 hown hK hP 0 rfl rfl 3 (by decide) k_13 (fun _ h9 => h9) rfl dX10_word_20 ?_
          refine lv_iload_n hx hb dX10_word_23 rfl (lv_at hl 1 rfl) ?_
          refine lv_iconst (v := (nI 1)) hx hb dX10_word_24 (by decide) ?_
          refine lv_iadd hx hb dX10_word_25 ?_
          refine lv_iload_n hx hb dX10_word_26 rfl (lv_at hl 2 rfl) ?_
          refine lv_iadd hx hb dX10_word_27 ?_
          refine lv_iload_n hx hb dX10_word_28 rfl (lv_at hl 3 rfl) ?_
          obtain ⟨hi_12, h⟩ := ck_el h
          refine va_iast hx hb hK hP hD hS 2 0 rfl rfl hi_12 dX10_word_29 (fun H locs hP hD hS => ?_)
          have hP : va_P D vwCl [(q_this, .inr (8, [.ref q_text, .int v_size, .int y_at_6, .ref q_read, .ref q_l, .ref q_stands, .ref q_kept, .int v_keptMany, .ref q_one, .ref q_two, .ref q_ways, .ref q_now, .ref q_then])), (q_text, .inl (ca 0, 500, .inl v_text)), (q_read, .inl (ca 0, 336, .inl (upd y_read_7 ((p1 + (nI 1)) + x2_4).toNatClampNeg x3_5)))] H := hP
          have hD : va_D A [(q_this, .inr (8, [.ref q_text, .int v_size, .int y_at_6, .ref q_read, .ref q_l, .ref q_stands, .ref q_kept, .int v_keptMany, .ref q_one, .ref q_two, .ref q_ways, .ref q_now, .ref q_then])), (q_text, .inl (ca 0, 500, .inl v_text)), (q_read, .inl (ca 0, 336, .inl (upd y_read_7 ((p1 + (nI 1)) + x2_4).toNatClampNeg x3_5)))] := hD
          obtain ⟨x2_13, e_14, h⟩ := nm_el h
          refine lv_iinc (v := x2_13) (lv' := [(2, .int x2_13), (0, .ref q_this), (1, .int p1), (3, .int x3_5)]) hx hb dX10_word_30 hl (k := 2) rfl (by rw [← e_14]; rfl) (by decide) rfl (fun ls hl => ?_)
          refine lv_aload_n hx hb dX10_word_33 rfl (lv_at hl 1 rfl) ?_
          obtain ⟨r_15, y_at_16, hg_17, h⟩ := bd2_el h
          refine kx_Vi (As := []) (rest := []) (wr := [(q_read, .inl (ca 0, 336, .inl (upd y_read_7 ((p1 + (nI 1)) + x2_4).toNatClampNeg x3_5)))]) (w1 := [(q_this, .inr (8, [.ref q_text, .int v_size, .int y_at_16, .ref q_read, .ref q_l, .ref q_stands, .ref q_kept, .int v_keptMany, .ref q_one, .ref q_two, .ref q_ways, .ref q_now, .ref q_then])), (q_text, .inl (ca 0, 500, .inl v_text))]) (wn := [(q_this, .inr (8, [.ref q_text, .int v_size, .int y_at_16, .ref q_read, .ref q_l, .ref q_stands, .ref q_kept, .int v_keptMany, .ref q_one, .ref q_two, .ref q_ways, .ref q_now, .ref q_then])), (q_text, .inl (ca 0, 500, .inl v_text)), (q_read, .inl (ca 0, 336, .inl (upd y_read_7 ((p1 + (nI 1)) + x2_4).toNatClampNeg x3_5)))]) ⟨hx, hb, hml, hown, hts⟩ (c_X10_sound l D ca H.size q_this q_text q_read q_l q_stands q_kept q_one q_two q_ways q_now q_then v_size y_at_6 v_keptMany v_text r_15 y_at_16 hg_17) (cwV 0 hts gX10_word_X10_sound rfl rfl rfl (by decide +kernel) ⟨(Nat.le_of_ble_eq_true rfl), (Nat.le_of_ble_eq_true rfl)⟩) hK hP hD hS hA (ci := 8) (q0 := 0) rfl rfl [0, 1] [2] [1, 2, 0] rfl rfl rfl rfl (by decide) rfl rfl rfl hl.1 rfl (Nat.le_of_ble_eq_true rfl) dX10_word_34 ⟨Nat.zero_le _, Nat.zero_le _⟩ (fun H locs hP hD hS => ?_)
          refine lv_istore_n (lv' := [(3, .int r_15), (2, .int x2_13), (0, .ref q_this), (1, .int p1)]) hx hb dX10_word_37 rfl hl (by decide) rfl (fun ls hl => ?_)
          refine lv_goto (tgt := 7) hx hb dX10_word_38 (by decide) ?_
          exact ih _ _ _ _ _ _ _ h hP hD hS (lv_sub hl [2, 3, 1, 0] rfl)
        · replace h := ifp_el c_11 h
          refine lv_iconst (v := (nI 0)) hx hb dX10_word_17 (by decide) ?_
          cases h
          rw [← hQe]
          exact W.zret hx hb hr rfl (fun t ht hW => ⟨⟨_, (), rfl, rfl, by rw [ht]; exact hP, va_K.moved hW.alike hK, hD⟩, hS.F ht⟩) hS.2.2 dX10_word_18
  exact hlp F (nI 0) r_1 y_at_2 v_read H locs ls h hP hD hS (lv_sub hl [2, 3, 1, 0] rfl)
def D_X10_wordItem (F : Nat) (p1 : Int32) (p2 : Int32) (v_size : Int32) (v_at : Int32) (v_text : Nat → Int32) (v_read : Nat → Int32) : Option (Int32 × Int32 × (Nat → Int32)) := bd2 (D_X10_number F (nI 0) p2 v_size v_at v_text) (fun r_1 y_at_2 => (if r_1 < 0 then some ((nI 0), y_at_2, v_read) else bd2 (D_X10_takes (nI 44) v_size y_at_2 v_text) (fun r_5 y_at_6 => (if r_5 = 0 then some ((nI 0), y_at_6, v_read) else bd2 (D_X10_number F (nI 0) (nI 7) v_size y_at_6 v_text) (fun r_9 y_at_10 => (if r_9 < 0 then some ((nI 0), y_at_10, v_read) else bd2 (D_X10_takes (nI 44) v_size y_at_10 v_text) (fun r_13 y_at_14 => (if r_13 = 0 then some ((nI 0), y_at_14, v_read) else bd3 (D_X10_word F (p1 + ((nI 7) * (((nI 8) * r_1) + r_9))) v_size y_at_14 v_text v_read) (fun r_17 y_at_18 y_read_19 => (if r_17 = 0 then some ((nI 0), y_at_18, y_read_19) else some ((nI 1), y_at_18, y_read_19)))))))))))
abbrev rm_X10_wordItem : Room := { frames := 3, cells := 0, slots := 0, locals := 69 }
set_option maxHeartbeats 4000000 in
set_option maxRecDepth 100000 in
theorem c_X10_wordItem (l : Launch) (D : va_G) (ca : Nat → ClassId) (F : Nat) (sz : Nat) (q_this q_text q_read q_l q_stands q_kept q_one q_two q_ways q_now q_then : Nat) (p1 : Int32) (p2 : Int32) (v_size : Int32) (v_at : Int32) (v_keptMany : Int32) (v_text : Nat → Int32) (v_read : Nat → Int32) (r : Int32) (o_at : Int32) (o_read : Nat → Int32) (h : D_X10_wordItem F p1 p2 v_size v_at v_text v_read = some (r, o_at, o_read)) : Met l yX10_wordItem wsX10_wordItem rm_X10_wordItem (va_Pc [.ref q_this, .int p1, .int p2] (kPre D ca [(q_this, .inr (8, [.ref q_text, .int v_size, .int v_at, .ref q_read, .ref q_l, .ref q_stands, .ref q_kept, .int v_keptMany, .ref q_one, .ref q_two, .ref q_ways, .ref q_now, .ref q_then])), (q_text, .inl (ca 0, 500, .inl v_text)), (q_read, .inl (ca 0, 336, .inl v_read))] sz)) (kQi D ca (va_A [(q_this, .inr (8, [.ref q_text, .int v_size, .int v_at, .ref q_read, .ref q_l, .ref q_stands, .ref q_kept, .int v_keptMany, .ref q_one, .ref q_two, .ref q_ways, .ref q_now, .ref q_then])), (q_text, .inl (ca 0, 500, .inl v_text)), (q_read, .inl (ca 0, 336, .inl v_read))] sz) [(q_this, .inr (8, [.ref q_text, .int v_size, .int o_at, .ref q_read, .ref q_l, .ref q_stands, .ref q_kept, .int v_keptMany, .ref q_one, .ref q_two, .ref q_ways, .ref q_now, .ref q_then])), (q_text, .inl (ca 0, 500, .inl v_text)), (q_read, .inl (ca 0, 336, .inl o_read))] r) 0 0 (va_A [(q_this, .inr (8, [.ref q_text, .int v_size, .int v_at, .ref q_read, .ref q_l, .ref q_stands, .ref q_kept, .int v_keptMany, .ref q_one, .ref q_two, .ref q_ways, .ref q_now, .ref q_then])), (q_text, .inl (ca 0, 500, .inl v_text)), (q_read, .inl (ca 0, 336, .inl v_read))] sz) := by
  refine Met.ofW (cc := cX10_wordItem) (maxL := 5) (ret := (some .boolean)) (by decide +kernel) rfl ?_
  intro p e s m args below meth c s₁ B hml hv
  obtain ⟨rfl, hsz, hP, hK, hD0⟩ := hv
  have hx := B.exec
  have hb := B.bytes
  have hr := B.returns
  have hts := atoms_spec (ws := wsX10_wordItem) B.pre
  have hown : s.vm.findClass RX10 = some m.cls := findClass_of_methodNamed B.named
  have hlocks := B.notSynchronized
  clear B
  subst hsz
  have hD := hD0.self (sz := s.heap.size)
  generalize hAe : va_A [(q_this, .inr (8, [.ref q_text, .int v_size, .int v_at, .ref q_read, .ref q_l, .ref q_stands, .ref q_kept, .int v_keptMany, .ref q_one, .ref q_two, .ref q_ways, .ref q_now, .ref q_then])), (q_text, .inl (ca 0, 500, .inl v_text)), (q_read, .inl (ca 0, 336, .inl v_read))] s.heap.size = A at hD ⊢
  have hA : ∀ q : Nat, s.heap.size ≤ q → A q := fun q h => by rw [← hAe]; exact Or.inr h
  have hS : va_S A s.heap s.heap [] := va_S.rf
  have hl := lv_entry ([.ref q_this, .int p1, .int p2]) (n := 5) (Nat.le_of_ble_eq_true rfl)
  rw [lg_entry_eq]
  generalize (lg_sl ([.ref q_this, .int p1, .int p2]) ++ List.replicate (5 - (lg_sl ([.ref q_this, .int p1, .int p2])).length) Slot.unset).toArray = ls at hl ⊢
  have hl : lv_has ls 5 [(0, .ref q_this), (1, .int p1), (2, .int p2)] := hl
  generalize ([.ref q_this, .int p1, .int p2] : List Value).toArray = args at hts ⊢
  generalize hQe : MQ below (kQi D ca (A) [(q_this, .inr (8, [.ref q_text, .int v_size, .int o_at, .ref q_read, .ref q_l, .ref q_stands, .ref q_kept, .int v_keptMany, .ref q_one, .ref q_two, .ref q_ways, .ref q_now, .ref q_then])), (q_text, .inl (ca 0, 500, .inl v_text)), (q_read, .inl (ca 0, 336, .inl o_read))] r) args s 0 0 A = Q
  rw [D_X10_wordItem] at h
  refine lv_aload_n hx hb dX10_wordItem_0 rfl (lv_at hl 0 rfl) ?_
  refine lv_iconst (v := (nI 0)) hx hb dX10_wordItem_1 (by decide) ?_
  refine lv_iload_n hx hb dX10_wordItem_2 rfl (lv_at hl 2 rfl) ?_
  obtain ⟨r_1, y_at_2, hg_3, h⟩ := bd2_el h
  refine kx_Vi (As := [.int (nI 0), .int p2]) (rest := []) (wr := [(q_read, .inl (ca 0, 336, .inl v_read))]) (w1 := [(q_this, .inr (8, [.ref q_text, .int v_size, .int y_at_2, .ref q_read, .ref q_l, .ref q_stands, .ref q_kept, .int v_keptMany, .ref q_one, .ref q_two, .ref q_ways, .ref q_now, .ref q_then])), (q_text, .inl (ca 0, 500, .inl v_text))]) (wn := [(q_this, .inr (8, [.ref q_text, .int v_size, .int y_at_2, .ref q_read, .ref q_l, .ref q_stands, .ref q_kept, .int v_keptMany, .ref q_one, .ref q_two, .ref q_ways, .ref q_now, .ref q_then])), (q_text, .inl (ca 0, 500, .inl v_text)), (q_read, .inl (ca 0, 336, .inl v_read))]) ⟨hx, hb, hml, hown, hts⟩ (c_X10_number l D ca F s.heap.size q_this q_text q_read q_l q_stands q_kept q_one q_two q_ways q_now q_then (nI 0) p2 v_size v_at v_keptMany v_text r_1 y_at_2 hg_3) (cwV 2 hts gX10_wordItem_X10_number rfl rfl rfl (by decide +kernel) ⟨(Nat.le_of_ble_eq_true rfl), (Nat.le_of_ble_eq_true rfl)⟩) hK hP hD hS hA (ci := 8) (q0 := 0) rfl rfl [0, 1] [2] [1, 2, 0] rfl rfl rfl rfl (by decide) rfl rfl rfl hl.1 rfl (Nat.le_of_ble_eq_true rfl) dX10_wordItem_3 ⟨Nat.zero_le _, Nat.zero_le _⟩ (fun H locs hP hD hS => ?_)
  refine lv_istore_n (lv' := [(3, .int r_1), (0, .ref q_this), (1, .int p1), (2, .int p2)]) hx hb dX10_wordItem_6 rfl hl (by decide) rfl (fun ls hl => ?_)
  refine lv_iload_n hx hb dX10_wordItem_7 rfl (lv_at hl 0 rfl) ?_
  refine lv_if_lt (tgt := 20) hx hb dX10_wordItem_8 (by decide) (fun c_4 => ?_) (fun c_4 => ?_)
  · replace h := ifp_el c_4 h
    refine lv_iconst (v := (nI 0)) hx hb dX10_wordItem_20 (by decide) ?_
    cases h
    rw [← hQe]
    exact W.zret hx hb hr rfl (fun t ht hW => ⟨⟨_, (), rfl, rfl, by rw [ht]; exact hP, va_K.moved hW.alike hK, hD⟩, hS.F ht⟩) hS.2.2 dX10_wordItem_21
  · replace h := ifn_el c_4 h
    refine lv_aload_n hx hb dX10_wordItem_11 rfl (lv_at hl 1 rfl) ?_
    refine lv_bipush (v := (nI 44)) hx hb dX10_wordItem_12 (by decide) ?_
    obtain ⟨r_5, y_at_6, hg_7, h⟩ := bd2_el h
    refine kx_Vi (As := [.int (nI 44)]) (rest := []) (wr := [(q_read, .inl (ca 0, 336, .inl v_read))]) (w1 := [(q_this, .inr (8, [.ref q_text, .int v_size, .int y_at_6, .ref q_read, .ref q_l, .ref q_stands, .ref q_kept, .int v_keptMany, .ref q_one, .ref q_two, .ref q_ways, .ref q_now, .ref q_then])), (q_text, .inl (ca 0, 500, .inl v_text))]) (wn := [(q_this, .inr (8, [.ref q_text, .int v_size, .int y_at_6, .ref q_read, .ref q_l, .ref q_stands, .ref q_kept, .int v_keptMany, .ref q_one, .ref q_two, .ref q_ways, .ref q_now, .ref q_then])), (q_text, .inl (ca 0, 500, .inl v_text)), (q_read, .inl (ca 0, 336, .inl v_read))]) ⟨hx, hb, hml, hown, hts⟩ (c_X10_takes l D ca H.size q_this q_text q_read q_l q_stands q_kept q_one q_two q_ways q_now q_then (nI 44) v_size y_at_2 v_keptMany v_text r_5 y_at_6 hg_7) (cwV 1 hts gX10_wordItem_X10_takes rfl rfl rfl (by decide +kernel) ⟨(Nat.le_of_ble_eq_true rfl), (Nat.le_of_ble_eq_true rfl)⟩) hK hP hD hS hA (ci := 8) (q0 := 0) rfl rfl [0, 1] [2] [1, 2, 0] rfl rfl rfl rfl (by decide) rfl rfl rfl hl.1 rfl (Nat.le_of_ble_eq_true rfl) dX10_wordItem_14 ⟨Nat.zero_le _, Nat.zero_le _⟩ (fun H locs hP hD hS => ?_)
    refine lv_if_ne (tgt := 22) hx hb dX10_wordItem_17 (by decide) (fun c_8 => ?_) (fun c_8 => ?_)
    · replace h := ifn_el c_8 h
      refine lv_aload_n hx hb dX10_wordItem_22 rfl (lv_at hl 1 rfl) ?_
      refine lv_iconst (v := (nI 0)) hx hb dX10_wordItem_23 (by decide) ?_
      refine lv_bipush (v := (nI 7)) hx hb dX10_wordItem_24 (by decide) ?_
      obtain ⟨r_9, y_at_10, hg_11, h⟩ := bd2_el h
      refine kx_Vi (As := [.int (nI 0), .int (nI 7)]) (rest := []) (wr := [(q_read, .inl (ca 0, 336, .inl v_read))]) (w1 := [(q_this, .inr (8, [.ref q_text, .int v_size, .int y_at_10, .ref q_read, .ref q_l, .ref q_stands, .ref q_kept, .int v_keptMany, .ref q_one, .ref q_two, .ref q_ways, .ref q_now, .ref q_then])), (q_text, .inl (ca 0, 500, .inl v_text))]) (wn := [(q_this, .inr (8, [.ref q_text, .int v_size, .int y_at_10, .ref q_read, .ref q_l, .ref q_stands, .ref q_kept, .int v_keptMany, .ref q_one, .ref q_two, .ref q_ways, .ref q_now, .ref q_then])), (q_text, .inl (ca 0, 500, .inl v_text)), (q_read, .inl (ca 0, 336, .inl v_read))]) ⟨hx, hb, hml, hown, hts⟩ (c_X10_number l D ca F H.size q_this q_text q_read q_l q_stands q_kept q_one q_two q_ways q_now q_then (nI 0) (nI 7) v_size y_at_6 v_keptMany v_text r_9 y_at_10 hg_11) (cwV 2 hts gX10_wordItem_X10_number rfl rfl rfl (by decide +kernel) ⟨(Nat.le_of_ble_eq_true rfl), (Nat.le_of_ble_eq_true rfl)⟩) hK hP hD hS hA (ci := 8) (q0 := 0) rfl rfl [0, 1] [2] [1, 2, 0] rfl rfl rfl rfl (by decide) rfl rfl rfl hl.1 rfl (Nat.le_of_ble_eq_true rfl) dX10_wordItem_26 ⟨Nat.zero_le _, Nat.zero_le _⟩ (fun H locs hP hD hS => ?_)
      refine lv_istore (lv' := [(4, .int r_9), (3, .int r_1), (0, .ref q_this), (1, .int p1), (2, .int p2)]) hx hb dX10_wordItem_29 hl (by decide) rfl (fun ls hl => ?_)
      refine lv_iload hx hb dX10_wordItem_31 (lv_at hl 0 rfl) ?_
      refine lv_if_lt (tgt := 68) hx hb dX10_wordItem_33 (by decide) (fun c_12 => ?_) (fun c_12 => ?_)
      · replace h := ifp_el c_12 h
        refine lv_iconst (v := (nI 0)) hx hb dX10_wordItem_68 (by decide) ?_
        cases h
        rw [← hQe]
        exact W.zret hx hb hr rfl (fun t ht hW => ⟨⟨_, (), rfl, rfl, by rw [ht]; exact hP, va_K.moved hW.alike hK, hD⟩, hS.F ht⟩) hS.2.2 dX10_wordItem_69
      · replace h := ifn_el c_12 h
        refine lv_aload_n hx hb dX10_wordItem_36 rfl (lv_at hl 2 rfl) ?_
        refine lv_bipush (v := (nI 44)) hx hb dX10_wordItem_37 (by decide) ?_
        obtain ⟨r_13, y_at_14, hg_15, h⟩ := bd2_el h
        refine kx_Vi (As := [.int (nI 44)]) (rest := []) (wr := [(q_read, .inl (ca 0, 336, .inl v_read))]) (w1 := [(q_this, .inr (8, [.ref q_text, .int v_size, .int y_at_14, .ref q_read, .ref q_l, .ref q_stands, .ref q_kept, .int v_keptMany, .ref q_one, .ref q_two, .ref q_ways, .ref q_now, .ref q_then])), (q_text, .inl (ca 0, 500, .inl v_text))]) (wn := [(q_this, .inr (8, [.ref q_text, .int v_size, .int y_at_14, .ref q_read, .ref q_l, .ref q_stands, .ref q_kept, .int v_keptMany, .ref q_one, .ref q_two, .ref q_ways, .ref q_now, .ref q_then])), (q_text, .inl (ca 0, 500, .inl v_text)), (q_read, .inl (ca 0, 336, .inl v_read))]) ⟨hx, hb, hml, hown, hts⟩ (c_X10_takes l D ca H.size q_this q_text q_read q_l q_stands q_kept q_one q_two q_ways q_now q_then (nI 44) v_size y_at_10 v_keptMany v_text r_13 y_at_14 hg_15) (cwV 1 hts gX10_wordItem_X10_takes rfl rfl rfl (by decide +kernel) ⟨(Nat.le_of_ble_eq_true rfl), (Nat.le_of_ble_eq_true rfl)⟩) hK hP hD hS hA (ci := 8) (q0 := 0) rfl rfl [0, 1] [2] [1, 2, 0] rfl rfl rfl rfl (by decide) rfl rfl rfl hl.1 rfl (Nat.le_of_ble_eq_true rfl) dX10_wordItem_39 ⟨Nat.zero_le _, Nat.zero_le _⟩ (fun H locs hP hD hS => ?_)
        refine lv_if_eq (tgt := 68) hx hb dX10_wordItem_42 (by decide) (fun c_16 => ?_) (fun c_16 => ?_)
        · replace h := ifp_el c_16 h
          refine lv_iconst (v := (nI 0)) hx hb dX10_wordItem_68 (by decide) ?_
          cases h
          rw [← hQe]
          exact W.zret hx hb hr rfl (fun t ht hW => ⟨⟨_, (), rfl, rfl, by rw [ht]; exact hP, va_K.moved hW.alike hK, hD⟩, hS.F ht⟩) hS.2.2 dX10_wordItem_69
        · replace h := ifn_el c_16 h
          refine lv_aload_n hx hb dX10_wordItem_45 rfl (lv_at hl 2 rfl) ?_
          refine lv_iload_n hx hb dX10_wordItem_46 rfl (lv_at hl 3 rfl) ?_
          refine lv_bipush (v := (nI 7)) hx hb dX10_wordItem_47 (by decide) ?_
          refine lv_bipush (v := (nI 8)) hx hb dX10_wordItem_49 (by decide) ?_
          refine lv_iload_n hx hb dX10_wordItem_51 rfl (lv_at hl 1 rfl) ?_
          refine lv_imul hx hb dX10_wordItem_52 ?_
          refine lv_iload hx hb dX10_wordItem_53 (lv_at hl 0 rfl) ?_
          refine lv_iadd hx hb dX10_wordItem_55 ?_
          refine lv_imul hx hb dX10_wordItem_56 ?_
          refine lv_iadd hx hb dX10_wordItem_57 ?_
          obtain ⟨r_17, y_at_18, y_read_19, hg_20, h⟩ := bd3_el h
          refine kx_Vi (As := [.int (p1 + ((nI 7) * (((nI 8) * r_1) + r_9)))]) (rest := []) (wr := []) (w1 := [(q_this, .inr (8, [.ref q_text, .int v_size, .int y_at_18, .ref q_read, .ref q_l, .ref q_stands, .ref q_kept, .int v_keptMany, .ref q_one, .ref q_two, .ref q_ways, .ref q_now, .ref q_then])), (q_text, .inl (ca 0, 500, .inl v_text)), (q_read, .inl (ca 0, 336, .inl y_read_19))]) (wn := [(q_this, .inr (8, [.ref q_text, .int v_size, .int y_at_18, .ref q_read, .ref q_l, .ref q_stands, .ref q_kept, .int v_keptMany, .ref q_one, .ref q_two, .ref q_ways, .ref q_now, .ref q_then])), (q_text, .inl (ca 0, 500, .inl v_text)), (q_read, .inl (ca 0, 336, .inl y_read_19))]) ⟨hx, hb, hml, hown, hts⟩ (c_X10_word l D ca F H.size q_this q_text q_read q_l q_stands q_kept q_one q_two q_ways q_now q_then (p1 + ((nI 7) * (((nI 8) * r_1) + r_9))) v_size y_at_14 v_keptMany v_text v_read r_17 y_at_18 y_read_19 hg_20) (cwV 1 hts gX10_wordItem_X10_word rfl rfl rfl (by decide +kernel) ⟨(Nat.le_of_ble_eq_true rfl), (Nat.le_of_ble_eq_true rfl)⟩) hK hP hD hS hA (ci := 8) (q0 := 0) rfl rfl [0, 1, 2] [] [0, 1, 2] rfl rfl rfl rfl (by decide) rfl rfl rfl hl.1 rfl (Nat.le_of_ble_eq_true rfl) dX10_wordItem_58 ⟨Nat.zero_le _, Nat.zero_le _⟩ (fun H locs hP hD hS => ?_)
          refine lv_if_eq (tgt := 68) hx hb dX10_wordItem_61 (by decide) (fun c_21 => ?_) (fun c_21 => ?_)
          · replace h := ifp_el c_21 h
            refine lv_iconst (v := (nI 0)) hx hb dX10_wordItem_68 (by decide) ?_
            cases h
            rw [← hQe]
            exact W.zret hx hb hr rfl (fun t ht hW => ⟨⟨_, (), rfl, rfl, by rw [ht]; exact hP, va_K.moved hW.alike hK, hD⟩, hS.F ht⟩) hS.2.2 dX10_wordItem_69
          · replace h := ifn_el c_21 h
            refine lv_iconst (v := (nI 1)) hx hb dX10_wordItem_64 (by decide) ?_
            refine lv_goto (tgt := 69) hx hb dX10_wordItem_65 (by decide) ?_
            cases h
            rw [← hQe]
            exact W.zret hx hb hr rfl (fun t ht hW => ⟨⟨_, (), rfl, rfl, by rw [ht]; exact hP, va_K.moved hW.alike hK, hD⟩, hS.F ht⟩) hS.2.2 dX10_wordItem_69
    · replace h := ifp_el c_8 h
      refine lv_iconst (v := (nI 0)) hx hb dX10_wordItem_20 (by decide) ?_
      cases h
      rw [← hQe]
      exact W.zret hx hb hr rfl (fun t ht hW => ⟨⟨_, (), rfl, rfl, by rw [ht]; exact hP, va_K.moved hW.alike hK, hD⟩, hS.F ht⟩) hS.2.2 dX10_wordItem_21
def b_X10_soundsItem_29 (v_size : Int32) (v_text : Nat → Int32) (v_read : Nat → Int32) (r_1 : Int32) (rec29 : Int32 → Int32 → Int32 → Option (Int32 × Int32 × (Nat → Int32))) (x2_12 : Int32) (x3_13 : Int32) (y_at_14 : Int32) : Option (Int32 × Int32 × (Nat → Int32)) := (if x3_13 < 0 then ck 336 ((nI 280) + r_1) ((if x2_12 = 0 then some ((nI 0), y_at_14, (upd v_read ((nI 280) + r_1).toNatClampNeg x2_12)) else some ((nI 1), y_at_14, (upd v_read ((nI 280) + r_1).toNatClampNeg x2_12)))) else (if (x2_12 >>> (x3_13 &&& 31)) = 0 then nm (x2_12 ||| ((nI 1) <<< (x3_13 &&& 31))) (fun x2_19 => bd2 (D_X10_sound v_size y_at_14 v_text) (fun r_20 y_at_21 => rec29 x2_19 r_20 y_at_21)) else some ((nI 0), y_at_14, v_read)))
def D_X10_soundsItem (F : Nat) (v_size : Int32) (v_at : Int32) (v_text : Nat → Int32) (v_read : Nat → Int32) : Option (Int32 × Int32 × (Nat → Int32)) := bd2 (D_X10_number F (nI 0) (nI 1) v_size v_at v_text) (fun r_1 y_at_2 => (if r_1 < 0 then some ((nI 0), y_at_2, v_read) else bd2 (D_X10_takes (nI 44) v_size y_at_2 v_text) (fun r_5 y_at_6 => (if r_5 = 0 then some ((nI 0), y_at_6, v_read) else bd2 (D_X10_sound v_size y_at_6 v_text) (fun r_9 y_at_10 => lpg (T := Int32 → Int32 → Int32 → Option (Int32 × Int32 × (Nat → Int32))) (fun _ _ _ => none) (b_X10_soundsItem_29 v_size v_text v_read r_1) F (nI 0) r_9 y_at_10)))))
abbrev rm_X10_soundsItem : Room := { frames := 2, cells := 0, slots := 0, locals := 49 }
set_option maxHeartbeats 4000000 in
set_option maxRecDepth 100000 in
theorem c_X10_soundsItem (l : Launch) (D : va_G) (ca : Nat → ClassId) (F : Nat) (sz : Nat) (q_this q_text q_read q_l q_stands q_kept q_one q_two q_ways q_now q_then : Nat) (v_size : Int32) (v_at : Int32) (v_keptMany : Int32) (v_text : Nat → Int32) (v_read : Nat → Int32) (r : Int32) (o_at : Int32) (o_read : Nat → Int32) (h : D_X10_soundsItem F v_size v_at v_text v_read = some (r, o_at, o_read)) : Met l yX10_soundsItem wsX10_soundsItem rm_X10_soundsItem (va_Pc [.ref q_this] (kPre D ca [(q_this, .inr (8, [.ref q_text, .int v_size, .int v_at, .ref q_read, .ref q_l, .ref q_stands, .ref q_kept, .int v_keptMany, .ref q_one, .ref q_two, .ref q_ways, .ref q_now, .ref q_then])), (q_text, .inl (ca 0, 500, .inl v_text)), (q_read, .inl (ca 0, 336, .inl v_read))] sz)) (kQi D ca (va_A [(q_this, .inr (8, [.ref q_text, .int v_size, .int v_at, .ref q_read, .ref q_l, .ref q_stands, .ref q_kept, .int v_keptMany, .ref q_one, .ref q_two, .ref q_ways, .ref q_now, .ref q_then])), (q_text, .inl (ca 0, 500, .inl v_text)), (q_read, .inl (ca 0, 336, .inl v_read))] sz) [(q_this, .inr (8, [.ref q_text, .int v_size, .int o_at, .ref q_read, .ref q_l, .ref q_stands, .ref q_kept, .int v_keptMany, .ref q_one, .ref q_two, .ref q_ways, .ref q_now, .ref q_then])), (q_text, .inl (ca 0, 500, .inl v_text)), (q_read, .inl (ca 0, 336, .inl o_read))] r) 0 0 (va_A [(q_this, .inr (8, [.ref q_text, .int v_size, .int v_at, .ref q_read, .ref q_l, .ref q_stands, .ref q_kept, .int v_keptMany, .ref q_one, .ref q_two, .ref q_ways, .ref q_now, .ref q_then])), (q_text, .inl (ca 0, 500, .inl v_text)), (q_read, .inl (ca 0, 336, .inl v_read))] sz) := by
  refine Met.ofW (cc := cX10_soundsItem) (maxL := 4) (ret := (some .boolean)) (by decide +kernel) rfl ?_
  intro p e s m args below meth c s₁ B hml hv
  obtain ⟨rfl, hsz, hP, hK, hD0⟩ := hv
  have hx := B.exec
  have hb := B.bytes
  have hr := B.returns
  have hts := atoms_spec (ws := wsX10_soundsItem) B.pre
  have hown : s.vm.findClass RX10 = some m.cls := findClass_of_methodNamed B.named
  have hlocks := B.notSynchronized
  clear B
  subst hsz
  have hD := hD0.self (sz := s.heap.size)
  generalize hAe : va_A [(q_this, .inr (8, [.ref q_text, .int v_size, .int v_at, .ref q_read, .ref q_l, .ref q_stands, .ref q_kept, .int v_keptMany, .ref q_one, .ref q_two, .ref q_ways, .ref q_now, .ref q_then])), (q_text, .inl (ca 0, 500, .inl v_text)), (q_read, .inl (ca 0, 336, .inl v_read))] s.heap.size = A at hD ⊢
  have hA : ∀ q : Nat, s.heap.size ≤ q → A q := fun q h => by rw [← hAe]; exact Or.inr h
  have hS : va_S A s.heap s.heap [] := va_S.rf
  have hl := lv_entry ([.ref q_this]) (n := 4) (Nat.le_of_ble_eq_true rfl)
  rw [lg_entry_eq]
  generalize (lg_sl ([.ref q_this]) ++ List.replicate (4 - (lg_sl ([.ref q_this])).length) Slot.unset).toArray = ls at hl ⊢
  have hl : lv_has ls 4 [(0, .ref q_this)] := hl
  generalize ([.ref q_this] : List Value).toArray = args at hts ⊢
  generalize hQe : MQ below (kQi D ca (A) [(q_this, .inr (8, [.ref q_text, .int v_size, .int o_at, .ref q_read, .ref q_l, .ref q_stands, .ref q_kept, .int v_keptMany, .ref q_one, .ref q_two, .ref q_ways, .ref q_now, .ref q_then])), (q_text, .inl (ca 0, 500, .inl v_text)), (q_read, .inl (ca 0, 336, .inl o_read))] r) args s 0 0 A = Q
  have i_X10 : ∀ w ∈ u_ws RX10 TX10 13, w ∈ wsX10_soundsItem := by decide +kernel
  have k_13 := hts (.fieldLink RX10 13 "TradeWordsModel" "read" "[I") (by decide +kernel)
  rw [D_X10_soundsItem] at h
  refine lv_aload_n hx hb dX10_soundsItem_0 rfl (lv_at hl 0 rfl) ?_
  refine lv_iconst (v := (nI 0)) hx hb dX10_soundsItem_1 (by decide) ?_
  refine lv_iconst (v := (nI 1)) hx hb dX10_soundsItem_2 (by decide) ?_
  obtain ⟨r_1, y_at_2, hg_3, h⟩ := bd2_el h
  refine kx_Vi (As := [.int (nI 0), .int (nI 1)]) (rest := []) (wr := [(q_read, .inl (ca 0, 336, .inl v_read))]) (w1 := [(q_this, .inr (8, [.ref q_text, .int v_size, .int y_at_2, .ref q_read, .ref q_l, .ref q_stands, .ref q_kept, .int v_keptMany, .ref q_one, .ref q_two, .ref q_ways, .ref q_now, .ref q_then])), (q_text, .inl (ca 0, 500, .inl v_text))]) (wn := [(q_this, .inr (8, [.ref q_text, .int v_size, .int y_at_2, .ref q_read, .ref q_l, .ref q_stands, .ref q_kept, .int v_keptMany, .ref q_one, .ref q_two, .ref q_ways, .ref q_now, .ref q_then])), (q_text, .inl (ca 0, 500, .inl v_text)), (q_read, .inl (ca 0, 336, .inl v_read))]) ⟨hx, hb, hml, hown, hts⟩ (c_X10_number l D ca F s.heap.size q_this q_text q_read q_l q_stands q_kept q_one q_two q_ways q_now q_then (nI 0) (nI 1) v_size v_at v_keptMany v_text r_1 y_at_2 hg_3) (cwV 2 hts gX10_soundsItem_X10_number rfl rfl rfl (by decide +kernel) ⟨(Nat.le_of_ble_eq_true rfl), (Nat.le_of_ble_eq_true rfl)⟩) hK hP hD hS hA (ci := 8) (q0 := 0) rfl rfl [0, 1] [2] [1, 2, 0] rfl rfl rfl rfl (by decide) rfl rfl rfl hl.1 rfl (Nat.le_of_ble_eq_true rfl) dX10_soundsItem_3 ⟨Nat.zero_le _, Nat.zero_le _⟩ (fun H locs hP hD hS => ?_)
  refine lv_istore_n (lv' := [(1, .int r_1), (0, .ref q_this)]) hx hb dX10_soundsItem_6 rfl hl (by decide) rfl (fun ls hl => ?_)
  refine lv_iload_n hx hb dX10_soundsItem_7 rfl (lv_at hl 0 rfl) ?_
  refine lv_if_lt (tgt := 20) hx hb dX10_soundsItem_8 (by decide) (fun c_4 => ?_) (fun c_4 => ?_)
  · replace h := ifp_el c_4 h
    refine lv_iconst (v := (nI 0)) hx hb dX10_soundsItem_20 (by decide) ?_
    cases h
    rw [← hQe]
    exact W.zret hx hb hr rfl (fun t ht hW => ⟨⟨_, (), rfl, rfl, by rw [ht]; exact hP, va_K.moved hW.alike hK, hD⟩, hS.F ht⟩) hS.2.2 dX10_soundsItem_21
  · replace h := ifn_el c_4 h
    refine lv_aload_n hx hb dX10_soundsItem_11 rfl (lv_at hl 1 rfl) ?_
    refine lv_bipush (v := (nI 44)) hx hb dX10_soundsItem_12 (by decide) ?_
    obtain ⟨r_5, y_at_6, hg_7, h⟩ := bd2_el h
    refine kx_Vi (As := [.int (nI 44)]) (rest := []) (wr := [(q_read, .inl (ca 0, 336, .inl v_read))]) (w1 := [(q_this, .inr (8, [.ref q_text, .int v_size, .int y_at_6, .ref q_read, .ref q_l, .ref q_stands, .ref q_kept, .int v_keptMany, .ref q_one, .ref q_two, .ref q_ways, .ref q_now, .ref q_then])), (q_text, .inl (ca 0, 500, .inl v_text))]) (wn := [(q_this, .inr (8, [.ref q_text, .int v_size, .int y_at_6, .ref q_read, .ref q_l, .ref q_stands, .ref q_kept, .int v_keptMany, .ref q_one, .ref q_two, .ref q_ways, .ref q_now, .ref q_then])), (q_text, .inl (ca 0, 500, .inl v_text)), (q_read, .inl (ca 0, 336, .inl v_read))]) ⟨hx, hb, hml, hown, hts⟩ (c_X10_takes l D ca H.size q_this q_text q_read q_l q_stands q_kept q_one q_two q_ways q_now q_then (nI 44) v_size y_at_2 v_keptMany v_text r_5 y_at_6 hg_7) (cwV 1 hts gX10_soundsItem_X10_takes rfl rfl rfl (by decide +kernel) ⟨(Nat.le_of_ble_eq_true rfl), (Nat.le_of_ble_eq_true rfl)⟩) hK hP hD hS hA (ci := 8) (q0 := 0) rfl rfl [0, 1] [2] [1, 2, 0] rfl rfl rfl rfl (by decide) rfl rfl rfl hl.1 rfl (Nat.le_of_ble_eq_true rfl) dX10_soundsItem_14 ⟨Nat.zero_le _, Nat.zero_le _⟩ (fun H locs hP hD hS => ?_)
    refine lv_if_ne (tgt := 22) hx hb dX10_soundsItem_17 (by decide) (fun c_8 => ?_) (fun c_8 => ?_)
    · replace h := ifn_el c_8 h
      refine lv_iconst (v := (nI 0)) hx hb dX10_soundsItem_22 (by decide) ?_
      refine lv_istore_n (lv' := [(2, .int (nI 0)), (1, .int r_1), (0, .ref q_this)]) hx hb dX10_soundsItem_23 rfl hl (by decide) rfl (fun ls hl => ?_)
      refine lv_aload_n hx hb dX10_soundsItem_24 rfl (lv_at hl 2 rfl) ?_
      obtain ⟨r_9, y_at_10, hg_11, h⟩ := bd2_el h
      refine kx_Vi (As := []) (rest := []) (wr := [(q_read, .inl (ca 0, 336, .inl v_read))]) (w1 := [(q_this, .inr (8, [.ref q_text, .int v_size, .int y_at_10, .ref q_read, .ref q_l, .ref q_stands, .ref q_kept, .int v_keptMany, .ref q_one, .ref q_two, .ref q_ways, .ref q_now, .ref q_then])), (q_text, .inl (ca 0, 500, .inl v_text))]) (wn := [(q_this, .inr (8, [.ref q_text, .int v_size, .int y_at_10, .ref q_read, .ref q_l, .ref q_stands, .ref q_kept, .int v_keptMany, .ref q_one, .ref q_two, .ref q_ways, .ref q_now, .ref q_then])), (q_text, .inl (ca 0, 500, .inl v_text)), (q_read, .inl (ca 0, 336, .inl v_read))]) ⟨hx, hb, hml, hown, hts⟩ (c_X10_sound l D ca H.size q_this q_text q_read q_l q_stands q_kept q_one q_two q_ways q_now q_then v_size y_at_6 v_keptMany v_text r_9 y_at_10 hg_11) (cwV 0 hts gX10_soundsItem_X10_sound rfl rfl rfl (by decide +kernel) ⟨(Nat.le_of_ble_eq_true rfl), (Nat.le_of_ble_eq_true rfl)⟩) hK hP hD hS hA (ci := 8) (q0 := 0) rfl rfl [0, 1] [2] [1, 2, 0] rfl rfl rfl rfl (by decide) rfl rfl rfl hl.1 rfl (Nat.le_of_ble_eq_true rfl) dX10_soundsItem_25 ⟨Nat.zero_le _, Nat.zero_le _⟩ (fun H locs hP hD hS => ?_)
      refine lv_istore_n (lv' := [(3, .int r_9), (2, .int (nI 0)), (1, .int r_1), (0, .ref q_this)]) hx hb dX10_soundsItem_28 rfl hl (by decide) rfl (fun ls hl => ?_)
      have hlp : ∀ (n : Nat) (x2_12 : Int32) (x3_13 : Int32) (y_at_14 : Int32) (H : Heap) (locs : List Loc) (ls : Array Slot), lpg (T := Int32 → Int32 → Int32 → Option (Int32 × Int32 × (Nat → Int32))) (fun _ _ _ => none) (b_X10_soundsItem_29 v_size v_text v_read r_1) n x2_12 x3_13 y_at_14 = some (r, o_at, o_read) → va_P D vwCl [(q_this, .inr (8, [.ref q_text, .int v_size, .int y_at_14, .ref q_read, .ref q_l, .ref q_stands, .ref q_kept, .int v_keptMany, .ref q_one, .ref q_two, .ref q_ways, .ref q_now, .ref q_then])), (q_text, .inl (ca 0, 500, .inl v_text)), (q_read, .inl (ca 0, 336, .inl v_read))] H → va_D A [(q_this, .inr (8, [.ref q_text, .int v_size, .int y_at_14, .ref q_read, .ref q_l, .ref q_stands, .ref q_kept, .int v_keptMany, .ref q_one, .ref q_two, .ref q_ways, .ref q_now, .ref q_then])), (q_text, .inl (ca 0, 500, .inl v_text)), (q_read, .inl (ca 0, 336, .inl v_read))] → va_S A s.heap H locs → lv_has ls 4 [(0, .ref q_this), (1, .int r_1), (2, .int x2_12), (3, .int x3_13)] → W p l e (headSpec wsX10_soundsItem rm_X10_soundsItem).room s m args below meth c H locs 0 0 Q (F0 m 29 ls []) := by
        intro n
        induction n with
        | zero => intro x2_12 x3_13 y_at_14 H locs ls h; have h : (none : Option (Int32 × Int32 × (Nat → Int32))) = some _ := h; cases h
        | succ n ih =>
          intro x2_12 x3_13 y_at_14 H locs ls h hP hD hS hl
          rw [lpg_succ, b_X10_soundsItem_29] at h
          refine lv_iload_n hx hb dX10_soundsItem_29 rfl (lv_at hl 3 rfl) ?_
          refine lv_if_lt (tgt := 55) hx hb dX10_soundsItem_30 (by decide) (fun c_15 => ?_) (fun c_15 => ?_)
          · replace h := ifp_el c_15 h
            refine lv_aload_n hx hb dX10_soundsItem_55 rfl (lv_at hl 0 rfl) ?_
            refine va_get (D := D) (ci := 8) (v := .ref q_read) (C := RX10) (T := TX10) (N := 13) hx hb hts i_X10 hown hK hP 0 rfl rfl 3 (by decide) k_13 (fun _ h9 => h9) rfl dX10_soundsItem_56 ?_
            refine lv_sipush (v := (nI 280)) hx hb dX10_soundsItem_59 (by decide) ?_
            refine lv_iload_n hx hb dX10_soundsItem_62 rfl (lv_at hl 1 rfl) ?_
            refine lv_iadd hx hb dX10_soundsItem_63 ?_
            refine lv_iload_n hx hb dX10_soundsItem_64 rfl (lv_at hl 2 rfl) ?_
            obtain ⟨hi_16, h⟩ := ck_el h
            refine va_iast hx hb hK hP hD hS 2 0 rfl rfl hi_16 dX10_soundsItem_65 (fun H locs hP hD hS => ?_)
            have hP : va_P D vwCl [(q_this, .inr (8, [.ref q_text, .int v_size, .int y_at_14, .ref q_read, .ref q_l, .ref q_stands, .ref q_kept, .int v_keptMany, .ref q_one, .ref q_two, .ref q_ways, .ref q_now, .ref q_then])), (q_text, .inl (ca 0, 500, .inl v_text)), (q_read, .inl (ca 0, 336, .inl (upd v_read ((nI 280) + r_1).toNatClampNeg x2_12)))] H := hP
            have hD : va_D A [(q_this, .inr (8, [.ref q_text, .int v_size, .int y_at_14, .ref q_read, .ref q_l, .ref q_stands, .ref q_kept, .int v_keptMany, .ref q_one, .ref q_two, .ref q_ways, .ref q_now, .ref q_then])), (q_text, .inl (ca 0, 500, .inl v_text)), (q_read, .inl (ca 0, 336, .inl (upd v_read ((nI 280) + r_1).toNatClampNeg x2_12)))] := hD
            refine lv_iload_n hx hb dX10_soundsItem_66 rfl (lv_at hl 2 rfl) ?_
            refine lv_if_eq (tgt := 74) hx hb dX10_soundsItem_67 (by decide) (fun c_17 => ?_) (fun c_17 => ?_)
            · replace h := ifp_el c_17 h
              refine lv_iconst (v := (nI 0)) hx hb dX10_soundsItem_74 (by decide) ?_
              cases h
              rw [← hQe]
              exact W.zret hx hb hr rfl (fun t ht hW => ⟨⟨_, (), rfl, rfl, by rw [ht]; exact hP, va_K.moved hW.alike hK, hD⟩, hS.F ht⟩) hS.2.2 dX10_soundsItem_75
            · replace h := ifn_el c_17 h
              refine lv_iconst (v := (nI 1)) hx hb dX10_soundsItem_70 (by decide) ?_
              refine lv_goto (tgt := 75) hx hb dX10_soundsItem_71 (by decide) ?_
              cases h
              rw [← hQe]
              exact W.zret hx hb hr rfl (fun t ht hW => ⟨⟨_, (), rfl, rfl, by rw [ht]; exact hP, va_K.moved hW.alike hK, hD⟩, hS.F ht⟩) hS.2.2 dX10_soundsItem_75
          · replace h := ifn_el c_15 h
            refine lv_iload_n hx hb dX10_soundsItem_33 rfl (lv_at hl 2 rfl) ?_
            refine lv_iload_n hx hb dX10_soundsItem_34 rfl (lv_at hl 3 rfl) ?_
            refine lv_ishr hx hb dX10_soundsItem_35 ?_
            refine lv_if_eq (tgt := 41) hx hb dX10_soundsItem_36 (by decide) (fun c_18 => ?_) (fun c_18 => ?_)
            · replace h := ifp_el c_18 h
              refine lv_iload_n hx hb dX10_soundsItem_41 rfl (lv_at hl 2 rfl) ?_
              refine lv_iconst (v := (nI 1)) hx hb dX10_soundsItem_42 (by decide) ?_
              refine lv_iload_n hx hb dX10_soundsItem_43 rfl (lv_at hl 3 rfl) ?_
              refine lv_ishl hx hb dX10_soundsItem_44 ?_
              refine lv_ior hx hb dX10_soundsItem_45 ?_
              refine lv_nmi h (fun x2_19 h => ?_)
              refine lv_istore_n (lv' := [(2, .int x2_19), (0, .ref q_this), (1, .int r_1), (3, .int x3_13)]) hx hb dX10_soundsItem_46 rfl hl (by decide) rfl (fun ls hl => ?_)
              refine lv_aload_n hx hb dX10_soundsItem_47 rfl (lv_at hl 1 rfl) ?_
              obtain ⟨r_20, y_at_21, hg_22, h⟩ := bd2_el h
              refine kx_Vi (As := []) (rest := []) (wr := [(q_read, .inl (ca 0, 336, .inl v_read))]) (w1 := [(q_this, .inr (8, [.ref q_text, .int v_size, .int y_at_21, .ref q_read, .ref q_l, .ref q_stands, .ref q_kept, .int v_keptMany, .ref q_one, .ref q_two, .ref q_ways, .ref q_now, .ref q_then])), (q_text, .inl (ca 0, 500, .inl v_text))]) (wn := [(q_this, .inr (8, [.ref q_text, .int v_size, .int y_at_21, .ref q_read, .ref q_l, .ref q_stands, .ref q_kept, .int v_keptMany, .ref q_one, .ref q_two, .ref q_ways, .ref q_now, .ref q_then])), (q_text, .inl (ca 0, 500, .inl v_text)), (q_read, .inl (ca 0, 336, .inl v_read))]) ⟨hx, hb, hml, hown, hts⟩ (c_X10_sound l D ca H.size q_this q_text q_read q_l q_stands q_kept q_one q_two q_ways q_now q_then v_size y_at_14 v_keptMany v_text r_20 y_at_21 hg_22) (cwV 0 hts gX10_soundsItem_X10_sound rfl rfl rfl (by decide +kernel) ⟨(Nat.le_of_ble_eq_true rfl), (Nat.le_of_ble_eq_true rfl)⟩) hK hP hD hS hA (ci := 8) (q0 := 0) rfl rfl [0, 1] [2] [1, 2, 0] rfl rfl rfl rfl (by decide) rfl rfl rfl hl.1 rfl (Nat.le_of_ble_eq_true rfl) dX10_soundsItem_48 ⟨Nat.zero_le _, Nat.zero_le _⟩ (fun H locs hP hD hS => ?_)
              refine lv_istore_n (lv' := [(3, .int r_20), (2, .int x2_19), (0, .ref q_this), (1, .int r_1)]) hx hb dX10_soundsItem_51 rfl hl (by decide) rfl (fun ls hl => ?_)
              refine lv_goto (tgt := 29) hx hb dX10_soundsItem_52 (by decide) ?_
              exact ih _ _ _ _ _ _ h hP hD hS (lv_sub hl [2, 3, 1, 0] rfl)
            · replace h := ifn_el c_18 h
              refine lv_iconst (v := (nI 0)) hx hb dX10_soundsItem_39 (by decide) ?_
              cases h
              rw [← hQe]
              exact W.zret hx hb hr rfl (fun t ht hW => ⟨⟨_, (), rfl, rfl, by rw [ht]; exact hP, va_K.moved hW.alike hK, hD⟩, hS.F ht⟩) hS.2.2 dX10_soundsItem_40
      exact hlp F (nI 0) r_9 y_at_10 H locs ls h hP hD hS (lv_sub hl [3, 2, 1, 0] rfl)
    · replace h := ifp_el c_8 h
      refine lv_iconst (v := (nI 0)) hx hb dX10_soundsItem_20 (by decide) ?_
      cases h
      rw [← hQe]
      exact W.zret hx hb hr rfl (fun t ht hW => ⟨⟨_, (), rfl, rfl, by rw [ht]; exact hP, va_K.moved hW.alike hK, hD⟩, hS.F ht⟩) hS.2.2 dX10_soundsItem_21
def j_X10_placeItem_17 (v_read : Nat → Int32) (r_1 : Int32) (z0_4 : Int32) (y_at_5 : Int32) : Option (Int32 × Int32 × (Nat → Int32)) := (if z0_4 < 0 then some ((nI 0), y_at_5, v_read) else (if r_1 = z0_4 then some ((nI 0), y_at_5, v_read) else ck 336 ((nI 282) + r_1) (some ((nI 1), y_at_5, (upd v_read ((nI 282) + r_1).toNatClampNeg z0_4)))))
def D_X10_placeItem (v_size : Int32) (v_at : Int32) (v_text : Nat → Int32) (v_read : Nat → Int32) : Option (Int32 × Int32 × (Nat → Int32)) := bd2 (D_X10_sound v_size v_at v_text) (fun r_1 y_at_2 => (if 0 ≤ r_1 then bd2 (D_X10_sound v_size y_at_2 v_text) (fun r_10 y_at_11 => j_X10_placeItem_17 v_read r_1 r_10 y_at_11) else j_X10_placeItem_17 v_read r_1 (-1 : Int32) y_at_2))
abbrev rm_X10_placeItem : Room := { frames := 2, cells := 0, slots := 0, locals := 46 }
set_option maxHeartbeats 4000000 in
set_option maxRecDepth 100000 in
theorem c_X10_placeItem (l : Launch) (D : va_G) (ca : Nat → ClassId) (sz : Nat) (q_this q_text q_read q_l q_stands q_kept q_one q_two q_ways q_now q_then : Nat) (v_size : Int32) (v_at : Int32) (v_keptMany : Int32) (v_text : Nat → Int32) (v_read : Nat → Int32) (r : Int32) (o_at : Int32) (o_read : Nat → Int32) (h : D_X10_placeItem v_size v_at v_text v_read = some (r, o_at, o_read)) : Met l yX10_placeItem wsX10_placeItem rm_X10_placeItem (va_Pc [.ref q_this] (kPre D ca [(q_this, .inr (8, [.ref q_text, .int v_size, .int v_at, .ref q_read, .ref q_l, .ref q_stands, .ref q_kept, .int v_keptMany, .ref q_one, .ref q_two, .ref q_ways, .ref q_now, .ref q_then])), (q_text, .inl (ca 0, 500, .inl v_text)), (q_read, .inl (ca 0, 336, .inl v_read))] sz)) (kQi D ca (va_A [(q_this, .inr (8, [.ref q_text, .int v_size, .int v_at, .ref q_read, .ref q_l, .ref q_stands, .ref q_kept, .int v_keptMany, .ref q_one, .ref q_two, .ref q_ways, .ref q_now, .ref q_then])), (q_text, .inl (ca 0, 500, .inl v_text)), (q_read, .inl (ca 0, 336, .inl v_read))] sz) [(q_this, .inr (8, [.ref q_text, .int v_size, .int o_at, .ref q_read, .ref q_l, .ref q_stands, .ref q_kept, .int v_keptMany, .ref q_one, .ref q_two, .ref q_ways, .ref q_now, .ref q_then])), (q_text, .inl (ca 0, 500, .inl v_text)), (q_read, .inl (ca 0, 336, .inl o_read))] r) 0 0 (va_A [(q_this, .inr (8, [.ref q_text, .int v_size, .int v_at, .ref q_read, .ref q_l, .ref q_stands, .ref q_kept, .int v_keptMany, .ref q_one, .ref q_two, .ref q_ways, .ref q_now, .ref q_then])), (q_text, .inl (ca 0, 500, .inl v_text)), (q_read, .inl (ca 0, 336, .inl v_read))] sz) := by
  refine Met.ofW (cc := cX10_placeItem) (maxL := 3) (ret := (some .boolean)) (by decide +kernel) rfl ?_
  intro p e s m args below meth c s₁ B hml hv
  obtain ⟨rfl, hsz, hP, hK, hD0⟩ := hv
  have hx := B.exec
  have hb := B.bytes
  have hr := B.returns
  have hts := atoms_spec (ws := wsX10_placeItem) B.pre
  have hown : s.vm.findClass RX10 = some m.cls := findClass_of_methodNamed B.named
  have hlocks := B.notSynchronized
  clear B
  subst hsz
  have hD := hD0.self (sz := s.heap.size)
  generalize hAe : va_A [(q_this, .inr (8, [.ref q_text, .int v_size, .int v_at, .ref q_read, .ref q_l, .ref q_stands, .ref q_kept, .int v_keptMany, .ref q_one, .ref q_two, .ref q_ways, .ref q_now, .ref q_then])), (q_text, .inl (ca 0, 500, .inl v_text)), (q_read, .inl (ca 0, 336, .inl v_read))] s.heap.size = A at hD ⊢
  have hA : ∀ q : Nat, s.heap.size ≤ q → A q := fun q h => by rw [← hAe]; exact Or.inr h
  have hS : va_S A s.heap s.heap [] := va_S.rf
  have hl := lv_entry ([.ref q_this]) (n := 3) (Nat.le_of_ble_eq_true rfl)
  rw [lg_entry_eq]
  generalize (lg_sl ([.ref q_this]) ++ List.replicate (3 - (lg_sl ([.ref q_this])).length) Slot.unset).toArray = ls at hl ⊢
  have hl : lv_has ls 3 [(0, .ref q_this)] := hl
  generalize ([.ref q_this] : List Value).toArray = args at hts ⊢
  generalize hQe : MQ below (kQi D ca (A) [(q_this, .inr (8, [.ref q_text, .int v_size, .int o_at, .ref q_read, .ref q_l, .ref q_stands, .ref q_kept, .int v_keptMany, .ref q_one, .ref q_two, .ref q_ways, .ref q_now, .ref q_then])), (q_text, .inl (ca 0, 500, .inl v_text)), (q_read, .inl (ca 0, 336, .inl o_read))] r) args s 0 0 A = Q
  have i_X10 : ∀ w ∈ u_ws RX10 TX10 13, w ∈ wsX10_placeItem := by decide +kernel
  have k_13 := hts (.fieldLink RX10 13 "TradeWordsModel" "read" "[I") (by decide +kernel)
  rw [D_X10_placeItem] at h
  refine lv_aload_n hx hb dX10_placeItem_0 rfl (lv_at hl 0 rfl) ?_
  obtain ⟨r_1, y_at_2, hg_3, h⟩ := bd2_el h
  refine kx_Vi (As := []) (rest := []) (wr := [(q_read, .inl (ca 0, 336, .inl v_read))]) (w1 := [(q_this, .inr (8, [.ref q_text, .int v_size, .int y_at_2, .ref q_read, .ref q_l, .ref q_stands, .ref q_kept, .int v_keptMany, .ref q_one, .ref q_two, .ref q_ways, .ref q_now, .ref q_then])), (q_text, .inl (ca 0, 500, .inl v_text))]) (wn := [(q_this, .inr (8, [.ref q_text, .int v_size, .int y_at_2, .ref q_read, .ref q_l, .ref q_stands, .ref q_kept, .int v_keptMany, .ref q_one, .ref q_two, .ref q_ways, .ref q_now, .ref q_then])), (q_text, .inl (ca 0, 500, .inl v_text)), (q_read, .inl (ca 0, 336, .inl v_read))]) ⟨hx, hb, hml, hown, hts⟩ (c_X10_sound l D ca s.heap.size q_this q_text q_read q_l q_stands q_kept q_one q_two q_ways q_now q_then v_size v_at v_keptMany v_text r_1 y_at_2 hg_3) (cwV 0 hts gX10_placeItem_X10_sound rfl rfl rfl (by decide +kernel) ⟨(Nat.le_of_ble_eq_true rfl), (Nat.le_of_ble_eq_true rfl)⟩) hK hP hD hS hA (ci := 8) (q0 := 0) rfl rfl [0, 1] [2] [1, 2, 0] rfl rfl rfl rfl (by decide) rfl rfl rfl hl.1 rfl (Nat.le_of_ble_eq_true rfl) dX10_placeItem_1 ⟨Nat.zero_le _, Nat.zero_le _⟩ (fun H locs hP hD hS => ?_)
  refine lv_istore_n (lv' := [(1, .int r_1), (0, .ref q_this)]) hx hb dX10_placeItem_4 rfl hl (by decide) rfl (fun ls hl => ?_)
  refine lv_iload_n hx hb dX10_placeItem_5 rfl (lv_at hl 0 rfl) ?_
  have hj_17 : ∀ (z0_4 : Int32) (y_at_5 : Int32) (H : Heap) (locs : List Loc) (ls : Array Slot), j_X10_placeItem_17 v_read r_1 z0_4 y_at_5 = some (r, o_at, o_read) → va_P D vwCl [(q_this, .inr (8, [.ref q_text, .int v_size, .int y_at_5, .ref q_read, .ref q_l, .ref q_stands, .ref q_kept, .int v_keptMany, .ref q_one, .ref q_two, .ref q_ways, .ref q_now, .ref q_then])), (q_text, .inl (ca 0, 500, .inl v_text)), (q_read, .inl (ca 0, 336, .inl v_read))] H → va_D A [(q_this, .inr (8, [.ref q_text, .int v_size, .int y_at_5, .ref q_read, .ref q_l, .ref q_stands, .ref q_kept, .int v_keptMany, .ref q_one, .ref q_two, .ref q_ways, .ref q_now, .ref q_then])), (q_text, .inl (ca 0, 500, .inl v_text)), (q_read, .inl (ca 0, 336, .inl v_read))] → va_S A s.heap H locs → lv_has ls 3 [(0, .ref q_this), (1, .int r_1)] → W p l e (headSpec wsX10_placeItem rm_X10_placeItem).room s m args below meth c H locs 0 0 Q (F0 m 17 ls [.int z0_4]) := by
    intro z0_4 y_at_5 H locs ls h hP hD hS hl
    rw [j_X10_placeItem_17] at h
    refine lv_istore_n (lv' := [(2, .int z0_4), (0, .ref q_this), (1, .int r_1)]) hx hb dX10_placeItem_17 rfl hl (by decide) rfl (fun ls hl => ?_)
    refine lv_iload_n hx hb dX10_placeItem_18 rfl (lv_at hl 0 rfl) ?_
    refine lv_if_lt (tgt := 27) hx hb dX10_placeItem_19 (by decide) (fun c_6 => ?_) (fun c_6 => ?_)
    · replace h := ifp_el c_6 h
      refine lv_iconst (v := (nI 0)) hx hb dX10_placeItem_27 (by decide) ?_
      cases h
      rw [← hQe]
      exact W.zret hx hb hr rfl (fun t ht hW => ⟨⟨_, (), rfl, rfl, by rw [ht]; exact hP, va_K.moved hW.alike hK, hD⟩, hS.F ht⟩) hS.2.2 dX10_placeItem_28
    · replace h := ifn_el c_6 h
      refine lv_iload_n hx hb dX10_placeItem_22 rfl (lv_at hl 2 rfl) ?_
      refine lv_iload_n hx hb dX10_placeItem_23 rfl (lv_at hl 0 rfl) ?_
      refine lv_icmp_ne (tgt := 29) hx hb dX10_placeItem_24 (by decide) (fun c_7 => ?_) (fun c_7 => ?_)
      · replace h := ifn_el c_7 h
        refine lv_aload_n hx hb dX10_placeItem_29 rfl (lv_at hl 1 rfl) ?_
        refine va_get (D := D) (ci := 8) (v := .ref q_read) (C := RX10) (T := TX10) (N := 13) hx hb hts i_X10 hown hK hP 0 rfl rfl 3 (by decide) k_13 (fun _ h9 => h9) rfl dX10_placeItem_30 ?_
        refine lv_sipush (v := (nI 282)) hx hb dX10_placeItem_33 (by decide) ?_
        refine lv_iload_n hx hb dX10_placeItem_36 rfl (lv_at hl 2 rfl) ?_
        refine lv_iadd hx hb dX10_placeItem_37 ?_
        refine lv_iload_n hx hb dX10_placeItem_38 rfl (lv_at hl 0 rfl) ?_
        obtain ⟨hi_8, h⟩ := ck_el h
        refine va_iast hx hb hK hP hD hS 2 0 rfl rfl hi_8 dX10_placeItem_39 (fun H locs hP hD hS => ?_)
        have hP : va_P D vwCl [(q_this, .inr (8, [.ref q_text, .int v_size, .int y_at_5, .ref q_read, .ref q_l, .ref q_stands, .ref q_kept, .int v_keptMany, .ref q_one, .ref q_two, .ref q_ways, .ref q_now, .ref q_then])), (q_text, .inl (ca 0, 500, .inl v_text)), (q_read, .inl (ca 0, 336, .inl (upd v_read ((nI 282) + r_1).toNatClampNeg z0_4)))] H := hP
        have hD : va_D A [(q_this, .inr (8, [.ref q_text, .int v_size, .int y_at_5, .ref q_read, .ref q_l, .ref q_stands, .ref q_kept, .int v_keptMany, .ref q_one, .ref q_two, .ref q_ways, .ref q_now, .ref q_then])), (q_text, .inl (ca 0, 500, .inl v_text)), (q_read, .inl (ca 0, 336, .inl (upd v_read ((nI 282) + r_1).toNatClampNeg z0_4)))] := hD
        refine lv_iconst (v := (nI 1)) hx hb dX10_placeItem_40 (by decide) ?_
        cases h
        rw [← hQe]
        exact W.zret hx hb hr rfl (fun t ht hW => ⟨⟨_, (), rfl, rfl, by rw [ht]; exact hP, va_K.moved hW.alike hK, hD⟩, hS.F ht⟩) hS.2.2 dX10_placeItem_41
      · replace h := ifp_el c_7 h
        refine lv_iconst (v := (nI 0)) hx hb dX10_placeItem_27 (by decide) ?_
        cases h
        rw [← hQe]
        exact W.zret hx hb hr rfl (fun t ht hW => ⟨⟨_, (), rfl, rfl, by rw [ht]; exact hP, va_K.moved hW.alike hK, hD⟩, hS.F ht⟩) hS.2.2 dX10_placeItem_28
  refine lv_if_ge (tgt := 13) hx hb dX10_placeItem_6 (by decide) (fun c_9 => ?_) (fun c_9 => ?_)
  · replace h := ifp_el c_9 h
    refine lv_aload_n hx hb dX10_placeItem_13 rfl (lv_at hl 1 rfl) ?_
    obtain ⟨r_10, y_at_11, hg_12, h⟩ := bd2_el h
    refine kx_Vi (As := []) (rest := []) (wr := [(q_read, .inl (ca 0, 336, .inl v_read))]) (w1 := [(q_this, .inr (8, [.ref q_text, .int v_size, .int y_at_11, .ref q_read, .ref q_l, .ref q_stands, .ref q_kept, .int v_keptMany, .ref q_one, .ref q_two, .ref q_ways, .ref q_now, .ref q_then])), (q_text, .inl (ca 0, 500, .inl v_text))]) (wn := [(q_this, .inr (8, [.ref q_text, .int v_size, .int y_at_11, .ref q_read, .ref q_l, .ref q_stands, .ref q_kept, .int v_keptMany, .ref q_one, .ref q_two, .ref q_ways, .ref q_now, .ref q_then])), (q_text, .inl (ca 0, 500, .inl v_text)), (q_read, .inl (ca 0, 336, .inl v_read))]) ⟨hx, hb, hml, hown, hts⟩ (c_X10_sound l D ca H.size q_this q_text q_read q_l q_stands q_kept q_one q_two q_ways q_now q_then v_size y_at_2 v_keptMany v_text r_10 y_at_11 hg_12) (cwV 0 hts gX10_placeItem_X10_sound rfl rfl rfl (by decide +kernel) ⟨(Nat.le_of_ble_eq_true rfl), (Nat.le_of_ble_eq_true rfl)⟩) hK hP hD hS hA (ci := 8) (q0 := 0) rfl rfl [0, 1] [2] [1, 2, 0] rfl rfl rfl rfl (by decide) rfl rfl rfl hl.1 rfl (Nat.le_of_ble_eq_true rfl) dX10_placeItem_14 ⟨Nat.zero_le _, Nat.zero_le _⟩ (fun H locs hP hD hS => ?_)
    exact hj_17 _ _ _ _ _ h hP hD hS (lv_sub hl [1, 0] rfl)
  · replace h := ifn_el c_9 h
    refine lv_iconst (v := (-1 : Int32)) hx hb dX10_placeItem_9 (by decide) ?_
    refine lv_goto (tgt := 17) hx hb dX10_placeItem_10 (by decide) ?_
    exact hj_17 _ _ _ _ _ h hP hD hS (lv_sub hl [1, 0] rfl)
def D_X10_pairItem (F : Nat) (p1 : Int32) (p2 : Int32) (p3 : Int32) (v_size : Int32) (v_at : Int32) (v_text : Nat → Int32) (v_read : Nat → Int32) : Option (Int32 × Int32 × (Nat → Int32)) := bd2 (D_X10_number F p2 p3 v_size v_at v_text) (fun r_1 y_at_2 => ck 336 p1 (ck 336 p1 ((if ((upd v_read p1.toNatClampNeg r_1) p1.toNatClampNeg) < 0 then some ((nI 0), y_at_2, (upd v_read p1.toNatClampNeg r_1)) else bd2 (D_X10_takes (nI 44) v_size y_at_2 v_text) (fun r_7 y_at_8 => (if r_7 = 0 then some ((nI 0), y_at_8, (upd v_read p1.toNatClampNeg r_1)) else bd2 (D_X10_number F p2 p3 v_size y_at_8 v_text) (fun r_11 y_at_12 => ck 336 (p1 + (nI 1)) (ck 336 (p1 + (nI 1)) ((if ((upd (upd v_read p1.toNatClampNeg r_1) (p1 + (nI 1)).toNatClampNeg r_11) (p1 + (nI 1)).toNatClampNeg) < 0 then some ((nI 0), y_at_12, (upd (upd v_read p1.toNatClampNeg r_1) (p1 + (nI 1)).toNatClampNeg r_11)) else some ((nI 1), y_at_12, (upd (upd v_read p1.toNatClampNeg r_1) (p1 + (nI 1)).toNatClampNeg r_11))))))))))))
abbrev rm_X10_pairItem : Room := { frames := 2, cells := 0, slots := 0, locals := 49 }
set_option maxHeartbeats 4000000 in
set_option maxRecDepth 100000 in
theorem c_X10_pairItem (l : Launch) (D : va_G) (ca : Nat → ClassId) (F : Nat) (sz : Nat) (q_this q_text q_read q_l q_stands q_kept q_one q_two q_ways q_now q_then : Nat) (p1 : Int32) (p2 : Int32) (p3 : Int32) (v_size : Int32) (v_at : Int32) (v_keptMany : Int32) (v_text : Nat → Int32) (v_read : Nat → Int32) (r : Int32) (o_at : Int32) (o_read : Nat → Int32) (h : D_X10_pairItem F p1 p2 p3 v_size v_at v_text v_read = some (r, o_at, o_read)) : Met l yX10_pairItem wsX10_pairItem rm_X10_pairItem (va_Pc [.ref q_this, .int p1, .int p2, .int p3] (kPre D ca [(q_this, .inr (8, [.ref q_text, .int v_size, .int v_at, .ref q_read, .ref q_l, .ref q_stands, .ref q_kept, .int v_keptMany, .ref q_one, .ref q_two, .ref q_ways, .ref q_now, .ref q_then])), (q_text, .inl (ca 0, 500, .inl v_text)), (q_read, .inl (ca 0, 336, .inl v_read))] sz)) (kQi D ca (va_A [(q_this, .inr (8, [.ref q_text, .int v_size, .int v_at, .ref q_read, .ref q_l, .ref q_stands, .ref q_kept, .int v_keptMany, .ref q_one, .ref q_two, .ref q_ways, .ref q_now, .ref q_then])), (q_text, .inl (ca 0, 500, .inl v_text)), (q_read, .inl (ca 0, 336, .inl v_read))] sz) [(q_this, .inr (8, [.ref q_text, .int v_size, .int o_at, .ref q_read, .ref q_l, .ref q_stands, .ref q_kept, .int v_keptMany, .ref q_one, .ref q_two, .ref q_ways, .ref q_now, .ref q_then])), (q_text, .inl (ca 0, 500, .inl v_text)), (q_read, .inl (ca 0, 336, .inl o_read))] r) 0 0 (va_A [(q_this, .inr (8, [.ref q_text, .int v_size, .int v_at, .ref q_read, .ref q_l, .ref q_stands, .ref q_kept, .int v_keptMany, .ref q_one, .ref q_two, .ref q_ways, .ref q_now, .ref q_then])), (q_text, .inl (ca 0, 500, .inl v_text)), (q_read, .inl (ca 0, 336, .inl v_read))] sz) := by
  refine Met.ofW (cc := cX10_pairItem) (maxL := 4) (ret := (some .boolean)) (by decide +kernel) rfl ?_
  intro p e s m args below meth c s₁ B hml hv
  obtain ⟨rfl, hsz, hP, hK, hD0⟩ := hv
  have hx := B.exec
  have hb := B.bytes
  have hr := B.returns
  have hts := atoms_spec (ws := wsX10_pairItem) B.pre
  have hown : s.vm.findClass RX10 = some m.cls := findClass_of_methodNamed B.named
  have hlocks := B.notSynchronized
  clear B
  subst hsz
  have hD := hD0.self (sz := s.heap.size)
  generalize hAe : va_A [(q_this, .inr (8, [.ref q_text, .int v_size, .int v_at, .ref q_read, .ref q_l, .ref q_stands, .ref q_kept, .int v_keptMany, .ref q_one, .ref q_two, .ref q_ways, .ref q_now, .ref q_then])), (q_text, .inl (ca 0, 500, .inl v_text)), (q_read, .inl (ca 0, 336, .inl v_read))] s.heap.size = A at hD ⊢
  have hA : ∀ q : Nat, s.heap.size ≤ q → A q := fun q h => by rw [← hAe]; exact Or.inr h
  have hS : va_S A s.heap s.heap [] := va_S.rf
  have hl := lv_entry ([.ref q_this, .int p1, .int p2, .int p3]) (n := 4) (Nat.le_of_ble_eq_true rfl)
  rw [lg_entry_eq]
  generalize (lg_sl ([.ref q_this, .int p1, .int p2, .int p3]) ++ List.replicate (4 - (lg_sl ([.ref q_this, .int p1, .int p2, .int p3])).length) Slot.unset).toArray = ls at hl ⊢
  have hl : lv_has ls 4 [(0, .ref q_this), (1, .int p1), (2, .int p2), (3, .int p3)] := hl
  generalize ([.ref q_this, .int p1, .int p2, .int p3] : List Value).toArray = args at hts ⊢
  generalize hQe : MQ below (kQi D ca (A) [(q_this, .inr (8, [.ref q_text, .int v_size, .int o_at, .ref q_read, .ref q_l, .ref q_stands, .ref q_kept, .int v_keptMany, .ref q_one, .ref q_two, .ref q_ways, .ref q_now, .ref q_then])), (q_text, .inl (ca 0, 500, .inl v_text)), (q_read, .inl (ca 0, 336, .inl o_read))] r) args s 0 0 A = Q
  have i_X10 : ∀ w ∈ u_ws RX10 TX10 13, w ∈ wsX10_pairItem := by decide +kernel
  have k_13 := hts (.fieldLink RX10 13 "TradeWordsModel" "read" "[I") (by decide +kernel)
  rw [D_X10_pairItem] at h
  refine lv_aload_n hx hb dX10_pairItem_0 rfl (lv_at hl 0 rfl) ?_
  refine va_get (D := D) (ci := 8) (v := .ref q_read) (C := RX10) (T := TX10) (N := 13) hx hb hts i_X10 hown hK hP 0 rfl rfl 3 (by decide) k_13 (fun _ h9 => h9) rfl dX10_pairItem_1 ?_
  refine lv_iload_n hx hb dX10_pairItem_4 rfl (lv_at hl 1 rfl) ?_
  refine lv_aload_n hx hb dX10_pairItem_5 rfl (lv_at hl 0 rfl) ?_
  refine lv_iload_n hx hb dX10_pairItem_6 rfl (lv_at hl 2 rfl) ?_
  refine lv_iload_n hx hb dX10_pairItem_7 rfl (lv_at hl 3 rfl) ?_
  obtain ⟨r_1, y_at_2, hg_3, h⟩ := bd2_el h
  refine kx_Vi (As := [.int p2, .int p3]) (rest := [.int p1, .ref q_read]) (wr := [(q_read, .inl (ca 0, 336, .inl v_read))]) (w1 := [(q_this, .inr (8, [.ref q_text, .int v_size, .int y_at_2, .ref q_read, .ref q_l, .ref q_stands, .ref q_kept, .int v_keptMany, .ref q_one, .ref q_two, .ref q_ways, .ref q_now, .ref q_then])), (q_text, .inl (ca 0, 500, .inl v_text))]) (wn := [(q_this, .inr (8, [.ref q_text, .int v_size, .int y_at_2, .ref q_read, .ref q_l, .ref q_stands, .ref q_kept, .int v_keptMany, .ref q_one, .ref q_two, .ref q_ways, .ref q_now, .ref q_then])), (q_text, .inl (ca 0, 500, .inl v_text)), (q_read, .inl (ca 0, 336, .inl v_read))]) ⟨hx, hb, hml, hown, hts⟩ (c_X10_number l D ca F s.heap.size q_this q_text q_read q_l q_stands q_kept q_one q_two q_ways q_now q_then p2 p3 v_size v_at v_keptMany v_text r_1 y_at_2 hg_3) (cwV 2 hts gX10_pairItem_X10_number rfl rfl rfl (by decide +kernel) ⟨(Nat.le_of_ble_eq_true rfl), (Nat.le_of_ble_eq_true rfl)⟩) hK hP hD hS hA (ci := 8) (q0 := 0) rfl rfl [0, 1] [2] [1, 2, 0] rfl rfl rfl rfl (by decide) rfl rfl rfl hl.1 rfl (Nat.le_of_ble_eq_true rfl) dX10_pairItem_8 ⟨Nat.zero_le _, Nat.zero_le _⟩ (fun H locs hP hD hS => ?_)
  obtain ⟨hi_4, h⟩ := ck_el h
  refine va_iast hx hb hK hP hD hS 2 0 rfl rfl hi_4 dX10_pairItem_11 (fun H locs hP hD hS => ?_)
  have hP : va_P D vwCl [(q_this, .inr (8, [.ref q_text, .int v_size, .int y_at_2, .ref q_read, .ref q_l, .ref q_stands, .ref q_kept, .int v_keptMany, .ref q_one, .ref q_two, .ref q_ways, .ref q_now, .ref q_then])), (q_text, .inl (ca 0, 500, .inl v_text)), (q_read, .inl (ca 0, 336, .inl (upd v_read p1.toNatClampNeg r_1)))] H := hP
  have hD : va_D A [(q_this, .inr (8, [.ref q_text, .int v_size, .int y_at_2, .ref q_read, .ref q_l, .ref q_stands, .ref q_kept, .int v_keptMany, .ref q_one, .ref q_two, .ref q_ways, .ref q_now, .ref q_then])), (q_text, .inl (ca 0, 500, .inl v_text)), (q_read, .inl (ca 0, 336, .inl (upd v_read p1.toNatClampNeg r_1)))] := hD
  refine lv_aload_n hx hb dX10_pairItem_12 rfl (lv_at hl 0 rfl) ?_
  refine va_get (D := D) (ci := 8) (v := .ref q_read) (C := RX10) (T := TX10) (N := 13) hx hb hts i_X10 hown hK hP 0 rfl rfl 3 (by decide) k_13 (fun _ h9 => h9) rfl dX10_pairItem_13 ?_
  refine lv_iload_n hx hb dX10_pairItem_16 rfl (lv_at hl 1 rfl) ?_
  obtain ⟨hi_5, h⟩ := ck_el h
  refine va_iald hx hb hK hP 2 0 rfl rfl hi_5 dX10_pairItem_17 ?_
  refine lv_if_lt (tgt := 30) hx hb dX10_pairItem_18 (by decide) (fun c_6 => ?_) (fun c_6 => ?_)
  · replace h := ifp_el c_6 h
    refine lv_iconst (v := (nI 0)) hx hb dX10_pairItem_30 (by decide) ?_
    cases h
    rw [← hQe]
    exact W.zret hx hb hr rfl (fun t ht hW => ⟨⟨_, (), rfl, rfl, by rw [ht]; exact hP, va_K.moved hW.alike hK, hD⟩, hS.F ht⟩) hS.2.2 dX10_pairItem_31
  · replace h := ifn_el c_6 h
    refine lv_aload_n hx hb dX10_pairItem_21 rfl (lv_at hl 0 rfl) ?_
    refine lv_bipush (v := (nI 44)) hx hb dX10_pairItem_22 (by decide) ?_
    obtain ⟨r_7, y_at_8, hg_9, h⟩ := bd2_el h
    refine kx_Vi (As := [.int (nI 44)]) (rest := []) (wr := [(q_read, .inl (ca 0, 336, .inl (upd v_read p1.toNatClampNeg r_1)))]) (w1 := [(q_this, .inr (8, [.ref q_text, .int v_size, .int y_at_8, .ref q_read, .ref q_l, .ref q_stands, .ref q_kept, .int v_keptMany, .ref q_one, .ref q_two, .ref q_ways, .ref q_now, .ref q_then])), (q_text, .inl (ca 0, 500, .inl v_text))]) (wn := [(q_this, .inr (8, [.ref q_text, .int v_size, .int y_at_8, .ref q_read, .ref q_l, .ref q_stands, .ref q_kept, .int v_keptMany, .ref q_one, .ref q_two, .ref q_ways, .ref q_now, .ref q_then])), (q_text, .inl (ca 0, 500, .inl v_text)), (q_read, .inl (ca 0, 336, .inl (upd v_read p1.toNatClampNeg r_1)))]) ⟨hx, hb, hml, hown, hts⟩ (c_X10_takes l D ca H.size q_this q_text q_read q_l q_stands q_kept q_one q_two q_ways q_now q_then (nI 44) v_size y_at_2 v_keptMany v_text r_7 y_at_8 hg_9) (cwV 1 hts gX10_pairItem_X10_takes rfl rfl rfl (by decide +kernel) ⟨(Nat.le_of_ble_eq_true rfl), (Nat.le_of_ble_eq_true rfl)⟩) hK hP hD hS hA (ci := 8) (q0 := 0) rfl rfl [0, 1] [2] [1, 2, 0] rfl rfl rfl rfl (by decide) rfl rfl rfl hl.1 rfl (Nat.le_of_ble_eq_true rfl) dX10_pairItem_24 ⟨Nat.zero_le _, Nat.zero_le _⟩ (fun H locs hP hD hS => ?_)
    refine lv_if_ne (tgt := 32) hx hb dX10_pairItem_27 (by decide) (fun c_10 => ?_) (fun c_10 => ?_)
    · replace h := ifn_el c_10 h
      refine lv_aload_n hx hb dX10_pairItem_32 rfl (lv_at hl 0 rfl) ?_
      refine va_get (D := D) (ci := 8) (v := .ref q_read) (C := RX10) (T := TX10) (N := 13) hx hb hts i_X10 hown hK hP 0 rfl rfl 3 (by decide) k_13 (fun _ h9 => h9) rfl dX10_pairItem_33 ?_
      refine lv_iload_n hx hb dX10_pairItem_36 rfl (lv_at hl 1 rfl) ?_
      refine lv_iconst (v := (nI 1)) hx hb dX10_pairItem_37 (by decide) ?_
      refine lv_iadd hx hb dX10_pairItem_38 ?_
      refine lv_aload_n hx hb dX10_pairItem_39 rfl (lv_at hl 0 rfl) ?_
      refine lv_iload_n hx hb dX10_pairItem_40 rfl (lv_at hl 2 rfl) ?_
      refine lv_iload_n hx hb dX10_pairItem_41 rfl (lv_at hl 3 rfl) ?_
      obtain ⟨r_11, y_at_12, hg_13, h⟩ := bd2_el h
      refine kx_Vi (As := [.int p2, .int p3]) (rest := [.int (p1 + (nI 1)), .ref q_read]) (wr := [(q_read, .inl (ca 0, 336, .inl (upd v_read p1.toNatClampNeg r_1)))]) (w1 := [(q_this, .inr (8, [.ref q_text, .int v_size, .int y_at_12, .ref q_read, .ref q_l, .ref q_stands, .ref q_kept, .int v_keptMany, .ref q_one, .ref q_two, .ref q_ways, .ref q_now, .ref q_then])), (q_text, .inl (ca 0, 500, .inl v_text))]) (wn := [(q_this, .inr (8, [.ref q_text, .int v_size, .int y_at_12, .ref q_read, .ref q_l, .ref q_stands, .ref q_kept, .int v_keptMany, .ref q_one, .ref q_two, .ref q_ways, .ref q_now, .ref q_then])), (q_text, .inl (ca 0, 500, .inl v_text)), (q_read, .inl (ca 0, 336, .inl (upd v_read p1.toNatClampNeg r_1)))]) ⟨hx, hb, hml, hown, hts⟩ (c_X10_number l D ca F H.size q_this q_text q_read q_l q_stands q_kept q_one q_two q_ways q_now q_then p2 p3 v_size y_at_8 v_keptMany v_text r_11 y_at_12 hg_13) (cwV 2 hts gX10_pairItem_X10_number rfl rfl rfl (by decide +kernel) ⟨(Nat.le_of_ble_eq_true rfl), (Nat.le_of_ble_eq_true rfl)⟩) hK hP hD hS hA (ci := 8) (q0 := 0) rfl rfl [0, 1] [2] [1, 2, 0] rfl rfl rfl rfl (by decide) rfl rfl rfl hl.1 rfl (Nat.le_of_ble_eq_true rfl) dX10_pairItem_42 ⟨Nat.zero_le _, Nat.zero_le _⟩ (fun H locs hP hD hS => ?_)
      obtain ⟨hi_14, h⟩ := ck_el h
      refine va_iast hx hb hK hP hD hS 2 0 rfl rfl hi_14 dX10_pairItem_45 (fun H locs hP hD hS => ?_)
      have hP : va_P D vwCl [(q_this, .inr (8, [.ref q_text, .int v_size, .int y_at_12, .ref q_read, .ref q_l, .ref q_stands, .ref q_kept, .int v_keptMany, .ref q_one, .ref q_two, .ref q_ways, .ref q_now, .ref q_then])), (q_text, .inl (ca 0, 500, .inl v_text)), (q_read, .inl (ca 0, 336, .inl (upd (upd v_read p1.toNatClampNeg r_1) (p1 + (nI 1)).toNatClampNeg r_11)))] H := hP
      have hD : va_D A [(q_this, .inr (8, [.ref q_text, .int v_size, .int y_at_12, .ref q_read, .ref q_l, .ref q_stands, .ref q_kept, .int v_keptMany, .ref q_one, .ref q_two, .ref q_ways, .ref q_now, .ref q_then])), (q_text, .inl (ca 0, 500, .inl v_text)), (q_read, .inl (ca 0, 336, .inl (upd (upd v_read p1.toNatClampNeg r_1) (p1 + (nI 1)).toNatClampNeg r_11)))] := hD
      refine lv_aload_n hx hb dX10_pairItem_46 rfl (lv_at hl 0 rfl) ?_
      refine va_get (D := D) (ci := 8) (v := .ref q_read) (C := RX10) (T := TX10) (N := 13) hx hb hts i_X10 hown hK hP 0 rfl rfl 3 (by decide) k_13 (fun _ h9 => h9) rfl dX10_pairItem_47 ?_
      refine lv_iload_n hx hb dX10_pairItem_50 rfl (lv_at hl 1 rfl) ?_
      refine lv_iconst (v := (nI 1)) hx hb dX10_pairItem_51 (by decide) ?_
      refine lv_iadd hx hb dX10_pairItem_52 ?_
      obtain ⟨hi_15, h⟩ := ck_el h
      refine va_iald hx hb hK hP 2 0 rfl rfl hi_15 dX10_pairItem_53 ?_
      refine lv_if_lt (tgt := 61) hx hb dX10_pairItem_54 (by decide) (fun c_16 => ?_) (fun c_16 => ?_)
      · replace h := ifp_el c_16 h
        refine lv_iconst (v := (nI 0)) hx hb dX10_pairItem_61 (by decide) ?_
        cases h
        rw [← hQe]
        exact W.zret hx hb hr rfl (fun t ht hW => ⟨⟨_, (), rfl, rfl, by rw [ht]; exact hP, va_K.moved hW.alike hK, hD⟩, hS.F ht⟩) hS.2.2 dX10_pairItem_62
      · replace h := ifn_el c_16 h
        refine lv_iconst (v := (nI 1)) hx hb dX10_pairItem_57 (by decide) ?_
        refine lv_goto (tgt := 62) hx hb dX10_pairItem_58 (by decide) ?_
        cases h
        rw [← hQe]
        exact W.zret hx hb hr rfl (fun t ht hW => ⟨⟨_, (), rfl, rfl, by rw [ht]; exact hP, va_K.moved hW.alike hK, hD⟩, hS.F ht⟩) hS.2.2 dX10_pairItem_62
    · replace h := ifp_el c_10 h
      refine lv_iconst (v := (nI 0)) hx hb dX10_pairItem_30 (by decide) ?_
      cases h
      rw [← hQe]
      exact W.zret hx hb hr rfl (fun t ht hW => ⟨⟨_, (), rfl, rfl, by rw [ht]; exact hP, va_K.moved hW.alike hK, hD⟩, hS.F ht⟩) hS.2.2 dX10_pairItem_31
def D_X10_oneItem (F : Nat) (p1 : Int32) (p2 : Int32) (p3 : Int32) (v_size : Int32) (v_at : Int32) (v_text : Nat → Int32) (v_read : Nat → Int32) : Option (Int32 × Int32 × (Nat → Int32)) := bd2 (D_X10_number F p2 p3 v_size v_at v_text) (fun r_1 y_at_2 => ck 336 p1 (ck 336 p1 ((if ((upd v_read p1.toNatClampNeg r_1) p1.toNatClampNeg) < 0 then some ((nI 0), y_at_2, (upd v_read p1.toNatClampNeg r_1)) else some ((nI 1), y_at_2, (upd v_read p1.toNatClampNeg r_1))))))
abbrev rm_X10_oneItem : Room := { frames := 2, cells := 0, slots := 0, locals := 49 }
set_option maxHeartbeats 4000000 in
set_option maxRecDepth 100000 in
theorem c_X10_oneItem (l : Launch) (D : va_G) (ca : Nat → ClassId) (F : Nat) (sz : Nat) (q_this q_text q_read q_l q_stands q_kept q_one q_two q_ways q_now q_then : Nat) (p1 : Int32) (p2 : Int32) (p3 : Int32) (v_size : Int32) (v_at : Int32) (v_keptMany : Int32) (v_text : Nat → Int32) (v_read : Nat → Int32) (r : Int32) (o_at : Int32) (o_read : Nat → Int32) (h : D_X10_oneItem F p1 p2 p3 v_size v_at v_text v_read = some (r, o_at, o_read)) : Met l yX10_oneItem wsX10_oneItem rm_X10_oneItem (va_Pc [.ref q_this, .int p1, .int p2, .int p3] (kPre D ca [(q_this, .inr (8, [.ref q_text, .int v_size, .int v_at, .ref q_read, .ref q_l, .ref q_stands, .ref q_kept, .int v_keptMany, .ref q_one, .ref q_two, .ref q_ways, .ref q_now, .ref q_then])), (q_text, .inl (ca 0, 500, .inl v_text)), (q_read, .inl (ca 0, 336, .inl v_read))] sz)) (kQi D ca (va_A [(q_this, .inr (8, [.ref q_text, .int v_size, .int v_at, .ref q_read, .ref q_l, .ref q_stands, .ref q_kept, .int v_keptMany, .ref q_one, .ref q_two, .ref q_ways, .ref q_now, .ref q_then])), (q_text, .inl (ca 0, 500, .inl v_text)), (q_read, .inl (ca 0, 336, .inl v_read))] sz) [(q_this, .inr (8, [.ref q_text, .int v_size, .int o_at, .ref q_read, .ref q_l, .ref q_stands, .ref q_kept, .int v_keptMany, .ref q_one, .ref q_two, .ref q_ways, .ref q_now, .ref q_then])), (q_text, .inl (ca 0, 500, .inl v_text)), (q_read, .inl (ca 0, 336, .inl o_read))] r) 0 0 (va_A [(q_this, .inr (8, [.ref q_text, .int v_size, .int v_at, .ref q_read, .ref q_l, .ref q_stands, .ref q_kept, .int v_keptMany, .ref q_one, .ref q_two, .ref q_ways, .ref q_now, .ref q_then])), (q_text, .inl (ca 0, 500, .inl v_text)), (q_read, .inl (ca 0, 336, .inl v_read))] sz) := by
  refine Met.ofW (cc := cX10_oneItem) (maxL := 4) (ret := (some .boolean)) (by decide +kernel) rfl ?_
  intro p e s m args below meth c s₁ B hml hv
  obtain ⟨rfl, hsz, hP, hK, hD0⟩ := hv
  have hx := B.exec
  have hb := B.bytes
  have hr := B.returns
  have hts := atoms_spec (ws := wsX10_oneItem) B.pre
  have hown : s.vm.findClass RX10 = some m.cls := findClass_of_methodNamed B.named
  have hlocks := B.notSynchronized
  clear B
  subst hsz
  have hD := hD0.self (sz := s.heap.size)
  generalize hAe : va_A [(q_this, .inr (8, [.ref q_text, .int v_size, .int v_at, .ref q_read, .ref q_l, .ref q_stands, .ref q_kept, .int v_keptMany, .ref q_one, .ref q_two, .ref q_ways, .ref q_now, .ref q_then])), (q_text, .inl (ca 0, 500, .inl v_text)), (q_read, .inl (ca 0, 336, .inl v_read))] s.heap.size = A at hD ⊢
  have hA : ∀ q : Nat, s.heap.size ≤ q → A q := fun q h => by rw [← hAe]; exact Or.inr h
  have hS : va_S A s.heap s.heap [] := va_S.rf
  have hl := lv_entry ([.ref q_this, .int p1, .int p2, .int p3]) (n := 4) (Nat.le_of_ble_eq_true rfl)
  rw [lg_entry_eq]
  generalize (lg_sl ([.ref q_this, .int p1, .int p2, .int p3]) ++ List.replicate (4 - (lg_sl ([.ref q_this, .int p1, .int p2, .int p3])).length) Slot.unset).toArray = ls at hl ⊢
  have hl : lv_has ls 4 [(0, .ref q_this), (1, .int p1), (2, .int p2), (3, .int p3)] := hl
  generalize ([.ref q_this, .int p1, .int p2, .int p3] : List Value).toArray = args at hts ⊢
  generalize hQe : MQ below (kQi D ca (A) [(q_this, .inr (8, [.ref q_text, .int v_size, .int o_at, .ref q_read, .ref q_l, .ref q_stands, .ref q_kept, .int v_keptMany, .ref q_one, .ref q_two, .ref q_ways, .ref q_now, .ref q_then])), (q_text, .inl (ca 0, 500, .inl v_text)), (q_read, .inl (ca 0, 336, .inl o_read))] r) args s 0 0 A = Q
  have i_X10 : ∀ w ∈ u_ws RX10 TX10 13, w ∈ wsX10_oneItem := by decide +kernel
  have k_13 := hts (.fieldLink RX10 13 "TradeWordsModel" "read" "[I") (by decide +kernel)
  rw [D_X10_oneItem] at h
  refine lv_aload_n hx hb dX10_oneItem_0 rfl (lv_at hl 0 rfl) ?_
  refine va_get (D := D) (ci := 8) (v := .ref q_read) (C := RX10) (T := TX10) (N := 13) hx hb hts i_X10 hown hK hP 0 rfl rfl 3 (by decide) k_13 (fun _ h9 => h9) rfl dX10_oneItem_1 ?_
  refine lv_iload_n hx hb dX10_oneItem_4 rfl (lv_at hl 1 rfl) ?_
  refine lv_aload_n hx hb dX10_oneItem_5 rfl (lv_at hl 0 rfl) ?_
  refine lv_iload_n hx hb dX10_oneItem_6 rfl (lv_at hl 2 rfl) ?_
  refine lv_iload_n hx hb dX10_oneItem_7 rfl (lv_at hl 3 rfl) ?_
  obtain ⟨r_1, y_at_2, hg_3, h⟩ := bd2_el h
  refine kx_Vi (As := [.int p2, .int p3]) (rest := [.int p1, .ref q_read]) (wr := [(q_read, .inl (ca 0, 336, .inl v_read))]) (w1 := [(q_this, .inr (8, [.ref q_text, .int v_size, .int y_at_2, .ref q_read, .ref q_l, .ref q_stands, .ref q_kept, .int v_keptMany, .ref q_one, .ref q_two, .ref q_ways, .ref q_now, .ref q_then])), (q_text, .inl (ca 0, 500, .inl v_text))]) (wn := [(q_this, .inr (8, [.ref q_text, .int v_size, .int y_at_2, .ref q_read, .ref q_l, .ref q_stands, .ref q_kept, .int v_keptMany, .ref q_one, .ref q_two, .ref q_ways, .ref q_now, .ref q_then])), (q_text, .inl (ca 0, 500, .inl v_text)), (q_read, .inl (ca 0, 336, .inl v_read))]) ⟨hx, hb, hml, hown, hts⟩ (c_X10_number l D ca F s.heap.size q_this q_text q_read q_l q_stands q_kept q_one q_two q_ways q_now q_then p2 p3 v_size v_at v_keptMany v_text r_1 y_at_2 hg_3) (cwV 2 hts gX10_oneItem_X10_number rfl rfl rfl (by decide +kernel) ⟨(Nat.le_of_ble_eq_true rfl), (Nat.le_of_ble_eq_true rfl)⟩) hK hP hD hS hA (ci := 8) (q0 := 0) rfl rfl [0, 1] [2] [1, 2, 0] rfl rfl rfl rfl (by decide) rfl rfl rfl hl.1 rfl (Nat.le_of_ble_eq_true rfl) dX10_oneItem_8 ⟨Nat.zero_le _, Nat.zero_le _⟩ (fun H locs hP hD hS => ?_)
  obtain ⟨hi_4, h⟩ := ck_el h
  refine va_iast hx hb hK hP hD hS 2 0 rfl rfl hi_4 dX10_oneItem_11 (fun H locs hP hD hS => ?_)
  have hP : va_P D vwCl [(q_this, .inr (8, [.ref q_text, .int v_size, .int y_at_2, .ref q_read, .ref q_l, .ref q_stands, .ref q_kept, .int v_keptMany, .ref q_one, .ref q_two, .ref q_ways, .ref q_now, .ref q_then])), (q_text, .inl (ca 0, 500, .inl v_text)), (q_read, .inl (ca 0, 336, .inl (upd v_read p1.toNatClampNeg r_1)))] H := hP
  have hD : va_D A [(q_this, .inr (8, [.ref q_text, .int v_size, .int y_at_2, .ref q_read, .ref q_l, .ref q_stands, .ref q_kept, .int v_keptMany, .ref q_one, .ref q_two, .ref q_ways, .ref q_now, .ref q_then])), (q_text, .inl (ca 0, 500, .inl v_text)), (q_read, .inl (ca 0, 336, .inl (upd v_read p1.toNatClampNeg r_1)))] := hD
  refine lv_aload_n hx hb dX10_oneItem_12 rfl (lv_at hl 0 rfl) ?_
  refine va_get (D := D) (ci := 8) (v := .ref q_read) (C := RX10) (T := TX10) (N := 13) hx hb hts i_X10 hown hK hP 0 rfl rfl 3 (by decide) k_13 (fun _ h9 => h9) rfl dX10_oneItem_13 ?_
  refine lv_iload_n hx hb dX10_oneItem_16 rfl (lv_at hl 1 rfl) ?_
  obtain ⟨hi_5, h⟩ := ck_el h
  refine va_iald hx hb hK hP 2 0 rfl rfl hi_5 dX10_oneItem_17 ?_
  refine lv_if_lt (tgt := 25) hx hb dX10_oneItem_18 (by decide) (fun c_6 => ?_) (fun c_6 => ?_)
  · replace h := ifp_el c_6 h
    refine lv_iconst (v := (nI 0)) hx hb dX10_oneItem_25 (by decide) ?_
    cases h
    rw [← hQe]
    exact W.zret hx hb hr rfl (fun t ht hW => ⟨⟨_, (), rfl, rfl, by rw [ht]; exact hP, va_K.moved hW.alike hK, hD⟩, hS.F ht⟩) hS.2.2 dX10_oneItem_26
  · replace h := ifn_el c_6 h
    refine lv_iconst (v := (nI 1)) hx hb dX10_oneItem_21 (by decide) ?_
    refine lv_goto (tgt := 26) hx hb dX10_oneItem_22 (by decide) ?_
    cases h
    rw [← hQe]
    exact W.zret hx hb hr rfl (fun t ht hW => ⟨⟨_, (), rfl, rfl, by rw [ht]; exact hP, va_K.moved hW.alike hK, hD⟩, hS.F ht⟩) hS.2.2 dX10_oneItem_26
def b_X10_joinItem_32 (v_size : Int32) (v_text : Nat → Int32) (F : Nat) (x1_4 : Int32) (rec32 : Int32 → Int32 → (Nat → Int32) → Option (Int32 × Int32 × (Nat → Int32))) (x2_5 : Int32) (y_at_6 : Int32) (y_read_7 : Nat → Int32) : Option (Int32 × Int32 × (Nat → Int32)) := (if (nI 3) ≤ x2_5 then ck 336 (nI 304) (nm ((y_read_7 (nI 304).toNatClampNeg) + (nI 1)) (fun w_10 => ck 336 (nI 304) (ck 336 x1_4 (ck 336 (x1_4 + (nI 1)) ((if ((upd y_read_7 (nI 304).toNatClampNeg w_10) x1_4.toNatClampNeg) = ((upd y_read_7 (nI 304).toNatClampNeg w_10) (x1_4 + (nI 1)).toNatClampNeg) then some ((nI 0), y_at_6, (upd y_read_7 (nI 304).toNatClampNeg w_10)) else ck 336 x1_4 (ck 336 (x1_4 + (nI 2)) ((if ((upd y_read_7 (nI 304).toNatClampNeg w_10) x1_4.toNatClampNeg) = ((upd y_read_7 (nI 304).toNatClampNeg w_10) (x1_4 + (nI 2)).toNatClampNeg) then some ((nI 0), y_at_6, (upd y_read_7 (nI 304).toNatClampNeg w_10)) else ck 336 (x1_4 + (nI 1)) (ck 336 (x1_4 + (nI 2)) ((if ((upd y_read_7 (nI 304).toNatClampNeg w_10) (x1_4 + (nI 1)).toNatClampNeg) = ((upd y_read_7 (nI 304).toNatClampNeg w_10) (x1_4 + (nI 2)).toNatClampNeg) then some ((nI 0), y_at_6, (upd y_read_7 (nI 304).toNatClampNeg w_10)) else some ((nI 1), y_at_6, (upd y_read_7 (nI 304).toNatClampNeg w_10)))))))))))))) else bd2 (D_X10_number F (nI 0) (nI 7) v_size y_at_6 v_text) (fun r_21 y_at_22 => ck 336 (x1_4 + x2_5) (ck 336 (x1_4 + x2_5) ((if ((upd y_read_7 (x1_4 + x2_5).toNatClampNeg r_21) (x1_4 + x2_5).toNatClampNeg) < 0 then some ((nI 0), y_at_22, (upd y_read_7 (x1_4 + x2_5).toNatClampNeg r_21)) else (if (nI 2) ≤ x2_5 then nm (x2_5 + (nI 1)) (fun x2_28 => rec32 x2_28 y_at_22 (upd y_read_7 (x1_4 + x2_5).toNatClampNeg r_21)) else bd2 (D_X10_takes (nI 44) v_size y_at_22 v_text) (fun r_30 y_at_31 => (if r_30 = 0 then some ((nI 0), y_at_31, (upd y_read_7 (x1_4 + x2_5).toNatClampNeg r_21)) else nm (x2_5 + (nI 1)) (fun x2_34 => rec32 x2_34 y_at_31 (upd y_read_7 (x1_4 + x2_5).toNatClampNeg r_21))))))))))
def D_X10_joinItem (F : Nat) (v_size : Int32) (v_at : Int32) (v_text : Nat → Int32) (v_read : Nat → Int32) : Option (Int32 × Int32 × (Nat → Int32)) := ck 336 (nI 304) ((if (v_read (nI 304).toNatClampNeg) = (nI 8) then some ((nI 0), v_at, v_read) else ck 336 (nI 304) (nm ((nI 305) + ((nI 3) * (v_read (nI 304).toNatClampNeg))) (fun x1_4 => lpg (T := Int32 → Int32 → (Nat → Int32) → Option (Int32 × Int32 × (Nat → Int32))) (fun _ _ _ => none) (b_X10_joinItem_32 v_size v_text F x1_4) F (nI 0) v_at v_read))))
abbrev rm_X10_joinItem : Room := { frames := 2, cells := 0, slots := 0, locals := 49 }
set_option maxHeartbeats 4000000 in
set_option maxRecDepth 100000 in
theorem c_X10_joinItem (l : Launch) (D : va_G) (ca : Nat → ClassId) (F : Nat) (sz : Nat) (q_this q_text q_read q_l q_stands q_kept q_one q_two q_ways q_now q_then : Nat) (v_size : Int32) (v_at : Int32) (v_keptMany : Int32) (v_text : Nat → Int32) (v_read : Nat → Int32) (r : Int32) (o_at : Int32) (o_read : Nat → Int32) (h : D_X10_joinItem F v_size v_at v_text v_read = some (r, o_at, o_read)) : Met l yX10_joinItem wsX10_joinItem rm_X10_joinItem (va_Pc [.ref q_this] (kPre D ca [(q_this, .inr (8, [.ref q_text, .int v_size, .int v_at, .ref q_read, .ref q_l, .ref q_stands, .ref q_kept, .int v_keptMany, .ref q_one, .ref q_two, .ref q_ways, .ref q_now, .ref q_then])), (q_text, .inl (ca 0, 500, .inl v_text)), (q_read, .inl (ca 0, 336, .inl v_read))] sz)) (kQi D ca (va_A [(q_this, .inr (8, [.ref q_text, .int v_size, .int v_at, .ref q_read, .ref q_l, .ref q_stands, .ref q_kept, .int v_keptMany, .ref q_one, .ref q_two, .ref q_ways, .ref q_now, .ref q_then])), (q_text, .inl (ca 0, 500, .inl v_text)), (q_read, .inl (ca 0, 336, .inl v_read))] sz) [(q_this, .inr (8, [.ref q_text, .int v_size, .int o_at, .ref q_read, .ref q_l, .ref q_stands, .ref q_kept, .int v_keptMany, .ref q_one, .ref q_two, .ref q_ways, .ref q_now, .ref q_then])), (q_text, .inl (ca 0, 500, .inl v_text)), (q_read, .inl (ca 0, 336, .inl o_read))] r) 0 0 (va_A [(q_this, .inr (8, [.ref q_text, .int v_size, .int v_at, .ref q_read, .ref q_l, .ref q_stands, .ref q_kept, .int v_keptMany, .ref q_one, .ref q_two, .ref q_ways, .ref q_now, .ref q_then])), (q_text, .inl (ca 0, 500, .inl v_text)), (q_read, .inl (ca 0, 336, .inl v_read))] sz) := by
  refine Met.ofW (cc := cX10_joinItem) (maxL := 3) (ret := (some .boolean)) (by decide +kernel) rfl ?_
  intro p e s m args below meth c s₁ B hml hv
  obtain ⟨rfl, hsz, hP, hK, hD0⟩ := hv
  have hx := B.exec
  have hb := B.bytes
  have hr := B.returns
  have hts := atoms_spec (ws := wsX10_joinItem) B.pre
  have hown : s.vm.findClass RX10 = some m.cls := findClass_of_methodNamed B.named
  have hlocks := B.notSynchronized
  clear B
  subst hsz
  have hD := hD0.self (sz := s.heap.size)
  generalize hAe : va_A [(q_this, .inr (8, [.ref q_text, .int v_size, .int v_at, .ref q_read, .ref q_l, .ref q_stands, .ref q_kept, .int v_keptMany, .ref q_one, .ref q_two, .ref q_ways, .ref q_now, .ref q_then])), (q_text, .inl (ca 0, 500, .inl v_text)), (q_read, .inl (ca 0, 336, .inl v_read))] s.heap.size = A at hD ⊢
  have hA : ∀ q : Nat, s.heap.size ≤ q → A q := fun q h => by rw [← hAe]; exact Or.inr h
  have hS : va_S A s.heap s.heap [] := va_S.rf
  have hl := lv_entry ([.ref q_this]) (n := 3) (Nat.le_of_ble_eq_true rfl)
  rw [lg_entry_eq]
  generalize (lg_sl ([.ref q_this]) ++ List.replicate (3 - (lg_sl ([.ref q_this])).length) Slot.unset).toArray = ls at hl ⊢
  have hl : lv_has ls 3 [(0, .ref q_this)] := hl
  generalize ([.ref q_this] : List Value).toArray = args at hts ⊢
  generalize hQe : MQ below (kQi D ca (A) [(q_this, .inr (8, [.ref q_text, .int v_size, .int o_at, .ref q_read, .ref q_l, .ref q_stands, .ref q_kept, .int v_keptMany, .ref q_one, .ref q_two, .ref q_ways, .ref q_now, .ref q_then])), (q_text, .inl (ca 0, 500, .inl v_text)), (q_read, .inl (ca 0, 336, .inl o_read))] r) args s 0 0 A = Q
  have i_X10 : ∀ w ∈ u_ws RX10 TX10 13, w ∈ wsX10_joinItem := by decide +kernel
  have k_13 := hts (.fieldLink RX10 13 "TradeWordsModel" "read" "[I") (by decide +kernel)
  rw [D_X10_joinItem] at h
  refine lv_aload_n hx hb dX10_joinItem_0 rfl (lv_at hl 0 rfl) ?_
  refine va_get (D := D) (ci := 8) (v := .ref q_read) (C := RX10) (T := TX10) (N := 13) hx hb hts i_X10 hown hK hP 0 rfl rfl 3 (by decide) k_13 (fun _ h9 => h9) rfl dX10_joinItem_1 ?_
  refine lv_sipush (v := (nI 304)) hx hb dX10_joinItem_4 (by decide) ?_
  obtain ⟨hi_1, h⟩ := ck_el h
  refine va_iald hx hb hK hP 2 0 rfl rfl hi_1 dX10_joinItem_7 ?_
  refine lv_bipush (v := (nI 8)) hx hb dX10_joinItem_8 (by decide) ?_
  refine lv_icmp_ne (tgt := 15) hx hb dX10_joinItem_10 (by decide) (fun c_2 => ?_) (fun c_2 => ?_)
  · replace h := ifn_el c_2 h
    refine lv_sipush (v := (nI 305)) hx hb dX10_joinItem_15 (by decide) ?_
    refine lv_iconst (v := (nI 3)) hx hb dX10_joinItem_18 (by decide) ?_
    refine lv_aload_n hx hb dX10_joinItem_19 rfl (lv_at hl 0 rfl) ?_
    refine va_get (D := D) (ci := 8) (v := .ref q_read) (C := RX10) (T := TX10) (N := 13) hx hb hts i_X10 hown hK hP 0 rfl rfl 3 (by decide) k_13 (fun _ h9 => h9) rfl dX10_joinItem_20 ?_
    refine lv_sipush (v := (nI 304)) hx hb dX10_joinItem_23 (by decide) ?_
    obtain ⟨hi_3, h⟩ := ck_el h
    refine va_iald hx hb hK hP 2 0 rfl rfl hi_3 dX10_joinItem_26 ?_
    refine lv_imul hx hb dX10_joinItem_27 ?_
    refine lv_iadd hx hb dX10_joinItem_28 ?_
    refine lv_nmi h (fun x1_4 h => ?_)
    refine lv_istore_n (lv' := [(1, .int x1_4), (0, .ref q_this)]) hx hb dX10_joinItem_29 rfl hl (by decide) rfl (fun ls hl => ?_)
    refine lv_iconst (v := (nI 0)) hx hb dX10_joinItem_30 (by decide) ?_
    refine lv_istore_n (lv' := [(2, .int (nI 0)), (1, .int x1_4), (0, .ref q_this)]) hx hb dX10_joinItem_31 rfl hl (by decide) rfl (fun ls hl => ?_)
    have hlp : ∀ (n : Nat) (x2_5 : Int32) (y_at_6 : Int32) (y_read_7 : Nat → Int32) (H : Heap) (locs : List Loc) (ls : Array Slot), lpg (T := Int32 → Int32 → (Nat → Int32) → Option (Int32 × Int32 × (Nat → Int32))) (fun _ _ _ => none) (b_X10_joinItem_32 v_size v_text F x1_4) n x2_5 y_at_6 y_read_7 = some (r, o_at, o_read) → va_P D vwCl [(q_this, .inr (8, [.ref q_text, .int v_size, .int y_at_6, .ref q_read, .ref q_l, .ref q_stands, .ref q_kept, .int v_keptMany, .ref q_one, .ref q_two, .ref q_ways, .ref q_now, .ref q_then])), (q_text, .inl (ca 0, 500, .inl v_text)), (q_read, .inl (ca 0, 336, .inl y_read_7))] H → va_D A [(q_this, .inr (8, [.ref q_text, .int v_size, .int y_at_6, .ref q_read, .ref q_l, .ref q_stands, .ref q_kept, .int v_keptMany, .ref q_one, .ref q_two, .ref q_ways, .ref q_now, .ref q_then])), (q_text, .inl (ca 0, 500, .inl v_text)), (q_read, .inl (ca 0, 336, .inl y_read_7))] → va_S A s.heap H locs → lv_has ls 3 [(0, .ref q_this), (1, .int x1_4), (2, .int x2_5)] → W p l e (headSpec wsX10_joinItem rm_X10_joinItem).room s m args below meth c H locs 0 0 Q (F0 m 32 ls []) := by
      intro n
      induction n with
      | zero => intro x2_5 y_at_6 y_read_7 H locs ls h; have h : (none : Option (Int32 × Int32 × (Nat → Int32))) = some _ := h; cases h
      | succ n ih =>
        intro x2_5 y_at_6 y_read_7 H locs ls h hP hD hS hl
        rw [lpg_succ, b_X10_joinItem_32] at h
        refine lv_iload_n hx hb dX10_joinItem_32 rfl (lv_at hl 2 rfl) ?_
        refine lv_iconst (v := (nI 3)) hx hb dX10_joinItem_33 (by decide) ?_
        refine lv_icmp_ge (tgt := 85) hx hb dX10_joinItem_34 (by decide) (fun c_8 => ?_) (fun c_8 => ?_)
        · replace h := ifp_el c_8 h
          refine lv_aload_n hx hb dX10_joinItem_85 rfl (lv_at hl 0 rfl) ?_
          refine va_get (D := D) (ci := 8) (v := .ref q_read) (C := RX10) (T := TX10) (N := 13) hx hb hts i_X10 hown hK hP 0 rfl rfl 3 (by decide) k_13 (fun _ h9 => h9) rfl dX10_joinItem_86 ?_
          refine lv_sipush (v := (nI 304)) hx hb dX10_joinItem_89 (by decide) ?_
          refine lv_dup2_11 hx hb dX10_joinItem_92 rfl rfl ?_
          obtain ⟨hi_9, h⟩ := ck_el h
          refine va_iald hx hb hK hP 2 0 rfl rfl hi_9 dX10_joinItem_93 ?_
          refine lv_iconst (v := (nI 1)) hx hb dX10_joinItem_94 (by decide) ?_
          refine lv_iadd hx hb dX10_joinItem_95 ?_
          refine lv_nmi h (fun w_10 h => ?_)
          obtain ⟨hi_11, h⟩ := ck_el h
          refine va_iast hx hb hK hP hD hS 2 0 rfl rfl hi_11 dX10_joinItem_96 (fun H locs hP hD hS => ?_)
          have hP : va_P D vwCl [(q_this, .inr (8, [.ref q_text, .int v_size, .int y_at_6, .ref q_read, .ref q_l, .ref q_stands, .ref q_kept, .int v_keptMany, .ref q_one, .ref q_two, .ref q_ways, .ref q_now, .ref q_then])), (q_text, .inl (ca 0, 500, .inl v_text)), (q_read, .inl (ca 0, 336, .inl (upd y_read_7 (nI 304).toNatClampNeg w_10)))] H := hP
          have hD : va_D A [(q_this, .inr (8, [.ref q_text, .int v_size, .int y_at_6, .ref q_read, .ref q_l, .ref q_stands, .ref q_kept, .int v_keptMany, .ref q_one, .ref q_two, .ref q_ways, .ref q_now, .ref q_then])), (q_text, .inl (ca 0, 500, .inl v_text)), (q_read, .inl (ca 0, 336, .inl (upd y_read_7 (nI 304).toNatClampNeg w_10)))] := hD
          refine lv_aload_n hx hb dX10_joinItem_97 rfl (lv_at hl 0 rfl) ?_
          refine va_get (D := D) (ci := 8) (v := .ref q_read) (C := RX10) (T := TX10) (N := 13) hx hb hts i_X10 hown hK hP 0 rfl rfl 3 (by decide) k_13 (fun _ h9 => h9) rfl dX10_joinItem_98 ?_
          refine lv_iload_n hx hb dX10_joinItem_101 rfl (lv_at hl 1 rfl) ?_
          obtain ⟨hi_12, h⟩ := ck_el h
          refine va_iald hx hb hK hP 2 0 rfl rfl hi_12 dX10_joinItem_102 ?_
          refine lv_aload_n hx hb dX10_joinItem_103 rfl (lv_at hl 0 rfl) ?_
          refine va_get (D := D) (ci := 8) (v := .ref q_read) (C := RX10) (T := TX10) (N := 13) hx hb hts i_X10 hown hK hP 0 rfl rfl 3 (by decide) k_13 (fun _ h9 => h9) rfl dX10_joinItem_104 ?_
          refine lv_iload_n hx hb dX10_joinItem_107 rfl (lv_at hl 1 rfl) ?_
          refine lv_iconst (v := (nI 1)) hx hb dX10_joinItem_108 (by decide) ?_
          refine lv_iadd hx hb dX10_joinItem_109 ?_
          obtain ⟨hi_13, h⟩ := ck_el h
          refine va_iald hx hb hK hP 2 0 rfl rfl hi_13 dX10_joinItem_110 ?_
          refine lv_icmp_eq (tgt := 154) hx hb dX10_joinItem_111 (by decide) (fun c_14 => ?_) (fun c_14 => ?_)
          · replace h := ifp_el c_14 h
            refine lv_iconst (v := (nI 0)) hx hb dX10_joinItem_154 (by decide) ?_
            cases h
            rw [← hQe]
            exact W.zret hx hb hr rfl (fun t ht hW => ⟨⟨_, (), rfl, rfl, by rw [ht]; exact hP, va_K.moved hW.alike hK, hD⟩, hS.F ht⟩) hS.2.2 dX10_joinItem_155
          · replace h := ifn_el c_14 h
            refine lv_aload_n hx hb dX10_joinItem_114 rfl (lv_at hl 0 rfl) ?_
            refine va_get (D := D) (ci := 8) (v := .ref q_read) (C := RX10) (T := TX10) (N := 13) hx hb hts i_X10 hown hK hP 0 rfl rfl 3 (by decide) k_13 (fun _ h9 => h9) rfl dX10_joinItem_115 ?_
            refine lv_iload_n hx hb dX10_joinItem_118 rfl (lv_at hl 1 rfl) ?_
            obtain ⟨hi_15, h⟩ := ck_el h
            refine va_iald hx hb hK hP 2 0 rfl rfl hi_15 dX10_joinItem_119 ?_
            refine lv_aload_n hx hb dX10_joinItem_120 rfl (lv_at hl 0 rfl) ?_
            refine va_get (D := D) (ci := 8) (v := .ref q_read) (C := RX10) (T := TX10) (N := 13) hx hb hts i_X10 hown hK hP 0 rfl rfl 3 (by decide) k_13 (fun _ h9 => h9) rfl dX10_joinItem_121 ?_
            refine lv_iload_n hx hb dX10_joinItem_124 rfl (lv_at hl 1 rfl) ?_
            refine lv_iconst (v := (nI 2)) hx hb dX10_joinItem_125 (by decide) ?_
            refine lv_iadd hx hb dX10_joinItem_126 ?_
            obtain ⟨hi_16, h⟩ := ck_el h
            refine va_iald hx hb hK hP 2 0 rfl rfl hi_16 dX10_joinItem_127 ?_
            refine lv_icmp_eq (tgt := 154) hx hb dX10_joinItem_128 (by decide) (fun c_17 => ?_) (fun c_17 => ?_)
            · replace h := ifp_el c_17 h
              refine lv_iconst (v := (nI 0)) hx hb dX10_joinItem_154 (by decide) ?_
              cases h
              rw [← hQe]
              exact W.zret hx hb hr rfl (fun t ht hW => ⟨⟨_, (), rfl, rfl, by rw [ht]; exact hP, va_K.moved hW.alike hK, hD⟩, hS.F ht⟩) hS.2.2 dX10_joinItem_155
            · replace h := ifn_el c_17 h
              refine lv_aload_n hx hb dX10_joinItem_131 rfl (lv_at hl 0 rfl) ?_
              refine va_get (D := D) (ci := 8) (v := .ref q_read) (C := RX10) (T := TX10) (N := 13) hx hb hts i_X10 hown hK hP 0 rfl rfl 3 (by decide) k_13 (fun _ h9 => h9) rfl dX10_joinItem_132 ?_
              refine lv_iload_n hx hb dX10_joinItem_135 rfl (lv_at hl 1 rfl) ?_
              refine lv_iconst (v := (nI 1)) hx hb dX10_joinItem_136 (by decide) ?_
              refine lv_iadd hx hb dX10_joinItem_137 ?_
              obtain ⟨hi_18, h⟩ := ck_el h
              refine va_iald hx hb hK hP 2 0 rfl rfl hi_18 dX10_joinItem_138 ?_
              refine lv_aload_n hx hb dX10_joinItem_139 rfl (lv_at hl 0 rfl) ?_
              refine va_get (D := D) (ci := 8) (v := .ref q_read) (C := RX10) (T := TX10) (N := 13) hx hb hts i_X10 hown hK hP 0 rfl rfl 3 (by decide) k_13 (fun _ h9 => h9) rfl dX10_joinItem_140 ?_
              refine lv_iload_n hx hb dX10_joinItem_143 rfl (lv_at hl 1 rfl) ?_
              refine lv_iconst (v := (nI 2)) hx hb dX10_joinItem_144 (by decide) ?_
              refine lv_iadd hx hb dX10_joinItem_145 ?_
              obtain ⟨hi_19, h⟩ := ck_el h
              refine va_iald hx hb hK hP 2 0 rfl rfl hi_19 dX10_joinItem_146 ?_
              refine lv_icmp_eq (tgt := 154) hx hb dX10_joinItem_147 (by decide) (fun c_20 => ?_) (fun c_20 => ?_)
              · replace h := ifp_el c_20 h
                refine lv_iconst (v := (nI 0)) hx hb dX10_joinItem_154 (by decide) ?_
                cases h
                rw [← hQe]
                exact W.zret hx hb hr rfl (fun t ht hW => ⟨⟨_, (), rfl, rfl, by rw [ht]; exact hP, va_K.moved hW.alike hK, hD⟩, hS.F ht⟩) hS.2.2 dX10_joinItem_155
              · replace h := ifn_el c_20 h
                refine lv_iconst (v := (nI 1)) hx hb dX10_joinItem_150 (by decide) ?_
                refine lv_goto (tgt := 155) hx hb dX10_joinItem_151 (by decide) ?_
                cases h
                rw [← hQe]
                exact W.zret hx hb hr rfl (fun t ht hW => ⟨⟨_, (), rfl, rfl, by rw [ht]; exact hP, va_K.moved hW.alike hK, hD⟩, hS.F ht⟩) hS.2.2 dX10_joinItem_155
        · replace h := ifn_el c_8 h
          refine lv_aload_n hx hb dX10_joinItem_37 rfl (lv_at hl 0 rfl) ?_
          refine va_get (D := D) (ci := 8) (v := .ref q_read) (C := RX10) (T := TX10) (N := 13) hx hb hts i_X10 hown hK hP 0 rfl rfl 3 (by decide) k_13 (fun _ h9 => h9) rfl dX10_joinItem_38 ?_
          refine lv_iload_n hx hb dX10_joinItem_41 rfl (lv_at hl 1 rfl) ?_
          refine lv_iload_n hx hb dX10_joinItem_42 rfl (lv_at hl 2 rfl) ?_
          refine lv_iadd hx hb dX10_joinItem_43 ?_
          refine lv_aload_n hx hb dX10_joinItem_44 rfl (lv_at hl 0 rfl) ?_
          refine lv_iconst (v := (nI 0)) hx hb dX10_joinItem_45 (by decide) ?_
          refine lv_bipush (v := (nI 7)) hx hb dX10_joinItem_46 (by decide) ?_
          obtain ⟨r_21, y_at_22, hg_23, h⟩ := bd2_el h
          refine kx_Vi (As := [.int (nI 0), .int (nI 7)]) (rest := [.int (x1_4 + x2_5), .ref q_read]) (wr := [(q_read, .inl (ca 0, 336, .inl y_read_7))]) (w1 := [(q_this, .inr (8, [.ref q_text, .int v_size, .int y_at_22, .ref q_read, .ref q_l, .ref q_stands, .ref q_kept, .int v_keptMany, .ref q_one, .ref q_two, .ref q_ways, .ref q_now, .ref q_then])), (q_text, .inl (ca 0, 500, .inl v_text))]) (wn := [(q_this, .inr (8, [.ref q_text, .int v_size, .int y_at_22, .ref q_read, .ref q_l, .ref q_stands, .ref q_kept, .int v_keptMany, .ref q_one, .ref q_two, .ref q_ways, .ref q_now, .ref q_then])), (q_text, .inl (ca 0, 500, .inl v_text)), (q_read, .inl (ca 0, 336, .inl y_read_7))]) ⟨hx, hb, hml, hown, hts⟩ (c_X10_number l D ca F H.size q_this q_text q_read q_l q_stands q_kept q_one q_two q_ways q_now q_then (nI 0) (nI 7) v_size y_at_6 v_keptMany v_text r_21 y_at_22 hg_23) (cwV 2 hts gX10_joinItem_X10_number rfl rfl rfl (by decide +kernel) ⟨(Nat.le_of_ble_eq_true rfl), (Nat.le_of_ble_eq_true rfl)⟩) hK hP hD hS hA (ci := 8) (q0 := 0) rfl rfl [0, 1] [2] [1, 2, 0] rfl rfl rfl rfl (by decide) rfl rfl rfl hl.1 rfl (Nat.le_of_ble_eq_true rfl) dX10_joinItem_48 ⟨Nat.zero_le _, Nat.zero_le _⟩ (fun H locs hP hD hS => ?_)
          obtain ⟨hi_24, h⟩ := ck_el h
          refine va_iast hx hb hK hP hD hS 2 0 rfl rfl hi_24 dX10_joinItem_51 (fun H locs hP hD hS => ?_)
          have hP : va_P D vwCl [(q_this, .inr (8, [.ref q_text, .int v_size, .int y_at_22, .ref q_read, .ref q_l, .ref q_stands, .ref q_kept, .int v_keptMany, .ref q_one, .ref q_two, .ref q_ways, .ref q_now, .ref q_then])), (q_text, .inl (ca 0, 500, .inl v_text)), (q_read, .inl (ca 0, 336, .inl (upd y_read_7 (x1_4 + x2_5).toNatClampNeg r_21)))] H := hP
          have hD : va_D A [(q_this, .inr (8, [.ref q_text, .int v_size, .int y_at_22, .ref q_read, .ref q_l, .ref q_stands, .ref q_kept, .int v_keptMany, .ref q_one, .ref q_two, .ref q_ways, .ref q_now, .ref q_then])), (q_text, .inl (ca 0, 500, .inl v_text)), (q_read, .inl (ca 0, 336, .inl (upd y_read_7 (x1_4 + x2_5).toNatClampNeg r_21)))] := hD
          refine lv_aload_n hx hb dX10_joinItem_52 rfl (lv_at hl 0 rfl) ?_
          refine va_get (D := D) (ci := 8) (v := .ref q_read) (C := RX10) (T := TX10) (N := 13) hx hb hts i_X10 hown hK hP 0 rfl rfl 3 (by decide) k_13 (fun _ h9 => h9) rfl dX10_joinItem_53 ?_
          refine lv_iload_n hx hb dX10_joinItem_56 rfl (lv_at hl 1 rfl) ?_
          refine lv_iload_n hx hb dX10_joinItem_57 rfl (lv_at hl 2 rfl) ?_
          refine lv_iadd hx hb dX10_joinItem_58 ?_
          obtain ⟨hi_25, h⟩ := ck_el h
          refine va_iald hx hb hK hP 2 0 rfl rfl hi_25 dX10_joinItem_59 ?_
          refine lv_if_lt (tgt := 77) hx hb dX10_joinItem_60 (by decide) (fun c_26 => ?_) (fun c_26 => ?_)
          · replace h := ifp_el c_26 h
            refine lv_iconst (v := (nI 0)) hx hb dX10_joinItem_77 (by decide) ?_
            cases h
            rw [← hQe]
            exact W.zret hx hb hr rfl (fun t ht hW => ⟨⟨_, (), rfl, rfl, by rw [ht]; exact hP, va_K.moved hW.alike hK, hD⟩, hS.F ht⟩) hS.2.2 dX10_joinItem_78
          · replace h := ifn_el c_26 h
            refine lv_iload_n hx hb dX10_joinItem_63 rfl (lv_at hl 2 rfl) ?_
            refine lv_iconst (v := (nI 2)) hx hb dX10_joinItem_64 (by decide) ?_
            refine lv_icmp_ge (tgt := 79) hx hb dX10_joinItem_65 (by decide) (fun c_27 => ?_) (fun c_27 => ?_)
            · replace h := ifp_el c_27 h
              obtain ⟨x2_28, e_29, h⟩ := nm_el h
              refine lv_iinc (v := x2_28) (lv' := [(2, .int x2_28), (0, .ref q_this), (1, .int x1_4)]) hx hb dX10_joinItem_79 hl (k := 2) rfl (by rw [← e_29]; rfl) (by decide) rfl (fun ls hl => ?_)
              refine lv_goto (tgt := 32) hx hb dX10_joinItem_82 (by decide) ?_
              exact ih _ _ _ _ _ _ h hP hD hS (lv_sub hl [1, 2, 0] rfl)
            · replace h := ifn_el c_27 h
              refine lv_aload_n hx hb dX10_joinItem_68 rfl (lv_at hl 0 rfl) ?_
              refine lv_bipush (v := (nI 44)) hx hb dX10_joinItem_69 (by decide) ?_
              obtain ⟨r_30, y_at_31, hg_32, h⟩ := bd2_el h
              refine kx_Vi (As := [.int (nI 44)]) (rest := []) (wr := [(q_read, .inl (ca 0, 336, .inl (upd y_read_7 (x1_4 + x2_5).toNatClampNeg r_21)))]) (w1 := [(q_this, .inr (8, [.ref q_text, .int v_size, .int y_at_31, .ref q_read, .ref q_l, .ref q_stands, .ref q_kept, .int v_keptMany, .ref q_one, .ref q_two, .ref q_ways, .ref q_now, .ref q_then])), (q_text, .inl (ca 0, 500, .inl v_text))]) (wn := [(q_this, .inr (8, [.ref q_text, .int v_size, .int y_at_31, .ref q_read, .ref q_l, .ref q_stands, .ref q_kept, .int v_keptMany, .ref q_one, .ref q_two, .ref q_ways, .ref q_now, .ref q_then])), (q_text, .inl (ca 0, 500, .inl v_text)), (q_read, .inl (ca 0, 336, .inl (upd y_read_7 (x1_4 + x2_5).toNatClampNeg r_21)))]) ⟨hx, hb, hml, hown, hts⟩ (c_X10_takes l D ca H.size q_this q_text q_read q_l q_stands q_kept q_one q_two q_ways q_now q_then (nI 44) v_size y_at_22 v_keptMany v_text r_30 y_at_31 hg_32) (cwV 1 hts gX10_joinItem_X10_takes rfl rfl rfl (by decide +kernel) ⟨(Nat.le_of_ble_eq_true rfl), (Nat.le_of_ble_eq_true rfl)⟩) hK hP hD hS hA (ci := 8) (q0 := 0) rfl rfl [0, 1] [2] [1, 2, 0] rfl rfl rfl rfl (by decide) rfl rfl rfl hl.1 rfl (Nat.le_of_ble_eq_true rfl) dX10_joinItem_71 ⟨Nat.zero_le _, Nat.zero_le _⟩ (fun H locs hP hD hS => ?_)
              refine lv_if_ne (tgt := 79) hx hb dX10_joinItem_74 (by decide) (fun c_33 => ?_) (fun c_33 => ?_)
              · replace h := ifn_el c_33 h
                obtain ⟨x2_34, e_35, h⟩ := nm_el h
                refine lv_iinc (v := x2_34) (lv' := [(2, .int x2_34), (0, .ref q_this), (1, .int x1_4)]) hx hb dX10_joinItem_79 hl (k := 2) rfl (by rw [← e_35]; rfl) (by decide) rfl (fun ls hl => ?_)
                refine lv_goto (tgt := 32) hx hb dX10_joinItem_82 (by decide) ?_
                exact ih _ _ _ _ _ _ h hP hD hS (lv_sub hl [1, 2, 0] rfl)
              · replace h := ifp_el c_33 h
                refine lv_iconst (v := (nI 0)) hx hb dX10_joinItem_77 (by decide) ?_
                cases h
                rw [← hQe]
                exact W.zret hx hb hr rfl (fun t ht hW => ⟨⟨_, (), rfl, rfl, by rw [ht]; exact hP, va_K.moved hW.alike hK, hD⟩, hS.F ht⟩) hS.2.2 dX10_joinItem_78
    exact hlp F (nI 0) v_at v_read s.heap [] ls h hP hD hS (lv_sub hl [2, 1, 0] rfl)
  · replace h := ifp_el c_2 h
    refine lv_iconst (v := (nI 0)) hx hb dX10_joinItem_13 (by decide) ?_
    cases h
    rw [← hQe]
    exact W.zret hx hb hr rfl (fun t ht hW => ⟨⟨_, (), rfl, rfl, by rw [ht]; exact hP, va_K.moved hW.alike hK, hD⟩, hS.F ht⟩) hS.2.2 dX10_joinItem_14
def b_X10_needItem_17 (v_size : Int32) (v_text : Nat → Int32) (v_read : Nat → Int32) (rec17 : Int32 → Int32 → Option (Int32 × Int32 × (Nat → Int32))) (x1_3 : Int32) (y_at_4 : Int32) : Option (Int32 × Int32 × (Nat → Int32)) := bd1 (D_X10_byteAt v_size y_at_4 v_text) (fun r_5 => bd1 (D_X10_in r_5.toInt64 (lN 48) (lN 55)) (fun r_7 => (if r_7 = 0 then ck 336 (nI 329) (ck 336 ((nI 330) + (v_read (nI 329).toNatClampNeg)) (ck 336 (nI 329) (nm (((upd v_read ((nI 330) + (v_read (nI 329).toNatClampNeg)).toNatClampNeg x1_3) (nI 329).toNatClampNeg) + (nI 1)) (fun w_13 => ck 336 (nI 329) ((if x1_3 = 0 then some ((nI 0), y_at_4, (upd (upd v_read ((nI 330) + (v_read (nI 329).toNatClampNeg)).toNatClampNeg x1_3) (nI 329).toNatClampNeg w_13)) else some ((nI 1), y_at_4, (upd (upd v_read ((nI 330) + (v_read (nI 329).toNatClampNeg)).toNatClampNeg x1_3) (nI 329).toNatClampNeg w_13)))))))) else bd1 (D_X10_byteAt v_size y_at_4 v_text) (fun r_16 => nm (r_16 - (nI 48)) (fun x2_18 => (if (x1_3 >>> (x2_18 &&& 31)) = 0 then nm (x1_3 ||| ((nI 1) <<< (x2_18 &&& 31))) (fun x1_20 => nm (y_at_4 + (nI 1)) (fun w_21 => rec17 x1_20 w_21)) else some ((nI 0), y_at_4, v_read)))))))
def D_X10_needItem (F : Nat) (v_size : Int32) (v_at : Int32) (v_text : Nat → Int32) (v_read : Nat → Int32) : Option (Int32 × Int32 × (Nat → Int32)) := ck 336 (nI 329) ((if (v_read (nI 329).toNatClampNeg) = (nI 6) then some ((nI 0), v_at, v_read) else lpg (T := Int32 → Int32 → Option (Int32 × Int32 × (Nat → Int32))) (fun _ _ => none) (b_X10_needItem_17 v_size v_text v_read) F (nI 0) v_at))
abbrev rm_X10_needItem : Room := { frames := 1, cells := 0, slots := 0, locals := 25 }
set_option maxHeartbeats 4000000 in
set_option maxRecDepth 100000 in
theorem c_X10_needItem (l : Launch) (D : va_G) (ca : Nat → ClassId) (F : Nat) (sz : Nat) (q_this q_text q_read q_l q_stands q_kept q_one q_two q_ways q_now q_then : Nat) (v_size : Int32) (v_at : Int32) (v_keptMany : Int32) (v_text : Nat → Int32) (v_read : Nat → Int32) (r : Int32) (o_at : Int32) (o_read : Nat → Int32) (h : D_X10_needItem F v_size v_at v_text v_read = some (r, o_at, o_read)) : Met l yX10_needItem wsX10_needItem rm_X10_needItem (va_Pc [.ref q_this] (kPre D ca [(q_this, .inr (8, [.ref q_text, .int v_size, .int v_at, .ref q_read, .ref q_l, .ref q_stands, .ref q_kept, .int v_keptMany, .ref q_one, .ref q_two, .ref q_ways, .ref q_now, .ref q_then])), (q_text, .inl (ca 0, 500, .inl v_text)), (q_read, .inl (ca 0, 336, .inl v_read))] sz)) (kQi D ca (va_A [(q_this, .inr (8, [.ref q_text, .int v_size, .int v_at, .ref q_read, .ref q_l, .ref q_stands, .ref q_kept, .int v_keptMany, .ref q_one, .ref q_two, .ref q_ways, .ref q_now, .ref q_then])), (q_text, .inl (ca 0, 500, .inl v_text)), (q_read, .inl (ca 0, 336, .inl v_read))] sz) [(q_this, .inr (8, [.ref q_text, .int v_size, .int o_at, .ref q_read, .ref q_l, .ref q_stands, .ref q_kept, .int v_keptMany, .ref q_one, .ref q_two, .ref q_ways, .ref q_now, .ref q_then])), (q_text, .inl (ca 0, 500, .inl v_text)), (q_read, .inl (ca 0, 336, .inl o_read))] r) 0 0 (va_A [(q_this, .inr (8, [.ref q_text, .int v_size, .int v_at, .ref q_read, .ref q_l, .ref q_stands, .ref q_kept, .int v_keptMany, .ref q_one, .ref q_two, .ref q_ways, .ref q_now, .ref q_then])), (q_text, .inl (ca 0, 500, .inl v_text)), (q_read, .inl (ca 0, 336, .inl v_read))] sz) := by
  refine Met.ofW (cc := cX10_needItem) (maxL := 3) (ret := (some .boolean)) (by decide +kernel) rfl ?_
  intro p e s m args below meth c s₁ B hml hv
  obtain ⟨rfl, hsz, hP, hK, hD0⟩ := hv
  have hx := B.exec
  have hb := B.bytes
  have hr := B.returns
  have hts := atoms_spec (ws := wsX10_needItem) B.pre
  have hown : s.vm.findClass RX10 = some m.cls := findClass_of_methodNamed B.named
  have hlocks := B.notSynchronized
  clear B
  subst hsz
  have hD := hD0.self (sz := s.heap.size)
  generalize hAe : va_A [(q_this, .inr (8, [.ref q_text, .int v_size, .int v_at, .ref q_read, .ref q_l, .ref q_stands, .ref q_kept, .int v_keptMany, .ref q_one, .ref q_two, .ref q_ways, .ref q_now, .ref q_then])), (q_text, .inl (ca 0, 500, .inl v_text)), (q_read, .inl (ca 0, 336, .inl v_read))] s.heap.size = A at hD ⊢
  have hA : ∀ q : Nat, s.heap.size ≤ q → A q := fun q h => by rw [← hAe]; exact Or.inr h
  have hS : va_S A s.heap s.heap [] := va_S.rf
  have hl := lv_entry ([.ref q_this]) (n := 3) (Nat.le_of_ble_eq_true rfl)
  rw [lg_entry_eq]
  generalize (lg_sl ([.ref q_this]) ++ List.replicate (3 - (lg_sl ([.ref q_this])).length) Slot.unset).toArray = ls at hl ⊢
  have hl : lv_has ls 3 [(0, .ref q_this)] := hl
  generalize ([.ref q_this] : List Value).toArray = args at hts ⊢
  generalize hQe : MQ below (kQi D ca (A) [(q_this, .inr (8, [.ref q_text, .int v_size, .int o_at, .ref q_read, .ref q_l, .ref q_stands, .ref q_kept, .int v_keptMany, .ref q_one, .ref q_two, .ref q_ways, .ref q_now, .ref q_then])), (q_text, .inl (ca 0, 500, .inl v_text)), (q_read, .inl (ca 0, 336, .inl o_read))] r) args s 0 0 A = Q
  have i_X10 : ∀ w ∈ u_ws RX10 TX10 13, w ∈ wsX10_needItem := by decide +kernel
  have k_13 := hts (.fieldLink RX10 13 "TradeWordsModel" "read" "[I") (by decide +kernel)
  have k_67 := hts (.constantLong RX10 67 (lN 48)) (by decide +kernel)
  have k_87 := hts (.constantLong RX10 87 (lN 55)) (by decide +kernel)
  have k_60 := hts (.fieldLink RX10 60 "TradeWordsModel" "at" "I") (by decide +kernel)
  rw [D_X10_needItem] at h
  refine lv_aload_n hx hb dX10_needItem_0 rfl (lv_at hl 0 rfl) ?_
  refine va_get (D := D) (ci := 8) (v := .ref q_read) (C := RX10) (T := TX10) (N := 13) hx hb hts i_X10 hown hK hP 0 rfl rfl 3 (by decide) k_13 (fun _ h9 => h9) rfl dX10_needItem_1 ?_
  refine lv_sipush (v := (nI 329)) hx hb dX10_needItem_4 (by decide) ?_
  obtain ⟨hi_1, h⟩ := ck_el h
  refine va_iald hx hb hK hP 2 0 rfl rfl hi_1 dX10_needItem_7 ?_
  refine lv_bipush (v := (nI 6)) hx hb dX10_needItem_8 (by decide) ?_
  refine lv_icmp_ne (tgt := 15) hx hb dX10_needItem_10 (by decide) (fun c_2 => ?_) (fun c_2 => ?_)
  · replace h := ifn_el c_2 h
    refine lv_iconst (v := (nI 0)) hx hb dX10_needItem_15 (by decide) ?_
    refine lv_istore_n (lv' := [(1, .int (nI 0)), (0, .ref q_this)]) hx hb dX10_needItem_16 rfl hl (by decide) rfl (fun ls hl => ?_)
    have hlp : ∀ (n : Nat) (x1_3 : Int32) (y_at_4 : Int32) (H : Heap) (locs : List Loc) (ls : Array Slot), lpg (T := Int32 → Int32 → Option (Int32 × Int32 × (Nat → Int32))) (fun _ _ => none) (b_X10_needItem_17 v_size v_text v_read) n x1_3 y_at_4 = some (r, o_at, o_read) → va_P D vwCl [(q_this, .inr (8, [.ref q_text, .int v_size, .int y_at_4, .ref q_read, .ref q_l, .ref q_stands, .ref q_kept, .int v_keptMany, .ref q_one, .ref q_two, .ref q_ways, .ref q_now, .ref q_then])), (q_text, .inl (ca 0, 500, .inl v_text)), (q_read, .inl (ca 0, 336, .inl v_read))] H → va_D A [(q_this, .inr (8, [.ref q_text, .int v_size, .int y_at_4, .ref q_read, .ref q_l, .ref q_stands, .ref q_kept, .int v_keptMany, .ref q_one, .ref q_two, .ref q_ways, .ref q_now, .ref q_then])), (q_text, .inl (ca 0, 500, .inl v_text)), (q_read, .inl (ca 0, 336, .inl v_read))] → va_S A s.heap H locs → lv_has ls 3 [(0, .ref q_this), (1, .int x1_3)] → W p l e (headSpec wsX10_needItem rm_X10_needItem).room s m args below meth c H locs 0 0 Q (F0 m 17 ls []) := by
      intro n
      induction n with
      | zero => intro x1_3 y_at_4 H locs ls h; have h : (none : Option (Int32 × Int32 × (Nat → Int32))) = some _ := h; cases h
      | succ n ih =>
        intro x1_3 y_at_4 H locs ls h hP hD hS hl
        rw [lpg_succ, b_X10_needItem_17] at h
        refine lv_aload_n hx hb dX10_needItem_17 rfl (lv_at hl 0 rfl) ?_
        obtain ⟨r_5, hg_6, h⟩ := bd1_el h
        refine kx_Vi (As := []) (rest := []) (wr := [(q_read, .inl (ca 0, 336, .inl v_read))]) (w1 := [(q_this, .inr (8, [.ref q_text, .int v_size, .int y_at_4, .ref q_read, .ref q_l, .ref q_stands, .ref q_kept, .int v_keptMany, .ref q_one, .ref q_two, .ref q_ways, .ref q_now, .ref q_then])), (q_text, .inl (ca 0, 500, .inl v_text))]) (wn := [(q_this, .inr (8, [.ref q_text, .int v_size, .int y_at_4, .ref q_read, .ref q_l, .ref q_stands, .ref q_kept, .int v_keptMany, .ref q_one, .ref q_two, .ref q_ways, .ref q_now, .ref q_then])), (q_text, .inl (ca 0, 500, .inl v_text)), (q_read, .inl (ca 0, 336, .inl v_read))]) ⟨hx, hb, hml, hown, hts⟩ (c_X10_byteAt l D ca H.size q_this q_text q_read q_l q_stands q_kept q_one q_two q_ways q_now q_then v_size y_at_4 v_keptMany v_text r_5 hg_6) (cwV 0 hts gX10_needItem_X10_byteAt rfl rfl rfl (by decide +kernel) ⟨(Nat.le_of_ble_eq_true rfl), (Nat.le_of_ble_eq_true rfl)⟩) hK hP hD hS hA (ci := 8) (q0 := 0) rfl rfl [0, 1] [2] [1, 2, 0] rfl rfl rfl rfl (by decide) rfl rfl rfl hl.1 rfl (Nat.le_of_ble_eq_true rfl) dX10_needItem_18 ⟨Nat.zero_le _, Nat.zero_le _⟩ (fun H locs hP hD hS => ?_)
        refine lv_i2l hx hb dX10_needItem_21 rfl ?_
        refine lv_ldc2 hx hb hown k_67 dX10_needItem_22 ?_
        refine lv_ldc2 hx hb hown k_87 dX10_needItem_25 ?_
        obtain ⟨r_7, hg_8, h⟩ := bd1_el h
        refine kx_Si (As := [.long r_5.toInt64, .long (lN 48), .long (lN 55)]) (rest := []) (wr := [(q_this, .inr (8, [.ref q_text, .int v_size, .int y_at_4, .ref q_read, .ref q_l, .ref q_stands, .ref q_kept, .int v_keptMany, .ref q_one, .ref q_two, .ref q_ways, .ref q_now, .ref q_then])), (q_text, .inl (ca 0, 500, .inl v_text)), (q_read, .inl (ca 0, 336, .inl v_read))]) (w1 := []) (wn := [(q_this, .inr (8, [.ref q_text, .int v_size, .int y_at_4, .ref q_read, .ref q_l, .ref q_stands, .ref q_kept, .int v_keptMany, .ref q_one, .ref q_two, .ref q_ways, .ref q_now, .ref q_then])), (q_text, .inl (ca 0, 500, .inl v_text)), (q_read, .inl (ca 0, 336, .inl v_read))]) ⟨hx, hb, hml, hown, hts⟩ (c_X10_in l D ca H.size r_5.toInt64 (lN 48) (lN 55) r_7 hg_8) (va_cwS 3 hts gX10_needItem_X10_in rfl rfl rfl (by decide +kernel) ⟨(Nat.le_of_ble_eq_true rfl), (Nat.le_of_ble_eq_true rfl)⟩) hK hP hD hS hA [] [0, 1, 2] [0, 1, 2] rfl rfl rfl rfl (by decide) rfl rfl rfl hl.1 rfl (Nat.le_of_ble_eq_true rfl) dX10_needItem_28 ⟨Nat.zero_le _, Nat.zero_le _⟩ (fun H locs hP hD hS => ?_)
        refine lv_if_eq (tgt := 69) hx hb dX10_needItem_31 (by decide) (fun c_9 => ?_) (fun c_9 => ?_)
        · replace h := ifp_el c_9 h
          refine lv_aload_n hx hb dX10_needItem_69 rfl (lv_at hl 0 rfl) ?_
          refine va_get (D := D) (ci := 8) (v := .ref q_read) (C := RX10) (T := TX10) (N := 13) hx hb hts i_X10 hown hK hP 0 rfl rfl 3 (by decide) k_13 (fun _ h9 => h9) rfl dX10_needItem_70 ?_
          refine lv_sipush (v := (nI 330)) hx hb dX10_needItem_73 (by decide) ?_
          refine lv_aload_n hx hb dX10_needItem_76 rfl (lv_at hl 0 rfl) ?_
          refine va_get (D := D) (ci := 8) (v := .ref q_read) (C := RX10) (T := TX10) (N := 13) hx hb hts i_X10 hown hK hP 0 rfl rfl 3 (by decide) k_13 (fun _ h9 => h9) rfl dX10_needItem_77 ?_
          refine lv_sipush (v := (nI 329)) hx hb dX10_needItem_80 (by decide) ?_
          obtain ⟨hi_10, h⟩ := ck_el h
          refine va_iald hx hb hK hP 2 0 rfl rfl hi_10 dX10_needItem_83 ?_
          refine lv_iadd hx hb dX10_needItem_84 ?_
          refine lv_iload_n hx hb dX10_needItem_85 rfl (lv_at hl 1 rfl) ?_
          obtain ⟨hi_11, h⟩ := ck_el h
          refine va_iast hx hb hK hP hD hS 2 0 rfl rfl hi_11 dX10_needItem_86 (fun H locs hP hD hS => ?_)
          have hP : va_P D vwCl [(q_this, .inr (8, [.ref q_text, .int v_size, .int y_at_4, .ref q_read, .ref q_l, .ref q_stands, .ref q_kept, .int v_keptMany, .ref q_one, .ref q_two, .ref q_ways, .ref q_now, .ref q_then])), (q_text, .inl (ca 0, 500, .inl v_text)), (q_read, .inl (ca 0, 336, .inl (upd v_read ((nI 330) + (v_read (nI 329).toNatClampNeg)).toNatClampNeg x1_3)))] H := hP
          have hD : va_D A [(q_this, .inr (8, [.ref q_text, .int v_size, .int y_at_4, .ref q_read, .ref q_l, .ref q_stands, .ref q_kept, .int v_keptMany, .ref q_one, .ref q_two, .ref q_ways, .ref q_now, .ref q_then])), (q_text, .inl (ca 0, 500, .inl v_text)), (q_read, .inl (ca 0, 336, .inl (upd v_read ((nI 330) + (v_read (nI 329).toNatClampNeg)).toNatClampNeg x1_3)))] := hD
          refine lv_aload_n hx hb dX10_needItem_87 rfl (lv_at hl 0 rfl) ?_
          refine va_get (D := D) (ci := 8) (v := .ref q_read) (C := RX10) (T := TX10) (N := 13) hx hb hts i_X10 hown hK hP 0 rfl rfl 3 (by decide) k_13 (fun _ h9 => h9) rfl dX10_needItem_88 ?_
          refine lv_sipush (v := (nI 329)) hx hb dX10_needItem_91 (by decide) ?_
          refine lv_dup2_11 hx hb dX10_needItem_94 rfl rfl ?_
          obtain ⟨hi_12, h⟩ := ck_el h
          refine va_iald hx hb hK hP 2 0 rfl rfl hi_12 dX10_needItem_95 ?_
          refine lv_iconst (v := (nI 1)) hx hb dX10_needItem_96 (by decide) ?_
          refine lv_iadd hx hb dX10_needItem_97 ?_
          refine lv_nmi h (fun w_13 h => ?_)
          obtain ⟨hi_14, h⟩ := ck_el h
          refine va_iast hx hb hK hP hD hS 2 0 rfl rfl hi_14 dX10_needItem_98 (fun H locs hP hD hS => ?_)
          have hP : va_P D vwCl [(q_this, .inr (8, [.ref q_text, .int v_size, .int y_at_4, .ref q_read, .ref q_l, .ref q_stands, .ref q_kept, .int v_keptMany, .ref q_one, .ref q_two, .ref q_ways, .ref q_now, .ref q_then])), (q_text, .inl (ca 0, 500, .inl v_text)), (q_read, .inl (ca 0, 336, .inl (upd (upd v_read ((nI 330) + (v_read (nI 329).toNatClampNeg)).toNatClampNeg x1_3) (nI 329).toNatClampNeg w_13)))] H := hP
          have hD : va_D A [(q_this, .inr (8, [.ref q_text, .int v_size, .int y_at_4, .ref q_read, .ref q_l, .ref q_stands, .ref q_kept, .int v_keptMany, .ref q_one, .ref q_two, .ref q_ways, .ref q_now, .ref q_then])), (q_text, .inl (ca 0, 500, .inl v_text)), (q_read, .inl (ca 0, 336, .inl (upd (upd v_read ((nI 330) + (v_read (nI 329).toNatClampNeg)).toNatClampNeg x1_3) (nI 329).toNatClampNeg w_13)))] := hD
          refine lv_iload_n hx hb dX10_needItem_99 rfl (lv_at hl 1 rfl) ?_
          refine lv_if_eq (tgt := 107) hx hb dX10_needItem_100 (by decide) (fun c_15 => ?_) (fun c_15 => ?_)
          · replace h := ifp_el c_15 h
            refine lv_iconst (v := (nI 0)) hx hb dX10_needItem_107 (by decide) ?_
            cases h
            rw [← hQe]
            exact W.zret hx hb hr rfl (fun t ht hW => ⟨⟨_, (), rfl, rfl, by rw [ht]; exact hP, va_K.moved hW.alike hK, hD⟩, hS.F ht⟩) hS.2.2 dX10_needItem_108
          · replace h := ifn_el c_15 h
            refine lv_iconst (v := (nI 1)) hx hb dX10_needItem_103 (by decide) ?_
            refine lv_goto (tgt := 108) hx hb dX10_needItem_104 (by decide) ?_
            cases h
            rw [← hQe]
            exact W.zret hx hb hr rfl (fun t ht hW => ⟨⟨_, (), rfl, rfl, by rw [ht]; exact hP, va_K.moved hW.alike hK, hD⟩, hS.F ht⟩) hS.2.2 dX10_needItem_108
        · replace h := ifn_el c_9 h
          refine lv_aload_n hx hb dX10_needItem_34 rfl (lv_at hl 0 rfl) ?_
          obtain ⟨r_16, hg_17, h⟩ := bd1_el h
          refine kx_Vi (As := []) (rest := []) (wr := [(q_read, .inl (ca 0, 336, .inl v_read))]) (w1 := [(q_this, .inr (8, [.ref q_text, .int v_size, .int y_at_4, .ref q_read, .ref q_l, .ref q_stands, .ref q_kept, .int v_keptMany, .ref q_one, .ref q_two, .ref q_ways, .ref q_now, .ref q_then])), (q_text, .inl (ca 0, 500, .inl v_text))]) (wn := [(q_this, .inr (8, [.ref q_text, .int v_size, .int y_at_4, .ref q_read, .ref q_l, .ref q_stands, .ref q_kept, .int v_keptMany, .ref q_one, .ref q_two, .ref q_ways, .ref q_now, .ref q_then])), (q_text, .inl (ca 0, 500, .inl v_text)), (q_read, .inl (ca 0, 336, .inl v_read))]) ⟨hx, hb, hml, hown, hts⟩ (c_X10_byteAt l D ca H.size q_this q_text q_read q_l q_stands q_kept q_one q_two q_ways q_now q_then v_size y_at_4 v_keptMany v_text r_16 hg_17) (cwV 0 hts gX10_needItem_X10_byteAt rfl rfl rfl (by decide +kernel) ⟨(Nat.le_of_ble_eq_true rfl), (Nat.le_of_ble_eq_true rfl)⟩) hK hP hD hS hA (ci := 8) (q0 := 0) rfl rfl [0, 1] [2] [1, 2, 0] rfl rfl rfl rfl (by decide) rfl rfl rfl hl.1 rfl (Nat.le_of_ble_eq_true rfl) dX10_needItem_35 ⟨Nat.zero_le _, Nat.zero_le _⟩ (fun H locs hP hD hS => ?_)
          refine lv_bipush (v := (nI 48)) hx hb dX10_needItem_38 (by decide) ?_
          refine lv_isub hx hb dX10_needItem_40 ?_
          refine lv_nmi h (fun x2_18 h => ?_)
          refine lv_istore_n (lv' := [(2, .int x2_18), (0, .ref q_this), (1, .int x1_3)]) hx hb dX10_needItem_41 rfl hl (by decide) rfl (fun ls hl => ?_)
          refine lv_iload_n hx hb dX10_needItem_42 rfl (lv_at hl 2 rfl) ?_
          refine lv_iload_n hx hb dX10_needItem_43 rfl (lv_at hl 0 rfl) ?_
          refine lv_ishr hx hb dX10_needItem_44 ?_
          refine lv_if_eq (tgt := 50) hx hb dX10_needItem_45 (by decide) (fun c_19 => ?_) (fun c_19 => ?_)
          · replace h := ifp_el c_19 h
            refine lv_iload_n hx hb dX10_needItem_50 rfl (lv_at hl 2 rfl) ?_
            refine lv_iconst (v := (nI 1)) hx hb dX10_needItem_51 (by decide) ?_
            refine lv_iload_n hx hb dX10_needItem_52 rfl (lv_at hl 0 rfl) ?_
            refine lv_ishl hx hb dX10_needItem_53 ?_
            refine lv_ior hx hb dX10_needItem_54 ?_
            refine lv_nmi h (fun x1_20 h => ?_)
            refine lv_istore_n (lv' := [(1, .int x1_20), (2, .int x2_18), (0, .ref q_this)]) hx hb dX10_needItem_55 rfl hl (by decide) rfl (fun ls hl => ?_)
            refine lv_aload_n hx hb dX10_needItem_56 rfl (lv_at hl 2 rfl) ?_
            refine lv_dup hx hb dX10_needItem_57 rfl ?_
            refine va_get (D := D) (ci := 8) (v := .int y_at_4) (C := RX10) (T := TX10) (N := 13) hx hb hts i_X10 hown hK hP 0 rfl rfl 2 (by decide) k_60 (fun _ h9 => h9) rfl dX10_needItem_58 ?_
            refine lv_iconst (v := (nI 1)) hx hb dX10_needItem_61 (by decide) ?_
            refine lv_iadd hx hb dX10_needItem_62 ?_
            refine lv_nmi h (fun w_21 h => ?_)
            refine va_put (D := D) (ci := 8) (v := .int w_21) (ty := .int) (C := RX10) (T := TX10) (N := 13) hx hb hts i_X10 tyX10 tyX10_ok nmX10 hown hK hP hD hS 0 rfl rfl 2 (by decide) k_60 (fun _ h9 => h9) rfl (by decide +kernel) rfl rfl (Nat.le_of_ble_eq_true rfl) dX10_needItem_63 (fun H locs hP hD hS => ?_)
            have hP : va_P D vwCl [(q_this, .inr (8, [.ref q_text, .int v_size, .int w_21, .ref q_read, .ref q_l, .ref q_stands, .ref q_kept, .int v_keptMany, .ref q_one, .ref q_two, .ref q_ways, .ref q_now, .ref q_then])), (q_text, .inl (ca 0, 500, .inl v_text)), (q_read, .inl (ca 0, 336, .inl v_read))] H := hP
            have hD : va_D A [(q_this, .inr (8, [.ref q_text, .int v_size, .int w_21, .ref q_read, .ref q_l, .ref q_stands, .ref q_kept, .int v_keptMany, .ref q_one, .ref q_two, .ref q_ways, .ref q_now, .ref q_then])), (q_text, .inl (ca 0, 500, .inl v_text)), (q_read, .inl (ca 0, 336, .inl v_read))] := hD
            refine lv_goto (tgt := 17) hx hb dX10_needItem_66 (by decide) ?_
            exact ih _ _ _ _ _ h hP hD hS (lv_sub hl [2, 0] rfl)
          · replace h := ifn_el c_19 h
            refine lv_iconst (v := (nI 0)) hx hb dX10_needItem_48 (by decide) ?_
            cases h
            rw [← hQe]
            exact W.zret hx hb hr rfl (fun t ht hW => ⟨⟨_, (), rfl, rfl, by rw [ht]; exact hP, va_K.moved hW.alike hK, hD⟩, hS.F ht⟩) hS.2.2 dX10_needItem_49
    exact hlp F (nI 0) v_at s.heap [] ls h hP hD hS (lv_sub hl [1, 0] rfl)
  · replace h := ifp_el c_2 h
    refine lv_iconst (v := (nI 0)) hx hb dX10_needItem_13 (by decide) ?_
    cases h
    rw [← hQe]
    exact W.zret hx hb hr rfl (fun t ht hW => ⟨⟨_, (), rfl, rfl, by rw [ht]; exact hP, va_K.moved hW.alike hK, hD⟩, hS.F ht⟩) hS.2.2 dX10_needItem_14
def D_X10_item (F : Nat) (v_size : Int32) (v_at : Int32) (v_text : Nat → Int32) (v_read : Nat → Int32) : Option (Int32 × Int32 × (Nat → Int32)) := bd1 (D_X10_byteAt v_size v_at v_text) (fun r_1 => nm (v_at + (nI 1)) (fun w_3 => (if r_1 = (nI 101) then bd3 (D_X10_wordItem F (nI 112) (nI 2) v_size w_3 v_text v_read) (fun r_5 y_at_6 y_read_7 => cz r_5 (some (r_5, y_at_6, y_read_7))) else (if r_1 = (nI 103) then bd3 (D_X10_oneItem F (nI 303) (nI 1) (nI 99) v_size w_3 v_text v_read) (fun r_10 y_at_11 y_read_12 => cz r_10 (some (r_10, y_at_11, y_read_12))) else (if r_1 = (nI 106) then bd3 (D_X10_joinItem F v_size w_3 v_text v_read) (fun r_15 y_at_16 y_read_17 => cz r_15 (some (r_15, y_at_16, y_read_17))) else (if r_1 = (nI 107) then bd3 (D_X10_pairItem F (nI 300) (nI 0) (nI 10) v_size w_3 v_text v_read) (fun r_20 y_at_21 y_read_22 => cz r_20 (some (r_20, y_at_21, y_read_22))) else (if r_1 = (nI 110) then bd3 (D_X10_pairItem F (nI 298) (nI 1) (nI 8) v_size w_3 v_text v_read) (fun r_25 y_at_26 y_read_27 => cz r_25 (some (r_25, y_at_26, y_read_27))) else (if r_1 = (nI 111) then bd3 (D_X10_oneItem F (nI 302) (nI 0) (nI 10) v_size w_3 v_text v_read) (fun r_30 y_at_31 y_read_32 => cz r_30 (some (r_30, y_at_31, y_read_32))) else (if r_1 = (nI 114) then bd3 (D_X10_placeItem v_size w_3 v_text v_read) (fun r_35 y_at_36 y_read_37 => cz r_35 (some (r_35, y_at_36, y_read_37))) else (if r_1 = (nI 115) then bd3 (D_X10_soundsItem F v_size w_3 v_text v_read) (fun r_40 y_at_41 y_read_42 => cz r_40 (some (r_40, y_at_41, y_read_42))) else (if r_1 = (nI 117) then bd3 (D_X10_needItem F v_size w_3 v_text v_read) (fun r_45 y_at_46 y_read_47 => cz r_45 (some (r_45, y_at_46, y_read_47))) else (if r_1 = (nI 119) then bd3 (D_X10_wordItem F (nI 0) (nI 1) v_size w_3 v_text v_read) (fun r_50 y_at_51 y_read_52 => cz r_50 (some (r_50, y_at_51, y_read_52))) else some ((nI 0), w_3, v_read)))))))))))))
abbrev rm_X10_item : Room := { frames := 4, cells := 0, slots := 0, locals := 93 }
set_option maxHeartbeats 4000000 in
set_option maxRecDepth 100000 in
theorem c_X10_item (l : Launch) (D : va_G) (ca : Nat → ClassId) (F : Nat) (sz : Nat) (q_this q_text q_read q_l q_stands q_kept q_one q_two q_ways q_now q_then : Nat) (v_size : Int32) (v_at : Int32) (v_keptMany : Int32) (v_text : Nat → Int32) (v_read : Nat → Int32) (r : Int32) (o_at : Int32) (o_read : Nat → Int32) (h : D_X10_item F v_size v_at v_text v_read = some (r, o_at, o_read)) : Met l yX10_item wsX10_item rm_X10_item (va_Pc [.ref q_this] (kPre D ca [(q_this, .inr (8, [.ref q_text, .int v_size, .int v_at, .ref q_read, .ref q_l, .ref q_stands, .ref q_kept, .int v_keptMany, .ref q_one, .ref q_two, .ref q_ways, .ref q_now, .ref q_then])), (q_text, .inl (ca 0, 500, .inl v_text)), (q_read, .inl (ca 0, 336, .inl v_read))] sz)) (kQi D ca (va_A [(q_this, .inr (8, [.ref q_text, .int v_size, .int v_at, .ref q_read, .ref q_l, .ref q_stands, .ref q_kept, .int v_keptMany, .ref q_one, .ref q_two, .ref q_ways, .ref q_now, .ref q_then])), (q_text, .inl (ca 0, 500, .inl v_text)), (q_read, .inl (ca 0, 336, .inl v_read))] sz) [(q_this, .inr (8, [.ref q_text, .int v_size, .int o_at, .ref q_read, .ref q_l, .ref q_stands, .ref q_kept, .int v_keptMany, .ref q_one, .ref q_two, .ref q_ways, .ref q_now, .ref q_then])), (q_text, .inl (ca 0, 500, .inl v_text)), (q_read, .inl (ca 0, 336, .inl o_read))] r) 0 0 (va_A [(q_this, .inr (8, [.ref q_text, .int v_size, .int v_at, .ref q_read, .ref q_l, .ref q_stands, .ref q_kept, .int v_keptMany, .ref q_one, .ref q_two, .ref q_ways, .ref q_now, .ref q_then])), (q_text, .inl (ca 0, 500, .inl v_text)), (q_read, .inl (ca 0, 336, .inl v_read))] sz) := by
  refine Met.ofW (cc := cX10_item) (maxL := 2) (ret := (some .boolean)) (by decide +kernel) rfl ?_
  intro p e s m args below meth c s₁ B hml hv
  obtain ⟨rfl, hsz, hP, hK, hD0⟩ := hv
  have hx := B.exec
  have hb := B.bytes
  have hr := B.returns
  have hts := atoms_spec (ws := wsX10_item) B.pre
  have hown : s.vm.findClass RX10 = some m.cls := findClass_of_methodNamed B.named
  have hlocks := B.notSynchronized
  clear B
  subst hsz
  have hD := hD0.self (sz := s.heap.size)
  generalize hAe : va_A [(q_this, .inr (8, [.ref q_text, .int v_size, .int v_at, .ref q_read, .ref q_l, .ref q_stands, .ref q_kept, .int v_keptMany, .ref q_one, .ref q_two, .ref q_ways, .ref q_now, .ref q_then])), (q_text, .inl (ca 0, 500, .inl v_text)), (q_read, .inl (ca 0, 336, .inl v_read))] s.heap.size = A at hD ⊢
  have hA : ∀ q : Nat, s.heap.size ≤ q → A q := fun q h => by rw [← hAe]; exact Or.inr h
  have hS : va_S A s.heap s.heap [] := va_S.rf
  have hl := lv_entry ([.ref q_this]) (n := 2) (Nat.le_of_ble_eq_true rfl)
  rw [lg_entry_eq]
  generalize (lg_sl ([.ref q_this]) ++ List.replicate (2 - (lg_sl ([.ref q_this])).length) Slot.unset).toArray = ls at hl ⊢
  have hl : lv_has ls 2 [(0, .ref q_this)] := hl
  generalize ([.ref q_this] : List Value).toArray = args at hts ⊢
  generalize hQe : MQ below (kQi D ca (A) [(q_this, .inr (8, [.ref q_text, .int v_size, .int o_at, .ref q_read, .ref q_l, .ref q_stands, .ref q_kept, .int v_keptMany, .ref q_one, .ref q_two, .ref q_ways, .ref q_now, .ref q_then])), (q_text, .inl (ca 0, 500, .inl v_text)), (q_read, .inl (ca 0, 336, .inl o_read))] r) args s 0 0 A = Q
  have i_X10 : ∀ w ∈ u_ws RX10 TX10 13, w ∈ wsX10_item := by decide +kernel
  have k_60 := hts (.fieldLink RX10 60 "TradeWordsModel" "at" "I") (by decide +kernel)
  rw [D_X10_item] at h
  refine lv_aload_n hx hb dX10_item_0 rfl (lv_at hl 0 rfl) ?_
  obtain ⟨r_1, hg_2, h⟩ := bd1_el h
  refine kx_Vi (As := []) (rest := []) (wr := [(q_read, .inl (ca 0, 336, .inl v_read))]) (w1 := [(q_this, .inr (8, [.ref q_text, .int v_size, .int v_at, .ref q_read, .ref q_l, .ref q_stands, .ref q_kept, .int v_keptMany, .ref q_one, .ref q_two, .ref q_ways, .ref q_now, .ref q_then])), (q_text, .inl (ca 0, 500, .inl v_text))]) (wn := [(q_this, .inr (8, [.ref q_text, .int v_size, .int v_at, .ref q_read, .ref q_l, .ref q_stands, .ref q_kept, .int v_keptMany, .ref q_one, .ref q_two, .ref q_ways, .ref q_now, .ref q_then])), (q_text, .inl (ca 0, 500, .inl v_text)), (q_read, .inl (ca 0, 336, .inl v_read))]) ⟨hx, hb, hml, hown, hts⟩ (c_X10_byteAt l D ca s.heap.size q_this q_text q_read q_l q_stands q_kept q_one q_two q_ways q_now q_then v_size v_at v_keptMany v_text r_1 hg_2) (cwV 0 hts gX10_item_X10_byteAt rfl rfl rfl (by decide +kernel) ⟨(Nat.le_of_ble_eq_true rfl), (Nat.le_of_ble_eq_true rfl)⟩) hK hP hD hS hA (ci := 8) (q0 := 0) rfl rfl [0, 1] [2] [1, 2, 0] rfl rfl rfl rfl (by decide) rfl rfl rfl hl.1 rfl (Nat.le_of_ble_eq_true rfl) dX10_item_1 ⟨Nat.zero_le _, Nat.zero_le _⟩ (fun H locs hP hD hS => ?_)
  refine lv_istore_n (lv' := [(1, .int r_1), (0, .ref q_this)]) hx hb dX10_item_4 rfl hl (by decide) rfl (fun ls hl => ?_)
  refine lv_aload_n hx hb dX10_item_5 rfl (lv_at hl 1 rfl) ?_
  refine lv_dup hx hb dX10_item_6 rfl ?_
  refine va_get (D := D) (ci := 8) (v := .int v_at) (C := RX10) (T := TX10) (N := 13) hx hb hts i_X10 hown hK hP 0 rfl rfl 2 (by decide) k_60 (fun _ h9 => h9) rfl dX10_item_7 ?_
  refine lv_iconst (v := (nI 1)) hx hb dX10_item_10 (by decide) ?_
  refine lv_iadd hx hb dX10_item_11 ?_
  refine lv_nmi h (fun w_3 h => ?_)
  refine va_put (D := D) (ci := 8) (v := .int w_3) (ty := .int) (C := RX10) (T := TX10) (N := 13) hx hb hts i_X10 tyX10 tyX10_ok nmX10 hown hK hP hD hS 0 rfl rfl 2 (by decide) k_60 (fun _ h9 => h9) rfl (by decide +kernel) rfl rfl (Nat.le_of_ble_eq_true rfl) dX10_item_12 (fun H locs hP hD hS => ?_)
  have hP : va_P D vwCl [(q_this, .inr (8, [.ref q_text, .int v_size, .int w_3, .ref q_read, .ref q_l, .ref q_stands, .ref q_kept, .int v_keptMany, .ref q_one, .ref q_two, .ref q_ways, .ref q_now, .ref q_then])), (q_text, .inl (ca 0, 500, .inl v_text)), (q_read, .inl (ca 0, 336, .inl v_read))] H := hP
  have hD : va_D A [(q_this, .inr (8, [.ref q_text, .int v_size, .int w_3, .ref q_read, .ref q_l, .ref q_stands, .ref q_kept, .int v_keptMany, .ref q_one, .ref q_two, .ref q_ways, .ref q_now, .ref q_then])), (q_text, .inl (ca 0, 500, .inl v_text)), (q_read, .inl (ca 0, 336, .inl v_read))] := hD
  refine lv_iload_n hx hb dX10_item_15 rfl (lv_at hl 0 rfl) ?_
  by_cases c_4 : r_1 = (nI 101)
  · replace h := ifp_el c_4 h
    refine lv_tableIn (off := 163) (tgt := 179) hx hb dX10_item_16 (by rw [c_4]; decide) (by rw [c_4]; decide) (by rw [c_4]; decide) (by decide) ?_
    refine lv_aload_n hx hb dX10_item_179 rfl (lv_at hl 1 rfl) ?_
    refine lv_bipush (v := (nI 112)) hx hb dX10_item_180 (by decide) ?_
    refine lv_iconst (v := (nI 2)) hx hb dX10_item_182 (by decide) ?_
    obtain ⟨r_5, y_at_6, y_read_7, hg_8, h⟩ := bd3_el h
    refine kx_Vi (As := [.int (nI 112), .int (nI 2)]) (rest := []) (wr := []) (w1 := [(q_this, .inr (8, [.ref q_text, .int v_size, .int y_at_6, .ref q_read, .ref q_l, .ref q_stands, .ref q_kept, .int v_keptMany, .ref q_one, .ref q_two, .ref q_ways, .ref q_now, .ref q_then])), (q_text, .inl (ca 0, 500, .inl v_text)), (q_read, .inl (ca 0, 336, .inl y_read_7))]) (wn := [(q_this, .inr (8, [.ref q_text, .int v_size, .int y_at_6, .ref q_read, .ref q_l, .ref q_stands, .ref q_kept, .int v_keptMany, .ref q_one, .ref q_two, .ref q_ways, .ref q_now, .ref q_then])), (q_text, .inl (ca 0, 500, .inl v_text)), (q_read, .inl (ca 0, 336, .inl y_read_7))]) ⟨hx, hb, hml, hown, hts⟩ (c_X10_wordItem l D ca F H.size q_this q_text q_read q_l q_stands q_kept q_one q_two q_ways q_now q_then (nI 112) (nI 2) v_size w_3 v_keptMany v_text v_read r_5 y_at_6 y_read_7 hg_8) (cwV 2 hts gX10_item_X10_wordItem rfl rfl rfl (by decide +kernel) ⟨(Nat.le_of_ble_eq_true rfl), (Nat.le_of_ble_eq_true rfl)⟩) hK hP hD hS hA (ci := 8) (q0 := 0) rfl rfl [0, 1, 2] [] [0, 1, 2] rfl rfl rfl rfl (by decide) rfl rfl rfl hl.1 rfl (Nat.le_of_ble_eq_true rfl) dX10_item_183 ⟨Nat.zero_le _, Nat.zero_le _⟩ (fun H locs hP hD hS => ?_)
    obtain ⟨hz, h⟩ := cz_el h
    cases h
    rw [← hQe]
    exact W.zret hx hb hr hz (fun t ht hW => ⟨⟨_, (), rfl, rfl, by rw [ht]; exact hP, va_K.moved hW.alike hK, hD⟩, hS.F ht⟩) hS.2.2 dX10_item_186
  replace h := ifn_el c_4 h
  by_cases c_9 : r_1 = (nI 103)
  · replace h := ifp_el c_9 h
    refine lv_tableIn (off := 142) (tgt := 158) hx hb dX10_item_16 (by rw [c_9]; decide) (by rw [c_9]; decide) (by rw [c_9]; decide) (by decide) ?_
    refine lv_aload_n hx hb dX10_item_158 rfl (lv_at hl 1 rfl) ?_
    refine lv_sipush (v := (nI 303)) hx hb dX10_item_159 (by decide) ?_
    refine lv_iconst (v := (nI 1)) hx hb dX10_item_162 (by decide) ?_
    refine lv_bipush (v := (nI 99)) hx hb dX10_item_163 (by decide) ?_
    obtain ⟨r_10, y_at_11, y_read_12, hg_13, h⟩ := bd3_el h
    refine kx_Vi (As := [.int (nI 303), .int (nI 1), .int (nI 99)]) (rest := []) (wr := []) (w1 := [(q_this, .inr (8, [.ref q_text, .int v_size, .int y_at_11, .ref q_read, .ref q_l, .ref q_stands, .ref q_kept, .int v_keptMany, .ref q_one, .ref q_two, .ref q_ways, .ref q_now, .ref q_then])), (q_text, .inl (ca 0, 500, .inl v_text)), (q_read, .inl (ca 0, 336, .inl y_read_12))]) (wn := [(q_this, .inr (8, [.ref q_text, .int v_size, .int y_at_11, .ref q_read, .ref q_l, .ref q_stands, .ref q_kept, .int v_keptMany, .ref q_one, .ref q_two, .ref q_ways, .ref q_now, .ref q_then])), (q_text, .inl (ca 0, 500, .inl v_text)), (q_read, .inl (ca 0, 336, .inl y_read_12))]) ⟨hx, hb, hml, hown, hts⟩ (c_X10_oneItem l D ca F H.size q_this q_text q_read q_l q_stands q_kept q_one q_two q_ways q_now q_then (nI 303) (nI 1) (nI 99) v_size w_3 v_keptMany v_text v_read r_10 y_at_11 y_read_12 hg_13) (cwV 3 hts gX10_item_X10_oneItem rfl rfl rfl (by decide +kernel) ⟨(Nat.le_of_ble_eq_true rfl), (Nat.le_of_ble_eq_true rfl)⟩) hK hP hD hS hA (ci := 8) (q0 := 0) rfl rfl [0, 1, 2] [] [0, 1, 2] rfl rfl rfl rfl (by decide) rfl rfl rfl hl.1 rfl (Nat.le_of_ble_eq_true rfl) dX10_item_165 ⟨Nat.zero_le _, Nat.zero_le _⟩ (fun H locs hP hD hS => ?_)
    obtain ⟨hz, h⟩ := cz_el h
    cases h
    rw [← hQe]
    exact W.zret hx hb hr hz (fun t ht hW => ⟨⟨_, (), rfl, rfl, by rw [ht]; exact hP, va_K.moved hW.alike hK, hD⟩, hS.F ht⟩) hS.2.2 dX10_item_168
  replace h := ifn_el c_9 h
  by_cases c_14 : r_1 = (nI 106)
  · replace h := ifp_el c_14 h
    refine lv_tableIn (off := 153) (tgt := 169) hx hb dX10_item_16 (by rw [c_14]; decide) (by rw [c_14]; decide) (by rw [c_14]; decide) (by decide) ?_
    refine lv_aload_n hx hb dX10_item_169 rfl (lv_at hl 1 rfl) ?_
    obtain ⟨r_15, y_at_16, y_read_17, hg_18, h⟩ := bd3_el h
    refine kx_Vi (As := []) (rest := []) (wr := []) (w1 := [(q_this, .inr (8, [.ref q_text, .int v_size, .int y_at_16, .ref q_read, .ref q_l, .ref q_stands, .ref q_kept, .int v_keptMany, .ref q_one, .ref q_two, .ref q_ways, .ref q_now, .ref q_then])), (q_text, .inl (ca 0, 500, .inl v_text)), (q_read, .inl (ca 0, 336, .inl y_read_17))]) (wn := [(q_this, .inr (8, [.ref q_text, .int v_size, .int y_at_16, .ref q_read, .ref q_l, .ref q_stands, .ref q_kept, .int v_keptMany, .ref q_one, .ref q_two, .ref q_ways, .ref q_now, .ref q_then])), (q_text, .inl (ca 0, 500, .inl v_text)), (q_read, .inl (ca 0, 336, .inl y_read_17))]) ⟨hx, hb, hml, hown, hts⟩ (c_X10_joinItem l D ca F H.size q_this q_text q_read q_l q_stands q_kept q_one q_two q_ways q_now q_then v_size w_3 v_keptMany v_text v_read r_15 y_at_16 y_read_17 hg_18) (cwV 0 hts gX10_item_X10_joinItem rfl rfl rfl (by decide +kernel) ⟨(Nat.le_of_ble_eq_true rfl), (Nat.le_of_ble_eq_true rfl)⟩) hK hP hD hS hA (ci := 8) (q0 := 0) rfl rfl [0, 1, 2] [] [0, 1, 2] rfl rfl rfl rfl (by decide) rfl rfl rfl hl.1 rfl (Nat.le_of_ble_eq_true rfl) dX10_item_170 ⟨Nat.zero_le _, Nat.zero_le _⟩ (fun H locs hP hD hS => ?_)
    obtain ⟨hz, h⟩ := cz_el h
    cases h
    rw [← hQe]
    exact W.zret hx hb hr hz (fun t ht hW => ⟨⟨_, (), rfl, rfl, by rw [ht]; exact hP, va_K.moved hW.alike hK, hD⟩, hS.F ht⟩) hS.2.2 dX10_item_173
  replace h := ifn_el c_14 h
  by_cases c_19 : r_1 = (nI 107)
  · replace h := ifp_el c_19 h
    refine lv_tableIn (off := 120) (tgt := 136) hx hb dX10_item_16 (by rw [c_19]; decide) (by rw [c_19]; decide) (by rw [c_19]; decide) (by decide) ?_
    refine lv_aload_n hx hb dX10_item_136 rfl (lv_at hl 1 rfl) ?_
    refine lv_sipush (v := (nI 300)) hx hb dX10_item_137 (by decide) ?_
    refine lv_iconst (v := (nI 0)) hx hb dX10_item_140 (by decide) ?_
    refine lv_bipush (v := (nI 10)) hx hb dX10_item_141 (by decide) ?_
    obtain ⟨r_20, y_at_21, y_read_22, hg_23, h⟩ := bd3_el h
    refine kx_Vi (As := [.int (nI 300), .int (nI 0), .int (nI 10)]) (rest := []) (wr := []) (w1 := [(q_this, .inr (8, [.ref q_text, .int v_size, .int y_at_21, .ref q_read, .ref q_l, .ref q_stands, .ref q_kept, .int v_keptMany, .ref q_one, .ref q_two, .ref q_ways, .ref q_now, .ref q_then])), (q_text, .inl (ca 0, 500, .inl v_text)), (q_read, .inl (ca 0, 336, .inl y_read_22))]) (wn := [(q_this, .inr (8, [.ref q_text, .int v_size, .int y_at_21, .ref q_read, .ref q_l, .ref q_stands, .ref q_kept, .int v_keptMany, .ref q_one, .ref q_two, .ref q_ways, .ref q_now, .ref q_then])), (q_text, .inl (ca 0, 500, .inl v_text)), (q_read, .inl (ca 0, 336, .inl y_read_22))]) ⟨hx, hb, hml, hown, hts⟩ (c_X10_pairItem l D ca F H.size q_this q_text q_read q_l q_stands q_kept q_one q_two q_ways q_now q_then (nI 300) (nI 0) (nI 10) v_size w_3 v_keptMany v_text v_read r_20 y_at_21 y_read_22 hg_23) (cwV 3 hts gX10_item_X10_pairItem rfl rfl rfl (by decide +kernel) ⟨(Nat.le_of_ble_eq_true rfl), (Nat.le_of_ble_eq_true rfl)⟩) hK hP hD hS hA (ci := 8) (q0 := 0) rfl rfl [0, 1, 2] [] [0, 1, 2] rfl rfl rfl rfl (by decide) rfl rfl rfl hl.1 rfl (Nat.le_of_ble_eq_true rfl) dX10_item_143 ⟨Nat.zero_le _, Nat.zero_le _⟩ (fun H locs hP hD hS => ?_)
    obtain ⟨hz, h⟩ := cz_el h
    cases h
    rw [← hQe]
    exact W.zret hx hb hr hz (fun t ht hW => ⟨⟨_, (), rfl, rfl, by rw [ht]; exact hP, va_K.moved hW.alike hK, hD⟩, hS.F ht⟩) hS.2.2 dX10_item_146
  replace h := ifn_el c_19 h
  by_cases c_24 : r_1 = (nI 110)
  · replace h := ifp_el c_24 h
    refine lv_tableIn (off := 109) (tgt := 125) hx hb dX10_item_16 (by rw [c_24]; decide) (by rw [c_24]; decide) (by rw [c_24]; decide) (by decide) ?_
    refine lv_aload_n hx hb dX10_item_125 rfl (lv_at hl 1 rfl) ?_
    refine lv_sipush (v := (nI 298)) hx hb dX10_item_126 (by decide) ?_
    refine lv_iconst (v := (nI 1)) hx hb dX10_item_129 (by decide) ?_
    refine lv_bipush (v := (nI 8)) hx hb dX10_item_130 (by decide) ?_
    obtain ⟨r_25, y_at_26, y_read_27, hg_28, h⟩ := bd3_el h
    refine kx_Vi (As := [.int (nI 298), .int (nI 1), .int (nI 8)]) (rest := []) (wr := []) (w1 := [(q_this, .inr (8, [.ref q_text, .int v_size, .int y_at_26, .ref q_read, .ref q_l, .ref q_stands, .ref q_kept, .int v_keptMany, .ref q_one, .ref q_two, .ref q_ways, .ref q_now, .ref q_then])), (q_text, .inl (ca 0, 500, .inl v_text)), (q_read, .inl (ca 0, 336, .inl y_read_27))]) (wn := [(q_this, .inr (8, [.ref q_text, .int v_size, .int y_at_26, .ref q_read, .ref q_l, .ref q_stands, .ref q_kept, .int v_keptMany, .ref q_one, .ref q_two, .ref q_ways, .ref q_now, .ref q_then])), (q_text, .inl (ca 0, 500, .inl v_text)), (q_read, .inl (ca 0, 336, .inl y_read_27))]) ⟨hx, hb, hml, hown, hts⟩ (c_X10_pairItem l D ca F H.size q_this q_text q_read q_l q_stands q_kept q_one q_two q_ways q_now q_then (nI 298) (nI 1) (nI 8) v_size w_3 v_keptMany v_text v_read r_25 y_at_26 y_read_27 hg_28) (cwV 3 hts gX10_item_X10_pairItem rfl rfl rfl (by decide +kernel) ⟨(Nat.le_of_ble_eq_true rfl), (Nat.le_of_ble_eq_true rfl)⟩) hK hP hD hS hA (ci := 8) (q0 := 0) rfl rfl [0, 1, 2] [] [0, 1, 2] rfl rfl rfl rfl (by decide) rfl rfl rfl hl.1 rfl (Nat.le_of_ble_eq_true rfl) dX10_item_132 ⟨Nat.zero_le _, Nat.zero_le _⟩ (fun H locs hP hD hS => ?_)
    obtain ⟨hz, h⟩ := cz_el h
    cases h
    rw [← hQe]
    exact W.zret hx hb hr hz (fun t ht hW => ⟨⟨_, (), rfl, rfl, by rw [ht]; exact hP, va_K.moved hW.alike hK, hD⟩, hS.F ht⟩) hS.2.2 dX10_item_135
  replace h := ifn_el c_24 h
  by_cases c_29 : r_1 = (nI 111)
  · replace h := ifp_el c_29 h
    refine lv_tableIn (off := 131) (tgt := 147) hx hb dX10_item_16 (by rw [c_29]; decide) (by rw [c_29]; decide) (by rw [c_29]; decide) (by decide) ?_
    refine lv_aload_n hx hb dX10_item_147 rfl (lv_at hl 1 rfl) ?_
    refine lv_sipush (v := (nI 302)) hx hb dX10_item_148 (by decide) ?_
    refine lv_iconst (v := (nI 0)) hx hb dX10_item_151 (by decide) ?_
    refine lv_bipush (v := (nI 10)) hx hb dX10_item_152 (by decide) ?_
    obtain ⟨r_30, y_at_31, y_read_32, hg_33, h⟩ := bd3_el h
    refine kx_Vi (As := [.int (nI 302), .int (nI 0), .int (nI 10)]) (rest := []) (wr := []) (w1 := [(q_this, .inr (8, [.ref q_text, .int v_size, .int y_at_31, .ref q_read, .ref q_l, .ref q_stands, .ref q_kept, .int v_keptMany, .ref q_one, .ref q_two, .ref q_ways, .ref q_now, .ref q_then])), (q_text, .inl (ca 0, 500, .inl v_text)), (q_read, .inl (ca 0, 336, .inl y_read_32))]) (wn := [(q_this, .inr (8, [.ref q_text, .int v_size, .int y_at_31, .ref q_read, .ref q_l, .ref q_stands, .ref q_kept, .int v_keptMany, .ref q_one, .ref q_two, .ref q_ways, .ref q_now, .ref q_then])), (q_text, .inl (ca 0, 500, .inl v_text)), (q_read, .inl (ca 0, 336, .inl y_read_32))]) ⟨hx, hb, hml, hown, hts⟩ (c_X10_oneItem l D ca F H.size q_this q_text q_read q_l q_stands q_kept q_one q_two q_ways q_now q_then (nI 302) (nI 0) (nI 10) v_size w_3 v_keptMany v_text v_read r_30 y_at_31 y_read_32 hg_33) (cwV 3 hts gX10_item_X10_oneItem rfl rfl rfl (by decide +kernel) ⟨(Nat.le_of_ble_eq_true rfl), (Nat.le_of_ble_eq_true rfl)⟩) hK hP hD hS hA (ci := 8) (q0 := 0) rfl rfl [0, 1, 2] [] [0, 1, 2] rfl rfl rfl rfl (by decide) rfl rfl rfl hl.1 rfl (Nat.le_of_ble_eq_true rfl) dX10_item_154 ⟨Nat.zero_le _, Nat.zero_le _⟩ (fun H locs hP hD hS => ?_)
    obtain ⟨hz, h⟩ := cz_el h
    cases h
    rw [← hQe]
    exact W.zret hx hb hr hz (fun t ht hW => ⟨⟨_, (), rfl, rfl, by rw [ht]; exact hP, va_K.moved hW.alike hK, hD⟩, hS.F ht⟩) hS.2.2 dX10_item_157
  replace h := ifn_el c_29 h
  by_cases c_34 : r_1 = (nI 114)
  · replace h := ifp_el c_34 h
    refine lv_tableIn (off := 104) (tgt := 120) hx hb dX10_item_16 (by rw [c_34]; decide) (by rw [c_34]; decide) (by rw [c_34]; decide) (by decide) ?_
    refine lv_aload_n hx hb dX10_item_120 rfl (lv_at hl 1 rfl) ?_
    obtain ⟨r_35, y_at_36, y_read_37, hg_38, h⟩ := bd3_el h
    refine kx_Vi (As := []) (rest := []) (wr := []) (w1 := [(q_this, .inr (8, [.ref q_text, .int v_size, .int y_at_36, .ref q_read, .ref q_l, .ref q_stands, .ref q_kept, .int v_keptMany, .ref q_one, .ref q_two, .ref q_ways, .ref q_now, .ref q_then])), (q_text, .inl (ca 0, 500, .inl v_text)), (q_read, .inl (ca 0, 336, .inl y_read_37))]) (wn := [(q_this, .inr (8, [.ref q_text, .int v_size, .int y_at_36, .ref q_read, .ref q_l, .ref q_stands, .ref q_kept, .int v_keptMany, .ref q_one, .ref q_two, .ref q_ways, .ref q_now, .ref q_then])), (q_text, .inl (ca 0, 500, .inl v_text)), (q_read, .inl (ca 0, 336, .inl y_read_37))]) ⟨hx, hb, hml, hown, hts⟩ (c_X10_placeItem l D ca H.size q_this q_text q_read q_l q_stands q_kept q_one q_two q_ways q_now q_then v_size w_3 v_keptMany v_text v_read r_35 y_at_36 y_read_37 hg_38) (cwV 0 hts gX10_item_X10_placeItem rfl rfl rfl (by decide +kernel) ⟨(Nat.le_of_ble_eq_true rfl), (Nat.le_of_ble_eq_true rfl)⟩) hK hP hD hS hA (ci := 8) (q0 := 0) rfl rfl [0, 1, 2] [] [0, 1, 2] rfl rfl rfl rfl (by decide) rfl rfl rfl hl.1 rfl (Nat.le_of_ble_eq_true rfl) dX10_item_121 ⟨Nat.zero_le _, Nat.zero_le _⟩ (fun H locs hP hD hS => ?_)
    obtain ⟨hz, h⟩ := cz_el h
    cases h
    rw [← hQe]
    exact W.zret hx hb hr hz (fun t ht hW => ⟨⟨_, (), rfl, rfl, by rw [ht]; exact hP, va_K.moved hW.alike hK, hD⟩, hS.F ht⟩) hS.2.2 dX10_item_124
  replace h := ifn_el c_34 h
  by_cases c_39 : r_1 = (nI 115)
  · replace h := ifp_el c_39 h
    refine lv_tableIn (off := 99) (tgt := 115) hx hb dX10_item_16 (by rw [c_39]; decide) (by rw [c_39]; decide) (by rw [c_39]; decide) (by decide) ?_
    refine lv_aload_n hx hb dX10_item_115 rfl (lv_at hl 1 rfl) ?_
    obtain ⟨r_40, y_at_41, y_read_42, hg_43, h⟩ := bd3_el h
    refine kx_Vi (As := []) (rest := []) (wr := []) (w1 := [(q_this, .inr (8, [.ref q_text, .int v_size, .int y_at_41, .ref q_read, .ref q_l, .ref q_stands, .ref q_kept, .int v_keptMany, .ref q_one, .ref q_two, .ref q_ways, .ref q_now, .ref q_then])), (q_text, .inl (ca 0, 500, .inl v_text)), (q_read, .inl (ca 0, 336, .inl y_read_42))]) (wn := [(q_this, .inr (8, [.ref q_text, .int v_size, .int y_at_41, .ref q_read, .ref q_l, .ref q_stands, .ref q_kept, .int v_keptMany, .ref q_one, .ref q_two, .ref q_ways, .ref q_now, .ref q_then])), (q_text, .inl (ca 0, 500, .inl v_text)), (q_read, .inl (ca 0, 336, .inl y_read_42))]) ⟨hx, hb, hml, hown, hts⟩ (c_X10_soundsItem l D ca F H.size q_this q_text q_read q_l q_stands q_kept q_one q_two q_ways q_now q_then v_size w_3 v_keptMany v_text v_read r_40 y_at_41 y_read_42 hg_43) (cwV 0 hts gX10_item_X10_soundsItem rfl rfl rfl (by decide +kernel) ⟨(Nat.le_of_ble_eq_true rfl), (Nat.le_of_ble_eq_true rfl)⟩) hK hP hD hS hA (ci := 8) (q0 := 0) rfl rfl [0, 1, 2] [] [0, 1, 2] rfl rfl rfl rfl (by decide) rfl rfl rfl hl.1 rfl (Nat.le_of_ble_eq_true rfl) dX10_item_116 ⟨Nat.zero_le _, Nat.zero_le _⟩ (fun H locs hP hD hS => ?_)
    obtain ⟨hz, h⟩ := cz_el h
    cases h
    rw [← hQe]
    exact W.zret hx hb hr hz (fun t ht hW => ⟨⟨_, (), rfl, rfl, by rw [ht]; exact hP, va_K.moved hW.alike hK, hD⟩, hS.F ht⟩) hS.2.2 dX10_item_119
  replace h := ifn_el c_39 h
  by_cases c_44 : r_1 = (nI 117)
  · replace h := ifp_el c_44 h
    refine lv_tableIn (off := 158) (tgt := 174) hx hb dX10_item_16 (by rw [c_44]; decide) (by rw [c_44]; decide) (by rw [c_44]; decide) (by decide) ?_
    refine lv_aload_n hx hb dX10_item_174 rfl (lv_at hl 1 rfl) ?_
    obtain ⟨r_45, y_at_46, y_read_47, hg_48, h⟩ := bd3_el h
    refine kx_Vi (As := []) (rest := []) (wr := []) (w1 := [(q_this, .inr (8, [.ref q_text, .int v_size, .int y_at_46, .ref q_read, .ref q_l, .ref q_stands, .ref q_kept, .int v_keptMany, .ref q_one, .ref q_two, .ref q_ways, .ref q_now, .ref q_then])), (q_text, .inl (ca 0, 500, .inl v_text)), (q_read, .inl (ca 0, 336, .inl y_read_47))]) (wn := [(q_this, .inr (8, [.ref q_text, .int v_size, .int y_at_46, .ref q_read, .ref q_l, .ref q_stands, .ref q_kept, .int v_keptMany, .ref q_one, .ref q_two, .ref q_ways, .ref q_now, .ref q_then])), (q_text, .inl (ca 0, 500, .inl v_text)), (q_read, .inl (ca 0, 336, .inl y_read_47))]) ⟨hx, hb, hml, hown, hts⟩ (c_X10_needItem l D ca F H.size q_this q_text q_read q_l q_stands q_kept q_one q_two q_ways q_now q_then v_size w_3 v_keptMany v_text v_read r_45 y_at_46 y_read_47 hg_48) (cwV 0 hts gX10_item_X10_needItem rfl rfl rfl (by decide +kernel) ⟨(Nat.le_of_ble_eq_true rfl), (Nat.le_of_ble_eq_true rfl)⟩) hK hP hD hS hA (ci := 8) (q0 := 0) rfl rfl [0, 1, 2] [] [0, 1, 2] rfl rfl rfl rfl (by decide) rfl rfl rfl hl.1 rfl (Nat.le_of_ble_eq_true rfl) dX10_item_175 ⟨Nat.zero_le _, Nat.zero_le _⟩ (fun H locs hP hD hS => ?_)
    obtain ⟨hz, h⟩ := cz_el h
    cases h
    rw [← hQe]
    exact W.zret hx hb hr hz (fun t ht hW => ⟨⟨_, (), rfl, rfl, by rw [ht]; exact hP, va_K.moved hW.alike hK, hD⟩, hS.F ht⟩) hS.2.2 dX10_item_178
  replace h := ifn_el c_44 h
  by_cases c_49 : r_1 = (nI 119)
  · replace h := ifp_el c_49 h
    refine lv_tableIn (off := 92) (tgt := 108) hx hb dX10_item_16 (by rw [c_49]; decide) (by rw [c_49]; decide) (by rw [c_49]; decide) (by decide) ?_
    refine lv_aload_n hx hb dX10_item_108 rfl (lv_at hl 1 rfl) ?_
    refine lv_iconst (v := (nI 0)) hx hb dX10_item_109 (by decide) ?_
    refine lv_iconst (v := (nI 1)) hx hb dX10_item_110 (by decide) ?_
    obtain ⟨r_50, y_at_51, y_read_52, hg_53, h⟩ := bd3_el h
    refine kx_Vi (As := [.int (nI 0), .int (nI 1)]) (rest := []) (wr := []) (w1 := [(q_this, .inr (8, [.ref q_text, .int v_size, .int y_at_51, .ref q_read, .ref q_l, .ref q_stands, .ref q_kept, .int v_keptMany, .ref q_one, .ref q_two, .ref q_ways, .ref q_now, .ref q_then])), (q_text, .inl (ca 0, 500, .inl v_text)), (q_read, .inl (ca 0, 336, .inl y_read_52))]) (wn := [(q_this, .inr (8, [.ref q_text, .int v_size, .int y_at_51, .ref q_read, .ref q_l, .ref q_stands, .ref q_kept, .int v_keptMany, .ref q_one, .ref q_two, .ref q_ways, .ref q_now, .ref q_then])), (q_text, .inl (ca 0, 500, .inl v_text)), (q_read, .inl (ca 0, 336, .inl y_read_52))]) ⟨hx, hb, hml, hown, hts⟩ (c_X10_wordItem l D ca F H.size q_this q_text q_read q_l q_stands q_kept q_one q_two q_ways q_now q_then (nI 0) (nI 1) v_size w_3 v_keptMany v_text v_read r_50 y_at_51 y_read_52 hg_53) (cwV 2 hts gX10_item_X10_wordItem rfl rfl rfl (by decide +kernel) ⟨(Nat.le_of_ble_eq_true rfl), (Nat.le_of_ble_eq_true rfl)⟩) hK hP hD hS hA (ci := 8) (q0 := 0) rfl rfl [0, 1, 2] [] [0, 1, 2] rfl rfl rfl rfl (by decide) rfl rfl rfl hl.1 rfl (Nat.le_of_ble_eq_true rfl) dX10_item_111 ⟨Nat.zero_le _, Nat.zero_le _⟩ (fun H locs hP hD hS => ?_)
    obtain ⟨hz, h⟩ := cz_el h
    cases h
    rw [← hQe]
    exact W.zret hx hb hr hz (fun t ht hW => ⟨⟨_, (), rfl, rfl, by rw [ht]; exact hP, va_K.moved hW.alike hK, hD⟩, hS.F ht⟩) hS.2.2 dX10_item_114
  replace h := ifn_el c_49 h
  have hdf : W p l e (headSpec wsX10_item rm_X10_item).room s m args below meth c H locs 0 0 Q (F0 m 187 ls []) := by
    refine lv_iconst (v := (nI 0)) hx hb dX10_item_187 (by decide) ?_
    cases h
    rw [← hQe]
    exact W.zret hx hb hr rfl (fun t ht hW => ⟨⟨_, (), rfl, rfl, by rw [ht]; exact hP, va_K.moved hW.alike hK, hD⟩, hS.F ht⟩) hS.2.2 dX10_item_188
  by_cases c_54 : (r_1).toInt < 101 ∨ 119 < (r_1).toInt
  · exact lv_tableOut hx hb dX10_item_16 c_54 (by decide) hdf
  have n_c_4 := lv_neT (a := 101) c_4 (by decide)
  have n_c_9 := lv_neT (a := 103) c_9 (by decide)
  have n_c_14 := lv_neT (a := 106) c_14 (by decide)
  have n_c_19 := lv_neT (a := 107) c_19 (by decide)
  have n_c_24 := lv_neT (a := 110) c_24 (by decide)
  have n_c_29 := lv_neT (a := 111) c_29 (by decide)
  have n_c_34 := lv_neT (a := 114) c_34 (by decide)
  have n_c_39 := lv_neT (a := 115) c_39 (by decide)
  have n_c_44 := lv_neT (a := 117) c_44 (by decide)
  have n_c_49 := lv_neT (a := 119) c_49 (by decide)
  have n_h : (r_1).toInt = 102 ∨ (r_1).toInt = 104 ∨ (r_1).toInt = 105 ∨ (r_1).toInt = 108 ∨ (r_1).toInt = 109 ∨ (r_1).toInt = 112 ∨ (r_1).toInt = 113 ∨ (r_1).toInt = 116 ∨ (r_1).toInt = 118 := by omega
  refine lv_tableIn (off := 171) (tgt := 187) hx hb dX10_item_16 (by omega) (by omega) ?_ (by decide) hdf
  rcases n_h with n_h | n_h | n_h | n_h | n_h | n_h | n_h | n_h | n_h <;> rw [n_h] <;> decide
def b_X10_fault_9 (v_size : Int32) (v_text : Nat → Int32) (F : Nat) (rec9 : Int32 → (Nat → Int32) → Option (Int32 × Int32 × (Nat → Int32))) (y_at_3 : Int32) (y_read_4 : Nat → Int32) : Option (Int32 × Int32 × (Nat → Int32)) := (if v_size ≤ y_at_3 then some ((-4 : Int32), y_at_3, y_read_4) else bd3 (D_X10_item F v_size y_at_3 v_text y_read_4) (fun r_6 y_at_7 y_read_8 => (if r_6 = 0 then some (y_at_3, y_at_7, y_read_8) else bd2 (D_X10_takes (nI 59) v_size y_at_7 v_text) (fun r_11 y_at_12 => (if r_11 = 0 then some (y_at_3, y_at_12, y_read_8) else rec9 y_at_12 y_read_8)))))
def D_X10_fault (F : Nat) (v_size : Int32) (v_at : Int32) (v_text : Nat → Int32) (v_read : Nat → Int32) : Option (Int32 × Int32 × (Nat → Int32)) := bd1 (D_X10_begin F v_read) (fun y_read_1 => lpg (T := Int32 → (Nat → Int32) → Option (Int32 × Int32 × (Nat → Int32))) (fun _ _ => none) (b_X10_fault_9 v_size v_text F) F (nI 0) y_read_1)
abbrev rm_X10_fault : Room := { frames := 5, cells := 0, slots := 0, locals := 114 }
set_option maxHeartbeats 4000000 in
set_option maxRecDepth 100000 in
theorem c_X10_fault (l : Launch) (D : va_G) (ca : Nat → ClassId) (F : Nat) (sz : Nat) (q_this q_text q_read q_l q_stands q_kept q_one q_two q_ways q_now q_then : Nat) (v_size : Int32) (v_at : Int32) (v_keptMany : Int32) (v_text : Nat → Int32) (v_read : Nat → Int32) (r : Int32) (o_at : Int32) (o_read : Nat → Int32) (h : D_X10_fault F v_size v_at v_text v_read = some (r, o_at, o_read)) : Met l yX10_fault wsX10_fault rm_X10_fault (va_Pc [.ref q_this] (kPre D ca [(q_this, .inr (8, [.ref q_text, .int v_size, .int v_at, .ref q_read, .ref q_l, .ref q_stands, .ref q_kept, .int v_keptMany, .ref q_one, .ref q_two, .ref q_ways, .ref q_now, .ref q_then])), (q_text, .inl (ca 0, 500, .inl v_text)), (q_read, .inl (ca 0, 336, .inl v_read))] sz)) (kQi D ca (va_A [(q_this, .inr (8, [.ref q_text, .int v_size, .int v_at, .ref q_read, .ref q_l, .ref q_stands, .ref q_kept, .int v_keptMany, .ref q_one, .ref q_two, .ref q_ways, .ref q_now, .ref q_then])), (q_text, .inl (ca 0, 500, .inl v_text)), (q_read, .inl (ca 0, 336, .inl v_read))] sz) [(q_this, .inr (8, [.ref q_text, .int v_size, .int o_at, .ref q_read, .ref q_l, .ref q_stands, .ref q_kept, .int v_keptMany, .ref q_one, .ref q_two, .ref q_ways, .ref q_now, .ref q_then])), (q_text, .inl (ca 0, 500, .inl v_text)), (q_read, .inl (ca 0, 336, .inl o_read))] r) 0 0 (va_A [(q_this, .inr (8, [.ref q_text, .int v_size, .int v_at, .ref q_read, .ref q_l, .ref q_stands, .ref q_kept, .int v_keptMany, .ref q_one, .ref q_two, .ref q_ways, .ref q_now, .ref q_then])), (q_text, .inl (ca 0, 500, .inl v_text)), (q_read, .inl (ca 0, 336, .inl v_read))] sz) := by
  refine Met.ofW (cc := cX10_fault) (maxL := 2) (ret := (some .int)) (by decide +kernel) rfl ?_
  intro p e s m args below meth c s₁ B hml hv
  obtain ⟨rfl, hsz, hP, hK, hD0⟩ := hv
  have hx := B.exec
  have hb := B.bytes
  have hr := B.returns
  have hts := atoms_spec (ws := wsX10_fault) B.pre
  have hown : s.vm.findClass RX10 = some m.cls := findClass_of_methodNamed B.named
  have hlocks := B.notSynchronized
  clear B
  subst hsz
  have hD := hD0.self (sz := s.heap.size)
  generalize hAe : va_A [(q_this, .inr (8, [.ref q_text, .int v_size, .int v_at, .ref q_read, .ref q_l, .ref q_stands, .ref q_kept, .int v_keptMany, .ref q_one, .ref q_two, .ref q_ways, .ref q_now, .ref q_then])), (q_text, .inl (ca 0, 500, .inl v_text)), (q_read, .inl (ca 0, 336, .inl v_read))] s.heap.size = A at hD ⊢
  have hA : ∀ q : Nat, s.heap.size ≤ q → A q := fun q h => by rw [← hAe]; exact Or.inr h
  have hS : va_S A s.heap s.heap [] := va_S.rf
  have hl := lv_entry ([.ref q_this]) (n := 2) (Nat.le_of_ble_eq_true rfl)
  rw [lg_entry_eq]
  generalize (lg_sl ([.ref q_this]) ++ List.replicate (2 - (lg_sl ([.ref q_this])).length) Slot.unset).toArray = ls at hl ⊢
  have hl : lv_has ls 2 [(0, .ref q_this)] := hl
  generalize ([.ref q_this] : List Value).toArray = args at hts ⊢
  generalize hQe : MQ below (kQi D ca (A) [(q_this, .inr (8, [.ref q_text, .int v_size, .int o_at, .ref q_read, .ref q_l, .ref q_stands, .ref q_kept, .int v_keptMany, .ref q_one, .ref q_two, .ref q_ways, .ref q_now, .ref q_then])), (q_text, .inl (ca 0, 500, .inl v_text)), (q_read, .inl (ca 0, 336, .inl o_read))] r) args s 0 0 A = Q
  have i_X10 : ∀ w ∈ u_ws RX10 TX10 13, w ∈ wsX10_fault := by decide +kernel
  have k_60 := hts (.fieldLink RX10 60 "TradeWordsModel" "at" "I") (by decide +kernel)
  have k_53 := hts (.fieldLink RX10 53 "TradeWordsModel" "size" "I") (by decide +kernel)
  rw [D_X10_fault] at h
  refine lv_aload_n hx hb dX10_fault_0 rfl (lv_at hl 0 rfl) ?_
  obtain ⟨y_read_1, hg_2, h⟩ := bd1_el h
  refine kx_Vv (As := []) (rest := []) (wr := [(q_text, .inl (ca 0, 500, .inl v_text))]) (w1 := [(q_this, .inr (8, [.ref q_text, .int v_size, .int v_at, .ref q_read, .ref q_l, .ref q_stands, .ref q_kept, .int v_keptMany, .ref q_one, .ref q_two, .ref q_ways, .ref q_now, .ref q_then])), (q_read, .inl (ca 0, 336, .inl y_read_1))]) (wn := [(q_this, .inr (8, [.ref q_text, .int v_size, .int v_at, .ref q_read, .ref q_l, .ref q_stands, .ref q_kept, .int v_keptMany, .ref q_one, .ref q_two, .ref q_ways, .ref q_now, .ref q_then])), (q_text, .inl (ca 0, 500, .inl v_text)), (q_read, .inl (ca 0, 336, .inl y_read_1))]) ⟨hx, hb, hml, hown, hts⟩ (c_X10_begin l D ca F s.heap.size q_this q_text q_read q_l q_stands q_kept q_one q_two q_ways q_now q_then v_size v_at v_keptMany v_read y_read_1 hg_2) (cwV 0 hts gX10_fault_X10_begin rfl rfl rfl (by decide +kernel) ⟨(Nat.le_of_ble_eq_true rfl), (Nat.le_of_ble_eq_true rfl)⟩) hK hP hD hS hA (ci := 8) (q0 := 0) rfl rfl [0, 2] [1] [1, 0, 2] rfl rfl rfl rfl (by decide) rfl rfl rfl hl.1 rfl (Nat.le_of_ble_eq_true rfl) dX10_fault_1 ⟨Nat.zero_le _, Nat.zero_le _⟩ (fun H locs hP hD hS => ?_)
  refine lv_aload_n hx hb dX10_fault_4 rfl (lv_at hl 0 rfl) ?_
  refine lv_iconst (v := (nI 0)) hx hb dX10_fault_5 (by decide) ?_
  refine va_put (D := D) (ci := 8) (v := .int (nI 0)) (ty := .int) (C := RX10) (T := TX10) (N := 13) hx hb hts i_X10 tyX10 tyX10_ok nmX10 hown hK hP hD hS 0 rfl rfl 2 (by decide) k_60 (fun _ h9 => h9) rfl (by decide +kernel) rfl rfl (Nat.le_of_ble_eq_true rfl) dX10_fault_6 (fun H locs hP hD hS => ?_)
  have hP : va_P D vwCl [(q_this, .inr (8, [.ref q_text, .int v_size, .int (nI 0), .ref q_read, .ref q_l, .ref q_stands, .ref q_kept, .int v_keptMany, .ref q_one, .ref q_two, .ref q_ways, .ref q_now, .ref q_then])), (q_text, .inl (ca 0, 500, .inl v_text)), (q_read, .inl (ca 0, 336, .inl y_read_1))] H := hP
  have hD : va_D A [(q_this, .inr (8, [.ref q_text, .int v_size, .int (nI 0), .ref q_read, .ref q_l, .ref q_stands, .ref q_kept, .int v_keptMany, .ref q_one, .ref q_two, .ref q_ways, .ref q_now, .ref q_then])), (q_text, .inl (ca 0, 500, .inl v_text)), (q_read, .inl (ca 0, 336, .inl y_read_1))] := hD
  have hlp : ∀ (n : Nat) (y_at_3 : Int32) (y_read_4 : Nat → Int32) (H : Heap) (locs : List Loc) (ls : Array Slot), lpg (T := Int32 → (Nat → Int32) → Option (Int32 × Int32 × (Nat → Int32))) (fun _ _ => none) (b_X10_fault_9 v_size v_text F) n y_at_3 y_read_4 = some (r, o_at, o_read) → va_P D vwCl [(q_this, .inr (8, [.ref q_text, .int v_size, .int y_at_3, .ref q_read, .ref q_l, .ref q_stands, .ref q_kept, .int v_keptMany, .ref q_one, .ref q_two, .ref q_ways, .ref q_now, .ref q_then])), (q_text, .inl (ca 0, 500, .inl v_text)), (q_read, .inl (ca 0, 336, .inl y_read_4))] H → va_D A [(q_this, .inr (8, [.ref q_text, .int v_size, .int y_at_3, .ref q_read, .ref q_l, .ref q_stands, .ref q_kept, .int v_keptMany, .ref q_one, .ref q_two, .ref q_ways, .ref q_now, .ref q_then])), (q_text, .inl (ca 0, 500, .inl v_text)), (q_read, .inl (ca 0, 336, .inl y_read_4))] → va_S A s.heap H locs → lv_has ls 2 [(0, .ref q_this)] → W p l e (headSpec wsX10_fault rm_X10_fault).room s m args below meth c H locs 0 0 Q (F0 m 9 ls []) := by
    intro n
    induction n with
    | zero => intro y_at_3 y_read_4 H locs ls h; have h : (none : Option (Int32 × Int32 × (Nat → Int32))) = some _ := h; cases h
    | succ n ih =>
      intro y_at_3 y_read_4 H locs ls h hP hD hS hl
      rw [lpg_succ, b_X10_fault_9] at h
      refine lv_aload_n hx hb dX10_fault_9 rfl (lv_at hl 0 rfl) ?_
      refine va_get (D := D) (ci := 8) (v := .int y_at_3) (C := RX10) (T := TX10) (N := 13) hx hb hts i_X10 hown hK hP 0 rfl rfl 2 (by decide) k_60 (fun _ h9 => h9) rfl dX10_fault_10 ?_
      refine lv_aload_n hx hb dX10_fault_13 rfl (lv_at hl 0 rfl) ?_
      refine va_get (D := D) (ci := 8) (v := .int v_size) (C := RX10) (T := TX10) (N := 13) hx hb hts i_X10 hown hK hP 0 rfl rfl 1 (by decide) k_53 (fun _ h9 => h9) rfl dX10_fault_14 ?_
      refine lv_icmp_ge (tgt := 46) hx hb dX10_fault_17 (by decide) (fun c_5 => ?_) (fun c_5 => ?_)
      · replace h := ifp_el c_5 h
        refine lv_bipush (v := (-4 : Int32)) hx hb dX10_fault_46 (by decide) ?_
        cases h
        rw [← hQe]
        exact W.iret hx hb hr (fun t ht hW => ⟨⟨_, (), rfl, rfl, by rw [ht]; exact hP, va_K.moved hW.alike hK, hD⟩, hS.F ht⟩) hS.2.2 dX10_fault_48
      · replace h := ifn_el c_5 h
        refine lv_aload_n hx hb dX10_fault_20 rfl (lv_at hl 0 rfl) ?_
        refine va_get (D := D) (ci := 8) (v := .int y_at_3) (C := RX10) (T := TX10) (N := 13) hx hb hts i_X10 hown hK hP 0 rfl rfl 2 (by decide) k_60 (fun _ h9 => h9) rfl dX10_fault_21 ?_
        refine lv_istore_n (lv' := [(1, .int y_at_3), (0, .ref q_this)]) hx hb dX10_fault_24 rfl hl (by decide) rfl (fun ls hl => ?_)
        refine lv_aload_n hx hb dX10_fault_25 rfl (lv_at hl 1 rfl) ?_
        obtain ⟨r_6, y_at_7, y_read_8, hg_9, h⟩ := bd3_el h
        refine kx_Vi (As := []) (rest := []) (wr := []) (w1 := [(q_this, .inr (8, [.ref q_text, .int v_size, .int y_at_7, .ref q_read, .ref q_l, .ref q_stands, .ref q_kept, .int v_keptMany, .ref q_one, .ref q_two, .ref q_ways, .ref q_now, .ref q_then])), (q_text, .inl (ca 0, 500, .inl v_text)), (q_read, .inl (ca 0, 336, .inl y_read_8))]) (wn := [(q_this, .inr (8, [.ref q_text, .int v_size, .int y_at_7, .ref q_read, .ref q_l, .ref q_stands, .ref q_kept, .int v_keptMany, .ref q_one, .ref q_two, .ref q_ways, .ref q_now, .ref q_then])), (q_text, .inl (ca 0, 500, .inl v_text)), (q_read, .inl (ca 0, 336, .inl y_read_8))]) ⟨hx, hb, hml, hown, hts⟩ (c_X10_item l D ca F H.size q_this q_text q_read q_l q_stands q_kept q_one q_two q_ways q_now q_then v_size y_at_3 v_keptMany v_text y_read_4 r_6 y_at_7 y_read_8 hg_9) (cwV 0 hts gX10_fault_X10_item rfl rfl rfl (by decide +kernel) ⟨(Nat.le_of_ble_eq_true rfl), (Nat.le_of_ble_eq_true rfl)⟩) hK hP hD hS hA (ci := 8) (q0 := 0) rfl rfl [0, 1, 2] [] [0, 1, 2] rfl rfl rfl rfl (by decide) rfl rfl rfl hl.1 rfl (Nat.le_of_ble_eq_true rfl) dX10_fault_26 ⟨Nat.zero_le _, Nat.zero_le _⟩ (fun H locs hP hD hS => ?_)
        refine lv_if_eq (tgt := 41) hx hb dX10_fault_29 (by decide) (fun c_10 => ?_) (fun c_10 => ?_)
        · replace h := ifp_el c_10 h
          refine lv_iload_n hx hb dX10_fault_41 rfl (lv_at hl 0 rfl) ?_
          cases h
          rw [← hQe]
          exact W.iret hx hb hr (fun t ht hW => ⟨⟨_, (), rfl, rfl, by rw [ht]; exact hP, va_K.moved hW.alike hK, hD⟩, hS.F ht⟩) hS.2.2 dX10_fault_42
        · replace h := ifn_el c_10 h
          refine lv_aload_n hx hb dX10_fault_32 rfl (lv_at hl 1 rfl) ?_
          refine lv_bipush (v := (nI 59)) hx hb dX10_fault_33 (by decide) ?_
          obtain ⟨r_11, y_at_12, hg_13, h⟩ := bd2_el h
          refine kx_Vi (As := [.int (nI 59)]) (rest := []) (wr := [(q_read, .inl (ca 0, 336, .inl y_read_8))]) (w1 := [(q_this, .inr (8, [.ref q_text, .int v_size, .int y_at_12, .ref q_read, .ref q_l, .ref q_stands, .ref q_kept, .int v_keptMany, .ref q_one, .ref q_two, .ref q_ways, .ref q_now, .ref q_then])), (q_text, .inl (ca 0, 500, .inl v_text))]) (wn := [(q_this, .inr (8, [.ref q_text, .int v_size, .int y_at_12, .ref q_read, .ref q_l, .ref q_stands, .ref q_kept, .int v_keptMany, .ref q_one, .ref q_two, .ref q_ways, .ref q_now, .ref q_then])), (q_text, .inl (ca 0, 500, .inl v_text)), (q_read, .inl (ca 0, 336, .inl y_read_8))]) ⟨hx, hb, hml, hown, hts⟩ (c_X10_takes l D ca H.size q_this q_text q_read q_l q_stands q_kept q_one q_two q_ways q_now q_then (nI 59) v_size y_at_7 v_keptMany v_text r_11 y_at_12 hg_13) (cwV 1 hts gX10_fault_X10_takes rfl rfl rfl (by decide +kernel) ⟨(Nat.le_of_ble_eq_true rfl), (Nat.le_of_ble_eq_true rfl)⟩) hK hP hD hS hA (ci := 8) (q0 := 0) rfl rfl [0, 1] [2] [1, 2, 0] rfl rfl rfl rfl (by decide) rfl rfl rfl hl.1 rfl (Nat.le_of_ble_eq_true rfl) dX10_fault_35 ⟨Nat.zero_le _, Nat.zero_le _⟩ (fun H locs hP hD hS => ?_)
          refine lv_if_ne (tgt := 43) hx hb dX10_fault_38 (by decide) (fun c_14 => ?_) (fun c_14 => ?_)
          · replace h := ifn_el c_14 h
            refine lv_goto (tgt := 9) hx hb dX10_fault_43 (by decide) ?_
            exact ih _ _ _ _ _ h hP hD hS (lv_sub hl [1] rfl)
          · replace h := ifp_el c_14 h
            refine lv_iload_n hx hb dX10_fault_41 rfl (lv_at hl 0 rfl) ?_
            cases h
            rw [← hQe]
            exact W.iret hx hb hr (fun t ht hW => ⟨⟨_, (), rfl, rfl, by rw [ht]; exact hP, va_K.moved hW.alike hK, hD⟩, hS.F ht⟩) hS.2.2 dX10_fault_42
  exact hlp F (nI 0) y_read_1 H locs ls h hP hD hS (lv_sub hl [0] rfl)
