def b_X9_word_7 (p1 : Int32) (v_size : Int32) (v_text : Nat → Int32) (rec7 : Int32 → Int32 → Int32 → (Nat → Int32) → Option (Int32 × Int32 × (Nat → Int32))) (x2_4 : Int32) (x3_5 : Int32) (y_at_6 : Int32) (y_read_7 : Nat → Int32) : Option (Int32 × Int32 × (Nat → Int32)) := (if x3_5 < 0 then ck 336 p1 ((if x2_4 ≤ 0 then some ((nI 0), y_at_6, (upd y_read_7 p1.toNatClampNeg x2_4)) else some ((nI 1), y_at_6, (upd y_read_7 p1.toNatClampNeg x2_4)))) else (if x2_4 = (nI 6) then some ((nI 0), y_at_6, y_read_7) else ck 336 ((p1 + (nI 1)) + x2_4) (nm (x2_4 + (nI 1)) (fun x2_13 => bd2 (D_X9_sound v_size y_at_6 v_text) (fun r_15 y_at_16 => rec7 x2_13 r_15 y_at_16 (upd y_read_7 ((p1 + (nI 1)) + x2_4).toNatClampNeg x3_5))))))
def D_X9_word (F : Nat) (p1 : Int32) (v_size : Int32) (v_at : Int32) (v_text : Nat → Int32) (v_read : Nat → Int32) : Option (Int32 × Int32 × (Nat → Int32)) := bd2 (D_X9_sound v_size v_at v_text) (fun r_1 y_at_2 => lpg (T := Int32 → Int32 → Int32 → (Nat → Int32) → Option (Int32 × Int32 × (Nat → Int32))) (fun _ _ _ _ => none) (b_X9_word_7 p1 v_size v_text) F (nI 0) r_1 y_at_2 v_read)
abbrev rm_X9_word : Room := { frames := 2, cells := 0, slots := 0, locals := 46 }
set_option maxHeartbeats 4000000 in
set_option maxRecDepth 100000 in
theorem c_X9_word (l : Launch) (D : va_G) (ca : Nat → ClassId) (F : Nat) (sz : Nat) (q_this q_text q_read q_l q_stands q_kept q_one q_two q_ways q_now q_then : Nat) (p1 : Int32) (v_size : Int32) (v_at : Int32) (v_keptMany : Int32) (v_text : Nat → Int32) (v_read : Nat → Int32) (r : Int32) (o_at : Int32) (o_read : Nat → Int32) (h : D_X9_word F p1 v_size v_at v_text v_read = some (r, o_at, o_read)) : Met l yX9_word wsX9_word rm_X9_word (va_Pc [.ref q_this, .int p1] (kPre D ca [(q_this, .inr (8, [.ref q_text, .int v_size, .int v_at, .ref q_read, .ref q_l, .ref q_stands, .ref q_kept, .int v_keptMany, .ref q_one, .ref q_two, .ref q_ways, .ref q_now, .ref q_then])), (q_text, .inl (ca 0, 500, .inl v_text)), (q_read, .inl (ca 0, 336, .inl v_read))] sz)) (kQi D ca (va_A [(q_this, .inr (8, [.ref q_text, .int v_size, .int v_at, .ref q_read, .ref q_l, .ref q_stands, .ref q_kept, .int v_keptMany, .ref q_one, .ref q_two, .ref q_ways, .ref q_now, .ref q_then])), (q_text, .inl (ca 0, 500, .inl v_text)), (q_read, .inl (ca 0, 336, .inl v_read))] sz) [(q_this, .inr (8, [.ref q_text, .int v_size, .int o_at, .ref q_read, .ref q_l, .ref q_stands, .ref q_kept, .int v_keptMany, .ref q_one, .ref q_two, .ref q_ways, .ref q_now, .ref q_then])), (q_text, .inl (ca 0, 500, .inl v_text)), (q_read, .inl (ca 0, 336, .inl o_read))] r) 0 0 (va_A [(q_this, .inr (8, [.ref q_text, .int v_size, .int v_at, .ref q_read, .ref q_l, .ref q_stands, .ref q_kept, .int v_keptMany, .ref q_one, .ref q_two, .ref q_ways, .ref q_now, .ref q_then])), (q_text, .inl (ca 0, 500, .inl v_text)), (q_read, .inl (ca 0, 336, .inl v_read))] sz) := by
  refine Met.ofW (cc := cX9_word) (maxL := 4) (ret := (some .boolean)) (by decide +kernel) rfl ?_
  intro p e s m args below meth c s₁ B hml hv
  obtain ⟨rfl, hsz, hP, hK, hD0⟩ := hv
  have hx := B.exec
  have hb := B.bytes
  have hr := B.returns
  have hts := atoms_spec (ws := wsX9_word) B.pre
  have hown : s.vm.findClass RX9 = some m.cls := findClass_of_methodNamed B.named
  have hlocks := B.notSynchronized
  clear B
  subst hsz
  have hD := hD0.self (sz := s.heap.size)
  generalize hAe : va_A [(q_this, .inr (8, [.ref q_text, .int v_size, .int v_at, .ref q_read, .ref q_l, .ref q_stands, .ref q_kept, .int v_keptMany, .ref q_one, .ref q_two, .ref q_ways, .ref q_now, .ref q_then])), (q_text, .inl (ca 0, 500, .inl v_text)), (q_read, .inl (ca 0, 336, .inl v_read))] s.heap.size = A at hD ⊢
  have hA : ∀ q : Nat, s.heap.size ≤ q → A q := fun q h => by rw [← hAe]; exact Or.inr h
  have hS : va_S A s.heap s.heap [] := va_S.rf
  have hl := lv_entry ([.ref q_this, .int p1]) (n := 4) (Nat.le_of_ble_eq_true rfl)
  rw [lg_entry_eq]
  generalize (lg_sl ([.ref q_this, .int p1]) ++ List.replicate (4 - (lg_sl ([.ref q_this, .int p1])).length) Slot.unset).toArray = ls at hl ⊢
  have hl : lv_has ls 4 [(0, .ref q_this), (1, .int p1)] := hl
  generalize ([.ref q_this, .int p1] : List Value).toArray = args at hts ⊢
  generalize hQe : MQ below (kQi D ca (A) [(q_this, .inr (8, [.ref q_text, .int v_size, .int o_at, .ref q_read, .ref q_l, .ref q_stands, .ref q_kept, .int v_keptMany, .ref q_one, .ref q_two, .ref q_ways, .ref q_now, .ref q_then])), (q_text, .inl (ca 0, 500, .inl v_text)), (q_read, .inl (ca 0, 336, .inl o_read))] r) args s 0 0 A = Q
  have i_X9 : ∀ w ∈ u_ws RX9 TX9 13, w ∈ wsX9_word := by decide +kernel
  have k_13 := hts (.fieldLink RX9 13 "TradeWordsModel" "read" "[I") (by decide +kernel)
  rw [D_X9_word] at h
  refine lv_iconst (v := (nI 0)) hx hb dX9_word_0 (by decide) ?_
  refine lv_istore_n (lv' := [(2, .int (nI 0)), (0, .ref q_this), (1, .int p1)]) hx hb dX9_word_1 rfl hl (by decide) rfl (fun ls hl => ?_)
  refine lv_aload_n hx hb dX9_word_2 rfl (lv_at hl 1 rfl) ?_
  obtain ⟨r_1, y_at_2, hg_3, h⟩ := bd2_el h
  refine kx_Vi (As := []) (rest := []) (wr := [(q_read, .inl (ca 0, 336, .inl v_read))]) (w1 := [(q_this, .inr (8, [.ref q_text, .int v_size, .int y_at_2, .ref q_read, .ref q_l, .ref q_stands, .ref q_kept, .int v_keptMany, .ref q_one, .ref q_two, .ref q_ways, .ref q_now, .ref q_then])), (q_text, .inl (ca 0, 500, .inl v_text))]) (wn := [(q_this, .inr (8, [.ref q_text, .int v_size, .int y_at_2, .ref q_read, .ref q_l, .ref q_stands, .ref q_kept, .int v_keptMany, .ref q_one, .ref q_two, .ref q_ways, .ref q_now, .ref q_then])), (q_text, .inl (ca 0, 500, .inl v_text)), (q_read, .inl (ca 0, 336, .inl v_read))]) ⟨hx, hb, hml, hown, hts⟩ (c_X9_sound l D ca s.heap.size q_this q_text q_read q_l q_stands q_kept q_one q_two q_ways q_now q_then v_size v_at v_keptMany v_text r_1 y_at_2 hg_3) (cwV 0 hts gX9_word_X9_sound rfl rfl rfl (by decide +kernel) ⟨(Nat.le_of_ble_eq_true rfl), (Nat.le_of_ble_eq_true rfl)⟩) hK hP hD hS hA (ci := 8) (q0 := 0) rfl rfl [0, 1] [2] [1, 2, 0] rfl rfl rfl rfl (by decide) rfl rfl rfl hl.1 rfl (Nat.le_of_ble_eq_true rfl) dX9_word_3 ⟨Nat.zero_le _, Nat.zero_le _⟩ (fun H locs hP hD hS => ?_)
  refine lv_istore_n (lv' := [(3, .int r_1), (2, .int (nI 0)), (0, .ref q_this), (1, .int p1)]) hx hb dX9_word_6 rfl hl (by decide) rfl (fun ls hl => ?_)
  have hlp : ∀ (n : Nat) (x2_4 : Int32) (x3_5 : Int32) (y_at_6 : Int32) (y_read_7 : Nat → Int32) (H : Heap) (locs : List Loc) (ls : Array Slot), lpg (T := Int32 → Int32 → Int32 → (Nat → Int32) → Option (Int32 × Int32 × (Nat → Int32))) (fun _ _ _ _ => none) (b_X9_word_7 p1 v_size v_text) n x2_4 x3_5 y_at_6 y_read_7 = some (r, o_at, o_read) → va_P D vwCl [(q_this, .inr (8, [.ref q_text, .int v_size, .int y_at_6, .ref q_read, .ref q_l, .ref q_stands, .ref q_kept, .int v_keptMany, .ref q_one, .ref q_two, .ref q_ways, .ref q_now, .ref q_then])), (q_text, .inl (ca 0, 500, .inl v_text)), (q_read, .inl (ca 0, 336, .inl y_read_7))] H → va_D A [(q_this, .inr (8, [.ref q_text, .int v_size, .int y_at_6, .ref q_read, .ref q_l, .ref q_stands, .ref q_kept, .int v_keptMany, .ref q_one, .ref q_two, .ref q_ways, .ref q_now, .ref q_then])), (q_text, .inl (ca 0, 500, .inl v_text)), (q_read, .inl (ca 0, 336, .inl y_read_7))] → va_S A s.heap H locs → lv_has ls 4 [(0, .ref q_this), (1, .int p1), (2, .int x2_4), (3, .int x3_5)] → W p l e (headSpec wsX9_word rm_X9_word).room s m args below meth c H locs 0 0 Q (F0 m 7 ls []) := by
    intro n
    induction n with
    | zero => intro x2_4 x3_5 y_at_6 y_read_7 H locs ls h; have h : (none : Option (Int32 × Int32 × (Nat → Int32))) = some _ := h; cases h
    | succ n ih =>
      intro x2_4 x3_5 y_at_6 y_read_7 H locs ls h hP hD hS hl
      rw [lpg_succ, b_X9_word_7] at h
      refine lv_iload_n hx hb dX9_word_7 rfl (lv_at hl 3 rfl) ?_
      refine lv_if_lt (tgt := 41) hx hb dX9_word_8 (by decide) (fun c_8 => ?_) (fun c_8 => ?_)
      · replace h := ifp_el c_8 h
        refine lv_aload_n hx hb dX9_word_41 rfl (lv_at hl 0 rfl) ?_
        refine va_get (D := D) (ci := 8) (v := .ref q_read) (C := RX9) (T := TX9) (N := 13) hx hb hts i_X9 hown hK hP 0 rfl rfl 3 (by decide) k_13 (fun _ h9 => h9) rfl dX9_word_42 ?_
        refine lv_iload_n hx hb dX9_word_45 rfl (lv_at hl 1 rfl) ?_
        refine lv_iload_n hx hb dX9_word_46 rfl (lv_at hl 2 rfl) ?_
        obtain ⟨hi_9, h⟩ := ck_el h
        refine va_iast hx hb hK hP hD hS 2 0 rfl rfl hi_9 dX9_word_47 (fun H locs hP hD hS => ?_)
        have hP : va_P D vwCl [(q_this, .inr (8, [.ref q_text, .int v_size, .int y_at_6, .ref q_read, .ref q_l, .ref q_stands, .ref q_kept, .int v_keptMany, .ref q_one, .ref q_two, .ref q_ways, .ref q_now, .ref q_then])), (q_text, .inl (ca 0, 500, .inl v_text)), (q_read, .inl (ca 0, 336, .inl (upd y_read_7 p1.toNatClampNeg x2_4)))] H := hP
        have hD : va_D A [(q_this, .inr (8, [.ref q_text, .int v_size, .int y_at_6, .ref q_read, .ref q_l, .ref q_stands, .ref q_kept, .int v_keptMany, .ref q_one, .ref q_two, .ref q_ways, .ref q_now, .ref q_then])), (q_text, .inl (ca 0, 500, .inl v_text)), (q_read, .inl (ca 0, 336, .inl (upd y_read_7 p1.toNatClampNeg x2_4)))] := hD
        refine lv_iload_n hx hb dX9_word_48 rfl (lv_at hl 2 rfl) ?_
        refine lv_if_le (tgt := 56) hx hb dX9_word_49 (by decide) (fun c_10 => ?_) (fun c_10 => ?_)
        · replace h := ifp_el c_10 h
          refine lv_iconst (v := (nI 0)) hx hb dX9_word_56 (by decide) ?_
          cases h
          rw [← hQe]
          exact W.zret hx hb hr rfl (fun t ht hW => ⟨⟨_, (), rfl, rfl, by rw [ht]; exact hP, va_K.moved hW.alike hK, hD⟩, hS.F ht⟩) hS.2.2 dX9_word_57
        · replace h := ifn_el c_10 h
          refine lv_iconst (v := (nI 1)) hx hb dX9_word_52 (by decide) ?_
          refine lv_goto (tgt := 57) hx hb dX9_word_53 (by decide) ?_
          cases h
          rw [← hQe]
          exact W.zret hx hb hr rfl (fun t ht hW => ⟨⟨_, (), rfl, rfl, by rw [ht]; exact hP, va_K.moved hW.alike hK, hD⟩, hS.F ht⟩) hS.2.2 dX9_word_57
      · replace h := ifn_el c_8 h
        refine lv_iload_n hx hb dX9_word_11 rfl (lv_at hl 2 rfl) ?_
        refine lv_bipush (v := (nI 6)) hx hb dX9_word_12 (by decide) ?_
        refine lv_icmp_ne (tgt := 19) hx hb dX9_word_14 (by decide) (fun c_11 => ?_) (fun c_11 => ?_)
        · replace h := ifn_el c_11 h
          refine lv_aload_n hx hb dX9_word_19 rfl (lv_at hl 0 rfl) ?_
          refine va_get (D := D) (ci := 8) (v := .ref q_read) (C := RX9) (T := TX9) (N := 13) hx hb hts i_X9 hown hK hP 0 rfl rfl 3 (by decide) k_13 (fun _ h9 => h9) rfl dX9_word_20 ?_
          refine lv_iload_n hx hb dX9_word_23 rfl (lv_at hl 1 rfl) ?_
          refine lv_iconst (v := (nI 1)) hx hb dX9_word_24 (by decide) ?_
          refine lv_iadd hx hb dX9_word_25 ?_
          refine lv_iload_n hx hb dX9_word_26 rfl (lv_at hl 2 rfl) ?_
          refine lv_iadd hx hb dX9_word_27 ?_
          refine lv_iload_n hx hb dX9_word_28 rfl (lv_at hl 3 rfl) ?_
          obtain ⟨hi_12, h⟩ := ck_el h
          refine va_iast hx hb hK hP hD hS 2 0 rfl rfl hi_12 dX9_word_29 (fun H locs hP hD hS => ?_)
          have hP : va_P D vwCl [(q_this, .inr (8, [.ref q_text, .int v_size, .int y_at_6, .ref q_read, .ref q_l, .ref q_stands, .ref q_kept, .int v_keptMany, .ref q_one, .ref q_two, .ref q_ways, .ref q_now, .ref q_then])), (q_text, .inl (ca 0, 500, .inl v_text)), (q_read, .inl (ca 0, 336, .inl (upd y_read_7 ((p1 + (nI 1)) + x2_4).toNatClampNeg x3_5)))] H := hP
          have hD : va_D A [(q_this, .inr (8, [.ref q_text, .int v_size, .int y_at_6, .ref q_read, .ref q_l, .ref q_stands, .ref q_kept, .int v_keptMany, .ref q_one, .ref q_two, .ref q_ways, .ref q_now, .ref q_then])), (q_text, .inl (ca 0, 500, .inl v_text)), (q_read, .inl (ca 0, 336, .inl (upd y_read_7 ((p1 + (nI 1)) + x2_4).toNatClampNeg x3_5)))] := hD
          obtain ⟨x2_13, e_14, h⟩ := nm_el h
          refine lv_iinc (v := x2_13) (lv' := [(2, .int x2_13), (0, .ref q_this), (1, .int p1), (3, .int x3_5)]) hx hb dX9_word_30 hl (k := 2) rfl (by rw [← e_14]; rfl) (by decide) rfl (fun ls hl => ?_)
          refine lv_aload_n hx hb dX9_word_33 rfl (lv_at hl 1 rfl) ?_
          obtain ⟨r_15, y_at_16, hg_17, h⟩ := bd2_el h
          refine kx_Vi (As := []) (rest := []) (wr := [(q_read, .inl (ca 0, 336, .inl (upd y_read_7 ((p1 + (nI 1)) + x2_4).toNatClampNeg x3_5)))]) (w1 := [(q_this, .inr (8, [.ref q_text, .int v_size, .int y_at_16, .ref q_read, .ref q_l, .ref q_stands, .ref q_kept, .int v_keptMany, .ref q_one, .ref q_two, .ref q_ways, .ref q_now, .ref q_then])), (q_text, .inl (ca 0, 500, .inl v_text))]) (wn := [(q_this, .inr (8, [.ref q_text, .int v_size, .int y_at_16, .ref q_read, .ref q_l, .ref q_stands, .ref q_kept, .int v_keptMany, .ref q_one, .ref q_two, .ref q_ways, .ref q_now, .ref q_then])), (q_text, .inl (ca 0, 500, .inl v_text)), (q_read, .inl (ca 0, 336, .inl (upd y_read_7 ((p1 + (nI 1)) + x2_4).toNatClampNeg x3_5)))]) ⟨hx, hb, hml, hown, hts⟩ (c_X9_sound l D ca H.size q_this q_text q_read q_l q_stands q_kept q_one q_two q_ways q_now q_then v_size y_at_6 v_keptMany v_text r_15 y_at_16 hg_17) (cwV 0 hts gX9_word_X9_sound rfl rfl rfl (by decide +kernel) ⟨(Nat.le_of_ble_eq_true rfl), (Nat.le_of_ble_eq_true rfl)⟩) hK hP hD hS hA (ci := 8) (q0 := 0) rfl rfl [0, 1] [2] [1, 2, 0] rfl rfl rfl rfl (by decide) rfl rfl rfl hl.1 rfl (Nat.le_of_ble_eq_true rfl) dX9_word_34 ⟨Nat.zero_le _, Nat.zero_le _⟩ (fun H locs hP hD hS => ?_)
          refine lv_istore_n (lv' := [(3, .int r_15), (2, .int x2_13), (0, .ref q_this), (1, .int p1)]) hx hb dX9_word_37 rfl hl (by decide) rfl (fun ls hl => ?_)
          refine lv_goto (tgt := 7) hx hb dX9_word_38 (by decide) ?_
          exact ih _ _ _ _ _ _ _ h hP hD hS (lv_sub hl [2, 3, 1, 0] rfl)
        · replace h := ifp_el c_11 h
          refine lv_iconst (v := (nI 0)) hx hb dX9_word_17 (by decide) ?_
          cases h
          rw [← hQe]
          exact W.zret hx hb hr rfl (fun t ht hW => ⟨⟨_, (), rfl, rfl, by rw [ht]; exact hP, va_K.moved hW.alike hK, hD⟩, hS.F ht⟩) hS.2.2 dX9_word_18
  exact hlp F (nI 0) r_1 y_at_2 v_read H locs ls h hP hD hS (lv_sub hl [2, 3, 1, 0] rfl)
def D_X9_wordItem (F : Nat) (p1 : Int32) (p2 : Int32) (v_size : Int32) (v_at : Int32) (v_text : Nat → Int32) (v_read : Nat → Int32) : Option (Int32 × Int32 × (Nat → Int32)) := bd2 (D_X9_number F (nI 0) p2 v_size v_at v_text) (fun r_1 y_at_2 => (if r_1 < 0 then some ((nI 0), y_at_2, v_read) else bd2 (D_X9_takes (nI 44) v_size y_at_2 v_text) (fun r_5 y_at_6 => (if r_5 = 0 then some ((nI 0), y_at_6, v_read) else bd2 (D_X9_number F (nI 0) (nI 7) v_size y_at_6 v_text) (fun r_9 y_at_10 => (if r_9 < 0 then some ((nI 0), y_at_10, v_read) else bd2 (D_X9_takes (nI 44) v_size y_at_10 v_text) (fun r_13 y_at_14 => (if r_13 = 0 then some ((nI 0), y_at_14, v_read) else bd3 (D_X9_word F (p1 + ((nI 7) * (((nI 8) * r_1) + r_9))) v_size y_at_14 v_text v_read) (fun r_17 y_at_18 y_read_19 => (if r_17 = 0 then some ((nI 0), y_at_18, y_read_19) else some ((nI 1), y_at_18, y_read_19)))))))))))
abbrev rm_X9_wordItem : Room := { frames := 3, cells := 0, slots := 0, locals := 69 }
set_option maxHeartbeats 4000000 in
set_option maxRecDepth 100000 in
theorem c_X9_wordItem (l : Launch) (D : va_G) (ca : Nat → ClassId) (F : Nat) (sz : Nat) (q_this q_text q_read q_l q_stands q_kept q_one q_two q_ways q_now q_then : Nat) (p1 : Int32) (p2 : Int32) (v_size : Int32) (v_at : Int32) (v_keptMany : Int32) (v_text : Nat → Int32) (v_read : Nat → Int32) (r : Int32) (o_at : Int32) (o_read : Nat → Int32) (h : D_X9_wordItem F p1 p2 v_size v_at v_text v_read = some (r, o_at, o_read)) : Met l yX9_wordItem wsX9_wordItem rm_X9_wordItem (va_Pc [.ref q_this, .int p1, .int p2] (kPre D ca [(q_this, .inr (8, [.ref q_text, .int v_size, .int v_at, .ref q_read, .ref q_l, .ref q_stands, .ref q_kept, .int v_keptMany, .ref q_one, .ref q_two, .ref q_ways, .ref q_now, .ref q_then])), (q_text, .inl (ca 0, 500, .inl v_text)), (q_read, .inl (ca 0, 336, .inl v_read))] sz)) (kQi D ca (va_A [(q_this, .inr (8, [.ref q_text, .int v_size, .int v_at, .ref q_read, .ref q_l, .ref q_stands, .ref q_kept, .int v_keptMany, .ref q_one, .ref q_two, .ref q_ways, .ref q_now, .ref q_then])), (q_text, .inl (ca 0, 500, .inl v_text)), (q_read, .inl (ca 0, 336, .inl v_read))] sz) [(q_this, .inr (8, [.ref q_text, .int v_size, .int o_at, .ref q_read, .ref q_l, .ref q_stands, .ref q_kept, .int v_keptMany, .ref q_one, .ref q_two, .ref q_ways, .ref q_now, .ref q_then])), (q_text, .inl (ca 0, 500, .inl v_text)), (q_read, .inl (ca 0, 336, .inl o_read))] r) 0 0 (va_A [(q_this, .inr (8, [.ref q_text, .int v_size, .int v_at, .ref q_read, .ref q_l, .ref q_stands, .ref q_kept, .int v_keptMany, .ref q_one, .ref q_two, .ref q_ways, .ref q_now, .ref q_then])), (q_text, .inl (ca 0, 500, .inl v_text)), (q_read, .inl (ca 0, 336, .inl v_read))] sz) := by
  refine Met.ofW (cc := cX9_wordItem) (maxL := 5) (ret := (some .boolean)) (by decide +kernel) rfl ?_
  intro p e s m args below meth c s₁ B hml hv
  obtain ⟨rfl, hsz, hP, hK, hD0⟩ := hv
  have hx := B.exec
  have hb := B.bytes
  have hr := B.returns
  have hts := atoms_spec (ws := wsX9_wordItem) B.pre
  have hown : s.vm.findClass RX9 = some m.cls := findClass_of_methodNamed B.named
  have hlocks := B.notSynchronized
  clear B
  subst hsz
  have hD := hD0.self (sz := s.heap.size)
  generalize hAe : va_A [(q_this, .inr (8, [.ref q_text, .int v_size, .int v_at, .ref q_read, .ref q_l, .ref q_stands, .ref q_kept, .int v_keptMany, .ref q_one, .ref q_two, .ref q_ways, .ref q_now, .ref q_then])), (q_text, .inl (ca 0, 500, .inl v_text)), (q_read, .inl (ca 0, 336, .inl v_read))] s.heap.size = A at hD ⊢
  have hA : ∀ q : Nat, s.heap.size ≤ q → A q := fun q h => by rw [← hAe]; exact Or.inr h
  have hS : va_S A s.heap s.heap [] := va_S.rf
  have hl := lv_entry ([.ref q_this, .int p1, .int p2]) (n := 5) (Nat.le_of_ble_eq_true rfl)
  rw [lg_entry_eq]
  generalize (lg_sl ([.ref q_this, .int p1, .int p2]) ++ List.replicate (5 - (lg_sl ([.ref q_this, .int p1, .int p2])).length) Slot.unset).toArray = ls at hl ⊢
  have hl : lv_has ls 5 [(0, .ref q_this), (1, .int p1), (2, .int p2)] := hl
  generalize ([.ref q_this, .int p1, .int p2] : List Value).toArray = args at hts ⊢
  generalize hQe : MQ below (kQi D ca (A) [(q_this, .inr (8, [.ref q_text, .int v_size, .int o_at, .ref q_read, .ref q_l, .ref q_stands, .ref q_kept, .int v_keptMany, .ref q_one, .ref q_two, .ref q_ways, .ref q_now, .ref q_then])), (q_text, .inl (ca 0, 500, .inl v_text)), (q_read, .inl (ca 0, 336, .inl o_read))] r) args s 0 0 A = Q
  rw [D_X9_wordItem] at h
  refine lv_aload_n hx hb dX9_wordItem_0 rfl (lv_at hl 0 rfl) ?_
  refine lv_iconst (v := (nI 0)) hx hb dX9_wordItem_1 (by decide) ?_
  refine lv_iload_n hx hb dX9_wordItem_2 rfl (lv_at hl 2 rfl) ?_
  obtain ⟨r_1, y_at_2, hg_3, h⟩ := bd2_el h
  refine kx_Vi (As := [.int (nI 0), .int p2]) (rest := []) (wr := [(q_read, .inl (ca 0, 336, .inl v_read))]) (w1 := [(q_this, .inr (8, [.ref q_text, .int v_size, .int y_at_2, .ref q_read, .ref q_l, .ref q_stands, .ref q_kept, .int v_keptMany, .ref q_one, .ref q_two, .ref q_ways, .ref q_now, .ref q_then])), (q_text, .inl (ca 0, 500, .inl v_text))]) (wn := [(q_this, .inr (8, [.ref q_text, .int v_size, .int y_at_2, .ref q_read, .ref q_l, .ref q_stands, .ref q_kept, .int v_keptMany, .ref q_one, .ref q_two, .ref q_ways, .ref q_now, .ref q_then])), (q_text, .inl (ca 0, 500, .inl v_text)), (q_read, .inl (ca 0, 336, .inl v_read))]) ⟨hx, hb, hml, hown, hts⟩ (c_X9_number l D ca F s.heap.size q_this q_text q_read q_l q_stands q_kept q_one q_two q_ways q_now q_then (nI 0) p2 v_size v_at v_keptMany v_text r_1 y_at_2 hg_3) (cwV 2 hts gX9_wordItem_X9_number rfl rfl rfl (by decide +kernel) ⟨(Nat.le_of_ble_eq_true rfl), (Nat.le_of_ble_eq_true rfl)⟩) hK hP hD hS hA (ci := 8) (q0 := 0) rfl rfl [0, 1] [2] [1, 2, 0] rfl rfl rfl rfl (by decide) rfl rfl rfl hl.1 rfl (Nat.le_of_ble_eq_true rfl) dX9_wordItem_3 ⟨Nat.zero_le _, Nat.zero_le _⟩ (fun H locs hP hD hS => ?_)
  refine lv_istore_n (lv' := [(3, .int r_1), (0, .ref q_this), (1, .int p1), (2, .int p2)]) hx hb dX9_wordItem_6 rfl hl (by decide) rfl (fun ls hl => ?_)
  refine lv_iload_n hx hb dX9_wordItem_7 rfl (lv_at hl 0 rfl) ?_
  refine lv_if_lt (tgt := 20) hx hb dX9_wordItem_8 (by decide) (fun c_4 => ?_) (fun c_4 => ?_)
  · replace h := ifp_el c_4 h
    refine lv_iconst (v := (nI 0)) hx hb dX9_wordItem_20 (by decide) ?_
    cases h
    rw [← hQe]
    exact W.zret hx hb hr rfl (fun t ht hW => ⟨⟨_, (), rfl, rfl, by rw [ht]; exact hP, va_K.moved hW.alike hK, hD⟩, hS.F ht⟩) hS.2.2 dX9_wordItem_21
  · replace h := ifn_el c_4 h
    refine lv_aload_n hx hb dX9_wordItem_11 rfl (lv_at hl 1 rfl) ?_
    refine lv_bipush (v := (nI 44)) hx hb dX9_wordItem_12 (by decide) ?_
    obtain ⟨r_5, y_at_6, hg_7, h⟩ := bd2_el h
    refine kx_Vi (As := [.int (nI 44)]) (rest := []) (wr := [(q_read, .inl (ca 0, 336, .inl v_read))]) (w1 := [(q_this, .inr (8, [.ref q_text, .int v_size, .int y_at_6, .ref q_read, .ref q_l, .ref q_stands, .ref q_kept, .int v_keptMany, .ref q_one, .ref q_two, .ref q_ways, .ref q_now, .ref q_then])), (q_text, .inl (ca 0, 500, .inl v_text))]) (wn := [(q_this, .inr (8, [.ref q_text, .int v_size, .int y_at_6, .ref q_read, .ref q_l, .ref q_stands, .ref q_kept, .int v_keptMany, .ref q_one, .ref q_two, .ref q_ways, .ref q_now, .ref q_then])), (q_text, .inl (ca 0, 500, .inl v_text)), (q_read, .inl (ca 0, 336, .inl v_read))]) ⟨hx, hb, hml, hown, hts⟩ (c_X9_takes l D ca H.size q_this q_text q_read q_l q_stands q_kept q_one q_two q_ways q_now q_then (nI 44) v_size y_at_2 v_keptMany v_text r_5 y_at_6 hg_7) (cwV 1 hts gX9_wordItem_X9_takes rfl rfl rfl (by decide +kernel) ⟨(Nat.le_of_ble_eq_true rfl), (Nat.le_of_ble_eq_true rfl)⟩) hK hP hD hS hA (ci := 8) (q0 := 0) rfl rfl [0, 1] [2] [1, 2, 0] rfl rfl rfl rfl (by decide) rfl rfl rfl hl.1 rfl (Nat.le_of_ble_eq_true rfl) dX9_wordItem_14 ⟨Nat.zero_le _, Nat.zero_le _⟩ (fun H locs hP hD hS => ?_)
    refine lv_if_ne (tgt := 22) hx hb dX9_wordItem_17 (by decide) (fun c_8 => ?_) (fun c_8 => ?_)
    · replace h := ifn_el c_8 h
      refine lv_aload_n hx hb dX9_wordItem_22 rfl (lv_at hl 1 rfl) ?_
      refine lv_iconst (v := (nI 0)) hx hb dX9_wordItem_23 (by decide) ?_
      refine lv_bipush (v := (nI 7)) hx hb dX9_wordItem_24 (by decide) ?_
      obtain ⟨r_9, y_at_10, hg_11, h⟩ := bd2_el h
      refine kx_Vi (As := [.int (nI 0), .int (nI 7)]) (rest := []) (wr := [(q_read, .inl (ca 0, 336, .inl v_read))]) (w1 := [(q_this, .inr (8, [.ref q_text, .int v_size, .int y_at_10, .ref q_read, .ref q_l, .ref q_stands, .ref q_kept, .int v_keptMany, .ref q_one, .ref q_two, .ref q_ways, .ref q_now, .ref q_then])), (q_text, .inl (ca 0, 500, .inl v_text))]) (wn := [(q_this, .inr (8, [.ref q_text, .int v_size, .int y_at_10, .ref q_read, .ref q_l, .ref q_stands, .ref q_kept, .int v_keptMany, .ref q_one, .ref q_two, .ref q_ways, .ref q_now, .ref q_then])), (q_text, .inl (ca 0, 500, .inl v_text)), (q_read, .inl (ca 0, 336, .inl v_read))]) ⟨hx, hb, hml, hown, hts⟩ (c_X9_number l D ca F H.size q_this q_text q_read q_l q_stands q_kept q_one q_two q_ways q_now q_then (nI 0) (nI 7) v_size y_at_6 v_keptMany v_text r_9 y_at_10 hg_11) (cwV 2 hts gX9_wordItem_X9_number rfl rfl rfl (by decide +kernel) ⟨(Nat.le_of_ble_eq_true rfl), (Nat.le_of_ble_eq_true rfl)⟩) hK hP hD hS hA (ci := 8) (q0 := 0) rfl rfl [0, 1] [2] [1, 2, 0] rfl rfl rfl rfl (by decide) rfl rfl rfl hl.1 rfl (Nat.le_of_ble_eq_true rfl) dX9_wordItem_26 ⟨Nat.zero_le _, Nat.zero_le _⟩ (fun H locs hP hD hS => ?_)
      refine lv_istore (lv' := [(4, .int r_9), (3, .int r_1), (0, .ref q_this), (1, .int p1), (2, .int p2)]) hx hb dX9_wordItem_29 hl (by decide) rfl (fun ls hl => ?_)
      refine lv_iload hx hb dX9_wordItem_31 (lv_at hl 0 rfl) ?_
      refine lv_if_lt (tgt := 68) hx hb dX9_wordItem_33 (by decide) (fun c_12 => ?_) (fun c_12 => ?_)
      · replace h := ifp_el c_12 h
        refine lv_iconst (v := (nI 0)) hx hb dX9_wordItem_68 (by decide) ?_
        cases h
        rw [← hQe]
        exact W.zret hx hb hr rfl (fun t ht hW => ⟨⟨_, (), rfl, rfl, by rw [ht]; exact hP, va_K.moved hW.alike hK, hD⟩, hS.F ht⟩) hS.2.2 dX9_wordItem_69
      · replace h := ifn_el c_12 h
        refine lv_aload_n hx hb dX9_wordItem_36 rfl (lv_at hl 2 rfl) ?_
        refine lv_bipush (v := (nI 44)) hx hb dX9_wordItem_37 (by decide) ?_
        obtain ⟨r_13, y_at_14, hg_15, h⟩ := bd2_el h
        refine kx_Vi (As := [.int (nI 44)]) (rest := []) (wr := [(q_read, .inl (ca 0, 336, .inl v_read))]) (w1 := [(q_this, .inr (8, [.ref q_text, .int v_size, .int y_at_14, .ref q_read, .ref q_l, .ref q_stands, .ref q_kept, .int v_keptMany, .ref q_one, .ref q_two, .ref q_ways, .ref q_now, .ref q_then])), (q_text, .inl (ca 0, 500, .inl v_text))]) (wn := [(q_this, .inr (8, [.ref q_text, .int v_size, .int y_at_14, .ref q_read, .ref q_l, .ref q_stands, .ref q_kept, .int v_keptMany, .ref q_one, .ref q_two, .ref q_ways, .ref q_now, .ref q_then])), (q_text, .inl (ca 0, 500, .inl v_text)), (q_read, .inl (ca 0, 336, .inl v_read))]) ⟨hx, hb, hml, hown, hts⟩ (c_X9_takes l D ca H.size q_this q_text q_read q_l q_stands q_kept q_one q_two q_ways q_now q_then (nI 44) v_size y_at_10 v_keptMany v_text r_13 y_at_14 hg_15) (cwV 1 hts gX9_wordItem_X9_takes rfl rfl rfl (by decide +kernel) ⟨(Nat.le_of_ble_eq_true rfl), (Nat.le_of_ble_eq_true rfl)⟩) hK hP hD hS hA (ci := 8) (q0 := 0) rfl rfl [0, 1] [2] [1, 2, 0] rfl rfl rfl rfl (by decide) rfl rfl rfl hl.1 rfl (Nat.le_of_ble_eq_true rfl) dX9_wordItem_39 ⟨Nat.zero_le _, Nat.zero_le _⟩ (fun H locs hP hD hS => ?_)
        refine lv_if_eq (tgt := 68) hx hb dX9_wordItem_42 (by decide) (fun c_16 => ?_) (fun c_16 => ?_)
        · replace h := ifp_el c_16 h
          refine lv_iconst (v := (nI 0)) hx hb dX9_wordItem_68 (by decide) ?_
          cases h
          rw [← hQe]
          exact W.zret hx hb hr rfl (fun t ht hW => ⟨⟨_, (), rfl, rfl, by rw [ht]; exact hP, va_K.moved hW.alike hK, hD⟩, hS.F ht⟩) hS.2.2 dX9_wordItem_69
        · replace h := ifn_el c_16 h
          refine lv_aload_n hx hb dX9_wordItem_45 rfl (lv_at hl 2 rfl) ?_
          refine lv_iload_n hx hb dX9_wordItem_46 rfl (lv_at hl 3 rfl) ?_
          refine lv_bipush (v := (nI 7)) hx hb dX9_wordItem_47 (by decide) ?_
          refine lv_bipush (v := (nI 8)) hx hb dX9_wordItem_49 (by decide) ?_
          refine lv_iload_n hx hb dX9_wordItem_51 rfl (lv_at hl 1 rfl) ?_
          refine lv_imul hx hb dX9_wordItem_52 ?_
          refine lv_iload hx hb dX9_wordItem_53 (lv_at hl 0 rfl) ?_
          refine lv_iadd hx hb dX9_wordItem_55 ?_
          refine lv_imul hx hb dX9_wordItem_56 ?_
          refine lv_iadd hx hb dX9_wordItem_57 ?_
          obtain ⟨r_17, y_at_18, y_read_19, hg_20, h⟩ := bd3_el h
          refine kx_Vi (As := [.int (p1 + ((nI 7) * (((nI 8) * r_1) + r_9)))]) (rest := []) (wr := []) (w1 := [(q_this, .inr (8, [.ref q_text, .int v_size, .int y_at_18, .ref q_read, .ref q_l, .ref q_stands, .ref q_kept, .int v_keptMany, .ref q_one, .ref q_two, .ref q_ways, .ref q_now, .ref q_then])), (q_text, .inl (ca 0, 500, .inl v_text)), (q_read, .inl (ca 0, 336, .inl y_read_19))]) (wn := [(q_this, .inr (8, [.ref q_text, .int v_size, .int y_at_18, .ref q_read, .ref q_l, .ref q_stands, .ref q_kept, .int v_keptMany, .ref q_one, .ref q_two, .ref q_ways, .ref q_now, .ref q_then])), (q_text, .inl (ca 0, 500, .inl v_text)), (q_read, .inl (ca 0, 336, .inl y_read_19))]) ⟨hx, hb, hml, hown, hts⟩ (c_X9_word l D ca F H.size q_this q_text q_read q_l q_stands q_kept q_one q_two q_ways q_now q_then (p1 + ((nI 7) * (((nI 8) * r_1) + r_9))) v_size y_at_14 v_keptMany v_text v_read r_17 y_at_18 y_read_19 hg_20) (cwV 1 hts gX9_wordItem_X9_word rfl rfl rfl (by decide +kernel) ⟨(Nat.le_of_ble_eq_true rfl), (Nat.le_of_ble_eq_true rfl)⟩) hK hP hD hS hA (ci := 8) (q0 := 0) rfl rfl [0, 1, 2] [] [0, 1, 2] rfl rfl rfl rfl (by decide) rfl rfl rfl hl.1 rfl (Nat.le_of_ble_eq_true rfl) dX9_wordItem_58 ⟨Nat.zero_le _, Nat.zero_le _⟩ (fun H locs hP hD hS => ?_)
          refine lv_if_eq (tgt := 68) hx hb dX9_wordItem_61 (by decide) (fun c_21 => ?_) (fun c_21 => ?_)
          · replace h := ifp_el c_21 h
            refine lv_iconst (v := (nI 0)) hx hb dX9_wordItem_68 (by decide) ?_
            cases h
            rw [← hQe]
            exact W.zret hx hb hr rfl (fun t ht hW => ⟨⟨_, (), rfl, rfl, by rw [ht]; exact hP, va_K.moved hW.alike hK, hD⟩, hS.F ht⟩) hS.2.2 dX9_wordItem_69
          · replace h := ifn_el c_21 h
            refine lv_iconst (v := (nI 1)) hx hb dX9_wordItem_64 (by decide) ?_
            refine lv_goto (tgt := 69) hx hb dX9_wordItem_65 (by decide) ?_
            cases h
            rw [← hQe]
            exact W.zret hx hb hr rfl (fun t ht hW => ⟨⟨_, (), rfl, rfl, by rw [ht]; exact hP, va_K.moved hW.alike hK, hD⟩, hS.F ht⟩) hS.2.2 dX9_wordItem_69
    · replace h := ifp_el c_8 h
      refine lv_iconst (v := (nI 0)) hx hb dX9_wordItem_20 (by decide) ?_
      cases h
      rw [← hQe]
      exact W.zret hx hb hr rfl (fun t ht hW => ⟨⟨_, (), rfl, rfl, by rw [ht]; exact hP, va_K.moved hW.alike hK, hD⟩, hS.F ht⟩) hS.2.2 dX9_wordItem_21
def b_X9_soundsItem_29 (v_size : Int32) (v_text : Nat → Int32) (v_read : Nat → Int32) (r_1 : Int32) (rec29 : Int32 → Int32 → Int32 → Option (Int32 × Int32 × (Nat → Int32))) (x2_12 : Int32) (x3_13 : Int32) (y_at_14 : Int32) : Option (Int32 × Int32 × (Nat → Int32)) := (if x3_13 < 0 then ck 336 ((nI 280) + r_1) ((if x2_12 = 0 then some ((nI 0), y_at_14, (upd v_read ((nI 280) + r_1).toNatClampNeg x2_12)) else some ((nI 1), y_at_14, (upd v_read ((nI 280) + r_1).toNatClampNeg x2_12)))) else (if (x2_12 >>> (x3_13 &&& 31)) = 0 then nm (x2_12 ||| ((nI 1) <<< (x3_13 &&& 31))) (fun x2_19 => bd2 (D_X9_sound v_size y_at_14 v_text) (fun r_20 y_at_21 => rec29 x2_19 r_20 y_at_21)) else some ((nI 0), y_at_14, v_read)))
def D_X9_soundsItem (F : Nat) (v_size : Int32) (v_at : Int32) (v_text : Nat → Int32) (v_read : Nat → Int32) : Option (Int32 × Int32 × (Nat → Int32)) := bd2 (D_X9_number F (nI 0) (nI 1) v_size v_at v_text) (fun r_1 y_at_2 => (if r_1 < 0 then some ((nI 0), y_at_2, v_read) else bd2 (D_X9_takes (nI 44) v_size y_at_2 v_text) (fun r_5 y_at_6 => (if r_5 = 0 then some ((nI 0), y_at_6, v_read) else bd2 (D_X9_sound v_size y_at_6 v_text) (fun r_9 y_at_10 => lpg (T := Int32 → Int32 → Int32 → Option (Int32 × Int32 × (Nat → Int32))) (fun _ _ _ => none) (b_X9_soundsItem_29 v_size v_text v_read r_1) F (nI 0) r_9 y_at_10)))))
abbrev rm_X9_soundsItem : Room := { frames := 2, cells := 0, slots := 0, locals := 49 }
set_option maxHeartbeats 4000000 in
set_option maxRecDepth 100000 in
theorem c_X9_soundsItem (l : Launch) (D : va_G) (ca : Nat → ClassId) (F : Nat) (sz : Nat) (q_this q_text q_read q_l q_stands q_kept q_one q_two q_ways q_now q_then : Nat) (v_size : Int32) (v_at : Int32) (v_keptMany : Int32) (v_text : Nat → Int32) (v_read : Nat → Int32) (r : Int32) (o_at : Int32) (o_read : Nat → Int32) (h : D_X9_soundsItem F v_size v_at v_text v_read = some (r, o_at, o_read)) : Met l yX9_soundsItem wsX9_soundsItem rm_X9_soundsItem (va_Pc [.ref q_this] (kPre D ca [(q_this, .inr (8, [.ref q_text, .int v_size, .int v_at, .ref q_read, .ref q_l, .ref q_stands, .ref q_kept, .int v_keptMany, .ref q_one, .ref q_two, .ref q_ways, .ref q_now, .ref q_then])), (q_text, .inl (ca 0, 500, .inl v_text)), (q_read, .inl (ca 0, 336, .inl v_read))] sz)) (kQi D ca (va_A [(q_this, .inr (8, [.ref q_text, .int v_size, .int v_at, .ref q_read, .ref q_l, .ref q_stands, .ref q_kept, .int v_keptMany, .ref q_one, .ref q_two, .ref q_ways, .ref q_now, .ref q_then])), (q_text, .inl (ca 0, 500, .inl v_text)), (q_read, .inl (ca 0, 336, .inl v_read))] sz) [(q_this, .inr (8, [.ref q_text, .int v_size, .int o_at, .ref q_read, .ref q_l, .ref q_stands, .ref q_kept, .int v_keptMany, .ref q_one, .ref q_two, .ref q_ways, .ref q_now, .ref q_then])), (q_text, .inl (ca 0, 500, .inl v_text)), (q_read, .inl (ca 0, 336, .inl o_read))] r) 0 0 (va_A [(q_this, .inr (8, [.ref q_text, .int v_size, .int v_at, .ref q_read, .ref q_l, .ref q_stands, .ref q_kept, .int v_keptMany, .ref q_one, .ref q_two, .ref q_ways, .ref q_now, .ref q_then])), (q_text, .inl (ca 0, 500, .inl v_text)), (q_read, .inl (ca 0, 336, .inl v_read))] sz) := by
  refine Met.ofW (cc := cX9_soundsItem) (maxL := 4) (ret := (some .boolean)) (by decide +kernel) rfl ?_
  intro p e s m args below meth c s₁ B hml hv
  obtain ⟨rfl, hsz, hP, hK, hD0⟩ := hv
  have hx := B.exec
  have hb := B.bytes
  have hr := B.returns
  have hts := atoms_spec (ws := wsX9_soundsItem) B.pre
  have hown : s.vm.findClass RX9 = some m.cls := findClass_of_methodNamed B.named
  have hlocks := B.notSynchronized
  clear B
  subst hsz
  have hD := hD0.self (sz := s.heap.size)
  generalize hAe : va_A [(q_this, .inr (8, [.ref q_text, .int v_size, .int v_at, .ref q_read, .ref q_l, .ref q_stands, .ref q_kept, .int v_keptMany, .ref q_one, .ref q_two, .ref q_ways, .ref q_now, .ref q_then])), (q_text, .inl (ca 0, 500, .inl v_text)), (q_read, .inl (ca 0, 336, .inl v_read))] s.heap.size = A at hD ⊢
  have hA : ∀ q : Nat, s.heap.size ≤ q → A q := fun q h => by rw [← hAe]; exact Or.inr h
  have hS : va_S A s.heap s.heap [] := va_S.rf
  have hl := lv_entry ([.ref q_this]) (n := 4) (Nat.le_of_ble_eq_true rfl)
  rw [lg_entry_eq]
  generalize (lg_sl ([.ref q_this]) ++ List.replicate (4 - (lg_sl ([.ref q_this])).length) Slot.unset).toArray = ls at hl ⊢
  have hl : lv_has ls 4 [(0, .ref q_this)] := hl
  generalize ([.ref q_this] : List Value).toArray = args at hts ⊢
  generalize hQe : MQ below (kQi D ca (A) [(q_this, .inr (8, [.ref q_text, .int v_size, .int o_at, .ref q_read, .ref q_l, .ref q_stands, .ref q_kept, .int v_keptMany, .ref q_one, .ref q_two, .ref q_ways, .ref q_now, .ref q_then])), (q_text, .inl (ca 0, 500, .inl v_text)), (q_read, .inl (ca 0, 336, .inl o_read))] r) args s 0 0 A = Q
  have i_X9 : ∀ w ∈ u_ws RX9 TX9 13, w ∈ wsX9_soundsItem := by decide +kernel
  have k_13 := hts (.fieldLink RX9 13 "TradeWordsModel" "read" "[I") (by decide +kernel)
  rw [D_X9_soundsItem] at h
  refine lv_aload_n hx hb dX9_soundsItem_0 rfl (lv_at hl 0 rfl) ?_
  refine lv_iconst (v := (nI 0)) hx hb dX9_soundsItem_1 (by decide) ?_
  refine lv_iconst (v := (nI 1)) hx hb dX9_soundsItem_2 (by decide) ?_
  obtain ⟨r_1, y_at_2, hg_3, h⟩ := bd2_el h
  refine kx_Vi (As := [.int (nI 0), .int (nI 1)]) (rest := []) (wr := [(q_read, .inl (ca 0, 336, .inl v_read))]) (w1 := [(q_this, .inr (8, [.ref q_text, .int v_size, .int y_at_2, .ref q_read, .ref q_l, .ref q_stands, .ref q_kept, .int v_keptMany, .ref q_one, .ref q_two, .ref q_ways, .ref q_now, .ref q_then])), (q_text, .inl (ca 0, 500, .inl v_text))]) (wn := [(q_this, .inr (8, [.ref q_text, .int v_size, .int y_at_2, .ref q_read, .ref q_l, .ref q_stands, .ref q_kept, .int v_keptMany, .ref q_one, .ref q_two, .ref q_ways, .ref q_now, .ref q_then])), (q_text, .inl (ca 0, 500, .inl v_text)), (q_read, .inl (ca 0, 336, .inl v_read))]) ⟨hx, hb, hml, hown, hts⟩ (c_X9_number l D ca F s.heap.size q_this q_text q_read q_l q_stands q_kept q_one q_two q_ways q_now q_then (nI 0) (nI 1) v_size v_at v_keptMany v_text r_1 y_at_2 hg_3) (cwV 2 hts gX9_soundsItem_X9_number rfl rfl rfl (by decide +kernel) ⟨(Nat.le_of_ble_eq_true rfl), (Nat.le_of_ble_eq_true rfl)⟩) hK hP hD hS hA (ci := 8) (q0 := 0) rfl rfl [0, 1] [2] [1, 2, 0] rfl rfl rfl rfl (by decide) rfl rfl rfl hl.1 rfl (Nat.le_of_ble_eq_true rfl) dX9_soundsItem_3 ⟨Nat.zero_le _, Nat.zero_le _⟩ (fun H locs hP hD hS => ?_)
  refine lv_istore_n (lv' := [(1, .int r_1), (0, .ref q_this)]) hx hb dX9_soundsItem_6 rfl hl (by decide) rfl (fun ls hl => ?_)
  refine lv_iload_n hx hb dX9_soundsItem_7 rfl (lv_at hl 0 rfl) ?_
  refine lv_if_lt (tgt := 20) hx hb dX9_soundsItem_8 (by decide) (fun c_4 => ?_) (fun c_4 => ?_)
  · replace h := ifp_el c_4 h
    refine lv_iconst (v := (nI 0)) hx hb dX9_soundsItem_20 (by decide) ?_
    cases h
    rw [← hQe]
    exact W.zret hx hb hr rfl (fun t ht hW => ⟨⟨_, (), rfl, rfl, by rw [ht]; exact hP, va_K.moved hW.alike hK, hD⟩, hS.F ht⟩) hS.2.2 dX9_soundsItem_21
  · replace h := ifn_el c_4 h
    refine lv_aload_n hx hb dX9_soundsItem_11 rfl (lv_at hl 1 rfl) ?_
    refine lv_bipush (v := (nI 44)) hx hb dX9_soundsItem_12 (by decide) ?_
    obtain ⟨r_5, y_at_6, hg_7, h⟩ := bd2_el h
    refine kx_Vi (As := [.int (nI 44)]) (rest := []) (wr := [(q_read, .inl (ca 0, 336, .inl v_read))]) (w1 := [(q_this, .inr (8, [.ref q_text, .int v_size, .int y_at_6, .ref q_read, .ref q_l, .ref q_stands, .ref q_kept, .int v_keptMany, .ref q_one, .ref q_two, .ref q_ways, .ref q_now, .ref q_then])), (q_text, .inl (ca 0, 500, .inl v_text))]) (wn := [(q_this, .inr (8, [.ref q_text, .int v_size, .int y_at_6, .ref q_read, .ref q_l, .ref q_stands, .ref q_kept, .int v_keptMany, .ref q_one, .ref q_two, .ref q_ways, .ref q_now, .ref q_then])), (q_text, .inl (ca 0, 500, .inl v_text)), (q_read, .inl (ca 0, 336, .inl v_read))]) ⟨hx, hb, hml, hown, hts⟩ (c_X9_takes l D ca H.size q_this q_text q_read q_l q_stands q_kept q_one q_two q_ways q_now q_then (nI 44) v_size y_at_2 v_keptMany v_text r_5 y_at_6 hg_7) (cwV 1 hts gX9_soundsItem_X9_takes rfl rfl rfl (by decide +kernel) ⟨(Nat.le_of_ble_eq_true rfl), (Nat.le_of_ble_eq_true rfl)⟩) hK hP hD hS hA (ci := 8) (q0 := 0) rfl rfl [0, 1] [2] [1, 2, 0] rfl rfl rfl rfl (by decide) rfl rfl rfl hl.1 rfl (Nat.le_of_ble_eq_true rfl) dX9_soundsItem_14 ⟨Nat.zero_le _, Nat.zero_le _⟩ (fun H locs hP hD hS => ?_)
    refine lv_if_ne (tgt := 22) hx hb dX9_soundsItem_17 (by decide) (fun c_8 => ?_) (fun c_8 => ?_)
    · replace h := ifn_el c_8 h
      refine lv_iconst (v := (nI 0)) hx hb dX9_soundsItem_22 (by decide) ?_
      refine lv_istore_n (lv' := [(2, .int (nI 0)), (1, .int r_1), (0, .ref q_this)]) hx hb dX9_soundsItem_23 rfl hl (by decide) rfl (fun ls hl => ?_)
      refine lv_aload_n hx hb dX9_soundsItem_24 rfl (lv_at hl 2 rfl) ?_
      obtain ⟨r_9, y_at_10, hg_11, h⟩ := bd2_el h
      refine kx_Vi (As := []) (rest := []) (wr := [(q_read, .inl (ca 0, 336, .inl v_read))]) (w1 := [(q_this, .inr (8, [.ref q_text, .int v_size, .int y_at_10, .ref q_read, .ref q_l, .ref q_stands, .ref q_kept, .int v_keptMany, .ref q_one, .ref q_two, .ref q_ways, .ref q_now, .ref q_then])), (q_text, .inl (ca 0, 500, .inl v_text))]) (wn := [(q_this, .inr (8, [.ref q_text, .int v_size, .int y_at_10, .ref q_read, .ref q_l, .ref q_stands, .ref q_kept, .int v_keptMany, .ref q_one, .ref q_two, .ref q_ways, .ref q_now, .ref q_then])), (q_text, .inl (ca 0, 500, .inl v_text)), (q_read, .inl (ca 0, 336, .inl v_read))]) ⟨hx, hb, hml, hown, hts⟩ (c_X9_sound l D ca H.size q_this q_text q_read q_l q_stands q_kept q_one q_two q_ways q_now q_then v_size y_at_6 v_keptMany v_text r_9 y_at_10 hg_11) (cwV 0 hts gX9_soundsItem_X9_sound rfl rfl rfl (by decide +kernel) ⟨(Nat.le_of_ble_eq_true rfl), (Nat.le_of_ble_eq_true rfl)⟩) hK hP hD hS hA (ci := 8) (q0 := 0) rfl rfl [0, 1] [2] [1, 2, 0] rfl rfl rfl rfl (by decide) rfl rfl rfl hl.1 rfl (Nat.le_of_ble_eq_true rfl) dX9_soundsItem_25 ⟨Nat.zero_le _, Nat.zero_le _⟩ (fun H locs hP hD hS => ?_)
      refine lv_istore_n (lv' := [(3, .int r_9), (2, .int (nI 0)), (1, .int r_1), (0, .ref q_this)]) hx hb dX9_soundsItem_28 rfl hl (by decide) rfl (fun ls hl => ?_)
      have hlp : ∀ (n : Nat) (x2_12 : Int32) (x3_13 : Int32) (y_at_14 : Int32) (H : Heap) (locs : List Loc) (ls : Array Slot), lpg (T := Int32 → Int32 → Int32 → Option (Int32 × Int32 × (Nat → Int32))) (fun _ _ _ => none) (b_X9_soundsItem_29 v_size v_text v_read r_1) n x2_12 x3_13 y_at_14 = some (r, o_at, o_read) → va_P D vwCl [(q_this, .inr (8, [.ref q_text, .int v_size, .int y_at_14, .ref q_read, .ref q_l, .ref q_stands, .ref q_kept, .int v_keptMany, .ref q_one, .ref q_two, .ref q_ways, .ref q_now, .ref q_then])), (q_text, .inl (ca 0, 500, .inl v_text)), (q_read, .inl (ca 0, 336, .inl v_read))] H → va_D A [(q_this, .inr (8, [.ref q_text, .int v_size, .int y_at_14, .ref q_read, .ref q_l, .ref q_stands, .ref q_kept, .int v_keptMany, .ref q_one, .ref q_two, .ref q_ways, .ref q_now, .ref q_then])), (q_text, .inl (ca 0, 500, .inl v_text)), (q_read, .inl (ca 0, 336, .inl v_read))] → va_S A s.heap H locs → lv_has ls 4 [(0, .ref q_this), (1, .int r_1), (2, .int x2_12), (3, .int x3_13)] → W p l e (headSpec wsX9_soundsItem rm_X9_soundsItem).room s m args below meth c H locs 0 0 Q (F0 m 29 ls []) := by
        intro n
        induction n with
        | zero => intro x2_12 x3_13 y_at_14 H locs ls h; have h : (none : Option (Int32 × Int32 × (Nat → Int32))) = some _ := h; cases h
        | succ n ih =>
          intro x2_12 x3_13 y_at_14 H locs ls h hP hD hS hl
          rw [lpg_succ, b_X9_soundsItem_29] at h
          refine lv_iload_n hx hb dX9_soundsItem_29 rfl (lv_at hl 3 rfl) ?_
          refine lv_if_lt (tgt := 55) hx hb dX9_soundsItem_30 (by decide) (fun c_15 => ?_) (fun c_15 => ?_)
          · replace h := ifp_el c_15 h
            refine lv_aload_n hx hb dX9_soundsItem_55 rfl (lv_at hl 0 rfl) ?_
            refine va_get (D := D) (ci := 8) (v := .ref q_read) (C := RX9) (T := TX9) (N := 13) hx hb hts i_X9 hown hK hP 0 rfl rfl 3 (by decide) k_13 (fun _ h9 => h9) rfl dX9_soundsItem_56 ?_
            refine lv_sipush (v := (nI 280)) hx hb dX9_soundsItem_59 (by decide) ?_
            refine lv_iload_n hx hb dX9_soundsItem_62 rfl (lv_at hl 1 rfl) ?_
            refine lv_iadd hx hb dX9_soundsItem_63 ?_
            refine lv_iload_n hx hb dX9_soundsItem_64 rfl (lv_at hl 2 rfl) ?_
            obtain ⟨hi_16, h⟩ := ck_el h
            refine va_iast hx hb hK hP hD hS 2 0 rfl rfl hi_16 dX9_soundsItem_65 (fun H locs hP hD hS => ?_)
            have hP : va_P D vwCl [(q_this, .inr (8, [.ref q_text, .int v_size, .int y_at_14, .ref q_read, .ref q_l, .ref q_stands, .ref q_kept, .int v_keptMany, .ref q_one, .ref q_two, .ref q_ways, .ref q_now, .ref q_then])), (q_text, .inl (ca 0, 500, .inl v_text)), (q_read, .inl (ca 0, 336, .inl (upd v_read ((nI 280) + r_1).toNatClampNeg x2_12)))] H := hP
            have hD : va_D A [(q_this, .inr (8, [.ref q_text, .int v_size, .int y_at_14, .ref q_read, .ref q_l, .ref q_stands, .ref q_kept, .int v_keptMany, .ref q_one, .ref q_two, .ref q_ways, .ref q_now, .ref q_then])), (q_text, .inl (ca 0, 500, .inl v_text)), (q_read, .inl (ca 0, 336, .inl (upd v_read ((nI 280) + r_1).toNatClampNeg x2_12)))] := hD
            refine lv_iload_n hx hb dX9_soundsItem_66 rfl (lv_at hl 2 rfl) ?_
            refine lv_if_eq (tgt := 74) hx hb dX9_soundsItem_67 (by decide) (fun c_17 => ?_) (fun c_17 => ?_)
            · replace h := ifp_el c_17 h
              refine lv_iconst (v := (nI 0)) hx hb dX9_soundsItem_74 (by decide) ?_
              cases h
              rw [← hQe]
              exact W.zret hx hb hr rfl (fun t ht hW => ⟨⟨_, (), rfl, rfl, by rw [ht]; exact hP, va_K.moved hW.alike hK, hD⟩, hS.F ht⟩) hS.2.2 dX9_soundsItem_75
            · replace h := ifn_el c_17 h
              refine lv_iconst (v := (nI 1)) hx hb dX9_soundsItem_70 (by decide) ?_
              refine lv_goto (tgt := 75) hx hb dX9_soundsItem_71 (by decide) ?_
              cases h
              rw [← hQe]
              exact W.zret hx hb hr rfl (fun t ht hW => ⟨⟨_, (), rfl, rfl, by rw [ht]; exact hP, va_K.moved hW.alike hK, hD⟩, hS.F ht⟩) hS.2.2 dX9_soundsItem_75
          · replace h := ifn_el c_15 h
            refine lv_iload_n hx hb dX9_soundsItem_33 rfl (lv_at hl 2 rfl) ?_
            refine lv_iload_n hx hb dX9_soundsItem_34 rfl (lv_at hl 3 rfl) ?_
            refine lv_ishr hx hb dX9_soundsItem_35 ?_
            refine lv_if_eq (tgt := 41) hx hb dX9_soundsItem_36 (by decide) (fun c_18 => ?_) (fun c_18 => ?_)
            · replace h := ifp_el c_18 h
              refine lv_iload_n hx hb dX9_soundsItem_41 rfl (lv_at hl 2 rfl) ?_
              refine lv_iconst (v := (nI 1)) hx hb dX9_soundsItem_42 (by decide) ?_
              refine lv_iload_n hx hb dX9_soundsItem_43 rfl (lv_at hl 3 rfl) ?_
              refine lv_ishl hx hb dX9_soundsItem_44 ?_
              refine lv_ior hx hb dX9_soundsItem_45 ?_
              refine lv_nmi h (fun x2_19 h => ?_)
              refine lv_istore_n (lv' := [(2, .int x2_19), (0, .ref q_this), (1, .int r_1), (3, .int x3_13)]) hx hb dX9_soundsItem_46 rfl hl (by decide) rfl (fun ls hl => ?_)
              refine lv_aload_n hx hb dX9_soundsItem_47 rfl (lv_at hl 1 rfl) ?_
              obtain ⟨r_20, y_at_21, hg_22, h⟩ := bd2_el h
              refine kx_Vi (As := []) (rest := []) (wr := [(q_read, .inl (ca 0, 336, .inl v_read))]) (w1 := [(q_this, .inr (8, [.ref q_text, .int v_size, .int y_at_21, .ref q_read, .ref q_l, .ref q_stands, .ref q_kept, .int v_keptMany, .ref q_one, .ref q_two, .ref q_ways, .ref q_now, .ref q_then])), (q_text, .inl (ca 0, 500, .inl v_text))]) (wn := [(q_this, .inr (8, [.ref q_text, .int v_size, .int y_at_21, .ref q_read, .ref q_l, .ref q_stands, .ref q_kept, .int v_keptMany, .ref q_one, .ref q_two, .ref q_ways, .ref q_now, .ref q_then])), (q_text, .inl (ca 0, 500, .inl v_text)), (q_read, .inl (ca 0, 336, .inl v_read))]) ⟨hx, hb, hml, hown, hts⟩ (c_X9_sound l D ca H.size q_this q_text q_read q_l q_stands q_kept q_one q_two q_ways q_now q_then v_size y_at_14 v_keptMany v_text r_20 y_at_21 hg_22) (cwV 0 hts gX9_soundsItem_X9_sound rfl rfl rfl (by decide +kernel) ⟨(Nat.le_of_ble_eq_true rfl), (Nat.le_of_ble_eq_true rfl)⟩) hK hP hD hS hA (ci := 8) (q0 := 0) rfl rfl [0, 1] [2] [1, 2, 0] rfl rfl rfl rfl (by decide) rfl rfl rfl hl.1 rfl (Nat.le_of_ble_eq_true rfl) dX9_soundsItem_48 ⟨Nat.zero_le _, Nat.zero_le _⟩ (fun H locs hP hD hS => ?_)
              refine lv_istore_n (lv' := [(3, .int r_20), (2, .int x2_19), (0, .ref q_this), (1, .int r_1)]) hx hb dX9_soundsItem_51 rfl hl (by decide) rfl (fun ls hl => ?_)
              refine lv_goto (tgt := 29) hx hb dX9_soundsItem_52 (by decide) ?_
              exact ih _ _ _ _ _ _ h hP hD hS (lv_sub hl [2, 3, 1, 0] rfl)
            · replace h := ifn_el c_18 h
              refine lv_iconst (v := (nI 0)) hx hb dX9_soundsItem_39 (by decide) ?_
              cases h
              rw [← hQe]
              exact W.zret hx hb hr rfl (fun t ht hW => ⟨⟨_, (), rfl, rfl, by rw [ht]; exact hP, va_K.moved hW.alike hK, hD⟩, hS.F ht⟩) hS.2.2 dX9_soundsItem_40
      exact hlp F (nI 0) r_9 y_at_10 H locs ls h hP hD hS (lv_sub hl [3, 2, 1, 0] rfl)
    · replace h := ifp_el c_8 h
      refine lv_iconst (v := (nI 0)) hx hb dX9_soundsItem_20 (by decide) ?_
      cases h
      rw [← hQe]
      exact W.zret hx hb hr rfl (fun t ht hW => ⟨⟨_, (), rfl, rfl, by rw [ht]; exact hP, va_K.moved hW.alike hK, hD⟩, hS.F ht⟩) hS.2.2 dX9_soundsItem_21
def j_X9_placeItem_17 (v_read : Nat → Int32) (r_1 : Int32) (z0_4 : Int32) (y_at_5 : Int32) : Option (Int32 × Int32 × (Nat → Int32)) := (if z0_4 < 0 then some ((nI 0), y_at_5, v_read) else (if r_1 = z0_4 then some ((nI 0), y_at_5, v_read) else ck 336 ((nI 282) + r_1) (some ((nI 1), y_at_5, (upd v_read ((nI 282) + r_1).toNatClampNeg z0_4)))))
def D_X9_placeItem (v_size : Int32) (v_at : Int32) (v_text : Nat → Int32) (v_read : Nat → Int32) : Option (Int32 × Int32 × (Nat → Int32)) := bd2 (D_X9_sound v_size v_at v_text) (fun r_1 y_at_2 => (if 0 ≤ r_1 then bd2 (D_X9_sound v_size y_at_2 v_text) (fun r_10 y_at_11 => j_X9_placeItem_17 v_read r_1 r_10 y_at_11) else j_X9_placeItem_17 v_read r_1 (-1 : Int32) y_at_2))
abbrev rm_X9_placeItem : Room := { frames := 2, cells := 0, slots := 0, locals := 46 }
set_option maxHeartbeats 4000000 in
set_option maxRecDepth 100000 in
theorem c_X9_placeItem (l : Launch) (D : va_G) (ca : Nat → ClassId) (sz : Nat) (q_this q_text q_read q_l q_stands q_kept q_one q_two q_ways q_now q_then : Nat) (v_size : Int32) (v_at : Int32) (v_keptMany : Int32) (v_text : Nat → Int32) (v_read : Nat → Int32) (r : Int32) (o_at : Int32) (o_read : Nat → Int32) (h : D_X9_placeItem v_size v_at v_text v_read = some (r, o_at, o_read)) : Met l yX9_placeItem wsX9_placeItem rm_X9_placeItem (va_Pc [.ref q_this] (kPre D ca [(q_this, .inr (8, [.ref q_text, .int v_size, .int v_at, .ref q_read, .ref q_l, .ref q_stands, .ref q_kept, .int v_keptMany, .ref q_one, .ref q_two, .ref q_ways, .ref q_now, .ref q_then])), (q_text, .inl (ca 0, 500, .inl v_text)), (q_read, .inl (ca 0, 336, .inl v_read))] sz)) (kQi D ca (va_A [(q_this, .inr (8, [.ref q_text, .int v_size, .int v_at, .ref q_read, .ref q_l, .ref q_stands, .ref q_kept, .int v_keptMany, .ref q_one, .ref q_two, .ref q_ways, .ref q_now, .ref q_then])), (q_text, .inl (ca 0, 500, .inl v_text)), (q_read, .inl (ca 0, 336, .inl v_read))] sz) [(q_this, .inr (8, [.ref q_text, .int v_size, .int o_at, .ref q_read, .ref q_l, .ref q_stands, .ref q_kept, .int v_keptMany, .ref q_one, .ref q_two, .ref q_ways, .ref q_now, .ref q_then])), (q_text, .inl (ca 0, 500, .inl v_text)), (q_read, .inl (ca 0, 336, .inl o_read))] r) 0 0 (va_A [(q_this, .inr (8, [.ref q_text, .int v_size, .int v_at, .ref q_read, .ref q_l, .ref q_stands, .ref q_kept, .int v_keptMany, .ref q_one, .ref q_two, .ref q_ways, .ref q_now, .ref q_then])), (q_text, .inl (ca 0, 500, .inl v_text)), (q_read, .inl (ca 0, 336, .inl v_read))] sz) := by
  refine Met.ofW (cc := cX9_placeItem) (maxL := 3) (ret := (some .boolean)) (by decide +kernel) rfl ?_
  intro p e s m args below meth c s₁ B hml hv
  obtain ⟨rfl, hsz, hP, hK, hD0⟩ := hv
  have hx := B.exec
  have hb := B.bytes
  have hr := B.returns
  have hts := atoms_spec (ws := wsX9_placeItem) B.pre
  have hown : s.vm.findClass RX9 = some m.cls := findClass_of_methodNamed B.named
  have hlocks := B.notSynchronized
  clear B
  subst hsz
  have hD := hD0.self (sz := s.heap.size)
  generalize hAe : va_A [(q_this, .inr (8, [.ref q_text, .int v_size, .int v_at, .ref q_read, .ref q_l, .ref q_stands, .ref q_kept, .int v_keptMany, .ref q_one, .ref q_two, .ref q_ways, .ref q_now, .ref q_then])), (q_text, .inl (ca 0, 500, .inl v_text)), (q_read, .inl (ca 0, 336, .inl v_read))] s.heap.size = A at hD ⊢
  have hA : ∀ q : Nat, s.heap.size ≤ q → A q := fun q h => by rw [← hAe]; exact Or.inr h
  have hS : va_S A s.heap s.heap [] := va_S.rf
  have hl := lv_entry ([.ref q_this]) (n := 3) (Nat.le_of_ble_eq_true rfl)
  rw [lg_entry_eq]
  generalize (lg_sl ([.ref q_this]) ++ List.replicate (3 - (lg_sl ([.ref q_this])).length) Slot.unset).toArray = ls at hl ⊢
  have hl : lv_has ls 3 [(0, .ref q_this)] := hl
  generalize ([.ref q_this] : List Value).toArray = args at hts ⊢
  generalize hQe : MQ below (kQi D ca (A) [(q_this, .inr (8, [.ref q_text, .int v_size, .int o_at, .ref q_read, .ref q_l, .ref q_stands, .ref q_kept, .int v_keptMany, .ref q_one, .ref q_two, .ref q_ways, .ref q_now, .ref q_then])), (q_text, .inl (ca 0, 500, .inl v_text)), (q_read, .inl (ca 0, 336, .inl o_read))] r) args s 0 0 A = Q
  have i_X9 : ∀ w ∈ u_ws RX9 TX9 13, w ∈ wsX9_placeItem := by decide +kernel
  have k_13 := hts (.fieldLink RX9 13 "TradeWordsModel" "read" "[I") (by decide +kernel)
  rw [D_X9_placeItem] at h
  refine lv_aload_n hx hb dX9_placeItem_0 rfl (lv_at hl 0 rfl) ?_
  obtain ⟨r_1, y_at_2, hg_3, h⟩ := bd2_el h
  refine kx_Vi (As := []) (rest := []) (wr := [(q_read, .inl (ca 0, 336, .inl v_read))]) (w1 := [(q_this, .inr (8, [.ref q_text, .int v_size, .int y_at_2, .ref q_read, .ref q_l, .ref q_stands, .ref q_kept, .int v_keptMany, .ref q_one, .ref q_two, .ref q_ways, .ref q_now, .ref q_then])), (q_text, .inl (ca 0, 500, .inl v_text))]) (wn := [(q_this, .inr (8, [.ref q_text, .int v_size, .int y_at_2, .ref q_read, .ref q_l, .ref q_stands, .ref q_kept, .int v_keptMany, .ref q_one, .ref q_two, .ref q_ways, .ref q_now, .ref q_then])), (q_text, .inl (ca 0, 500, .inl v_text)), (q_read, .inl (ca 0, 336, .inl v_read))]) ⟨hx, hb, hml, hown, hts⟩ (c_X9_sound l D ca s.heap.size q_this q_text q_read q_l q_stands q_kept q_one q_two q_ways q_now q_then v_size v_at v_keptMany v_text r_1 y_at_2 hg_3) (cwV 0 hts gX9_placeItem_X9_sound rfl rfl rfl (by decide +kernel) ⟨(Nat.le_of_ble_eq_true rfl), (Nat.le_of_ble_eq_true rfl)⟩) hK hP hD hS hA (ci := 8) (q0 := 0) rfl rfl [0, 1] [2] [1, 2, 0] rfl rfl rfl rfl (by decide) rfl rfl rfl hl.1 rfl (Nat.le_of_ble_eq_true rfl) dX9_placeItem_1 ⟨Nat.zero_le _, Nat.zero_le _⟩ (fun H locs hP hD hS => ?_)
  refine lv_istore_n (lv' := [(1, .int r_1), (0, .ref q_this)]) hx hb dX9_placeItem_4 rfl hl (by decide) rfl (fun ls hl => ?_)
  refine lv_iload_n hx hb dX9_placeItem_5 rfl (lv_at hl 0 rfl) ?_
  have hj_17 : ∀ (z0_4 : Int32) (y_at_5 : Int32) (H : Heap) (locs : List Loc) (ls : Array Slot), j_X9_placeItem_17 v_read r_1 z0_4 y_at_5 = some (r, o_at, o_read) → va_P D vwCl [(q_this, .inr (8, [.ref q_text, .int v_size, .int y_at_5, .ref q_read, .ref q_l, .ref q_stands, .ref q_kept, .int v_keptMany, .ref q_one, .ref q_two, .ref q_ways, .ref q_now, .ref q_then])), (q_text, .inl (ca 0, 500, .inl v_text)), (q_read, .inl (ca 0, 336, .inl v_read))] H → va_D A [(q_this, .inr (8, [.ref q_text, .int v_size, .int y_at_5, .ref q_read, .ref q_l, .ref q_stands, .ref q_kept, .int v_keptMany, .ref q_one, .ref q_two, .ref q_ways, .ref q_now, .ref q_then])), (q_text, .inl (ca 0, 500, .inl v_text)), (q_read, .inl (ca 0, 336, .inl v_read))] → va_S A s.heap H locs → lv_has ls 3 [(0, .ref q_this), (1, .int r_1)] → W p l e (headSpec wsX9_placeItem rm_X9_placeItem).room s m args below meth c H locs 0 0 Q (F0 m 17 ls [.int z0_4]) := by
    intro z0_4 y_at_5 H locs ls h hP hD hS hl
    rw [j_X9_placeItem_17] at h
    refine lv_istore_n (lv' := [(2, .int z0_4), (0, .ref q_this), (1, .int r_1)]) hx hb dX9_placeItem_17 rfl hl (by decide) rfl (fun ls hl => ?_)
    refine lv_iload_n hx hb dX9_placeItem_18 rfl (lv_at hl 0 rfl) ?_
    refine lv_if_lt (tgt := 27) hx hb dX9_placeItem_19 (by decide) (fun c_6 => ?_) (fun c_6 => ?_)
    · replace h := ifp_el c_6 h
      refine lv_iconst (v := (nI 0)) hx hb dX9_placeItem_27 (by decide) ?_
      cases h
      rw [← hQe]
      exact W.zret hx hb hr rfl (fun t ht hW => ⟨⟨_, (), rfl, rfl, by rw [ht]; exact hP, va_K.moved hW.alike hK, hD⟩, hS.F ht⟩) hS.2.2 dX9_placeItem_28
    · replace h := ifn_el c_6 h
      refine lv_iload_n hx hb dX9_placeItem_22 rfl (lv_at hl 2 rfl) ?_
      refine lv_iload_n hx hb dX9_placeItem_23 rfl (lv_at hl 0 rfl) ?_
      refine lv_icmp_ne (tgt := 29) hx hb dX9_placeItem_24 (by decide) (fun c_7 => ?_) (fun c_7 => ?_)
      · replace h := ifn_el c_7 h
        refine lv_aload_n hx hb dX9_placeItem_29 rfl (lv_at hl 1 rfl) ?_
        refine va_get (D := D) (ci := 8) (v := .ref q_read) (C := RX9) (T := TX9) (N := 13) hx hb hts i_X9 hown hK hP 0 rfl rfl 3 (by decide) k_13 (fun _ h9 => h9) rfl dX9_placeItem_30 ?_
        refine lv_sipush (v := (nI 282)) hx hb dX9_placeItem_33 (by decide) ?_
        refine lv_iload_n hx hb dX9_placeItem_36 rfl (lv_at hl 2 rfl) ?_
        refine lv_iadd hx hb dX9_placeItem_37 ?_
        refine lv_iload_n hx hb dX9_placeItem_38 rfl (lv_at hl 0 rfl) ?_
        obtain ⟨hi_8, h⟩ := ck_el h
        refine va_iast hx hb hK hP hD hS 2 0 rfl rfl hi_8 dX9_placeItem_39 (fun H locs hP hD hS => ?_)
        have hP : va_P D vwCl [(q_this, .inr (8, [.ref q_text, .int v_size, .int y_at_5, .ref q_read, .ref q_l, .ref q_stands, .ref q_kept, .int v_keptMany, .ref q_one, .ref q_two, .ref q_ways, .ref q_now, .ref q_then])), (q_text, .inl (ca 0, 500, .inl v_text)), (q_read, .inl (ca 0, 336, .inl (upd v_read ((nI 282) + r_1).toNatClampNeg z0_4)))] H := hP
        have hD : va_D A [(q_this, .inr (8, [.ref q_text, .int v_size, .int y_at_5, .ref q_read, .ref q_l, .ref q_stands, .ref q_kept, .int v_keptMany, .ref q_one, .ref q_two, .ref q_ways, .ref q_now, .ref q_then])), (q_text, .inl (ca 0, 500, .inl v_text)), (q_read, .inl (ca 0, 336, .inl (upd v_read ((nI 282) + r_1).toNatClampNeg z0_4)))] := hD
        refine lv_iconst (v := (nI 1)) hx hb dX9_placeItem_40 (by decide) ?_
        cases h
        rw [← hQe]
        exact W.zret hx hb hr rfl (fun t ht hW => ⟨⟨_, (), rfl, rfl, by rw [ht]; exact hP, va_K.moved hW.alike hK, hD⟩, hS.F ht⟩) hS.2.2 dX9_placeItem_41
      · replace h := ifp_el c_7 h
        refine lv_iconst (v := (nI 0)) hx hb dX9_placeItem_27 (by decide) ?_
        cases h
        rw [← hQe]
        exact W.zret hx hb hr rfl (fun t ht hW => ⟨⟨_, (), rfl, rfl, by rw [ht]; exact hP, va_K.moved hW.alike hK, hD⟩, hS.F ht⟩) hS.2.2 dX9_placeItem_28
  refine lv_if_ge (tgt := 13) hx hb dX9_placeItem_6 (by decide) (fun c_9 => ?_) (fun c_9 => ?_)
  · replace h := ifp_el c_9 h
    refine lv_aload_n hx hb dX9_placeItem_13 rfl (lv_at hl 1 rfl) ?_
    obtain ⟨r_10, y_at_11, hg_12, h⟩ := bd2_el h
    refine kx_Vi (As := []) (rest := []) (wr := [(q_read, .inl (ca 0, 336, .inl v_read))]) (w1 := [(q_this, .inr (8, [.ref q_text, .int v_size, .int y_at_11, .ref q_read, .ref q_l, .ref q_stands, .ref q_kept, .int v_keptMany, .ref q_one, .ref q_two, .ref q_ways, .ref q_now, .ref q_then])), (q_text, .inl (ca 0, 500, .inl v_text))]) (wn := [(q_this, .inr (8, [.ref q_text, .int v_size, .int y_at_11, .ref q_read, .ref q_l, .ref q_stands, .ref q_kept, .int v_keptMany, .ref q_one, .ref q_two, .ref q_ways, .ref q_now, .ref q_then])), (q_text, .inl (ca 0, 500, .inl v_text)), (q_read, .inl (ca 0, 336, .inl v_read))]) ⟨hx, hb, hml, hown, hts⟩ (c_X9_sound l D ca H.size q_this q_text q_read q_l q_stands q_kept q_one q_two q_ways q_now q_then v_size y_at_2 v_keptMany v_text r_10 y_at_11 hg_12) (cwV 0 hts gX9_placeItem_X9_sound rfl rfl rfl (by decide +kernel) ⟨(Nat.le_of_ble_eq_true rfl), (Nat.le_of_ble_eq_true rfl)⟩) hK hP hD hS hA (ci := 8) (q0 := 0) rfl rfl [0, 1] [2] [1, 2, 0] rfl rfl rfl rfl (by decide) rfl rfl rfl hl.1 rfl (Nat.le_of_ble_eq_true rfl) dX9_placeItem_14 ⟨Nat.zero_le _, Nat.zero_le _⟩ (fun H locs hP hD hS => ?_)
    exact hj_17 _ _ _ _ _ h hP hD hS (lv_sub hl [1, 0] rfl)
  · replace h := ifn_el c_9 h
    refine lv_iconst (v := (-1 : Int32)) hx hb dX9_placeItem_9 (by decide) ?_
    refine lv_goto (tgt := 17) hx hb dX9_placeItem_10 (by decide) ?_
    exact hj_17 _ _ _ _ _ h hP hD hS (lv_sub hl [1, 0] rfl)
def D_X9_pairItem (F : Nat) (p1 : Int32) (p2 : Int32) (p3 : Int32) (v_size : Int32) (v_at : Int32) (v_text : Nat → Int32) (v_read : Nat → Int32) : Option (Int32 × Int32 × (Nat → Int32)) := bd2 (D_X9_number F p2 p3 v_size v_at v_text) (fun r_1 y_at_2 => ck 336 p1 (ck 336 p1 ((if ((upd v_read p1.toNatClampNeg r_1) p1.toNatClampNeg) < 0 then some ((nI 0), y_at_2, (upd v_read p1.toNatClampNeg r_1)) else bd2 (D_X9_takes (nI 44) v_size y_at_2 v_text) (fun r_7 y_at_8 => (if r_7 = 0 then some ((nI 0), y_at_8, (upd v_read p1.toNatClampNeg r_1)) else bd2 (D_X9_number F p2 p3 v_size y_at_8 v_text) (fun r_11 y_at_12 => ck 336 (p1 + (nI 1)) (ck 336 (p1 + (nI 1)) ((if ((upd (upd v_read p1.toNatClampNeg r_1) (p1 + (nI 1)).toNatClampNeg r_11) (p1 + (nI 1)).toNatClampNeg) < 0 then some ((nI 0), y_at_12, (upd (upd v_read p1.toNatClampNeg r_1) (p1 + (nI 1)).toNatClampNeg r_11)) else some ((nI 1), y_at_12, (upd (upd v_read p1.toNatClampNeg r_1) (p1 + (nI 1)).toNatClampNeg r_11))))))))))))
abbrev rm_X9_pairItem : Room := { frames := 2, cells := 0, slots := 0, locals := 49 }
set_option maxHeartbeats 4000000 in
set_option maxRecDepth 100000 in
theorem c_X9_pairItem (l : Launch) (D : va_G) (ca : Nat → ClassId) (F : Nat) (sz : Nat) (q_this q_text q_read q_l q_stands q_kept q_one q_two q_ways q_now q_then : Nat) (p1 : Int32) (p2 : Int32) (p3 : Int32) (v_size : Int32) (v_at : Int32) (v_keptMany : Int32) (v_text : Nat → Int32) (v_read : Nat → Int32) (r : Int32) (o_at : Int32) (o_read : Nat → Int32) (h : D_X9_pairItem F p1 p2 p3 v_size v_at v_text v_read = some (r, o_at, o_read)) : Met l yX9_pairItem wsX9_pairItem rm_X9_pairItem (va_Pc [.ref q_this, .int p1, .int p2, .int p3] (kPre D ca [(q_this, .inr (8, [.ref q_text, .int v_size, .int v_at, .ref q_read, .ref q_l, .ref q_stands, .ref q_kept, .int v_keptMany, .ref q_one, .ref q_two, .ref q_ways, .ref q_now, .ref q_then])), (q_text, .inl (ca 0, 500, .inl v_text)), (q_read, .inl (ca 0, 336, .inl v_read))] sz)) (kQi D ca (va_A [(q_this, .inr (8, [.ref q_text, .int v_size, .int v_at, .ref q_read, .ref q_l, .ref q_stands, .ref q_kept, .int v_keptMany, .ref q_one, .ref q_two, .ref q_ways, .ref q_now, .ref q_then])), (q_text, .inl (ca 0, 500, .inl v_text)), (q_read, .inl (ca 0, 336, .inl v_read))] sz) [(q_this, .inr (8, [.ref q_text, .int v_size, .int o_at, .ref q_read, .ref q_l, .ref q_stands, .ref q_kept, .int v_keptMany, .ref q_one, .ref q_two, .ref q_ways, .ref q_now, .ref q_then])), (q_text, .inl (ca 0, 500, .inl v_text)), (q_read, .inl (ca 0, 336, .inl o_read))] r) 0 0 (va_A [(q_this, .inr (8, [.ref q_text, .int v_size, .int v_at, .ref q_read, .ref q_l, .ref q_stands, .ref q_kept, .int v_keptMany, .ref q_one, .ref q_two, .ref q_ways, .ref q_now, .ref q_then])), (q_text, .inl (ca 0, 500, .inl v_text)), (q_read, .inl (ca 0, 336, .inl v_read))] sz) := by
  refine Met.ofW (cc := cX9_pairItem) (maxL := 4) (ret := (some .boolean)) (by decide +kernel) rfl ?_
  intro p e s m args below meth c s₁ B hml hv
  obtain ⟨rfl, hsz, hP, hK, hD0⟩ := hv
  have hx := B.exec
  have hb := B.bytes
  have hr := B.returns
  have hts := atoms_spec (ws := wsX9_pairItem) B.pre
  have hown : s.vm.findClass RX9 = some m.cls := findClass_of_methodNamed B.named
  have hlocks := B.notSynchronized
  clear B
  subst hsz
  have hD := hD0.self (sz := s.heap.size)
  generalize hAe : va_A [(q_this, .inr (8, [.ref q_text, .int v_size, .int v_at, .ref q_read, .ref q_l, .ref q_stands, .ref q_kept, .int v_keptMany, .ref q_one, .ref q_two, .ref q_ways, .ref q_now, .ref q_then])), (q_text, .inl (ca 0, 500, .inl v_text)), (q_read, .inl (ca 0, 336, .inl v_read))] s.heap.size = A at hD ⊢
  have hA : ∀ q : Nat, s.heap.size ≤ q → A q := fun q h => by rw [← hAe]; exact Or.inr h
  have hS : va_S A s.heap s.heap [] := va_S.rf
  have hl := lv_entry ([.ref q_this, .int p1, .int p2, .int p3]) (n := 4) (Nat.le_of_ble_eq_true rfl)
  rw [lg_entry_eq]
  generalize (lg_sl ([.ref q_this, .int p1, .int p2, .int p3]) ++ List.replicate (4 - (lg_sl ([.ref q_this, .int p1, .int p2, .int p3])).length) Slot.unset).toArray = ls at hl ⊢
  have hl : lv_has ls 4 [(0, .ref q_this), (1, .int p1), (2, .int p2), (3, .int p3)] := hl
  generalize ([.ref q_this, .int p1, .int p2, .int p3] : List Value).toArray = args at hts ⊢
  generalize hQe : MQ below (kQi D ca (A) [(q_this, .inr (8, [.ref q_text, .int v_size, .int o_at, .ref q_read, .ref q_l, .ref q_stands, .ref q_kept, .int v_keptMany, .ref q_one, .ref q_two, .ref q_ways, .ref q_now, .ref q_then])), (q_text, .inl (ca 0, 500, .inl v_text)), (q_read, .inl (ca 0, 336, .inl o_read))] r) args s 0 0 A = Q
  have i_X9 : ∀ w ∈ u_ws RX9 TX9 13, w ∈ wsX9_pairItem := by decide +kernel
  have k_13 := hts (.fieldLink RX9 13 "TradeWordsModel" "read" "[I") (by decide +kernel)
  rw [D_X9_pairItem] at h
  refine lv_aload_n hx hb dX9_pairItem_0 rfl (lv_at hl 0 rfl) ?_
  refine va_get (D := D) (ci := 8) (v := .ref q_read) (C := RX9) (T := TX9) (N := 13) hx hb hts i_X9 hown hK hP 0 rfl rfl 3 (by decide) k_13 (fun _ h9 => h9) rfl dX9_pairItem_1 ?_
  refine lv_iload_n hx hb dX9_pairItem_4 rfl (lv_at hl 1 rfl) ?_
  refine lv_aload_n hx hb dX9_pairItem_5 rfl (lv_at hl 0 rfl) ?_
  refine lv_iload_n hx hb dX9_pairItem_6 rfl (lv_at hl 2 rfl) ?_
  refine lv_iload_n hx hb dX9_pairItem_7 rfl (lv_at hl 3 rfl) ?_
  obtain ⟨r_1, y_at_2, hg_3, h⟩ := bd2_el h
  refine kx_Vi (As := [.int p2, .int p3]) (rest := [.int p1, .ref q_read]) (wr := [(q_read, .inl (ca 0, 336, .inl v_read))]) (w1 := [(q_this, .inr (8, [.ref q_text, .int v_size, .int y_at_2, .ref q_read, .ref q_l, .ref q_stands, .ref q_kept, .int v_keptMany, .ref q_one, .ref q_two, .ref q_ways, .ref q_now, .ref q_then])), (q_text, .inl (ca 0, 500, .inl v_text))]) (wn := [(q_this, .inr (8, [.ref q_text, .int v_size, .int y_at_2, .ref q_read, .ref q_l, .ref q_stands, .ref q_kept, .int v_keptMany, .ref q_one, .ref q_two, .ref q_ways, .ref q_now, .ref q_then])), (q_text, .inl (ca 0, 500, .inl v_text)), (q_read, .inl (ca 0, 336, .inl v_read))]) ⟨hx, hb, hml, hown, hts⟩ (c_X9_number l D ca F s.heap.size q_this q_text q_read q_l q_stands q_kept q_one q_two q_ways q_now q_then p2 p3 v_size v_at v_keptMany v_text r_1 y_at_2 hg_3) (cwV 2 hts gX9_pairItem_X9_number rfl rfl rfl (by decide +kernel) ⟨(Nat.le_of_ble_eq_true rfl), (Nat.le_of_ble_eq_true rfl)⟩) hK hP hD hS hA (ci := 8) (q0 := 0) rfl rfl [0, 1] [2] [1, 2, 0] rfl rfl rfl rfl (by decide) rfl rfl rfl hl.1 rfl (Nat.le_of_ble_eq_true rfl) dX9_pairItem_8 ⟨Nat.zero_le _, Nat.zero_le _⟩ (fun H locs hP hD hS => ?_)
  obtain ⟨hi_4, h⟩ := ck_el h
  refine va_iast hx hb hK hP hD hS 2 0 rfl rfl hi_4 dX9_pairItem_11 (fun H locs hP hD hS => ?_)
  have hP : va_P D vwCl [(q_this, .inr (8, [.ref q_text, .int v_size, .int y_at_2, .ref q_read, .ref q_l, .ref q_stands, .ref q_kept, .int v_keptMany, .ref q_one, .ref q_two, .ref q_ways, .ref q_now, .ref q_then])), (q_text, .inl (ca 0, 500, .inl v_text)), (q_read, .inl (ca 0, 336, .inl (upd v_read p1.toNatClampNeg r_1)))] H := hP
  have hD : va_D A [(q_this, .inr (8, [.ref q_text, .int v_size, .int y_at_2, .ref q_read, .ref q_l, .ref q_stands, .ref q_kept, .int v_keptMany, .ref q_one, .ref q_two, .ref q_ways, .ref q_now, .ref q_then])), (q_text, .inl (ca 0, 500, .inl v_text)), (q_read, .inl (ca 0, 336, .inl (upd v_read p1.toNatClampNeg r_1)))] := hD
  refine lv_aload_n hx hb dX9_pairItem_12 rfl (lv_at hl 0 rfl) ?_
  refine va_get (D := D) (ci := 8) (v := .ref q_read) (C := RX9) (T := TX9) (N := 13) hx hb hts i_X9 hown hK hP 0 rfl rfl 3 (by decide) k_13 (fun _ h9 => h9) rfl dX9_pairItem_13 ?_
  refine lv_iload_n hx hb dX9_pairItem_16 rfl (lv_at hl 1 rfl) ?_
  obtain ⟨hi_5, h⟩ := ck_el h
  refine va_iald hx hb hK hP 2 0 rfl rfl hi_5 dX9_pairItem_17 ?_
  refine lv_if_lt (tgt := 30) hx hb dX9_pairItem_18 (by decide) (fun c_6 => ?_) (fun c_6 => ?_)
  · replace h := ifp_el c_6 h
    refine lv_iconst (v := (nI 0)) hx hb dX9_pairItem_30 (by decide) ?_
    cases h
    rw [← hQe]
    exact W.zret hx hb hr rfl (fun t ht hW => ⟨⟨_, (), rfl, rfl, by rw [ht]; exact hP, va_K.moved hW.alike hK, hD⟩, hS.F ht⟩) hS.2.2 dX9_pairItem_31
  · replace h := ifn_el c_6 h
    refine lv_aload_n hx hb dX9_pairItem_21 rfl (lv_at hl 0 rfl) ?_
    refine lv_bipush (v := (nI 44)) hx hb dX9_pairItem_22 (by decide) ?_
    obtain ⟨r_7, y_at_8, hg_9, h⟩ := bd2_el h
    refine kx_Vi (As := [.int (nI 44)]) (rest := []) (wr := [(q_read, .inl (ca 0, 336, .inl (upd v_read p1.toNatClampNeg r_1)))]) (w1 := [(q_this, .inr (8, [.ref q_text, .int v_size, .int y_at_8, .ref q_read, .ref q_l, .ref q_stands, .ref q_kept, .int v_keptMany, .ref q_one, .ref q_two, .ref q_ways, .ref q_now, .ref q_then])), (q_text, .inl (ca 0, 500, .inl v_text))]) (wn := [(q_this, .inr (8, [.ref q_text, .int v_size, .int y_at_8, .ref q_read, .ref q_l, .ref q_stands, .ref q_kept, .int v_keptMany, .ref q_one, .ref q_two, .ref q_ways, .ref q_now, .ref q_then])), (q_text, .inl (ca 0, 500, .inl v_text)), (q_read, .inl (ca 0, 336, .inl (upd v_read p1.toNatClampNeg r_1)))]) ⟨hx, hb, hml, hown, hts⟩ (c_X9_takes l D ca H.size q_this q_text q_read q_l q_stands q_kept q_one q_two q_ways q_now q_then (nI 44) v_size y_at_2 v_keptMany v_text r_7 y_at_8 hg_9) (cwV 1 hts gX9_pairItem_X9_takes rfl rfl rfl (by decide +kernel) ⟨(Nat.le_of_ble_eq_true rfl), (Nat.le_of_ble_eq_true rfl)⟩) hK hP hD hS hA (ci := 8) (q0 := 0) rfl rfl [0, 1] [2] [1, 2, 0] rfl rfl rfl rfl (by decide) rfl rfl rfl hl.1 rfl (Nat.le_of_ble_eq_true rfl) dX9_pairItem_24 ⟨Nat.zero_le _, Nat.zero_le _⟩ (fun H locs hP hD hS => ?_)
    refine lv_if_ne (tgt := 32) hx hb dX9_pairItem_27 (by decide) (fun c_10 => ?_) (fun c_10 => ?_)
    · replace h := ifn_el c_10 h
      refine lv_aload_n hx hb dX9_pairItem_32 rfl (lv_at hl 0 rfl) ?_
      refine va_get (D := D) (ci := 8) (v := .ref q_read) (C := RX9) (T := TX9) (N := 13) hx hb hts i_X9 hown hK hP 0 rfl rfl 3 (by decide) k_13 (fun _ h9 => h9) rfl dX9_pairItem_33 ?_
      refine lv_iload_n hx hb dX9_pairItem_36 rfl (lv_at hl 1 rfl) ?_
      refine lv_iconst (v := (nI 1)) hx hb dX9_pairItem_37 (by decide) ?_
      refine lv_iadd hx hb dX9_pairItem_38 ?_
      refine lv_aload_n hx hb dX9_pairItem_39 rfl (lv_at hl 0 rfl) ?_
      refine lv_iload_n hx hb dX9_pairItem_40 rfl (lv_at hl 2 rfl) ?_
      refine lv_iload_n hx hb dX9_pairItem_41 rfl (lv_at hl 3 rfl) ?_
      obtain ⟨r_11, y_at_12, hg_13, h⟩ := bd2_el h
      refine kx_Vi (As := [.int p2, .int p3]) (rest := [.int (p1 + (nI 1)), .ref q_read]) (wr := [(q_read, .inl (ca 0, 336, .inl (upd v_read p1.toNatClampNeg r_1)))]) (w1 := [(q_this, .inr (8, [.ref q_text, .int v_size, .int y_at_12, .ref q_read, .ref q_l, .ref q_stands, .ref q_kept, .int v_keptMany, .ref q_one, .ref q_two, .ref q_ways, .ref q_now, .ref q_then])), (q_text, .inl (ca 0, 500, .inl v_text))]) (wn := [(q_this, .inr (8, [.ref q_text, .int v_size, .int y_at_12, .ref q_read, .ref q_l, .ref q_stands, .ref q_kept, .int v_keptMany, .ref q_one, .ref q_two, .ref q_ways, .ref q_now, .ref q_then])), (q_text, .inl (ca 0, 500, .inl v_text)), (q_read, .inl (ca 0, 336, .inl (upd v_read p1.toNatClampNeg r_1)))]) ⟨hx, hb, hml, hown, hts⟩ (c_X9_number l D ca F H.size q_this q_text q_read q_l q_stands q_kept q_one q_two q_ways q_now q_then p2 p3 v_size y_at_8 v_keptMany v_text r_11 y_at_12 hg_13) (cwV 2 hts gX9_pairItem_X9_number rfl rfl rfl (by decide +kernel) ⟨(Nat.le_of_ble_eq_true rfl), (Nat.le_of_ble_eq_true rfl)⟩) hK hP hD hS hA (ci := 8) (q0 := 0) rfl rfl [0, 1] [2] [1, 2, 0] rfl rfl rfl rfl (by decide) rfl rfl rfl hl.1 rfl (Nat.le_of_ble_eq_true rfl) dX9_pairItem_42 ⟨Nat.zero_le _, Nat.zero_le _⟩ (fun H locs hP hD hS => ?_)
      obtain ⟨hi_14, h⟩ := ck_el h
      refine va_iast hx hb hK hP hD hS 2 0 rfl rfl hi_14 dX9_pairItem_45 (fun H locs hP hD hS => ?_)
      have hP : va_P D vwCl [(q_this, .inr (8, [.ref q_text, .int v_size, .int y_at_12, .ref q_read, .ref q_l, .ref q_stands, .ref q_kept, .int v_keptMany, .ref q_one, .ref q_two, .ref q_ways, .ref q_now, .ref q_then])), (q_text, .inl (ca 0, 500, .inl v_text)), (q_read, .inl (ca 0, 336, .inl (upd (upd v_read p1.toNatClampNeg r_1) (p1 + (nI 1)).toNatClampNeg r_11)))] H := hP
      have hD : va_D A [(q_this, .inr (8, [.ref q_text, .int v_size, .int y_at_12, .ref q_read, .ref q_l, .ref q_stands, .ref q_kept, .int v_keptMany, .ref q_one, .ref q_two, .ref q_ways, .ref q_now, .ref q_then])), (q_text, .inl (ca 0, 500, .inl v_text)), (q_read, .inl (ca 0, 336, .inl (upd (upd v_read p1.toNatClampNeg r_1) (p1 + (nI 1)).toNatClampNeg r_11)))] := hD
      refine lv_aload_n hx hb dX9_pairItem_46 rfl (lv_at hl 0 rfl) ?_
      refine va_get (D := D) (ci := 8) (v := .ref q_read) (C := RX9) (T := TX9) (N := 13) hx hb hts i_X9 hown hK hP 0 rfl rfl 3 (by decide) k_13 (fun _ h9 => h9) rfl dX9_pairItem_47 ?_
      refine lv_iload_n hx hb dX9_pairItem_50 rfl (lv_at hl 1 rfl) ?_
      refine lv_iconst (v := (nI 1)) hx hb dX9_pairItem_51 (by decide) ?_
      refine lv_iadd hx hb dX9_pairItem_52 ?_
      obtain ⟨hi_15, h⟩ := ck_el h
      refine va_iald hx hb hK hP 2 0 rfl rfl hi_15 dX9_pairItem_53 ?_
      refine lv_if_lt (tgt := 61) hx hb dX9_pairItem_54 (by decide) (fun c_16 => ?_) (fun c_16 => ?_)
      · replace h := ifp_el c_16 h
        refine lv_iconst (v := (nI 0)) hx hb dX9_pairItem_61 (by decide) ?_
        cases h
        rw [← hQe]
        exact W.zret hx hb hr rfl (fun t ht hW => ⟨⟨_, (), rfl, rfl, by rw [ht]; exact hP, va_K.moved hW.alike hK, hD⟩, hS.F ht⟩) hS.2.2 dX9_pairItem_62
      · replace h := ifn_el c_16 h
        refine lv_iconst (v := (nI 1)) hx hb dX9_pairItem_57 (by decide) ?_
        refine lv_goto (tgt := 62) hx hb dX9_pairItem_58 (by decide) ?_
        cases h
        rw [← hQe]
        exact W.zret hx hb hr rfl (fun t ht hW => ⟨⟨_, (), rfl, rfl, by rw [ht]; exact hP, va_K.moved hW.alike hK, hD⟩, hS.F ht⟩) hS.2.2 dX9_pairItem_62
    · replace h := ifp_el c_10 h
      refine lv_iconst (v := (nI 0)) hx hb dX9_pairItem_30 (by decide) ?_
      cases h
      rw [← hQe]
      exact W.zret hx hb hr rfl (fun t ht hW => ⟨⟨_, (), rfl, rfl, by rw [ht]; exact hP, va_K.moved hW.alike hK, hD⟩, hS.F ht⟩) hS.2.2 dX9_pairItem_31
def D_X9_oneItem (F : Nat) (p1 : Int32) (p2 : Int32) (p3 : Int32) (v_size : Int32) (v_at : Int32) (v_text : Nat → Int32) (v_read : Nat → Int32) : Option (Int32 × Int32 × (Nat → Int32)) := bd2 (D_X9_number F p2 p3 v_size v_at v_text) (fun r_1 y_at_2 => ck 336 p1 (ck 336 p1 ((if ((upd v_read p1.toNatClampNeg r_1) p1.toNatClampNeg) < 0 then some ((nI 0), y_at_2, (upd v_read p1.toNatClampNeg r_1)) else some ((nI 1), y_at_2, (upd v_read p1.toNatClampNeg r_1))))))
abbrev rm_X9_oneItem : Room := { frames := 2, cells := 0, slots := 0, locals := 49 }
set_option maxHeartbeats 4000000 in
set_option maxRecDepth 100000 in
theorem c_X9_oneItem (l : Launch) (D : va_G) (ca : Nat → ClassId) (F : Nat) (sz : Nat) (q_this q_text q_read q_l q_stands q_kept q_one q_two q_ways q_now q_then : Nat) (p1 : Int32) (p2 : Int32) (p3 : Int32) (v_size : Int32) (v_at : Int32) (v_keptMany : Int32) (v_text : Nat → Int32) (v_read : Nat → Int32) (r : Int32) (o_at : Int32) (o_read : Nat → Int32) (h : D_X9_oneItem F p1 p2 p3 v_size v_at v_text v_read = some (r, o_at, o_read)) : Met l yX9_oneItem wsX9_oneItem rm_X9_oneItem (va_Pc [.ref q_this, .int p1, .int p2, .int p3] (kPre D ca [(q_this, .inr (8, [.ref q_text, .int v_size, .int v_at, .ref q_read, .ref q_l, .ref q_stands, .ref q_kept, .int v_keptMany, .ref q_one, .ref q_two, .ref q_ways, .ref q_now, .ref q_then])), (q_text, .inl (ca 0, 500, .inl v_text)), (q_read, .inl (ca 0, 336, .inl v_read))] sz)) (kQi D ca (va_A [(q_this, .inr (8, [.ref q_text, .int v_size, .int v_at, .ref q_read, .ref q_l, .ref q_stands, .ref q_kept, .int v_keptMany, .ref q_one, .ref q_two, .ref q_ways, .ref q_now, .ref q_then])), (q_text, .inl (ca 0, 500, .inl v_text)), (q_read, .inl (ca 0, 336, .inl v_read))] sz) [(q_this, .inr (8, [.ref q_text, .int v_size, .int o_at, .ref q_read, .ref q_l, .ref q_stands, .ref q_kept, .int v_keptMany, .ref q_one, .ref q_two, .ref q_ways, .ref q_now, .ref q_then])), (q_text, .inl (ca 0, 500, .inl v_text)), (q_read, .inl (ca 0, 336, .inl o_read))] r) 0 0 (va_A [(q_this, .inr (8, [.ref q_text, .int v_size, .int v_at, .ref q_read, .ref q_l, .ref q_stands, .ref q_kept, .int v_keptMany, .ref q_one, .ref q_two, .ref q_ways, .ref q_now, .ref q_then])), (q_text, .inl (ca 0, 500, .inl v_text)), (q_read, .inl (ca 0, 336, .inl v_read))] sz) := by
  refine Met.ofW (cc := cX9_oneItem) (maxL := 4) (ret := (some .boolean)) (by decide +kernel) rfl ?_
  intro p e s m args below meth c s₁ B hml hv
  obtain ⟨rfl, hsz, hP, hK, hD0⟩ := hv
  have hx := B.exec
  have hb := B.bytes
  have hr := B.returns
  have hts := atoms_spec (ws := wsX9_oneItem) B.pre
  have hown : s.vm.findClass RX9 = some m.cls := findClass_of_methodNamed B.named
  have hlocks := B.notSynchronized
  clear B
  subst hsz
  have hD := hD0.self (sz := s.heap.size)
  generalize hAe : va_A [(q_this, .inr (8, [.ref q_text, .int v_size, .int v_at, .ref q_read, .ref q_l, .ref q_stands, .ref q_kept, .int v_keptMany, .ref q_one, .ref q_two, .ref q_ways, .ref q_now, .ref q_then])), (q_text, .inl (ca 0, 500, .inl v_text)), (q_read, .inl (ca 0, 336, .inl v_read))] s.heap.size = A at hD ⊢
  have hA : ∀ q : Nat, s.heap.size ≤ q → A q := fun q h => by rw [← hAe]; exact Or.inr h
  have hS : va_S A s.heap s.heap [] := va_S.rf
  have hl := lv_entry ([.ref q_this, .int p1, .int p2, .int p3]) (n := 4) (Nat.le_of_ble_eq_true rfl)
  rw [lg_entry_eq]
  generalize (lg_sl ([.ref q_this, .int p1, .int p2, .int p3]) ++ List.replicate (4 - (lg_sl ([.ref q_this, .int p1, .int p2, .int p3])).length) Slot.unset).toArray = ls at hl ⊢
  have hl : lv_has ls 4 [(0, .ref q_this), (1, .int p1), (2, .int p2), (3, .int p3)] := hl
  generalize ([.ref q_this, .int p1, .int p2, .int p3] : List Value).toArray = args at hts ⊢
  generalize hQe : MQ below (kQi D ca (A) [(q_this, .inr (8, [.ref q_text, .int v_size, .int o_at, .ref q_read, .ref q_l, .ref q_stands, .ref q_kept, .int v_keptMany, .ref q_one, .ref q_two, .ref q_ways, .ref q_now, .ref q_then])), (q_text, .inl (ca 0, 500, .inl v_text)), (q_read, .inl (ca 0, 336, .inl o_read))] r) args s 0 0 A = Q
  have i_X9 : ∀ w ∈ u_ws RX9 TX9 13, w ∈ wsX9_oneItem := by decide +kernel
  have k_13 := hts (.fieldLink RX9 13 "TradeWordsModel" "read" "[I") (by decide +kernel)
  rw [D_X9_oneItem] at h
  refine lv_aload_n hx hb dX9_oneItem_0 rfl (lv_at hl 0 rfl) ?_
  refine va_get (D := D) (ci := 8) (v := .ref q_read) (C := RX9) (T := TX9) (N := 13) hx hb hts i_X9 hown hK hP 0 rfl rfl 3 (by decide) k_13 (fun _ h9 => h9) rfl dX9_oneItem_1 ?_
  refine lv_iload_n hx hb dX9_oneItem_4 rfl (lv_at hl 1 rfl) ?_
  refine lv_aload_n hx hb dX9_oneItem_5 rfl (lv_at hl 0 rfl) ?_
  refine lv_iload_n hx hb dX9_oneItem_6 rfl (lv_at hl 2 rfl) ?_
  refine lv_iload_n hx hb dX9_oneItem_7 rfl (lv_at hl 3 rfl) ?_
  obtain ⟨r_1, y_at_2, hg_3, h⟩ := bd2_el h
  refine kx_Vi (As := [.int p2, .int p3]) (rest := [.int p1, .ref q_read]) (wr := [(q_read, .inl (ca 0, 336, .inl v_read))]) (w1 := [(q_this, .inr (8, [.ref q_text, .int v_size, .int y_at_2, .ref q_read, .ref q_l, .ref q_stands, .ref q_kept, .int v_keptMany, .ref q_one, .ref q_two, .ref q_ways, .ref q_now, .ref q_then])), (q_text, .inl (ca 0, 500, .inl v_text))]) (wn := [(q_this, .inr (8, [.ref q_text, .int v_size, .int y_at_2, .ref q_read, .ref q_l, .ref q_stands, .ref q_kept, .int v_keptMany, .ref q_one, .ref q_two, .ref q_ways, .ref q_now, .ref q_then])), (q_text, .inl (ca 0, 500, .inl v_text)), (q_read, .inl (ca 0, 336, .inl v_read))]) ⟨hx, hb, hml, hown, hts⟩ (c_X9_number l D ca F s.heap.size q_this q_text q_read q_l q_stands q_kept q_one q_two q_ways q_now q_then p2 p3 v_size v_at v_keptMany v_text r_1 y_at_2 hg_3) (cwV 2 hts gX9_oneItem_X9_number rfl rfl rfl (by decide +kernel) ⟨(Nat.le_of_ble_eq_true rfl), (Nat.le_of_ble_eq_true rfl)⟩) hK hP hD hS hA (ci := 8) (q0 := 0) rfl rfl [0, 1] [2] [1, 2, 0] rfl rfl rfl rfl (by decide) rfl rfl rfl hl.1 rfl (Nat.le_of_ble_eq_true rfl) dX9_oneItem_8 ⟨Nat.zero_le _, Nat.zero_le _⟩ (fun H locs hP hD hS => ?_)
  obtain ⟨hi_4, h⟩ := ck_el h
  refine va_iast hx hb hK hP hD hS 2 0 rfl rfl hi_4 dX9_oneItem_11 (fun H locs hP hD hS => ?_)
  have hP : va_P D vwCl [(q_this, .inr (8, [.ref q_text, .int v_size, .int y_at_2, .ref q_read, .ref q_l, .ref q_stands, .ref q_kept, .int v_keptMany, .ref q_one, .ref q_two, .ref q_ways, .ref q_now, .ref q_then])), (q_text, .inl (ca 0, 500, .inl v_text)), (q_read, .inl (ca 0, 336, .inl (upd v_read p1.toNatClampNeg r_1)))] H := hP
  have hD : va_D A [(q_this, .inr (8, [.ref q_text, .int v_size, .int y_at_2, .ref q_read, .ref q_l, .ref q_stands, .ref q_kept, .int v_keptMany, .ref q_one, .ref q_two, .ref q_ways, .ref q_now, .ref q_then])), (q_text, .inl (ca 0, 500, .inl v_text)), (q_read, .inl (ca 0, 336, .inl (upd v_read p1.toNatClampNeg r_1)))] := hD
  refine lv_aload_n hx hb dX9_oneItem_12 rfl (lv_at hl 0 rfl) ?_
  refine va_get (D := D) (ci := 8) (v := .ref q_read) (C := RX9) (T := TX9) (N := 13) hx hb hts i_X9 hown hK hP 0 rfl rfl 3 (by decide) k_13 (fun _ h9 => h9) rfl dX9_oneItem_13 ?_
  refine lv_iload_n hx hb dX9_oneItem_16 rfl (lv_at hl 1 rfl) ?_
  obtain ⟨hi_5, h⟩ := ck_el h
  refine va_iald hx hb hK hP 2 0 rfl rfl hi_5 dX9_oneItem_17 ?_
  refine lv_if_lt (tgt := 25) hx hb dX9_oneItem_18 (by decide) (fun c_6 => ?_) (fun c_6 => ?_)
  · replace h := ifp_el c_6 h
    refine lv_iconst (v := (nI 0)) hx hb dX9_oneItem_25 (by decide) ?_
    cases h
    rw [← hQe]
    exact W.zret hx hb hr rfl (fun t ht hW => ⟨⟨_, (), rfl, rfl, by rw [ht]; exact hP, va_K.moved hW.alike hK, hD⟩, hS.F ht⟩) hS.2.2 dX9_oneItem_26
  · replace h := ifn_el c_6 h
    refine lv_iconst (v := (nI 1)) hx hb dX9_oneItem_21 (by decide) ?_
    refine lv_goto (tgt := 26) hx hb dX9_oneItem_22 (by decide) ?_
    cases h
    rw [← hQe]
    exact W.zret hx hb hr rfl (fun t ht hW => ⟨⟨_, (), rfl, rfl, by rw [ht]; exact hP, va_K.moved hW.alike hK, hD⟩, hS.F ht⟩) hS.2.2 dX9_oneItem_26
def b_X9_joinItem_32 (v_size : Int32) (v_text : Nat → Int32) (F : Nat) (x1_4 : Int32) (rec32 : Int32 → Int32 → (Nat → Int32) → Option (Int32 × Int32 × (Nat → Int32))) (x2_5 : Int32) (y_at_6 : Int32) (y_read_7 : Nat → Int32) : Option (Int32 × Int32 × (Nat → Int32)) := (if (nI 3) ≤ x2_5 then ck 336 (nI 304) (nm ((y_read_7 (nI 304).toNatClampNeg) + (nI 1)) (fun w_10 => ck 336 (nI 304) (ck 336 x1_4 (ck 336 (x1_4 + (nI 1)) ((if ((upd y_read_7 (nI 304).toNatClampNeg w_10) x1_4.toNatClampNeg) = ((upd y_read_7 (nI 304).toNatClampNeg w_10) (x1_4 + (nI 1)).toNatClampNeg) then some ((nI 0), y_at_6, (upd y_read_7 (nI 304).toNatClampNeg w_10)) else ck 336 x1_4 (ck 336 (x1_4 + (nI 2)) ((if ((upd y_read_7 (nI 304).toNatClampNeg w_10) x1_4.toNatClampNeg) = ((upd y_read_7 (nI 304).toNatClampNeg w_10) (x1_4 + (nI 2)).toNatClampNeg) then some ((nI 0), y_at_6, (upd y_read_7 (nI 304).toNatClampNeg w_10)) else ck 336 (x1_4 + (nI 1)) (ck 336 (x1_4 + (nI 2)) ((if ((upd y_read_7 (nI 304).toNatClampNeg w_10) (x1_4 + (nI 1)).toNatClampNeg) = ((upd y_read_7 (nI 304).toNatClampNeg w_10) (x1_4 + (nI 2)).toNatClampNeg) then some ((nI 0), y_at_6, (upd y_read_7 (nI 304).toNatClampNeg w_10)) else some ((nI 1), y_at_6, (upd y_read_7 (nI 304).toNatClampNeg w_10)))))))))))))) else bd2 (D_X9_number F (nI 0) (nI 7) v_size y_at_6 v_text) (fun r_21 y_at_22 => ck 336 (x1_4 + x2_5) (ck 336 (x1_4 + x2_5) ((if ((upd y_read_7 (x1_4 + x2_5).toNatClampNeg r_21) (x1_4 + x2_5).toNatClampNeg) < 0 then some ((nI 0), y_at_22, (upd y_read_7 (x1_4 + x2_5).toNatClampNeg r_21)) else (if (nI 2) ≤ x2_5 then nm (x2_5 + (nI 1)) (fun x2_28 => rec32 x2_28 y_at_22 (upd y_read_7 (x1_4 + x2_5).toNatClampNeg r_21)) else bd2 (D_X9_takes (nI 44) v_size y_at_22 v_text) (fun r_30 y_at_31 => (if r_30 = 0 then some ((nI 0), y_at_31, (upd y_read_7 (x1_4 + x2_5).toNatClampNeg r_21)) else nm (x2_5 + (nI 1)) (fun x2_34 => rec32 x2_34 y_at_31 (upd y_read_7 (x1_4 + x2_5).toNatClampNeg r_21))))))))))
def D_X9_joinItem (F : Nat) (v_size : Int32) (v_at : Int32) (v_text : Nat → Int32) (v_read : Nat → Int32) : Option (Int32 × Int32 × (Nat → Int32)) := ck 336 (nI 304) ((if (v_read (nI 304).toNatClampNeg) = (nI 8) then some ((nI 0), v_at, v_read) else ck 336 (nI 304) (nm ((nI 305) + ((nI 3) * (v_read (nI 304).toNatClampNeg))) (fun x1_4 => lpg (T := Int32 → Int32 → (Nat → Int32) → Option (Int32 × Int32 × (Nat → Int32))) (fun _ _ _ => none) (b_X9_joinItem_32 v_size v_text F x1_4) F (nI 0) v_at v_read))))
abbrev rm_X9_joinItem : Room := { frames := 2, cells := 0, slots := 0, locals := 49 }
set_option maxHeartbeats 4000000 in
set_option maxRecDepth 100000 in
theorem c_X9_joinItem (l : Launch) (D : va_G) (ca : Nat → ClassId) (F : Nat) (sz : Nat) (q_this q_text q_read q_l q_stands q_kept q_one q_two q_ways q_now q_then : Nat) (v_size : Int32) (v_at : Int32) (v_keptMany : Int32) (v_text : Nat → Int32) (v_read : Nat → Int32) (r : Int32) (o_at : Int32) (o_read : Nat → Int32) (h : D_X9_joinItem F v_size v_at v_text v_read = some (r, o_at, o_read)) : Met l yX9_joinItem wsX9_joinItem rm_X9_joinItem (va_Pc [.ref q_this] (kPre D ca [(q_this, .inr (8, [.ref q_text, .int v_size, .int v_at, .ref q_read, .ref q_l, .ref q_stands, .ref q_kept, .int v_keptMany, .ref q_one, .ref q_two, .ref q_ways, .ref q_now, .ref q_then])), (q_text, .inl (ca 0, 500, .inl v_text)), (q_read, .inl (ca 0, 336, .inl v_read))] sz)) (kQi D ca (va_A [(q_this, .inr (8, [.ref q_text, .int v_size, .int v_at, .ref q_read, .ref q_l, .ref q_stands, .ref q_kept, .int v_keptMany, .ref q_one, .ref q_two, .ref q_ways, .ref q_now, .ref q_then])), (q_text, .inl (ca 0, 500, .inl v_text)), (q_read, .inl (ca 0, 336, .inl v_read))] sz) [(q_this, .inr (8, [.ref q_text, .int v_size, .int o_at, .ref q_read, .ref q_l, .ref q_stands, .ref q_kept, .int v_keptMany, .ref q_one, .ref q_two, .ref q_ways, .ref q_now, .ref q_then])), (q_text, .inl (ca 0, 500, .inl v_text)), (q_read, .inl (ca 0, 336, .inl o_read))] r) 0 0 (va_A [(q_this, .inr (8, [.ref q_text, .int v_size, .int v_at, .ref q_read, .ref q_l, .ref q_stands, .ref q_kept, .int v_keptMany, .ref q_one, .ref q_two, .ref q_ways, .ref q_now, .ref q_then])), (q_text, .inl (ca 0, 500, .inl v_text)), (q_read, .inl (ca 0, 336, .inl v_read))] sz) := by
  refine Met.ofW (cc := cX9_joinItem) (maxL := 3) (ret := (some .boolean)) (by decide +kernel) rfl ?_
  intro p e s m args below meth c s₁ B hml hv
  obtain ⟨rfl, hsz, hP, hK, hD0⟩ := hv
  have hx := B.exec
  have hb := B.bytes
  have hr := B.returns
  have hts := atoms_spec (ws := wsX9_joinItem) B.pre
  have hown : s.vm.findClass RX9 = some m.cls := findClass_of_methodNamed B.named
  have hlocks := B.notSynchronized
  clear B
  subst hsz
  have hD := hD0.self (sz := s.heap.size)
  generalize hAe : va_A [(q_this, .inr (8, [.ref q_text, .int v_size, .int v_at, .ref q_read, .ref q_l, .ref q_stands, .ref q_kept, .int v_keptMany, .ref q_one, .ref q_two, .ref q_ways, .ref q_now, .ref q_then])), (q_text, .inl (ca 0, 500, .inl v_text)), (q_read, .inl (ca 0, 336, .inl v_read))] s.heap.size = A at hD ⊢
  have hA : ∀ q : Nat, s.heap.size ≤ q → A q := fun q h => by rw [← hAe]; exact Or.inr h
  have hS : va_S A s.heap s.heap [] := va_S.rf
  have hl := lv_entry ([.ref q_this]) (n := 3) (Nat.le_of_ble_eq_true rfl)
  rw [lg_entry_eq]
  generalize (lg_sl ([.ref q_this]) ++ List.replicate (3 - (lg_sl ([.ref q_this])).length) Slot.unset).toArray = ls at hl ⊢
  have hl : lv_has ls 3 [(0, .ref q_this)] := hl
  generalize ([.ref q_this] : List Value).toArray = args at hts ⊢
  generalize hQe : MQ below (kQi D ca (A) [(q_this, .inr (8, [.ref q_text, .int v_size, .int o_at, .ref q_read, .ref q_l, .ref q_stands, .ref q_kept, .int v_keptMany, .ref q_one, .ref q_two, .ref q_ways, .ref q_now, .ref q_then])), (q_text, .inl (ca 0, 500, .inl v_text)), (q_read, .inl (ca 0, 336, .inl o_read))] r) args s 0 0 A = Q
  have i_X9 : ∀ w ∈ u_ws RX9 TX9 13, w ∈ wsX9_joinItem := by decide +kernel
  have k_13 := hts (.fieldLink RX9 13 "TradeWordsModel" "read" "[I") (by decide +kernel)
  rw [D_X9_joinItem] at h
  refine lv_aload_n hx hb dX9_joinItem_0 rfl (lv_at hl 0 rfl) ?_
  refine va_get (D := D) (ci := 8) (v := .ref q_read) (C := RX9) (T := TX9) (N := 13) hx hb hts i_X9 hown hK hP 0 rfl rfl 3 (by decide) k_13 (fun _ h9 => h9) rfl dX9_joinItem_1 ?_
  refine lv_sipush (v := (nI 304)) hx hb dX9_joinItem_4 (by decide) ?_
  obtain ⟨hi_1, h⟩ := ck_el h
  refine va_iald hx hb hK hP 2 0 rfl rfl hi_1 dX9_joinItem_7 ?_
  refine lv_bipush (v := (nI 8)) hx hb dX9_joinItem_8 (by decide) ?_
  refine lv_icmp_ne (tgt := 15) hx hb dX9_joinItem_10 (by decide) (fun c_2 => ?_) (fun c_2 => ?_)
  · replace h := ifn_el c_2 h
    refine lv_sipush (v := (nI 305)) hx hb dX9_joinItem_15 (by decide) ?_
    refine lv_iconst (v := (nI 3)) hx hb dX9_joinItem_18 (by decide) ?_
    refine lv_aload_n hx hb dX9_joinItem_19 rfl (lv_at hl 0 rfl) ?_
    refine va_get (D := D) (ci := 8) (v := .ref q_read) (C := RX9) (T := TX9) (N := 13) hx hb hts i_X9 hown hK hP 0 rfl rfl 3 (by decide) k_13 (fun _ h9 => h9) rfl dX9_joinItem_20 ?_
    refine lv_sipush (v := (nI 304)) hx hb dX9_joinItem_23 (by decide) ?_
    obtain ⟨hi_3, h⟩ := ck_el h
    refine va_iald hx hb hK hP 2 0 rfl rfl hi_3 dX9_joinItem_26 ?_
    refine lv_imul hx hb dX9_joinItem_27 ?_
    refine lv_iadd hx hb dX9_joinItem_28 ?_
    refine lv_nmi h (fun x1_4 h => ?_)
    refine lv_istore_n (lv' := [(1, .int x1_4), (0, .ref q_this)]) hx hb dX9_joinItem_29 rfl hl (by decide) rfl (fun ls hl => ?_)
    refine lv_iconst (v := (nI 0)) hx hb dX9_joinItem_30 (by decide) ?_
    refine lv_istore_n (lv' := [(2, .int (nI 0)), (1, .int x1_4), (0, .ref q_this)]) hx hb dX9_joinItem_31 rfl hl (by decide) rfl (fun ls hl => ?_)
    have hlp : ∀ (n : Nat) (x2_5 : Int32) (y_at_6 : Int32) (y_read_7 : Nat → Int32) (H : Heap) (locs : List Loc) (ls : Array Slot), lpg (T := Int32 → Int32 → (Nat → Int32) → Option (Int32 × Int32 × (Nat → Int32))) (fun _ _ _ => none) (b_X9_joinItem_32 v_size v_text F x1_4) n x2_5 y_at_6 y_read_7 = some (r, o_at, o_read) → va_P D vwCl [(q_this, .inr (8, [.ref q_text, .int v_size, .int y_at_6, .ref q_read, .ref q_l, .ref q_stands, .ref q_kept, .int v_keptMany, .ref q_one, .ref q_two, .ref q_ways, .ref q_now, .ref q_then])), (q_text, .inl (ca 0, 500, .inl v_text)), (q_read, .inl (ca 0, 336, .inl y_read_7))] H → va_D A [(q_this, .inr (8, [.ref q_text, .int v_size, .int y_at_6, .ref q_read, .ref q_l, .ref q_stands, .ref q_kept, .int v_keptMany, .ref q_one, .ref q_two, .ref q_ways, .ref q_now, .ref q_then])), (q_text, .inl (ca 0, 500, .inl v_text)), (q_read, .inl (ca 0, 336, .inl y_read_7))] → va_S A s.heap H locs → lv_has ls 3 [(0, .ref q_this), (1, .int x1_4), (2, .int x2_5)] → W p l e (headSpec wsX9_joinItem rm_X9_joinItem).room s m args below meth c H locs 0 0 Q (F0 m 32 ls []) := by
      intro n
      induction n with
      | zero => intro x2_5 y_at_6 y_read_7 H locs ls h; have h : (none : Option (Int32 × Int32 × (Nat → Int32))) = some _ := h; cases h
      | succ n ih =>
        intro x2_5 y_at_6 y_read_7 H locs ls h hP hD hS hl
        rw [lpg_succ, b_X9_joinItem_32] at h
        refine lv_iload_n hx hb dX9_joinItem_32 rfl (lv_at hl 2 rfl) ?_
        refine lv_iconst (v := (nI 3)) hx hb dX9_joinItem_33 (by decide) ?_
        refine lv_icmp_ge (tgt := 85) hx hb dX9_joinItem_34 (by decide) (fun c_8 => ?_) (fun c_8 => ?_)
        · replace h := ifp_el c_8 h
          refine lv_aload_n hx hb dX9_joinItem_85 rfl (lv_at hl 0 rfl) ?_
          refine va_get (D := D) (ci := 8) (v := .ref q_read) (C := RX9) (T := TX9) (N := 13) hx hb hts i_X9 hown hK hP 0 rfl rfl 3 (by decide) k_13 (fun _ h9 => h9) rfl dX9_joinItem_86 ?_
          refine lv_sipush (v := (nI 304)) hx hb dX9_joinItem_89 (by decide) ?_
          refine lv_dup2_11 hx hb dX9_joinItem_92 rfl rfl ?_
          obtain ⟨hi_9, h⟩ := ck_el h
          refine va_iald hx hb hK hP 2 0 rfl rfl hi_9 dX9_joinItem_93 ?_
          refine lv_iconst (v := (nI 1)) hx hb dX9_joinItem_94 (by decide) ?_
          refine lv_iadd hx hb dX9_joinItem_95 ?_
          refine lv_nmi h (fun w_10 h => ?_)
          obtain ⟨hi_11, h⟩ := ck_el h
          refine va_iast hx hb hK hP hD hS 2 0 rfl rfl hi_11 dX9_joinItem_96 (fun H locs hP hD hS => ?_)
          have hP : va_P D vwCl [(q_this, .inr (8, [.ref q_text, .int v_size, .int y_at_6, .ref q_read, .ref q_l, .ref q_stands, .ref q_kept, .int v_keptMany, .ref q_one, .ref q_two, .ref q_ways, .ref q_now, .ref q_then])), (q_text, .inl (ca 0, 500, .inl v_text)), (q_read, .inl (ca 0, 336, .inl (upd y_read_7 (nI 304).toNatClampNeg w_10)))] H := hP
          have hD : va_D A [(q_this, .inr (8, [.ref q_text, .int v_size, .int y_at_6, .ref q_read, .ref q_l, .ref q_stands, .ref q_kept, .int v_keptMany, .ref q_one, .ref q_two, .ref q_ways, .ref q_now, .ref q_then])), (q_text, .inl (ca 0, 500, .inl v_text)), (q_read, .inl (ca 0, 336, .inl (upd y_read_7 (nI 304).toNatClampNeg w_10)))] := hD
          refine lv_aload_n hx hb dX9_joinItem_97 rfl (lv_at hl 0 rfl) ?_
          refine va_get (D := D) (ci := 8) (v := .ref q_read) (C := RX9) (T := TX9) (N := 13) hx hb hts i_X9 hown hK hP 0 rfl rfl 3 (by decide) k_13 (fun _ h9 => h9) rfl dX9_joinItem_98 ?_
          refine lv_iload_n hx hb dX9_joinItem_101 rfl (lv_at hl 1 rfl) ?_
          obtain ⟨hi_12, h⟩ := ck_el h
          refine va_iald hx hb hK hP 2 0 rfl rfl hi_12 dX9_joinItem_102 ?_
          refine lv_aload_n hx hb dX9_joinItem_103 rfl (lv_at hl 0 rfl) ?_
          refine va_get (D := D) (ci := 8) (v := .ref q_read) (C := RX9) (T := TX9) (N := 13) hx hb hts i_X9 hown hK hP 0 rfl rfl 3 (by decide) k_13 (fun _ h9 => h9) rfl dX9_joinItem_104 ?_
          refine lv_iload_n hx hb dX9_joinItem_107 rfl (lv_at hl 1 rfl) ?_
          refine lv_iconst (v := (nI 1)) hx hb dX9_joinItem_108 (by decide) ?_
          refine lv_iadd hx hb dX9_joinItem_109 ?_
          obtain ⟨hi_13, h⟩ := ck_el h
          refine va_iald hx hb hK hP 2 0 rfl rfl hi_13 dX9_joinItem_110 ?_
          refine lv_icmp_eq (tgt := 154) hx hb dX9_joinItem_111 (by decide) (fun c_14 => ?_) (fun c_14 => ?_)
          · replace h := ifp_el c_14 h
            refine lv_iconst (v := (nI 0)) hx hb dX9_joinItem_154 (by decide) ?_
            cases h
            rw [← hQe]
            exact W.zret hx hb hr rfl (fun t ht hW => ⟨⟨_, (), rfl, rfl, by rw [ht]; exact hP, va_K.moved hW.alike hK, hD⟩, hS.F ht⟩) hS.2.2 dX9_joinItem_155
          · replace h := ifn_el c_14 h
            refine lv_aload_n hx hb dX9_joinItem_114 rfl (lv_at hl 0 rfl) ?_
            refine va_get (D := D) (ci := 8) (v := .ref q_read) (C := RX9) (T := TX9) (N := 13) hx hb hts i_X9 hown hK hP 0 rfl rfl 3 (by decide) k_13 (fun _ h9 => h9) rfl dX9_joinItem_115 ?_
            refine lv_iload_n hx hb dX9_joinItem_118 rfl (lv_at hl 1 rfl) ?_
            obtain ⟨hi_15, h⟩ := ck_el h
            refine va_iald hx hb hK hP 2 0 rfl rfl hi_15 dX9_joinItem_119 ?_
            refine lv_aload_n hx hb dX9_joinItem_120 rfl (lv_at hl 0 rfl) ?_
            refine va_get (D := D) (ci := 8) (v := .ref q_read) (C := RX9) (T := TX9) (N := 13) hx hb hts i_X9 hown hK hP 0 rfl rfl 3 (by decide) k_13 (fun _ h9 => h9) rfl dX9_joinItem_121 ?_
            refine lv_iload_n hx hb dX9_joinItem_124 rfl (lv_at hl 1 rfl) ?_
            refine lv_iconst (v := (nI 2)) hx hb dX9_joinItem_125 (by decide) ?_
            refine lv_iadd hx hb dX9_joinItem_126 ?_
            obtain ⟨hi_16, h⟩ := ck_el h
            refine va_iald hx hb hK hP 2 0 rfl rfl hi_16 dX9_joinItem_127 ?_
            refine lv_icmp_eq (tgt := 154) hx hb dX9_joinItem_128 (by decide) (fun c_17 => ?_) (fun c_17 => ?_)
            · replace h := ifp_el c_17 h
              refine lv_iconst (v := (nI 0)) hx hb dX9_joinItem_154 (by decide) ?_
              cases h
              rw [← hQe]
              exact W.zret hx hb hr rfl (fun t ht hW => ⟨⟨_, (), rfl, rfl, by rw [ht]; exact hP, va_K.moved hW.alike hK, hD⟩, hS.F ht⟩) hS.2.2 dX9_joinItem_155
            · replace h := ifn_el c_17 h
              refine lv_aload_n hx hb dX9_joinItem_131 rfl (lv_at hl 0 rfl) ?_
              refine va_get (D := D) (ci := 8) (v := .ref q_read) (C := RX9) (T := TX9) (N := 13) hx hb hts i_X9 hown hK hP 0 rfl rfl 3 (by decide) k_13 (fun _ h9 => h9) rfl dX9_joinItem_132 ?_
              refine lv_iload_n hx hb dX9_joinItem_135 rfl (lv_at hl 1 rfl) ?_
              refine lv_iconst (v := (nI 1)) hx hb dX9_joinItem_136 (by decide) ?_
              refine lv_iadd hx hb dX9_joinItem_137 ?_
              obtain ⟨hi_18, h⟩ := ck_el h
              refine va_iald hx hb hK hP 2 0 rfl rfl hi_18 dX9_joinItem_138 ?_
              refine lv_aload_n hx hb dX9_joinItem_139 rfl (lv_at hl 0 rfl) ?_
              refine va_get (D := D) (ci := 8) (v := .ref q_read) (C := RX9) (T := TX9) (N := 13) hx hb hts i_X9 hown hK hP 0 rfl rfl 3 (by decide) k_13 (fun _ h9 => h9) rfl dX9_joinItem_140 ?_
              refine lv_iload_n hx hb dX9_joinItem_143 rfl (lv_at hl 1 rfl) ?_
              refine lv_iconst (v := (nI 2)) hx hb dX9_joinItem_144 (by decide) ?_
              refine lv_iadd hx hb dX9_joinItem_145 ?_
              obtain ⟨hi_19, h⟩ := ck_el h
              refine va_iald hx hb hK hP 2 0 rfl rfl hi_19 dX9_joinItem_146 ?_
              refine lv_icmp_eq (tgt := 154) hx hb dX9_joinItem_147 (by decide) (fun c_20 => ?_) (fun c_20 => ?_)
              · replace h := ifp_el c_20 h
                refine lv_iconst (v := (nI 0)) hx hb dX9_joinItem_154 (by decide) ?_
                cases h
                rw [← hQe]
                exact W.zret hx hb hr rfl (fun t ht hW => ⟨⟨_, (), rfl, rfl, by rw [ht]; exact hP, va_K.moved hW.alike hK, hD⟩, hS.F ht⟩) hS.2.2 dX9_joinItem_155
              · replace h := ifn_el c_20 h
                refine lv_iconst (v := (nI 1)) hx hb dX9_joinItem_150 (by decide) ?_
                refine lv_goto (tgt := 155) hx hb dX9_joinItem_151 (by decide) ?_
                cases h
                rw [← hQe]
                exact W.zret hx hb hr rfl (fun t ht hW => ⟨⟨_, (), rfl, rfl, by rw [ht]; exact hP, va_K.moved hW.alike hK, hD⟩, hS.F ht⟩) hS.2.2 dX9_joinItem_155
        · replace h := ifn_el c_8 h
          refine lv_aload_n hx hb dX9_joinItem_37 rfl (lv_at hl 0 rfl) ?_
          refine va_get (D := D) (ci := 8) (v := .ref q_read) (C := RX9) (T := TX9) (N := 13) hx hb hts i_X9 hown hK hP 0 rfl rfl 3 (by decide) k_13 (fun _ h9 => h9) rfl dX9_joinItem_38 ?_
          refine lv_iload_n hx hb dX9_joinItem_41 rfl (lv_at hl 1 rfl) ?_
          refine lv_iload_n hx hb dX9_joinItem_42 rfl (lv_at hl 2 rfl) ?_
          refine lv_iadd hx hb dX9_joinItem_43 ?_
          refine lv_aload_n hx hb dX9_joinItem_44 rfl (lv_at hl 0 rfl) ?_
          refine lv_iconst (v := (nI 0)) hx hb dX9_joinItem_45 (by decide) ?_
          refine lv_bipush (v := (nI 7)) hx hb dX9_joinItem_46 (by decide) ?_
          obtain ⟨r_21, y_at_22, hg_23, h⟩ := bd2_el h
          refine kx_Vi (As := [.int (nI 0), .int (nI 7)]) (rest := [.int (x1_4 + x2_5), .ref q_read]) (wr := [(q_read, .inl (ca 0, 336, .inl y_read_7))]) (w1 := [(q_this, .inr (8, [.ref q_text, .int v_size, .int y_at_22, .ref q_read, .ref q_l, .ref q_stands, .ref q_kept, .int v_keptMany, .ref q_one, .ref q_two, .ref q_ways, .ref q_now, .ref q_then])), (q_text, .inl (ca 0, 500, .inl v_text))]) (wn := [(q_this, .inr (8, [.ref q_text, .int v_size, .int y_at_22, .ref q_read, .ref q_l, .ref q_stands, .ref q_kept, .int v_keptMany, .ref q_one, .ref q_two, .ref q_ways, .ref q_now, .ref q_then])), (q_text, .inl (ca 0, 500, .inl v_text)), (q_read, .inl (ca 0, 336, .inl y_read_7))]) ⟨hx, hb, hml, hown, hts⟩ (c_X9_number l D ca F H.size q_this q_text q_read q_l q_stands q_kept q_one q_two q_ways q_now q_then (nI 0) (nI 7) v_size y_at_6 v_keptMany v_text r_21 y_at_22 hg_23) (cwV 2 hts gX9_joinItem_X9_number rfl rfl rfl (by decide +kernel) ⟨(Nat.le_of_ble_eq_true rfl), (Nat.le_of_ble_eq_true rfl)⟩) hK hP hD hS hA (ci := 8) (q0 := 0) rfl rfl [0, 1] [2] [1, 2, 0] rfl rfl rfl rfl (by decide) rfl rfl rfl hl.1 rfl (Nat.le_of_ble_eq_true rfl) dX9_joinItem_48 ⟨Nat.zero_le _, Nat.zero_le _⟩ (fun H locs hP hD hS => ?_)
          obtain ⟨hi_24, h⟩ := ck_el h
          refine va_iast hx hb hK hP hD hS 2 0 rfl rfl hi_24 dX9_joinItem_51 (fun H locs hP hD hS => ?_)
          have hP : va_P D vwCl [(q_this, .inr (8, [.ref q_text, .int v_size, .int y_at_22, .ref q_read, .ref q_l, .ref q_stands, .ref q_kept, .int v_keptMany, .ref q_one, .ref q_two, .ref q_ways, .ref q_now, .ref q_then])), (q_text, .inl (ca 0, 500, .inl v_text)), (q_read, .inl (ca 0, 336, .inl (upd y_read_7 (x1_4 + x2_5).toNatClampNeg r_21)))] H := hP
          have hD : va_D A [(q_this, .inr (8, [.ref q_text, .int v_size, .int y_at_22, .ref q_read, .ref q_l, .ref q_stands, .ref q_kept, .int v_keptMany, .ref q_one, .ref q_two, .ref q_ways, .ref q_now, .ref q_then])), (q_text, .inl (ca 0, 500, .inl v_text)), (q_read, .inl (ca 0, 336, .inl (upd y_read_7 (x1_4 + x2_5).toNatClampNeg r_21)))] := hD
          refine lv_aload_n hx hb dX9_joinItem_52 rfl (lv_at hl 0 rfl) ?_
          refine va_get (D := D) (ci := 8) (v := .ref q_read) (C := RX9) (T := TX9) (N := 13) hx hb hts i_X9 hown hK hP 0 rfl rfl 3 (by decide) k_13 (fun _ h9 => h9) rfl dX9_joinItem_53 ?_
          refine lv_iload_n hx hb dX9_joinItem_56 rfl (lv_at hl 1 rfl) ?_
          refine lv_iload_n hx hb dX9_joinItem_57 rfl (lv_at hl 2 rfl) ?_
          refine lv_iadd hx hb dX9_joinItem_58 ?_
          obtain ⟨hi_25, h⟩ := ck_el h
          refine va_iald hx hb hK hP 2 0 rfl rfl hi_25 dX9_joinItem_59 ?_
          refine lv_if_lt (tgt := 77) hx hb dX9_joinItem_60 (by decide) (fun c_26 => ?_) (fun c_26 => ?_)
          · replace h := ifp_el c_26 h
            refine lv_iconst (v := (nI 0)) hx hb dX9_joinItem_77 (by decide) ?_
            cases h
            rw [← hQe]
            exact W.zret hx hb hr rfl (fun t ht hW => ⟨⟨_, (), rfl, rfl, by rw [ht]; exact hP, va_K.moved hW.alike hK, hD⟩, hS.F ht⟩) hS.2.2 dX9_joinItem_78
          · replace h := ifn_el c_26 h
            refine lv_iload_n hx hb dX9_joinItem_63 rfl (lv_at hl 2 rfl) ?_
            refine lv_iconst (v := (nI 2)) hx hb dX9_joinItem_64 (by decide) ?_
            refine lv_icmp_ge (tgt := 79) hx hb dX9_joinItem_65 (by decide) (fun c_27 => ?_) (fun c_27 => ?_)
            · replace h := ifp_el c_27 h
              obtain ⟨x2_28, e_29, h⟩ := nm_el h
              refine lv_iinc (v := x2_28) (lv' := [(2, .int x2_28), (0, .ref q_this), (1, .int x1_4)]) hx hb dX9_joinItem_79 hl (k := 2) rfl (by rw [← e_29]; rfl) (by decide) rfl (fun ls hl => ?_)
              refine lv_goto (tgt := 32) hx hb dX9_joinItem_82 (by decide) ?_
              exact ih _ _ _ _ _ _ h hP hD hS (lv_sub hl [1, 2, 0] rfl)
            · replace h := ifn_el c_27 h
              refine lv_aload_n hx hb dX9_joinItem_68 rfl (lv_at hl 0 rfl) ?_
              refine lv_bipush (v := (nI 44)) hx hb dX9_joinItem_69 (by decide) ?_
              obtain ⟨r_30, y_at_31, hg_32, h⟩ := bd2_el h
              refine kx_Vi (As := [.int (nI 44)]) (rest := []) (wr := [(q_read, .inl (ca 0, 336, .inl (upd y_read_7 (x1_4 + x2_5).toNatClampNeg r_21)))]) (w1 := [(q_this, .inr (8, [.ref q_text, .int v_size, .int y_at_31, .ref q_read, .ref q_l, .ref q_stands, .ref q_kept, .int v_keptMany, .ref q_one, .ref q_two, .ref q_ways, .ref q_now, .ref q_then])), (q_text, .inl (ca 0, 500, .inl v_text))]) (wn := [(q_this, .inr (8, [.ref q_text, .int v_size, .int y_at_31, .ref q_read, .ref q_l, .ref q_stands, .ref q_kept, .int v_keptMany, .ref q_one, .ref q_two, .ref q_ways, .ref q_now, .ref q_then])), (q_text, .inl (ca 0, 500, .inl v_text)), (q_read, .inl (ca 0, 336, .inl (upd y_read_7 (x1_4 + x2_5).toNatClampNeg r_21)))]) ⟨hx, hb, hml, hown, hts⟩ (c_X9_takes l D ca H.size q_this q_text q_read q_l q_stands q_kept q_one q_two q_ways q_now q_then (nI 44) v_size y_at_22 v_keptMany v_text r_30 y_at_31 hg_32) (cwV 1 hts gX9_joinItem_X9_takes rfl rfl rfl (by decide +kernel) ⟨(Nat.le_of_ble_eq_true rfl), (Nat.le_of_ble_eq_true rfl)⟩) hK hP hD hS hA (ci := 8) (q0 := 0) rfl rfl [0, 1] [2] [1, 2, 0] rfl rfl rfl rfl (by decide) rfl rfl rfl hl.1 rfl (Nat.le_of_ble_eq_true rfl) dX9_joinItem_71 ⟨Nat.zero_le _, Nat.zero_le _⟩ (fun H locs hP hD hS => ?_)
              refine lv_if_ne (tgt := 79) hx hb dX9_joinItem_74 (by decide) (fun c_33 => ?_) (fun c_33 => ?_)
              · replace h := ifn_el c_33 h
                obtain ⟨x2_34, e_35, h⟩ := nm_el h
                refine lv_iinc (v := x2_34) (lv' := [(2, .int x2_34), (0, .ref q_this), (1, .int x1_4)]) hx hb dX9_joinItem_79 hl (k := 2) rfl (by rw [← e_35]; rfl) (by decide) rfl (fun ls hl => ?_)
                refine lv_goto (tgt := 32) hx hb dX9_joinItem_82 (by decide) ?_
                exact ih _ _ _ _ _ _ h hP hD hS (lv_sub hl [1, 2, 0] rfl)
              · replace h := ifp_el c_33 h
                refine lv_iconst (v := (nI 0)) hx hb dX9_joinItem_77 (by decide) ?_
                cases h
                rw [← hQe]
                exact W.zret hx hb hr rfl (fun t ht hW => ⟨⟨_, (), rfl, rfl, by rw [ht]; exact hP, va_K.moved hW.alike hK, hD⟩, hS.F ht⟩) hS.2.2 dX9_joinItem_78
    exact hlp F (nI 0) v_at v_read s.heap [] ls h hP hD hS (lv_sub hl [2, 1, 0] rfl)
  · replace h := ifp_el c_2 h
    refine lv_iconst (v := (nI 0)) hx hb dX9_joinItem_13 (by decide) ?_
    cases h
    rw [← hQe]
    exact W.zret hx hb hr rfl (fun t ht hW => ⟨⟨_, (), rfl, rfl, by rw [ht]; exact hP, va_K.moved hW.alike hK, hD⟩, hS.F ht⟩) hS.2.2 dX9_joinItem_14
def b_X9_needItem_17 (v_size : Int32) (v_text : Nat → Int32) (v_read : Nat → Int32) (rec17 : Int32 → Int32 → Option (Int32 × Int32 × (Nat → Int32))) (x1_3 : Int32) (y_at_4 : Int32) : Option (Int32 × Int32 × (Nat → Int32)) := bd1 (D_X9_byteAt v_size y_at_4 v_text) (fun r_5 => bd1 (D_X9_in r_5.toInt64 (lN 48) (lN 55)) (fun r_7 => (if r_7 = 0 then ck 336 (nI 329) (ck 336 ((nI 330) + (v_read (nI 329).toNatClampNeg)) (ck 336 (nI 329) (nm (((upd v_read ((nI 330) + (v_read (nI 329).toNatClampNeg)).toNatClampNeg x1_3) (nI 329).toNatClampNeg) + (nI 1)) (fun w_13 => ck 336 (nI 329) ((if x1_3 = 0 then some ((nI 0), y_at_4, (upd (upd v_read ((nI 330) + (v_read (nI 329).toNatClampNeg)).toNatClampNeg x1_3) (nI 329).toNatClampNeg w_13)) else some ((nI 1), y_at_4, (upd (upd v_read ((nI 330) + (v_read (nI 329).toNatClampNeg)).toNatClampNeg x1_3) (nI 329).toNatClampNeg w_13)))))))) else bd1 (D_X9_byteAt v_size y_at_4 v_text) (fun r_16 => nm (r_16 - (nI 48)) (fun x2_18 => (if (x1_3 >>> (x2_18 &&& 31)) = 0 then nm (x1_3 ||| ((nI 1) <<< (x2_18 &&& 31))) (fun x1_20 => nm (y_at_4 + (nI 1)) (fun w_21 => rec17 x1_20 w_21)) else some ((nI 0), y_at_4, v_read)))))))
def D_X9_needItem (F : Nat) (v_size : Int32) (v_at : Int32) (v_text : Nat → Int32) (v_read : Nat → Int32) : Option (Int32 × Int32 × (Nat → Int32)) := ck 336 (nI 329) ((if (v_read (nI 329).toNatClampNeg) = (nI 6) then some ((nI 0), v_at, v_read) else lpg (T := Int32 → Int32 → Option (Int32 × Int32 × (Nat → Int32))) (fun _ _ => none) (b_X9_needItem_17 v_size v_text v_read) F (nI 0) v_at))
abbrev rm_X9_needItem : Room := { frames := 1, cells := 0, slots := 0, locals := 25 }
set_option maxHeartbeats 4000000 in
set_option maxRecDepth 100000 in
theorem c_X9_needItem (l : Launch) (D : va_G) (ca : Nat → ClassId) (F : Nat) (sz : Nat) (q_this q_text q_read q_l q_stands q_kept q_one q_two q_ways q_now q_then : Nat) (v_size : Int32) (v_at : Int32) (v_keptMany : Int32) (v_text : Nat → Int32) (v_read : Nat → Int32) (r : Int32) (o_at : Int32) (o_read : Nat → Int32) (h : D_X9_needItem F v_size v_at v_text v_read = some (r, o_at, o_read)) : Met l yX9_needItem wsX9_needItem rm_X9_needItem (va_Pc [.ref q_this] (kPre D ca [(q_this, .inr (8, [.ref q_text, .int v_size, .int v_at, .ref q_read, .ref q_l, .ref q_stands, .ref q_kept, .int v_keptMany, .ref q_one, .ref q_two, .ref q_ways, .ref q_now, .ref q_then])), (q_text, .inl (ca 0, 500, .inl v_text)), (q_read, .inl (ca 0, 336, .inl v_read))] sz)) (kQi D ca (va_A [(q_this, .inr (8, [.ref q_text, .int v_size, .int v_at, .ref q_read, .ref q_l, .ref q_stands, .ref q_kept, .int v_keptMany, .ref q_one, .ref q_two, .ref q_ways, .ref q_now, .ref q_then])), (q_text, .inl (ca 0, 500, .inl v_text)), (q_read, .inl (ca 0, 336, .inl v_read))] sz) [(q_this, .inr (8, [.ref q_text, .int v_size, .int o_at, .ref q_read, .ref q_l, .ref q_stands, .ref q_kept, .int v_keptMany, .ref q_one, .ref q_two, .ref q_ways, .ref q_now, .ref q_then])), (q_text, .inl (ca 0, 500, .inl v_text)), (q_read, .inl (ca 0, 336, .inl o_read))] r) 0 0 (va_A [(q_this, .inr (8, [.ref q_text, .int v_size, .int v_at, .ref q_read, .ref q_l, .ref q_stands, .ref q_kept, .int v_keptMany, .ref q_one, .ref q_two, .ref q_ways, .ref q_now, .ref q_then])), (q_text, .inl (ca 0, 500, .inl v_text)), (q_read, .inl (ca 0, 336, .inl v_read))] sz) := by
  refine Met.ofW (cc := cX9_needItem) (maxL := 3) (ret := (some .boolean)) (by decide +kernel) rfl ?_
  intro p e s m args below meth c s₁ B hml hv
  obtain ⟨rfl, hsz, hP, hK, hD0⟩ := hv
  have hx := B.exec
  have hb := B.bytes
  have hr := B.returns
  have hts := atoms_spec (ws := wsX9_needItem) B.pre
  have hown : s.vm.findClass RX9 = some m.cls := findClass_of_methodNamed B.named
  have hlocks := B.notSynchronized
  clear B
  subst hsz
  have hD := hD0.self (sz := s.heap.size)
  generalize hAe : va_A [(q_this, .inr (8, [.ref q_text, .int v_size, .int v_at, .ref q_read, .ref q_l, .ref q_stands, .ref q_kept, .int v_keptMany, .ref q_one, .ref q_two, .ref q_ways, .ref q_now, .ref q_then])), (q_text, .inl (ca 0, 500, .inl v_text)), (q_read, .inl (ca 0, 336, .inl v_read))] s.heap.size = A at hD ⊢
  have hA : ∀ q : Nat, s.heap.size ≤ q → A q := fun q h => by rw [← hAe]; exact Or.inr h
  have hS : va_S A s.heap s.heap [] := va_S.rf
  have hl := lv_entry ([.ref q_this]) (n := 3) (Nat.le_of_ble_eq_true rfl)
  rw [lg_entry_eq]
  generalize (lg_sl ([.ref q_this]) ++ List.replicate (3 - (lg_sl ([.ref q_this])).length) Slot.unset).toArray = ls at hl ⊢
  have hl : lv_has ls 3 [(0, .ref q_this)] := hl
  generalize ([.ref q_this] : List Value).toArray = args at hts ⊢
  generalize hQe : MQ below (kQi D ca (A) [(q_this, .inr (8, [.ref q_text, .int v_size, .int o_at, .ref q_read, .ref q_l, .ref q_stands, .ref q_kept, .int v_keptMany, .ref q_one, .ref q_two, .ref q_ways, .ref q_now, .ref q_then])), (q_text, .inl (ca 0, 500, .inl v_text)), (q_read, .inl (ca 0, 336, .inl o_read))] r) args s 0 0 A = Q
  have i_X9 : ∀ w ∈ u_ws RX9 TX9 13, w ∈ wsX9_needItem := by decide +kernel
  have k_13 := hts (.fieldLink RX9 13 "TradeWordsModel" "read" "[I") (by decide +kernel)
  have k_67 := hts (.constantLong RX9 67 (lN 48)) (by decide +kernel)
  have k_87 := hts (.constantLong RX9 87 (lN 55)) (by decide +kernel)
  have k_60 := hts (.fieldLink RX9 60 "TradeWordsModel" "at" "I") (by decide +kernel)
  rw [D_X9_needItem] at h
  refine lv_aload_n hx hb dX9_needItem_0 rfl (lv_at hl 0 rfl) ?_
  refine va_get (D := D) (ci := 8) (v := .ref q_read) (C := RX9) (T := TX9) (N := 13) hx hb hts i_X9 hown hK hP 0 rfl rfl 3 (by decide) k_13 (fun _ h9 => h9) rfl dX9_needItem_1 ?_
  refine lv_sipush (v := (nI 329)) hx hb dX9_needItem_4 (by decide) ?_
  obtain ⟨hi_1, h⟩ := ck_el h
  refine va_iald hx hb hK hP 2 0 rfl rfl hi_1 dX9_needItem_7 ?_
  refine lv_bipush (v := (nI 6)) hx hb dX9_needItem_8 (by decide) ?_
  refine lv_icmp_ne (tgt := 15) hx hb dX9_needItem_10 (by decide) (fun c_2 => ?_) (fun c_2 => ?_)
  · replace h := ifn_el c_2 h
    refine lv_iconst (v := (nI 0)) hx hb dX9_needItem_15 (by decide) ?_
    refine lv_istore_n (lv' := [(1, .int (nI 0)), (0, .ref q_this)]) hx hb dX9_needItem_16 rfl hl (by decide) rfl (fun ls hl => ?_)
    have hlp : ∀ (n : Nat) (x1_3 : Int32) (y_at_4 : Int32) (H : Heap) (locs : List Loc) (ls : Array Slot), lpg (T := Int32 → Int32 → Option (Int32 × Int32 × (Nat → Int32))) (fun _ _ => none) (b_X9_needItem_17 v_size v_text v_read) n x1_3 y_at_4 = some (r, o_at, o_read) → va_P D vwCl [(q_this, .inr (8, [.ref q_text, .int v_size, .int y_at_4, .ref q_read, .ref q_l, .ref q_stands, .ref q_kept, .int v_keptMany, .ref q_one, .ref q_two, .ref q_ways, .ref q_now, .ref q_then])), (q_text, .inl (ca 0, 500, .inl v_text)), (q_read, .inl (ca 0, 336, .inl v_read))] H → va_D A [(q_this, .inr (8, [.ref q_text, .int v_size, .int y_at_4, .ref q_read, .ref q_l, .ref q_stands, .ref q_kept, .int v_keptMany, .ref q_one, .ref q_two, .ref q_ways, .ref q_now, .ref q_then])), (q_text, .inl (ca 0, 500, .inl v_text)), (q_read, .inl (ca 0, 336, .inl v_read))] → va_S A s.heap H locs → lv_has ls 3 [(0, .ref q_this), (1, .int x1_3)] → W p l e (headSpec wsX9_needItem rm_X9_needItem).room s m args below meth c H locs 0 0 Q (F0 m 17 ls []) := by
      intro n
      induction n with
      | zero => intro x1_3 y_at_4 H locs ls h; have h : (none : Option (Int32 × Int32 × (Nat → Int32))) = some _ := h; cases h
      | succ n ih =>
        intro x1_3 y_at_4 H locs ls h hP hD hS hl
        rw [lpg_succ, b_X9_needItem_17] at h
        refine lv_aload_n hx hb dX9_needItem_17 rfl (lv_at hl 0 rfl) ?_
        obtain ⟨r_5, hg_6, h⟩ := bd1_el h
        refine kx_Vi (As := []) (rest := []) (wr := [(q_read, .inl (ca 0, 336, .inl v_read))]) (w1 := [(q_this, .inr (8, [.ref q_text, .int v_size, .int y_at_4, .ref q_read, .ref q_l, .ref q_stands, .ref q_kept, .int v_keptMany, .ref q_one, .ref q_two, .ref q_ways, .ref q_now, .ref q_then])), (q_text, .inl (ca 0, 500, .inl v_text))]) (wn := [(q_this, .inr (8, [.ref q_text, .int v_size, .int y_at_4, .ref q_read, .ref q_l, .ref q_stands, .ref q_kept, .int v_keptMany, .ref q_one, .ref q_two, .ref q_ways, .ref q_now, .ref q_then])), (q_text, .inl (ca 0, 500, .inl v_text)), (q_read, .inl (ca 0, 336, .inl v_read))]) ⟨hx, hb, hml, hown, hts⟩ (c_X9_byteAt l D ca H.size q_this q_text q_read q_l q_stands q_kept q_one q_two q_ways q_now q_then v_size y_at_4 v_keptMany v_text r_5 hg_6) (cwV 0 hts gX9_needItem_X9_byteAt rfl rfl rfl (by decide +kernel) ⟨(Nat.le_of_ble_eq_true rfl), (Nat.le_of_ble_eq_true rfl)⟩) hK hP hD hS hA (ci := 8) (q0 := 0) rfl rfl [0, 1] [2] [1, 2, 0] rfl rfl rfl rfl (by decide) rfl rfl rfl hl.1 rfl (Nat.le_of_ble_eq_true rfl) dX9_needItem_18 ⟨Nat.zero_le _, Nat.zero_le _⟩ (fun H locs hP hD hS => ?_)
        refine lv_i2l hx hb dX9_needItem_21 rfl ?_
        refine lv_ldc2 hx hb hown k_67 dX9_needItem_22 ?_
        refine lv_ldc2 hx hb hown k_87 dX9_needItem_25 ?_
        obtain ⟨r_7, hg_8, h⟩ := bd1_el h
        refine kx_Si (As := [.long r_5.toInt64, .long (lN 48), .long (lN 55)]) (rest := []) (wr := [(q_this, .inr (8, [.ref q_text, .int v_size, .int y_at_4, .ref q_read, .ref q_l, .ref q_stands, .ref q_kept, .int v_keptMany, .ref q_one, .ref q_two, .ref q_ways, .ref q_now, .ref q_then])), (q_text, .inl (ca 0, 500, .inl v_text)), (q_read, .inl (ca 0, 336, .inl v_read))]) (w1 := []) (wn := [(q_this, .inr (8, [.ref q_text, .int v_size, .int y_at_4, .ref q_read, .ref q_l, .ref q_stands, .ref q_kept, .int v_keptMany, .ref q_one, .ref q_two, .ref q_ways, .ref q_now, .ref q_then])), (q_text, .inl (ca 0, 500, .inl v_text)), (q_read, .inl (ca 0, 336, .inl v_read))]) ⟨hx, hb, hml, hown, hts⟩ (c_X9_in l D ca H.size r_5.toInt64 (lN 48) (lN 55) r_7 hg_8) (va_cwS 3 hts gX9_needItem_X9_in rfl rfl rfl (by decide +kernel) ⟨(Nat.le_of_ble_eq_true rfl), (Nat.le_of_ble_eq_true rfl)⟩) hK hP hD hS hA [] [0, 1, 2] [0, 1, 2] rfl rfl rfl rfl (by decide) rfl rfl rfl hl.1 rfl (Nat.le_of_ble_eq_true rfl) dX9_needItem_28 ⟨Nat.zero_le _, Nat.zero_le _⟩ (fun H locs hP hD hS => ?_)
        refine lv_if_eq (tgt := 69) hx hb dX9_needItem_31 (by decide) (fun c_9 => ?_) (fun c_9 => ?_)
        · replace h := ifp_el c_9 h
          refine lv_aload_n hx hb dX9_needItem_69 rfl (lv_at hl 0 rfl) ?_
          refine va_get (D := D) (ci := 8) (v := .ref q_read) (C := RX9) (T := TX9) (N := 13) hx hb hts i_X9 hown hK hP 0 rfl rfl 3 (by decide) k_13 (fun _ h9 => h9) rfl dX9_needItem_70 ?_
          refine lv_sipush (v := (nI 330)) hx hb dX9_needItem_73 (by decide) ?_
          refine lv_aload_n hx hb dX9_needItem_76 rfl (lv_at hl 0 rfl) ?_
          refine va_get (D := D) (ci := 8) (v := .ref q_read) (C := RX9) (T := TX9) (N := 13) hx hb hts i_X9 hown hK hP 0 rfl rfl 3 (by decide) k_13 (fun _ h9 => h9) rfl dX9_needItem_77 ?_
          refine lv_sipush (v := (nI 329)) hx hb dX9_needItem_80 (by decide) ?_
          obtain ⟨hi_10, h⟩ := ck_el h
          refine va_iald hx hb hK hP 2 0 rfl rfl hi_10 dX9_needItem_83 ?_
          refine lv_iadd hx hb dX9_needItem_84 ?_
          refine lv_iload_n hx hb dX9_needItem_85 rfl (lv_at hl 1 rfl) ?_
          obtain ⟨hi_11, h⟩ := ck_el h
          refine va_iast hx hb hK hP hD hS 2 0 rfl rfl hi_11 dX9_needItem_86 (fun H locs hP hD hS => ?_)
          have hP : va_P D vwCl [(q_this, .inr (8, [.ref q_text, .int v_size, .int y_at_4, .ref q_read, .ref q_l, .ref q_stands, .ref q_kept, .int v_keptMany, .ref q_one, .ref q_two, .ref q_ways, .ref q_now, .ref q_then])), (q_text, .inl (ca 0, 500, .inl v_text)), (q_read, .inl (ca 0, 336, .inl (upd v_read ((nI 330) + (v_read (nI 329).toNatClampNeg)).toNatClampNeg x1_3)))] H := hP
          have hD : va_D A [(q_this, .inr (8, [.ref q_text, .int v_size, .int y_at_4, .ref q_read, .ref q_l, .ref q_stands, .ref q_kept, .int v_keptMany, .ref q_one, .ref q_two, .ref q_ways, .ref q_now, .ref q_then])), (q_text, .inl (ca 0, 500, .inl v_text)), (q_read, .inl (ca 0, 336, .inl (upd v_read ((nI 330) + (v_read (nI 329).toNatClampNeg)).toNatClampNeg x1_3)))] := hD
          refine lv_aload_n hx hb dX9_needItem_87 rfl (lv_at hl 0 rfl) ?_
          refine va_get (D := D) (ci := 8) (v := .ref q_read) (C := RX9) (T := TX9) (N := 13) hx hb hts i_X9 hown hK hP 0 rfl rfl 3 (by decide) k_13 (fun _ h9 => h9) rfl dX9_needItem_88 ?_
          refine lv_sipush (v := (nI 329)) hx hb dX9_needItem_91 (by decide) ?_
          refine lv_dup2_11 hx hb dX9_needItem_94 rfl rfl ?_
          obtain ⟨hi_12, h⟩ := ck_el h
          refine va_iald hx hb hK hP 2 0 rfl rfl hi_12 dX9_needItem_95 ?_
          refine lv_iconst (v := (nI 1)) hx hb dX9_needItem_96 (by decide) ?_
          refine lv_iadd hx hb dX9_needItem_97 ?_
          refine lv_nmi h (fun w_13 h => ?_)
          obtain ⟨hi_14, h⟩ := ck_el h
          refine va_iast hx hb hK hP hD hS 2 0 rfl rfl hi_14 dX9_needItem_98 (fun H locs hP hD hS => ?_)
          have hP : va_P D vwCl [(q_this, .inr (8, [.ref q_text, .int v_size, .int y_at_4, .ref q_read, .ref q_l, .ref q_stands, .ref q_kept, .int v_keptMany, .ref q_one, .ref q_two, .ref q_ways, .ref q_now, .ref q_then])), (q_text, .inl (ca 0, 500, .inl v_text)), (q_read, .inl (ca 0, 336, .inl (upd (upd v_read ((nI 330) + (v_read (nI 329).toNatClampNeg)).toNatClampNeg x1_3) (nI 329).toNatClampNeg w_13)))] H := hP
          have hD : va_D A [(q_this, .inr (8, [.ref q_text, .int v_size, .int y_at_4, .ref q_read, .ref q_l, .ref q_stands, .ref q_kept, .int v_keptMany, .ref q_one, .ref q_two, .ref q_ways, .ref q_now, .ref q_then])), (q_text, .inl (ca 0, 500, .inl v_text)), (q_read, .inl (ca 0, 336, .inl (upd (upd v_read ((nI 330) + (v_read (nI 329).toNatClampNeg)).toNatClampNeg x1_3) (nI 329).toNatClampNeg w_13)))] := hD
          refine lv_iload_n hx hb dX9_needItem_99 rfl (lv_at hl 1 rfl) ?_
          refine lv_if_eq (tgt := 107) hx hb dX9_needItem_100 (by decide) (fun c_15 => ?_) (fun c_15 => ?_)
          · replace h := ifp_el c_15 h
            refine lv_iconst (v := (nI 0)) hx hb dX9_needItem_107 (by decide) ?_
            cases h
            rw [← hQe]
            exact W.zret hx hb hr rfl (fun t ht hW => ⟨⟨_, (), rfl, rfl, by rw [ht]; exact hP, va_K.moved hW.alike hK, hD⟩, hS.F ht⟩) hS.2.2 dX9_needItem_108
          · replace h := ifn_el c_15 h
            refine lv_iconst (v := (nI 1)) hx hb dX9_needItem_103 (by decide) ?_
            refine lv_goto (tgt := 108) hx hb dX9_needItem_104 (by decide) ?_
            cases h
            rw [← hQe]
            exact W.zret hx hb hr rfl (fun t ht hW => ⟨⟨_, (), rfl, rfl, by rw [ht]; exact hP, va_K.moved hW.alike hK, hD⟩, hS.F ht⟩) hS.2.2 dX9_needItem_108
        · replace h := ifn_el c_9 h
          refine lv_aload_n hx hb dX9_needItem_34 rfl (lv_at hl 0 rfl) ?_
          obtain ⟨r_16, hg_17, h⟩ := bd1_el h
          refine kx_Vi (As := []) (rest := []) (wr := [(q_read, .inl (ca 0, 336, .inl v_read))]) (w1 := [(q_this, .inr (8, [.ref q_text, .int v_size, .int y_at_4, .ref q_read, .ref q_l, .ref q_stands, .ref q_kept, .int v_keptMany, .ref q_one, .ref q_two, .ref q_ways, .ref q_now, .ref q_then])), (q_text, .inl (ca 0, 500, .inl v_text))]) (wn := [(q_this, .inr (8, [.ref q_text, .int v_size, .int y_at_4, .ref q_read, .ref q_l, .ref q_stands, .ref q_kept, .int v_keptMany, .ref q_one, .ref q_two, .ref q_ways, .ref q_now, .ref q_then])), (q_text, .inl (ca 0, 500, .inl v_text)), (q_read, .inl (ca 0, 336, .inl v_read))]) ⟨hx, hb, hml, hown, hts⟩ (c_X9_byteAt l D ca H.size q_this q_text q_read q_l q_stands q_kept q_one q_two q_ways q_now q_then v_size y_at_4 v_keptMany v_text r_16 hg_17) (cwV 0 hts gX9_needItem_X9_byteAt rfl rfl rfl (by decide +kernel) ⟨(Nat.le_of_ble_eq_true rfl), (Nat.le_of_ble_eq_true rfl)⟩) hK hP hD hS hA (ci := 8) (q0 := 0) rfl rfl [0, 1] [2] [1, 2, 0] rfl rfl rfl rfl (by decide) rfl rfl rfl hl.1 rfl (Nat.le_of_ble_eq_true rfl) dX9_needItem_35 ⟨Nat.zero_le _, Nat.zero_le _⟩ (fun H locs hP hD hS => ?_)
          refine lv_bipush (v := (nI 48)) hx hb dX9_needItem_38 (by decide) ?_
          refine lv_isub hx hb dX9_needItem_40 ?_
          refine lv_nmi h (fun x2_18 h => ?_)
          refine lv_istore_n (lv' := [(2, .int x2_18), (0, .ref q_this), (1, .int x1_3)]) hx hb dX9_needItem_41 rfl hl (by decide) rfl (fun ls hl => ?_)
          refine lv_iload_n hx hb dX9_needItem_42 rfl (lv_at hl 2 rfl) ?_
          refine lv_iload_n hx hb dX9_needItem_43 rfl (lv_at hl 0 rfl) ?_
          refine lv_ishr hx hb dX9_needItem_44 ?_
          refine lv_if_eq (tgt := 50) hx hb dX9_needItem_45 (by decide) (fun c_19 => ?_) (fun c_19 => ?_)
          · replace h := ifp_el c_19 h
            refine lv_iload_n hx hb dX9_needItem_50 rfl (lv_at hl 2 rfl) ?_
            refine lv_iconst (v := (nI 1)) hx hb dX9_needItem_51 (by decide) ?_
            refine lv_iload_n hx hb dX9_needItem_52 rfl (lv_at hl 0 rfl) ?_
            refine lv_ishl hx hb dX9_needItem_53 ?_
            refine lv_ior hx hb dX9_needItem_54 ?_
            refine lv_nmi h (fun x1_20 h => ?_)
            refine lv_istore_n (lv' := [(1, .int x1_20), (2, .int x2_18), (0, .ref q_this)]) hx hb dX9_needItem_55 rfl hl (by decide) rfl (fun ls hl => ?_)
            refine lv_aload_n hx hb dX9_needItem_56 rfl (lv_at hl 2 rfl) ?_
            refine lv_dup hx hb dX9_needItem_57 rfl ?_
            refine va_get (D := D) (ci := 8) (v := .int y_at_4) (C := RX9) (T := TX9) (N := 13) hx hb hts i_X9 hown hK hP 0 rfl rfl 2 (by decide) k_60 (fun _ h9 => h9) rfl dX9_needItem_58 ?_
            refine lv_iconst (v := (nI 1)) hx hb dX9_needItem_61 (by decide) ?_
            refine lv_iadd hx hb dX9_needItem_62 ?_
            refine lv_nmi h (fun w_21 h => ?_)
            refine va_put (D := D) (ci := 8) (v := .int w_21) (ty := .int) (C := RX9) (T := TX9) (N := 13) hx hb hts i_X9 tyX9 tyX9_ok nmX9 hown hK hP hD hS 0 rfl rfl 2 (by decide) k_60 (fun _ h9 => h9) rfl (by decide +kernel) rfl rfl (Nat.le_of_ble_eq_true rfl) dX9_needItem_63 (fun H locs hP hD hS => ?_)
            have hP : va_P D vwCl [(q_this, .inr (8, [.ref q_text, .int v_size, .int w_21, .ref q_read, .ref q_l, .ref q_stands, .ref q_kept, .int v_keptMany, .ref q_one, .ref q_two, .ref q_ways, .ref q_now, .ref q_then])), (q_text, .inl (ca 0, 500, .inl v_text)), (q_read, .inl (ca 0, 336, .inl v_read))] H := hP
            have hD : va_D A [(q_this, .inr (8, [.ref q_text, .int v_size, .int w_21, .ref q_read, .ref q_l, .ref q_stands, .ref q_kept, .int v_keptMany, .ref q_one, .ref q_two, .ref q_ways, .ref q_now, .ref q_then])), (q_text, .inl (ca 0, 500, .inl v_text)), (q_read, .inl (ca 0, 336, .inl v_read))] := hD
            refine lv_goto (tgt := 17) hx hb dX9_needItem_66 (by decide) ?_
            exact ih _ _ _ _ _ h hP hD hS (lv_sub hl [2, 0] rfl)
          · replace h := ifn_el c_19 h
            refine lv_iconst (v := (nI 0)) hx hb dX9_needItem_48 (by decide) ?_
            cases h
            rw [← hQe]
            exact W.zret hx hb hr rfl (fun t ht hW => ⟨⟨_, (), rfl, rfl, by rw [ht]; exact hP, va_K.moved hW.alike hK, hD⟩, hS.F ht⟩) hS.2.2 dX9_needItem_49
    exact hlp F (nI 0) v_at s.heap [] ls h hP hD hS (lv_sub hl [1, 0] rfl)
  · replace h := ifp_el c_2 h
    refine lv_iconst (v := (nI 0)) hx hb dX9_needItem_13 (by decide) ?_
    cases h
    rw [← hQe]
    exact W.zret hx hb hr rfl (fun t ht hW => ⟨⟨_, (), rfl, rfl, by rw [ht]; exact hP, va_K.moved hW.alike hK, hD⟩, hS.F ht⟩) hS.2.2 dX9_needItem_14
def D_X9_item (F : Nat) (v_size : Int32) (v_at : Int32) (v_text : Nat → Int32) (v_read : Nat → Int32) : Option (Int32 × Int32 × (Nat → Int32)) := bd1 (D_X9_byteAt v_size v_at v_text) (fun r_1 => nm (v_at + (nI 1)) (fun w_3 => (if r_1 = (nI 101) then bd3 (D_X9_wordItem F (nI 112) (nI 2) v_size w_3 v_text v_read) (fun r_5 y_at_6 y_read_7 => cz r_5 (some (r_5, y_at_6, y_read_7))) else (if r_1 = (nI 103) then bd3 (D_X9_oneItem F (nI 303) (nI 1) (nI 99) v_size w_3 v_text v_read) (fun r_10 y_at_11 y_read_12 => cz r_10 (some (r_10, y_at_11, y_read_12))) else (if r_1 = (nI 106) then bd3 (D_X9_joinItem F v_size w_3 v_text v_read) (fun r_15 y_at_16 y_read_17 => cz r_15 (some (r_15, y_at_16, y_read_17))) else (if r_1 = (nI 107) then bd3 (D_X9_pairItem F (nI 300) (nI 0) (nI 10) v_size w_3 v_text v_read) (fun r_20 y_at_21 y_read_22 => cz r_20 (some (r_20, y_at_21, y_read_22))) else (if r_1 = (nI 110) then bd3 (D_X9_pairItem F (nI 298) (nI 1) (nI 8) v_size w_3 v_text v_read) (fun r_25 y_at_26 y_read_27 => cz r_25 (some (r_25, y_at_26, y_read_27))) else (if r_1 = (nI 111) then bd3 (D_X9_oneItem F (nI 302) (nI 0) (nI 10) v_size w_3 v_text v_read) (fun r_30 y_at_31 y_read_32 => cz r_30 (some (r_30, y_at_31, y_read_32))) else (if r_1 = (nI 114) then bd3 (D_X9_placeItem v_size w_3 v_text v_read) (fun r_35 y_at_36 y_read_37 => cz r_35 (some (r_35, y_at_36, y_read_37))) else (if r_1 = (nI 115) then bd3 (D_X9_soundsItem F v_size w_3 v_text v_read) (fun r_40 y_at_41 y_read_42 => cz r_40 (some (r_40, y_at_41, y_read_42))) else (if r_1 = (nI 117) then bd3 (D_X9_needItem F v_size w_3 v_text v_read) (fun r_45 y_at_46 y_read_47 => cz r_45 (some (r_45, y_at_46, y_read_47))) else (if r_1 = (nI 119) then bd3 (D_X9_wordItem F (nI 0) (nI 1) v_size w_3 v_text v_read) (fun r_50 y_at_51 y_read_52 => cz r_50 (some (r_50, y_at_51, y_read_52))) else some ((nI 0), w_3, v_read)))))))))))))
abbrev rm_X9_item : Room := { frames := 4, cells := 0, slots := 0, locals := 93 }
set_option maxHeartbeats 4000000 in
set_option maxRecDepth 100000 in
theorem c_X9_item (l : Launch) (D : va_G) (ca : Nat → ClassId) (F : Nat) (sz : Nat) (q_this q_text q_read q_l q_stands q_kept q_one q_two q_ways q_now q_then : Nat) (v_size : Int32) (v_at : Int32) (v_keptMany : Int32) (v_text : Nat → Int32) (v_read : Nat → Int32) (r : Int32) (o_at : Int32) (o_read : Nat → Int32) (h : D_X9_item F v_size v_at v_text v_read = some (r, o_at, o_read)) : Met l yX9_item wsX9_item rm_X9_item (va_Pc [.ref q_this] (kPre D ca [(q_this, .inr (8, [.ref q_text, .int v_size, .int v_at, .ref q_read, .ref q_l, .ref q_stands, .ref q_kept, .int v_keptMany, .ref q_one, .ref q_two, .ref q_ways, .ref q_now, .ref q_then])), (q_text, .inl (ca 0, 500, .inl v_text)), (q_read, .inl (ca 0, 336, .inl v_read))] sz)) (kQi D ca (va_A [(q_this, .inr (8, [.ref q_text, .int v_size, .int v_at, .ref q_read, .ref q_l, .ref q_stands, .ref q_kept, .int v_keptMany, .ref q_one, .ref q_two, .ref q_ways, .ref q_now, .ref q_then])), (q_text, .inl (ca 0, 500, .inl v_text)), (q_read, .inl (ca 0, 336, .inl v_read))] sz) [(q_this, .inr (8, [.ref q_text, .int v_size, .int o_at, .ref q_read, .ref q_l, .ref q_stands, .ref q_kept, .int v_keptMany, .ref q_one, .ref q_two, .ref q_ways, .ref q_now, .ref q_then])), (q_text, .inl (ca 0, 500, .inl v_text)), (q_read, .inl (ca 0, 336, .inl o_read))] r) 0 0 (va_A [(q_this, .inr (8, [.ref q_text, .int v_size, .int v_at, .ref q_read, .ref q_l, .ref q_stands, .ref q_kept, .int v_keptMany, .ref q_one, .ref q_two, .ref q_ways, .ref q_now, .ref q_then])), (q_text, .inl (ca 0, 500, .inl v_text)), (q_read, .inl (ca 0, 336, .inl v_read))] sz) := by
  refine Met.ofW (cc := cX9_item) (maxL := 2) (ret := (some .boolean)) (by decide +kernel) rfl ?_
  intro p e s m args below meth c s₁ B hml hv
  obtain ⟨rfl, hsz, hP, hK, hD0⟩ := hv
  have hx := B.exec
  have hb := B.bytes
  have hr := B.returns
  have hts := atoms_spec (ws := wsX9_item) B.pre
  have hown : s.vm.findClass RX9 = some m.cls := findClass_of_methodNamed B.named
  have hlocks := B.notSynchronized
  clear B
  subst hsz
  have hD := hD0.self (sz := s.heap.size)
  generalize hAe : va_A [(q_this, .inr (8, [.ref q_text, .int v_size, .int v_at, .ref q_read, .ref q_l, .ref q_stands, .ref q_kept, .int v_keptMany, .ref q_one, .ref q_two, .ref q_ways, .ref q_now, .ref q_then])), (q_text, .inl (ca 0, 500, .inl v_text)), (q_read, .inl (ca 0, 336, .inl v_read))] s.heap.size = A at hD ⊢
  have hA : ∀ q : Nat, s.heap.size ≤ q → A q := fun q h => by rw [← hAe]; exact Or.inr h
  have hS : va_S A s.heap s.heap [] := va_S.rf
  have hl := lv_entry ([.ref q_this]) (n := 2) (Nat.le_of_ble_eq_true rfl)
  rw [lg_entry_eq]
  generalize (lg_sl ([.ref q_this]) ++ List.replicate (2 - (lg_sl ([.ref q_this])).length) Slot.unset).toArray = ls at hl ⊢
  have hl : lv_has ls 2 [(0, .ref q_this)] := hl
  generalize ([.ref q_this] : List Value).toArray = args at hts ⊢
  generalize hQe : MQ below (kQi D ca (A) [(q_this, .inr (8, [.ref q_text, .int v_size, .int o_at, .ref q_read, .ref q_l, .ref q_stands, .ref q_kept, .int v_keptMany, .ref q_one, .ref q_two, .ref q_ways, .ref q_now, .ref q_then])), (q_text, .inl (ca 0, 500, .inl v_text)), (q_read, .inl (ca 0, 336, .inl o_read))] r) args s 0 0 A = Q
  have i_X9 : ∀ w ∈ u_ws RX9 TX9 13, w ∈ wsX9_item := by decide +kernel
  have k_60 := hts (.fieldLink RX9 60 "TradeWordsModel" "at" "I") (by decide +kernel)
  rw [D_X9_item] at h
  refine lv_aload_n hx hb dX9_item_0 rfl (lv_at hl 0 rfl) ?_
  obtain ⟨r_1, hg_2, h⟩ := bd1_el h
  refine kx_Vi (As := []) (rest := []) (wr := [(q_read, .inl (ca 0, 336, .inl v_read))]) (w1 := [(q_this, .inr (8, [.ref q_text, .int v_size, .int v_at, .ref q_read, .ref q_l, .ref q_stands, .ref q_kept, .int v_keptMany, .ref q_one, .ref q_two, .ref q_ways, .ref q_now, .ref q_then])), (q_text, .inl (ca 0, 500, .inl v_text))]) (wn := [(q_this, .inr (8, [.ref q_text, .int v_size, .int v_at, .ref q_read, .ref q_l, .ref q_stands, .ref q_kept, .int v_keptMany, .ref q_one, .ref q_two, .ref q_ways, .ref q_now, .ref q_then])), (q_text, .inl (ca 0, 500, .inl v_text)), (q_read, .inl (ca 0, 336, .inl v_read))]) ⟨hx, hb, hml, hown, hts⟩ (c_X9_byteAt l D ca s.heap.size q_this q_text q_read q_l q_stands q_kept q_one q_two q_ways q_now q_then v_size v_at v_keptMany v_text r_1 hg_2) (cwV 0 hts gX9_item_X9_byteAt rfl rfl rfl (by decide +kernel) ⟨(Nat.le_of_ble_eq_true rfl), (Nat.le_of_ble_eq_true rfl)⟩) hK hP hD hS hA (ci := 8) (q0 := 0) rfl rfl [0, 1] [2] [1, 2, 0] rfl rfl rfl rfl (by decide) rfl rfl rfl hl.1 rfl (Nat.le_of_ble_eq_true rfl) dX9_item_1 ⟨Nat.zero_le _, Nat.zero_le _⟩ (fun H locs hP hD hS => ?_)
  refine lv_istore_n (lv' := [(1, .int r_1), (0, .ref q_this)]) hx hb dX9_item_4 rfl hl (by decide) rfl (fun ls hl => ?_)
  refine lv_aload_n hx hb dX9_item_5 rfl (lv_at hl 1 rfl) ?_
  refine lv_dup hx hb dX9_item_6 rfl ?_
  refine va_get (D := D) (ci := 8) (v := .int v_at) (C := RX9) (T := TX9) (N := 13) hx hb hts i_X9 hown hK hP 0 rfl rfl 2 (by decide) k_60 (fun _ h9 => h9) rfl dX9_item_7 ?_
  refine lv_iconst (v := (nI 1)) hx hb dX9_item_10 (by decide) ?_
  refine lv_iadd hx hb dX9_item_11 ?_
  refine lv_nmi h (fun w_3 h => ?_)
  refine va_put (D := D) (ci := 8) (v := .int w_3) (ty := .int) (C := RX9) (T := TX9) (N := 13) hx hb hts i_X9 tyX9 tyX9_ok nmX9 hown hK hP hD hS 0 rfl rfl 2 (by decide) k_60 (fun _ h9 => h9) rfl (by decide +kernel) rfl rfl (Nat.le_of_ble_eq_true rfl) dX9_item_12 (fun H locs hP hD hS => ?_)
  have hP : va_P D vwCl [(q_this, .inr (8, [.ref q_text, .int v_size, .int w_3, .ref q_read, .ref q_l, .ref q_stands, .ref q_kept, .int v_keptMany, .ref q_one, .ref q_two, .ref q_ways, .ref q_now, .ref q_then])), (q_text, .inl (ca 0, 500, .inl v_text)), (q_read, .inl (ca 0, 336, .inl v_read))] H := hP
  have hD : va_D A [(q_this, .inr (8, [.ref q_text, .int v_size, .int w_3, .ref q_read, .ref q_l, .ref q_stands, .ref q_kept, .int v_keptMany, .ref q_one, .ref q_two, .ref q_ways, .ref q_now, .ref q_then])), (q_text, .inl (ca 0, 500, .inl v_text)), (q_read, .inl (ca 0, 336, .inl v_read))] := hD
  refine lv_iload_n hx hb dX9_item_15 rfl (lv_at hl 0 rfl) ?_
  by_cases c_4 : r_1 = (nI 101)
  · replace h := ifp_el c_4 h
    refine lv_tableIn (off := 163) (tgt := 179) hx hb dX9_item_16 (by rw [c_4]; decide) (by rw [c_4]; decide) (by rw [c_4]; decide) (by decide) ?_
    refine lv_aload_n hx hb dX9_item_179 rfl (lv_at hl 1 rfl) ?_
    refine lv_bipush (v := (nI 112)) hx hb dX9_item_180 (by decide) ?_
    refine lv_iconst (v := (nI 2)) hx hb dX9_item_182 (by decide) ?_
    obtain ⟨r_5, y_at_6, y_read_7, hg_8, h⟩ := bd3_el h
    refine kx_Vi (As := [.int (nI 112), .int (nI 2)]) (rest := []) (wr := []) (w1 := [(q_this, .inr (8, [.ref q_text, .int v_size, .int y_at_6, .ref q_read, .ref q_l, .ref q_stands, .ref q_kept, .int v_keptMany, .ref q_one, .ref q_two, .ref q_ways, .ref q_now, .ref q_then])), (q_text, .inl (ca 0, 500, .inl v_text)), (q_read, .inl (ca 0, 336, .inl y_read_7))]) (wn := [(q_this, .inr (8, [.ref q_text, .int v_size, .int y_at_6, .ref q_read, .ref q_l, .ref q_stands, .ref q_kept, .int v_keptMany, .ref q_one, .ref q_two, .ref q_ways, .ref q_now, .ref q_then])), (q_text, .inl (ca 0, 500, .inl v_text)), (q_read, .inl (ca 0, 336, .inl y_read_7))]) ⟨hx, hb, hml, hown, hts⟩ (c_X9_wordItem l D ca F H.size q_this q_text q_read q_l q_stands q_kept q_one q_two q_ways q_now q_then (nI 112) (nI 2) v_size w_3 v_keptMany v_text v_read r_5 y_at_6 y_read_7 hg_8) (cwV 2 hts gX9_item_X9_wordItem rfl rfl rfl (by decide +kernel) ⟨(Nat.le_of_ble_eq_true rfl), (Nat.le_of_ble_eq_true rfl)⟩) hK hP hD hS hA (ci := 8) (q0 := 0) rfl rfl [0, 1, 2] [] [0, 1, 2] rfl rfl rfl rfl (by decide) rfl rfl rfl hl.1 rfl (Nat.le_of_ble_eq_true rfl) dX9_item_183 ⟨Nat.zero_le _, Nat.zero_le _⟩ (fun H locs hP hD hS => ?_)
    obtain ⟨hz, h⟩ := cz_el h
    cases h
    rw [← hQe]
    exact W.zret hx hb hr hz (fun t ht hW => ⟨⟨_, (), rfl, rfl, by rw [ht]; exact hP, va_K.moved hW.alike hK, hD⟩, hS.F ht⟩) hS.2.2 dX9_item_186
  replace h := ifn_el c_4 h
  by_cases c_9 : r_1 = (nI 103)
  · replace h := ifp_el c_9 h
    refine lv_tableIn (off := 142) (tgt := 158) hx hb dX9_item_16 (by rw [c_9]; decide) (by rw [c_9]; decide) (by rw [c_9]; decide) (by decide) ?_
    refine lv_aload_n hx hb dX9_item_158 rfl (lv_at hl 1 rfl) ?_
    refine lv_sipush (v := (nI 303)) hx hb dX9_item_159 (by decide) ?_
    refine lv_iconst (v := (nI 1)) hx hb dX9_item_162 (by decide) ?_
    refine lv_bipush (v := (nI 99)) hx hb dX9_item_163 (by decide) ?_
    obtain ⟨r_10, y_at_11, y_read_12, hg_13, h⟩ := bd3_el h
    refine kx_Vi (As := [.int (nI 303), .int (nI 1), .int (nI 99)]) (rest := []) (wr := []) (w1 := [(q_this, .inr (8, [.ref q_text, .int v_size, .int y_at_11, .ref q_read, .ref q_l, .ref q_stands, .ref q_kept, .int v_keptMany, .ref q_one, .ref q_two, .ref q_ways, .ref q_now, .ref q_then])), (q_text, .inl (ca 0, 500, .inl v_text)), (q_read, .inl (ca 0, 336, .inl y_read_12))]) (wn := [(q_this, .inr (8, [.ref q_text, .int v_size, .int y_at_11, .ref q_read, .ref q_l, .ref q_stands, .ref q_kept, .int v_keptMany, .ref q_one, .ref q_two, .ref q_ways, .ref q_now, .ref q_then])), (q_text, .inl (ca 0, 500, .inl v_text)), (q_read, .inl (ca 0, 336, .inl y_read_12))]) ⟨hx, hb, hml, hown, hts⟩ (c_X9_oneItem l D ca F H.size q_this q_text q_read q_l q_stands q_kept q_one q_two q_ways q_now q_then (nI 303) (nI 1) (nI 99) v_size w_3 v_keptMany v_text v_read r_10 y_at_11 y_read_12 hg_13) (cwV 3 hts gX9_item_X9_oneItem rfl rfl rfl (by decide +kernel) ⟨(Nat.le_of_ble_eq_true rfl), (Nat.le_of_ble_eq_true rfl)⟩) hK hP hD hS hA (ci := 8) (q0 := 0) rfl rfl [0, 1, 2] [] [0, 1, 2] rfl rfl rfl rfl (by decide) rfl rfl rfl hl.1 rfl (Nat.le_of_ble_eq_true rfl) dX9_item_165 ⟨Nat.zero_le _, Nat.zero_le _⟩ (fun H locs hP hD hS => ?_)
    obtain ⟨hz, h⟩ := cz_el h
    cases h
    rw [← hQe]
    exact W.zret hx hb hr hz (fun t ht hW => ⟨⟨_, (), rfl, rfl, by rw [ht]; exact hP, va_K.moved hW.alike hK, hD⟩, hS.F ht⟩) hS.2.2 dX9_item_168
  replace h := ifn_el c_9 h
  by_cases c_14 : r_1 = (nI 106)
  · replace h := ifp_el c_14 h
    refine lv_tableIn (off := 153) (tgt := 169) hx hb dX9_item_16 (by rw [c_14]; decide) (by rw [c_14]; decide) (by rw [c_14]; decide) (by decide) ?_
    refine lv_aload_n hx hb dX9_item_169 rfl (lv_at hl 1 rfl) ?_
    obtain ⟨r_15, y_at_16, y_read_17, hg_18, h⟩ := bd3_el h
    refine kx_Vi (As := []) (rest := []) (wr := []) (w1 := [(q_this, .inr (8, [.ref q_text, .int v_size, .int y_at_16, .ref q_read, .ref q_l, .ref q_stands, .ref q_kept, .int v_keptMany, .ref q_one, .ref q_two, .ref q_ways, .ref q_now, .ref q_then])), (q_text, .inl (ca 0, 500, .inl v_text)), (q_read, .inl (ca 0, 336, .inl y_read_17))]) (wn := [(q_this, .inr (8, [.ref q_text, .int v_size, .int y_at_16, .ref q_read, .ref q_l, .ref q_stands, .ref q_kept, .int v_keptMany, .ref q_one, .ref q_two, .ref q_ways, .ref q_now, .ref q_then])), (q_text, .inl (ca 0, 500, .inl v_text)), (q_read, .inl (ca 0, 336, .inl y_read_17))]) ⟨hx, hb, hml, hown, hts⟩ (c_X9_joinItem l D ca F H.size q_this q_text q_read q_l q_stands q_kept q_one q_two q_ways q_now q_then v_size w_3 v_keptMany v_text v_read r_15 y_at_16 y_read_17 hg_18) (cwV 0 hts gX9_item_X9_joinItem rfl rfl rfl (by decide +kernel) ⟨(Nat.le_of_ble_eq_true rfl), (Nat.le_of_ble_eq_true rfl)⟩) hK hP hD hS hA (ci := 8) (q0 := 0) rfl rfl [0, 1, 2] [] [0, 1, 2] rfl rfl rfl rfl (by decide) rfl rfl rfl hl.1 rfl (Nat.le_of_ble_eq_true rfl) dX9_item_170 ⟨Nat.zero_le _, Nat.zero_le _⟩ (fun H locs hP hD hS => ?_)
    obtain ⟨hz, h⟩ := cz_el h
    cases h
    rw [← hQe]
    exact W.zret hx hb hr hz (fun t ht hW => ⟨⟨_, (), rfl, rfl, by rw [ht]; exact hP, va_K.moved hW.alike hK, hD⟩, hS.F ht⟩) hS.2.2 dX9_item_173
  replace h := ifn_el c_14 h
  by_cases c_19 : r_1 = (nI 107)
  · replace h := ifp_el c_19 h
    refine lv_tableIn (off := 120) (tgt := 136) hx hb dX9_item_16 (by rw [c_19]; decide) (by rw [c_19]; decide) (by rw [c_19]; decide) (by decide) ?_
    refine lv_aload_n hx hb dX9_item_136 rfl (lv_at hl 1 rfl) ?_
    refine lv_sipush (v := (nI 300)) hx hb dX9_item_137 (by decide) ?_
    refine lv_iconst (v := (nI 0)) hx hb dX9_item_140 (by decide) ?_
    refine lv_bipush (v := (nI 10)) hx hb dX9_item_141 (by decide) ?_
    obtain ⟨r_20, y_at_21, y_read_22, hg_23, h⟩ := bd3_el h
    refine kx_Vi (As := [.int (nI 300), .int (nI 0), .int (nI 10)]) (rest := []) (wr := []) (w1 := [(q_this, .inr (8, [.ref q_text, .int v_size, .int y_at_21, .ref q_read, .ref q_l, .ref q_stands, .ref q_kept, .int v_keptMany, .ref q_one, .ref q_two, .ref q_ways, .ref q_now, .ref q_then])), (q_text, .inl (ca 0, 500, .inl v_text)), (q_read, .inl (ca 0, 336, .inl y_read_22))]) (wn := [(q_this, .inr (8, [.ref q_text, .int v_size, .int y_at_21, .ref q_read, .ref q_l, .ref q_stands, .ref q_kept, .int v_keptMany, .ref q_one, .ref q_two, .ref q_ways, .ref q_now, .ref q_then])), (q_text, .inl (ca 0, 500, .inl v_text)), (q_read, .inl (ca 0, 336, .inl y_read_22))]) ⟨hx, hb, hml, hown, hts⟩ (c_X9_pairItem l D ca F H.size q_this q_text q_read q_l q_stands q_kept q_one q_two q_ways q_now q_then (nI 300) (nI 0) (nI 10) v_size w_3 v_keptMany v_text v_read r_20 y_at_21 y_read_22 hg_23) (cwV 3 hts gX9_item_X9_pairItem rfl rfl rfl (by decide +kernel) ⟨(Nat.le_of_ble_eq_true rfl), (Nat.le_of_ble_eq_true rfl)⟩) hK hP hD hS hA (ci := 8) (q0 := 0) rfl rfl [0, 1, 2] [] [0, 1, 2] rfl rfl rfl rfl (by decide) rfl rfl rfl hl.1 rfl (Nat.le_of_ble_eq_true rfl) dX9_item_143 ⟨Nat.zero_le _, Nat.zero_le _⟩ (fun H locs hP hD hS => ?_)
    obtain ⟨hz, h⟩ := cz_el h
    cases h
    rw [← hQe]
    exact W.zret hx hb hr hz (fun t ht hW => ⟨⟨_, (), rfl, rfl, by rw [ht]; exact hP, va_K.moved hW.alike hK, hD⟩, hS.F ht⟩) hS.2.2 dX9_item_146
  replace h := ifn_el c_19 h
  by_cases c_24 : r_1 = (nI 110)
  · replace h := ifp_el c_24 h
    refine lv_tableIn (off := 109) (tgt := 125) hx hb dX9_item_16 (by rw [c_24]; decide) (by rw [c_24]; decide) (by rw [c_24]; decide) (by decide) ?_
    refine lv_aload_n hx hb dX9_item_125 rfl (lv_at hl 1 rfl) ?_
    refine lv_sipush (v := (nI 298)) hx hb dX9_item_126 (by decide) ?_
    refine lv_iconst (v := (nI 1)) hx hb dX9_item_129 (by decide) ?_
    refine lv_bipush (v := (nI 8)) hx hb dX9_item_130 (by decide) ?_
    obtain ⟨r_25, y_at_26, y_read_27, hg_28, h⟩ := bd3_el h
    refine kx_Vi (As := [.int (nI 298), .int (nI 1), .int (nI 8)]) (rest := []) (wr := []) (w1 := [(q_this, .inr (8, [.ref q_text, .int v_size, .int y_at_26, .ref q_read, .ref q_l, .ref q_stands, .ref q_kept, .int v_keptMany, .ref q_one, .ref q_two, .ref q_ways, .ref q_now, .ref q_then])), (q_text, .inl (ca 0, 500, .inl v_text)), (q_read, .inl (ca 0, 336, .inl y_read_27))]) (wn := [(q_this, .inr (8, [.ref q_text, .int v_size, .int y_at_26, .ref q_read, .ref q_l, .ref q_stands, .ref q_kept, .int v_keptMany, .ref q_one, .ref q_two, .ref q_ways, .ref q_now, .ref q_then])), (q_text, .inl (ca 0, 500, .inl v_text)), (q_read, .inl (ca 0, 336, .inl y_read_27))]) ⟨hx, hb, hml, hown, hts⟩ (c_X9_pairItem l D ca F H.size q_this q_text q_read q_l q_stands q_kept q_one q_two q_ways q_now q_then (nI 298) (nI 1) (nI 8) v_size w_3 v_keptMany v_text v_read r_25 y_at_26 y_read_27 hg_28) (cwV 3 hts gX9_item_X9_pairItem rfl rfl rfl (by decide +kernel) ⟨(Nat.le_of_ble_eq_true rfl), (Nat.le_of_ble_eq_true rfl)⟩) hK hP hD hS hA (ci := 8) (q0 := 0) rfl rfl [0, 1, 2] [] [0, 1, 2] rfl rfl rfl rfl (by decide) rfl rfl rfl hl.1 rfl (Nat.le_of_ble_eq_true rfl) dX9_item_132 ⟨Nat.zero_le _, Nat.zero_le _⟩ (fun H locs hP hD hS => ?_)
    obtain ⟨hz, h⟩ := cz_el h
    cases h
    rw [← hQe]
    exact W.zret hx hb hr hz (fun t ht hW => ⟨⟨_, (), rfl, rfl, by rw [ht]; exact hP, va_K.moved hW.alike hK, hD⟩, hS.F ht⟩) hS.2.2 dX9_item_135
  replace h := ifn_el c_24 h
  by_cases c_29 : r_1 = (nI 111)
  · replace h := ifp_el c_29 h
    refine lv_tableIn (off := 131) (tgt := 147) hx hb dX9_item_16 (by rw [c_29]; decide) (by rw [c_29]; decide) (by rw [c_29]; decide) (by decide) ?_
    refine lv_aload_n hx hb dX9_item_147 rfl (lv_at hl 1 rfl) ?_
    refine lv_sipush (v := (nI 302)) hx hb dX9_item_148 (by decide) ?_
    refine lv_iconst (v := (nI 0)) hx hb dX9_item_151 (by decide) ?_
    refine lv_bipush (v := (nI 10)) hx hb dX9_item_152 (by decide) ?_
    obtain ⟨r_30, y_at_31, y_read_32, hg_33, h⟩ := bd3_el h
    refine kx_Vi (As := [.int (nI 302), .int (nI 0), .int (nI 10)]) (rest := []) (wr := []) (w1 := [(q_this, .inr (8, [.ref q_text, .int v_size, .int y_at_31, .ref q_read, .ref q_l, .ref q_stands, .ref q_kept, .int v_keptMany, .ref q_one, .ref q_two, .ref q_ways, .ref q_now, .ref q_then])), (q_text, .inl (ca 0, 500, .inl v_text)), (q_read, .inl (ca 0, 336, .inl y_read_32))]) (wn := [(q_this, .inr (8, [.ref q_text, .int v_size, .int y_at_31, .ref q_read, .ref q_l, .ref q_stands, .ref q_kept, .int v_keptMany, .ref q_one, .ref q_two, .ref q_ways, .ref q_now, .ref q_then])), (q_text, .inl (ca 0, 500, .inl v_text)), (q_read, .inl (ca 0, 336, .inl y_read_32))]) ⟨hx, hb, hml, hown, hts⟩ (c_X9_oneItem l D ca F H.size q_this q_text q_read q_l q_stands q_kept q_one q_two q_ways q_now q_then (nI 302) (nI 0) (nI 10) v_size w_3 v_keptMany v_text v_read r_30 y_at_31 y_read_32 hg_33) (cwV 3 hts gX9_item_X9_oneItem rfl rfl rfl (by decide +kernel) ⟨(Nat.le_of_ble_eq_true rfl), (Nat.le_of_ble_eq_true rfl)⟩) hK hP hD hS hA (ci := 8) (q0 := 0) rfl rfl [0, 1, 2] [] [0, 1, 2] rfl rfl rfl rfl (by decide) rfl rfl rfl hl.1 rfl (Nat.le_of_ble_eq_true rfl) dX9_item_154 ⟨Nat.zero_le _, Nat.zero_le _⟩ (fun H locs hP hD hS => ?_)
    obtain ⟨hz, h⟩ := cz_el h
    cases h
    rw [← hQe]
    exact W.zret hx hb hr hz (fun t ht hW => ⟨⟨_, (), rfl, rfl, by rw [ht]; exact hP, va_K.moved hW.alike hK, hD⟩, hS.F ht⟩) hS.2.2 dX9_item_157
  replace h := ifn_el c_29 h
  by_cases c_34 : r_1 = (nI 114)
  · replace h := ifp_el c_34 h
    refine lv_tableIn (off := 104) (tgt := 120) hx hb dX9_item_16 (by rw [c_34]; decide) (by rw [c_34]; decide) (by rw [c_34]; decide) (by decide) ?_
    refine lv_aload_n hx hb dX9_item_120 rfl (lv_at hl 1 rfl) ?_
    obtain ⟨r_35, y_at_36, y_read_37, hg_38, h⟩ := bd3_el h
    refine kx_Vi (As := []) (rest := []) (wr := []) (w1 := [(q_this, .inr (8, [.ref q_text, .int v_size, .int y_at_36, .ref q_read, .ref q_l, .ref q_stands, .ref q_kept, .int v_keptMany, .ref q_one, .ref q_two, .ref q_ways, .ref q_now, .ref q_then])), (q_text, .inl (ca 0, 500, .inl v_text)), (q_read, .inl (ca 0, 336, .inl y_read_37))]) (wn := [(q_this, .inr (8, [.ref q_text, .int v_size, .int y_at_36, .ref q_read, .ref q_l, .ref q_stands, .ref q_kept, .int v_keptMany, .ref q_one, .ref q_two, .ref q_ways, .ref q_now, .ref q_then])), (q_text, .inl (ca 0, 500, .inl v_text)), (q_read, .inl (ca 0, 336, .inl y_read_37))]) ⟨hx, hb, hml, hown, hts⟩ (c_X9_placeItem l D ca H.size q_this q_text q_read q_l q_stands q_kept q_one q_two q_ways q_now q_then v_size w_3 v_keptMany v_text v_read r_35 y_at_36 y_read_37 hg_38) (cwV 0 hts gX9_item_X9_placeItem rfl rfl rfl (by decide +kernel) ⟨(Nat.le_of_ble_eq_true rfl), (Nat.le_of_ble_eq_true rfl)⟩) hK hP hD hS hA (ci := 8) (q0 := 0) rfl rfl [0, 1, 2] [] [0, 1, 2] rfl rfl rfl rfl (by decide) rfl rfl rfl hl.1 rfl (Nat.le_of_ble_eq_true rfl) dX9_item_121 ⟨Nat.zero_le _, Nat.zero_le _⟩ (fun H locs hP hD hS => ?_)
    obtain ⟨hz, h⟩ := cz_el h
    cases h
    rw [← hQe]
    exact W.zret hx hb hr hz (fun t ht hW => ⟨⟨_, (), rfl, rfl, by rw [ht]; exact hP, va_K.moved hW.alike hK, hD⟩, hS.F ht⟩) hS.2.2 dX9_item_124
  replace h := ifn_el c_34 h
  by_cases c_39 : r_1 = (nI 115)
  · replace h := ifp_el c_39 h
    refine lv_tableIn (off := 99) (tgt := 115) hx hb dX9_item_16 (by rw [c_39]; decide) (by rw [c_39]; decide) (by rw [c_39]; decide) (by decide) ?_
    refine lv_aload_n hx hb dX9_item_115 rfl (lv_at hl 1 rfl) ?_
    obtain ⟨r_40, y_at_41, y_read_42, hg_43, h⟩ := bd3_el h
    refine kx_Vi (As := []) (rest := []) (wr := []) (w1 := [(q_this, .inr (8, [.ref q_text, .int v_size, .int y_at_41, .ref q_read, .ref q_l, .ref q_stands, .ref q_kept, .int v_keptMany, .ref q_one, .ref q_two, .ref q_ways, .ref q_now, .ref q_then])), (q_text, .inl (ca 0, 500, .inl v_text)), (q_read, .inl (ca 0, 336, .inl y_read_42))]) (wn := [(q_this, .inr (8, [.ref q_text, .int v_size, .int y_at_41, .ref q_read, .ref q_l, .ref q_stands, .ref q_kept, .int v_keptMany, .ref q_one, .ref q_two, .ref q_ways, .ref q_now, .ref q_then])), (q_text, .inl (ca 0, 500, .inl v_text)), (q_read, .inl (ca 0, 336, .inl y_read_42))]) ⟨hx, hb, hml, hown, hts⟩ (c_X9_soundsItem l D ca F H.size q_this q_text q_read q_l q_stands q_kept q_one q_two q_ways q_now q_then v_size w_3 v_keptMany v_text v_read r_40 y_at_41 y_read_42 hg_43) (cwV 0 hts gX9_item_X9_soundsItem rfl rfl rfl (by decide +kernel) ⟨(Nat.le_of_ble_eq_true rfl), (Nat.le_of_ble_eq_true rfl)⟩) hK hP hD hS hA (ci := 8) (q0 := 0) rfl rfl [0, 1, 2] [] [0, 1, 2] rfl rfl rfl rfl (by decide) rfl rfl rfl hl.1 rfl (Nat.le_of_ble_eq_true rfl) dX9_item_116 ⟨Nat.zero_le _, Nat.zero_le _⟩ (fun H locs hP hD hS => ?_)
    obtain ⟨hz, h⟩ := cz_el h
    cases h
    rw [← hQe]
    exact W.zret hx hb hr hz (fun t ht hW => ⟨⟨_, (), rfl, rfl, by rw [ht]; exact hP, va_K.moved hW.alike hK, hD⟩, hS.F ht⟩) hS.2.2 dX9_item_119
  replace h := ifn_el c_39 h
  by_cases c_44 : r_1 = (nI 117)
  · replace h := ifp_el c_44 h
    refine lv_tableIn (off := 158) (tgt := 174) hx hb dX9_item_16 (by rw [c_44]; decide) (by rw [c_44]; decide) (by rw [c_44]; decide) (by decide) ?_
    refine lv_aload_n hx hb dX9_item_174 rfl (lv_at hl 1 rfl) ?_
    obtain ⟨r_45, y_at_46, y_read_47, hg_48, h⟩ := bd3_el h
    refine kx_Vi (As := []) (rest := []) (wr := []) (w1 := [(q_this, .inr (8, [.ref q_text, .int v_size, .int y_at_46, .ref q_read, .ref q_l, .ref q_stands, .ref q_kept, .int v_keptMany, .ref q_one, .ref q_two, .ref q_ways, .ref q_now, .ref q_then])), (q_text, .inl (ca 0, 500, .inl v_text)), (q_read, .inl (ca 0, 336, .inl y_read_47))]) (wn := [(q_this, .inr (8, [.ref q_text, .int v_size, .int y_at_46, .ref q_read, .ref q_l, .ref q_stands, .ref q_kept, .int v_keptMany, .ref q_one, .ref q_two, .ref q_ways, .ref q_now, .ref q_then])), (q_text, .inl (ca 0, 500, .inl v_text)), (q_read, .inl (ca 0, 336, .inl y_read_47))]) ⟨hx, hb, hml, hown, hts⟩ (c_X9_needItem l D ca F H.size q_this q_text q_read q_l q_stands q_kept q_one q_two q_ways q_now q_then v_size w_3 v_keptMany v_text v_read r_45 y_at_46 y_read_47 hg_48) (cwV 0 hts gX9_item_X9_needItem rfl rfl rfl (by decide +kernel) ⟨(Nat.le_of_ble_eq_true rfl), (Nat.le_of_ble_eq_true rfl)⟩) hK hP hD hS hA (ci := 8) (q0 := 0) rfl rfl [0, 1, 2] [] [0, 1, 2] rfl rfl rfl rfl (by decide) rfl rfl rfl hl.1 rfl (Nat.le_of_ble_eq_true rfl) dX9_item_175 ⟨Nat.zero_le _, Nat.zero_le _⟩ (fun H locs hP hD hS => ?_)
    obtain ⟨hz, h⟩ := cz_el h
    cases h
    rw [← hQe]
    exact W.zret hx hb hr hz (fun t ht hW => ⟨⟨_, (), rfl, rfl, by rw [ht]; exact hP, va_K.moved hW.alike hK, hD⟩, hS.F ht⟩) hS.2.2 dX9_item_178
  replace h := ifn_el c_44 h
  by_cases c_49 : r_1 = (nI 119)
  · replace h := ifp_el c_49 h
    refine lv_tableIn (off := 92) (tgt := 108) hx hb dX9_item_16 (by rw [c_49]; decide) (by rw [c_49]; decide) (by rw [c_49]; decide) (by decide) ?_
    refine lv_aload_n hx hb dX9_item_108 rfl (lv_at hl 1 rfl) ?_
    refine lv_iconst (v := (nI 0)) hx hb dX9_item_109 (by decide) ?_
    refine lv_iconst (v := (nI 1)) hx hb dX9_item_110 (by decide) ?_
    obtain ⟨r_50, y_at_51, y_read_52, hg_53, h⟩ := bd3_el h
    refine kx_Vi (As := [.int (nI 0), .int (nI 1)]) (rest := []) (wr := []) (w1 := [(q_this, .inr (8, [.ref q_text, .int v_size, .int y_at_51, .ref q_read, .ref q_l, .ref q_stands, .ref q_kept, .int v_keptMany, .ref q_one, .ref q_two, .ref q_ways, .ref q_now, .ref q_then])), (q_text, .inl (ca 0, 500, .inl v_text)), (q_read, .inl (ca 0, 336, .inl y_read_52))]) (wn := [(q_this, .inr (8, [.ref q_text, .int v_size, .int y_at_51, .ref q_read, .ref q_l, .ref q_stands, .ref q_kept, .int v_keptMany, .ref q_one, .ref q_two, .ref q_ways, .ref q_now, .ref q_then])), (q_text, .inl (ca 0, 500, .inl v_text)), (q_read, .inl (ca 0, 336, .inl y_read_52))]) ⟨hx, hb, hml, hown, hts⟩ (c_X9_wordItem l D ca F H.size q_this q_text q_read q_l q_stands q_kept q_one q_two q_ways q_now q_then (nI 0) (nI 1) v_size w_3 v_keptMany v_text v_read r_50 y_at_51 y_read_52 hg_53) (cwV 2 hts gX9_item_X9_wordItem rfl rfl rfl (by decide +kernel) ⟨(Nat.le_of_ble_eq_true rfl), (Nat.le_of_ble_eq_true rfl)⟩) hK hP hD hS hA (ci := 8) (q0 := 0) rfl rfl [0, 1, 2] [] [0, 1, 2] rfl rfl rfl rfl (by decide) rfl rfl rfl hl.1 rfl (Nat.le_of_ble_eq_true rfl) dX9_item_111 ⟨Nat.zero_le _, Nat.zero_le _⟩ (fun H locs hP hD hS => ?_)
    obtain ⟨hz, h⟩ := cz_el h
    cases h
    rw [← hQe]
    exact W.zret hx hb hr hz (fun t ht hW => ⟨⟨_, (), rfl, rfl, by rw [ht]; exact hP, va_K.moved hW.alike hK, hD⟩, hS.F ht⟩) hS.2.2 dX9_item_114
  replace h := ifn_el c_49 h
  have hdf : W p l e (headSpec wsX9_item rm_X9_item).room s m args below meth c H locs 0 0 Q (F0 m 187 ls []) := by
    refine lv_iconst (v := (nI 0)) hx hb dX9_item_187 (by decide) ?_
    cases h
    rw [← hQe]
    exact W.zret hx hb hr rfl (fun t ht hW => ⟨⟨_, (), rfl, rfl, by rw [ht]; exact hP, va_K.moved hW.alike hK, hD⟩, hS.F ht⟩) hS.2.2 dX9_item_188
  by_cases c_54 : (r_1).toInt < 101 ∨ 119 < (r_1).toInt
  · exact lv_tableOut hx hb dX9_item_16 c_54 (by decide) hdf
  have n_c_4 := lv_neT (a := 101) c_4 (by decide)
  have n_c_9 := lv_neT (a := 103) c_9 (by decide)
  have n_c_14 := lv_neT (a := 106) c_14 (by decide)
  have n_c_19 := lv_neT (a := 107) c_19 (by decide)
  have n_c_24 := lv_neT (a := 110) c_24 (by decide)
  have n_c_29 := lv_neT (a := 111) c_29 (by decide)
  have n_c_34 := lv_neT (a := 114) c_34 (by decide)
  have n_c_39 := lv_neT (a := 115) c_39 (by decide)
  have n_c_44 := lv_neT (a := 117) c_44 (by decide)
  have n_c_49 := lv_neT (a := 119) c_49 (by decide)
  have n_h : (r_1).toInt = 102 ∨ (r_1).toInt = 104 ∨ (r_1).toInt = 105 ∨ (r_1).toInt = 108 ∨ (r_1).toInt = 109 ∨ (r_1).toInt = 112 ∨ (r_1).toInt = 113 ∨ (r_1).toInt = 116 ∨ (r_1).toInt = 118 := by omega
  refine lv_tableIn (off := 171) (tgt := 187) hx hb dX9_item_16 (by omega) (by omega) ?_ (by decide) hdf
  rcases n_h with n_h | n_h | n_h | n_h | n_h | n_h | n_h | n_h | n_h <;> rw [n_h] <;> decide
def b_X9_fault_9 (v_size : Int32) (v_text : Nat → Int32) (F : Nat) (rec9 : Int32 → (Nat → Int32) → Option (Int32 × Int32 × (Nat → Int32))) (y_at_3 : Int32) (y_read_4 : Nat → Int32) : Option (Int32 × Int32 × (Nat → Int32)) := (if v_size ≤ y_at_3 then some ((-4 : Int32), y_at_3, y_read_4) else bd3 (D_X9_item F v_size y_at_3 v_text y_read_4) (fun r_6 y_at_7 y_read_8 => (if r_6 = 0 then some (y_at_3, y_at_7, y_read_8) else bd2 (D_X9_takes (nI 59) v_size y_at_7 v_text) (fun r_11 y_at_12 => (if r_11 = 0 then some (y_at_3, y_at_12, y_read_8) else rec9 y_at_12 y_read_8)))))
def D_X9_fault (F : Nat) (v_size : Int32) (v_at : Int32) (v_text : Nat → Int32) (v_read : Nat → Int32) : Option (Int32 × Int32 × (Nat → Int32)) := bd1 (D_X9_begin F v_read) (fun y_read_1 => lpg (T := Int32 → (Nat → Int32) → Option (Int32 × Int32 × (Nat → Int32))) (fun _ _ => none) (b_X9_fault_9 v_size v_text F) F (nI 0) y_read_1)
abbrev rm_X9_fault : Room := { frames := 5, cells := 0, slots := 0, locals := 114 }
set_option maxHeartbeats 4000000 in
set_option maxRecDepth 100000 in
theorem c_X9_fault (l : Launch) (D : va_G) (ca : Nat → ClassId) (F : Nat) (sz : Nat) (q_this q_text q_read q_l q_stands q_kept q_one q_two q_ways q_now q_then : Nat) (v_size : Int32) (v_at : Int32) (v_keptMany : Int32) (v_text : Nat → Int32) (v_read : Nat → Int32) (r : Int32) (o_at : Int32) (o_read : Nat → Int32) (h : D_X9_fault F v_size v_at v_text v_read = some (r, o_at, o_read)) : Met l yX9_fault wsX9_fault rm_X9_fault (va_Pc [.ref q_this] (kPre D ca [(q_this, .inr (8, [.ref q_text, .int v_size, .int v_at, .ref q_read, .ref q_l, .ref q_stands, .ref q_kept, .int v_keptMany, .ref q_one, .ref q_two, .ref q_ways, .ref q_now, .ref q_then])), (q_text, .inl (ca 0, 500, .inl v_text)), (q_read, .inl (ca 0, 336, .inl v_read))] sz)) (kQi D ca (va_A [(q_this, .inr (8, [.ref q_text, .int v_size, .int v_at, .ref q_read, .ref q_l, .ref q_stands, .ref q_kept, .int v_keptMany, .ref q_one, .ref q_two, .ref q_ways, .ref q_now, .ref q_then])), (q_text, .inl (ca 0, 500, .inl v_text)), (q_read, .inl (ca 0, 336, .inl v_read))] sz) [(q_this, .inr (8, [.ref q_text, .int v_size, .int o_at, .ref q_read, .ref q_l, .ref q_stands, .ref q_kept, .int v_keptMany, .ref q_one, .ref q_two, .ref q_ways, .ref q_now, .ref q_then])), (q_text, .inl (ca 0, 500, .inl v_text)), (q_read, .inl (ca 0, 336, .inl o_read))] r) 0 0 (va_A [(q_this, .inr (8, [.ref q_text, .int v_size, .int v_at, .ref q_read, .ref q_l, .ref q_stands, .ref q_kept, .int v_keptMany, .ref q_one, .ref q_two, .ref q_ways, .ref q_now, .ref q_then])), (q_text, .inl (ca 0, 500, .inl v_text)), (q_read, .inl (ca 0, 336, .inl v_read))] sz) := by
  refine Met.ofW (cc := cX9_fault) (maxL := 2) (ret := (some .int)) (by decide +kernel) rfl ?_
  intro p e s m args below meth c s₁ B hml hv
  obtain ⟨rfl, hsz, hP, hK, hD0⟩ := hv
  have hx := B.exec
  have hb := B.bytes
  have hr := B.returns
  have hts := atoms_spec (ws := wsX9_fault) B.pre
  have hown : s.vm.findClass RX9 = some m.cls := findClass_of_methodNamed B.named
  have hlocks := B.notSynchronized
  clear B
  subst hsz
  have hD := hD0.self (sz := s.heap.size)
  generalize hAe : va_A [(q_this, .inr (8, [.ref q_text, .int v_size, .int v_at, .ref q_read, .ref q_l, .ref q_stands, .ref q_kept, .int v_keptMany, .ref q_one, .ref q_two, .ref q_ways, .ref q_now, .ref q_then])), (q_text, .inl (ca 0, 500, .inl v_text)), (q_read, .inl (ca 0, 336, .inl v_read))] s.heap.size = A at hD ⊢
  have hA : ∀ q : Nat, s.heap.size ≤ q → A q := fun q h => by rw [← hAe]; exact Or.inr h
  have hS : va_S A s.heap s.heap [] := va_S.rf
  have hl := lv_entry ([.ref q_this]) (n := 2) (Nat.le_of_ble_eq_true rfl)
  rw [lg_entry_eq]
  generalize (lg_sl ([.ref q_this]) ++ List.replicate (2 - (lg_sl ([.ref q_this])).length) Slot.unset).toArray = ls at hl ⊢
  have hl : lv_has ls 2 [(0, .ref q_this)] := hl
  generalize ([.ref q_this] : List Value).toArray = args at hts ⊢
  generalize hQe : MQ below (kQi D ca (A) [(q_this, .inr (8, [.ref q_text, .int v_size, .int o_at, .ref q_read, .ref q_l, .ref q_stands, .ref q_kept, .int v_keptMany, .ref q_one, .ref q_two, .ref q_ways, .ref q_now, .ref q_then])), (q_text, .inl (ca 0, 500, .inl v_text)), (q_read, .inl (ca 0, 336, .inl o_read))] r) args s 0 0 A = Q
  have i_X9 : ∀ w ∈ u_ws RX9 TX9 13, w ∈ wsX9_fault := by decide +kernel
  have k_60 := hts (.fieldLink RX9 60 "TradeWordsModel" "at" "I") (by decide +kernel)
  have k_53 := hts (.fieldLink RX9 53 "TradeWordsModel" "size" "I") (by decide +kernel)
  rw [D_X9_fault] at h
  refine lv_aload_n hx hb dX9_fault_0 rfl (lv_at hl 0 rfl) ?_
  obtain ⟨y_read_1, hg_2, h⟩ := bd1_el h
  refine kx_Vv (As := []) (rest := []) (wr := [(q_text, .inl (ca 0, 500, .inl v_text))]) (w1 := [(q_this, .inr (8, [.ref q_text, .int v_size, .int v_at, .ref q_read, .ref q_l, .ref q_stands, .ref q_kept, .int v_keptMany, .ref q_one, .ref q_two, .ref q_ways, .ref q_now, .ref q_then])), (q_read, .inl (ca 0, 336, .inl y_read_1))]) (wn := [(q_this, .inr (8, [.ref q_text, .int v_size, .int v_at, .ref q_read, .ref q_l, .ref q_stands, .ref q_kept, .int v_keptMany, .ref q_one, .ref q_two, .ref q_ways, .ref q_now, .ref q_then])), (q_text, .inl (ca 0, 500, .inl v_text)), (q_read, .inl (ca 0, 336, .inl y_read_1))]) ⟨hx, hb, hml, hown, hts⟩ (c_X9_begin l D ca F s.heap.size q_this q_text q_read q_l q_stands q_kept q_one q_two q_ways q_now q_then v_size v_at v_keptMany v_read y_read_1 hg_2) (cwV 0 hts gX9_fault_X9_begin rfl rfl rfl (by decide +kernel) ⟨(Nat.le_of_ble_eq_true rfl), (Nat.le_of_ble_eq_true rfl)⟩) hK hP hD hS hA (ci := 8) (q0 := 0) rfl rfl [0, 2] [1] [1, 0, 2] rfl rfl rfl rfl (by decide) rfl rfl rfl hl.1 rfl (Nat.le_of_ble_eq_true rfl) dX9_fault_1 ⟨Nat.zero_le _, Nat.zero_le _⟩ (fun H locs hP hD hS => ?_)
  refine lv_aload_n hx hb dX9_fault_4 rfl (lv_at hl 0 rfl) ?_
  refine lv_iconst (v := (nI 0)) hx hb dX9_fault_5 (by decide) ?_
  refine va_put (D := D) (ci := 8) (v := .int (nI 0)) (ty := .int) (C := RX9) (T := TX9) (N := 13) hx hb hts i_X9 tyX9 tyX9_ok nmX9 hown hK hP hD hS 0 rfl rfl 2 (by decide) k_60 (fun _ h9 => h9) rfl (by decide +kernel) rfl rfl (Nat.le_of_ble_eq_true rfl) dX9_fault_6 (fun H locs hP hD hS => ?_)
  have hP : va_P D vwCl [(q_this, .inr (8, [.ref q_text, .int v_size, .int (nI 0), .ref q_read, .ref q_l, .ref q_stands, .ref q_kept, .int v_keptMany, .ref q_one, .ref q_two, .ref q_ways, .ref q_now, .ref q_then])), (q_text, .inl (ca 0, 500, .inl v_text)), (q_read, .inl (ca 0, 336, .inl y_read_1))] H := hP
  have hD : va_D A [(q_this, .inr (8, [.ref q_text, .int v_size, .int (nI 0), .ref q_read, .ref q_l, .ref q_stands, .ref q_kept, .int v_keptMany, .ref q_one, .ref q_two, .ref q_ways, .ref q_now, .ref q_then])), (q_text, .inl (ca 0, 500, .inl v_text)), (q_read, .inl (ca 0, 336, .inl y_read_1))] := hD
  have hlp : ∀ (n : Nat) (y_at_3 : Int32) (y_read_4 : Nat → Int32) (H : Heap) (locs : List Loc) (ls : Array Slot), lpg (T := Int32 → (Nat → Int32) → Option (Int32 × Int32 × (Nat → Int32))) (fun _ _ => none) (b_X9_fault_9 v_size v_text F) n y_at_3 y_read_4 = some (r, o_at, o_read) → va_P D vwCl [(q_this, .inr (8, [.ref q_text, .int v_size, .int y_at_3, .ref q_read, .ref q_l, .ref q_stands, .ref q_kept, .int v_keptMany, .ref q_one, .ref q_two, .ref q_ways, .ref q_now, .ref q_then])), (q_text, .inl (ca 0, 500, .inl v_text)), (q_read, .inl (ca 0, 336, .inl y_read_4))] H → va_D A [(q_this, .inr (8, [.ref q_text, .int v_size, .int y_at_3, .ref q_read, .ref q_l, .ref q_stands, .ref q_kept, .int v_keptMany, .ref q_one, .ref q_two, .ref q_ways, .ref q_now, .ref q_then])), (q_text, .inl (ca 0, 500, .inl v_text)), (q_read, .inl (ca 0, 336, .inl y_read_4))] → va_S A s.heap H locs → lv_has ls 2 [(0, .ref q_this)] → W p l e (headSpec wsX9_fault rm_X9_fault).room s m args below meth c H locs 0 0 Q (F0 m 9 ls []) := by
    intro n
    induction n with
    | zero => intro y_at_3 y_read_4 H locs ls h; have h : (none : Option (Int32 × Int32 × (Nat → Int32))) = some _ := h; cases h
    | succ n ih =>
      intro y_at_3 y_read_4 H locs ls h hP hD hS hl
      rw [lpg_succ, b_X9_fault_9] at h
      refine lv_aload_n hx hb dX9_fault_9 rfl (lv_at hl 0 rfl) ?_
      refine va_get (D := D) (ci := 8) (v := .int y_at_3) (C := RX9) (T := TX9) (N := 13) hx hb hts i_X9 hown hK hP 0 rfl rfl 2 (by decide) k_60 (fun _ h9 => h9) rfl dX9_fault_10 ?_
      refine lv_aload_n hx hb dX9_fault_13 rfl (lv_at hl 0 rfl) ?_
      refine va_get (D := D) (ci := 8) (v := .int v_size) (C := RX9) (T := TX9) (N := 13) hx hb hts i_X9 hown hK hP 0 rfl rfl 1 (by decide) k_53 (fun _ h9 => h9) rfl dX9_fault_14 ?_
      refine lv_icmp_ge (tgt := 46) hx hb dX9_fault_17 (by decide) (fun c_5 => ?_) (fun c_5 => ?_)
      · replace h := ifp_el c_5 h
        refine lv_bipush (v := (-4 : Int32)) hx hb dX9_fault_46 (by decide) ?_
        cases h
        rw [← hQe]
        exact W.iret hx hb hr (fun t ht hW => ⟨⟨_, (), rfl, rfl, by rw [ht]; exact hP, va_K.moved hW.alike hK, hD⟩, hS.F ht⟩) hS.2.2 dX9_fault_48
      · replace h := ifn_el c_5 h
        refine lv_aload_n hx hb dX9_fault_20 rfl (lv_at hl 0 rfl) ?_
        refine va_get (D := D) (ci := 8) (v := .int y_at_3) (C := RX9) (T := TX9) (N := 13) hx hb hts i_X9 hown hK hP 0 rfl rfl 2 (by decide) k_60 (fun _ h9 => h9) rfl dX9_fault_21 ?_
        refine lv_istore_n (lv' := [(1, .int y_at_3), (0, .ref q_this)]) hx hb dX9_fault_24 rfl hl (by decide) rfl (fun ls hl => ?_)
        refine lv_aload_n hx hb dX9_fault_25 rfl (lv_at hl 1 rfl) ?_
        obtain ⟨r_6, y_at_7, y_read_8, hg_9, h⟩ := bd3_el h
        refine kx_Vi (As := []) (rest := []) (wr := []) (w1 := [(q_this, .inr (8, [.ref q_text, .int v_size, .int y_at_7, .ref q_read, .ref q_l, .ref q_stands, .ref q_kept, .int v_keptMany, .ref q_one, .ref q_two, .ref q_ways, .ref q_now, .ref q_then])), (q_text, .inl (ca 0, 500, .inl v_text)), (q_read, .inl (ca 0, 336, .inl y_read_8))]) (wn := [(q_this, .inr (8, [.ref q_text, .int v_size, .int y_at_7, .ref q_read, .ref q_l, .ref q_stands, .ref q_kept, .int v_keptMany, .ref q_one, .ref q_two, .ref q_ways, .ref q_now, .ref q_then])), (q_text, .inl (ca 0, 500, .inl v_text)), (q_read, .inl (ca 0, 336, .inl y_read_8))]) ⟨hx, hb, hml, hown, hts⟩ (c_X9_item l D ca F H.size q_this q_text q_read q_l q_stands q_kept q_one q_two q_ways q_now q_then v_size y_at_3 v_keptMany v_text y_read_4 r_6 y_at_7 y_read_8 hg_9) (cwV 0 hts gX9_fault_X9_item rfl rfl rfl (by decide +kernel) ⟨(Nat.le_of_ble_eq_true rfl), (Nat.le_of_ble_eq_true rfl)⟩) hK hP hD hS hA (ci := 8) (q0 := 0) rfl rfl [0, 1, 2] [] [0, 1, 2] rfl rfl rfl rfl (by decide) rfl rfl rfl hl.1 rfl (Nat.le_of_ble_eq_true rfl) dX9_fault_26 ⟨Nat.zero_le _, Nat.zero_le _⟩ (fun H locs hP hD hS => ?_)
        refine lv_if_eq (tgt := 41) hx hb dX9_fault_29 (by decide) (fun c_10 => ?_) (fun c_10 => ?_)
        · replace h := ifp_el c_10 h
          refine lv_iload_n hx hb dX9_fault_41 rfl (lv_at hl 0 rfl) ?_
          cases h
          rw [← hQe]
          exact W.iret hx hb hr (fun t ht hW => ⟨⟨_, (), rfl, rfl, by rw [ht]; exact hP, va_K.moved hW.alike hK, hD⟩, hS.F ht⟩) hS.2.2 dX9_fault_42
        · replace h := ifn_el c_10 h
          refine lv_aload_n hx hb dX9_fault_32 rfl (lv_at hl 1 rfl) ?_
          refine lv_bipush (v := (nI 59)) hx hb dX9_fault_33 (by decide) ?_
          obtain ⟨r_11, y_at_12, hg_13, h⟩ := bd2_el h
          refine kx_Vi (As := [.int (nI 59)]) (rest := []) (wr := [(q_read, .inl (ca 0, 336, .inl y_read_8))]) (w1 := [(q_this, .inr (8, [.ref q_text, .int v_size, .int y_at_12, .ref q_read, .ref q_l, .ref q_stands, .ref q_kept, .int v_keptMany, .ref q_one, .ref q_two, .ref q_ways, .ref q_now, .ref q_then])), (q_text, .inl (ca 0, 500, .inl v_text))]) (wn := [(q_this, .inr (8, [.ref q_text, .int v_size, .int y_at_12, .ref q_read, .ref q_l, .ref q_stands, .ref q_kept, .int v_keptMany, .ref q_one, .ref q_two, .ref q_ways, .ref q_now, .ref q_then])), (q_text, .inl (ca 0, 500, .inl v_text)), (q_read, .inl (ca 0, 336, .inl y_read_8))]) ⟨hx, hb, hml, hown, hts⟩ (c_X9_takes l D ca H.size q_this q_text q_read q_l q_stands q_kept q_one q_two q_ways q_now q_then (nI 59) v_size y_at_7 v_keptMany v_text r_11 y_at_12 hg_13) (cwV 1 hts gX9_fault_X9_takes rfl rfl rfl (by decide +kernel) ⟨(Nat.le_of_ble_eq_true rfl), (Nat.le_of_ble_eq_true rfl)⟩) hK hP hD hS hA (ci := 8) (q0 := 0) rfl rfl [0, 1] [2] [1, 2, 0] rfl rfl rfl rfl (by decide) rfl rfl rfl hl.1 rfl (Nat.le_of_ble_eq_true rfl) dX9_fault_35 ⟨Nat.zero_le _, Nat.zero_le _⟩ (fun H locs hP hD hS => ?_)
          refine lv_if_ne (tgt := 43) hx hb dX9_fault_38 (by decide) (fun c_14 => ?_) (fun c_14 => ?_)
          · replace h := ifn_el c_14 h
            refine lv_goto (tgt := 9) hx hb dX9_fault_43 (by decide) ?_
            exact ih _ _ _ _ _ h hP hD hS (lv_sub hl [1] rfl)
          · replace h := ifp_el c_14 h
            refine lv_iload_n hx hb dX9_fault_41 rfl (lv_at hl 0 rfl) ?_
            cases h
            rw [← hQe]
            exact W.iret hx hb hr (fun t ht hW => ⟨⟨_, (), rfl, rfl, by rw [ht]; exact hP, va_K.moved hW.alike hK, hD⟩, hS.F ht⟩) hS.2.2 dX9_fault_42
  exact hlp F (nI 0) y_read_1 H locs ls h hP hD hS (lv_sub hl [0] rfl)
def D_X9_wordAt (p1 : Int32) (p2 : Int32) : Option (Int32) := some (((nI 0) + ((nI 7) * (((nI 8) * p1) + p2))))
abbrev rm_X9_wordAt : Room := { frames := 0, cells := 0, slots := 0, locals := 0 }
set_option maxHeartbeats 4000000 in
set_option maxRecDepth 100000 in
theorem c_X9_wordAt (l : Launch) (D : va_G) (ca : Nat → ClassId) (sz : Nat) (p1 : Int32) (p2 : Int32) (r : Int32) (h : D_X9_wordAt p1 p2 = some (r)) : Met l yX9_wordAt wsX9_wordAt rm_X9_wordAt (va_Pc [.int p1, .int p2] (kPre D ca [] sz)) (kQi D ca (va_A [] sz) [] r) 0 0 (va_A [] sz) := by
  refine Met.ofW (cc := cX9_wordAt) (maxL := 2) (ret := (some .int)) (by decide +kernel) rfl ?_
  intro p e s m args below meth c s₁ B hml hv
  obtain ⟨rfl, hsz, hP, hK, hD0⟩ := hv
  have hx := B.exec
  have hb := B.bytes
  have hr := B.returns
  have hts := atoms_spec (ws := wsX9_wordAt) B.pre
  have hown : s.vm.findClass RX9 = some m.cls := findClass_of_methodNamed B.named
  have hlocks := B.notSynchronized
  clear B
  subst hsz
  have hD := hD0.self (sz := s.heap.size)
  generalize hAe : va_A [] s.heap.size = A at hD ⊢
  have hA : ∀ q : Nat, s.heap.size ≤ q → A q := fun q h => by rw [← hAe]; exact Or.inr h
  have hS : va_S A s.heap s.heap [] := va_S.rf
  have hl := lv_entry ([.int p1, .int p2]) (n := 2) (Nat.le_of_ble_eq_true rfl)
  rw [lg_entry_eq]
  generalize (lg_sl ([.int p1, .int p2]) ++ List.replicate (2 - (lg_sl ([.int p1, .int p2])).length) Slot.unset).toArray = ls at hl ⊢
  have hl : lv_has ls 2 [(0, .int p1), (1, .int p2)] := hl
  generalize ([.int p1, .int p2] : List Value).toArray = args at hts ⊢
  generalize hQe : MQ below (kQi D ca (A) [] r) args s 0 0 A = Q
  rw [D_X9_wordAt] at h
  refine lv_iconst (v := (nI 0)) hx hb dX9_wordAt_0 (by decide) ?_
  refine lv_bipush (v := (nI 7)) hx hb dX9_wordAt_1 (by decide) ?_
  refine lv_bipush (v := (nI 8)) hx hb dX9_wordAt_3 (by decide) ?_
  refine lv_iload_n hx hb dX9_wordAt_5 rfl (lv_at hl 0 rfl) ?_
  refine lv_imul hx hb dX9_wordAt_6 ?_
  refine lv_iload_n hx hb dX9_wordAt_7 rfl (lv_at hl 1 rfl) ?_
  refine lv_iadd hx hb dX9_wordAt_8 ?_
  refine lv_imul hx hb dX9_wordAt_9 ?_
  refine lv_iadd hx hb dX9_wordAt_10 ?_
  cases h
  rw [← hQe]
  exact W.iret hx hb hr (fun t ht hW => ⟨⟨_, (), rfl, rfl, by rw [ht]; exact hP, va_K.moved hW.alike hK, hD⟩, hS.F ht⟩) hS.2.2 dX9_wordAt_11
def D_X9_isTold (p1 : Int32) (v_l : Nat → Int32) : Option (Int32) := bd1 (D_X9_wordAt (nI 0) p1) (fun r_1 => ck 336 r_1 ((if (v_l r_1.toNatClampNeg) ≤ 0 then some ((nI 0)) else bd1 (D_X9_wordAt (nI 1) p1) (fun r_5 => ck 336 r_5 ((if (v_l r_5.toNatClampNeg) ≤ 0 then some ((nI 0)) else some ((nI 1))))))))
abbrev rm_X9_isTold : Room := { frames := 1, cells := 0, slots := 0, locals := 21 }
set_option maxHeartbeats 4000000 in
set_option maxRecDepth 100000 in
theorem c_X9_isTold (l : Launch) (D : va_G) (ca : Nat → ClassId) (sz : Nat) (q_this q_text q_read q_l q_stands q_kept q_one q_two q_ways q_now q_then : Nat) (p1 : Int32) (v_size : Int32) (v_at : Int32) (v_keptMany : Int32) (v_l : Nat → Int32) (r : Int32) (h : D_X9_isTold p1 v_l = some (r)) : Met l yX9_isTold wsX9_isTold rm_X9_isTold (va_Pc [.ref q_this, .int p1] (kPre D ca [(q_this, .inr (8, [.ref q_text, .int v_size, .int v_at, .ref q_read, .ref q_l, .ref q_stands, .ref q_kept, .int v_keptMany, .ref q_one, .ref q_two, .ref q_ways, .ref q_now, .ref q_then])), (q_l, .inl (ca 0, 336, .inl v_l))] sz)) (kQi D ca (va_A [(q_this, .inr (8, [.ref q_text, .int v_size, .int v_at, .ref q_read, .ref q_l, .ref q_stands, .ref q_kept, .int v_keptMany, .ref q_one, .ref q_two, .ref q_ways, .ref q_now, .ref q_then])), (q_l, .inl (ca 0, 336, .inl v_l))] sz) [(q_this, .inr (8, [.ref q_text, .int v_size, .int v_at, .ref q_read, .ref q_l, .ref q_stands, .ref q_kept, .int v_keptMany, .ref q_one, .ref q_two, .ref q_ways, .ref q_now, .ref q_then])), (q_l, .inl (ca 0, 336, .inl v_l))] r) 0 0 (va_A [(q_this, .inr (8, [.ref q_text, .int v_size, .int v_at, .ref q_read, .ref q_l, .ref q_stands, .ref q_kept, .int v_keptMany, .ref q_one, .ref q_two, .ref q_ways, .ref q_now, .ref q_then])), (q_l, .inl (ca 0, 336, .inl v_l))] sz) := by
  refine Met.ofW (cc := cX9_isTold) (maxL := 2) (ret := (some .boolean)) (by decide +kernel) rfl ?_
  intro p e s m args below meth c s₁ B hml hv
  obtain ⟨rfl, hsz, hP, hK, hD0⟩ := hv
  have hx := B.exec
  have hb := B.bytes
  have hr := B.returns
  have hts := atoms_spec (ws := wsX9_isTold) B.pre
  have hown : s.vm.findClass RX9 = some m.cls := findClass_of_methodNamed B.named
  have hlocks := B.notSynchronized
  clear B
  subst hsz
  have hD := hD0.self (sz := s.heap.size)
  generalize hAe : va_A [(q_this, .inr (8, [.ref q_text, .int v_size, .int v_at, .ref q_read, .ref q_l, .ref q_stands, .ref q_kept, .int v_keptMany, .ref q_one, .ref q_two, .ref q_ways, .ref q_now, .ref q_then])), (q_l, .inl (ca 0, 336, .inl v_l))] s.heap.size = A at hD ⊢
  have hA : ∀ q : Nat, s.heap.size ≤ q → A q := fun q h => by rw [← hAe]; exact Or.inr h
  have hS : va_S A s.heap s.heap [] := va_S.rf
  have hl := lv_entry ([.ref q_this, .int p1]) (n := 2) (Nat.le_of_ble_eq_true rfl)
  rw [lg_entry_eq]
  generalize (lg_sl ([.ref q_this, .int p1]) ++ List.replicate (2 - (lg_sl ([.ref q_this, .int p1])).length) Slot.unset).toArray = ls at hl ⊢
  have hl : lv_has ls 2 [(0, .ref q_this), (1, .int p1)] := hl
  generalize ([.ref q_this, .int p1] : List Value).toArray = args at hts ⊢
  generalize hQe : MQ below (kQi D ca (A) [(q_this, .inr (8, [.ref q_text, .int v_size, .int v_at, .ref q_read, .ref q_l, .ref q_stands, .ref q_kept, .int v_keptMany, .ref q_one, .ref q_two, .ref q_ways, .ref q_now, .ref q_then])), (q_l, .inl (ca 0, 336, .inl v_l))] r) args s 0 0 A = Q
  have i_X9 : ∀ w ∈ u_ws RX9 TX9 13, w ∈ wsX9_isTold := by decide +kernel
  have k_16 := hts (.fieldLink RX9 16 "TradeWordsModel" "l" "[I") (by decide +kernel)
  rw [D_X9_isTold] at h
  refine lv_aload_n hx hb dX9_isTold_0 rfl (lv_at hl 0 rfl) ?_
  refine va_get (D := D) (ci := 8) (v := .ref q_l) (C := RX9) (T := TX9) (N := 13) hx hb hts i_X9 hown hK hP 0 rfl rfl 4 (by decide) k_16 (fun _ h9 => h9) rfl dX9_isTold_1 ?_
  refine lv_iconst (v := (nI 0)) hx hb dX9_isTold_4 (by decide) ?_
  refine lv_iload_n hx hb dX9_isTold_5 rfl (lv_at hl 1 rfl) ?_
  obtain ⟨r_1, hg_2, h⟩ := bd1_el h
  refine kx_Si (As := [.int (nI 0), .int p1]) (rest := [.ref q_l]) (wr := [(q_this, .inr (8, [.ref q_text, .int v_size, .int v_at, .ref q_read, .ref q_l, .ref q_stands, .ref q_kept, .int v_keptMany, .ref q_one, .ref q_two, .ref q_ways, .ref q_now, .ref q_then])), (q_l, .inl (ca 0, 336, .inl v_l))]) (w1 := []) (wn := [(q_this, .inr (8, [.ref q_text, .int v_size, .int v_at, .ref q_read, .ref q_l, .ref q_stands, .ref q_kept, .int v_keptMany, .ref q_one, .ref q_two, .ref q_ways, .ref q_now, .ref q_then])), (q_l, .inl (ca 0, 336, .inl v_l))]) ⟨hx, hb, hml, hown, hts⟩ (c_X9_wordAt l D ca s.heap.size (nI 0) p1 r_1 hg_2) (va_cwS 2 hts gX9_isTold_X9_wordAt rfl rfl rfl (by decide +kernel) ⟨(Nat.le_of_ble_eq_true rfl), (Nat.le_of_ble_eq_true rfl)⟩) hK hP hD hS hA [] [0, 1] [0, 1] rfl rfl rfl rfl (by decide) rfl rfl rfl hl.1 rfl (Nat.le_of_ble_eq_true rfl) dX9_isTold_6 ⟨Nat.zero_le _, Nat.zero_le _⟩ (fun H locs hP hD hS => ?_)
  obtain ⟨hi_3, h⟩ := ck_el h
  refine va_iald hx hb hK hP 1 0 rfl rfl hi_3 dX9_isTold_9 ?_
  refine lv_if_le (tgt := 30) hx hb dX9_isTold_10 (by decide) (fun c_4 => ?_) (fun c_4 => ?_)
  · replace h := ifp_el c_4 h
    refine lv_iconst (v := (nI 0)) hx hb dX9_isTold_30 (by decide) ?_
    cases h
    rw [← hQe]
    exact W.zret hx hb hr rfl (fun t ht hW => ⟨⟨_, (), rfl, rfl, by rw [ht]; exact hP, va_K.moved hW.alike hK, hD⟩, hS.F ht⟩) hS.2.2 dX9_isTold_31
  · replace h := ifn_el c_4 h
    refine lv_aload_n hx hb dX9_isTold_13 rfl (lv_at hl 0 rfl) ?_
    refine va_get (D := D) (ci := 8) (v := .ref q_l) (C := RX9) (T := TX9) (N := 13) hx hb hts i_X9 hown hK hP 0 rfl rfl 4 (by decide) k_16 (fun _ h9 => h9) rfl dX9_isTold_14 ?_
    refine lv_iconst (v := (nI 1)) hx hb dX9_isTold_17 (by decide) ?_
    refine lv_iload_n hx hb dX9_isTold_18 rfl (lv_at hl 1 rfl) ?_
    obtain ⟨r_5, hg_6, h⟩ := bd1_el h
    refine kx_Si (As := [.int (nI 1), .int p1]) (rest := [.ref q_l]) (wr := [(q_this, .inr (8, [.ref q_text, .int v_size, .int v_at, .ref q_read, .ref q_l, .ref q_stands, .ref q_kept, .int v_keptMany, .ref q_one, .ref q_two, .ref q_ways, .ref q_now, .ref q_then])), (q_l, .inl (ca 0, 336, .inl v_l))]) (w1 := []) (wn := [(q_this, .inr (8, [.ref q_text, .int v_size, .int v_at, .ref q_read, .ref q_l, .ref q_stands, .ref q_kept, .int v_keptMany, .ref q_one, .ref q_two, .ref q_ways, .ref q_now, .ref q_then])), (q_l, .inl (ca 0, 336, .inl v_l))]) ⟨hx, hb, hml, hown, hts⟩ (c_X9_wordAt l D ca H.size (nI 1) p1 r_5 hg_6) (va_cwS 2 hts gX9_isTold_X9_wordAt rfl rfl rfl (by decide +kernel) ⟨(Nat.le_of_ble_eq_true rfl), (Nat.le_of_ble_eq_true rfl)⟩) hK hP hD hS hA [] [0, 1] [0, 1] rfl rfl rfl rfl (by decide) rfl rfl rfl hl.1 rfl (Nat.le_of_ble_eq_true rfl) dX9_isTold_19 ⟨Nat.zero_le _, Nat.zero_le _⟩ (fun H locs hP hD hS => ?_)
    obtain ⟨hi_7, h⟩ := ck_el h
    refine va_iald hx hb hK hP 1 0 rfl rfl hi_7 dX9_isTold_22 ?_
    refine lv_if_le (tgt := 30) hx hb dX9_isTold_23 (by decide) (fun c_8 => ?_) (fun c_8 => ?_)
    · replace h := ifp_el c_8 h
      refine lv_iconst (v := (nI 0)) hx hb dX9_isTold_30 (by decide) ?_
      cases h
      rw [← hQe]
      exact W.zret hx hb hr rfl (fun t ht hW => ⟨⟨_, (), rfl, rfl, by rw [ht]; exact hP, va_K.moved hW.alike hK, hD⟩, hS.F ht⟩) hS.2.2 dX9_isTold_31
    · replace h := ifn_el c_8 h
      refine lv_iconst (v := (nI 1)) hx hb dX9_isTold_26 (by decide) ?_
      refine lv_goto (tgt := 31) hx hb dX9_isTold_27 (by decide) ?_
      cases h
      rw [← hQe]
      exact W.zret hx hb hr rfl (fun t ht hW => ⟨⟨_, (), rfl, rfl, by rw [ht]; exact hP, va_K.moved hW.alike hK, hD⟩, hS.F ht⟩) hS.2.2 dX9_isTold_31
def b_X9_toldSet_4 (v_l : Nat → Int32) (rec4 : Int32 → Int32 → Option (Int32)) (x1_1 : Int32) (x2_2 : Int32) : Option (Int32) := (if (nI 8) ≤ x2_2 then some (x1_1) else bd1 (D_X9_isTold x2_2 v_l) (fun r_5 => (if r_5 = 0 then nm (x1_1 ||| (nI 0)) (fun x1_8 => nm (x2_2 + (nI 1)) (fun x2_9 => rec4 x1_8 x2_9)) else nm (x1_1 ||| ((nI 1) <<< (x2_2 &&& 31))) (fun x1_11 => nm (x2_2 + (nI 1)) (fun x2_12 => rec4 x1_11 x2_12)))))
def D_X9_toldSet (F : Nat) (v_l : Nat → Int32) : Option (Int32) := bd1 (lpg (T := Int32 → Int32 → Option (Int32)) (fun _ _ => none) (b_X9_toldSet_4 v_l) F (nI 0) (nI 0)) (fun o_3 => some (o_3))
abbrev rm_X9_toldSet : Room := { frames := 2, cells := 0, slots := 0, locals := 42 }
set_option maxHeartbeats 4000000 in
set_option maxRecDepth 100000 in
theorem c_X9_toldSet (l : Launch) (D : va_G) (ca : Nat → ClassId) (F : Nat) (sz : Nat) (q_this q_text q_read q_l q_stands q_kept q_one q_two q_ways q_now q_then : Nat) (v_size : Int32) (v_at : Int32) (v_keptMany : Int32) (v_l : Nat → Int32) (r : Int32) (h : D_X9_toldSet F v_l = some (r)) : Met l yX9_toldSet wsX9_toldSet rm_X9_toldSet (va_Pc [.ref q_this] (kPre D ca [(q_this, .inr (8, [.ref q_text, .int v_size, .int v_at, .ref q_read, .ref q_l, .ref q_stands, .ref q_kept, .int v_keptMany, .ref q_one, .ref q_two, .ref q_ways, .ref q_now, .ref q_then])), (q_l, .inl (ca 0, 336, .inl v_l))] sz)) (kQi D ca (va_A [(q_this, .inr (8, [.ref q_text, .int v_size, .int v_at, .ref q_read, .ref q_l, .ref q_stands, .ref q_kept, .int v_keptMany, .ref q_one, .ref q_two, .ref q_ways, .ref q_now, .ref q_then])), (q_l, .inl (ca 0, 336, .inl v_l))] sz) [(q_this, .inr (8, [.ref q_text, .int v_size, .int v_at, .ref q_read, .ref q_l, .ref q_stands, .ref q_kept, .int v_keptMany, .ref q_one, .ref q_two, .ref q_ways, .ref q_now, .ref q_then])), (q_l, .inl (ca 0, 336, .inl v_l))] r) 0 0 (va_A [(q_this, .inr (8, [.ref q_text, .int v_size, .int v_at, .ref q_read, .ref q_l, .ref q_stands, .ref q_kept, .int v_keptMany, .ref q_one, .ref q_two, .ref q_ways, .ref q_now, .ref q_then])), (q_l, .inl (ca 0, 336, .inl v_l))] sz) := by
  refine Met.ofW (cc := cX9_toldSet) (maxL := 3) (ret := (some .int)) (by decide +kernel) rfl ?_
  intro p e s m args below meth c s₁ B hml hv
  obtain ⟨rfl, hsz, hP, hK, hD0⟩ := hv
  have hx := B.exec
  have hb := B.bytes
  have hr := B.returns
  have hts := atoms_spec (ws := wsX9_toldSet) B.pre
  have hown : s.vm.findClass RX9 = some m.cls := findClass_of_methodNamed B.named
  have hlocks := B.notSynchronized
  clear B
  subst hsz
  have hD := hD0.self (sz := s.heap.size)
  generalize hAe : va_A [(q_this, .inr (8, [.ref q_text, .int v_size, .int v_at, .ref q_read, .ref q_l, .ref q_stands, .ref q_kept, .int v_keptMany, .ref q_one, .ref q_two, .ref q_ways, .ref q_now, .ref q_then])), (q_l, .inl (ca 0, 336, .inl v_l))] s.heap.size = A at hD ⊢
  have hA : ∀ q : Nat, s.heap.size ≤ q → A q := fun q h => by rw [← hAe]; exact Or.inr h
  have hS : va_S A s.heap s.heap [] := va_S.rf
  have hl := lv_entry ([.ref q_this]) (n := 3) (Nat.le_of_ble_eq_true rfl)
  rw [lg_entry_eq]
  generalize (lg_sl ([.ref q_this]) ++ List.replicate (3 - (lg_sl ([.ref q_this])).length) Slot.unset).toArray = ls at hl ⊢
  have hl : lv_has ls 3 [(0, .ref q_this)] := hl
  generalize ([.ref q_this] : List Value).toArray = args at hts ⊢
  generalize hQe : MQ below (kQi D ca (A) [(q_this, .inr (8, [.ref q_text, .int v_size, .int v_at, .ref q_read, .ref q_l, .ref q_stands, .ref q_kept, .int v_keptMany, .ref q_one, .ref q_two, .ref q_ways, .ref q_now, .ref q_then])), (q_l, .inl (ca 0, 336, .inl v_l))] r) args s 0 0 A = Q
  rw [D_X9_toldSet] at h
  refine lv_iconst (v := (nI 0)) hx hb dX9_toldSet_0 (by decide) ?_
  refine lv_istore_n (lv' := [(1, .int (nI 0)), (0, .ref q_this)]) hx hb dX9_toldSet_1 rfl hl (by decide) rfl (fun ls hl => ?_)
  refine lv_iconst (v := (nI 0)) hx hb dX9_toldSet_2 (by decide) ?_
  refine lv_istore_n (lv' := [(2, .int (nI 0)), (1, .int (nI 0)), (0, .ref q_this)]) hx hb dX9_toldSet_3 rfl hl (by decide) rfl (fun ls hl => ?_)
  obtain ⟨o_3, hL, h⟩ := bd1_el h
  have hex : ∀ (H : Heap) (locs : List Loc) (ls : Array Slot), va_P D vwCl [(q_this, .inr (8, [.ref q_text, .int v_size, .int v_at, .ref q_read, .ref q_l, .ref q_stands, .ref q_kept, .int v_keptMany, .ref q_one, .ref q_two, .ref q_ways, .ref q_now, .ref q_then])), (q_l, .inl (ca 0, 336, .inl v_l))] H → va_D A [(q_this, .inr (8, [.ref q_text, .int v_size, .int v_at, .ref q_read, .ref q_l, .ref q_stands, .ref q_kept, .int v_keptMany, .ref q_one, .ref q_two, .ref q_ways, .ref q_now, .ref q_then])), (q_l, .inl (ca 0, 336, .inl v_l))] → va_S A s.heap H locs → lv_has ls 3 [(1, .int o_3)] → W p l e (headSpec wsX9_toldSet rm_X9_toldSet).room s m args below meth c H locs 0 0 Q (F0 m 34 ls []) := by
    intro H locs ls hP hD hS hl
    refine lv_iload_n hx hb dX9_toldSet_34 rfl (lv_at hl 0 rfl) ?_
    cases h
    rw [← hQe]
    exact W.iret hx hb hr (fun t ht hW => ⟨⟨_, (), rfl, rfl, by rw [ht]; exact hP, va_K.moved hW.alike hK, hD⟩, hS.F ht⟩) hS.2.2 dX9_toldSet_35
  have hlp : ∀ (n : Nat) (x1_1 : Int32) (x2_2 : Int32) (o_3 : Int32) (H : Heap) (locs : List Loc) (ls : Array Slot), lpg (T := Int32 → Int32 → Option (Int32)) (fun _ _ => none) (b_X9_toldSet_4 v_l) n x1_1 x2_2 = some (o_3) → (∀ (H : Heap) (locs : List Loc) (ls : Array Slot), va_P D vwCl [(q_this, .inr (8, [.ref q_text, .int v_size, .int v_at, .ref q_read, .ref q_l, .ref q_stands, .ref q_kept, .int v_keptMany, .ref q_one, .ref q_two, .ref q_ways, .ref q_now, .ref q_then])), (q_l, .inl (ca 0, 336, .inl v_l))] H → va_D A [(q_this, .inr (8, [.ref q_text, .int v_size, .int v_at, .ref q_read, .ref q_l, .ref q_stands, .ref q_kept, .int v_keptMany, .ref q_one, .ref q_two, .ref q_ways, .ref q_now, .ref q_then])), (q_l, .inl (ca 0, 336, .inl v_l))] → va_S A s.heap H locs → lv_has ls 3 [(1, .int o_3)] → W p l e (headSpec wsX9_toldSet rm_X9_toldSet).room s m args below meth c H locs 0 0 Q (F0 m 34 ls [])) → va_P D vwCl [(q_this, .inr (8, [.ref q_text, .int v_size, .int v_at, .ref q_read, .ref q_l, .ref q_stands, .ref q_kept, .int v_keptMany, .ref q_one, .ref q_two, .ref q_ways, .ref q_now, .ref q_then])), (q_l, .inl (ca 0, 336, .inl v_l))] H → va_D A [(q_this, .inr (8, [.ref q_text, .int v_size, .int v_at, .ref q_read, .ref q_l, .ref q_stands, .ref q_kept, .int v_keptMany, .ref q_one, .ref q_two, .ref q_ways, .ref q_now, .ref q_then])), (q_l, .inl (ca 0, 336, .inl v_l))] → va_S A s.heap H locs → lv_has ls 3 [(0, .ref q_this), (1, .int x1_1), (2, .int x2_2)] → W p l e (headSpec wsX9_toldSet rm_X9_toldSet).room s m args below meth c H locs 0 0 Q (F0 m 4 ls []) := by
    intro n
    induction n with
    | zero => intro x1_1 x2_2 o_3 H locs ls h; have h : (none : Option (Int32)) = some _ := h; cases h
    | succ n ih =>
      intro x1_1 x2_2 o_3 H locs ls h hex hP hD hS hl
      rw [lpg_succ, b_X9_toldSet_4] at h
      refine lv_iload_n hx hb dX9_toldSet_4 rfl (lv_at hl 2 rfl) ?_
      refine lv_bipush (v := (nI 8)) hx hb dX9_toldSet_5 (by decide) ?_
      refine lv_icmp_ge (tgt := 34) hx hb dX9_toldSet_7 (by decide) (fun c_4 => ?_) (fun c_4 => ?_)
      · replace h := ifp_el c_4 h
        cases h
        exact hex _ _ _ hP hD hS (lv_sub hl [1] rfl)
      · replace h := ifn_el c_4 h
        refine lv_iload_n hx hb dX9_toldSet_10 rfl (lv_at hl 1 rfl) ?_
        refine lv_aload_n hx hb dX9_toldSet_11 rfl (lv_at hl 0 rfl) ?_
        refine lv_iload_n hx hb dX9_toldSet_12 rfl (lv_at hl 2 rfl) ?_
        obtain ⟨r_5, hg_6, h⟩ := bd1_el h
        refine kx_Vi (As := [.int x2_2]) (rest := [.int x1_1]) (wr := []) (w1 := [(q_this, .inr (8, [.ref q_text, .int v_size, .int v_at, .ref q_read, .ref q_l, .ref q_stands, .ref q_kept, .int v_keptMany, .ref q_one, .ref q_two, .ref q_ways, .ref q_now, .ref q_then])), (q_l, .inl (ca 0, 336, .inl v_l))]) (wn := [(q_this, .inr (8, [.ref q_text, .int v_size, .int v_at, .ref q_read, .ref q_l, .ref q_stands, .ref q_kept, .int v_keptMany, .ref q_one, .ref q_two, .ref q_ways, .ref q_now, .ref q_then])), (q_l, .inl (ca 0, 336, .inl v_l))]) ⟨hx, hb, hml, hown, hts⟩ (c_X9_isTold l D ca H.size q_this q_text q_read q_l q_stands q_kept q_one q_two q_ways q_now q_then x2_2 v_size v_at v_keptMany v_l r_5 hg_6) (cwV 1 hts gX9_toldSet_X9_isTold rfl rfl rfl (by decide +kernel) ⟨(Nat.le_of_ble_eq_true rfl), (Nat.le_of_ble_eq_true rfl)⟩) hK hP hD hS hA (ci := 8) (q0 := 0) rfl rfl [0, 1] [] [0, 1] rfl rfl rfl rfl (by decide) rfl rfl rfl hl.1 rfl (Nat.le_of_ble_eq_true rfl) dX9_toldSet_13 ⟨Nat.zero_le _, Nat.zero_le _⟩ (fun H locs hP hD hS => ?_)
        refine lv_if_eq (tgt := 25) hx hb dX9_toldSet_16 (by decide) (fun c_7 => ?_) (fun c_7 => ?_)
        · replace h := ifp_el c_7 h
          refine lv_iconst (v := (nI 0)) hx hb dX9_toldSet_25 (by decide) ?_
          refine lv_ior hx hb dX9_toldSet_26 ?_
          refine lv_nmi h (fun x1_8 h => ?_)
          refine lv_istore_n (lv' := [(1, .int x1_8), (0, .ref q_this), (2, .int x2_2)]) hx hb dX9_toldSet_27 rfl hl (by decide) rfl (fun ls hl => ?_)
          obtain ⟨x2_9, e_10, h⟩ := nm_el h
          refine lv_iinc (v := x2_9) (lv' := [(2, .int x2_9), (1, .int x1_8), (0, .ref q_this)]) hx hb dX9_toldSet_28 hl (k := 2) rfl (by rw [← e_10]; rfl) (by decide) rfl (fun ls hl => ?_)
          refine lv_goto (tgt := 4) hx hb dX9_toldSet_31 (by decide) ?_
          exact ih _ _ _ _ _ _ h hex hP hD hS (lv_sub hl [2, 1, 0] rfl)
        · replace h := ifn_el c_7 h
          refine lv_iconst (v := (nI 1)) hx hb dX9_toldSet_19 (by decide) ?_
          refine lv_iload_n hx hb dX9_toldSet_20 rfl (lv_at hl 2 rfl) ?_
          refine lv_ishl hx hb dX9_toldSet_21 ?_
          refine lv_goto (tgt := 26) hx hb dX9_toldSet_22 (by decide) ?_
          refine lv_ior hx hb dX9_toldSet_26 ?_
          refine lv_nmi h (fun x1_11 h => ?_)
          refine lv_istore_n (lv' := [(1, .int x1_11), (0, .ref q_this), (2, .int x2_2)]) hx hb dX9_toldSet_27 rfl hl (by decide) rfl (fun ls hl => ?_)
          obtain ⟨x2_12, e_13, h⟩ := nm_el h
          refine lv_iinc (v := x2_12) (lv' := [(2, .int x2_12), (1, .int x1_11), (0, .ref q_this)]) hx hb dX9_toldSet_28 hl (k := 2) rfl (by rw [← e_13]; rfl) (by decide) rfl (fun ls hl => ?_)
          refine lv_goto (tgt := 4) hx hb dX9_toldSet_31 (by decide) ?_
          exact ih _ _ _ _ _ _ h hex hP hD hS (lv_sub hl [2, 1, 0] rfl)
  exact hlp F (nI 0) (nI 0) o_3 s.heap [] ls hL hex hP hD hS (lv_sub hl [2, 1, 0] rfl)
def b_X9_ones_4  (rec4 : Int32 → Int32 → Option (Int32)) (x1_1 : Int32) (x2_2 : Int32) : Option (Int32) := (if x2_2 = 0 then some (x1_1) else nm (x1_1 + (nI 1)) (fun x1_5 => nm (x2_2 &&& (x2_2 - (nI 1))) (fun x2_7 => rec4 x1_5 x2_7)))
def D_X9_ones (F : Nat) (p1 : Int32) : Option (Int32) := bd1 (lpg (T := Int32 → Int32 → Option (Int32)) (fun _ _ => none) (b_X9_ones_4) F (nI 0) p1) (fun o_3 => some (o_3))
abbrev rm_X9_ones : Room := { frames := 0, cells := 0, slots := 0, locals := 0 }
set_option maxHeartbeats 4000000 in
set_option maxRecDepth 100000 in
theorem c_X9_ones (l : Launch) (D : va_G) (ca : Nat → ClassId) (F : Nat) (sz : Nat) (p1 : Int32) (r : Int32) (h : D_X9_ones F p1 = some (r)) : Met l yX9_ones wsX9_ones rm_X9_ones (va_Pc [.int p1] (kPre D ca [] sz)) (kQi D ca (va_A [] sz) [] r) 0 0 (va_A [] sz) := by
  refine Met.ofW (cc := cX9_ones) (maxL := 3) (ret := (some .int)) (by decide +kernel) rfl ?_
  intro p e s m args below meth c s₁ B hml hv
  obtain ⟨rfl, hsz, hP, hK, hD0⟩ := hv
  have hx := B.exec
  have hb := B.bytes
  have hr := B.returns
  have hts := atoms_spec (ws := wsX9_ones) B.pre
  have hown : s.vm.findClass RX9 = some m.cls := findClass_of_methodNamed B.named
  have hlocks := B.notSynchronized
  clear B
  subst hsz
  have hD := hD0.self (sz := s.heap.size)
  generalize hAe : va_A [] s.heap.size = A at hD ⊢
  have hA : ∀ q : Nat, s.heap.size ≤ q → A q := fun q h => by rw [← hAe]; exact Or.inr h
  have hS : va_S A s.heap s.heap [] := va_S.rf
  have hl := lv_entry ([.int p1]) (n := 3) (Nat.le_of_ble_eq_true rfl)
  rw [lg_entry_eq]
  generalize (lg_sl ([.int p1]) ++ List.replicate (3 - (lg_sl ([.int p1])).length) Slot.unset).toArray = ls at hl ⊢
  have hl : lv_has ls 3 [(0, .int p1)] := hl
  generalize ([.int p1] : List Value).toArray = args at hts ⊢
  generalize hQe : MQ below (kQi D ca (A) [] r) args s 0 0 A = Q
  rw [D_X9_ones] at h
  refine lv_iconst (v := (nI 0)) hx hb dX9_ones_0 (by decide) ?_
  refine lv_istore_n (lv' := [(1, .int (nI 0)), (0, .int p1)]) hx hb dX9_ones_1 rfl hl (by decide) rfl (fun ls hl => ?_)
  refine lv_iload_n hx hb dX9_ones_2 rfl (lv_at hl 1 rfl) ?_
  refine lv_istore_n (lv' := [(2, .int p1), (1, .int (nI 0)), (0, .int p1)]) hx hb dX9_ones_3 rfl hl (by decide) rfl (fun ls hl => ?_)
  obtain ⟨o_3, hL, h⟩ := bd1_el h
  have hex : ∀ (H : Heap) (locs : List Loc) (ls : Array Slot), va_P D vwCl [] H → va_D A [] → va_S A s.heap H locs → lv_has ls 3 [(1, .int o_3)] → W p l e (headSpec wsX9_ones rm_X9_ones).room s m args below meth c H locs 0 0 Q (F0 m 20 ls []) := by
    intro H locs ls hP hD hS hl
    refine lv_iload_n hx hb dX9_ones_20 rfl (lv_at hl 0 rfl) ?_
    cases h
    rw [← hQe]
    exact W.iret hx hb hr (fun t ht hW => ⟨⟨_, (), rfl, rfl, by rw [ht]; exact hP, va_K.moved hW.alike hK, hD⟩, hS.F ht⟩) hS.2.2 dX9_ones_21
  have hlp : ∀ (n : Nat) (x1_1 : Int32) (x2_2 : Int32) (o_3 : Int32) (H : Heap) (locs : List Loc) (ls : Array Slot), lpg (T := Int32 → Int32 → Option (Int32)) (fun _ _ => none) (b_X9_ones_4) n x1_1 x2_2 = some (o_3) → (∀ (H : Heap) (locs : List Loc) (ls : Array Slot), va_P D vwCl [] H → va_D A [] → va_S A s.heap H locs → lv_has ls 3 [(1, .int o_3)] → W p l e (headSpec wsX9_ones rm_X9_ones).room s m args below meth c H locs 0 0 Q (F0 m 20 ls [])) → va_P D vwCl [] H → va_D A [] → va_S A s.heap H locs → lv_has ls 3 [(1, .int x1_1), (2, .int x2_2)] → W p l e (headSpec wsX9_ones rm_X9_ones).room s m args below meth c H locs 0 0 Q (F0 m 4 ls []) := by
    intro n
    induction n with
    | zero => intro x1_1 x2_2 o_3 H locs ls h; have h : (none : Option (Int32)) = some _ := h; cases h
    | succ n ih =>
      intro x1_1 x2_2 o_3 H locs ls h hex hP hD hS hl
      rw [lpg_succ, b_X9_ones_4] at h
      refine lv_iload_n hx hb dX9_ones_4 rfl (lv_at hl 1 rfl) ?_
      refine lv_if_eq (tgt := 20) hx hb dX9_ones_5 (by decide) (fun c_4 => ?_) (fun c_4 => ?_)
      · replace h := ifp_el c_4 h
        cases h
        exact hex _ _ _ hP hD hS (lv_sub hl [0] rfl)
      · replace h := ifn_el c_4 h
        obtain ⟨x1_5, e_6, h⟩ := nm_el h
        refine lv_iinc (v := x1_5) (lv' := [(1, .int x1_5), (2, .int x2_2)]) hx hb dX9_ones_8 hl (k := 0) rfl (by rw [← e_6]; rfl) (by decide) rfl (fun ls hl => ?_)
        refine lv_iload_n hx hb dX9_ones_11 rfl (lv_at hl 1 rfl) ?_
        refine lv_iload_n hx hb dX9_ones_12 rfl (lv_at hl 1 rfl) ?_
        refine lv_iconst (v := (nI 1)) hx hb dX9_ones_13 (by decide) ?_
        refine lv_isub hx hb dX9_ones_14 ?_
        refine lv_iand hx hb dX9_ones_15 ?_
        refine lv_nmi h (fun x2_7 h => ?_)
        refine lv_istore_n (lv' := [(2, .int x2_7), (1, .int x1_5)]) hx hb dX9_ones_16 rfl hl (by decide) rfl (fun ls hl => ?_)
        refine lv_goto (tgt := 4) hx hb dX9_ones_17 (by decide) ?_
        exact ih _ _ _ _ _ _ h hex hP hD hS (lv_sub hl [1, 0] rfl)
  exact hlp F (nI 0) p1 o_3 s.heap [] ls hL hex hP hD hS (lv_sub hl [1, 0] rfl)
def b_X9_lay_21  (rec21 : Int32 → (Nat → Int32) → Option ((Nat → Int32))) (x1_8 : Int32) (y_stands_9 : Nat → Int32) : Option ((Nat → Int32)) := (if (nI 16) ≤ x1_8 then some (y_stands_9) else ck 16 x1_8 (nm (x1_8 + (nI 1)) (fun x1_13 => rec21 x1_13 (upd y_stands_9 x1_8.toNatClampNeg (nI 0)))))
def D_X9_lay (F : Nat) (v_size : Int32) (v_at : Int32) (v_keptMany : Int32) (v_text : Nat → Int32) (v_read : Nat → Int32) (v_l : Nat → Int32) (v_stands : Nat → Int32) : Option (Int32 × Int32 × Int32 × (Nat → Int32) × (Nat → Int32) × (Nat → Int32)) := bd3 (D_X9_fault F v_size v_at v_text v_read) (fun r_1 y_at_2 y_read_3 => (if r_1 < 0 then bd1 (D_X9_layRead F y_read_3 v_l) (fun y_l_6 => bd1 (lpg (T := Int32 → (Nat → Int32) → Option ((Nat → Int32))) (fun _ _ => none) (b_X9_lay_21) F (nI 0) v_stands) (fun o_10 => bd1 (D_X9_toldSet F y_l_6) (fun r_15 => bd1 (D_X9_ones F r_15) (fun r_17 => some (r_17, y_at_2, (nI 0), y_read_3, y_l_6, o_10))))) else some ((-2 : Int32), y_at_2, v_keptMany, y_read_3, v_l, v_stands)))
abbrev rm_X9_lay : Room := { frames := 6, cells := 0, slots := 0, locals := 135 }
set_option maxHeartbeats 4000000 in
set_option maxRecDepth 100000 in
theorem c_X9_lay (l : Launch) (D : va_G) (ca : Nat → ClassId) (F : Nat) (sz : Nat) (q_this q_text q_read q_l q_stands q_kept q_one q_two q_ways q_now q_then : Nat) (v_size : Int32) (v_at : Int32) (v_keptMany : Int32) (v_text : Nat → Int32) (v_read : Nat → Int32) (v_l : Nat → Int32) (v_stands : Nat → Int32) (r : Int32) (o_at : Int32) (o_keptMany : Int32) (o_read : Nat → Int32) (o_l : Nat → Int32) (o_stands : Nat → Int32) (h : D_X9_lay F v_size v_at v_keptMany v_text v_read v_l v_stands = some (r, o_at, o_keptMany, o_read, o_l, o_stands)) : Met l yX9_lay wsX9_lay rm_X9_lay (va_Pc [.ref q_this] (kPre D ca [(q_this, .inr (8, [.ref q_text, .int v_size, .int v_at, .ref q_read, .ref q_l, .ref q_stands, .ref q_kept, .int v_keptMany, .ref q_one, .ref q_two, .ref q_ways, .ref q_now, .ref q_then])), (q_text, .inl (ca 0, 500, .inl v_text)), (q_read, .inl (ca 0, 336, .inl v_read)), (q_l, .inl (ca 0, 336, .inl v_l)), (q_stands, .inl (ca 0, 16, .inl v_stands))] sz)) (kQi D ca (va_A [(q_this, .inr (8, [.ref q_text, .int v_size, .int v_at, .ref q_read, .ref q_l, .ref q_stands, .ref q_kept, .int v_keptMany, .ref q_one, .ref q_two, .ref q_ways, .ref q_now, .ref q_then])), (q_text, .inl (ca 0, 500, .inl v_text)), (q_read, .inl (ca 0, 336, .inl v_read)), (q_l, .inl (ca 0, 336, .inl v_l)), (q_stands, .inl (ca 0, 16, .inl v_stands))] sz) [(q_this, .inr (8, [.ref q_text, .int v_size, .int o_at, .ref q_read, .ref q_l, .ref q_stands, .ref q_kept, .int o_keptMany, .ref q_one, .ref q_two, .ref q_ways, .ref q_now, .ref q_then])), (q_text, .inl (ca 0, 500, .inl v_text)), (q_read, .inl (ca 0, 336, .inl o_read)), (q_l, .inl (ca 0, 336, .inl o_l)), (q_stands, .inl (ca 0, 16, .inl o_stands))] r) 0 0 (va_A [(q_this, .inr (8, [.ref q_text, .int v_size, .int v_at, .ref q_read, .ref q_l, .ref q_stands, .ref q_kept, .int v_keptMany, .ref q_one, .ref q_two, .ref q_ways, .ref q_now, .ref q_then])), (q_text, .inl (ca 0, 500, .inl v_text)), (q_read, .inl (ca 0, 336, .inl v_read)), (q_l, .inl (ca 0, 336, .inl v_l)), (q_stands, .inl (ca 0, 16, .inl v_stands))] sz) := by
  refine Met.ofW (cc := cX9_lay) (maxL := 2) (ret := (some .int)) (by decide +kernel) rfl ?_
  intro p e s m args below meth c s₁ B hml hv
  obtain ⟨rfl, hsz, hP, hK, hD0⟩ := hv
  have hx := B.exec
  have hb := B.bytes
  have hr := B.returns
  have hts := atoms_spec (ws := wsX9_lay) B.pre
  have hown : s.vm.findClass RX9 = some m.cls := findClass_of_methodNamed B.named
  have hlocks := B.notSynchronized
  clear B
  subst hsz
  have hD := hD0.self (sz := s.heap.size)
  generalize hAe : va_A [(q_this, .inr (8, [.ref q_text, .int v_size, .int v_at, .ref q_read, .ref q_l, .ref q_stands, .ref q_kept, .int v_keptMany, .ref q_one, .ref q_two, .ref q_ways, .ref q_now, .ref q_then])), (q_text, .inl (ca 0, 500, .inl v_text)), (q_read, .inl (ca 0, 336, .inl v_read)), (q_l, .inl (ca 0, 336, .inl v_l)), (q_stands, .inl (ca 0, 16, .inl v_stands))] s.heap.size = A at hD ⊢
  have hA : ∀ q : Nat, s.heap.size ≤ q → A q := fun q h => by rw [← hAe]; exact Or.inr h
  have hS : va_S A s.heap s.heap [] := va_S.rf
  have hl := lv_entry ([.ref q_this]) (n := 2) (Nat.le_of_ble_eq_true rfl)
  rw [lg_entry_eq]
  generalize (lg_sl ([.ref q_this]) ++ List.replicate (2 - (lg_sl ([.ref q_this])).length) Slot.unset).toArray = ls at hl ⊢
  have hl : lv_has ls 2 [(0, .ref q_this)] := hl
  generalize ([.ref q_this] : List Value).toArray = args at hts ⊢
  generalize hQe : MQ below (kQi D ca (A) [(q_this, .inr (8, [.ref q_text, .int v_size, .int o_at, .ref q_read, .ref q_l, .ref q_stands, .ref q_kept, .int o_keptMany, .ref q_one, .ref q_two, .ref q_ways, .ref q_now, .ref q_then])), (q_text, .inl (ca 0, 500, .inl v_text)), (q_read, .inl (ca 0, 336, .inl o_read)), (q_l, .inl (ca 0, 336, .inl o_l)), (q_stands, .inl (ca 0, 16, .inl o_stands))] r) args s 0 0 A = Q
  have i_X9 : ∀ w ∈ u_ws RX9 TX9 13, w ∈ wsX9_lay := by decide +kernel
  have k_119 := hts (.fieldLink RX9 119 "TradeWordsModel" "keptMany" "I") (by decide +kernel)
  have k_19 := hts (.fieldLink RX9 19 "TradeWordsModel" "stands" "[I") (by decide +kernel)
  rw [D_X9_lay] at h
  refine lv_aload_n hx hb dX9_lay_0 rfl (lv_at hl 0 rfl) ?_
  obtain ⟨r_1, y_at_2, y_read_3, hg_4, h⟩ := bd3_el h
  refine kx_Vi (As := []) (rest := []) (wr := [(q_l, .inl (ca 0, 336, .inl v_l)), (q_stands, .inl (ca 0, 16, .inl v_stands))]) (w1 := [(q_this, .inr (8, [.ref q_text, .int v_size, .int y_at_2, .ref q_read, .ref q_l, .ref q_stands, .ref q_kept, .int v_keptMany, .ref q_one, .ref q_two, .ref q_ways, .ref q_now, .ref q_then])), (q_text, .inl (ca 0, 500, .inl v_text)), (q_read, .inl (ca 0, 336, .inl y_read_3))]) (wn := [(q_this, .inr (8, [.ref q_text, .int v_size, .int y_at_2, .ref q_read, .ref q_l, .ref q_stands, .ref q_kept, .int v_keptMany, .ref q_one, .ref q_two, .ref q_ways, .ref q_now, .ref q_then])), (q_text, .inl (ca 0, 500, .inl v_text)), (q_read, .inl (ca 0, 336, .inl y_read_3)), (q_l, .inl (ca 0, 336, .inl v_l)), (q_stands, .inl (ca 0, 16, .inl v_stands))]) ⟨hx, hb, hml, hown, hts⟩ (c_X9_fault l D ca F s.heap.size q_this q_text q_read q_l q_stands q_kept q_one q_two q_ways q_now q_then v_size v_at v_keptMany v_text v_read r_1 y_at_2 y_read_3 hg_4) (cwV 0 hts gX9_lay_X9_fault rfl rfl rfl (by decide +kernel) ⟨(Nat.le_of_ble_eq_true rfl), (Nat.le_of_ble_eq_true rfl)⟩) hK hP hD hS hA (ci := 8) (q0 := 0) rfl rfl [0, 1, 2] [3, 4] [2, 3, 4, 0, 1] rfl rfl rfl rfl (by decide) rfl rfl rfl hl.1 rfl (Nat.le_of_ble_eq_true rfl) dX9_lay_1 ⟨Nat.zero_le _, Nat.zero_le _⟩ (fun H locs hP hD hS => ?_)
  refine lv_if_lt (tgt := 10) hx hb dX9_lay_4 (by decide) (fun c_5 => ?_) (fun c_5 => ?_)
  · replace h := ifp_el c_5 h
    refine lv_aload_n hx hb dX9_lay_10 rfl (lv_at hl 0 rfl) ?_
    obtain ⟨y_l_6, hg_7, h⟩ := bd1_el h
    refine kx_Vv (As := []) (rest := []) (wr := [(q_text, .inl (ca 0, 500, .inl v_text)), (q_stands, .inl (ca 0, 16, .inl v_stands))]) (w1 := [(q_this, .inr (8, [.ref q_text, .int v_size, .int y_at_2, .ref q_read, .ref q_l, .ref q_stands, .ref q_kept, .int v_keptMany, .ref q_one, .ref q_two, .ref q_ways, .ref q_now, .ref q_then])), (q_read, .inl (ca 0, 336, .inl y_read_3)), (q_l, .inl (ca 0, 336, .inl y_l_6))]) (wn := [(q_this, .inr (8, [.ref q_text, .int v_size, .int y_at_2, .ref q_read, .ref q_l, .ref q_stands, .ref q_kept, .int v_keptMany, .ref q_one, .ref q_two, .ref q_ways, .ref q_now, .ref q_then])), (q_text, .inl (ca 0, 500, .inl v_text)), (q_read, .inl (ca 0, 336, .inl y_read_3)), (q_l, .inl (ca 0, 336, .inl y_l_6)), (q_stands, .inl (ca 0, 16, .inl v_stands))]) ⟨hx, hb, hml, hown, hts⟩ (c_X9_layRead l D ca F H.size q_this q_text q_read q_l q_stands q_kept q_one q_two q_ways q_now q_then v_size y_at_2 v_keptMany y_read_3 v_l y_l_6 hg_7) (cwV 0 hts gX9_lay_X9_layRead rfl rfl rfl (by decide +kernel) ⟨(Nat.le_of_ble_eq_true rfl), (Nat.le_of_ble_eq_true rfl)⟩) hK hP hD hS hA (ci := 8) (q0 := 0) rfl rfl [0, 2, 3] [1, 4] [2, 0, 3, 4, 1] rfl rfl rfl rfl (by decide) rfl rfl rfl hl.1 rfl (Nat.le_of_ble_eq_true rfl) dX9_lay_11 ⟨Nat.zero_le _, Nat.zero_le _⟩ (fun H locs hP hD hS => ?_)
    refine lv_aload_n hx hb dX9_lay_14 rfl (lv_at hl 0 rfl) ?_
    refine lv_iconst (v := (nI 0)) hx hb dX9_lay_15 (by decide) ?_
    refine va_put (D := D) (ci := 8) (v := .int (nI 0)) (ty := .int) (C := RX9) (T := TX9) (N := 13) hx hb hts i_X9 tyX9 tyX9_ok nmX9 hown hK hP hD hS 0 rfl rfl 7 (by decide) k_119 (fun _ h9 => h9) rfl (by decide +kernel) rfl rfl (Nat.le_of_ble_eq_true rfl) dX9_lay_16 (fun H locs hP hD hS => ?_)
    have hP : va_P D vwCl [(q_this, .inr (8, [.ref q_text, .int v_size, .int y_at_2, .ref q_read, .ref q_l, .ref q_stands, .ref q_kept, .int (nI 0), .ref q_one, .ref q_two, .ref q_ways, .ref q_now, .ref q_then])), (q_text, .inl (ca 0, 500, .inl v_text)), (q_read, .inl (ca 0, 336, .inl y_read_3)), (q_l, .inl (ca 0, 336, .inl y_l_6)), (q_stands, .inl (ca 0, 16, .inl v_stands))] H := hP
    have hD : va_D A [(q_this, .inr (8, [.ref q_text, .int v_size, .int y_at_2, .ref q_read, .ref q_l, .ref q_stands, .ref q_kept, .int (nI 0), .ref q_one, .ref q_two, .ref q_ways, .ref q_now, .ref q_then])), (q_text, .inl (ca 0, 500, .inl v_text)), (q_read, .inl (ca 0, 336, .inl y_read_3)), (q_l, .inl (ca 0, 336, .inl y_l_6)), (q_stands, .inl (ca 0, 16, .inl v_stands))] := hD
    refine lv_iconst (v := (nI 0)) hx hb dX9_lay_19 (by decide) ?_
    refine lv_istore_n (lv' := [(1, .int (nI 0)), (0, .ref q_this)]) hx hb dX9_lay_20 rfl hl (by decide) rfl (fun ls hl => ?_)
    obtain ⟨o_10, hL, h⟩ := bd1_el h
    have hex : ∀ (H : Heap) (locs : List Loc) (ls : Array Slot), va_P D vwCl [(q_this, .inr (8, [.ref q_text, .int v_size, .int y_at_2, .ref q_read, .ref q_l, .ref q_stands, .ref q_kept, .int (nI 0), .ref q_one, .ref q_two, .ref q_ways, .ref q_now, .ref q_then])), (q_text, .inl (ca 0, 500, .inl v_text)), (q_read, .inl (ca 0, 336, .inl y_read_3)), (q_l, .inl (ca 0, 336, .inl y_l_6)), (q_stands, .inl (ca 0, 16, .inl o_10))] H → va_D A [(q_this, .inr (8, [.ref q_text, .int v_size, .int y_at_2, .ref q_read, .ref q_l, .ref q_stands, .ref q_kept, .int (nI 0), .ref q_one, .ref q_two, .ref q_ways, .ref q_now, .ref q_then])), (q_text, .inl (ca 0, 500, .inl v_text)), (q_read, .inl (ca 0, 336, .inl y_read_3)), (q_l, .inl (ca 0, 336, .inl y_l_6)), (q_stands, .inl (ca 0, 16, .inl o_10))] → va_S A s.heap H locs → lv_has ls 2 [(0, .ref q_this)] → W p l e (headSpec wsX9_lay rm_X9_lay).room s m args below meth c H locs 0 0 Q (F0 m 40 ls []) := by
      intro H locs ls hP hD hS hl
      refine lv_aload_n hx hb dX9_lay_40 rfl (lv_at hl 0 rfl) ?_
      obtain ⟨r_15, hg_16, h⟩ := bd1_el h
      refine kx_Vi (As := []) (rest := []) (wr := [(q_text, .inl (ca 0, 500, .inl v_text)), (q_read, .inl (ca 0, 336, .inl y_read_3)), (q_stands, .inl (ca 0, 16, .inl o_10))]) (w1 := [(q_this, .inr (8, [.ref q_text, .int v_size, .int y_at_2, .ref q_read, .ref q_l, .ref q_stands, .ref q_kept, .int (nI 0), .ref q_one, .ref q_two, .ref q_ways, .ref q_now, .ref q_then])), (q_l, .inl (ca 0, 336, .inl y_l_6))]) (wn := [(q_this, .inr (8, [.ref q_text, .int v_size, .int y_at_2, .ref q_read, .ref q_l, .ref q_stands, .ref q_kept, .int (nI 0), .ref q_one, .ref q_two, .ref q_ways, .ref q_now, .ref q_then])), (q_text, .inl (ca 0, 500, .inl v_text)), (q_read, .inl (ca 0, 336, .inl y_read_3)), (q_l, .inl (ca 0, 336, .inl y_l_6)), (q_stands, .inl (ca 0, 16, .inl o_10))]) ⟨hx, hb, hml, hown, hts⟩ (c_X9_toldSet l D ca F H.size q_this q_text q_read q_l q_stands q_kept q_one q_two q_ways q_now q_then v_size y_at_2 (nI 0) y_l_6 r_15 hg_16) (cwV 0 hts gX9_lay_X9_toldSet rfl rfl rfl (by decide +kernel) ⟨(Nat.le_of_ble_eq_true rfl), (Nat.le_of_ble_eq_true rfl)⟩) hK hP hD hS hA (ci := 8) (q0 := 0) rfl rfl [0, 3] [1, 2, 4] [3, 0, 1, 4, 2] rfl rfl rfl rfl (by decide) rfl rfl rfl hl.1 rfl (Nat.le_of_ble_eq_true rfl) dX9_lay_41 ⟨Nat.zero_le _, Nat.zero_le _⟩ (fun H locs hP hD hS => ?_)
      obtain ⟨r_17, hg_18, h⟩ := bd1_el h
      refine kx_Si (As := [.int r_15]) (rest := []) (wr := [(q_this, .inr (8, [.ref q_text, .int v_size, .int y_at_2, .ref q_read, .ref q_l, .ref q_stands, .ref q_kept, .int (nI 0), .ref q_one, .ref q_two, .ref q_ways, .ref q_now, .ref q_then])), (q_text, .inl (ca 0, 500, .inl v_text)), (q_read, .inl (ca 0, 336, .inl y_read_3)), (q_l, .inl (ca 0, 336, .inl y_l_6)), (q_stands, .inl (ca 0, 16, .inl o_10))]) (w1 := []) (wn := [(q_this, .inr (8, [.ref q_text, .int v_size, .int y_at_2, .ref q_read, .ref q_l, .ref q_stands, .ref q_kept, .int (nI 0), .ref q_one, .ref q_two, .ref q_ways, .ref q_now, .ref q_then])), (q_text, .inl (ca 0, 500, .inl v_text)), (q_read, .inl (ca 0, 336, .inl y_read_3)), (q_l, .inl (ca 0, 336, .inl y_l_6)), (q_stands, .inl (ca 0, 16, .inl o_10))]) ⟨hx, hb, hml, hown, hts⟩ (c_X9_ones l D ca F H.size r_15 r_17 hg_18) (va_cwS 1 hts gX9_lay_X9_ones rfl rfl rfl (by decide +kernel) ⟨(Nat.le_of_ble_eq_true rfl), (Nat.le_of_ble_eq_true rfl)⟩) hK hP hD hS hA [] [0, 1, 2, 3, 4] [0, 1, 2, 3, 4] rfl rfl rfl rfl (by decide) rfl rfl rfl hl.1 rfl (Nat.le_of_ble_eq_true rfl) dX9_lay_44 ⟨Nat.zero_le _, Nat.zero_le _⟩ (fun H locs hP hD hS => ?_)
      cases h
      rw [← hQe]
      exact W.iret hx hb hr (fun t ht hW => ⟨⟨_, (), rfl, rfl, by rw [ht]; exact hP, va_K.moved hW.alike hK, hD⟩, hS.F ht⟩) hS.2.2 dX9_lay_47
    have hlp : ∀ (n : Nat) (x1_8 : Int32) (y_stands_9 : Nat → Int32) (o_10 : Nat → Int32) (H : Heap) (locs : List Loc) (ls : Array Slot), lpg (T := Int32 → (Nat → Int32) → Option ((Nat → Int32))) (fun _ _ => none) (b_X9_lay_21) n x1_8 y_stands_9 = some (o_10) → (∀ (H : Heap) (locs : List Loc) (ls : Array Slot), va_P D vwCl [(q_this, .inr (8, [.ref q_text, .int v_size, .int y_at_2, .ref q_read, .ref q_l, .ref q_stands, .ref q_kept, .int (nI 0), .ref q_one, .ref q_two, .ref q_ways, .ref q_now, .ref q_then])), (q_text, .inl (ca 0, 500, .inl v_text)), (q_read, .inl (ca 0, 336, .inl y_read_3)), (q_l, .inl (ca 0, 336, .inl y_l_6)), (q_stands, .inl (ca 0, 16, .inl o_10))] H → va_D A [(q_this, .inr (8, [.ref q_text, .int v_size, .int y_at_2, .ref q_read, .ref q_l, .ref q_stands, .ref q_kept, .int (nI 0), .ref q_one, .ref q_two, .ref q_ways, .ref q_now, .ref q_then])), (q_text, .inl (ca 0, 500, .inl v_text)), (q_read, .inl (ca 0, 336, .inl y_read_3)), (q_l, .inl (ca 0, 336, .inl y_l_6)), (q_stands, .inl (ca 0, 16, .inl o_10))] → va_S A s.heap H locs → lv_has ls 2 [(0, .ref q_this)] → W p l e (headSpec wsX9_lay rm_X9_lay).room s m args below meth c H locs 0 0 Q (F0 m 40 ls [])) → va_P D vwCl [(q_this, .inr (8, [.ref q_text, .int v_size, .int y_at_2, .ref q_read, .ref q_l, .ref q_stands, .ref q_kept, .int (nI 0), .ref q_one, .ref q_two, .ref q_ways, .ref q_now, .ref q_then])), (q_text, .inl (ca 0, 500, .inl v_text)), (q_read, .inl (ca 0, 336, .inl y_read_3)), (q_l, .inl (ca 0, 336, .inl y_l_6)), (q_stands, .inl (ca 0, 16, .inl y_stands_9))] H → va_D A [(q_this, .inr (8, [.ref q_text, .int v_size, .int y_at_2, .ref q_read, .ref q_l, .ref q_stands, .ref q_kept, .int (nI 0), .ref q_one, .ref q_two, .ref q_ways, .ref q_now, .ref q_then])), (q_text, .inl (ca 0, 500, .inl v_text)), (q_read, .inl (ca 0, 336, .inl y_read_3)), (q_l, .inl (ca 0, 336, .inl y_l_6)), (q_stands, .inl (ca 0, 16, .inl y_stands_9))] → va_S A s.heap H locs → lv_has ls 2 [(0, .ref q_this), (1, .int x1_8)] → W p l e (headSpec wsX9_lay rm_X9_lay).room s m args below meth c H locs 0 0 Q (F0 m 21 ls []) := by
      intro n
      induction n with
      | zero => intro x1_8 y_stands_9 o_10 H locs ls h; have h : (none : Option ((Nat → Int32))) = some _ := h; cases h
      | succ n ih =>
        intro x1_8 y_stands_9 o_10 H locs ls h hex hP hD hS hl
        rw [lpg_succ, b_X9_lay_21] at h
        refine lv_iload_n hx hb dX9_lay_21 rfl (lv_at hl 1 rfl) ?_
        refine lv_bipush (v := (nI 16)) hx hb dX9_lay_22 (by decide) ?_
        refine lv_icmp_ge (tgt := 40) hx hb dX9_lay_24 (by decide) (fun c_11 => ?_) (fun c_11 => ?_)
        · replace h := ifp_el c_11 h
          cases h
          exact hex _ _ _ hP hD hS (lv_sub hl [0] rfl)
        · replace h := ifn_el c_11 h
          refine lv_aload_n hx hb dX9_lay_27 rfl (lv_at hl 0 rfl) ?_
          refine va_get (D := D) (ci := 8) (v := .ref q_stands) (C := RX9) (T := TX9) (N := 13) hx hb hts i_X9 hown hK hP 0 rfl rfl 5 (by decide) k_19 (fun _ h9 => h9) rfl dX9_lay_28 ?_
          refine lv_iload_n hx hb dX9_lay_31 rfl (lv_at hl 1 rfl) ?_
          refine lv_iconst (v := (nI 0)) hx hb dX9_lay_32 (by decide) ?_
          obtain ⟨hi_12, h⟩ := ck_el h
          refine va_iast hx hb hK hP hD hS 4 0 rfl rfl hi_12 dX9_lay_33 (fun H locs hP hD hS => ?_)
          have hP : va_P D vwCl [(q_this, .inr (8, [.ref q_text, .int v_size, .int y_at_2, .ref q_read, .ref q_l, .ref q_stands, .ref q_kept, .int (nI 0), .ref q_one, .ref q_two, .ref q_ways, .ref q_now, .ref q_then])), (q_text, .inl (ca 0, 500, .inl v_text)), (q_read, .inl (ca 0, 336, .inl y_read_3)), (q_l, .inl (ca 0, 336, .inl y_l_6)), (q_stands, .inl (ca 0, 16, .inl (upd y_stands_9 x1_8.toNatClampNeg (nI 0))))] H := hP
          have hD : va_D A [(q_this, .inr (8, [.ref q_text, .int v_size, .int y_at_2, .ref q_read, .ref q_l, .ref q_stands, .ref q_kept, .int (nI 0), .ref q_one, .ref q_two, .ref q_ways, .ref q_now, .ref q_then])), (q_text, .inl (ca 0, 500, .inl v_text)), (q_read, .inl (ca 0, 336, .inl y_read_3)), (q_l, .inl (ca 0, 336, .inl y_l_6)), (q_stands, .inl (ca 0, 16, .inl (upd y_stands_9 x1_8.toNatClampNeg (nI 0))))] := hD
          obtain ⟨x1_13, e_14, h⟩ := nm_el h
          refine lv_iinc (v := x1_13) (lv' := [(1, .int x1_13), (0, .ref q_this)]) hx hb dX9_lay_34 hl (k := 1) rfl (by rw [← e_14]; rfl) (by decide) rfl (fun ls hl => ?_)
          refine lv_goto (tgt := 21) hx hb dX9_lay_37 (by decide) ?_
          exact ih _ _ _ _ _ _ h hex hP hD hS (lv_sub hl [1, 0] rfl)
    exact hlp F (nI 0) v_stands o_10 H locs ls hL hex hP hD hS (lv_sub hl [1, 0] rfl)
  · replace h := ifn_el c_5 h
    refine lv_bipush (v := (-2 : Int32)) hx hb dX9_lay_7 (by decide) ?_
    cases h
    rw [← hQe]
    exact W.iret hx hb hr (fun t ht hW => ⟨⟨_, (), rfl, rfl, by rw [ht]; exact hP, va_K.moved hW.alike hK, hD⟩, hS.F ht⟩) hS.2.2 dX9_lay_9
def D_X9_earAt (p1 : Int32) (p2 : Int32) : Option (Int32) := some (((nI 112) + ((nI 7) * (((nI 8) * p1) + p2))))
abbrev rm_X9_earAt : Room := { frames := 0, cells := 0, slots := 0, locals := 0 }
set_option maxHeartbeats 4000000 in
set_option maxRecDepth 100000 in
theorem c_X9_earAt (l : Launch) (D : va_G) (ca : Nat → ClassId) (sz : Nat) (p1 : Int32) (p2 : Int32) (r : Int32) (h : D_X9_earAt p1 p2 = some (r)) : Met l yX9_earAt wsX9_earAt rm_X9_earAt (va_Pc [.int p1, .int p2] (kPre D ca [] sz)) (kQi D ca (va_A [] sz) [] r) 0 0 (va_A [] sz) := by
  refine Met.ofW (cc := cX9_earAt) (maxL := 2) (ret := (some .int)) (by decide +kernel) rfl ?_
  intro p e s m args below meth c s₁ B hml hv
  obtain ⟨rfl, hsz, hP, hK, hD0⟩ := hv
  have hx := B.exec
  have hb := B.bytes
  have hr := B.returns
  have hts := atoms_spec (ws := wsX9_earAt) B.pre
  have hown : s.vm.findClass RX9 = some m.cls := findClass_of_methodNamed B.named
  have hlocks := B.notSynchronized
  clear B
  subst hsz
  have hD := hD0.self (sz := s.heap.size)
  generalize hAe : va_A [] s.heap.size = A at hD ⊢
  have hA : ∀ q : Nat, s.heap.size ≤ q → A q := fun q h => by rw [← hAe]; exact Or.inr h
  have hS : va_S A s.heap s.heap [] := va_S.rf
  have hl := lv_entry ([.int p1, .int p2]) (n := 2) (Nat.le_of_ble_eq_true rfl)
  rw [lg_entry_eq]
  generalize (lg_sl ([.int p1, .int p2]) ++ List.replicate (2 - (lg_sl ([.int p1, .int p2])).length) Slot.unset).toArray = ls at hl ⊢
  have hl : lv_has ls 2 [(0, .int p1), (1, .int p2)] := hl
  generalize ([.int p1, .int p2] : List Value).toArray = args at hts ⊢
  generalize hQe : MQ below (kQi D ca (A) [] r) args s 0 0 A = Q
  rw [D_X9_earAt] at h
  refine lv_bipush (v := (nI 112)) hx hb dX9_earAt_0 (by decide) ?_
  refine lv_bipush (v := (nI 7)) hx hb dX9_earAt_2 (by decide) ?_
  refine lv_bipush (v := (nI 8)) hx hb dX9_earAt_4 (by decide) ?_
  refine lv_iload_n hx hb dX9_earAt_6 rfl (lv_at hl 0 rfl) ?_
  refine lv_imul hx hb dX9_earAt_7 ?_
  refine lv_iload_n hx hb dX9_earAt_8 rfl (lv_at hl 1 rfl) ?_
  refine lv_iadd hx hb dX9_earAt_9 ?_
  refine lv_imul hx hb dX9_earAt_10 ?_
  refine lv_iadd hx hb dX9_earAt_11 ?_
  cases h
  rw [← hQe]
  exact W.iret hx hb hr (fun t ht hW => ⟨⟨_, (), rfl, rfl, by rw [ht]; exact hP, va_K.moved hW.alike hK, hD⟩, hS.F ht⟩) hS.2.2 dX9_earAt_12
def D_X9_isMeaning (p1 : Int32) : Option (Int32) := bd1 (D_X9_in p1.toInt64 (lN 0) (lN 7)) (fun r_1 => cz r_1 (some (r_1)))
abbrev rm_X9_isMeaning : Room := { frames := 1, cells := 0, slots := 0, locals := 25 }
set_option maxHeartbeats 4000000 in
set_option maxRecDepth 100000 in
theorem c_X9_isMeaning (l : Launch) (D : va_G) (ca : Nat → ClassId) (sz : Nat) (p1 : Int32) (r : Int32) (h : D_X9_isMeaning p1 = some (r)) : Met l yX9_isMeaning wsX9_isMeaning rm_X9_isMeaning (va_Pc [.int p1] (kPre D ca [] sz)) (kQi D ca (va_A [] sz) [] r) 0 0 (va_A [] sz) := by
  refine Met.ofW (cc := cX9_isMeaning) (maxL := 1) (ret := (some .boolean)) (by decide +kernel) rfl ?_
  intro p e s m args below meth c s₁ B hml hv
  obtain ⟨rfl, hsz, hP, hK, hD0⟩ := hv
  have hx := B.exec
  have hb := B.bytes
  have hr := B.returns
  have hts := atoms_spec (ws := wsX9_isMeaning) B.pre
  have hown : s.vm.findClass RX9 = some m.cls := findClass_of_methodNamed B.named
  have hlocks := B.notSynchronized
  clear B
  subst hsz
  have hD := hD0.self (sz := s.heap.size)
  generalize hAe : va_A [] s.heap.size = A at hD ⊢
  have hA : ∀ q : Nat, s.heap.size ≤ q → A q := fun q h => by rw [← hAe]; exact Or.inr h
  have hS : va_S A s.heap s.heap [] := va_S.rf
  have hl := lv_entry ([.int p1]) (n := 1) (Nat.le_of_ble_eq_true rfl)
  rw [lg_entry_eq]
  generalize (lg_sl ([.int p1]) ++ List.replicate (1 - (lg_sl ([.int p1])).length) Slot.unset).toArray = ls at hl ⊢
  have hl : lv_has ls 1 [(0, .int p1)] := hl
  generalize ([.int p1] : List Value).toArray = args at hts ⊢
  generalize hQe : MQ below (kQi D ca (A) [] r) args s 0 0 A = Q
  have k_135 := hts (.constantLong RX9 135 (lN 7)) (by decide +kernel)
  rw [D_X9_isMeaning] at h
  refine lv_iload_n hx hb dX9_isMeaning_0 rfl (lv_at hl 0 rfl) ?_
  refine lv_i2l hx hb dX9_isMeaning_1 rfl ?_
  refine lv_lconst (v := (lN 0)) hx hb dX9_isMeaning_2 (by decide) ?_
  refine lv_ldc2 hx hb hown k_135 dX9_isMeaning_3 ?_
  obtain ⟨r_1, hg_2, h⟩ := bd1_el h
  refine kx_Si (As := [.long p1.toInt64, .long (lN 0), .long (lN 7)]) (rest := []) (wr := []) (w1 := []) (wn := []) ⟨hx, hb, hml, hown, hts⟩ (c_X9_in l D ca s.heap.size p1.toInt64 (lN 0) (lN 7) r_1 hg_2) (va_cwS 3 hts gX9_isMeaning_X9_in rfl rfl rfl (by decide +kernel) ⟨(Nat.le_of_ble_eq_true rfl), (Nat.le_of_ble_eq_true rfl)⟩) hK hP hD hS hA [] [] [] rfl rfl rfl rfl (by decide) rfl rfl rfl hl.1 rfl (Nat.le_of_ble_eq_true rfl) dX9_isMeaning_6 ⟨Nat.zero_le _, Nat.zero_le _⟩ (fun H locs hP hD hS => ?_)
  obtain ⟨hz, h⟩ := cz_el h
  cases h
  rw [← hQe]
  exact W.zret hx hb hr hz (fun t ht hW => ⟨⟨_, (), rfl, rfl, by rw [ht]; exact hP, va_K.moved hW.alike hK, hD⟩, hS.F ht⟩) hS.2.2 dX9_isMeaning_9
def D_X9_said (p1 : Int32) (p2 : Int32) (v_l : Nat → Int32) : Option (Int32) := ck 336 ((nI 282) + p2) (nm (v_l ((nI 282) + p2).toNatClampNeg) (fun x3_2 => ck 336 ((nI 280) + p1) (bd1 (D_X9_has (v_l ((nI 280) + p1).toNatClampNeg) p2) (fun r_4 => (if r_4 = 0 then (if x3_2 < 0 then some ((-1 : Int32)) else ck 336 ((nI 280) + p1) (bd1 (D_X9_has (v_l ((nI 280) + p1).toNatClampNeg) x3_2) (fun r_9 => (if r_9 = 0 then some ((-1 : Int32)) else some (x3_2))))) else some (p2))))))
abbrev rm_X9_said : Room := { frames := 1, cells := 0, slots := 0, locals := 21 }
set_option maxHeartbeats 4000000 in
set_option maxRecDepth 100000 in
theorem c_X9_said (l : Launch) (D : va_G) (ca : Nat → ClassId) (sz : Nat) (q_this q_text q_read q_l q_stands q_kept q_one q_two q_ways q_now q_then : Nat) (p1 : Int32) (p2 : Int32) (v_size : Int32) (v_at : Int32) (v_keptMany : Int32) (v_l : Nat → Int32) (r : Int32) (h : D_X9_said p1 p2 v_l = some (r)) : Met l yX9_said wsX9_said rm_X9_said (va_Pc [.ref q_this, .int p1, .int p2] (kPre D ca [(q_this, .inr (8, [.ref q_text, .int v_size, .int v_at, .ref q_read, .ref q_l, .ref q_stands, .ref q_kept, .int v_keptMany, .ref q_one, .ref q_two, .ref q_ways, .ref q_now, .ref q_then])), (q_l, .inl (ca 0, 336, .inl v_l))] sz)) (kQi D ca (va_A [(q_this, .inr (8, [.ref q_text, .int v_size, .int v_at, .ref q_read, .ref q_l, .ref q_stands, .ref q_kept, .int v_keptMany, .ref q_one, .ref q_two, .ref q_ways, .ref q_now, .ref q_then])), (q_l, .inl (ca 0, 336, .inl v_l))] sz) [(q_this, .inr (8, [.ref q_text, .int v_size, .int v_at, .ref q_read, .ref q_l, .ref q_stands, .ref q_kept, .int v_keptMany, .ref q_one, .ref q_two, .ref q_ways, .ref q_now, .ref q_then])), (q_l, .inl (ca 0, 336, .inl v_l))] r) 0 0 (va_A [(q_this, .inr (8, [.ref q_text, .int v_size, .int v_at, .ref q_read, .ref q_l, .ref q_stands, .ref q_kept, .int v_keptMany, .ref q_one, .ref q_two, .ref q_ways, .ref q_now, .ref q_then])), (q_l, .inl (ca 0, 336, .inl v_l))] sz) := by
  refine Met.ofW (cc := cX9_said) (maxL := 4) (ret := (some .int)) (by decide +kernel) rfl ?_
  intro p e s m args below meth c s₁ B hml hv
  obtain ⟨rfl, hsz, hP, hK, hD0⟩ := hv
  have hx := B.exec
  have hb := B.bytes
  have hr := B.returns
  have hts := atoms_spec (ws := wsX9_said) B.pre
  have hown : s.vm.findClass RX9 = some m.cls := findClass_of_methodNamed B.named
  have hlocks := B.notSynchronized
  clear B
  subst hsz
  have hD := hD0.self (sz := s.heap.size)
  generalize hAe : va_A [(q_this, .inr (8, [.ref q_text, .int v_size, .int v_at, .ref q_read, .ref q_l, .ref q_stands, .ref q_kept, .int v_keptMany, .ref q_one, .ref q_two, .ref q_ways, .ref q_now, .ref q_then])), (q_l, .inl (ca 0, 336, .inl v_l))] s.heap.size = A at hD ⊢
  have hA : ∀ q : Nat, s.heap.size ≤ q → A q := fun q h => by rw [← hAe]; exact Or.inr h
  have hS : va_S A s.heap s.heap [] := va_S.rf
  have hl := lv_entry ([.ref q_this, .int p1, .int p2]) (n := 4) (Nat.le_of_ble_eq_true rfl)
  rw [lg_entry_eq]
  generalize (lg_sl ([.ref q_this, .int p1, .int p2]) ++ List.replicate (4 - (lg_sl ([.ref q_this, .int p1, .int p2])).length) Slot.unset).toArray = ls at hl ⊢
  have hl : lv_has ls 4 [(0, .ref q_this), (1, .int p1), (2, .int p2)] := hl
  generalize ([.ref q_this, .int p1, .int p2] : List Value).toArray = args at hts ⊢
  generalize hQe : MQ below (kQi D ca (A) [(q_this, .inr (8, [.ref q_text, .int v_size, .int v_at, .ref q_read, .ref q_l, .ref q_stands, .ref q_kept, .int v_keptMany, .ref q_one, .ref q_two, .ref q_ways, .ref q_now, .ref q_then])), (q_l, .inl (ca 0, 336, .inl v_l))] r) args s 0 0 A = Q
  have i_X9 : ∀ w ∈ u_ws RX9 TX9 13, w ∈ wsX9_said := by decide +kernel
  have k_16 := hts (.fieldLink RX9 16 "TradeWordsModel" "l" "[I") (by decide +kernel)
  rw [D_X9_said] at h
  refine lv_aload_n hx hb dX9_said_0 rfl (lv_at hl 0 rfl) ?_
  refine va_get (D := D) (ci := 8) (v := .ref q_l) (C := RX9) (T := TX9) (N := 13) hx hb hts i_X9 hown hK hP 0 rfl rfl 4 (by decide) k_16 (fun _ h9 => h9) rfl dX9_said_1 ?_
  refine lv_sipush (v := (nI 282)) hx hb dX9_said_4 (by decide) ?_
  refine lv_iload_n hx hb dX9_said_7 rfl (lv_at hl 2 rfl) ?_
  refine lv_iadd hx hb dX9_said_8 ?_
  obtain ⟨hi_1, h⟩ := ck_el h
  refine va_iald hx hb hK hP 1 0 rfl rfl hi_1 dX9_said_9 ?_
  refine lv_nmi h (fun x3_2 h => ?_)
  refine lv_istore_n (lv' := [(3, .int x3_2), (0, .ref q_this), (1, .int p1), (2, .int p2)]) hx hb dX9_said_10 rfl hl (by decide) rfl (fun ls hl => ?_)
  refine lv_aload_n hx hb dX9_said_11 rfl (lv_at hl 1 rfl) ?_
  refine va_get (D := D) (ci := 8) (v := .ref q_l) (C := RX9) (T := TX9) (N := 13) hx hb hts i_X9 hown hK hP 0 rfl rfl 4 (by decide) k_16 (fun _ h9 => h9) rfl dX9_said_12 ?_
  refine lv_sipush (v := (nI 280)) hx hb dX9_said_15 (by decide) ?_
  refine lv_iload_n hx hb dX9_said_18 rfl (lv_at hl 2 rfl) ?_
  refine lv_iadd hx hb dX9_said_19 ?_
  obtain ⟨hi_3, h⟩ := ck_el h
  refine va_iald hx hb hK hP 1 0 rfl rfl hi_3 dX9_said_20 ?_
  refine lv_iload_n hx hb dX9_said_21 rfl (lv_at hl 3 rfl) ?_
  obtain ⟨r_4, hg_5, h⟩ := bd1_el h
  refine kx_Si (As := [.int (v_l ((nI 280) + p1).toNatClampNeg), .int p2]) (rest := []) (wr := [(q_this, .inr (8, [.ref q_text, .int v_size, .int v_at, .ref q_read, .ref q_l, .ref q_stands, .ref q_kept, .int v_keptMany, .ref q_one, .ref q_two, .ref q_ways, .ref q_now, .ref q_then])), (q_l, .inl (ca 0, 336, .inl v_l))]) (w1 := []) (wn := [(q_this, .inr (8, [.ref q_text, .int v_size, .int v_at, .ref q_read, .ref q_l, .ref q_stands, .ref q_kept, .int v_keptMany, .ref q_one, .ref q_two, .ref q_ways, .ref q_now, .ref q_then])), (q_l, .inl (ca 0, 336, .inl v_l))]) ⟨hx, hb, hml, hown, hts⟩ (c_X9_has l D ca s.heap.size (v_l ((nI 280) + p1).toNatClampNeg) p2 r_4 hg_5) (va_cwS 2 hts gX9_said_X9_has rfl rfl rfl (by decide +kernel) ⟨(Nat.le_of_ble_eq_true rfl), (Nat.le_of_ble_eq_true rfl)⟩) hK hP hD hS hA [] [0, 1] [0, 1] rfl rfl rfl rfl (by decide) rfl rfl rfl hl.1 rfl (Nat.le_of_ble_eq_true rfl) dX9_said_22 ⟨Nat.zero_le _, Nat.zero_le _⟩ (fun H locs hP hD hS => ?_)
  refine lv_if_eq (tgt := 32) hx hb dX9_said_25 (by decide) (fun c_6 => ?_) (fun c_6 => ?_)
  · replace h := ifp_el c_6 h
    refine lv_iload_n hx hb dX9_said_32 rfl (lv_at hl 0 rfl) ?_
    refine lv_if_lt (tgt := 57) hx hb dX9_said_33 (by decide) (fun c_7 => ?_) (fun c_7 => ?_)
    · replace h := ifp_el c_7 h
      refine lv_iconst (v := (-1 : Int32)) hx hb dX9_said_57 (by decide) ?_
      cases h
      rw [← hQe]
      exact W.iret hx hb hr (fun t ht hW => ⟨⟨_, (), rfl, rfl, by rw [ht]; exact hP, va_K.moved hW.alike hK, hD⟩, hS.F ht⟩) hS.2.2 dX9_said_58
    · replace h := ifn_el c_7 h
      refine lv_aload_n hx hb dX9_said_36 rfl (lv_at hl 1 rfl) ?_
      refine va_get (D := D) (ci := 8) (v := .ref q_l) (C := RX9) (T := TX9) (N := 13) hx hb hts i_X9 hown hK hP 0 rfl rfl 4 (by decide) k_16 (fun _ h9 => h9) rfl dX9_said_37 ?_
      refine lv_sipush (v := (nI 280)) hx hb dX9_said_40 (by decide) ?_
      refine lv_iload_n hx hb dX9_said_43 rfl (lv_at hl 2 rfl) ?_
      refine lv_iadd hx hb dX9_said_44 ?_
      obtain ⟨hi_8, h⟩ := ck_el h
      refine va_iald hx hb hK hP 1 0 rfl rfl hi_8 dX9_said_45 ?_
      refine lv_iload_n hx hb dX9_said_46 rfl (lv_at hl 0 rfl) ?_
      obtain ⟨r_9, hg_10, h⟩ := bd1_el h
      refine kx_Si (As := [.int (v_l ((nI 280) + p1).toNatClampNeg), .int x3_2]) (rest := []) (wr := [(q_this, .inr (8, [.ref q_text, .int v_size, .int v_at, .ref q_read, .ref q_l, .ref q_stands, .ref q_kept, .int v_keptMany, .ref q_one, .ref q_two, .ref q_ways, .ref q_now, .ref q_then])), (q_l, .inl (ca 0, 336, .inl v_l))]) (w1 := []) (wn := [(q_this, .inr (8, [.ref q_text, .int v_size, .int v_at, .ref q_read, .ref q_l, .ref q_stands, .ref q_kept, .int v_keptMany, .ref q_one, .ref q_two, .ref q_ways, .ref q_now, .ref q_then])), (q_l, .inl (ca 0, 336, .inl v_l))]) ⟨hx, hb, hml, hown, hts⟩ (c_X9_has l D ca H.size (v_l ((nI 280) + p1).toNatClampNeg) x3_2 r_9 hg_10) (va_cwS 2 hts gX9_said_X9_has rfl rfl rfl (by decide +kernel) ⟨(Nat.le_of_ble_eq_true rfl), (Nat.le_of_ble_eq_true rfl)⟩) hK hP hD hS hA [] [0, 1] [0, 1] rfl rfl rfl rfl (by decide) rfl rfl rfl hl.1 rfl (Nat.le_of_ble_eq_true rfl) dX9_said_47 ⟨Nat.zero_le _, Nat.zero_le _⟩ (fun H locs hP hD hS => ?_)
      refine lv_if_eq (tgt := 57) hx hb dX9_said_50 (by decide) (fun c_11 => ?_) (fun c_11 => ?_)
      · replace h := ifp_el c_11 h
        refine lv_iconst (v := (-1 : Int32)) hx hb dX9_said_57 (by decide) ?_
        cases h
        rw [← hQe]
        exact W.iret hx hb hr (fun t ht hW => ⟨⟨_, (), rfl, rfl, by rw [ht]; exact hP, va_K.moved hW.alike hK, hD⟩, hS.F ht⟩) hS.2.2 dX9_said_58
      · replace h := ifn_el c_11 h
        refine lv_iload_n hx hb dX9_said_53 rfl (lv_at hl 0 rfl) ?_
        refine lv_goto (tgt := 58) hx hb dX9_said_54 (by decide) ?_
        cases h
        rw [← hQe]
        exact W.iret hx hb hr (fun t ht hW => ⟨⟨_, (), rfl, rfl, by rw [ht]; exact hP, va_K.moved hW.alike hK, hD⟩, hS.F ht⟩) hS.2.2 dX9_said_58
  · replace h := ifn_el c_6 h
    refine lv_iload_n hx hb dX9_said_28 rfl (lv_at hl 3 rfl) ?_
    refine lv_goto (tgt := 58) hx hb dX9_said_29 (by decide) ?_
    cases h
    rw [← hQe]
    exact W.iret hx hb hr (fun t ht hW => ⟨⟨_, (), rfl, rfl, by rw [ht]; exact hP, va_K.moved hW.alike hK, hD⟩, hS.F ht⟩) hS.2.2 dX9_said_58
def j_X9_say_46 (n_a3 : Nat) (x4_1 : Int32) (x5_2 : Int32) (y_a3_3 : Nat → Int32) (rec6 : Int32 → Int32 → (Nat → Int32) → Option (Int32 × (Nat → Int32))) (z0_10 : Int32) : Option (Int32 × (Nat → Int32)) := (if z0_10 < 0 then nm (x5_2 + (nI 1)) (fun x5_12 => rec6 x4_1 x5_12 y_a3_3) else ck n_a3 ((nI 1) + x4_1) (nm (x4_1 + (nI 1)) (fun x4_15 => nm (x5_2 + (nI 1)) (fun x5_17 => rec6 x4_15 x5_17 (upd y_a3_3 ((nI 1) + x4_1).toNatClampNeg z0_10)))))
def b_X9_say_6 (p1 : Int32) (p2 : Int32) (v_l : Nat → Int32) (n_a3 : Nat) (rec6 : Int32 → Int32 → (Nat → Int32) → Option (Int32 × (Nat → Int32))) (x4_1 : Int32) (x5_2 : Int32) (y_a3_3 : Nat → Int32) : Option (Int32 × (Nat → Int32)) := ck 336 p1 ((if (v_l p1.toNatClampNeg) ≤ x5_2 then some (x4_1, y_a3_3) else ck 336 ((p1 + (nI 1)) + x5_2) (nm (v_l ((p1 + (nI 1)) + x5_2).toNatClampNeg) (fun x6_9 => (if 0 ≤ p2 then bd1 (D_X9_said p2 x6_9 v_l) (fun r_20 => j_X9_say_46 n_a3 x4_1 x5_2 y_a3_3 rec6 r_20) else j_X9_say_46 n_a3 x4_1 x5_2 y_a3_3 rec6 x6_9)))))
def D_X9_say (F : Nat) (n_a3 : Nat) (p1 : Int32) (p2 : Int32) (v_l : Nat → Int32) (v_a3 : Nat → Int32) : Option ((Nat → Int32)) := bd2 (lpg (T := Int32 → Int32 → (Nat → Int32) → Option (Int32 × (Nat → Int32))) (fun _ _ _ => none) (b_X9_say_6 p1 p2 v_l n_a3) F (nI 0) (nI 0) v_a3) (fun o_4 o_5 => ck n_a3 (nI 0) (some ((upd o_5 (nI 0).toNatClampNeg o_4))))
abbrev rm_X9_say : Room := { frames := 2, cells := 0, slots := 0, locals := 44 }
set_option maxHeartbeats 4000000 in
set_option maxRecDepth 100000 in
theorem c_X9_say (l : Launch) (D : va_G) (ca : Nat → ClassId) (F : Nat) (sz : Nat) (q_this q_text q_read q_l q_stands q_kept q_one q_two q_ways q_now q_then q_a3 : Nat) (n_a3 : Nat) (p1 : Int32) (p2 : Int32) (v_size : Int32) (v_at : Int32) (v_keptMany : Int32) (v_l : Nat → Int32) (v_a3 : Nat → Int32) (o_a3 : Nat → Int32) (h : D_X9_say F n_a3 p1 p2 v_l v_a3 = some (o_a3)) : Met l yX9_say wsX9_say rm_X9_say (va_Pc [.ref q_this, .int p1, .int p2, .ref q_a3] (kPre D ca [(q_this, .inr (8, [.ref q_text, .int v_size, .int v_at, .ref q_read, .ref q_l, .ref q_stands, .ref q_kept, .int v_keptMany, .ref q_one, .ref q_two, .ref q_ways, .ref q_now, .ref q_then])), (q_l, .inl (ca 0, 336, .inl v_l)), (q_a3, .inl (ca 0, n_a3, .inl v_a3))] sz)) (kQv D ca (va_A [(q_this, .inr (8, [.ref q_text, .int v_size, .int v_at, .ref q_read, .ref q_l, .ref q_stands, .ref q_kept, .int v_keptMany, .ref q_one, .ref q_two, .ref q_ways, .ref q_now, .ref q_then])), (q_l, .inl (ca 0, 336, .inl v_l)), (q_a3, .inl (ca 0, n_a3, .inl v_a3))] sz) [(q_this, .inr (8, [.ref q_text, .int v_size, .int v_at, .ref q_read, .ref q_l, .ref q_stands, .ref q_kept, .int v_keptMany, .ref q_one, .ref q_two, .ref q_ways, .ref q_now, .ref q_then])), (q_l, .inl (ca 0, 336, .inl v_l)), (q_a3, .inl (ca 0, n_a3, .inl o_a3))]) 0 0 (va_A [(q_this, .inr (8, [.ref q_text, .int v_size, .int v_at, .ref q_read, .ref q_l, .ref q_stands, .ref q_kept, .int v_keptMany, .ref q_one, .ref q_two, .ref q_ways, .ref q_now, .ref q_then])), (q_l, .inl (ca 0, 336, .inl v_l)), (q_a3, .inl (ca 0, n_a3, .inl v_a3))] sz) := by
  refine Met.ofW (cc := cX9_say) (maxL := 8) (ret := none) (by decide +kernel) rfl ?_
  intro p e s m args below meth c s₁ B hml hv
  obtain ⟨rfl, hsz, hP, hK, hD0⟩ := hv
  have hx := B.exec
  have hb := B.bytes
  have hr := B.returns
  have hts := atoms_spec (ws := wsX9_say) B.pre
  have hown : s.vm.findClass RX9 = some m.cls := findClass_of_methodNamed B.named
  have hlocks := B.notSynchronized
  clear B
  subst hsz
  have hD := hD0.self (sz := s.heap.size)
  generalize hAe : va_A [(q_this, .inr (8, [.ref q_text, .int v_size, .int v_at, .ref q_read, .ref q_l, .ref q_stands, .ref q_kept, .int v_keptMany, .ref q_one, .ref q_two, .ref q_ways, .ref q_now, .ref q_then])), (q_l, .inl (ca 0, 336, .inl v_l)), (q_a3, .inl (ca 0, n_a3, .inl v_a3))] s.heap.size = A at hD ⊢
  have hA : ∀ q : Nat, s.heap.size ≤ q → A q := fun q h => by rw [← hAe]; exact Or.inr h
  have hS : va_S A s.heap s.heap [] := va_S.rf
  have hl := lv_entry ([.ref q_this, .int p1, .int p2, .ref q_a3]) (n := 8) (Nat.le_of_ble_eq_true rfl)
  rw [lg_entry_eq]
  generalize (lg_sl ([.ref q_this, .int p1, .int p2, .ref q_a3]) ++ List.replicate (8 - (lg_sl ([.ref q_this, .int p1, .int p2, .ref q_a3])).length) Slot.unset).toArray = ls at hl ⊢
  have hl : lv_has ls 8 [(0, .ref q_this), (1, .int p1), (2, .int p2), (3, .ref q_a3)] := hl
  generalize ([.ref q_this, .int p1, .int p2, .ref q_a3] : List Value).toArray = args at hts ⊢
  generalize hQe : MQ below (kQv D ca (A) [(q_this, .inr (8, [.ref q_text, .int v_size, .int v_at, .ref q_read, .ref q_l, .ref q_stands, .ref q_kept, .int v_keptMany, .ref q_one, .ref q_two, .ref q_ways, .ref q_now, .ref q_then])), (q_l, .inl (ca 0, 336, .inl v_l)), (q_a3, .inl (ca 0, n_a3, .inl o_a3))]) args s 0 0 A = Q
  have i_X9 : ∀ w ∈ u_ws RX9 TX9 13, w ∈ wsX9_say := by decide +kernel
  have k_16 := hts (.fieldLink RX9 16 "TradeWordsModel" "l" "[I") (by decide +kernel)
  rw [D_X9_say] at h
  refine lv_iconst (v := (nI 0)) hx hb dX9_say_0 (by decide) ?_
  refine lv_istore (lv' := [(4, .int (nI 0)), (0, .ref q_this), (1, .int p1), (2, .int p2), (3, .ref q_a3)]) hx hb dX9_say_1 hl (by decide) rfl (fun ls hl => ?_)
  refine lv_iconst (v := (nI 0)) hx hb dX9_say_3 (by decide) ?_
  refine lv_istore (lv' := [(5, .int (nI 0)), (4, .int (nI 0)), (0, .ref q_this), (1, .int p1), (2, .int p2), (3, .ref q_a3)]) hx hb dX9_say_4 hl (by decide) rfl (fun ls hl => ?_)
  obtain ⟨o_4, o_5, hL, h⟩ := bd2_el h
  have hex : ∀ (H : Heap) (locs : List Loc) (ls : Array Slot), va_P D vwCl [(q_this, .inr (8, [.ref q_text, .int v_size, .int v_at, .ref q_read, .ref q_l, .ref q_stands, .ref q_kept, .int v_keptMany, .ref q_one, .ref q_two, .ref q_ways, .ref q_now, .ref q_then])), (q_l, .inl (ca 0, 336, .inl v_l)), (q_a3, .inl (ca 0, n_a3, .inl o_5))] H → va_D A [(q_this, .inr (8, [.ref q_text, .int v_size, .int v_at, .ref q_read, .ref q_l, .ref q_stands, .ref q_kept, .int v_keptMany, .ref q_one, .ref q_two, .ref q_ways, .ref q_now, .ref q_then])), (q_l, .inl (ca 0, 336, .inl v_l)), (q_a3, .inl (ca 0, n_a3, .inl o_5))] → va_S A s.heap H locs → lv_has ls 8 [(3, .ref q_a3), (4, .int o_4)] → W p l e (headSpec wsX9_say rm_X9_say).room s m args below meth c H locs 0 0 Q (F0 m 70 ls []) := by
    intro H locs ls hP hD hS hl
    refine lv_aload_n hx hb dX9_say_70 rfl (lv_at hl 0 rfl) ?_
    refine lv_iconst (v := (nI 0)) hx hb dX9_say_71 (by decide) ?_
    refine lv_iload hx hb dX9_say_72 (lv_at hl 1 rfl) ?_
    obtain ⟨hi_22, h⟩ := ck_el h
    refine va_iast hx hb hK hP hD hS 2 0 rfl rfl hi_22 dX9_say_74 (fun H locs hP hD hS => ?_)
    have hP : va_P D vwCl [(q_this, .inr (8, [.ref q_text, .int v_size, .int v_at, .ref q_read, .ref q_l, .ref q_stands, .ref q_kept, .int v_keptMany, .ref q_one, .ref q_two, .ref q_ways, .ref q_now, .ref q_then])), (q_l, .inl (ca 0, 336, .inl v_l)), (q_a3, .inl (ca 0, n_a3, .inl (upd o_5 (nI 0).toNatClampNeg o_4)))] H := hP
    have hD : va_D A [(q_this, .inr (8, [.ref q_text, .int v_size, .int v_at, .ref q_read, .ref q_l, .ref q_stands, .ref q_kept, .int v_keptMany, .ref q_one, .ref q_two, .ref q_ways, .ref q_now, .ref q_then])), (q_l, .inl (ca 0, 336, .inl v_l)), (q_a3, .inl (ca 0, n_a3, .inl (upd o_5 (nI 0).toNatClampNeg o_4)))] := hD
    cases h
    rw [← hQe]
    exact W.vret hx hb hr (fun t ht hW => ⟨⟨(), rfl, trivial, by rw [ht]; exact hP, va_K.moved hW.alike hK, hD⟩, hS.F ht⟩) hS.2.2 dX9_say_75
  have hlp : ∀ (n : Nat) (x4_1 : Int32) (x5_2 : Int32) (y_a3_3 : Nat → Int32) (o_4 : Int32) (o_5 : Nat → Int32) (H : Heap) (locs : List Loc) (ls : Array Slot), lpg (T := Int32 → Int32 → (Nat → Int32) → Option (Int32 × (Nat → Int32))) (fun _ _ _ => none) (b_X9_say_6 p1 p2 v_l n_a3) n x4_1 x5_2 y_a3_3 = some (o_4, o_5) → (∀ (H : Heap) (locs : List Loc) (ls : Array Slot), va_P D vwCl [(q_this, .inr (8, [.ref q_text, .int v_size, .int v_at, .ref q_read, .ref q_l, .ref q_stands, .ref q_kept, .int v_keptMany, .ref q_one, .ref q_two, .ref q_ways, .ref q_now, .ref q_then])), (q_l, .inl (ca 0, 336, .inl v_l)), (q_a3, .inl (ca 0, n_a3, .inl o_5))] H → va_D A [(q_this, .inr (8, [.ref q_text, .int v_size, .int v_at, .ref q_read, .ref q_l, .ref q_stands, .ref q_kept, .int v_keptMany, .ref q_one, .ref q_two, .ref q_ways, .ref q_now, .ref q_then])), (q_l, .inl (ca 0, 336, .inl v_l)), (q_a3, .inl (ca 0, n_a3, .inl o_5))] → va_S A s.heap H locs → lv_has ls 8 [(3, .ref q_a3), (4, .int o_4)] → W p l e (headSpec wsX9_say rm_X9_say).room s m args below meth c H locs 0 0 Q (F0 m 70 ls [])) → va_P D vwCl [(q_this, .inr (8, [.ref q_text, .int v_size, .int v_at, .ref q_read, .ref q_l, .ref q_stands, .ref q_kept, .int v_keptMany, .ref q_one, .ref q_two, .ref q_ways, .ref q_now, .ref q_then])), (q_l, .inl (ca 0, 336, .inl v_l)), (q_a3, .inl (ca 0, n_a3, .inl y_a3_3))] H → va_D A [(q_this, .inr (8, [.ref q_text, .int v_size, .int v_at, .ref q_read, .ref q_l, .ref q_stands, .ref q_kept, .int v_keptMany, .ref q_one, .ref q_two, .ref q_ways, .ref q_now, .ref q_then])), (q_l, .inl (ca 0, 336, .inl v_l)), (q_a3, .inl (ca 0, n_a3, .inl y_a3_3))] → va_S A s.heap H locs → lv_has ls 8 [(0, .ref q_this), (1, .int p1), (2, .int p2), (3, .ref q_a3), (4, .int x4_1), (5, .int x5_2)] → W p l e (headSpec wsX9_say rm_X9_say).room s m args below meth c H locs 0 0 Q (F0 m 6 ls []) := by
    intro n
    induction n with
    | zero => intro x4_1 x5_2 y_a3_3 o_4 o_5 H locs ls h; have h : (none : Option (Int32 × (Nat → Int32))) = some _ := h; cases h
    | succ n ih =>
      intro x4_1 x5_2 y_a3_3 o_4 o_5 H locs ls h hex hP hD hS hl
      rw [lpg_succ, b_X9_say_6] at h
      refine lv_iload hx hb dX9_say_6 (lv_at hl 5 rfl) ?_
      refine lv_aload_n hx hb dX9_say_8 rfl (lv_at hl 0 rfl) ?_
      refine va_get (D := D) (ci := 8) (v := .ref q_l) (C := RX9) (T := TX9) (N := 13) hx hb hts i_X9 hown hK hP 0 rfl rfl 4 (by decide) k_16 (fun _ h9 => h9) rfl dX9_say_9 ?_
      refine lv_iload_n hx hb dX9_say_12 rfl (lv_at hl 1 rfl) ?_
      obtain ⟨hi_6, h⟩ := ck_el h
      refine va_iald hx hb hK hP 1 0 rfl rfl hi_6 dX9_say_13 ?_
      refine lv_icmp_ge (tgt := 70) hx hb dX9_say_14 (by decide) (fun c_7 => ?_) (fun c_7 => ?_)
      · replace h := ifp_el c_7 h
        cases h
        exact hex _ _ _ hP hD hS (lv_sub hl [3, 4] rfl)
      · replace h := ifn_el c_7 h
        refine lv_aload_n hx hb dX9_say_17 rfl (lv_at hl 0 rfl) ?_
        refine va_get (D := D) (ci := 8) (v := .ref q_l) (C := RX9) (T := TX9) (N := 13) hx hb hts i_X9 hown hK hP 0 rfl rfl 4 (by decide) k_16 (fun _ h9 => h9) rfl dX9_say_18 ?_
        refine lv_iload_n hx hb dX9_say_21 rfl (lv_at hl 1 rfl) ?_
        refine lv_iconst (v := (nI 1)) hx hb dX9_say_22 (by decide) ?_
        refine lv_iadd hx hb dX9_say_23 ?_
        refine lv_iload hx hb dX9_say_24 (lv_at hl 5 rfl) ?_
        refine lv_iadd hx hb dX9_say_26 ?_
        obtain ⟨hi_8, h⟩ := ck_el h
        refine va_iald hx hb hK hP 1 0 rfl rfl hi_8 dX9_say_27 ?_
        refine lv_nmi h (fun x6_9 h => ?_)
        refine lv_istore (lv' := [(6, .int x6_9), (0, .ref q_this), (1, .int p1), (2, .int p2), (3, .ref q_a3), (4, .int x4_1), (5, .int x5_2)]) hx hb dX9_say_28 hl (by decide) rfl (fun ls hl => ?_)
        refine lv_iload_n hx hb dX9_say_30 rfl (lv_at hl 3 rfl) ?_
        have hj_46 : ∀ (z0_10 : Int32) (H : Heap) (locs : List Loc) (ls : Array Slot), j_X9_say_46 n_a3 x4_1 x5_2 y_a3_3 (lpg (T := Int32 → Int32 → (Nat → Int32) → Option (Int32 × (Nat → Int32))) (fun _ _ _ => none) (b_X9_say_6 p1 p2 v_l n_a3) n) z0_10 = some (o_4, o_5) → va_P D vwCl [(q_this, .inr (8, [.ref q_text, .int v_size, .int v_at, .ref q_read, .ref q_l, .ref q_stands, .ref q_kept, .int v_keptMany, .ref q_one, .ref q_two, .ref q_ways, .ref q_now, .ref q_then])), (q_l, .inl (ca 0, 336, .inl v_l)), (q_a3, .inl (ca 0, n_a3, .inl y_a3_3))] H → va_D A [(q_this, .inr (8, [.ref q_text, .int v_size, .int v_at, .ref q_read, .ref q_l, .ref q_stands, .ref q_kept, .int v_keptMany, .ref q_one, .ref q_two, .ref q_ways, .ref q_now, .ref q_then])), (q_l, .inl (ca 0, 336, .inl v_l)), (q_a3, .inl (ca 0, n_a3, .inl y_a3_3))] → va_S A s.heap H locs → lv_has ls 8 [(0, .ref q_this), (1, .int p1), (2, .int p2), (3, .ref q_a3), (4, .int x4_1), (5, .int x5_2)] → W p l e (headSpec wsX9_say rm_X9_say).room s m args below meth c H locs 0 0 Q (F0 m 46 ls [.int z0_10]) := by
          intro z0_10 H locs ls h hP hD hS hl
          rw [j_X9_say_46] at h
          refine lv_istore (lv' := [(7, .int z0_10), (0, .ref q_this), (1, .int p1), (2, .int p2), (3, .ref q_a3), (4, .int x4_1), (5, .int x5_2)]) hx hb dX9_say_46 hl (by decide) rfl (fun ls hl => ?_)
          refine lv_iload hx hb dX9_say_48 (lv_at hl 0 rfl) ?_
          refine lv_if_lt (tgt := 64) hx hb dX9_say_50 (by decide) (fun c_11 => ?_) (fun c_11 => ?_)
          · replace h := ifp_el c_11 h
            obtain ⟨x5_12, e_13, h⟩ := nm_el h
            refine lv_iinc (v := x5_12) (lv' := [(5, .int x5_12), (7, .int z0_10), (0, .ref q_this), (1, .int p1), (2, .int p2), (3, .ref q_a3), (4, .int x4_1)]) hx hb dX9_say_64 hl (k := 6) rfl (by rw [← e_13]; rfl) (by decide) rfl (fun ls hl => ?_)
            refine lv_goto (tgt := 6) hx hb dX9_say_67 (by decide) ?_
            exact ih _ _ _ _ _ _ _ _ h hex hP hD hS (lv_sub hl [2, 3, 4, 5, 6, 0] rfl)
          · replace h := ifn_el c_11 h
            refine lv_aload_n hx hb dX9_say_53 rfl (lv_at hl 4 rfl) ?_
            refine lv_iconst (v := (nI 1)) hx hb dX9_say_54 (by decide) ?_
            refine lv_iload hx hb dX9_say_55 (lv_at hl 5 rfl) ?_
            refine lv_iadd hx hb dX9_say_57 ?_
            refine lv_iload hx hb dX9_say_58 (lv_at hl 0 rfl) ?_
            obtain ⟨hi_14, h⟩ := ck_el h
            refine va_iast hx hb hK hP hD hS 2 0 rfl rfl hi_14 dX9_say_60 (fun H locs hP hD hS => ?_)
            have hP : va_P D vwCl [(q_this, .inr (8, [.ref q_text, .int v_size, .int v_at, .ref q_read, .ref q_l, .ref q_stands, .ref q_kept, .int v_keptMany, .ref q_one, .ref q_two, .ref q_ways, .ref q_now, .ref q_then])), (q_l, .inl (ca 0, 336, .inl v_l)), (q_a3, .inl (ca 0, n_a3, .inl (upd y_a3_3 ((nI 1) + x4_1).toNatClampNeg z0_10)))] H := hP
            have hD : va_D A [(q_this, .inr (8, [.ref q_text, .int v_size, .int v_at, .ref q_read, .ref q_l, .ref q_stands, .ref q_kept, .int v_keptMany, .ref q_one, .ref q_two, .ref q_ways, .ref q_now, .ref q_then])), (q_l, .inl (ca 0, 336, .inl v_l)), (q_a3, .inl (ca 0, n_a3, .inl (upd y_a3_3 ((nI 1) + x4_1).toNatClampNeg z0_10)))] := hD
            obtain ⟨x4_15, e_16, h⟩ := nm_el h
            refine lv_iinc (v := x4_15) (lv' := [(4, .int x4_15), (7, .int z0_10), (0, .ref q_this), (1, .int p1), (2, .int p2), (3, .ref q_a3), (5, .int x5_2)]) hx hb dX9_say_61 hl (k := 5) rfl (by rw [← e_16]; rfl) (by decide) rfl (fun ls hl => ?_)
            obtain ⟨x5_17, e_18, h⟩ := nm_el h
            refine lv_iinc (v := x5_17) (lv' := [(5, .int x5_17), (4, .int x4_15), (7, .int z0_10), (0, .ref q_this), (1, .int p1), (2, .int p2), (3, .ref q_a3)]) hx hb dX9_say_64 hl (k := 6) rfl (by rw [← e_18]; rfl) (by decide) rfl (fun ls hl => ?_)
            refine lv_goto (tgt := 6) hx hb dX9_say_67 (by decide) ?_
            exact ih _ _ _ _ _ _ _ _ h hex hP hD hS (lv_sub hl [3, 4, 5, 6, 1, 0] rfl)
        refine lv_if_ge (tgt := 39) hx hb dX9_say_31 (by decide) (fun c_19 => ?_) (fun c_19 => ?_)
        · replace h := ifp_el c_19 h
          refine lv_aload_n hx hb dX9_say_39 rfl (lv_at hl 1 rfl) ?_
          refine lv_iload_n hx hb dX9_say_40 rfl (lv_at hl 3 rfl) ?_
          refine lv_iload hx hb dX9_say_41 (lv_at hl 0 rfl) ?_
          obtain ⟨r_20, hg_21, h⟩ := bd1_el h
          refine kx_Vi (As := [.int p2, .int x6_9]) (rest := []) (wr := [(q_a3, .inl (ca 0, n_a3, .inl y_a3_3))]) (w1 := [(q_this, .inr (8, [.ref q_text, .int v_size, .int v_at, .ref q_read, .ref q_l, .ref q_stands, .ref q_kept, .int v_keptMany, .ref q_one, .ref q_two, .ref q_ways, .ref q_now, .ref q_then])), (q_l, .inl (ca 0, 336, .inl v_l))]) (wn := [(q_this, .inr (8, [.ref q_text, .int v_size, .int v_at, .ref q_read, .ref q_l, .ref q_stands, .ref q_kept, .int v_keptMany, .ref q_one, .ref q_two, .ref q_ways, .ref q_now, .ref q_then])), (q_l, .inl (ca 0, 336, .inl v_l)), (q_a3, .inl (ca 0, n_a3, .inl y_a3_3))]) ⟨hx, hb, hml, hown, hts⟩ (c_X9_said l D ca H.size q_this q_text q_read q_l q_stands q_kept q_one q_two q_ways q_now q_then p2 x6_9 v_size v_at v_keptMany v_l r_20 hg_21) (cwV 2 hts gX9_say_X9_said rfl rfl rfl (by decide +kernel) ⟨(Nat.le_of_ble_eq_true rfl), (Nat.le_of_ble_eq_true rfl)⟩) hK hP hD hS hA (ci := 8) (q0 := 0) rfl rfl [0, 1] [2] [1, 2, 0] rfl rfl rfl rfl (by decide) rfl rfl rfl hl.1 rfl (Nat.le_of_ble_eq_true rfl) dX9_say_43 ⟨Nat.zero_le _, Nat.zero_le _⟩ (fun H locs hP hD hS => ?_)
          exact hj_46 _ _ _ _ h hP hD hS (lv_sub hl [1, 2, 3, 4, 5, 6] rfl)
        · replace h := ifn_el c_19 h
          refine lv_iload hx hb dX9_say_34 (lv_at hl 0 rfl) ?_
          refine lv_goto (tgt := 46) hx hb dX9_say_36 (by decide) ?_
          exact hj_46 _ _ _ _ h hP hD hS (lv_sub hl [1, 2, 3, 4, 5, 6] rfl)
  exact hlp F (nI 0) (nI 0) v_a3 o_4 o_5 s.heap [] ls hL hex hP hD hS (lv_sub hl [2, 3, 4, 5, 1, 0] rfl)
def D_X9_least (p1 : Int32) (p2 : Int32) : Option (Int32) := (if p2 ≤ p1 then some (p2) else some (p1))
abbrev rm_X9_least : Room := { frames := 0, cells := 0, slots := 0, locals := 0 }
set_option maxHeartbeats 4000000 in
set_option maxRecDepth 100000 in
theorem c_X9_least (l : Launch) (D : va_G) (ca : Nat → ClassId) (sz : Nat) (p1 : Int32) (p2 : Int32) (r : Int32) (h : D_X9_least p1 p2 = some (r)) : Met l yX9_least wsX9_least rm_X9_least (va_Pc [.int p1, .int p2] (kPre D ca [] sz)) (kQi D ca (va_A [] sz) [] r) 0 0 (va_A [] sz) := by
  refine Met.ofW (cc := cX9_least) (maxL := 2) (ret := (some .int)) (by decide +kernel) rfl ?_
  intro p e s m args below meth c s₁ B hml hv
  obtain ⟨rfl, hsz, hP, hK, hD0⟩ := hv
  have hx := B.exec
  have hb := B.bytes
  have hr := B.returns
  have hts := atoms_spec (ws := wsX9_least) B.pre
  have hown : s.vm.findClass RX9 = some m.cls := findClass_of_methodNamed B.named
  have hlocks := B.notSynchronized
  clear B
  subst hsz
  have hD := hD0.self (sz := s.heap.size)
  generalize hAe : va_A [] s.heap.size = A at hD ⊢
  have hA : ∀ q : Nat, s.heap.size ≤ q → A q := fun q h => by rw [← hAe]; exact Or.inr h
  have hS : va_S A s.heap s.heap [] := va_S.rf
  have hl := lv_entry ([.int p1, .int p2]) (n := 2) (Nat.le_of_ble_eq_true rfl)
  rw [lg_entry_eq]
  generalize (lg_sl ([.int p1, .int p2]) ++ List.replicate (2 - (lg_sl ([.int p1, .int p2])).length) Slot.unset).toArray = ls at hl ⊢
  have hl : lv_has ls 2 [(0, .int p1), (1, .int p2)] := hl
  generalize ([.int p1, .int p2] : List Value).toArray = args at hts ⊢
  generalize hQe : MQ below (kQi D ca (A) [] r) args s 0 0 A = Q
  rw [D_X9_least] at h
  refine lv_iload_n hx hb dX9_least_0 rfl (lv_at hl 0 rfl) ?_
  refine lv_iload_n hx hb dX9_least_1 rfl (lv_at hl 1 rfl) ?_
  refine lv_icmp_ge (tgt := 9) hx hb dX9_least_2 (by decide) (fun c_1 => ?_) (fun c_1 => ?_)
  · replace h := ifp_el c_1 h
    refine lv_iload_n hx hb dX9_least_9 rfl (lv_at hl 1 rfl) ?_
    cases h
    rw [← hQe]
    exact W.iret hx hb hr (fun t ht hW => ⟨⟨_, (), rfl, rfl, by rw [ht]; exact hP, va_K.moved hW.alike hK, hD⟩, hS.F ht⟩) hS.2.2 dX9_least_10
  · replace h := ifn_el c_1 h
    refine lv_iload_n hx hb dX9_least_5 rfl (lv_at hl 0 rfl) ?_
    refine lv_goto (tgt := 10) hx hb dX9_least_6 (by decide) ?_
    cases h
    rw [← hQe]
    exact W.iret hx hb hr (fun t ht hW => ⟨⟨_, (), rfl, rfl, by rw [ht]; exact hP, va_K.moved hW.alike hK, hD⟩, hS.F ht⟩) hS.2.2 dX9_least_10
