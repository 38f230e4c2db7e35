def j_X10_meetBy_185 (p2 : Int32) (x4_2 : Int32) (z0_8 : Int32) (z0_18 : Int32) (z0_19 : Int32) (y_stands_20 : Nat → Int32) : Option ((Nat → Int32)) := (if z0_19 = 0 then some (y_stands_20) else (if z0_8 = 0 then (if z0_18 = (nI 1) then nm (x4_2 + (nI 1)) (fun w_26 => ck 16 ((nI 2) * p2) (some ((upd y_stands_20 ((nI 2) * p2).toNatClampNeg w_26)))) else nm (x4_2 + (-1 : Int32)) (fun w_24 => ck 16 ((nI 2) * p2) (some ((upd y_stands_20 ((nI 2) * p2).toNatClampNeg w_24))))) else some (y_stands_20)))
def j_X10_meetBy_183 (p2 : Int32) (v_stands : Nat → Int32) (x4_2 : Int32) (z0_8 : Int32) (z0_18 : Int32) (z0_19 : Int32) (z1_30 : Int32) (z2_31 : Int32) (z3_32 : Int32) : Option ((Nat → Int32)) := nm (z2_31 + z3_32) (fun w_33 => ck 16 z1_30 (j_X10_meetBy_185 p2 x4_2 z0_8 z0_18 z0_19 (upd v_stands z1_30.toNatClampNeg w_33)))
def j_X10_meetBy_150 (p2 : Int32) (v_stands : Nat → Int32) (x4_2 : Int32) (x5_4 : Int32) (z0_8 : Int32) (z0_13 : Int32) (z0_18 : Int32) (z0_19 : Int32) : Option ((Nat → Int32)) := (if z0_19 = 0 then j_X10_meetBy_185 p2 x4_2 z0_8 z0_18 z0_19 v_stands else (if z0_8 = 0 then j_X10_meetBy_185 p2 x4_2 z0_8 z0_18 z0_19 v_stands else (if z0_13 = 0 then j_X10_meetBy_183 p2 v_stands x4_2 z0_8 z0_18 z0_19 (((nI 2) * p2) + (nI 1)) x5_4 (nI 1) else j_X10_meetBy_183 p2 v_stands x4_2 z0_8 z0_18 z0_19 (((nI 2) * p2) + (nI 1)) x5_4 (-1 : Int32))))
def j_X10_meetBy_149 (p2 : Int32) (v_stands : Nat → Int32) (x4_2 : Int32) (x5_4 : Int32) (z0_8 : Int32) (z0_13 : Int32) (z0_18 : Int32)  : Option ((Nat → Int32)) := j_X10_meetBy_150 p2 v_stands x4_2 x5_4 z0_8 z0_13 z0_18 (nI 0)
def j_X10_meetBy_140 (p2 : Int32) (v_l : Nat → Int32) (v_stands : Nat → Int32) (x4_2 : Int32) (x5_4 : Int32) (z0_8 : Int32) (z0_13 : Int32) (z0_18 : Int32) (z0_39 : Int32) (z2_40 : Int32) (z3_41 : Int32) : Option ((Nat → Int32)) := ck 336 (z2_40 + z3_41) ((if (v_l (z2_40 + z3_41).toNatClampNeg) ≤ z0_39 then j_X10_meetBy_149 p2 v_stands x4_2 x5_4 z0_8 z0_13 z0_18  else j_X10_meetBy_150 p2 v_stands x4_2 x5_4 z0_8 z0_13 z0_18 (nI 1)))
def j_X10_meetBy_104 (p1 : Int32) (p2 : Int32) (p3 : Int32) (v_l : Nat → Int32) (v_stands : Nat → Int32) (x4_2 : Int32) (x5_4 : Int32) (z0_8 : Int32) (z0_13 : Int32) (z0_18 : Int32) : Option ((Nat → Int32)) := (if z0_13 = z0_18 then j_X10_meetBy_149 p2 v_stands x4_2 x5_4 z0_8 z0_13 z0_18  else bd1 (D_X10_draw p1 p2 p3 (nI 4)) (fun r_37 => (if z0_8 = 0 then j_X10_meetBy_140 p2 v_l v_stands x4_2 x5_4 z0_8 z0_13 z0_18 (r_37 - r_37 / (nI 10) * (nI 10)) (nI 300) (nI 0) else j_X10_meetBy_140 p2 v_l v_stands x4_2 x5_4 z0_8 z0_13 z0_18 (r_37 - r_37 / (nI 10) * (nI 10)) (nI 300) (nI 1))))
def j_X10_meetBy_76 (p1 : Int32) (p2 : Int32) (p3 : Int32) (v_l : Nat → Int32) (v_stands : Nat → Int32) (x4_2 : Int32) (x5_4 : Int32) (z0_8 : Int32) (z0_13 : Int32) : Option ((Nat → Int32)) := bd1 (D_X10_draw p1 p2 p3 (nI 3)) (fun r_14 => ck 336 (nI 299) (dz (v_l (nI 299).toNatClampNeg) ((if x5_4 ≤ (r_14 - r_14 / (v_l (nI 299).toNatClampNeg) * (v_l (nI 299).toNatClampNeg)) then j_X10_meetBy_104 p1 p2 p3 v_l v_stands x4_2 x5_4 z0_8 z0_13 (nI 1) else j_X10_meetBy_104 p1 p2 p3 v_l v_stands x4_2 x5_4 z0_8 z0_13 (nI 0)))))
def j_X10_meetBy_48 (p1 : Int32) (p2 : Int32) (p3 : Int32) (v_l : Nat → Int32) (v_stands : Nat → Int32) (x4_2 : Int32) (x5_4 : Int32) (z0_8 : Int32) : Option ((Nat → Int32)) := bd1 (D_X10_draw p1 p2 p3 (nI 2)) (fun r_9 => ck 336 (nI 298) (dz (v_l (nI 298).toNatClampNeg) ((if x4_2 ≤ (r_9 - r_9 / (v_l (nI 298).toNatClampNeg) * (v_l (nI 298).toNatClampNeg)) then j_X10_meetBy_76 p1 p2 p3 v_l v_stands x4_2 x5_4 z0_8 (nI 0) else j_X10_meetBy_76 p1 p2 p3 v_l v_stands x4_2 x5_4 z0_8 (nI 1)))))
def D_X10_meetBy (p1 : Int32) (p2 : Int32) (p3 : Int32) (v_l : Nat → Int32) (v_stands : Nat → Int32) : Option ((Nat → Int32)) := ck 16 ((nI 2) * p2) (nm (v_stands ((nI 2) * p2).toNatClampNeg) (fun x4_2 => ck 16 (((nI 2) * p2) + (nI 1)) (nm (v_stands (((nI 2) * p2) + (nI 1)).toNatClampNeg) (fun x5_4 => bd1 (D_X10_draw p1 p2 p3 (nI 1)) (fun r_5 => ck 336 (nI 302) ((if (v_l (nI 302).toNatClampNeg) ≤ (r_5 - r_5 / (nI 10) * (nI 10)) then j_X10_meetBy_48 p1 p2 p3 v_l v_stands x4_2 x5_4 (nI 0) else j_X10_meetBy_48 p1 p2 p3 v_l v_stands x4_2 x5_4 (nI 1))))))))
abbrev rm_X10_meetBy : Room := { frames := 1, cells := 0, slots := 0, locals := 25 }
set_option maxHeartbeats 4000000 in
set_option maxRecDepth 100000 in
theorem c_X10_meetBy (l : Launch) (D : va_G) (ca : Nat → ClassId) (sz : Nat) (q_this q_text q_read q_l q_stands q_kept q_one q_two q_ways q_now q_then : Nat) (p1 : Int32) (p2 : Int32) (p3 : Int32) (v_size : Int32) (v_at : Int32) (v_keptMany : Int32) (v_l : Nat → Int32) (v_stands : Nat → Int32) (o_stands : Nat → Int32) (h : D_X10_meetBy p1 p2 p3 v_l v_stands = some (o_stands)) : Met l yX10_meetBy wsX10_meetBy rm_X10_meetBy (va_Pc [.ref q_this, .int p1, .int p2, .int p3] (kPre D ca [(q_this, .inr (8, [.ref q_text, .int v_size, .int v_at, .ref q_read, .ref q_l, .ref q_stands, .ref q_kept, .int v_keptMany, .ref q_one, .ref q_two, .ref q_ways, .ref q_now, .ref q_then])), (q_l, .inl (ca 0, 336, .inl v_l)), (q_stands, .inl (ca 0, 16, .inl v_stands))] sz)) (kQv D ca (va_A [(q_this, .inr (8, [.ref q_text, .int v_size, .int v_at, .ref q_read, .ref q_l, .ref q_stands, .ref q_kept, .int v_keptMany, .ref q_one, .ref q_two, .ref q_ways, .ref q_now, .ref q_then])), (q_l, .inl (ca 0, 336, .inl v_l)), (q_stands, .inl (ca 0, 16, .inl v_stands))] sz) [(q_this, .inr (8, [.ref q_text, .int v_size, .int v_at, .ref q_read, .ref q_l, .ref q_stands, .ref q_kept, .int v_keptMany, .ref q_one, .ref q_two, .ref q_ways, .ref q_now, .ref q_then])), (q_l, .inl (ca 0, 336, .inl v_l)), (q_stands, .inl (ca 0, 16, .inl o_stands))]) 0 0 (va_A [(q_this, .inr (8, [.ref q_text, .int v_size, .int v_at, .ref q_read, .ref q_l, .ref q_stands, .ref q_kept, .int v_keptMany, .ref q_one, .ref q_two, .ref q_ways, .ref q_now, .ref q_then])), (q_l, .inl (ca 0, 336, .inl v_l)), (q_stands, .inl (ca 0, 16, .inl v_stands))] sz) := by
  refine Met.ofW (cc := cX10_meetBy) (maxL := 10) (ret := none) (by decide +kernel) rfl ?_
  intro p e s m args below meth c s₁ B hml hv
  obtain ⟨rfl, hsz, hP, hK, hD0⟩ := hv
  have hx := B.exec
  have hb := B.bytes
  have hr := B.returns
  have hts := atoms_spec (ws := wsX10_meetBy) B.pre
  have hown : s.vm.findClass RX10 = some m.cls := findClass_of_methodNamed B.named
  have hlocks := B.notSynchronized
  clear B
  subst hsz
  have hD := hD0.self (sz := s.heap.size)
  generalize hAe : va_A [(q_this, .inr (8, [.ref q_text, .int v_size, .int v_at, .ref q_read, .ref q_l, .ref q_stands, .ref q_kept, .int v_keptMany, .ref q_one, .ref q_two, .ref q_ways, .ref q_now, .ref q_then])), (q_l, .inl (ca 0, 336, .inl v_l)), (q_stands, .inl (ca 0, 16, .inl v_stands))] s.heap.size = A at hD ⊢
  have hA : ∀ q : Nat, s.heap.size ≤ q → A q := fun q h => by rw [← hAe]; exact Or.inr h
  have hS : va_S A s.heap s.heap [] := va_S.rf
  have hl := lv_entry ([.ref q_this, .int p1, .int p2, .int p3]) (n := 10) (Nat.le_of_ble_eq_true rfl)
  rw [lg_entry_eq]
  generalize (lg_sl ([.ref q_this, .int p1, .int p2, .int p3]) ++ List.replicate (10 - (lg_sl ([.ref q_this, .int p1, .int p2, .int p3])).length) Slot.unset).toArray = ls at hl ⊢
  have hl : lv_has ls 10 [(0, .ref q_this), (1, .int p1), (2, .int p2), (3, .int p3)] := hl
  generalize ([.ref q_this, .int p1, .int p2, .int p3] : List Value).toArray = args at hts ⊢
  generalize hQe : MQ below (kQv D ca (A) [(q_this, .inr (8, [.ref q_text, .int v_size, .int v_at, .ref q_read, .ref q_l, .ref q_stands, .ref q_kept, .int v_keptMany, .ref q_one, .ref q_two, .ref q_ways, .ref q_now, .ref q_then])), (q_l, .inl (ca 0, 336, .inl v_l)), (q_stands, .inl (ca 0, 16, .inl o_stands))]) args s 0 0 A = Q
  have i_X10 : ∀ w ∈ u_ws RX10 TX10 13, w ∈ wsX10_meetBy := by decide +kernel
  have k_19 := hts (.fieldLink RX10 19 "TradeWordsModel" "stands" "[I") (by decide +kernel)
  have k_16 := hts (.fieldLink RX10 16 "TradeWordsModel" "l" "[I") (by decide +kernel)
  rw [D_X10_meetBy] at h
  refine lv_aload_n hx hb dX10_meetBy_0 rfl (lv_at hl 0 rfl) ?_
  refine va_get (D := D) (ci := 8) (v := .ref q_stands) (C := RX10) (T := TX10) (N := 13) hx hb hts i_X10 hown hK hP 0 rfl rfl 5 (by decide) k_19 (fun _ h9 => h9) rfl dX10_meetBy_1 ?_
  refine lv_iconst (v := (nI 2)) hx hb dX10_meetBy_4 (by decide) ?_
  refine lv_iload_n hx hb dX10_meetBy_5 rfl (lv_at hl 2 rfl) ?_
  refine lv_imul hx hb dX10_meetBy_6 ?_
  obtain ⟨hi_1, h⟩ := ck_el h
  refine va_iald hx hb hK hP 2 0 rfl rfl hi_1 dX10_meetBy_7 ?_
  refine lv_nmi h (fun x4_2 h => ?_)
  refine lv_istore (lv' := [(4, .int x4_2), (0, .ref q_this), (1, .int p1), (2, .int p2), (3, .int p3)]) hx hb dX10_meetBy_8 hl (by decide) rfl (fun ls hl => ?_)
  refine lv_aload_n hx hb dX10_meetBy_10 rfl (lv_at hl 1 rfl) ?_
  refine va_get (D := D) (ci := 8) (v := .ref q_stands) (C := RX10) (T := TX10) (N := 13) hx hb hts i_X10 hown hK hP 0 rfl rfl 5 (by decide) k_19 (fun _ h9 => h9) rfl dX10_meetBy_11 ?_
  refine lv_iconst (v := (nI 2)) hx hb dX10_meetBy_14 (by decide) ?_
  refine lv_iload_n hx hb dX10_meetBy_15 rfl (lv_at hl 3 rfl) ?_
  refine lv_imul hx hb dX10_meetBy_16 ?_
  refine lv_iconst (v := (nI 1)) hx hb dX10_meetBy_17 (by decide) ?_
  refine lv_iadd hx hb dX10_meetBy_18 ?_
  obtain ⟨hi_3, h⟩ := ck_el h
  refine va_iald hx hb hK hP 2 0 rfl rfl hi_3 dX10_meetBy_19 ?_
  refine lv_nmi h (fun x5_4 h => ?_)
  refine lv_istore (lv' := [(5, .int x5_4), (4, .int x4_2), (0, .ref q_this), (1, .int p1), (2, .int p2), (3, .int p3)]) hx hb dX10_meetBy_20 hl (by decide) rfl (fun ls hl => ?_)
  refine lv_iload_n hx hb dX10_meetBy_22 rfl (lv_at hl 3 rfl) ?_
  refine lv_iload_n hx hb dX10_meetBy_23 rfl (lv_at hl 4 rfl) ?_
  refine lv_iload_n hx hb dX10_meetBy_24 rfl (lv_at hl 5 rfl) ?_
  refine lv_iconst (v := (nI 1)) hx hb dX10_meetBy_25 (by decide) ?_
  obtain ⟨r_5, hg_6, h⟩ := bd1_el h
  refine kx_Si (As := [.int p1, .int p2, .int p3, .int (nI 1)]) (rest := []) (wr := [(q_this, .inr (8, [.ref q_text, .int v_size, .int v_at, .ref q_read, .ref q_l, .ref q_stands, .ref q_kept, .int v_keptMany, .ref q_one, .ref q_two, .ref q_ways, .ref q_now, .ref q_then])), (q_l, .inl (ca 0, 336, .inl v_l)), (q_stands, .inl (ca 0, 16, .inl v_stands))]) (w1 := []) (wn := [(q_this, .inr (8, [.ref q_text, .int v_size, .int v_at, .ref q_read, .ref q_l, .ref q_stands, .ref q_kept, .int v_keptMany, .ref q_one, .ref q_two, .ref q_ways, .ref q_now, .ref q_then])), (q_l, .inl (ca 0, 336, .inl v_l)), (q_stands, .inl (ca 0, 16, .inl v_stands))]) ⟨hx, hb, hml, hown, hts⟩ (c_X10_draw l D ca s.heap.size p1 p2 p3 (nI 1) r_5 hg_6) (va_cwS 4 hts gX10_meetBy_X10_draw rfl rfl rfl (by decide +kernel) ⟨(Nat.le_of_ble_eq_true rfl), (Nat.le_of_ble_eq_true rfl)⟩) hK hP hD hS hA [] [0, 1, 2] [0, 1, 2] rfl rfl rfl rfl (by decide) rfl rfl rfl hl.1 rfl (Nat.le_of_ble_eq_true rfl) dX10_meetBy_26 ⟨Nat.zero_le _, Nat.zero_le _⟩ (fun H locs hP hD hS => ?_)
  refine lv_bipush (v := (nI 10)) hx hb dX10_meetBy_29 (by decide) ?_
  refine lv_irem hx hb dX10_meetBy_31 (by decide) ?_
  refine lv_aload_n hx hb dX10_meetBy_32 rfl (lv_at hl 2 rfl) ?_
  refine va_get (D := D) (ci := 8) (v := .ref q_l) (C := RX10) (T := TX10) (N := 13) hx hb hts i_X10 hown hK hP 0 rfl rfl 4 (by decide) k_16 (fun _ h9 => h9) rfl dX10_meetBy_33 ?_
  refine lv_sipush (v := (nI 302)) hx hb dX10_meetBy_36 (by decide) ?_
  obtain ⟨hi_7, h⟩ := ck_el h
  refine va_iald hx hb hK hP 1 0 rfl rfl hi_7 dX10_meetBy_39 ?_
  have hj_48 : ∀ (z0_8 : Int32) (H : Heap) (locs : List Loc) (ls : Array Slot), j_X10_meetBy_48 p1 p2 p3 v_l v_stands x4_2 x5_4 z0_8 = some (o_stands) → va_P D vwCl [(q_this, .inr (8, [.ref q_text, .int v_size, .int v_at, .ref q_read, .ref q_l, .ref q_stands, .ref q_kept, .int v_keptMany, .ref q_one, .ref q_two, .ref q_ways, .ref q_now, .ref q_then])), (q_l, .inl (ca 0, 336, .inl v_l)), (q_stands, .inl (ca 0, 16, .inl v_stands))] H → va_D A [(q_this, .inr (8, [.ref q_text, .int v_size, .int v_at, .ref q_read, .ref q_l, .ref q_stands, .ref q_kept, .int v_keptMany, .ref q_one, .ref q_two, .ref q_ways, .ref q_now, .ref q_then])), (q_l, .inl (ca 0, 336, .inl v_l)), (q_stands, .inl (ca 0, 16, .inl v_stands))] → va_S A s.heap H locs → lv_has ls 10 [(0, .ref q_this), (1, .int p1), (2, .int p2), (3, .int p3), (4, .int x4_2), (5, .int x5_4)] → W p l e (headSpec wsX10_meetBy rm_X10_meetBy).room s m args below meth c H locs 0 0 Q (F0 m 48 ls [.int z0_8]) := by
    intro z0_8 H locs ls h hP hD hS hl
    rw [j_X10_meetBy_48] at h
    refine lv_istore (lv' := [(6, .int z0_8), (0, .ref q_this), (1, .int p1), (2, .int p2), (3, .int p3), (4, .int x4_2), (5, .int x5_4)]) hx hb dX10_meetBy_48 hl (by decide) rfl (fun ls hl => ?_)
    refine lv_iload_n hx hb dX10_meetBy_50 rfl (lv_at hl 2 rfl) ?_
    refine lv_iload_n hx hb dX10_meetBy_51 rfl (lv_at hl 3 rfl) ?_
    refine lv_iload_n hx hb dX10_meetBy_52 rfl (lv_at hl 4 rfl) ?_
    refine lv_iconst (v := (nI 2)) hx hb dX10_meetBy_53 (by decide) ?_
    obtain ⟨r_9, hg_10, h⟩ := bd1_el h
    refine kx_Si (As := [.int p1, .int p2, .int p3, .int (nI 2)]) (rest := []) (wr := [(q_this, .inr (8, [.ref q_text, .int v_size, .int v_at, .ref q_read, .ref q_l, .ref q_stands, .ref q_kept, .int v_keptMany, .ref q_one, .ref q_two, .ref q_ways, .ref q_now, .ref q_then])), (q_l, .inl (ca 0, 336, .inl v_l)), (q_stands, .inl (ca 0, 16, .inl v_stands))]) (w1 := []) (wn := [(q_this, .inr (8, [.ref q_text, .int v_size, .int v_at, .ref q_read, .ref q_l, .ref q_stands, .ref q_kept, .int v_keptMany, .ref q_one, .ref q_two, .ref q_ways, .ref q_now, .ref q_then])), (q_l, .inl (ca 0, 336, .inl v_l)), (q_stands, .inl (ca 0, 16, .inl v_stands))]) ⟨hx, hb, hml, hown, hts⟩ (c_X10_draw l D ca H.size p1 p2 p3 (nI 2) r_9 hg_10) (va_cwS 4 hts gX10_meetBy_X10_draw rfl rfl rfl (by decide +kernel) ⟨(Nat.le_of_ble_eq_true rfl), (Nat.le_of_ble_eq_true rfl)⟩) hK hP hD hS hA [] [0, 1, 2] [0, 1, 2] rfl rfl rfl rfl (by decide) rfl rfl rfl hl.1 rfl (Nat.le_of_ble_eq_true rfl) dX10_meetBy_54 ⟨Nat.zero_le _, Nat.zero_le _⟩ (fun H locs hP hD hS => ?_)
    refine lv_aload_n hx hb dX10_meetBy_57 rfl (lv_at hl 1 rfl) ?_
    refine va_get (D := D) (ci := 8) (v := .ref q_l) (C := RX10) (T := TX10) (N := 13) hx hb hts i_X10 hown hK hP 0 rfl rfl 4 (by decide) k_16 (fun _ h9 => h9) rfl dX10_meetBy_58 ?_
    refine lv_sipush (v := (nI 298)) hx hb dX10_meetBy_61 (by decide) ?_
    obtain ⟨hi_11, h⟩ := ck_el h
    refine va_iald hx hb hK hP 1 0 rfl rfl hi_11 dX10_meetBy_64 ?_
    obtain ⟨hn_12, h⟩ := dz_el h
    refine lv_irem hx hb dX10_meetBy_65 hn_12 ?_
    refine lv_iload hx hb dX10_meetBy_66 (lv_at hl 5 rfl) ?_
    have hj_76 : ∀ (z0_13 : Int32) (H : Heap) (locs : List Loc) (ls : Array Slot), j_X10_meetBy_76 p1 p2 p3 v_l v_stands x4_2 x5_4 z0_8 z0_13 = some (o_stands) → va_P D vwCl [(q_this, .inr (8, [.ref q_text, .int v_size, .int v_at, .ref q_read, .ref q_l, .ref q_stands, .ref q_kept, .int v_keptMany, .ref q_one, .ref q_two, .ref q_ways, .ref q_now, .ref q_then])), (q_l, .inl (ca 0, 336, .inl v_l)), (q_stands, .inl (ca 0, 16, .inl v_stands))] H → va_D A [(q_this, .inr (8, [.ref q_text, .int v_size, .int v_at, .ref q_read, .ref q_l, .ref q_stands, .ref q_kept, .int v_keptMany, .ref q_one, .ref q_two, .ref q_ways, .ref q_now, .ref q_then])), (q_l, .inl (ca 0, 336, .inl v_l)), (q_stands, .inl (ca 0, 16, .inl v_stands))] → va_S A s.heap H locs → lv_has ls 10 [(0, .ref q_this), (1, .int p1), (2, .int p2), (3, .int p3), (4, .int x4_2), (5, .int x5_4), (6, .int z0_8)] → W p l e (headSpec wsX10_meetBy rm_X10_meetBy).room s m args below meth c H locs 0 0 Q (F0 m 76 ls [.int z0_13]) := by
      intro z0_13 H locs ls h hP hD hS hl
      rw [j_X10_meetBy_76] at h
      refine lv_istore (lv' := [(7, .int z0_13), (0, .ref q_this), (1, .int p1), (2, .int p2), (3, .int p3), (4, .int x4_2), (5, .int x5_4), (6, .int z0_8)]) hx hb dX10_meetBy_76 hl (by decide) rfl (fun ls hl => ?_)
      refine lv_iload_n hx hb dX10_meetBy_78 rfl (lv_at hl 2 rfl) ?_
      refine lv_iload_n hx hb dX10_meetBy_79 rfl (lv_at hl 3 rfl) ?_
      refine lv_iload_n hx hb dX10_meetBy_80 rfl (lv_at hl 4 rfl) ?_
      refine lv_iconst (v := (nI 3)) hx hb dX10_meetBy_81 (by decide) ?_
      obtain ⟨r_14, hg_15, h⟩ := bd1_el h
      refine kx_Si (As := [.int p1, .int p2, .int p3, .int (nI 3)]) (rest := []) (wr := [(q_this, .inr (8, [.ref q_text, .int v_size, .int v_at, .ref q_read, .ref q_l, .ref q_stands, .ref q_kept, .int v_keptMany, .ref q_one, .ref q_two, .ref q_ways, .ref q_now, .ref q_then])), (q_l, .inl (ca 0, 336, .inl v_l)), (q_stands, .inl (ca 0, 16, .inl v_stands))]) (w1 := []) (wn := [(q_this, .inr (8, [.ref q_text, .int v_size, .int v_at, .ref q_read, .ref q_l, .ref q_stands, .ref q_kept, .int v_keptMany, .ref q_one, .ref q_two, .ref q_ways, .ref q_now, .ref q_then])), (q_l, .inl (ca 0, 336, .inl v_l)), (q_stands, .inl (ca 0, 16, .inl v_stands))]) ⟨hx, hb, hml, hown, hts⟩ (c_X10_draw l D ca H.size p1 p2 p3 (nI 3) r_14 hg_15) (va_cwS 4 hts gX10_meetBy_X10_draw rfl rfl rfl (by decide +kernel) ⟨(Nat.le_of_ble_eq_true rfl), (Nat.le_of_ble_eq_true rfl)⟩) hK hP hD hS hA [] [0, 1, 2] [0, 1, 2] rfl rfl rfl rfl (by decide) rfl rfl rfl hl.1 rfl (Nat.le_of_ble_eq_true rfl) dX10_meetBy_82 ⟨Nat.zero_le _, Nat.zero_le _⟩ (fun H locs hP hD hS => ?_)
      refine lv_aload_n hx hb dX10_meetBy_85 rfl (lv_at hl 1 rfl) ?_
      refine va_get (D := D) (ci := 8) (v := .ref q_l) (C := RX10) (T := TX10) (N := 13) hx hb hts i_X10 hown hK hP 0 rfl rfl 4 (by decide) k_16 (fun _ h9 => h9) rfl dX10_meetBy_86 ?_
      refine lv_sipush (v := (nI 299)) hx hb dX10_meetBy_89 (by decide) ?_
      obtain ⟨hi_16, h⟩ := ck_el h
      refine va_iald hx hb hK hP 1 0 rfl rfl hi_16 dX10_meetBy_92 ?_
      obtain ⟨hn_17, h⟩ := dz_el h
      refine lv_irem hx hb dX10_meetBy_93 hn_17 ?_
      refine lv_iload hx hb dX10_meetBy_94 (lv_at hl 6 rfl) ?_
      have hj_104 : ∀ (z0_18 : Int32) (H : Heap) (locs : List Loc) (ls : Array Slot), j_X10_meetBy_104 p1 p2 p3 v_l v_stands x4_2 x5_4 z0_8 z0_13 z0_18 = some (o_stands) → va_P D vwCl [(q_this, .inr (8, [.ref q_text, .int v_size, .int v_at, .ref q_read, .ref q_l, .ref q_stands, .ref q_kept, .int v_keptMany, .ref q_one, .ref q_two, .ref q_ways, .ref q_now, .ref q_then])), (q_l, .inl (ca 0, 336, .inl v_l)), (q_stands, .inl (ca 0, 16, .inl v_stands))] H → va_D A [(q_this, .inr (8, [.ref q_text, .int v_size, .int v_at, .ref q_read, .ref q_l, .ref q_stands, .ref q_kept, .int v_keptMany, .ref q_one, .ref q_two, .ref q_ways, .ref q_now, .ref q_then])), (q_l, .inl (ca 0, 336, .inl v_l)), (q_stands, .inl (ca 0, 16, .inl v_stands))] → va_S A s.heap H locs → lv_has ls 10 [(0, .ref q_this), (1, .int p1), (2, .int p2), (3, .int p3), (4, .int x4_2), (5, .int x5_4), (6, .int z0_8), (7, .int z0_13)] → W p l e (headSpec wsX10_meetBy rm_X10_meetBy).room s m args below meth c H locs 0 0 Q (F0 m 104 ls [.int z0_18]) := by
        intro z0_18 H locs ls h hP hD hS hl
        rw [j_X10_meetBy_104] at h
        refine lv_istore (lv' := [(8, .int z0_18), (0, .ref q_this), (1, .int p1), (2, .int p2), (3, .int p3), (4, .int x4_2), (5, .int x5_4), (6, .int z0_8), (7, .int z0_13)]) hx hb dX10_meetBy_104 hl (by decide) rfl (fun ls hl => ?_)
        refine lv_iload hx hb dX10_meetBy_106 (lv_at hl 8 rfl) ?_
        refine lv_iload hx hb dX10_meetBy_108 (lv_at hl 0 rfl) ?_
        have hj_150 : ∀ (z0_19 : Int32) (H : Heap) (locs : List Loc) (ls : Array Slot), j_X10_meetBy_150 p2 v_stands x4_2 x5_4 z0_8 z0_13 z0_18 z0_19 = some (o_stands) → va_P D vwCl [(q_this, .inr (8, [.ref q_text, .int v_size, .int v_at, .ref q_read, .ref q_l, .ref q_stands, .ref q_kept, .int v_keptMany, .ref q_one, .ref q_two, .ref q_ways, .ref q_now, .ref q_then])), (q_l, .inl (ca 0, 336, .inl v_l)), (q_stands, .inl (ca 0, 16, .inl v_stands))] H → va_D A [(q_this, .inr (8, [.ref q_text, .int v_size, .int v_at, .ref q_read, .ref q_l, .ref q_stands, .ref q_kept, .int v_keptMany, .ref q_one, .ref q_two, .ref q_ways, .ref q_now, .ref q_then])), (q_l, .inl (ca 0, 336, .inl v_l)), (q_stands, .inl (ca 0, 16, .inl v_stands))] → va_S A s.heap H locs → lv_has ls 10 [(0, .ref q_this), (2, .int p2), (4, .int x4_2), (5, .int x5_4), (6, .int z0_8), (7, .int z0_13), (8, .int z0_18)] → W p l e (headSpec wsX10_meetBy rm_X10_meetBy).room s m args below meth c H locs 0 0 Q (F0 m 150 ls [.int z0_19]) := by
          intro z0_19 H locs ls h hP hD hS hl
          rw [j_X10_meetBy_150] at h
          refine lv_istore (lv' := [(9, .int z0_19), (0, .ref q_this), (2, .int p2), (4, .int x4_2), (5, .int x5_4), (6, .int z0_8), (7, .int z0_13), (8, .int z0_18)]) hx hb dX10_meetBy_150 hl (by decide) rfl (fun ls hl => ?_)
          refine lv_iload hx hb dX10_meetBy_152 (lv_at hl 0 rfl) ?_
          have hj_185 : ∀ (y_stands_20 : Nat → Int32) (H : Heap) (locs : List Loc) (ls : Array Slot), j_X10_meetBy_185 p2 x4_2 z0_8 z0_18 z0_19 y_stands_20 = some (o_stands) → va_P D vwCl [(q_this, .inr (8, [.ref q_text, .int v_size, .int v_at, .ref q_read, .ref q_l, .ref q_stands, .ref q_kept, .int v_keptMany, .ref q_one, .ref q_two, .ref q_ways, .ref q_now, .ref q_then])), (q_l, .inl (ca 0, 336, .inl v_l)), (q_stands, .inl (ca 0, 16, .inl y_stands_20))] H → va_D A [(q_this, .inr (8, [.ref q_text, .int v_size, .int v_at, .ref q_read, .ref q_l, .ref q_stands, .ref q_kept, .int v_keptMany, .ref q_one, .ref q_two, .ref q_ways, .ref q_now, .ref q_then])), (q_l, .inl (ca 0, 336, .inl v_l)), (q_stands, .inl (ca 0, 16, .inl y_stands_20))] → va_S A s.heap H locs → lv_has ls 10 [(0, .ref q_this), (2, .int p2), (4, .int x4_2), (6, .int z0_8), (8, .int z0_18), (9, .int z0_19)] → W p l e (headSpec wsX10_meetBy rm_X10_meetBy).room s m args below meth c H locs 0 0 Q (F0 m 185 ls []) := by
            intro y_stands_20 H locs ls h hP hD hS hl
            rw [j_X10_meetBy_185] at h
            refine lv_iload hx hb dX10_meetBy_185 (lv_at hl 5 rfl) ?_
            refine lv_if_eq (tgt := 217) hx hb dX10_meetBy_187 (by decide) (fun c_21 => ?_) (fun c_21 => ?_)
            · replace h := ifp_el c_21 h
              cases h
              rw [← hQe]
              exact W.vret hx hb hr (fun t ht hW => ⟨⟨(), rfl, trivial, by rw [ht]; exact hP, va_K.moved hW.alike hK, hD⟩, hS.F ht⟩) hS.2.2 dX10_meetBy_217
            · replace h := ifn_el c_21 h
              refine lv_iload hx hb dX10_meetBy_190 (lv_at hl 3 rfl) ?_
              refine lv_if_ne (tgt := 217) hx hb dX10_meetBy_192 (by decide) (fun c_22 => ?_) (fun c_22 => ?_)
              · replace h := ifn_el c_22 h
                cases h
                rw [← hQe]
                exact W.vret hx hb hr (fun t ht hW => ⟨⟨(), rfl, trivial, by rw [ht]; exact hP, va_K.moved hW.alike hK, hD⟩, hS.F ht⟩) hS.2.2 dX10_meetBy_217
              · replace h := ifp_el c_22 h
                refine lv_aload_n hx hb dX10_meetBy_195 rfl (lv_at hl 0 rfl) ?_
                refine va_get (D := D) (ci := 8) (v := .ref q_stands) (C := RX10) (T := TX10) (N := 13) hx hb hts i_X10 hown hK hP 0 rfl rfl 5 (by decide) k_19 (fun _ h9 => h9) rfl dX10_meetBy_196 ?_
                refine lv_iconst (v := (nI 2)) hx hb dX10_meetBy_199 (by decide) ?_
                refine lv_iload_n hx hb dX10_meetBy_200 rfl (lv_at hl 1 rfl) ?_
                refine lv_imul hx hb dX10_meetBy_201 ?_
                refine lv_iload hx hb dX10_meetBy_202 (lv_at hl 2 rfl) ?_
                refine lv_iload hx hb dX10_meetBy_204 (lv_at hl 4 rfl) ?_
                refine lv_iconst (v := (nI 1)) hx hb dX10_meetBy_206 (by decide) ?_
                refine lv_icmp_ne (tgt := 214) hx hb dX10_meetBy_207 (by decide) (fun c_23 => ?_) (fun c_23 => ?_)
                · replace h := ifn_el c_23 h
                  refine lv_iconst (v := (-1 : Int32)) hx hb dX10_meetBy_214 (by decide) ?_
                  refine lv_iadd hx hb dX10_meetBy_215 ?_
                  refine lv_nmi h (fun w_24 h => ?_)
                  obtain ⟨hi_25, h⟩ := ck_el h
                  refine va_iast hx hb hK hP hD hS 2 0 rfl rfl hi_25 dX10_meetBy_216 (fun H locs hP hD hS => ?_)
                  have hP : va_P D vwCl [(q_this, .inr (8, [.ref q_text, .int v_size, .int v_at, .ref q_read, .ref q_l, .ref q_stands, .ref q_kept, .int v_keptMany, .ref q_one, .ref q_two, .ref q_ways, .ref q_now, .ref q_then])), (q_l, .inl (ca 0, 336, .inl v_l)), (q_stands, .inl (ca 0, 16, .inl (upd y_stands_20 ((nI 2) * p2).toNatClampNeg w_24)))] H := hP
                  have hD : va_D A [(q_this, .inr (8, [.ref q_text, .int v_size, .int v_at, .ref q_read, .ref q_l, .ref q_stands, .ref q_kept, .int v_keptMany, .ref q_one, .ref q_two, .ref q_ways, .ref q_now, .ref q_then])), (q_l, .inl (ca 0, 336, .inl v_l)), (q_stands, .inl (ca 0, 16, .inl (upd y_stands_20 ((nI 2) * p2).toNatClampNeg w_24)))] := hD
                  cases h
                  rw [← hQe]
                  exact W.vret hx hb hr (fun t ht hW => ⟨⟨(), rfl, trivial, by rw [ht]; exact hP, va_K.moved hW.alike hK, hD⟩, hS.F ht⟩) hS.2.2 dX10_meetBy_217
                · replace h := ifp_el c_23 h
                  refine lv_iconst (v := (nI 1)) hx hb dX10_meetBy_210 (by decide) ?_
                  refine lv_goto (tgt := 215) hx hb dX10_meetBy_211 (by decide) ?_
                  refine lv_iadd hx hb dX10_meetBy_215 ?_
                  refine lv_nmi h (fun w_26 h => ?_)
                  obtain ⟨hi_27, h⟩ := ck_el h
                  refine va_iast hx hb hK hP hD hS 2 0 rfl rfl hi_27 dX10_meetBy_216 (fun H locs hP hD hS => ?_)
                  have hP : va_P D vwCl [(q_this, .inr (8, [.ref q_text, .int v_size, .int v_at, .ref q_read, .ref q_l, .ref q_stands, .ref q_kept, .int v_keptMany, .ref q_one, .ref q_two, .ref q_ways, .ref q_now, .ref q_then])), (q_l, .inl (ca 0, 336, .inl v_l)), (q_stands, .inl (ca 0, 16, .inl (upd y_stands_20 ((nI 2) * p2).toNatClampNeg w_26)))] H := hP
                  have hD : va_D A [(q_this, .inr (8, [.ref q_text, .int v_size, .int v_at, .ref q_read, .ref q_l, .ref q_stands, .ref q_kept, .int v_keptMany, .ref q_one, .ref q_two, .ref q_ways, .ref q_now, .ref q_then])), (q_l, .inl (ca 0, 336, .inl v_l)), (q_stands, .inl (ca 0, 16, .inl (upd y_stands_20 ((nI 2) * p2).toNatClampNeg w_26)))] := hD
                  cases h
                  rw [← hQe]
                  exact W.vret hx hb hr (fun t ht hW => ⟨⟨(), rfl, trivial, by rw [ht]; exact hP, va_K.moved hW.alike hK, hD⟩, hS.F ht⟩) hS.2.2 dX10_meetBy_217
          refine lv_if_eq (tgt := 185) hx hb dX10_meetBy_154 (by decide) (fun c_28 => ?_) (fun c_28 => ?_)
          · replace h := ifp_el c_28 h
            exact hj_185 _ _ _ _ h hP hD hS (lv_sub hl [1, 2, 3, 5, 7, 0] rfl)
          · replace h := ifn_el c_28 h
            refine lv_iload hx hb dX10_meetBy_157 (lv_at hl 5 rfl) ?_
            refine lv_if_eq (tgt := 185) hx hb dX10_meetBy_159 (by decide) (fun c_29 => ?_) (fun c_29 => ?_)
            · replace h := ifp_el c_29 h
              exact hj_185 _ _ _ _ h hP hD hS (lv_sub hl [1, 2, 3, 5, 7, 0] rfl)
            · replace h := ifn_el c_29 h
              refine lv_aload_n hx hb dX10_meetBy_162 rfl (lv_at hl 1 rfl) ?_
              refine va_get (D := D) (ci := 8) (v := .ref q_stands) (C := RX10) (T := TX10) (N := 13) hx hb hts i_X10 hown hK hP 0 rfl rfl 5 (by decide) k_19 (fun _ h9 => h9) rfl dX10_meetBy_163 ?_
              refine lv_iconst (v := (nI 2)) hx hb dX10_meetBy_166 (by decide) ?_
              refine lv_iload_n hx hb dX10_meetBy_167 rfl (lv_at hl 2 rfl) ?_
              refine lv_imul hx hb dX10_meetBy_168 ?_
              refine lv_iconst (v := (nI 1)) hx hb dX10_meetBy_169 (by decide) ?_
              refine lv_iadd hx hb dX10_meetBy_170 ?_
              refine lv_iload hx hb dX10_meetBy_171 (lv_at hl 4 rfl) ?_
              refine lv_iload hx hb dX10_meetBy_173 (lv_at hl 6 rfl) ?_
              have hj_183 : ∀ (z1_30 : Int32) (z2_31 : Int32) (z3_32 : Int32) (H : Heap) (locs : List Loc) (ls : Array Slot), j_X10_meetBy_183 p2 v_stands x4_2 z0_8 z0_18 z0_19 z1_30 z2_31 z3_32 = some (o_stands) → va_P D vwCl [(q_this, .inr (8, [.ref q_text, .int v_size, .int v_at, .ref q_read, .ref q_l, .ref q_stands, .ref q_kept, .int v_keptMany, .ref q_one, .ref q_two, .ref q_ways, .ref q_now, .ref q_then])), (q_l, .inl (ca 0, 336, .inl v_l)), (q_stands, .inl (ca 0, 16, .inl v_stands))] H → va_D A [(q_this, .inr (8, [.ref q_text, .int v_size, .int v_at, .ref q_read, .ref q_l, .ref q_stands, .ref q_kept, .int v_keptMany, .ref q_one, .ref q_two, .ref q_ways, .ref q_now, .ref q_then])), (q_l, .inl (ca 0, 336, .inl v_l)), (q_stands, .inl (ca 0, 16, .inl v_stands))] → va_S A s.heap H locs → lv_has ls 10 [(0, .ref q_this), (2, .int p2), (4, .int x4_2), (6, .int z0_8), (8, .int z0_18), (9, .int z0_19)] → W p l e (headSpec wsX10_meetBy rm_X10_meetBy).room s m args below meth c H locs 0 0 Q (F0 m 183 ls [.int z3_32, .int z2_31, .int z1_30, .ref q_stands]) := by
                intro z1_30 z2_31 z3_32 H locs ls h hP hD hS hl
                rw [j_X10_meetBy_183] at h
                refine lv_iadd hx hb dX10_meetBy_183 ?_
                refine lv_nmi h (fun w_33 h => ?_)
                obtain ⟨hi_34, h⟩ := ck_el h
                refine va_iast hx hb hK hP hD hS 2 0 rfl rfl hi_34 dX10_meetBy_184 (fun H locs hP hD hS => ?_)
                have hP : va_P D vwCl [(q_this, .inr (8, [.ref q_text, .int v_size, .int v_at, .ref q_read, .ref q_l, .ref q_stands, .ref q_kept, .int v_keptMany, .ref q_one, .ref q_two, .ref q_ways, .ref q_now, .ref q_then])), (q_l, .inl (ca 0, 336, .inl v_l)), (q_stands, .inl (ca 0, 16, .inl (upd v_stands z1_30.toNatClampNeg w_33)))] H := hP
                have hD : va_D A [(q_this, .inr (8, [.ref q_text, .int v_size, .int v_at, .ref q_read, .ref q_l, .ref q_stands, .ref q_kept, .int v_keptMany, .ref q_one, .ref q_two, .ref q_ways, .ref q_now, .ref q_then])), (q_l, .inl (ca 0, 336, .inl v_l)), (q_stands, .inl (ca 0, 16, .inl (upd v_stands z1_30.toNatClampNeg w_33)))] := hD
                exact hj_185 _ _ _ _ h hP hD hS (lv_sub hl [0, 1, 2, 3, 4, 5] rfl)
              refine lv_if_ne (tgt := 182) hx hb dX10_meetBy_175 (by decide) (fun c_35 => ?_) (fun c_35 => ?_)
              · replace h := ifn_el c_35 h
                refine lv_iconst (v := (-1 : Int32)) hx hb dX10_meetBy_182 (by decide) ?_
                exact hj_183 _ _ _ _ _ _ h hP hD hS (lv_sub hl [1, 2, 3, 5, 7, 0] rfl)
              · replace h := ifp_el c_35 h
                refine lv_iconst (v := (nI 1)) hx hb dX10_meetBy_178 (by decide) ?_
                refine lv_goto (tgt := 183) hx hb dX10_meetBy_179 (by decide) ?_
                exact hj_183 _ _ _ _ _ _ h hP hD hS (lv_sub hl [1, 2, 3, 5, 7, 0] rfl)
        have hj_149 : ∀  (H : Heap) (locs : List Loc) (ls : Array Slot), j_X10_meetBy_149 p2 v_stands x4_2 x5_4 z0_8 z0_13 z0_18  = some (o_stands) → va_P D vwCl [(q_this, .inr (8, [.ref q_text, .int v_size, .int v_at, .ref q_read, .ref q_l, .ref q_stands, .ref q_kept, .int v_keptMany, .ref q_one, .ref q_two, .ref q_ways, .ref q_now, .ref q_then])), (q_l, .inl (ca 0, 336, .inl v_l)), (q_stands, .inl (ca 0, 16, .inl v_stands))] H → va_D A [(q_this, .inr (8, [.ref q_text, .int v_size, .int v_at, .ref q_read, .ref q_l, .ref q_stands, .ref q_kept, .int v_keptMany, .ref q_one, .ref q_two, .ref q_ways, .ref q_now, .ref q_then])), (q_l, .inl (ca 0, 336, .inl v_l)), (q_stands, .inl (ca 0, 16, .inl v_stands))] → va_S A s.heap H locs → lv_has ls 10 [(0, .ref q_this), (2, .int p2), (4, .int x4_2), (5, .int x5_4), (6, .int z0_8), (7, .int z0_13), (8, .int z0_18)] → W p l e (headSpec wsX10_meetBy rm_X10_meetBy).room s m args below meth c H locs 0 0 Q (F0 m 149 ls []) := by
          intro  H locs ls h hP hD hS hl
          rw [j_X10_meetBy_149] at h
          refine lv_iconst (v := (nI 0)) hx hb dX10_meetBy_149 (by decide) ?_
          exact hj_150 _ _ _ _ h hP hD hS (lv_sub hl [0, 1, 2, 3, 4, 5, 6] rfl)
        refine lv_icmp_eq (tgt := 149) hx hb dX10_meetBy_110 (by decide) (fun c_36 => ?_) (fun c_36 => ?_)
        · replace h := ifp_el c_36 h
          exact hj_149  _ _ _ h hP hD hS (lv_sub hl [1, 3, 5, 6, 7, 8, 0] rfl)
        · replace h := ifn_el c_36 h
          refine lv_iload_n hx hb dX10_meetBy_113 rfl (lv_at hl 2 rfl) ?_
          refine lv_iload_n hx hb dX10_meetBy_114 rfl (lv_at hl 3 rfl) ?_
          refine lv_iload_n hx hb dX10_meetBy_115 rfl (lv_at hl 4 rfl) ?_
          refine lv_iconst (v := (nI 4)) hx hb dX10_meetBy_116 (by decide) ?_
          obtain ⟨r_37, hg_38, h⟩ := bd1_el h
          refine kx_Si (As := [.int p1, .int p2, .int p3, .int (nI 4)]) (rest := []) (wr := [(q_this, .inr (8, [.ref q_text, .int v_size, .int v_at, .ref q_read, .ref q_l, .ref q_stands, .ref q_kept, .int v_keptMany, .ref q_one, .ref q_two, .ref q_ways, .ref q_now, .ref q_then])), (q_l, .inl (ca 0, 336, .inl v_l)), (q_stands, .inl (ca 0, 16, .inl v_stands))]) (w1 := []) (wn := [(q_this, .inr (8, [.ref q_text, .int v_size, .int v_at, .ref q_read, .ref q_l, .ref q_stands, .ref q_kept, .int v_keptMany, .ref q_one, .ref q_two, .ref q_ways, .ref q_now, .ref q_then])), (q_l, .inl (ca 0, 336, .inl v_l)), (q_stands, .inl (ca 0, 16, .inl v_stands))]) ⟨hx, hb, hml, hown, hts⟩ (c_X10_draw l D ca H.size p1 p2 p3 (nI 4) r_37 hg_38) (va_cwS 4 hts gX10_meetBy_X10_draw rfl rfl rfl (by decide +kernel) ⟨(Nat.le_of_ble_eq_true rfl), (Nat.le_of_ble_eq_true rfl)⟩) hK hP hD hS hA [] [0, 1, 2] [0, 1, 2] rfl rfl rfl rfl (by decide) rfl rfl rfl hl.1 rfl (Nat.le_of_ble_eq_true rfl) dX10_meetBy_117 ⟨Nat.zero_le _, Nat.zero_le _⟩ (fun H locs hP hD hS => ?_)
          refine lv_bipush (v := (nI 10)) hx hb dX10_meetBy_120 (by decide) ?_
          refine lv_irem hx hb dX10_meetBy_122 (by decide) ?_
          refine lv_aload_n hx hb dX10_meetBy_123 rfl (lv_at hl 1 rfl) ?_
          refine va_get (D := D) (ci := 8) (v := .ref q_l) (C := RX10) (T := TX10) (N := 13) hx hb hts i_X10 hown hK hP 0 rfl rfl 4 (by decide) k_16 (fun _ h9 => h9) rfl dX10_meetBy_124 ?_
          refine lv_sipush (v := (nI 300)) hx hb dX10_meetBy_127 (by decide) ?_
          refine lv_iload hx hb dX10_meetBy_130 (lv_at hl 7 rfl) ?_
          have hj_140 : ∀ (z0_39 : Int32) (z2_40 : Int32) (z3_41 : Int32) (H : Heap) (locs : List Loc) (ls : Array Slot), j_X10_meetBy_140 p2 v_l v_stands x4_2 x5_4 z0_8 z0_13 z0_18 z0_39 z2_40 z3_41 = some (o_stands) → va_P D vwCl [(q_this, .inr (8, [.ref q_text, .int v_size, .int v_at, .ref q_read, .ref q_l, .ref q_stands, .ref q_kept, .int v_keptMany, .ref q_one, .ref q_two, .ref q_ways, .ref q_now, .ref q_then])), (q_l, .inl (ca 0, 336, .inl v_l)), (q_stands, .inl (ca 0, 16, .inl v_stands))] H → va_D A [(q_this, .inr (8, [.ref q_text, .int v_size, .int v_at, .ref q_read, .ref q_l, .ref q_stands, .ref q_kept, .int v_keptMany, .ref q_one, .ref q_two, .ref q_ways, .ref q_now, .ref q_then])), (q_l, .inl (ca 0, 336, .inl v_l)), (q_stands, .inl (ca 0, 16, .inl v_stands))] → va_S A s.heap H locs → lv_has ls 10 [(0, .ref q_this), (2, .int p2), (4, .int x4_2), (5, .int x5_4), (6, .int z0_8), (7, .int z0_13), (8, .int z0_18)] → W p l e (headSpec wsX10_meetBy rm_X10_meetBy).room s m args below meth c H locs 0 0 Q (F0 m 140 ls [.int z3_41, .int z2_40, .ref q_l, .int z0_39]) := by
            intro z0_39 z2_40 z3_41 H locs ls h hP hD hS hl
            rw [j_X10_meetBy_140] at h
            refine lv_iadd hx hb dX10_meetBy_140 ?_
            obtain ⟨hi_42, h⟩ := ck_el h
            refine va_iald hx hb hK hP 1 0 rfl rfl hi_42 dX10_meetBy_141 ?_
            refine lv_icmp_ge (tgt := 149) hx hb dX10_meetBy_142 (by decide) (fun c_43 => ?_) (fun c_43 => ?_)
            · replace h := ifp_el c_43 h
              exact hj_149  _ _ _ h hP hD hS (lv_sub hl [0, 1, 2, 3, 4, 5, 6] rfl)
            · replace h := ifn_el c_43 h
              refine lv_iconst (v := (nI 1)) hx hb dX10_meetBy_145 (by decide) ?_
              refine lv_goto (tgt := 150) hx hb dX10_meetBy_146 (by decide) ?_
              exact hj_150 _ _ _ _ h hP hD hS (lv_sub hl [0, 1, 2, 3, 4, 5, 6] rfl)
          refine lv_if_eq (tgt := 139) hx hb dX10_meetBy_132 (by decide) (fun c_44 => ?_) (fun c_44 => ?_)
          · replace h := ifp_el c_44 h
            refine lv_iconst (v := (nI 0)) hx hb dX10_meetBy_139 (by decide) ?_
            exact hj_140 _ _ _ _ _ _ h hP hD hS (lv_sub hl [1, 3, 5, 6, 7, 8, 0] rfl)
          · replace h := ifn_el c_44 h
            refine lv_iconst (v := (nI 1)) hx hb dX10_meetBy_135 (by decide) ?_
            refine lv_goto (tgt := 140) hx hb dX10_meetBy_136 (by decide) ?_
            exact hj_140 _ _ _ _ _ _ h hP hD hS (lv_sub hl [1, 3, 5, 6, 7, 8, 0] rfl)
      refine lv_icmp_ge (tgt := 103) hx hb dX10_meetBy_96 (by decide) (fun c_45 => ?_) (fun c_45 => ?_)
      · replace h := ifp_el c_45 h
        refine lv_iconst (v := (nI 1)) hx hb dX10_meetBy_103 (by decide) ?_
        exact hj_104 _ _ _ _ h hP hD hS (lv_sub hl [1, 2, 3, 4, 5, 6, 7, 0] rfl)
      · replace h := ifn_el c_45 h
        refine lv_iconst (v := (nI 0)) hx hb dX10_meetBy_99 (by decide) ?_
        refine lv_goto (tgt := 104) hx hb dX10_meetBy_100 (by decide) ?_
        exact hj_104 _ _ _ _ h hP hD hS (lv_sub hl [1, 2, 3, 4, 5, 6, 7, 0] rfl)
    refine lv_icmp_ge (tgt := 75) hx hb dX10_meetBy_68 (by decide) (fun c_46 => ?_) (fun c_46 => ?_)
    · replace h := ifp_el c_46 h
      refine lv_iconst (v := (nI 0)) hx hb dX10_meetBy_75 (by decide) ?_
      exact hj_76 _ _ _ _ h hP hD hS (lv_sub hl [1, 2, 3, 4, 5, 6, 0] rfl)
    · replace h := ifn_el c_46 h
      refine lv_iconst (v := (nI 1)) hx hb dX10_meetBy_71 (by decide) ?_
      refine lv_goto (tgt := 76) hx hb dX10_meetBy_72 (by decide) ?_
      exact hj_76 _ _ _ _ h hP hD hS (lv_sub hl [1, 2, 3, 4, 5, 6, 0] rfl)
  refine lv_icmp_ge (tgt := 47) hx hb dX10_meetBy_40 (by decide) (fun c_47 => ?_) (fun c_47 => ?_)
  · replace h := ifp_el c_47 h
    refine lv_iconst (v := (nI 0)) hx hb dX10_meetBy_47 (by decide) ?_
    exact hj_48 _ _ _ _ h hP hD hS (lv_sub hl [2, 3, 4, 5, 1, 0] rfl)
  · replace h := ifn_el c_47 h
    refine lv_iconst (v := (nI 1)) hx hb dX10_meetBy_43 (by decide) ?_
    refine lv_goto (tgt := 48) hx hb dX10_meetBy_44 (by decide) ?_
    exact hj_48 _ _ _ _ h hP hD hS (lv_sub hl [2, 3, 4, 5, 1, 0] rfl)
def j_X10_tongueBy_109 (x3_2 : Int32) (rec4 : Int32 → Int32 → (Nat → Int32) → (Nat → Int32) → (Nat → Int32) → Option (Int32 × (Nat → Int32) × (Nat → Int32) × (Nat → Int32))) (z0_22 : Int32) (y_one_23 : Nat → Int32) (y_two_24 : Nat → Int32) (y_ways_25 : Nat → Int32) : Option (Int32 × (Nat → Int32) × (Nat → Int32) × (Nat → Int32)) := nm (z0_22 ||| ((nI 1) <<< (x3_2 &&& 31))) (fun x2_26 => nm (x3_2 + (nI 1)) (fun x3_27 => rec4 x2_26 x3_27 y_one_23 y_two_24 y_ways_25))
def j_X10_tongueBy_85 (v_l : Nat → Int32) (F : Nat) (x2_1 : Int32) (x3_2 : Int32) (y_one_3 : Nat → Int32) (y_two_4 : Nat → Int32) (y_ways_5 : Nat → Int32) (rec4 : Int32 → Int32 → (Nat → Int32) → (Nat → Int32) → (Nat → Int32) → Option (Int32 × (Nat → Int32) × (Nat → Int32) × (Nat → Int32))) (z0_15 : Int32) : Option (Int32 × (Nat → Int32) × (Nat → Int32) × (Nat → Int32)) := bd1 (D_X10_isTold x3_2 v_l) (fun r_16 => (if r_16 = 0 then nm (x2_1 ||| (nI 0)) (fun x2_19 => nm (x3_2 + (nI 1)) (fun x3_20 => rec4 x2_19 x3_20 y_one_3 y_two_4 y_ways_5)) else (if z0_15 = 0 then bd4 (D_X10_isAlike F x3_2 v_l y_one_3 y_two_4 y_ways_5) (fun r_30 y_one_31 y_two_32 y_ways_33 => (if r_30 = 0 then nm (x2_1 ||| (nI 0)) (fun x2_36 => nm (x3_2 + (nI 1)) (fun x3_37 => rec4 x2_36 x3_37 y_one_31 y_two_32 y_ways_33)) else j_X10_tongueBy_109 x3_2 rec4 x2_1 y_one_31 y_two_32 y_ways_33)) else j_X10_tongueBy_109 x3_2 rec4 x2_1 y_one_3 y_two_4 y_ways_5)))
def j_X10_tongueBy_84 (v_l : Nat → Int32) (F : Nat) (x2_1 : Int32) (x3_2 : Int32) (y_one_3 : Nat → Int32) (y_two_4 : Nat → Int32) (y_ways_5 : Nat → Int32) (rec4 : Int32 → Int32 → (Nat → Int32) → (Nat → Int32) → (Nat → Int32) → Option (Int32 × (Nat → Int32) × (Nat → Int32) × (Nat → Int32)))  : Option (Int32 × (Nat → Int32) × (Nat → Int32) × (Nat → Int32)) := j_X10_tongueBy_85 v_l F x2_1 x3_2 y_one_3 y_two_4 y_ways_5 rec4 (nI 0)
def j_X10_tongueBy_58 (v_l : Nat → Int32) (F : Nat) (x2_1 : Int32) (x3_2 : Int32) (y_one_3 : Nat → Int32) (y_two_4 : Nat → Int32) (y_ways_5 : Nat → Int32) (rec4 : Int32 → Int32 → (Nat → Int32) → (Nat → Int32) → (Nat → Int32) → Option (Int32 × (Nat → Int32) × (Nat → Int32) × (Nat → Int32)))  : Option (Int32 × (Nat → Int32) × (Nat → Int32) × (Nat → Int32)) := j_X10_tongueBy_85 v_l F x2_1 x3_2 y_one_3 y_two_4 y_ways_5 rec4 (nI 0)
def b_X10_tongueBy_4 (p1 : Int32) (v_l : Nat → Int32) (v_stands : Nat → Int32) (F : Nat) (rec4 : Int32 → Int32 → (Nat → Int32) → (Nat → Int32) → (Nat → Int32) → Option (Int32 × (Nat → Int32) × (Nat → Int32) × (Nat → Int32))) (x2_1 : Int32) (x3_2 : Int32) (y_one_3 : Nat → Int32) (y_two_4 : Nat → Int32) (y_ways_5 : Nat → Int32) : Option (Int32 × (Nat → Int32) × (Nat → Int32) × (Nat → Int32)) := (if (nI 8) ≤ x3_2 then some (x2_1, y_one_3, y_two_4, y_ways_5) else ck 16 ((nI 2) * x3_2) (nm (v_stands ((nI 2) * x3_2).toNatClampNeg) (fun x4_12 => ck 16 (((nI 2) * x3_2) + (nI 1)) (nm (v_stands (((nI 2) * x3_2) + (nI 1)).toNatClampNeg) (fun x5_14 => (if p1 = 0 then (if x4_12 = 0 then ck 336 (nI 299) ((if x5_14 = (v_l (nI 299).toNatClampNeg) then j_X10_tongueBy_85 v_l F x2_1 x3_2 y_one_3 y_two_4 y_ways_5 rec4 (nI 1) else j_X10_tongueBy_58 v_l F x2_1 x3_2 y_one_3 y_two_4 y_ways_5 rec4 )) else j_X10_tongueBy_58 v_l F x2_1 x3_2 y_one_3 y_two_4 y_ways_5 rec4 ) else ck 336 (nI 298) ((if x4_12 = (v_l (nI 298).toNatClampNeg) then (if x5_14 = 0 then j_X10_tongueBy_85 v_l F x2_1 x3_2 y_one_3 y_two_4 y_ways_5 rec4 (nI 1) else j_X10_tongueBy_84 v_l F x2_1 x3_2 y_one_3 y_two_4 y_ways_5 rec4 ) else j_X10_tongueBy_84 v_l F x2_1 x3_2 y_one_3 y_two_4 y_ways_5 rec4 ))))))))
def D_X10_tongueBy (F : Nat) (p1 : Int32) (v_l : Nat → Int32) (v_stands : Nat → Int32) (v_one : Nat → Int32) (v_two : Nat → Int32) (v_ways : Nat → Int32) : Option (Int32 × (Nat → Int32) × (Nat → Int32) × (Nat → Int32)) := bd4 (lpg (T := Int32 → Int32 → (Nat → Int32) → (Nat → Int32) → (Nat → Int32) → Option (Int32 × (Nat → Int32) × (Nat → Int32) × (Nat → Int32))) (fun _ _ _ _ _ => none) (b_X10_tongueBy_4 p1 v_l v_stands F) F (nI 0) (nI 0) v_one v_two v_ways) (fun o_6 o_7 o_8 o_9 => some (o_6, o_7, o_8, o_9))
abbrev rm_X10_tongueBy : Room := { frames := 5, cells := 0, slots := 0, locals := 113 }
set_option maxHeartbeats 4000000 in
set_option maxRecDepth 100000 in
theorem c_X10_tongueBy (l : Launch) (D : va_G) (ca : Nat → ClassId) (F : Nat) (sz : Nat) (q_this q_text q_read q_l q_stands q_kept q_one q_two q_ways q_now q_then : Nat) (p1 : Int32) (v_size : Int32) (v_at : Int32) (v_keptMany : Int32) (v_l : Nat → Int32) (v_stands : Nat → Int32) (v_one : Nat → Int32) (v_two : Nat → Int32) (v_ways : Nat → Int32) (r : Int32) (o_one : Nat → Int32) (o_two : Nat → Int32) (o_ways : Nat → Int32) (h : D_X10_tongueBy F p1 v_l v_stands v_one v_two v_ways = some (r, o_one, o_two, o_ways)) : Met l yX10_tongueBy wsX10_tongueBy rm_X10_tongueBy (va_Pc [.ref q_this, .int p1] (kPre D ca [(q_this, .inr (8, [.ref q_text, .int v_size, .int v_at, .ref q_read, .ref q_l, .ref q_stands, .ref q_kept, .int v_keptMany, .ref q_one, .ref q_two, .ref q_ways, .ref q_now, .ref q_then])), (q_l, .inl (ca 0, 336, .inl v_l)), (q_stands, .inl (ca 0, 16, .inl v_stands)), (q_one, .inl (ca 0, 7, .inl v_one)), (q_two, .inl (ca 0, 7, .inl v_two)), (q_ways, .inl (ca 0, 49, .inl v_ways))] sz)) (kQi D ca (va_A [(q_this, .inr (8, [.ref q_text, .int v_size, .int v_at, .ref q_read, .ref q_l, .ref q_stands, .ref q_kept, .int v_keptMany, .ref q_one, .ref q_two, .ref q_ways, .ref q_now, .ref q_then])), (q_l, .inl (ca 0, 336, .inl v_l)), (q_stands, .inl (ca 0, 16, .inl v_stands)), (q_one, .inl (ca 0, 7, .inl v_one)), (q_two, .inl (ca 0, 7, .inl v_two)), (q_ways, .inl (ca 0, 49, .inl v_ways))] sz) [(q_this, .inr (8, [.ref q_text, .int v_size, .int v_at, .ref q_read, .ref q_l, .ref q_stands, .ref q_kept, .int v_keptMany, .ref q_one, .ref q_two, .ref q_ways, .ref q_now, .ref q_then])), (q_l, .inl (ca 0, 336, .inl v_l)), (q_stands, .inl (ca 0, 16, .inl v_stands)), (q_one, .inl (ca 0, 7, .inl o_one)), (q_two, .inl (ca 0, 7, .inl o_two)), (q_ways, .inl (ca 0, 49, .inl o_ways))] r) 0 0 (va_A [(q_this, .inr (8, [.ref q_text, .int v_size, .int v_at, .ref q_read, .ref q_l, .ref q_stands, .ref q_kept, .int v_keptMany, .ref q_one, .ref q_two, .ref q_ways, .ref q_now, .ref q_then])), (q_l, .inl (ca 0, 336, .inl v_l)), (q_stands, .inl (ca 0, 16, .inl v_stands)), (q_one, .inl (ca 0, 7, .inl v_one)), (q_two, .inl (ca 0, 7, .inl v_two)), (q_ways, .inl (ca 0, 49, .inl v_ways))] sz) := by
  refine Met.ofW (cc := cX10_tongueBy) (maxL := 7) (ret := (some .int)) (by decide +kernel) rfl ?_
  intro p e s m args below meth c s₁ B hml hv
  obtain ⟨rfl, hsz, hP, hK, hD0⟩ := hv
  have hx := B.exec
  have hb := B.bytes
  have hr := B.returns
  have hts := atoms_spec (ws := wsX10_tongueBy) B.pre
  have hown : s.vm.findClass RX10 = some m.cls := findClass_of_methodNamed B.named
  have hlocks := B.notSynchronized
  clear B
  subst hsz
  have hD := hD0.self (sz := s.heap.size)
  generalize hAe : va_A [(q_this, .inr (8, [.ref q_text, .int v_size, .int v_at, .ref q_read, .ref q_l, .ref q_stands, .ref q_kept, .int v_keptMany, .ref q_one, .ref q_two, .ref q_ways, .ref q_now, .ref q_then])), (q_l, .inl (ca 0, 336, .inl v_l)), (q_stands, .inl (ca 0, 16, .inl v_stands)), (q_one, .inl (ca 0, 7, .inl v_one)), (q_two, .inl (ca 0, 7, .inl v_two)), (q_ways, .inl (ca 0, 49, .inl v_ways))] s.heap.size = A at hD ⊢
  have hA : ∀ q : Nat, s.heap.size ≤ q → A q := fun q h => by rw [← hAe]; exact Or.inr h
  have hS : va_S A s.heap s.heap [] := va_S.rf
  have hl := lv_entry ([.ref q_this, .int p1]) (n := 7) (Nat.le_of_ble_eq_true rfl)
  rw [lg_entry_eq]
  generalize (lg_sl ([.ref q_this, .int p1]) ++ List.replicate (7 - (lg_sl ([.ref q_this, .int p1])).length) Slot.unset).toArray = ls at hl ⊢
  have hl : lv_has ls 7 [(0, .ref q_this), (1, .int p1)] := hl
  generalize ([.ref q_this, .int p1] : List Value).toArray = args at hts ⊢
  generalize hQe : MQ below (kQi D ca (A) [(q_this, .inr (8, [.ref q_text, .int v_size, .int v_at, .ref q_read, .ref q_l, .ref q_stands, .ref q_kept, .int v_keptMany, .ref q_one, .ref q_two, .ref q_ways, .ref q_now, .ref q_then])), (q_l, .inl (ca 0, 336, .inl v_l)), (q_stands, .inl (ca 0, 16, .inl v_stands)), (q_one, .inl (ca 0, 7, .inl o_one)), (q_two, .inl (ca 0, 7, .inl o_two)), (q_ways, .inl (ca 0, 49, .inl o_ways))] r) args s 0 0 A = Q
  have i_X10 : ∀ w ∈ u_ws RX10 TX10 13, w ∈ wsX10_tongueBy := by decide +kernel
  have k_19 := hts (.fieldLink RX10 19 "TradeWordsModel" "stands" "[I") (by decide +kernel)
  have k_16 := hts (.fieldLink RX10 16 "TradeWordsModel" "l" "[I") (by decide +kernel)
  rw [D_X10_tongueBy] at h
  refine lv_iconst (v := (nI 0)) hx hb dX10_tongueBy_0 (by decide) ?_
  refine lv_istore_n (lv' := [(2, .int (nI 0)), (0, .ref q_this), (1, .int p1)]) hx hb dX10_tongueBy_1 rfl hl (by decide) rfl (fun ls hl => ?_)
  refine lv_iconst (v := (nI 0)) hx hb dX10_tongueBy_2 (by decide) ?_
  refine lv_istore_n (lv' := [(3, .int (nI 0)), (2, .int (nI 0)), (0, .ref q_this), (1, .int p1)]) hx hb dX10_tongueBy_3 rfl hl (by decide) rfl (fun ls hl => ?_)
  obtain ⟨o_6, o_7, o_8, o_9, hL, h⟩ := bd4_el h
  have hex : ∀ (H : Heap) (locs : List Loc) (ls : Array Slot), va_P D vwCl [(q_this, .inr (8, [.ref q_text, .int v_size, .int v_at, .ref q_read, .ref q_l, .ref q_stands, .ref q_kept, .int v_keptMany, .ref q_one, .ref q_two, .ref q_ways, .ref q_now, .ref q_then])), (q_l, .inl (ca 0, 336, .inl v_l)), (q_stands, .inl (ca 0, 16, .inl v_stands)), (q_one, .inl (ca 0, 7, .inl o_7)), (q_two, .inl (ca 0, 7, .inl o_8)), (q_ways, .inl (ca 0, 49, .inl o_9))] H → va_D A [(q_this, .inr (8, [.ref q_text, .int v_size, .int v_at, .ref q_read, .ref q_l, .ref q_stands, .ref q_kept, .int v_keptMany, .ref q_one, .ref q_two, .ref q_ways, .ref q_now, .ref q_then])), (q_l, .inl (ca 0, 336, .inl v_l)), (q_stands, .inl (ca 0, 16, .inl v_stands)), (q_one, .inl (ca 0, 7, .inl o_7)), (q_two, .inl (ca 0, 7, .inl o_8)), (q_ways, .inl (ca 0, 49, .inl o_9))] → va_S A s.heap H locs → lv_has ls 7 [(2, .int o_6)] → W p l e (headSpec wsX10_tongueBy rm_X10_tongueBy).room s m args below meth c H locs 0 0 Q (F0 m 124 ls []) := by
    intro H locs ls hP hD hS hl
    refine lv_iload_n hx hb dX10_tongueBy_124 rfl (lv_at hl 0 rfl) ?_
    cases h
    rw [← hQe]
    exact W.iret hx hb hr (fun t ht hW => ⟨⟨_, (), rfl, rfl, by rw [ht]; exact hP, va_K.moved hW.alike hK, hD⟩, hS.F ht⟩) hS.2.2 dX10_tongueBy_125
  have hlp : ∀ (n : Nat) (x2_1 : Int32) (x3_2 : Int32) (y_one_3 : Nat → Int32) (y_two_4 : Nat → Int32) (y_ways_5 : Nat → Int32) (o_6 : Int32) (o_7 : Nat → Int32) (o_8 : Nat → Int32) (o_9 : Nat → Int32) (H : Heap) (locs : List Loc) (ls : Array Slot), lpg (T := Int32 → Int32 → (Nat → Int32) → (Nat → Int32) → (Nat → Int32) → Option (Int32 × (Nat → Int32) × (Nat → Int32) × (Nat → Int32))) (fun _ _ _ _ _ => none) (b_X10_tongueBy_4 p1 v_l v_stands F) n x2_1 x3_2 y_one_3 y_two_4 y_ways_5 = some (o_6, o_7, o_8, o_9) → (∀ (H : Heap) (locs : List Loc) (ls : Array Slot), va_P D vwCl [(q_this, .inr (8, [.ref q_text, .int v_size, .int v_at, .ref q_read, .ref q_l, .ref q_stands, .ref q_kept, .int v_keptMany, .ref q_one, .ref q_two, .ref q_ways, .ref q_now, .ref q_then])), (q_l, .inl (ca 0, 336, .inl v_l)), (q_stands, .inl (ca 0, 16, .inl v_stands)), (q_one, .inl (ca 0, 7, .inl o_7)), (q_two, .inl (ca 0, 7, .inl o_8)), (q_ways, .inl (ca 0, 49, .inl o_9))] H → va_D A [(q_this, .inr (8, [.ref q_text, .int v_size, .int v_at, .ref q_read, .ref q_l, .ref q_stands, .ref q_kept, .int v_keptMany, .ref q_one, .ref q_two, .ref q_ways, .ref q_now, .ref q_then])), (q_l, .inl (ca 0, 336, .inl v_l)), (q_stands, .inl (ca 0, 16, .inl v_stands)), (q_one, .inl (ca 0, 7, .inl o_7)), (q_two, .inl (ca 0, 7, .inl o_8)), (q_ways, .inl (ca 0, 49, .inl o_9))] → va_S A s.heap H locs → lv_has ls 7 [(2, .int o_6)] → W p l e (headSpec wsX10_tongueBy rm_X10_tongueBy).room s m args below meth c H locs 0 0 Q (F0 m 124 ls [])) → va_P D vwCl [(q_this, .inr (8, [.ref q_text, .int v_size, .int v_at, .ref q_read, .ref q_l, .ref q_stands, .ref q_kept, .int v_keptMany, .ref q_one, .ref q_two, .ref q_ways, .ref q_now, .ref q_then])), (q_l, .inl (ca 0, 336, .inl v_l)), (q_stands, .inl (ca 0, 16, .inl v_stands)), (q_one, .inl (ca 0, 7, .inl y_one_3)), (q_two, .inl (ca 0, 7, .inl y_two_4)), (q_ways, .inl (ca 0, 49, .inl y_ways_5))] H → va_D A [(q_this, .inr (8, [.ref q_text, .int v_size, .int v_at, .ref q_read, .ref q_l, .ref q_stands, .ref q_kept, .int v_keptMany, .ref q_one, .ref q_two, .ref q_ways, .ref q_now, .ref q_then])), (q_l, .inl (ca 0, 336, .inl v_l)), (q_stands, .inl (ca 0, 16, .inl v_stands)), (q_one, .inl (ca 0, 7, .inl y_one_3)), (q_two, .inl (ca 0, 7, .inl y_two_4)), (q_ways, .inl (ca 0, 49, .inl y_ways_5))] → va_S A s.heap H locs → lv_has ls 7 [(0, .ref q_this), (1, .int p1), (2, .int x2_1), (3, .int x3_2)] → W p l e (headSpec wsX10_tongueBy rm_X10_tongueBy).room s m args below meth c H locs 0 0 Q (F0 m 4 ls []) := by
    intro n
    induction n with
    | zero => intro x2_1 x3_2 y_one_3 y_two_4 y_ways_5 o_6 o_7 o_8 o_9 H locs ls h; have h : (none : Option (Int32 × (Nat → Int32) × (Nat → Int32) × (Nat → Int32))) = some _ := h; cases h
    | succ n ih =>
      intro x2_1 x3_2 y_one_3 y_two_4 y_ways_5 o_6 o_7 o_8 o_9 H locs ls h hex hP hD hS hl
      rw [lpg_succ, b_X10_tongueBy_4] at h
      refine lv_iload_n hx hb dX10_tongueBy_4 rfl (lv_at hl 3 rfl) ?_
      refine lv_bipush (v := (nI 8)) hx hb dX10_tongueBy_5 (by decide) ?_
      refine lv_icmp_ge (tgt := 124) hx hb dX10_tongueBy_7 (by decide) (fun c_10 => ?_) (fun c_10 => ?_)
      · replace h := ifp_el c_10 h
        cases h
        exact hex _ _ _ hP hD hS (lv_sub hl [2] rfl)
      · replace h := ifn_el c_10 h
        refine lv_aload_n hx hb dX10_tongueBy_10 rfl (lv_at hl 0 rfl) ?_
        refine va_get (D := D) (ci := 8) (v := .ref q_stands) (C := RX10) (T := TX10) (N := 13) hx hb hts i_X10 hown hK hP 0 rfl rfl 5 (by decide) k_19 (fun _ h9 => h9) rfl dX10_tongueBy_11 ?_
        refine lv_iconst (v := (nI 2)) hx hb dX10_tongueBy_14 (by decide) ?_
        refine lv_iload_n hx hb dX10_tongueBy_15 rfl (lv_at hl 3 rfl) ?_
        refine lv_imul hx hb dX10_tongueBy_16 ?_
        obtain ⟨hi_11, h⟩ := ck_el h
        refine va_iald hx hb hK hP 2 0 rfl rfl hi_11 dX10_tongueBy_17 ?_
        refine lv_nmi h (fun x4_12 h => ?_)
        refine lv_istore (lv' := [(4, .int x4_12), (0, .ref q_this), (1, .int p1), (2, .int x2_1), (3, .int x3_2)]) hx hb dX10_tongueBy_18 hl (by decide) rfl (fun ls hl => ?_)
        refine lv_aload_n hx hb dX10_tongueBy_20 rfl (lv_at hl 1 rfl) ?_
        refine va_get (D := D) (ci := 8) (v := .ref q_stands) (C := RX10) (T := TX10) (N := 13) hx hb hts i_X10 hown hK hP 0 rfl rfl 5 (by decide) k_19 (fun _ h9 => h9) rfl dX10_tongueBy_21 ?_
        refine lv_iconst (v := (nI 2)) hx hb dX10_tongueBy_24 (by decide) ?_
        refine lv_iload_n hx hb dX10_tongueBy_25 rfl (lv_at hl 4 rfl) ?_
        refine lv_imul hx hb dX10_tongueBy_26 ?_
        refine lv_iconst (v := (nI 1)) hx hb dX10_tongueBy_27 (by decide) ?_
        refine lv_iadd hx hb dX10_tongueBy_28 ?_
        obtain ⟨hi_13, h⟩ := ck_el h
        refine va_iald hx hb hK hP 2 0 rfl rfl hi_13 dX10_tongueBy_29 ?_
        refine lv_nmi h (fun x5_14 h => ?_)
        refine lv_istore (lv' := [(5, .int x5_14), (4, .int x4_12), (0, .ref q_this), (1, .int p1), (2, .int x2_1), (3, .int x3_2)]) hx hb dX10_tongueBy_30 hl (by decide) rfl (fun ls hl => ?_)
        refine lv_iload_n hx hb dX10_tongueBy_32 rfl (lv_at hl 3 rfl) ?_
        have hj_85 : ∀ (z0_15 : Int32) (H : Heap) (locs : List Loc) (ls : Array Slot), j_X10_tongueBy_85 v_l F x2_1 x3_2 y_one_3 y_two_4 y_ways_5 (lpg (T := Int32 → Int32 → (Nat → Int32) → (Nat → Int32) → (Nat → Int32) → Option (Int32 × (Nat → Int32) × (Nat → Int32) × (Nat → Int32))) (fun _ _ _ _ _ => none) (b_X10_tongueBy_4 p1 v_l v_stands F) n) z0_15 = some (o_6, o_7, o_8, o_9) → va_P D vwCl [(q_this, .inr (8, [.ref q_text, .int v_size, .int v_at, .ref q_read, .ref q_l, .ref q_stands, .ref q_kept, .int v_keptMany, .ref q_one, .ref q_two, .ref q_ways, .ref q_now, .ref q_then])), (q_l, .inl (ca 0, 336, .inl v_l)), (q_stands, .inl (ca 0, 16, .inl v_stands)), (q_one, .inl (ca 0, 7, .inl y_one_3)), (q_two, .inl (ca 0, 7, .inl y_two_4)), (q_ways, .inl (ca 0, 49, .inl y_ways_5))] H → va_D A [(q_this, .inr (8, [.ref q_text, .int v_size, .int v_at, .ref q_read, .ref q_l, .ref q_stands, .ref q_kept, .int v_keptMany, .ref q_one, .ref q_two, .ref q_ways, .ref q_now, .ref q_then])), (q_l, .inl (ca 0, 336, .inl v_l)), (q_stands, .inl (ca 0, 16, .inl v_stands)), (q_one, .inl (ca 0, 7, .inl y_one_3)), (q_two, .inl (ca 0, 7, .inl y_two_4)), (q_ways, .inl (ca 0, 49, .inl y_ways_5))] → va_S A s.heap H locs → lv_has ls 7 [(0, .ref q_this), (1, .int p1), (2, .int x2_1), (3, .int x3_2)] → W p l e (headSpec wsX10_tongueBy rm_X10_tongueBy).room s m args below meth c H locs 0 0 Q (F0 m 85 ls [.int z0_15]) := by
          intro z0_15 H locs ls h hP hD hS hl
          rw [j_X10_tongueBy_85] at h
          refine lv_istore (lv' := [(6, .int z0_15), (0, .ref q_this), (1, .int p1), (2, .int x2_1), (3, .int x3_2)]) hx hb dX10_tongueBy_85 hl (by decide) rfl (fun ls hl => ?_)
          refine lv_iload_n hx hb dX10_tongueBy_87 rfl (lv_at hl 3 rfl) ?_
          refine lv_aload_n hx hb dX10_tongueBy_88 rfl (lv_at hl 1 rfl) ?_
          refine lv_iload_n hx hb dX10_tongueBy_89 rfl (lv_at hl 4 rfl) ?_
          obtain ⟨r_16, hg_17, h⟩ := bd1_el h
          refine kx_Vi (As := [.int x3_2]) (rest := [.int x2_1]) (wr := [(q_stands, .inl (ca 0, 16, .inl v_stands)), (q_one, .inl (ca 0, 7, .inl y_one_3)), (q_two, .inl (ca 0, 7, .inl y_two_4)), (q_ways, .inl (ca 0, 49, .inl y_ways_5))]) (w1 := [(q_this, .inr (8, [.ref q_text, .int v_size, .int v_at, .ref q_read, .ref q_l, .ref q_stands, .ref q_kept, .int v_keptMany, .ref q_one, .ref q_two, .ref q_ways, .ref q_now, .ref q_then])), (q_l, .inl (ca 0, 336, .inl v_l))]) (wn := [(q_this, .inr (8, [.ref q_text, .int v_size, .int v_at, .ref q_read, .ref q_l, .ref q_stands, .ref q_kept, .int v_keptMany, .ref q_one, .ref q_two, .ref q_ways, .ref q_now, .ref q_then])), (q_l, .inl (ca 0, 336, .inl v_l)), (q_stands, .inl (ca 0, 16, .inl v_stands)), (q_one, .inl (ca 0, 7, .inl y_one_3)), (q_two, .inl (ca 0, 7, .inl y_two_4)), (q_ways, .inl (ca 0, 49, .inl y_ways_5))]) ⟨hx, hb, hml, hown, hts⟩ (c_X10_isTold l D ca H.size q_this q_text q_read q_l q_stands q_kept q_one q_two q_ways q_now q_then x3_2 v_size v_at v_keptMany v_l r_16 hg_17) (cwV 1 hts gX10_tongueBy_X10_isTold rfl rfl rfl (by decide +kernel) ⟨(Nat.le_of_ble_eq_true rfl), (Nat.le_of_ble_eq_true rfl)⟩) hK hP hD hS hA (ci := 8) (q0 := 0) rfl rfl [0, 1] [2, 3, 4, 5] [4, 5, 0, 1, 2, 3] rfl rfl rfl rfl (by decide) rfl rfl rfl hl.1 rfl (Nat.le_of_ble_eq_true rfl) dX10_tongueBy_90 ⟨Nat.zero_le _, Nat.zero_le _⟩ (fun H locs hP hD hS => ?_)
          refine lv_if_eq (tgt := 115) hx hb dX10_tongueBy_93 (by decide) (fun c_18 => ?_) (fun c_18 => ?_)
          · replace h := ifp_el c_18 h
            refine lv_iconst (v := (nI 0)) hx hb dX10_tongueBy_115 (by decide) ?_
            refine lv_ior hx hb dX10_tongueBy_116 ?_
            refine lv_nmi h (fun x2_19 h => ?_)
            refine lv_istore_n (lv' := [(2, .int x2_19), (6, .int z0_15), (0, .ref q_this), (1, .int p1), (3, .int x3_2)]) hx hb dX10_tongueBy_117 rfl hl (by decide) rfl (fun ls hl => ?_)
            obtain ⟨x3_20, e_21, h⟩ := nm_el h
            refine lv_iinc (v := x3_20) (lv' := [(3, .int x3_20), (2, .int x2_19), (6, .int z0_15), (0, .ref q_this), (1, .int p1)]) hx hb dX10_tongueBy_118 hl (k := 4) rfl (by rw [← e_21]; rfl) (by decide) rfl (fun ls hl => ?_)
            refine lv_goto (tgt := 4) hx hb dX10_tongueBy_121 (by decide) ?_
            exact ih _ _ _ _ _ _ _ _ _ _ _ _ h hex hP hD hS (lv_sub hl [3, 4, 1, 0] rfl)
          · replace h := ifn_el c_18 h
            refine lv_iload hx hb dX10_tongueBy_96 (lv_at hl 0 rfl) ?_
            have hj_109 : ∀ (z0_22 : Int32) (y_one_23 : Nat → Int32) (y_two_24 : Nat → Int32) (y_ways_25 : Nat → Int32) (H : Heap) (locs : List Loc) (ls : Array Slot), j_X10_tongueBy_109 x3_2 (lpg (T := Int32 → Int32 → (Nat → Int32) → (Nat → Int32) → (Nat → Int32) → Option (Int32 × (Nat → Int32) × (Nat → Int32) × (Nat → Int32))) (fun _ _ _ _ _ => none) (b_X10_tongueBy_4 p1 v_l v_stands F) n) z0_22 y_one_23 y_two_24 y_ways_25 = some (o_6, o_7, o_8, o_9) → va_P D vwCl [(q_this, .inr (8, [.ref q_text, .int v_size, .int v_at, .ref q_read, .ref q_l, .ref q_stands, .ref q_kept, .int v_keptMany, .ref q_one, .ref q_two, .ref q_ways, .ref q_now, .ref q_then])), (q_l, .inl (ca 0, 336, .inl v_l)), (q_stands, .inl (ca 0, 16, .inl v_stands)), (q_one, .inl (ca 0, 7, .inl y_one_23)), (q_two, .inl (ca 0, 7, .inl y_two_24)), (q_ways, .inl (ca 0, 49, .inl y_ways_25))] H → va_D A [(q_this, .inr (8, [.ref q_text, .int v_size, .int v_at, .ref q_read, .ref q_l, .ref q_stands, .ref q_kept, .int v_keptMany, .ref q_one, .ref q_two, .ref q_ways, .ref q_now, .ref q_then])), (q_l, .inl (ca 0, 336, .inl v_l)), (q_stands, .inl (ca 0, 16, .inl v_stands)), (q_one, .inl (ca 0, 7, .inl y_one_23)), (q_two, .inl (ca 0, 7, .inl y_two_24)), (q_ways, .inl (ca 0, 49, .inl y_ways_25))] → va_S A s.heap H locs → lv_has ls 7 [(0, .ref q_this), (1, .int p1), (3, .int x3_2)] → W p l e (headSpec wsX10_tongueBy rm_X10_tongueBy).room s m args below meth c H locs 0 0 Q (F0 m 109 ls [.int z0_22]) := by
              intro z0_22 y_one_23 y_two_24 y_ways_25 H locs ls h hP hD hS hl
              rw [j_X10_tongueBy_109] at h
              refine lv_iconst (v := (nI 1)) hx hb dX10_tongueBy_109 (by decide) ?_
              refine lv_iload_n hx hb dX10_tongueBy_110 rfl (lv_at hl 2 rfl) ?_
              refine lv_ishl hx hb dX10_tongueBy_111 ?_
              refine lv_goto (tgt := 116) hx hb dX10_tongueBy_112 (by decide) ?_
              refine lv_ior hx hb dX10_tongueBy_116 ?_
              refine lv_nmi h (fun x2_26 h => ?_)
              refine lv_istore_n (lv' := [(2, .int x2_26), (0, .ref q_this), (1, .int p1), (3, .int x3_2)]) hx hb dX10_tongueBy_117 rfl hl (by decide) rfl (fun ls hl => ?_)
              obtain ⟨x3_27, e_28, h⟩ := nm_el h
              refine lv_iinc (v := x3_27) (lv' := [(3, .int x3_27), (2, .int x2_26), (0, .ref q_this), (1, .int p1)]) hx hb dX10_tongueBy_118 hl (k := 3) rfl (by rw [← e_28]; rfl) (by decide) rfl (fun ls hl => ?_)
              refine lv_goto (tgt := 4) hx hb dX10_tongueBy_121 (by decide) ?_
              exact ih _ _ _ _ _ _ _ _ _ _ _ _ h hex hP hD hS (lv_sub hl [2, 3, 1, 0] rfl)
            refine lv_if_ne (tgt := 109) hx hb dX10_tongueBy_98 (by decide) (fun c_29 => ?_) (fun c_29 => ?_)
            · replace h := ifn_el c_29 h
              exact hj_109 _ _ _ _ _ _ _ h hP hD hS (lv_sub hl [1, 2, 4] rfl)
            · replace h := ifp_el c_29 h
              refine lv_aload_n hx hb dX10_tongueBy_101 rfl (lv_at hl 1 rfl) ?_
              refine lv_iload_n hx hb dX10_tongueBy_102 rfl (lv_at hl 4 rfl) ?_
              obtain ⟨r_30, y_one_31, y_two_32, y_ways_33, hg_34, h⟩ := bd4_el h
              refine kx_Vi (As := [.int x3_2]) (rest := [.int x2_1]) (wr := [(q_stands, .inl (ca 0, 16, .inl v_stands))]) (w1 := [(q_this, .inr (8, [.ref q_text, .int v_size, .int v_at, .ref q_read, .ref q_l, .ref q_stands, .ref q_kept, .int v_keptMany, .ref q_one, .ref q_two, .ref q_ways, .ref q_now, .ref q_then])), (q_l, .inl (ca 0, 336, .inl v_l)), (q_one, .inl (ca 0, 7, .inl y_one_31)), (q_two, .inl (ca 0, 7, .inl y_two_32)), (q_ways, .inl (ca 0, 49, .inl y_ways_33))]) (wn := [(q_this, .inr (8, [.ref q_text, .int v_size, .int v_at, .ref q_read, .ref q_l, .ref q_stands, .ref q_kept, .int v_keptMany, .ref q_one, .ref q_two, .ref q_ways, .ref q_now, .ref q_then])), (q_l, .inl (ca 0, 336, .inl v_l)), (q_stands, .inl (ca 0, 16, .inl v_stands)), (q_one, .inl (ca 0, 7, .inl y_one_31)), (q_two, .inl (ca 0, 7, .inl y_two_32)), (q_ways, .inl (ca 0, 49, .inl y_ways_33))]) ⟨hx, hb, hml, hown, hts⟩ (c_X10_isAlike l D ca F H.size q_this q_text q_read q_l q_stands q_kept q_one q_two q_ways q_now q_then x3_2 v_size v_at v_keptMany v_l y_one_3 y_two_4 y_ways_5 r_30 y_one_31 y_two_32 y_ways_33 hg_34) (cwV 1 hts gX10_tongueBy_X10_isAlike rfl rfl rfl (by decide +kernel) ⟨(Nat.le_of_ble_eq_true rfl), (Nat.le_of_ble_eq_true rfl)⟩) hK hP hD hS hA (ci := 8) (q0 := 0) rfl rfl [0, 1, 3, 4, 5] [2] [1, 2, 0, 3, 4, 5] rfl rfl rfl rfl (by decide) rfl rfl rfl hl.1 rfl (Nat.le_of_ble_eq_true rfl) dX10_tongueBy_103 ⟨Nat.zero_le _, Nat.zero_le _⟩ (fun H locs hP hD hS => ?_)
              refine lv_if_eq (tgt := 115) hx hb dX10_tongueBy_106 (by decide) (fun c_35 => ?_) (fun c_35 => ?_)
              · replace h := ifp_el c_35 h
                refine lv_iconst (v := (nI 0)) hx hb dX10_tongueBy_115 (by decide) ?_
                refine lv_ior hx hb dX10_tongueBy_116 ?_
                refine lv_nmi h (fun x2_36 h => ?_)
                refine lv_istore_n (lv' := [(2, .int x2_36), (6, .int z0_15), (0, .ref q_this), (1, .int p1), (3, .int x3_2)]) hx hb dX10_tongueBy_117 rfl hl (by decide) rfl (fun ls hl => ?_)
                obtain ⟨x3_37, e_38, h⟩ := nm_el h
                refine lv_iinc (v := x3_37) (lv' := [(3, .int x3_37), (2, .int x2_36), (6, .int z0_15), (0, .ref q_this), (1, .int p1)]) hx hb dX10_tongueBy_118 hl (k := 4) rfl (by rw [← e_38]; rfl) (by decide) rfl (fun ls hl => ?_)
                refine lv_goto (tgt := 4) hx hb dX10_tongueBy_121 (by decide) ?_
                exact ih _ _ _ _ _ _ _ _ _ _ _ _ h hex hP hD hS (lv_sub hl [3, 4, 1, 0] rfl)
              · replace h := ifn_el c_35 h
                exact hj_109 _ _ _ _ _ _ _ h hP hD hS (lv_sub hl [1, 2, 4] rfl)
        refine lv_if_ne (tgt := 62) hx hb dX10_tongueBy_33 (by decide) (fun c_39 => ?_) (fun c_39 => ?_)
        · replace h := ifn_el c_39 h
          refine lv_iload hx hb dX10_tongueBy_62 (lv_at hl 1 rfl) ?_
          refine lv_aload_n hx hb dX10_tongueBy_64 rfl (lv_at hl 2 rfl) ?_
          refine va_get (D := D) (ci := 8) (v := .ref q_l) (C := RX10) (T := TX10) (N := 13) hx hb hts i_X10 hown hK hP 0 rfl rfl 4 (by decide) k_16 (fun _ h9 => h9) rfl dX10_tongueBy_65 ?_
          refine lv_sipush (v := (nI 298)) hx hb dX10_tongueBy_68 (by decide) ?_
          obtain ⟨hi_40, h⟩ := ck_el h
          refine va_iald hx hb hK hP 1 0 rfl rfl hi_40 dX10_tongueBy_71 ?_
          have hj_84 : ∀  (H : Heap) (locs : List Loc) (ls : Array Slot), j_X10_tongueBy_84 v_l F x2_1 x3_2 y_one_3 y_two_4 y_ways_5 (lpg (T := Int32 → Int32 → (Nat → Int32) → (Nat → Int32) → (Nat → Int32) → Option (Int32 × (Nat → Int32) × (Nat → Int32) × (Nat → Int32))) (fun _ _ _ _ _ => none) (b_X10_tongueBy_4 p1 v_l v_stands F) n)  = some (o_6, o_7, o_8, o_9) → va_P D vwCl [(q_this, .inr (8, [.ref q_text, .int v_size, .int v_at, .ref q_read, .ref q_l, .ref q_stands, .ref q_kept, .int v_keptMany, .ref q_one, .ref q_two, .ref q_ways, .ref q_now, .ref q_then])), (q_l, .inl (ca 0, 336, .inl v_l)), (q_stands, .inl (ca 0, 16, .inl v_stands)), (q_one, .inl (ca 0, 7, .inl y_one_3)), (q_two, .inl (ca 0, 7, .inl y_two_4)), (q_ways, .inl (ca 0, 49, .inl y_ways_5))] H → va_D A [(q_this, .inr (8, [.ref q_text, .int v_size, .int v_at, .ref q_read, .ref q_l, .ref q_stands, .ref q_kept, .int v_keptMany, .ref q_one, .ref q_two, .ref q_ways, .ref q_now, .ref q_then])), (q_l, .inl (ca 0, 336, .inl v_l)), (q_stands, .inl (ca 0, 16, .inl v_stands)), (q_one, .inl (ca 0, 7, .inl y_one_3)), (q_two, .inl (ca 0, 7, .inl y_two_4)), (q_ways, .inl (ca 0, 49, .inl y_ways_5))] → va_S A s.heap H locs → lv_has ls 7 [(0, .ref q_this), (1, .int p1), (2, .int x2_1), (3, .int x3_2)] → W p l e (headSpec wsX10_tongueBy rm_X10_tongueBy).room s m args below meth c H locs 0 0 Q (F0 m 84 ls []) := by
            intro  H locs ls h hP hD hS hl
            rw [j_X10_tongueBy_84] at h
            refine lv_iconst (v := (nI 0)) hx hb dX10_tongueBy_84 (by decide) ?_
            exact hj_85 _ _ _ _ h hP hD hS (lv_sub hl [0, 1, 2, 3] rfl)
          refine lv_icmp_ne (tgt := 84) hx hb dX10_tongueBy_72 (by decide) (fun c_41 => ?_) (fun c_41 => ?_)
          · replace h := ifn_el c_41 h
            exact hj_84  _ _ _ h hP hD hS (lv_sub hl [2, 3, 4, 5] rfl)
          · replace h := ifp_el c_41 h
            refine lv_iload hx hb dX10_tongueBy_75 (lv_at hl 0 rfl) ?_
            refine lv_if_ne (tgt := 84) hx hb dX10_tongueBy_77 (by decide) (fun c_42 => ?_) (fun c_42 => ?_)
            · replace h := ifn_el c_42 h
              exact hj_84  _ _ _ h hP hD hS (lv_sub hl [2, 3, 4, 5] rfl)
            · replace h := ifp_el c_42 h
              refine lv_iconst (v := (nI 1)) hx hb dX10_tongueBy_80 (by decide) ?_
              refine lv_goto (tgt := 85) hx hb dX10_tongueBy_81 (by decide) ?_
              exact hj_85 _ _ _ _ h hP hD hS (lv_sub hl [2, 3, 4, 5] rfl)
        · replace h := ifp_el c_39 h
          refine lv_iload hx hb dX10_tongueBy_36 (lv_at hl 1 rfl) ?_
          have hj_58 : ∀  (H : Heap) (locs : List Loc) (ls : Array Slot), j_X10_tongueBy_58 v_l F x2_1 x3_2 y_one_3 y_two_4 y_ways_5 (lpg (T := Int32 → Int32 → (Nat → Int32) → (Nat → Int32) → (Nat → Int32) → Option (Int32 × (Nat → Int32) × (Nat → Int32) × (Nat → Int32))) (fun _ _ _ _ _ => none) (b_X10_tongueBy_4 p1 v_l v_stands F) n)  = some (o_6, o_7, o_8, o_9) → va_P D vwCl [(q_this, .inr (8, [.ref q_text, .int v_size, .int v_at, .ref q_read, .ref q_l, .ref q_stands, .ref q_kept, .int v_keptMany, .ref q_one, .ref q_two, .ref q_ways, .ref q_now, .ref q_then])), (q_l, .inl (ca 0, 336, .inl v_l)), (q_stands, .inl (ca 0, 16, .inl v_stands)), (q_one, .inl (ca 0, 7, .inl y_one_3)), (q_two, .inl (ca 0, 7, .inl y_two_4)), (q_ways, .inl (ca 0, 49, .inl y_ways_5))] H → va_D A [(q_this, .inr (8, [.ref q_text, .int v_size, .int v_at, .ref q_read, .ref q_l, .ref q_stands, .ref q_kept, .int v_keptMany, .ref q_one, .ref q_two, .ref q_ways, .ref q_now, .ref q_then])), (q_l, .inl (ca 0, 336, .inl v_l)), (q_stands, .inl (ca 0, 16, .inl v_stands)), (q_one, .inl (ca 0, 7, .inl y_one_3)), (q_two, .inl (ca 0, 7, .inl y_two_4)), (q_ways, .inl (ca 0, 49, .inl y_ways_5))] → va_S A s.heap H locs → lv_has ls 7 [(0, .ref q_this), (1, .int p1), (2, .int x2_1), (3, .int x3_2)] → W p l e (headSpec wsX10_tongueBy rm_X10_tongueBy).room s m args below meth c H locs 0 0 Q (F0 m 58 ls []) := by
            intro  H locs ls h hP hD hS hl
            rw [j_X10_tongueBy_58] at h
            refine lv_iconst (v := (nI 0)) hx hb dX10_tongueBy_58 (by decide) ?_
            refine lv_goto (tgt := 85) hx hb dX10_tongueBy_59 (by decide) ?_
            exact hj_85 _ _ _ _ h hP hD hS (lv_sub hl [0, 1, 2, 3] rfl)
          refine lv_if_ne (tgt := 58) hx hb dX10_tongueBy_38 (by decide) (fun c_43 => ?_) (fun c_43 => ?_)
          · replace h := ifn_el c_43 h
            exact hj_58  _ _ _ h hP hD hS (lv_sub hl [2, 3, 4, 5] rfl)
          · replace h := ifp_el c_43 h
            refine lv_iload hx hb dX10_tongueBy_41 (lv_at hl 0 rfl) ?_
            refine lv_aload_n hx hb dX10_tongueBy_43 rfl (lv_at hl 2 rfl) ?_
            refine va_get (D := D) (ci := 8) (v := .ref q_l) (C := RX10) (T := TX10) (N := 13) hx hb hts i_X10 hown hK hP 0 rfl rfl 4 (by decide) k_16 (fun _ h9 => h9) rfl dX10_tongueBy_44 ?_
            refine lv_sipush (v := (nI 299)) hx hb dX10_tongueBy_47 (by decide) ?_
            obtain ⟨hi_44, h⟩ := ck_el h
            refine va_iald hx hb hK hP 1 0 rfl rfl hi_44 dX10_tongueBy_50 ?_
            refine lv_icmp_ne (tgt := 58) hx hb dX10_tongueBy_51 (by decide) (fun c_45 => ?_) (fun c_45 => ?_)
            · replace h := ifn_el c_45 h
              exact hj_58  _ _ _ h hP hD hS (lv_sub hl [2, 3, 4, 5] rfl)
            · replace h := ifp_el c_45 h
              refine lv_iconst (v := (nI 1)) hx hb dX10_tongueBy_54 (by decide) ?_
              refine lv_goto (tgt := 85) hx hb dX10_tongueBy_55 (by decide) ?_
              exact hj_85 _ _ _ _ h hP hD hS (lv_sub hl [2, 3, 4, 5] rfl)
  exact hlp F (nI 0) (nI 0) v_one v_two v_ways o_6 o_7 o_8 o_9 s.heap [] ls hL hex hP hD hS (lv_sub hl [2, 3, 1, 0] rfl)
def b_X10_summer_60 (p1 : Int32) (p2 : Int32) (v_l : Nat → Int32) (x3_7 : Int32) (z0_19 : Int32) (rec60 : Int32 → (Nat → Int32) → Option ((Nat → Int32))) (x5_23 : Int32) (y_stands_24 : Nat → Int32) : Option ((Nat → Int32)) := (if p2 ≤ x5_23 then some (y_stands_24) else (if z0_19 = 0 then some (y_stands_24) else bd1 (D_X10_meetBy p1 x3_7 x5_23 v_l y_stands_24) (fun y_stands_28 => nm (x5_23 + (nI 1)) (fun x5_30 => rec60 x5_30 y_stands_28))))
def j_X10_summer_55 (p1 : Int32) (p2 : Int32) (v_l : Nat → Int32) (F : Nat) (x3_7 : Int32) (y_stands_8 : Nat → Int32) (rec28 : Int32 → (Nat → Int32) → (Nat → Int32) → (Nat → Int32) → (Nat → Int32) → Option ((Nat → Int32) × (Nat → Int32) × (Nat → Int32) × (Nat → Int32))) (z0_19 : Int32) (y_one_20 : Nat → Int32) (y_two_21 : Nat → Int32) (y_ways_22 : Nat → Int32) : Option ((Nat → Int32) × (Nat → Int32) × (Nat → Int32) × (Nat → Int32)) := bd1 (lpg (T := Int32 → (Nat → Int32) → Option ((Nat → Int32))) (fun _ _ => none) (b_X10_summer_60 p1 p2 v_l x3_7 z0_19) F (nI 0) y_stands_8) (fun o_25 => nm (x3_7 + (nI 1)) (fun x3_32 => rec28 x3_32 o_25 y_one_20 y_two_21 y_ways_22))
def j_X10_summer_54 (p1 : Int32) (p2 : Int32) (v_l : Nat → Int32) (F : Nat) (x3_7 : Int32) (y_stands_8 : Nat → Int32) (rec28 : Int32 → (Nat → Int32) → (Nat → Int32) → (Nat → Int32) → (Nat → Int32) → Option ((Nat → Int32) × (Nat → Int32) × (Nat → Int32) × (Nat → Int32))) (y_one_34 : Nat → Int32) (y_two_35 : Nat → Int32) (y_ways_36 : Nat → Int32) : Option ((Nat → Int32) × (Nat → Int32) × (Nat → Int32) × (Nat → Int32)) := j_X10_summer_55 p1 p2 v_l F x3_7 y_stands_8 rec28 (nI 0) y_one_34 y_two_35 y_ways_36
def b_X10_summer_28 (p1 : Int32) (p2 : Int32) (v_l : Nat → Int32) (F : Nat) (rec28 : Int32 → (Nat → Int32) → (Nat → Int32) → (Nat → Int32) → (Nat → Int32) → Option ((Nat → Int32) × (Nat → Int32) × (Nat → Int32) × (Nat → Int32))) (x3_7 : Int32) (y_stands_8 : Nat → Int32) (y_one_9 : Nat → Int32) (y_two_10 : Nat → Int32) (y_ways_11 : Nat → Int32) : Option ((Nat → Int32) × (Nat → Int32) × (Nat → Int32) × (Nat → Int32)) := (if (nI 8) ≤ x3_7 then some (y_stands_8, y_one_9, y_two_10, y_ways_11) else bd1 (D_X10_isTold x3_7 v_l) (fun r_17 => (if r_17 = 0 then j_X10_summer_54 p1 p2 v_l F x3_7 y_stands_8 rec28 y_one_9 y_two_10 y_ways_11 else bd4 (D_X10_isAlike F x3_7 v_l y_one_9 y_two_10 y_ways_11) (fun r_38 y_one_39 y_two_40 y_ways_41 => (if r_38 = 0 then j_X10_summer_55 p1 p2 v_l F x3_7 y_stands_8 rec28 (nI 1) y_one_39 y_two_40 y_ways_41 else j_X10_summer_54 p1 p2 v_l F x3_7 y_stands_8 rec28 y_one_39 y_two_40 y_ways_41)))))
def D_X10_summer (F : Nat) (p1 : Int32) (p2 : Int32) (v_l : Nat → Int32) (v_stands : Nat → Int32) (v_one : Nat → Int32) (v_two : Nat → Int32) (v_ways : Nat → Int32) : Option (Int32 × (Nat → Int32) × (Nat → Int32) × (Nat → Int32) × (Nat → Int32)) := bd1 (D_X10_in p1.toInt64 (lN 0) (lN 9999)) (fun r_1 => (if r_1 = 0 then some ((-1 : Int32), v_stands, v_one, v_two, v_ways) else bd1 (D_X10_in p2.toInt64 (lN 1) (lN 99)) (fun r_4 => (if r_4 = 0 then some ((-1 : Int32), v_stands, v_one, v_two, v_ways) else bd4 (lpg (T := Int32 → (Nat → Int32) → (Nat → Int32) → (Nat → Int32) → (Nat → Int32) → Option ((Nat → Int32) × (Nat → Int32) × (Nat → Int32) × (Nat → Int32))) (fun _ _ _ _ _ => none) (b_X10_summer_28 p1 p2 v_l F) F (nI 0) v_stands v_one v_two v_ways) (fun o_12 o_13 o_14 o_15 => bd4 (D_X10_tongueBy F (nI 0) v_l o_12 o_13 o_14 o_15) (fun r_44 y_one_45 y_two_46 y_ways_47 => bd4 (D_X10_tongueBy F (nI 1) v_l o_12 y_one_45 y_two_46 y_ways_47) (fun r_49 y_one_50 y_two_51 y_ways_52 => bd1 (D_X10_ones F (r_44 ||| r_49)) (fun r_54 => some (r_54, o_12, y_one_50, y_two_51, y_ways_52)))))))))
abbrev rm_X10_summer : Room := { frames := 6, cells := 0, slots := 0, locals := 139 }
set_option maxHeartbeats 4000000 in
set_option maxRecDepth 100000 in
theorem c_X10_summer (l : Launch) (D : va_G) (ca : Nat → ClassId) (F : Nat) (sz : Nat) (q_this q_text q_read q_l q_stands q_kept q_one q_two q_ways q_now q_then : Nat) (p1 : Int32) (p2 : Int32) (v_size : Int32) (v_at : Int32) (v_keptMany : Int32) (v_l : Nat → Int32) (v_stands : Nat → Int32) (v_one : Nat → Int32) (v_two : Nat → Int32) (v_ways : Nat → Int32) (r : Int32) (o_stands : Nat → Int32) (o_one : Nat → Int32) (o_two : Nat → Int32) (o_ways : Nat → Int32) (h : D_X10_summer F p1 p2 v_l v_stands v_one v_two v_ways = some (r, o_stands, o_one, o_two, o_ways)) : Met l yX10_summer wsX10_summer rm_X10_summer (va_Pc [.ref q_this, .int p1, .int p2] (kPre D ca [(q_this, .inr (8, [.ref q_text, .int v_size, .int v_at, .ref q_read, .ref q_l, .ref q_stands, .ref q_kept, .int v_keptMany, .ref q_one, .ref q_two, .ref q_ways, .ref q_now, .ref q_then])), (q_l, .inl (ca 0, 336, .inl v_l)), (q_stands, .inl (ca 0, 16, .inl v_stands)), (q_one, .inl (ca 0, 7, .inl v_one)), (q_two, .inl (ca 0, 7, .inl v_two)), (q_ways, .inl (ca 0, 49, .inl v_ways))] sz)) (kQi D ca (va_A [(q_this, .inr (8, [.ref q_text, .int v_size, .int v_at, .ref q_read, .ref q_l, .ref q_stands, .ref q_kept, .int v_keptMany, .ref q_one, .ref q_two, .ref q_ways, .ref q_now, .ref q_then])), (q_l, .inl (ca 0, 336, .inl v_l)), (q_stands, .inl (ca 0, 16, .inl v_stands)), (q_one, .inl (ca 0, 7, .inl v_one)), (q_two, .inl (ca 0, 7, .inl v_two)), (q_ways, .inl (ca 0, 49, .inl v_ways))] sz) [(q_this, .inr (8, [.ref q_text, .int v_size, .int v_at, .ref q_read, .ref q_l, .ref q_stands, .ref q_kept, .int v_keptMany, .ref q_one, .ref q_two, .ref q_ways, .ref q_now, .ref q_then])), (q_l, .inl (ca 0, 336, .inl v_l)), (q_stands, .inl (ca 0, 16, .inl o_stands)), (q_one, .inl (ca 0, 7, .inl o_one)), (q_two, .inl (ca 0, 7, .inl o_two)), (q_ways, .inl (ca 0, 49, .inl o_ways))] r) 0 0 (va_A [(q_this, .inr (8, [.ref q_text, .int v_size, .int v_at, .ref q_read, .ref q_l, .ref q_stands, .ref q_kept, .int v_keptMany, .ref q_one, .ref q_two, .ref q_ways, .ref q_now, .ref q_then])), (q_l, .inl (ca 0, 336, .inl v_l)), (q_stands, .inl (ca 0, 16, .inl v_stands)), (q_one, .inl (ca 0, 7, .inl v_one)), (q_two, .inl (ca 0, 7, .inl v_two)), (q_ways, .inl (ca 0, 49, .inl v_ways))] sz) := by
  refine Met.ofW (cc := cX10_summer) (maxL := 6) (ret := (some .int)) (by decide +kernel) rfl ?_
  intro p e s m args below meth c s₁ B hml hv
  obtain ⟨rfl, hsz, hP, hK, hD0⟩ := hv
  have hx := B.exec
  have hb := B.bytes
  have hr := B.returns
  have hts := atoms_spec (ws := wsX10_summer) B.pre
  have hown : s.vm.findClass RX10 = some m.cls := findClass_of_methodNamed B.named
  have hlocks := B.notSynchronized
  clear B
  subst hsz
  have hD := hD0.self (sz := s.heap.size)
  generalize hAe : va_A [(q_this, .inr (8, [.ref q_text, .int v_size, .int v_at, .ref q_read, .ref q_l, .ref q_stands, .ref q_kept, .int v_keptMany, .ref q_one, .ref q_two, .ref q_ways, .ref q_now, .ref q_then])), (q_l, .inl (ca 0, 336, .inl v_l)), (q_stands, .inl (ca 0, 16, .inl v_stands)), (q_one, .inl (ca 0, 7, .inl v_one)), (q_two, .inl (ca 0, 7, .inl v_two)), (q_ways, .inl (ca 0, 49, .inl v_ways))] s.heap.size = A at hD ⊢
  have hA : ∀ q : Nat, s.heap.size ≤ q → A q := fun q h => by rw [← hAe]; exact Or.inr h
  have hS : va_S A s.heap s.heap [] := va_S.rf
  have hl := lv_entry ([.ref q_this, .int p1, .int p2]) (n := 6) (Nat.le_of_ble_eq_true rfl)
  rw [lg_entry_eq]
  generalize (lg_sl ([.ref q_this, .int p1, .int p2]) ++ List.replicate (6 - (lg_sl ([.ref q_this, .int p1, .int p2])).length) Slot.unset).toArray = ls at hl ⊢
  have hl : lv_has ls 6 [(0, .ref q_this), (1, .int p1), (2, .int p2)] := hl
  generalize ([.ref q_this, .int p1, .int p2] : List Value).toArray = args at hts ⊢
  generalize hQe : MQ below (kQi D ca (A) [(q_this, .inr (8, [.ref q_text, .int v_size, .int v_at, .ref q_read, .ref q_l, .ref q_stands, .ref q_kept, .int v_keptMany, .ref q_one, .ref q_two, .ref q_ways, .ref q_now, .ref q_then])), (q_l, .inl (ca 0, 336, .inl v_l)), (q_stands, .inl (ca 0, 16, .inl o_stands)), (q_one, .inl (ca 0, 7, .inl o_one)), (q_two, .inl (ca 0, 7, .inl o_two)), (q_ways, .inl (ca 0, 49, .inl o_ways))] r) args s 0 0 A = Q
  have k_217 := hts (.constantLong RX10 217 (lN 9999)) (by decide +kernel)
  have k_219 := hts (.constantLong RX10 219 (lN 99)) (by decide +kernel)
  rw [D_X10_summer] at h
  refine lv_iload_n hx hb dX10_summer_0 rfl (lv_at hl 1 rfl) ?_
  refine lv_i2l hx hb dX10_summer_1 rfl ?_
  refine lv_lconst (v := (lN 0)) hx hb dX10_summer_2 (by decide) ?_
  refine lv_ldc2 hx hb hown k_217 dX10_summer_3 ?_
  obtain ⟨r_1, hg_2, h⟩ := bd1_el h
  refine kx_Si (As := [.long p1.toInt64, .long (lN 0), .long (lN 9999)]) (rest := []) (wr := [(q_this, .inr (8, [.ref q_text, .int v_size, .int v_at, .ref q_read, .ref q_l, .ref q_stands, .ref q_kept, .int v_keptMany, .ref q_one, .ref q_two, .ref q_ways, .ref q_now, .ref q_then])), (q_l, .inl (ca 0, 336, .inl v_l)), (q_stands, .inl (ca 0, 16, .inl v_stands)), (q_one, .inl (ca 0, 7, .inl v_one)), (q_two, .inl (ca 0, 7, .inl v_two)), (q_ways, .inl (ca 0, 49, .inl v_ways))]) (w1 := []) (wn := [(q_this, .inr (8, [.ref q_text, .int v_size, .int v_at, .ref q_read, .ref q_l, .ref q_stands, .ref q_kept, .int v_keptMany, .ref q_one, .ref q_two, .ref q_ways, .ref q_now, .ref q_then])), (q_l, .inl (ca 0, 336, .inl v_l)), (q_stands, .inl (ca 0, 16, .inl v_stands)), (q_one, .inl (ca 0, 7, .inl v_one)), (q_two, .inl (ca 0, 7, .inl v_two)), (q_ways, .inl (ca 0, 49, .inl v_ways))]) ⟨hx, hb, hml, hown, hts⟩ (c_X10_in l D ca s.heap.size p1.toInt64 (lN 0) (lN 9999) r_1 hg_2) (va_cwS 3 hts gX10_summer_X10_in rfl rfl rfl (by decide +kernel) ⟨(Nat.le_of_ble_eq_true rfl), (Nat.le_of_ble_eq_true rfl)⟩) hK hP hD hS hA [] [0, 1, 2, 3, 4, 5] [0, 1, 2, 3, 4, 5] rfl rfl rfl rfl (by decide) rfl rfl rfl hl.1 rfl (Nat.le_of_ble_eq_true rfl) dX10_summer_6 ⟨Nat.zero_le _, Nat.zero_le _⟩ (fun H locs hP hD hS => ?_)
  refine lv_if_eq (tgt := 24) hx hb dX10_summer_9 (by decide) (fun c_3 => ?_) (fun c_3 => ?_)
  · replace h := ifp_el c_3 h
    refine lv_iconst (v := (-1 : Int32)) hx hb dX10_summer_24 (by decide) ?_
    cases h
    rw [← hQe]
    exact W.iret hx hb hr (fun t ht hW => ⟨⟨_, (), rfl, rfl, by rw [ht]; exact hP, va_K.moved hW.alike hK, hD⟩, hS.F ht⟩) hS.2.2 dX10_summer_25
  · replace h := ifn_el c_3 h
    refine lv_iload_n hx hb dX10_summer_12 rfl (lv_at hl 2 rfl) ?_
    refine lv_i2l hx hb dX10_summer_13 rfl ?_
    refine lv_lconst (v := (lN 1)) hx hb dX10_summer_14 (by decide) ?_
    refine lv_ldc2 hx hb hown k_219 dX10_summer_15 ?_
    obtain ⟨r_4, hg_5, h⟩ := bd1_el h
    refine kx_Si (As := [.long p2.toInt64, .long (lN 1), .long (lN 99)]) (rest := []) (wr := [(q_this, .inr (8, [.ref q_text, .int v_size, .int v_at, .ref q_read, .ref q_l, .ref q_stands, .ref q_kept, .int v_keptMany, .ref q_one, .ref q_two, .ref q_ways, .ref q_now, .ref q_then])), (q_l, .inl (ca 0, 336, .inl v_l)), (q_stands, .inl (ca 0, 16, .inl v_stands)), (q_one, .inl (ca 0, 7, .inl v_one)), (q_two, .inl (ca 0, 7, .inl v_two)), (q_ways, .inl (ca 0, 49, .inl v_ways))]) (w1 := []) (wn := [(q_this, .inr (8, [.ref q_text, .int v_size, .int v_at, .ref q_read, .ref q_l, .ref q_stands, .ref q_kept, .int v_keptMany, .ref q_one, .ref q_two, .ref q_ways, .ref q_now, .ref q_then])), (q_l, .inl (ca 0, 336, .inl v_l)), (q_stands, .inl (ca 0, 16, .inl v_stands)), (q_one, .inl (ca 0, 7, .inl v_one)), (q_two, .inl (ca 0, 7, .inl v_two)), (q_ways, .inl (ca 0, 49, .inl v_ways))]) ⟨hx, hb, hml, hown, hts⟩ (c_X10_in l D ca H.size p2.toInt64 (lN 1) (lN 99) r_4 hg_5) (va_cwS 3 hts gX10_summer_X10_in rfl rfl rfl (by decide +kernel) ⟨(Nat.le_of_ble_eq_true rfl), (Nat.le_of_ble_eq_true rfl)⟩) hK hP hD hS hA [] [0, 1, 2, 3, 4, 5] [0, 1, 2, 3, 4, 5] rfl rfl rfl rfl (by decide) rfl rfl rfl hl.1 rfl (Nat.le_of_ble_eq_true rfl) dX10_summer_18 ⟨Nat.zero_le _, Nat.zero_le _⟩ (fun H locs hP hD hS => ?_)
    refine lv_if_ne (tgt := 26) hx hb dX10_summer_21 (by decide) (fun c_6 => ?_) (fun c_6 => ?_)
    · replace h := ifn_el c_6 h
      refine lv_iconst (v := (nI 0)) hx hb dX10_summer_26 (by decide) ?_
      refine lv_istore_n (lv' := [(3, .int (nI 0)), (0, .ref q_this), (1, .int p1), (2, .int p2)]) hx hb dX10_summer_27 rfl hl (by decide) rfl (fun ls hl => ?_)
      obtain ⟨o_12, o_13, o_14, o_15, hL, h⟩ := bd4_el h
      have hex : ∀ (H : Heap) (locs : List Loc) (ls : Array Slot), va_P D vwCl [(q_this, .inr (8, [.ref q_text, .int v_size, .int v_at, .ref q_read, .ref q_l, .ref q_stands, .ref q_kept, .int v_keptMany, .ref q_one, .ref q_two, .ref q_ways, .ref q_now, .ref q_then])), (q_l, .inl (ca 0, 336, .inl v_l)), (q_stands, .inl (ca 0, 16, .inl o_12)), (q_one, .inl (ca 0, 7, .inl o_13)), (q_two, .inl (ca 0, 7, .inl o_14)), (q_ways, .inl (ca 0, 49, .inl o_15))] H → va_D A [(q_this, .inr (8, [.ref q_text, .int v_size, .int v_at, .ref q_read, .ref q_l, .ref q_stands, .ref q_kept, .int v_keptMany, .ref q_one, .ref q_two, .ref q_ways, .ref q_now, .ref q_then])), (q_l, .inl (ca 0, 336, .inl v_l)), (q_stands, .inl (ca 0, 16, .inl o_12)), (q_one, .inl (ca 0, 7, .inl o_13)), (q_two, .inl (ca 0, 7, .inl o_14)), (q_ways, .inl (ca 0, 49, .inl o_15))] → va_S A s.heap H locs → lv_has ls 6 [(0, .ref q_this)] → W p l e (headSpec wsX10_summer rm_X10_summer).room s m args below meth c H locs 0 0 Q (F0 m 91 ls []) := by
        intro H locs ls hP hD hS hl
        refine lv_aload_n hx hb dX10_summer_91 rfl (lv_at hl 0 rfl) ?_
        refine lv_iconst (v := (nI 0)) hx hb dX10_summer_92 (by decide) ?_
        obtain ⟨r_44, y_one_45, y_two_46, y_ways_47, hg_48, h⟩ := bd4_el h
        refine kx_Vi (As := [.int (nI 0)]) (rest := []) (wr := []) (w1 := [(q_this, .inr (8, [.ref q_text, .int v_size, .int v_at, .ref q_read, .ref q_l, .ref q_stands, .ref q_kept, .int v_keptMany, .ref q_one, .ref q_two, .ref q_ways, .ref q_now, .ref q_then])), (q_l, .inl (ca 0, 336, .inl v_l)), (q_stands, .inl (ca 0, 16, .inl o_12)), (q_one, .inl (ca 0, 7, .inl y_one_45)), (q_two, .inl (ca 0, 7, .inl y_two_46)), (q_ways, .inl (ca 0, 49, .inl y_ways_47))]) (wn := [(q_this, .inr (8, [.ref q_text, .int v_size, .int v_at, .ref q_read, .ref q_l, .ref q_stands, .ref q_kept, .int v_keptMany, .ref q_one, .ref q_two, .ref q_ways, .ref q_now, .ref q_then])), (q_l, .inl (ca 0, 336, .inl v_l)), (q_stands, .inl (ca 0, 16, .inl o_12)), (q_one, .inl (ca 0, 7, .inl y_one_45)), (q_two, .inl (ca 0, 7, .inl y_two_46)), (q_ways, .inl (ca 0, 49, .inl y_ways_47))]) ⟨hx, hb, hml, hown, hts⟩ (c_X10_tongueBy l D ca F H.size q_this q_text q_read q_l q_stands q_kept q_one q_two q_ways q_now q_then (nI 0) v_size v_at v_keptMany v_l o_12 o_13 o_14 o_15 r_44 y_one_45 y_two_46 y_ways_47 hg_48) (cwV 1 hts gX10_summer_X10_tongueBy rfl rfl rfl (by decide +kernel) ⟨(Nat.le_of_ble_eq_true rfl), (Nat.le_of_ble_eq_true rfl)⟩) hK hP hD hS hA (ci := 8) (q0 := 0) rfl rfl [0, 1, 2, 3, 4, 5] [] [0, 1, 2, 3, 4, 5] rfl rfl rfl rfl (by decide) rfl rfl rfl hl.1 rfl (Nat.le_of_ble_eq_true rfl) dX10_summer_93 ⟨Nat.zero_le _, Nat.zero_le _⟩ (fun H locs hP hD hS => ?_)
        refine lv_aload_n hx hb dX10_summer_96 rfl (lv_at hl 0 rfl) ?_
        refine lv_iconst (v := (nI 1)) hx hb dX10_summer_97 (by decide) ?_
        obtain ⟨r_49, y_one_50, y_two_51, y_ways_52, hg_53, h⟩ := bd4_el h
        refine kx_Vi (As := [.int (nI 1)]) (rest := [.int r_44]) (wr := []) (w1 := [(q_this, .inr (8, [.ref q_text, .int v_size, .int v_at, .ref q_read, .ref q_l, .ref q_stands, .ref q_kept, .int v_keptMany, .ref q_one, .ref q_two, .ref q_ways, .ref q_now, .ref q_then])), (q_l, .inl (ca 0, 336, .inl v_l)), (q_stands, .inl (ca 0, 16, .inl o_12)), (q_one, .inl (ca 0, 7, .inl y_one_50)), (q_two, .inl (ca 0, 7, .inl y_two_51)), (q_ways, .inl (ca 0, 49, .inl y_ways_52))]) (wn := [(q_this, .inr (8, [.ref q_text, .int v_size, .int v_at, .ref q_read, .ref q_l, .ref q_stands, .ref q_kept, .int v_keptMany, .ref q_one, .ref q_two, .ref q_ways, .ref q_now, .ref q_then])), (q_l, .inl (ca 0, 336, .inl v_l)), (q_stands, .inl (ca 0, 16, .inl o_12)), (q_one, .inl (ca 0, 7, .inl y_one_50)), (q_two, .inl (ca 0, 7, .inl y_two_51)), (q_ways, .inl (ca 0, 49, .inl y_ways_52))]) ⟨hx, hb, hml, hown, hts⟩ (c_X10_tongueBy l D ca F H.size q_this q_text q_read q_l q_stands q_kept q_one q_two q_ways q_now q_then (nI 1) v_size v_at v_keptMany v_l o_12 y_one_45 y_two_46 y_ways_47 r_49 y_one_50 y_two_51 y_ways_52 hg_53) (cwV 1 hts gX10_summer_X10_tongueBy rfl rfl rfl (by decide +kernel) ⟨(Nat.le_of_ble_eq_true rfl), (Nat.le_of_ble_eq_true rfl)⟩) hK hP hD hS hA (ci := 8) (q0 := 0) rfl rfl [0, 1, 2, 3, 4, 5] [] [0, 1, 2, 3, 4, 5] rfl rfl rfl rfl (by decide) rfl rfl rfl hl.1 rfl (Nat.le_of_ble_eq_true rfl) dX10_summer_98 ⟨Nat.zero_le _, Nat.zero_le _⟩ (fun H locs hP hD hS => ?_)
        refine lv_ior hx hb dX10_summer_101 ?_
        obtain ⟨r_54, hg_55, h⟩ := bd1_el h
        refine kx_Si (As := [.int (r_44 ||| r_49)]) (rest := []) (wr := [(q_this, .inr (8, [.ref q_text, .int v_size, .int v_at, .ref q_read, .ref q_l, .ref q_stands, .ref q_kept, .int v_keptMany, .ref q_one, .ref q_two, .ref q_ways, .ref q_now, .ref q_then])), (q_l, .inl (ca 0, 336, .inl v_l)), (q_stands, .inl (ca 0, 16, .inl o_12)), (q_one, .inl (ca 0, 7, .inl y_one_50)), (q_two, .inl (ca 0, 7, .inl y_two_51)), (q_ways, .inl (ca 0, 49, .inl y_ways_52))]) (w1 := []) (wn := [(q_this, .inr (8, [.ref q_text, .int v_size, .int v_at, .ref q_read, .ref q_l, .ref q_stands, .ref q_kept, .int v_keptMany, .ref q_one, .ref q_two, .ref q_ways, .ref q_now, .ref q_then])), (q_l, .inl (ca 0, 336, .inl v_l)), (q_stands, .inl (ca 0, 16, .inl o_12)), (q_one, .inl (ca 0, 7, .inl y_one_50)), (q_two, .inl (ca 0, 7, .inl y_two_51)), (q_ways, .inl (ca 0, 49, .inl y_ways_52))]) ⟨hx, hb, hml, hown, hts⟩ (c_X10_ones l D ca F H.size (r_44 ||| r_49) r_54 hg_55) (va_cwS 1 hts gX10_summer_X10_ones rfl rfl rfl (by decide +kernel) ⟨(Nat.le_of_ble_eq_true rfl), (Nat.le_of_ble_eq_true rfl)⟩) hK hP hD hS hA [] [0, 1, 2, 3, 4, 5] [0, 1, 2, 3, 4, 5] rfl rfl rfl rfl (by decide) rfl rfl rfl hl.1 rfl (Nat.le_of_ble_eq_true rfl) dX10_summer_102 ⟨Nat.zero_le _, Nat.zero_le _⟩ (fun H locs hP hD hS => ?_)
        cases h
        rw [← hQe]
        exact W.iret hx hb hr (fun t ht hW => ⟨⟨_, (), rfl, rfl, by rw [ht]; exact hP, va_K.moved hW.alike hK, hD⟩, hS.F ht⟩) hS.2.2 dX10_summer_105
      have hlp : ∀ (n : Nat) (x3_7 : Int32) (y_stands_8 : Nat → Int32) (y_one_9 : Nat → Int32) (y_two_10 : Nat → Int32) (y_ways_11 : Nat → Int32) (o_12 : Nat → Int32) (o_13 : Nat → Int32) (o_14 : Nat → Int32) (o_15 : Nat → Int32) (H : Heap) (locs : List Loc) (ls : Array Slot), lpg (T := Int32 → (Nat → Int32) → (Nat → Int32) → (Nat → Int32) → (Nat → Int32) → Option ((Nat → Int32) × (Nat → Int32) × (Nat → Int32) × (Nat → Int32))) (fun _ _ _ _ _ => none) (b_X10_summer_28 p1 p2 v_l F) n x3_7 y_stands_8 y_one_9 y_two_10 y_ways_11 = some (o_12, o_13, o_14, o_15) → (∀ (H : Heap) (locs : List Loc) (ls : Array Slot), va_P D vwCl [(q_this, .inr (8, [.ref q_text, .int v_size, .int v_at, .ref q_read, .ref q_l, .ref q_stands, .ref q_kept, .int v_keptMany, .ref q_one, .ref q_two, .ref q_ways, .ref q_now, .ref q_then])), (q_l, .inl (ca 0, 336, .inl v_l)), (q_stands, .inl (ca 0, 16, .inl o_12)), (q_one, .inl (ca 0, 7, .inl o_13)), (q_two, .inl (ca 0, 7, .inl o_14)), (q_ways, .inl (ca 0, 49, .inl o_15))] H → va_D A [(q_this, .inr (8, [.ref q_text, .int v_size, .int v_at, .ref q_read, .ref q_l, .ref q_stands, .ref q_kept, .int v_keptMany, .ref q_one, .ref q_two, .ref q_ways, .ref q_now, .ref q_then])), (q_l, .inl (ca 0, 336, .inl v_l)), (q_stands, .inl (ca 0, 16, .inl o_12)), (q_one, .inl (ca 0, 7, .inl o_13)), (q_two, .inl (ca 0, 7, .inl o_14)), (q_ways, .inl (ca 0, 49, .inl o_15))] → va_S A s.heap H locs → lv_has ls 6 [(0, .ref q_this)] → W p l e (headSpec wsX10_summer rm_X10_summer).room s m args below meth c H locs 0 0 Q (F0 m 91 ls [])) → va_P D vwCl [(q_this, .inr (8, [.ref q_text, .int v_size, .int v_at, .ref q_read, .ref q_l, .ref q_stands, .ref q_kept, .int v_keptMany, .ref q_one, .ref q_two, .ref q_ways, .ref q_now, .ref q_then])), (q_l, .inl (ca 0, 336, .inl v_l)), (q_stands, .inl (ca 0, 16, .inl y_stands_8)), (q_one, .inl (ca 0, 7, .inl y_one_9)), (q_two, .inl (ca 0, 7, .inl y_two_10)), (q_ways, .inl (ca 0, 49, .inl y_ways_11))] H → va_D A [(q_this, .inr (8, [.ref q_text, .int v_size, .int v_at, .ref q_read, .ref q_l, .ref q_stands, .ref q_kept, .int v_keptMany, .ref q_one, .ref q_two, .ref q_ways, .ref q_now, .ref q_then])), (q_l, .inl (ca 0, 336, .inl v_l)), (q_stands, .inl (ca 0, 16, .inl y_stands_8)), (q_one, .inl (ca 0, 7, .inl y_one_9)), (q_two, .inl (ca 0, 7, .inl y_two_10)), (q_ways, .inl (ca 0, 49, .inl y_ways_11))] → va_S A s.heap H locs → lv_has ls 6 [(0, .ref q_this), (1, .int p1), (2, .int p2), (3, .int x3_7)] → W p l e (headSpec wsX10_summer rm_X10_summer).room s m args below meth c H locs 0 0 Q (F0 m 28 ls []) := by
        intro n
        induction n with
        | zero => intro x3_7 y_stands_8 y_one_9 y_two_10 y_ways_11 o_12 o_13 o_14 o_15 H locs ls h; have h : (none : Option ((Nat → Int32) × (Nat → Int32) × (Nat → Int32) × (Nat → Int32))) = some _ := h; cases h
        | succ n ih =>
          intro x3_7 y_stands_8 y_one_9 y_two_10 y_ways_11 o_12 o_13 o_14 o_15 H locs ls h hex hP hD hS hl
          rw [lpg_succ, b_X10_summer_28] at h
          refine lv_iload_n hx hb dX10_summer_28 rfl (lv_at hl 3 rfl) ?_
          refine lv_bipush (v := (nI 8)) hx hb dX10_summer_29 (by decide) ?_
          refine lv_icmp_ge (tgt := 91) hx hb dX10_summer_31 (by decide) (fun c_16 => ?_) (fun c_16 => ?_)
          · replace h := ifp_el c_16 h
            cases h
            exact hex _ _ _ hP hD hS (lv_sub hl [0] rfl)
          · replace h := ifn_el c_16 h
            refine lv_aload_n hx hb dX10_summer_34 rfl (lv_at hl 0 rfl) ?_
            refine lv_iload_n hx hb dX10_summer_35 rfl (lv_at hl 3 rfl) ?_
            obtain ⟨r_17, hg_18, h⟩ := bd1_el h
            refine kx_Vi (As := [.int x3_7]) (rest := []) (wr := [(q_stands, .inl (ca 0, 16, .inl y_stands_8)), (q_one, .inl (ca 0, 7, .inl y_one_9)), (q_two, .inl (ca 0, 7, .inl y_two_10)), (q_ways, .inl (ca 0, 49, .inl y_ways_11))]) (w1 := [(q_this, .inr (8, [.ref q_text, .int v_size, .int v_at, .ref q_read, .ref q_l, .ref q_stands, .ref q_kept, .int v_keptMany, .ref q_one, .ref q_two, .ref q_ways, .ref q_now, .ref q_then])), (q_l, .inl (ca 0, 336, .inl v_l))]) (wn := [(q_this, .inr (8, [.ref q_text, .int v_size, .int v_at, .ref q_read, .ref q_l, .ref q_stands, .ref q_kept, .int v_keptMany, .ref q_one, .ref q_two, .ref q_ways, .ref q_now, .ref q_then])), (q_l, .inl (ca 0, 336, .inl v_l)), (q_stands, .inl (ca 0, 16, .inl y_stands_8)), (q_one, .inl (ca 0, 7, .inl y_one_9)), (q_two, .inl (ca 0, 7, .inl y_two_10)), (q_ways, .inl (ca 0, 49, .inl y_ways_11))]) ⟨hx, hb, hml, hown, hts⟩ (c_X10_isTold l D ca H.size q_this q_text q_read q_l q_stands q_kept q_one q_two q_ways q_now q_then x3_7 v_size v_at v_keptMany v_l r_17 hg_18) (cwV 1 hts gX10_summer_X10_isTold rfl rfl rfl (by decide +kernel) ⟨(Nat.le_of_ble_eq_true rfl), (Nat.le_of_ble_eq_true rfl)⟩) hK hP hD hS hA (ci := 8) (q0 := 0) rfl rfl [0, 1] [2, 3, 4, 5] [4, 5, 0, 1, 2, 3] rfl rfl rfl rfl (by decide) rfl rfl rfl hl.1 rfl (Nat.le_of_ble_eq_true rfl) dX10_summer_36 ⟨Nat.zero_le _, Nat.zero_le _⟩ (fun H locs hP hD hS => ?_)
            have hj_55 : ∀ (z0_19 : Int32) (y_one_20 : Nat → Int32) (y_two_21 : Nat → Int32) (y_ways_22 : Nat → Int32) (H : Heap) (locs : List Loc) (ls : Array Slot), j_X10_summer_55 p1 p2 v_l F x3_7 y_stands_8 (lpg (T := Int32 → (Nat → Int32) → (Nat → Int32) → (Nat → Int32) → (Nat → Int32) → Option ((Nat → Int32) × (Nat → Int32) × (Nat → Int32) × (Nat → Int32))) (fun _ _ _ _ _ => none) (b_X10_summer_28 p1 p2 v_l F) n) z0_19 y_one_20 y_two_21 y_ways_22 = some (o_12, o_13, o_14, o_15) → va_P D vwCl [(q_this, .inr (8, [.ref q_text, .int v_size, .int v_at, .ref q_read, .ref q_l, .ref q_stands, .ref q_kept, .int v_keptMany, .ref q_one, .ref q_two, .ref q_ways, .ref q_now, .ref q_then])), (q_l, .inl (ca 0, 336, .inl v_l)), (q_stands, .inl (ca 0, 16, .inl y_stands_8)), (q_one, .inl (ca 0, 7, .inl y_one_20)), (q_two, .inl (ca 0, 7, .inl y_two_21)), (q_ways, .inl (ca 0, 49, .inl y_ways_22))] H → va_D A [(q_this, .inr (8, [.ref q_text, .int v_size, .int v_at, .ref q_read, .ref q_l, .ref q_stands, .ref q_kept, .int v_keptMany, .ref q_one, .ref q_two, .ref q_ways, .ref q_now, .ref q_then])), (q_l, .inl (ca 0, 336, .inl v_l)), (q_stands, .inl (ca 0, 16, .inl y_stands_8)), (q_one, .inl (ca 0, 7, .inl y_one_20)), (q_two, .inl (ca 0, 7, .inl y_two_21)), (q_ways, .inl (ca 0, 49, .inl y_ways_22))] → va_S A s.heap H locs → lv_has ls 6 [(0, .ref q_this), (1, .int p1), (2, .int p2), (3, .int x3_7)] → W p l e (headSpec wsX10_summer rm_X10_summer).room s m args below meth c H locs 0 0 Q (F0 m 55 ls [.int z0_19]) := by
              intro z0_19 y_one_20 y_two_21 y_ways_22 H locs ls h hP hD hS hl
              rw [j_X10_summer_55] at h
              refine lv_istore (lv' := [(4, .int z0_19), (0, .ref q_this), (1, .int p1), (2, .int p2), (3, .int x3_7)]) hx hb dX10_summer_55 hl (by decide) rfl (fun ls hl => ?_)
              refine lv_iconst (v := (nI 0)) hx hb dX10_summer_57 (by decide) ?_
              refine lv_istore (lv' := [(5, .int (nI 0)), (4, .int z0_19), (0, .ref q_this), (1, .int p1), (2, .int p2), (3, .int x3_7)]) hx hb dX10_summer_58 hl (by decide) rfl (fun ls hl => ?_)
              obtain ⟨o_25, hL, h⟩ := bd1_el h
              have hex : ∀ (H : Heap) (locs : List Loc) (ls : Array Slot), va_P D vwCl [(q_this, .inr (8, [.ref q_text, .int v_size, .int v_at, .ref q_read, .ref q_l, .ref q_stands, .ref q_kept, .int v_keptMany, .ref q_one, .ref q_two, .ref q_ways, .ref q_now, .ref q_then])), (q_l, .inl (ca 0, 336, .inl v_l)), (q_stands, .inl (ca 0, 16, .inl o_25)), (q_one, .inl (ca 0, 7, .inl y_one_20)), (q_two, .inl (ca 0, 7, .inl y_two_21)), (q_ways, .inl (ca 0, 49, .inl y_ways_22))] H → va_D A [(q_this, .inr (8, [.ref q_text, .int v_size, .int v_at, .ref q_read, .ref q_l, .ref q_stands, .ref q_kept, .int v_keptMany, .ref q_one, .ref q_two, .ref q_ways, .ref q_now, .ref q_then])), (q_l, .inl (ca 0, 336, .inl v_l)), (q_stands, .inl (ca 0, 16, .inl o_25)), (q_one, .inl (ca 0, 7, .inl y_one_20)), (q_two, .inl (ca 0, 7, .inl y_two_21)), (q_ways, .inl (ca 0, 49, .inl y_ways_22))] → va_S A s.heap H locs → lv_has ls 6 [(0, .ref q_this), (1, .int p1), (2, .int p2), (3, .int x3_7)] → W p l e (headSpec wsX10_summer rm_X10_summer).room s m args below meth c H locs 0 0 Q (F0 m 85 ls []) := by
                intro H locs ls hP hD hS hl
                obtain ⟨x3_32, e_33, h⟩ := nm_el h
                refine lv_iinc (v := x3_32) (lv' := [(3, .int x3_32), (0, .ref q_this), (1, .int p1), (2, .int p2)]) hx hb dX10_summer_85 hl (k := 3) rfl (by rw [← e_33]; rfl) (by decide) rfl (fun ls hl => ?_)
                refine lv_goto (tgt := 28) hx hb dX10_summer_88 (by decide) ?_
                exact ih _ _ _ _ _ _ _ _ _ _ _ _ h hex hP hD hS (lv_sub hl [1, 2, 3, 0] rfl)
              have hlp : ∀ (n : Nat) (x5_23 : Int32) (y_stands_24 : Nat → Int32) (o_25 : Nat → Int32) (H : Heap) (locs : List Loc) (ls : Array Slot), lpg (T := Int32 → (Nat → Int32) → Option ((Nat → Int32))) (fun _ _ => none) (b_X10_summer_60 p1 p2 v_l x3_7 z0_19) n x5_23 y_stands_24 = some (o_25) → (∀ (H : Heap) (locs : List Loc) (ls : Array Slot), va_P D vwCl [(q_this, .inr (8, [.ref q_text, .int v_size, .int v_at, .ref q_read, .ref q_l, .ref q_stands, .ref q_kept, .int v_keptMany, .ref q_one, .ref q_two, .ref q_ways, .ref q_now, .ref q_then])), (q_l, .inl (ca 0, 336, .inl v_l)), (q_stands, .inl (ca 0, 16, .inl o_25)), (q_one, .inl (ca 0, 7, .inl y_one_20)), (q_two, .inl (ca 0, 7, .inl y_two_21)), (q_ways, .inl (ca 0, 49, .inl y_ways_22))] H → va_D A [(q_this, .inr (8, [.ref q_text, .int v_size, .int v_at, .ref q_read, .ref q_l, .ref q_stands, .ref q_kept, .int v_keptMany, .ref q_one, .ref q_two, .ref q_ways, .ref q_now, .ref q_then])), (q_l, .inl (ca 0, 336, .inl v_l)), (q_stands, .inl (ca 0, 16, .inl o_25)), (q_one, .inl (ca 0, 7, .inl y_one_20)), (q_two, .inl (ca 0, 7, .inl y_two_21)), (q_ways, .inl (ca 0, 49, .inl y_ways_22))] → va_S A s.heap H locs → lv_has ls 6 [(0, .ref q_this), (1, .int p1), (2, .int p2), (3, .int x3_7)] → W p l e (headSpec wsX10_summer rm_X10_summer).room s m args below meth c H locs 0 0 Q (F0 m 85 ls [])) → va_P D vwCl [(q_this, .inr (8, [.ref q_text, .int v_size, .int v_at, .ref q_read, .ref q_l, .ref q_stands, .ref q_kept, .int v_keptMany, .ref q_one, .ref q_two, .ref q_ways, .ref q_now, .ref q_then])), (q_l, .inl (ca 0, 336, .inl v_l)), (q_stands, .inl (ca 0, 16, .inl y_stands_24)), (q_one, .inl (ca 0, 7, .inl y_one_20)), (q_two, .inl (ca 0, 7, .inl y_two_21)), (q_ways, .inl (ca 0, 49, .inl y_ways_22))] H → va_D A [(q_this, .inr (8, [.ref q_text, .int v_size, .int v_at, .ref q_read, .ref q_l, .ref q_stands, .ref q_kept, .int v_keptMany, .ref q_one, .ref q_two, .ref q_ways, .ref q_now, .ref q_then])), (q_l, .inl (ca 0, 336, .inl v_l)), (q_stands, .inl (ca 0, 16, .inl y_stands_24)), (q_one, .inl (ca 0, 7, .inl y_one_20)), (q_two, .inl (ca 0, 7, .inl y_two_21)), (q_ways, .inl (ca 0, 49, .inl y_ways_22))] → va_S A s.heap H locs → lv_has ls 6 [(0, .ref q_this), (1, .int p1), (2, .int p2), (3, .int x3_7), (4, .int z0_19), (5, .int x5_23)] → W p l e (headSpec wsX10_summer rm_X10_summer).room s m args below meth c H locs 0 0 Q (F0 m 60 ls []) := by
                intro n
                induction n with
                | zero => intro x5_23 y_stands_24 o_25 H locs ls h; have h : (none : Option ((Nat → Int32))) = some _ := h; cases h
                | succ n ih =>
                  intro x5_23 y_stands_24 o_25 H locs ls h hex hP hD hS hl
                  rw [lpg_succ, b_X10_summer_60] at h
                  refine lv_iload hx hb dX10_summer_60 (lv_at hl 5 rfl) ?_
                  refine lv_iload_n hx hb dX10_summer_62 rfl (lv_at hl 2 rfl) ?_
                  refine lv_icmp_ge (tgt := 85) hx hb dX10_summer_63 (by decide) (fun c_26 => ?_) (fun c_26 => ?_)
                  · replace h := ifp_el c_26 h
                    cases h
                    exact hex _ _ _ hP hD hS (lv_sub hl [0, 1, 2, 3] rfl)
                  · replace h := ifn_el c_26 h
                    refine lv_iload hx hb dX10_summer_66 (lv_at hl 4 rfl) ?_
                    refine lv_if_eq (tgt := 85) hx hb dX10_summer_68 (by decide) (fun c_27 => ?_) (fun c_27 => ?_)
                    · replace h := ifp_el c_27 h
                      cases h
                      exact hex _ _ _ hP hD hS (lv_sub hl [0, 1, 2, 3] rfl)
                    · replace h := ifn_el c_27 h
                      refine lv_aload_n hx hb dX10_summer_71 rfl (lv_at hl 0 rfl) ?_
                      refine lv_iload_n hx hb dX10_summer_72 rfl (lv_at hl 1 rfl) ?_
                      refine lv_iload_n hx hb dX10_summer_73 rfl (lv_at hl 3 rfl) ?_
                      refine lv_iload hx hb dX10_summer_74 (lv_at hl 5 rfl) ?_
                      obtain ⟨y_stands_28, hg_29, h⟩ := bd1_el h
                      refine kx_Vv (As := [.int p1, .int x3_7, .int x5_23]) (rest := []) (wr := [(q_one, .inl (ca 0, 7, .inl y_one_20)), (q_two, .inl (ca 0, 7, .inl y_two_21)), (q_ways, .inl (ca 0, 49, .inl y_ways_22))]) (w1 := [(q_this, .inr (8, [.ref q_text, .int v_size, .int v_at, .ref q_read, .ref q_l, .ref q_stands, .ref q_kept, .int v_keptMany, .ref q_one, .ref q_two, .ref q_ways, .ref q_now, .ref q_then])), (q_l, .inl (ca 0, 336, .inl v_l)), (q_stands, .inl (ca 0, 16, .inl y_stands_28))]) (wn := [(q_this, .inr (8, [.ref q_text, .int v_size, .int v_at, .ref q_read, .ref q_l, .ref q_stands, .ref q_kept, .int v_keptMany, .ref q_one, .ref q_two, .ref q_ways, .ref q_now, .ref q_then])), (q_l, .inl (ca 0, 336, .inl v_l)), (q_stands, .inl (ca 0, 16, .inl y_stands_28)), (q_one, .inl (ca 0, 7, .inl y_one_20)), (q_two, .inl (ca 0, 7, .inl y_two_21)), (q_ways, .inl (ca 0, 49, .inl y_ways_22))]) ⟨hx, hb, hml, hown, hts⟩ (c_X10_meetBy l D ca H.size q_this q_text q_read q_l q_stands q_kept q_one q_two q_ways q_now q_then p1 x3_7 x5_23 v_size v_at v_keptMany v_l y_stands_24 y_stands_28 hg_29) (cwV 3 hts gX10_summer_X10_meetBy rfl rfl rfl (by decide +kernel) ⟨(Nat.le_of_ble_eq_true rfl), (Nat.le_of_ble_eq_true rfl)⟩) hK hP hD hS hA (ci := 8) (q0 := 0) rfl rfl [0, 1, 2] [3, 4, 5] [3, 4, 5, 0, 1, 2] rfl rfl rfl rfl (by decide) rfl rfl rfl hl.1 rfl (Nat.le_of_ble_eq_true rfl) dX10_summer_76 ⟨Nat.zero_le _, Nat.zero_le _⟩ (fun H locs hP hD hS => ?_)
                      obtain ⟨x5_30, e_31, h⟩ := nm_el h
                      refine lv_iinc (v := x5_30) (lv' := [(5, .int x5_30), (0, .ref q_this), (1, .int p1), (2, .int p2), (3, .int x3_7), (4, .int z0_19)]) hx hb dX10_summer_79 hl (k := 5) rfl (by rw [← e_31]; rfl) (by decide) rfl (fun ls hl => ?_)
                      refine lv_goto (tgt := 60) hx hb dX10_summer_82 (by decide) ?_
                      exact ih _ _ _ _ _ _ h hex hP hD hS (lv_sub hl [1, 2, 3, 4, 5, 0] rfl)
              exact hlp F (nI 0) y_stands_8 o_25 H locs ls hL hex hP hD hS (lv_sub hl [2, 3, 4, 5, 1, 0] rfl)
            have hj_54 : ∀ (y_one_34 : Nat → Int32) (y_two_35 : Nat → Int32) (y_ways_36 : Nat → Int32) (H : Heap) (locs : List Loc) (ls : Array Slot), j_X10_summer_54 p1 p2 v_l F x3_7 y_stands_8 (lpg (T := Int32 → (Nat → Int32) → (Nat → Int32) → (Nat → Int32) → (Nat → Int32) → Option ((Nat → Int32) × (Nat → Int32) × (Nat → Int32) × (Nat → Int32))) (fun _ _ _ _ _ => none) (b_X10_summer_28 p1 p2 v_l F) n) y_one_34 y_two_35 y_ways_36 = some (o_12, o_13, o_14, o_15) → va_P D vwCl [(q_this, .inr (8, [.ref q_text, .int v_size, .int v_at, .ref q_read, .ref q_l, .ref q_stands, .ref q_kept, .int v_keptMany, .ref q_one, .ref q_two, .ref q_ways, .ref q_now, .ref q_then])), (q_l, .inl (ca 0, 336, .inl v_l)), (q_stands, .inl (ca 0, 16, .inl y_stands_8)), (q_one, .inl (ca 0, 7, .inl y_one_34)), (q_two, .inl (ca 0, 7, .inl y_two_35)), (q_ways, .inl (ca 0, 49, .inl y_ways_36))] H → va_D A [(q_this, .inr (8, [.ref q_text, .int v_size, .int v_at, .ref q_read, .ref q_l, .ref q_stands, .ref q_kept, .int v_keptMany, .ref q_one, .ref q_two, .ref q_ways, .ref q_now, .ref q_then])), (q_l, .inl (ca 0, 336, .inl v_l)), (q_stands, .inl (ca 0, 16, .inl y_stands_8)), (q_one, .inl (ca 0, 7, .inl y_one_34)), (q_two, .inl (ca 0, 7, .inl y_two_35)), (q_ways, .inl (ca 0, 49, .inl y_ways_36))] → va_S A s.heap H locs → lv_has ls 6 [(0, .ref q_this), (1, .int p1), (2, .int p2), (3, .int x3_7)] → W p l e (headSpec wsX10_summer rm_X10_summer).room s m args below meth c H locs 0 0 Q (F0 m 54 ls []) := by
              intro y_one_34 y_two_35 y_ways_36 H locs ls h hP hD hS hl
              rw [j_X10_summer_54] at h
              refine lv_iconst (v := (nI 0)) hx hb dX10_summer_54 (by decide) ?_
              exact hj_55 _ _ _ _ _ _ _ h hP hD hS (lv_sub hl [0, 1, 2, 3] rfl)
            refine lv_if_eq (tgt := 54) hx hb dX10_summer_39 (by decide) (fun c_37 => ?_) (fun c_37 => ?_)
            · replace h := ifp_el c_37 h
              exact hj_54 _ _ _ _ _ _ h hP hD hS (lv_sub hl [0, 1, 2, 3] rfl)
            · replace h := ifn_el c_37 h
              refine lv_aload_n hx hb dX10_summer_42 rfl (lv_at hl 0 rfl) ?_
              refine lv_iload_n hx hb dX10_summer_43 rfl (lv_at hl 3 rfl) ?_
              obtain ⟨r_38, y_one_39, y_two_40, y_ways_41, hg_42, h⟩ := bd4_el h
              refine kx_Vi (As := [.int x3_7]) (rest := []) (wr := [(q_stands, .inl (ca 0, 16, .inl y_stands_8))]) (w1 := [(q_this, .inr (8, [.ref q_text, .int v_size, .int v_at, .ref q_read, .ref q_l, .ref q_stands, .ref q_kept, .int v_keptMany, .ref q_one, .ref q_two, .ref q_ways, .ref q_now, .ref q_then])), (q_l, .inl (ca 0, 336, .inl v_l)), (q_one, .inl (ca 0, 7, .inl y_one_39)), (q_two, .inl (ca 0, 7, .inl y_two_40)), (q_ways, .inl (ca 0, 49, .inl y_ways_41))]) (wn := [(q_this, .inr (8, [.ref q_text, .int v_size, .int v_at, .ref q_read, .ref q_l, .ref q_stands, .ref q_kept, .int v_keptMany, .ref q_one, .ref q_two, .ref q_ways, .ref q_now, .ref q_then])), (q_l, .inl (ca 0, 336, .inl v_l)), (q_stands, .inl (ca 0, 16, .inl y_stands_8)), (q_one, .inl (ca 0, 7, .inl y_one_39)), (q_two, .inl (ca 0, 7, .inl y_two_40)), (q_ways, .inl (ca 0, 49, .inl y_ways_41))]) ⟨hx, hb, hml, hown, hts⟩ (c_X10_isAlike l D ca F H.size q_this q_text q_read q_l q_stands q_kept q_one q_two q_ways q_now q_then x3_7 v_size v_at v_keptMany v_l y_one_9 y_two_10 y_ways_11 r_38 y_one_39 y_two_40 y_ways_41 hg_42) (cwV 1 hts gX10_summer_X10_isAlike rfl rfl rfl (by decide +kernel) ⟨(Nat.le_of_ble_eq_true rfl), (Nat.le_of_ble_eq_true rfl)⟩) hK hP hD hS hA (ci := 8) (q0 := 0) rfl rfl [0, 1, 3, 4, 5] [2] [1, 2, 0, 3, 4, 5] rfl rfl rfl rfl (by decide) rfl rfl rfl hl.1 rfl (Nat.le_of_ble_eq_true rfl) dX10_summer_44 ⟨Nat.zero_le _, Nat.zero_le _⟩ (fun H locs hP hD hS => ?_)
              refine lv_if_ne (tgt := 54) hx hb dX10_summer_47 (by decide) (fun c_43 => ?_) (fun c_43 => ?_)
              · replace h := ifn_el c_43 h
                exact hj_54 _ _ _ _ _ _ h hP hD hS (lv_sub hl [0, 1, 2, 3] rfl)
              · replace h := ifp_el c_43 h
                refine lv_iconst (v := (nI 1)) hx hb dX10_summer_50 (by decide) ?_
                refine lv_goto (tgt := 55) hx hb dX10_summer_51 (by decide) ?_
                exact hj_55 _ _ _ _ _ _ _ h hP hD hS (lv_sub hl [0, 1, 2, 3] rfl)
      exact hlp F (nI 0) v_stands v_one v_two v_ways o_12 o_13 o_14 o_15 H locs ls hL hex hP hD hS (lv_sub hl [1, 2, 3, 0] rfl)
    · replace h := ifp_el c_6 h
      refine lv_iconst (v := (-1 : Int32)) hx hb dX10_summer_24 (by decide) ?_
      cases h
      rw [← hQe]
      exact W.iret hx hb hr (fun t ht hW => ⟨⟨_, (), rfl, rfl, by rw [ht]; exact hP, va_K.moved hW.alike hK, hD⟩, hS.F ht⟩) hS.2.2 dX10_summer_25
def D_X10_tongue (F : Nat) (p1 : Int32) (v_l : Nat → Int32) (v_stands : Nat → Int32) (v_one : Nat → Int32) (v_two : Nat → Int32) (v_ways : Nat → Int32) : Option (Int32 × (Nat → Int32) × (Nat → Int32) × (Nat → Int32)) := bd1 (D_X10_in p1.toInt64 (lN 0) (lN 1)) (fun r_1 => (if r_1 = 0 then some ((-1 : Int32), v_one, v_two, v_ways) else bd4 (D_X10_tongueBy F p1 v_l v_stands v_one v_two v_ways) (fun r_4 y_one_5 y_two_6 y_ways_7 => some (r_4, y_one_5, y_two_6, y_ways_7))))
abbrev rm_X10_tongue : Room := { frames := 6, cells := 0, slots := 0, locals := 139 }
set_option maxHeartbeats 4000000 in
set_option maxRecDepth 100000 in
theorem c_X10_tongue (l : Launch) (D : va_G) (ca : Nat → ClassId) (F : Nat) (sz : Nat) (q_this q_text q_read q_l q_stands q_kept q_one q_two q_ways q_now q_then : Nat) (p1 : Int32) (v_size : Int32) (v_at : Int32) (v_keptMany : Int32) (v_l : Nat → Int32) (v_stands : Nat → Int32) (v_one : Nat → Int32) (v_two : Nat → Int32) (v_ways : Nat → Int32) (r : Int32) (o_one : Nat → Int32) (o_two : Nat → Int32) (o_ways : Nat → Int32) (h : D_X10_tongue F p1 v_l v_stands v_one v_two v_ways = some (r, o_one, o_two, o_ways)) : Met l yX10_tongue wsX10_tongue rm_X10_tongue (va_Pc [.ref q_this, .int p1] (kPre D ca [(q_this, .inr (8, [.ref q_text, .int v_size, .int v_at, .ref q_read, .ref q_l, .ref q_stands, .ref q_kept, .int v_keptMany, .ref q_one, .ref q_two, .ref q_ways, .ref q_now, .ref q_then])), (q_l, .inl (ca 0, 336, .inl v_l)), (q_stands, .inl (ca 0, 16, .inl v_stands)), (q_one, .inl (ca 0, 7, .inl v_one)), (q_two, .inl (ca 0, 7, .inl v_two)), (q_ways, .inl (ca 0, 49, .inl v_ways))] sz)) (kQi D ca (va_A [(q_this, .inr (8, [.ref q_text, .int v_size, .int v_at, .ref q_read, .ref q_l, .ref q_stands, .ref q_kept, .int v_keptMany, .ref q_one, .ref q_two, .ref q_ways, .ref q_now, .ref q_then])), (q_l, .inl (ca 0, 336, .inl v_l)), (q_stands, .inl (ca 0, 16, .inl v_stands)), (q_one, .inl (ca 0, 7, .inl v_one)), (q_two, .inl (ca 0, 7, .inl v_two)), (q_ways, .inl (ca 0, 49, .inl v_ways))] sz) [(q_this, .inr (8, [.ref q_text, .int v_size, .int v_at, .ref q_read, .ref q_l, .ref q_stands, .ref q_kept, .int v_keptMany, .ref q_one, .ref q_two, .ref q_ways, .ref q_now, .ref q_then])), (q_l, .inl (ca 0, 336, .inl v_l)), (q_stands, .inl (ca 0, 16, .inl v_stands)), (q_one, .inl (ca 0, 7, .inl o_one)), (q_two, .inl (ca 0, 7, .inl o_two)), (q_ways, .inl (ca 0, 49, .inl o_ways))] r) 0 0 (va_A [(q_this, .inr (8, [.ref q_text, .int v_size, .int v_at, .ref q_read, .ref q_l, .ref q_stands, .ref q_kept, .int v_keptMany, .ref q_one, .ref q_two, .ref q_ways, .ref q_now, .ref q_then])), (q_l, .inl (ca 0, 336, .inl v_l)), (q_stands, .inl (ca 0, 16, .inl v_stands)), (q_one, .inl (ca 0, 7, .inl v_one)), (q_two, .inl (ca 0, 7, .inl v_two)), (q_ways, .inl (ca 0, 49, .inl v_ways))] sz) := by
  refine Met.ofW (cc := cX10_tongue) (maxL := 2) (ret := (some .int)) (by decide +kernel) rfl ?_
  intro p e s m args below meth c s₁ B hml hv
  obtain ⟨rfl, hsz, hP, hK, hD0⟩ := hv
  have hx := B.exec
  have hb := B.bytes
  have hr := B.returns
  have hts := atoms_spec (ws := wsX10_tongue) B.pre
  have hown : s.vm.findClass RX10 = some m.cls := findClass_of_methodNamed B.named
  have hlocks := B.notSynchronized
  clear B
  subst hsz
  have hD := hD0.self (sz := s.heap.size)
  generalize hAe : va_A [(q_this, .inr (8, [.ref q_text, .int v_size, .int v_at, .ref q_read, .ref q_l, .ref q_stands, .ref q_kept, .int v_keptMany, .ref q_one, .ref q_two, .ref q_ways, .ref q_now, .ref q_then])), (q_l, .inl (ca 0, 336, .inl v_l)), (q_stands, .inl (ca 0, 16, .inl v_stands)), (q_one, .inl (ca 0, 7, .inl v_one)), (q_two, .inl (ca 0, 7, .inl v_two)), (q_ways, .inl (ca 0, 49, .inl v_ways))] s.heap.size = A at hD ⊢
  have hA : ∀ q : Nat, s.heap.size ≤ q → A q := fun q h => by rw [← hAe]; exact Or.inr h
  have hS : va_S A s.heap s.heap [] := va_S.rf
  have hl := lv_entry ([.ref q_this, .int p1]) (n := 2) (Nat.le_of_ble_eq_true rfl)
  rw [lg_entry_eq]
  generalize (lg_sl ([.ref q_this, .int p1]) ++ List.replicate (2 - (lg_sl ([.ref q_this, .int p1])).length) Slot.unset).toArray = ls at hl ⊢
  have hl : lv_has ls 2 [(0, .ref q_this), (1, .int p1)] := hl
  generalize ([.ref q_this, .int p1] : List Value).toArray = args at hts ⊢
  generalize hQe : MQ below (kQi D ca (A) [(q_this, .inr (8, [.ref q_text, .int v_size, .int v_at, .ref q_read, .ref q_l, .ref q_stands, .ref q_kept, .int v_keptMany, .ref q_one, .ref q_two, .ref q_ways, .ref q_now, .ref q_then])), (q_l, .inl (ca 0, 336, .inl v_l)), (q_stands, .inl (ca 0, 16, .inl v_stands)), (q_one, .inl (ca 0, 7, .inl o_one)), (q_two, .inl (ca 0, 7, .inl o_two)), (q_ways, .inl (ca 0, 49, .inl o_ways))] r) args s 0 0 A = Q
  rw [D_X10_tongue] at h
  refine lv_iload_n hx hb dX10_tongue_0 rfl (lv_at hl 1 rfl) ?_
  refine lv_i2l hx hb dX10_tongue_1 rfl ?_
  refine lv_lconst (v := (lN 0)) hx hb dX10_tongue_2 (by decide) ?_
  refine lv_lconst (v := (lN 1)) hx hb dX10_tongue_3 (by decide) ?_
  obtain ⟨r_1, hg_2, h⟩ := bd1_el h
  refine kx_Si (As := [.long p1.toInt64, .long (lN 0), .long (lN 1)]) (rest := []) (wr := [(q_this, .inr (8, [.ref q_text, .int v_size, .int v_at, .ref q_read, .ref q_l, .ref q_stands, .ref q_kept, .int v_keptMany, .ref q_one, .ref q_two, .ref q_ways, .ref q_now, .ref q_then])), (q_l, .inl (ca 0, 336, .inl v_l)), (q_stands, .inl (ca 0, 16, .inl v_stands)), (q_one, .inl (ca 0, 7, .inl v_one)), (q_two, .inl (ca 0, 7, .inl v_two)), (q_ways, .inl (ca 0, 49, .inl v_ways))]) (w1 := []) (wn := [(q_this, .inr (8, [.ref q_text, .int v_size, .int v_at, .ref q_read, .ref q_l, .ref q_stands, .ref q_kept, .int v_keptMany, .ref q_one, .ref q_two, .ref q_ways, .ref q_now, .ref q_then])), (q_l, .inl (ca 0, 336, .inl v_l)), (q_stands, .inl (ca 0, 16, .inl v_stands)), (q_one, .inl (ca 0, 7, .inl v_one)), (q_two, .inl (ca 0, 7, .inl v_two)), (q_ways, .inl (ca 0, 49, .inl v_ways))]) ⟨hx, hb, hml, hown, hts⟩ (c_X10_in l D ca s.heap.size p1.toInt64 (lN 0) (lN 1) r_1 hg_2) (va_cwS 3 hts gX10_tongue_X10_in rfl rfl rfl (by decide +kernel) ⟨(Nat.le_of_ble_eq_true rfl), (Nat.le_of_ble_eq_true rfl)⟩) hK hP hD hS hA [] [0, 1, 2, 3, 4, 5] [0, 1, 2, 3, 4, 5] rfl rfl rfl rfl (by decide) rfl rfl rfl hl.1 rfl (Nat.le_of_ble_eq_true rfl) dX10_tongue_4 ⟨Nat.zero_le _, Nat.zero_le _⟩ (fun H locs hP hD hS => ?_)
  refine lv_if_eq (tgt := 18) hx hb dX10_tongue_7 (by decide) (fun c_3 => ?_) (fun c_3 => ?_)
  · replace h := ifp_el c_3 h
    refine lv_iconst (v := (-1 : Int32)) hx hb dX10_tongue_18 (by decide) ?_
    cases h
    rw [← hQe]
    exact W.iret hx hb hr (fun t ht hW => ⟨⟨_, (), rfl, rfl, by rw [ht]; exact hP, va_K.moved hW.alike hK, hD⟩, hS.F ht⟩) hS.2.2 dX10_tongue_19
  · replace h := ifn_el c_3 h
    refine lv_aload_n hx hb dX10_tongue_10 rfl (lv_at hl 0 rfl) ?_
    refine lv_iload_n hx hb dX10_tongue_11 rfl (lv_at hl 1 rfl) ?_
    obtain ⟨r_4, y_one_5, y_two_6, y_ways_7, hg_8, h⟩ := bd4_el h
    refine kx_Vi (As := [.int p1]) (rest := []) (wr := []) (w1 := [(q_this, .inr (8, [.ref q_text, .int v_size, .int v_at, .ref q_read, .ref q_l, .ref q_stands, .ref q_kept, .int v_keptMany, .ref q_one, .ref q_two, .ref q_ways, .ref q_now, .ref q_then])), (q_l, .inl (ca 0, 336, .inl v_l)), (q_stands, .inl (ca 0, 16, .inl v_stands)), (q_one, .inl (ca 0, 7, .inl y_one_5)), (q_two, .inl (ca 0, 7, .inl y_two_6)), (q_ways, .inl (ca 0, 49, .inl y_ways_7))]) (wn := [(q_this, .inr (8, [.ref q_text, .int v_size, .int v_at, .ref q_read, .ref q_l, .ref q_stands, .ref q_kept, .int v_keptMany, .ref q_one, .ref q_two, .ref q_ways, .ref q_now, .ref q_then])), (q_l, .inl (ca 0, 336, .inl v_l)), (q_stands, .inl (ca 0, 16, .inl v_stands)), (q_one, .inl (ca 0, 7, .inl y_one_5)), (q_two, .inl (ca 0, 7, .inl y_two_6)), (q_ways, .inl (ca 0, 49, .inl y_ways_7))]) ⟨hx, hb, hml, hown, hts⟩ (c_X10_tongueBy l D ca F H.size q_this q_text q_read q_l q_stands q_kept q_one q_two q_ways q_now q_then p1 v_size v_at v_keptMany v_l v_stands v_one v_two v_ways r_4 y_one_5 y_two_6 y_ways_7 hg_8) (cwV 1 hts gX10_tongue_X10_tongueBy rfl rfl rfl (by decide +kernel) ⟨(Nat.le_of_ble_eq_true rfl), (Nat.le_of_ble_eq_true rfl)⟩) hK hP hD hS hA (ci := 8) (q0 := 0) rfl rfl [0, 1, 2, 3, 4, 5] [] [0, 1, 2, 3, 4, 5] rfl rfl rfl rfl (by decide) rfl rfl rfl hl.1 rfl (Nat.le_of_ble_eq_true rfl) dX10_tongue_12 ⟨Nat.zero_le _, Nat.zero_le _⟩ (fun H locs hP hD hS => ?_)
    refine lv_goto (tgt := 19) hx hb dX10_tongue_15 (by decide) ?_
    cases h
    rw [← hQe]
    exact W.iret hx hb hr (fun t ht hW => ⟨⟨_, (), rfl, rfl, by rw [ht]; exact hP, va_K.moved hW.alike hK, hD⟩, hS.F ht⟩) hS.2.2 dX10_tongue_19
def j_X10_from_130 (x4_12 : Int32) (x5_13 : Int32) (rec46 : Int32 → Int32 → Int32 → (Nat → Int32) → (Nat → Int32) → (Nat → Int32) → Option (Int32 × (Nat → Int32) × (Nat → Int32) × (Nat → Int32))) (y_one_24 : Nat → Int32) (y_two_28 : Nat → Int32) (z0_31 : Int32) (y_ways_32 : Nat → Int32) (z0_34 : Int32) : Option (Int32 × (Nat → Int32) × (Nat → Int32) × (Nat → Int32)) := (if z0_34 = x5_13 then nm (x5_13 + (nI 1)) (fun x5_38 => rec46 z0_34 z0_31 x5_38 y_one_24 y_two_28 y_ways_32) else nm (x5_13 + (nI 1)) (fun x5_36 => rec46 z0_34 x4_12 x5_36 y_one_24 y_two_28 y_ways_32))
def j_X10_from_129 (x3_11 : Int32) (x4_12 : Int32) (x5_13 : Int32) (rec46 : Int32 → Int32 → Int32 → (Nat → Int32) → (Nat → Int32) → (Nat → Int32) → Option (Int32 × (Nat → Int32) × (Nat → Int32) × (Nat → Int32))) (y_one_24 : Nat → Int32) (y_two_28 : Nat → Int32) (z0_31 : Int32) (y_ways_32 : Nat → Int32)  : Option (Int32 × (Nat → Int32) × (Nat → Int32) × (Nat → Int32)) := j_X10_from_130 x4_12 x5_13 rec46 y_one_24 y_two_28 z0_31 y_ways_32 x3_11
def j_X10_from_124 (x4_12 : Int32) (x5_13 : Int32) (rec46 : Int32 → Int32 → Int32 → (Nat → Int32) → (Nat → Int32) → (Nat → Int32) → Option (Int32 × (Nat → Int32) × (Nat → Int32) × (Nat → Int32))) (y_one_24 : Nat → Int32) (y_two_28 : Nat → Int32) (z0_31 : Int32) (y_ways_32 : Nat → Int32)  : Option (Int32 × (Nat → Int32) × (Nat → Int32) × (Nat → Int32)) := j_X10_from_130 x4_12 x5_13 rec46 y_one_24 y_two_28 z0_31 y_ways_32 x5_13
def j_X10_from_98 (v_l : Nat → Int32) (x3_11 : Int32) (x4_12 : Int32) (x5_13 : Int32) (rec46 : Int32 → Int32 → Int32 → (Nat → Int32) → (Nat → Int32) → (Nat → Int32) → Option (Int32 × (Nat → Int32) × (Nat → Int32) × (Nat → Int32))) (y_one_24 : Nat → Int32) (y_two_28 : Nat → Int32) (z0_31 : Int32) (y_ways_32 : Nat → Int32) : Option (Int32 × (Nat → Int32) × (Nat → Int32) × (Nat → Int32)) := ck 336 (nI 303) ((if z0_31 < (v_l (nI 303).toNatClampNeg) then j_X10_from_129 x3_11 x4_12 x5_13 rec46 y_one_24 y_two_28 z0_31 y_ways_32  else (if x3_11 < 0 then j_X10_from_124 x4_12 x5_13 rec46 y_one_24 y_two_28 z0_31 y_ways_32  else (if z0_31 ≤ x4_12 then j_X10_from_129 x3_11 x4_12 x5_13 rec46 y_one_24 y_two_28 z0_31 y_ways_32  else j_X10_from_124 x4_12 x5_13 rec46 y_one_24 y_two_28 z0_31 y_ways_32 ))))
def b_X10_from_46 (p1 : Int32) (p2 : Int32) (v_l : Nat → Int32) (F : Nat) (rec46 : Int32 → Int32 → Int32 → (Nat → Int32) → (Nat → Int32) → (Nat → Int32) → Option (Int32 × (Nat → Int32) × (Nat → Int32) × (Nat → Int32))) (x3_11 : Int32) (x4_12 : Int32) (x5_13 : Int32) (y_one_14 : Nat → Int32) (y_two_15 : Nat → Int32) (y_ways_16 : Nat → Int32) : Option (Int32 × (Nat → Int32) × (Nat → Int32) × (Nat → Int32)) := (if (nI 2) ≤ x5_13 then some (x3_11, y_one_14, y_two_15, y_ways_16) else bd1 (D_X10_earAt p1 p2) (fun r_22 => bd1 (D_X10_say F 7 r_22 (-1 : Int32) v_l y_one_14) (fun y_one_24 => bd1 (D_X10_wordAt x5_13 p2) (fun r_26 => bd1 (D_X10_say F 7 r_26 (-1 : Int32) v_l y_two_15) (fun y_two_28 => ck 7 (nI 0) ((if (y_two_28 (nI 0).toNatClampNeg) = 0 then j_X10_from_98 v_l x3_11 x4_12 x5_13 rec46 y_one_24 y_two_28 (-1 : Int32) y_ways_16 else bd2 (D_X10_likeOf F y_one_24 y_two_28 y_ways_16) (fun r_44 y_ways_45 => j_X10_from_98 v_l x3_11 x4_12 x5_13 rec46 y_one_24 y_two_28 r_44 y_ways_45))))))))
def D_X10_from (F : Nat) (p1 : Int32) (p2 : Int32) (v_l : Nat → Int32) (v_one : Nat → Int32) (v_two : Nat → Int32) (v_ways : Nat → Int32) : Option (Int32 × (Nat → Int32) × (Nat → Int32) × (Nat → Int32)) := bd1 (D_X10_in p1.toInt64 (lN 0) (lN 2)) (fun r_1 => (if r_1 = 0 then some ((-1 : Int32), v_one, v_two, v_ways) else bd1 (D_X10_isMeaning p2) (fun r_4 => (if r_4 = 0 then some ((-1 : Int32), v_one, v_two, v_ways) else bd1 (D_X10_earAt p1 p2) (fun r_7 => ck 336 r_7 ((if (v_l r_7.toNatClampNeg) = 0 then some ((-2 : Int32), v_one, v_two, v_ways) else bd4 (lpg (T := Int32 → Int32 → Int32 → (Nat → Int32) → (Nat → Int32) → (Nat → Int32) → Option (Int32 × (Nat → Int32) × (Nat → Int32) × (Nat → Int32))) (fun _ _ _ _ _ _ => none) (b_X10_from_46 p1 p2 v_l F) F (-4 : Int32) (nI 0) (nI 0) v_one v_two v_ways) (fun o_17 o_18 o_19 o_20 => some (o_17, o_18, o_19, o_20)))))))))
abbrev rm_X10_from : Room := { frames := 3, cells := 0, slots := 0, locals := 71 }
set_option maxHeartbeats 4000000 in
set_option maxRecDepth 100000 in
theorem c_X10_from (l : Launch) (D : va_G) (ca : Nat → ClassId) (F : Nat) (sz : Nat) (q_this q_text q_read q_l q_stands q_kept q_one q_two q_ways q_now q_then : Nat) (p1 : Int32) (p2 : Int32) (v_size : Int32) (v_at : Int32) (v_keptMany : Int32) (v_l : Nat → Int32) (v_one : Nat → Int32) (v_two : Nat → Int32) (v_ways : Nat → Int32) (r : Int32) (o_one : Nat → Int32) (o_two : Nat → Int32) (o_ways : Nat → Int32) (h : D_X10_from F p1 p2 v_l v_one v_two v_ways = some (r, o_one, o_two, o_ways)) : Met l yX10_from wsX10_from rm_X10_from (va_Pc [.ref q_this, .int p1, .int p2] (kPre D ca [(q_this, .inr (8, [.ref q_text, .int v_size, .int v_at, .ref q_read, .ref q_l, .ref q_stands, .ref q_kept, .int v_keptMany, .ref q_one, .ref q_two, .ref q_ways, .ref q_now, .ref q_then])), (q_l, .inl (ca 0, 336, .inl v_l)), (q_one, .inl (ca 0, 7, .inl v_one)), (q_two, .inl (ca 0, 7, .inl v_two)), (q_ways, .inl (ca 0, 49, .inl v_ways))] sz)) (kQi D ca (va_A [(q_this, .inr (8, [.ref q_text, .int v_size, .int v_at, .ref q_read, .ref q_l, .ref q_stands, .ref q_kept, .int v_keptMany, .ref q_one, .ref q_two, .ref q_ways, .ref q_now, .ref q_then])), (q_l, .inl (ca 0, 336, .inl v_l)), (q_one, .inl (ca 0, 7, .inl v_one)), (q_two, .inl (ca 0, 7, .inl v_two)), (q_ways, .inl (ca 0, 49, .inl v_ways))] sz) [(q_this, .inr (8, [.ref q_text, .int v_size, .int v_at, .ref q_read, .ref q_l, .ref q_stands, .ref q_kept, .int v_keptMany, .ref q_one, .ref q_two, .ref q_ways, .ref q_now, .ref q_then])), (q_l, .inl (ca 0, 336, .inl v_l)), (q_one, .inl (ca 0, 7, .inl o_one)), (q_two, .inl (ca 0, 7, .inl o_two)), (q_ways, .inl (ca 0, 49, .inl o_ways))] r) 0 0 (va_A [(q_this, .inr (8, [.ref q_text, .int v_size, .int v_at, .ref q_read, .ref q_l, .ref q_stands, .ref q_kept, .int v_keptMany, .ref q_one, .ref q_two, .ref q_ways, .ref q_now, .ref q_then])), (q_l, .inl (ca 0, 336, .inl v_l)), (q_one, .inl (ca 0, 7, .inl v_one)), (q_two, .inl (ca 0, 7, .inl v_two)), (q_ways, .inl (ca 0, 49, .inl v_ways))] sz) := by
  refine Met.ofW (cc := cX10_from) (maxL := 7) (ret := (some .int)) (by decide +kernel) rfl ?_
  intro p e s m args below meth c s₁ B hml hv
  obtain ⟨rfl, hsz, hP, hK, hD0⟩ := hv
  have hx := B.exec
  have hb := B.bytes
  have hr := B.returns
  have hts := atoms_spec (ws := wsX10_from) B.pre
  have hown : s.vm.findClass RX10 = some m.cls := findClass_of_methodNamed B.named
  have hlocks := B.notSynchronized
  clear B
  subst hsz
  have hD := hD0.self (sz := s.heap.size)
  generalize hAe : va_A [(q_this, .inr (8, [.ref q_text, .int v_size, .int v_at, .ref q_read, .ref q_l, .ref q_stands, .ref q_kept, .int v_keptMany, .ref q_one, .ref q_two, .ref q_ways, .ref q_now, .ref q_then])), (q_l, .inl (ca 0, 336, .inl v_l)), (q_one, .inl (ca 0, 7, .inl v_one)), (q_two, .inl (ca 0, 7, .inl v_two)), (q_ways, .inl (ca 0, 49, .inl v_ways))] s.heap.size = A at hD ⊢
  have hA : ∀ q : Nat, s.heap.size ≤ q → A q := fun q h => by rw [← hAe]; exact Or.inr h
  have hS : va_S A s.heap s.heap [] := va_S.rf
  have hl := lv_entry ([.ref q_this, .int p1, .int p2]) (n := 7) (Nat.le_of_ble_eq_true rfl)
  rw [lg_entry_eq]
  generalize (lg_sl ([.ref q_this, .int p1, .int p2]) ++ List.replicate (7 - (lg_sl ([.ref q_this, .int p1, .int p2])).length) Slot.unset).toArray = ls at hl ⊢
  have hl : lv_has ls 7 [(0, .ref q_this), (1, .int p1), (2, .int p2)] := hl
  generalize ([.ref q_this, .int p1, .int p2] : List Value).toArray = args at hts ⊢
  generalize hQe : MQ below (kQi D ca (A) [(q_this, .inr (8, [.ref q_text, .int v_size, .int v_at, .ref q_read, .ref q_l, .ref q_stands, .ref q_kept, .int v_keptMany, .ref q_one, .ref q_two, .ref q_ways, .ref q_now, .ref q_then])), (q_l, .inl (ca 0, 336, .inl v_l)), (q_one, .inl (ca 0, 7, .inl o_one)), (q_two, .inl (ca 0, 7, .inl o_two)), (q_ways, .inl (ca 0, 49, .inl o_ways))] r) args s 0 0 A = Q
  have k_228 := hts (.constantLong RX10 228 (lN 2)) (by decide +kernel)
  have i_X10 : ∀ w ∈ u_ws RX10 TX10 13, w ∈ wsX10_from := by decide +kernel
  have k_16 := hts (.fieldLink RX10 16 "TradeWordsModel" "l" "[I") (by decide +kernel)
  have k_25 := hts (.fieldLink RX10 25 "TradeWordsModel" "one" "[I") (by decide +kernel)
  have k_28 := hts (.fieldLink RX10 28 "TradeWordsModel" "two" "[I") (by decide +kernel)
  rw [D_X10_from] at h
  refine lv_iload_n hx hb dX10_from_0 rfl (lv_at hl 1 rfl) ?_
  refine lv_i2l hx hb dX10_from_1 rfl ?_
  refine lv_lconst (v := (lN 0)) hx hb dX10_from_2 (by decide) ?_
  refine lv_ldc2 hx hb hown k_228 dX10_from_3 ?_
  obtain ⟨r_1, hg_2, h⟩ := bd1_el h
  refine kx_Si (As := [.long p1.toInt64, .long (lN 0), .long (lN 2)]) (rest := []) (wr := [(q_this, .inr (8, [.ref q_text, .int v_size, .int v_at, .ref q_read, .ref q_l, .ref q_stands, .ref q_kept, .int v_keptMany, .ref q_one, .ref q_two, .ref q_ways, .ref q_now, .ref q_then])), (q_l, .inl (ca 0, 336, .inl v_l)), (q_one, .inl (ca 0, 7, .inl v_one)), (q_two, .inl (ca 0, 7, .inl v_two)), (q_ways, .inl (ca 0, 49, .inl v_ways))]) (w1 := []) (wn := [(q_this, .inr (8, [.ref q_text, .int v_size, .int v_at, .ref q_read, .ref q_l, .ref q_stands, .ref q_kept, .int v_keptMany, .ref q_one, .ref q_two, .ref q_ways, .ref q_now, .ref q_then])), (q_l, .inl (ca 0, 336, .inl v_l)), (q_one, .inl (ca 0, 7, .inl v_one)), (q_two, .inl (ca 0, 7, .inl v_two)), (q_ways, .inl (ca 0, 49, .inl v_ways))]) ⟨hx, hb, hml, hown, hts⟩ (c_X10_in l D ca s.heap.size p1.toInt64 (lN 0) (lN 2) r_1 hg_2) (va_cwS 3 hts gX10_from_X10_in rfl rfl rfl (by decide +kernel) ⟨(Nat.le_of_ble_eq_true rfl), (Nat.le_of_ble_eq_true rfl)⟩) hK hP hD hS hA [] [0, 1, 2, 3, 4] [0, 1, 2, 3, 4] rfl rfl rfl rfl (by decide) rfl rfl rfl hl.1 rfl (Nat.le_of_ble_eq_true rfl) dX10_from_6 ⟨Nat.zero_le _, Nat.zero_le _⟩ (fun H locs hP hD hS => ?_)
  refine lv_if_eq (tgt := 19) hx hb dX10_from_9 (by decide) (fun c_3 => ?_) (fun c_3 => ?_)
  · replace h := ifp_el c_3 h
    refine lv_iconst (v := (-1 : Int32)) hx hb dX10_from_19 (by decide) ?_
    cases h
    rw [← hQe]
    exact W.iret hx hb hr (fun t ht hW => ⟨⟨_, (), rfl, rfl, by rw [ht]; exact hP, va_K.moved hW.alike hK, hD⟩, hS.F ht⟩) hS.2.2 dX10_from_20
  · replace h := ifn_el c_3 h
    refine lv_iload_n hx hb dX10_from_12 rfl (lv_at hl 2 rfl) ?_
    obtain ⟨r_4, hg_5, h⟩ := bd1_el h
    refine kx_Si (As := [.int p2]) (rest := []) (wr := [(q_this, .inr (8, [.ref q_text, .int v_size, .int v_at, .ref q_read, .ref q_l, .ref q_stands, .ref q_kept, .int v_keptMany, .ref q_one, .ref q_two, .ref q_ways, .ref q_now, .ref q_then])), (q_l, .inl (ca 0, 336, .inl v_l)), (q_one, .inl (ca 0, 7, .inl v_one)), (q_two, .inl (ca 0, 7, .inl v_two)), (q_ways, .inl (ca 0, 49, .inl v_ways))]) (w1 := []) (wn := [(q_this, .inr (8, [.ref q_text, .int v_size, .int v_at, .ref q_read, .ref q_l, .ref q_stands, .ref q_kept, .int v_keptMany, .ref q_one, .ref q_two, .ref q_ways, .ref q_now, .ref q_then])), (q_l, .inl (ca 0, 336, .inl v_l)), (q_one, .inl (ca 0, 7, .inl v_one)), (q_two, .inl (ca 0, 7, .inl v_two)), (q_ways, .inl (ca 0, 49, .inl v_ways))]) ⟨hx, hb, hml, hown, hts⟩ (c_X10_isMeaning l D ca H.size p2 r_4 hg_5) (va_cwS 1 hts gX10_from_X10_isMeaning rfl rfl rfl (by decide +kernel) ⟨(Nat.le_of_ble_eq_true rfl), (Nat.le_of_ble_eq_true rfl)⟩) hK hP hD hS hA [] [0, 1, 2, 3, 4] [0, 1, 2, 3, 4] rfl rfl rfl rfl (by decide) rfl rfl rfl hl.1 rfl (Nat.le_of_ble_eq_true rfl) dX10_from_13 ⟨Nat.zero_le _, Nat.zero_le _⟩ (fun H locs hP hD hS => ?_)
    refine lv_if_ne (tgt := 21) hx hb dX10_from_16 (by decide) (fun c_6 => ?_) (fun c_6 => ?_)
    · replace h := ifn_el c_6 h
      refine lv_aload_n hx hb dX10_from_21 rfl (lv_at hl 0 rfl) ?_
      refine va_get (D := D) (ci := 8) (v := .ref q_l) (C := RX10) (T := TX10) (N := 13) hx hb hts i_X10 hown hK hP 0 rfl rfl 4 (by decide) k_16 (fun _ h9 => h9) rfl dX10_from_22 ?_
      refine lv_iload_n hx hb dX10_from_25 rfl (lv_at hl 1 rfl) ?_
      refine lv_iload_n hx hb dX10_from_26 rfl (lv_at hl 2 rfl) ?_
      obtain ⟨r_7, hg_8, h⟩ := bd1_el h
      refine kx_Si (As := [.int p1, .int p2]) (rest := [.ref q_l]) (wr := [(q_this, .inr (8, [.ref q_text, .int v_size, .int v_at, .ref q_read, .ref q_l, .ref q_stands, .ref q_kept, .int v_keptMany, .ref q_one, .ref q_two, .ref q_ways, .ref q_now, .ref q_then])), (q_l, .inl (ca 0, 336, .inl v_l)), (q_one, .inl (ca 0, 7, .inl v_one)), (q_two, .inl (ca 0, 7, .inl v_two)), (q_ways, .inl (ca 0, 49, .inl v_ways))]) (w1 := []) (wn := [(q_this, .inr (8, [.ref q_text, .int v_size, .int v_at, .ref q_read, .ref q_l, .ref q_stands, .ref q_kept, .int v_keptMany, .ref q_one, .ref q_two, .ref q_ways, .ref q_now, .ref q_then])), (q_l, .inl (ca 0, 336, .inl v_l)), (q_one, .inl (ca 0, 7, .inl v_one)), (q_two, .inl (ca 0, 7, .inl v_two)), (q_ways, .inl (ca 0, 49, .inl v_ways))]) ⟨hx, hb, hml, hown, hts⟩ (c_X10_earAt l D ca H.size p1 p2 r_7 hg_8) (va_cwS 2 hts gX10_from_X10_earAt rfl rfl rfl (by decide +kernel) ⟨(Nat.le_of_ble_eq_true rfl), (Nat.le_of_ble_eq_true rfl)⟩) hK hP hD hS hA [] [0, 1, 2, 3, 4] [0, 1, 2, 3, 4] rfl rfl rfl rfl (by decide) rfl rfl rfl hl.1 rfl (Nat.le_of_ble_eq_true rfl) dX10_from_27 ⟨Nat.zero_le _, Nat.zero_le _⟩ (fun H locs hP hD hS => ?_)
      obtain ⟨hi_9, h⟩ := ck_el h
      refine va_iald hx hb hK hP 1 0 rfl rfl hi_9 dX10_from_30 ?_
      refine lv_if_ne (tgt := 37) hx hb dX10_from_31 (by decide) (fun c_10 => ?_) (fun c_10 => ?_)
      · replace h := ifn_el c_10 h
        refine lv_bipush (v := (-4 : Int32)) hx hb dX10_from_37 (by decide) ?_
        refine lv_istore_n (lv' := [(3, .int (-4 : Int32)), (0, .ref q_this), (1, .int p1), (2, .int p2)]) hx hb dX10_from_39 rfl hl (by decide) rfl (fun ls hl => ?_)
        refine lv_iconst (v := (nI 0)) hx hb dX10_from_40 (by decide) ?_
        refine lv_istore (lv' := [(4, .int (nI 0)), (3, .int (-4 : Int32)), (0, .ref q_this), (1, .int p1), (2, .int p2)]) hx hb dX10_from_41 hl (by decide) rfl (fun ls hl => ?_)
        refine lv_iconst (v := (nI 0)) hx hb dX10_from_43 (by decide) ?_
        refine lv_istore (lv' := [(5, .int (nI 0)), (4, .int (nI 0)), (3, .int (-4 : Int32)), (0, .ref q_this), (1, .int p1), (2, .int p2)]) hx hb dX10_from_44 hl (by decide) rfl (fun ls hl => ?_)
        obtain ⟨o_17, o_18, o_19, o_20, hL, h⟩ := bd4_el h
        have hex : ∀ (H : Heap) (locs : List Loc) (ls : Array Slot), va_P D vwCl [(q_this, .inr (8, [.ref q_text, .int v_size, .int v_at, .ref q_read, .ref q_l, .ref q_stands, .ref q_kept, .int v_keptMany, .ref q_one, .ref q_two, .ref q_ways, .ref q_now, .ref q_then])), (q_l, .inl (ca 0, 336, .inl v_l)), (q_one, .inl (ca 0, 7, .inl o_18)), (q_two, .inl (ca 0, 7, .inl o_19)), (q_ways, .inl (ca 0, 49, .inl o_20))] H → va_D A [(q_this, .inr (8, [.ref q_text, .int v_size, .int v_at, .ref q_read, .ref q_l, .ref q_stands, .ref q_kept, .int v_keptMany, .ref q_one, .ref q_two, .ref q_ways, .ref q_now, .ref q_then])), (q_l, .inl (ca 0, 336, .inl v_l)), (q_one, .inl (ca 0, 7, .inl o_18)), (q_two, .inl (ca 0, 7, .inl o_19)), (q_ways, .inl (ca 0, 49, .inl o_20))] → va_S A s.heap H locs → lv_has ls 7 [(3, .int o_17)] → W p l e (headSpec wsX10_from rm_X10_from).room s m args below meth c H locs 0 0 Q (F0 m 152 ls []) := by
          intro H locs ls hP hD hS hl
          refine lv_iload_n hx hb dX10_from_152 rfl (lv_at hl 0 rfl) ?_
          cases h
          rw [← hQe]
          exact W.iret hx hb hr (fun t ht hW => ⟨⟨_, (), rfl, rfl, by rw [ht]; exact hP, va_K.moved hW.alike hK, hD⟩, hS.F ht⟩) hS.2.2 dX10_from_153
        have hlp : ∀ (n : Nat) (x3_11 : Int32) (x4_12 : Int32) (x5_13 : Int32) (y_one_14 : Nat → Int32) (y_two_15 : Nat → Int32) (y_ways_16 : Nat → Int32) (o_17 : Int32) (o_18 : Nat → Int32) (o_19 : Nat → Int32) (o_20 : Nat → Int32) (H : Heap) (locs : List Loc) (ls : Array Slot), lpg (T := Int32 → Int32 → Int32 → (Nat → Int32) → (Nat → Int32) → (Nat → Int32) → Option (Int32 × (Nat → Int32) × (Nat → Int32) × (Nat → Int32))) (fun _ _ _ _ _ _ => none) (b_X10_from_46 p1 p2 v_l F) n x3_11 x4_12 x5_13 y_one_14 y_two_15 y_ways_16 = some (o_17, o_18, o_19, o_20) → (∀ (H : Heap) (locs : List Loc) (ls : Array Slot), va_P D vwCl [(q_this, .inr (8, [.ref q_text, .int v_size, .int v_at, .ref q_read, .ref q_l, .ref q_stands, .ref q_kept, .int v_keptMany, .ref q_one, .ref q_two, .ref q_ways, .ref q_now, .ref q_then])), (q_l, .inl (ca 0, 336, .inl v_l)), (q_one, .inl (ca 0, 7, .inl o_18)), (q_two, .inl (ca 0, 7, .inl o_19)), (q_ways, .inl (ca 0, 49, .inl o_20))] H → va_D A [(q_this, .inr (8, [.ref q_text, .int v_size, .int v_at, .ref q_read, .ref q_l, .ref q_stands, .ref q_kept, .int v_keptMany, .ref q_one, .ref q_two, .ref q_ways, .ref q_now, .ref q_then])), (q_l, .inl (ca 0, 336, .inl v_l)), (q_one, .inl (ca 0, 7, .inl o_18)), (q_two, .inl (ca 0, 7, .inl o_19)), (q_ways, .inl (ca 0, 49, .inl o_20))] → va_S A s.heap H locs → lv_has ls 7 [(3, .int o_17)] → W p l e (headSpec wsX10_from rm_X10_from).room s m args below meth c H locs 0 0 Q (F0 m 152 ls [])) → va_P D vwCl [(q_this, .inr (8, [.ref q_text, .int v_size, .int v_at, .ref q_read, .ref q_l, .ref q_stands, .ref q_kept, .int v_keptMany, .ref q_one, .ref q_two, .ref q_ways, .ref q_now, .ref q_then])), (q_l, .inl (ca 0, 336, .inl v_l)), (q_one, .inl (ca 0, 7, .inl y_one_14)), (q_two, .inl (ca 0, 7, .inl y_two_15)), (q_ways, .inl (ca 0, 49, .inl y_ways_16))] H → va_D A [(q_this, .inr (8, [.ref q_text, .int v_size, .int v_at, .ref q_read, .ref q_l, .ref q_stands, .ref q_kept, .int v_keptMany, .ref q_one, .ref q_two, .ref q_ways, .ref q_now, .ref q_then])), (q_l, .inl (ca 0, 336, .inl v_l)), (q_one, .inl (ca 0, 7, .inl y_one_14)), (q_two, .inl (ca 0, 7, .inl y_two_15)), (q_ways, .inl (ca 0, 49, .inl y_ways_16))] → va_S A s.heap H locs → lv_has ls 7 [(0, .ref q_this), (1, .int p1), (2, .int p2), (3, .int x3_11), (4, .int x4_12), (5, .int x5_13)] → W p l e (headSpec wsX10_from rm_X10_from).room s m args below meth c H locs 0 0 Q (F0 m 46 ls []) := by
          intro n
          induction n with
          | zero => intro x3_11 x4_12 x5_13 y_one_14 y_two_15 y_ways_16 o_17 o_18 o_19 o_20 H locs ls h; have h : (none : Option (Int32 × (Nat → Int32) × (Nat → Int32) × (Nat → Int32))) = some _ := h; cases h
          | succ n ih =>
            intro x3_11 x4_12 x5_13 y_one_14 y_two_15 y_ways_16 o_17 o_18 o_19 o_20 H locs ls h hex hP hD hS hl
            rw [lpg_succ, b_X10_from_46] at h
            refine lv_iload hx hb dX10_from_46 (lv_at hl 5 rfl) ?_
            refine lv_iconst (v := (nI 2)) hx hb dX10_from_48 (by decide) ?_
            refine lv_icmp_ge (tgt := 152) hx hb dX10_from_49 (by decide) (fun c_21 => ?_) (fun c_21 => ?_)
            · replace h := ifp_el c_21 h
              cases h
              exact hex _ _ _ hP hD hS (lv_sub hl [3] rfl)
            · replace h := ifn_el c_21 h
              refine lv_aload_n hx hb dX10_from_52 rfl (lv_at hl 0 rfl) ?_
              refine lv_iload_n hx hb dX10_from_53 rfl (lv_at hl 1 rfl) ?_
              refine lv_iload_n hx hb dX10_from_54 rfl (lv_at hl 2 rfl) ?_
              obtain ⟨r_22, hg_23, h⟩ := bd1_el h
              refine kx_Si (As := [.int p1, .int p2]) (rest := [.ref q_this]) (wr := [(q_this, .inr (8, [.ref q_text, .int v_size, .int v_at, .ref q_read, .ref q_l, .ref q_stands, .ref q_kept, .int v_keptMany, .ref q_one, .ref q_two, .ref q_ways, .ref q_now, .ref q_then])), (q_l, .inl (ca 0, 336, .inl v_l)), (q_one, .inl (ca 0, 7, .inl y_one_14)), (q_two, .inl (ca 0, 7, .inl y_two_15)), (q_ways, .inl (ca 0, 49, .inl y_ways_16))]) (w1 := []) (wn := [(q_this, .inr (8, [.ref q_text, .int v_size, .int v_at, .ref q_read, .ref q_l, .ref q_stands, .ref q_kept, .int v_keptMany, .ref q_one, .ref q_two, .ref q_ways, .ref q_now, .ref q_then])), (q_l, .inl (ca 0, 336, .inl v_l)), (q_one, .inl (ca 0, 7, .inl y_one_14)), (q_two, .inl (ca 0, 7, .inl y_two_15)), (q_ways, .inl (ca 0, 49, .inl y_ways_16))]) ⟨hx, hb, hml, hown, hts⟩ (c_X10_earAt l D ca H.size p1 p2 r_22 hg_23) (va_cwS 2 hts gX10_from_X10_earAt rfl rfl rfl (by decide +kernel) ⟨(Nat.le_of_ble_eq_true rfl), (Nat.le_of_ble_eq_true rfl)⟩) hK hP hD hS hA [] [0, 1, 2, 3, 4] [0, 1, 2, 3, 4] rfl rfl rfl rfl (by decide) rfl rfl rfl hl.1 rfl (Nat.le_of_ble_eq_true rfl) dX10_from_55 ⟨Nat.zero_le _, Nat.zero_le _⟩ (fun H locs hP hD hS => ?_)
              refine lv_iconst (v := (-1 : Int32)) hx hb dX10_from_58 (by decide) ?_
              refine lv_aload_n hx hb dX10_from_59 rfl (lv_at hl 0 rfl) ?_
              refine va_get (D := D) (ci := 8) (v := .ref q_one) (C := RX10) (T := TX10) (N := 13) hx hb hts i_X10 hown hK hP 0 rfl rfl 8 (by decide) k_25 (fun _ h9 => h9) rfl dX10_from_60 ?_
              obtain ⟨y_one_24, hg_25, h⟩ := bd1_el h
              refine kx_Vv (As := [.int r_22, .int (-1 : Int32), .ref q_one]) (rest := []) (wr := [(q_two, .inl (ca 0, 7, .inl y_two_15)), (q_ways, .inl (ca 0, 49, .inl y_ways_16))]) (w1 := [(q_this, .inr (8, [.ref q_text, .int v_size, .int v_at, .ref q_read, .ref q_l, .ref q_stands, .ref q_kept, .int v_keptMany, .ref q_one, .ref q_two, .ref q_ways, .ref q_now, .ref q_then])), (q_l, .inl (ca 0, 336, .inl v_l)), (q_one, .inl (ca 0, 7, .inl y_one_24))]) (wn := [(q_this, .inr (8, [.ref q_text, .int v_size, .int v_at, .ref q_read, .ref q_l, .ref q_stands, .ref q_kept, .int v_keptMany, .ref q_one, .ref q_two, .ref q_ways, .ref q_now, .ref q_then])), (q_l, .inl (ca 0, 336, .inl v_l)), (q_one, .inl (ca 0, 7, .inl y_one_24)), (q_two, .inl (ca 0, 7, .inl y_two_15)), (q_ways, .inl (ca 0, 49, .inl y_ways_16))]) ⟨hx, hb, hml, hown, hts⟩ (c_X10_say l D ca F H.size q_this q_text q_read q_l q_stands q_kept q_one q_two q_ways q_now q_then q_one 7 r_22 (-1 : Int32) v_size v_at v_keptMany v_l y_one_14 y_one_24 hg_25) (cwV 3 hts gX10_from_X10_say rfl rfl rfl (by decide +kernel) ⟨(Nat.le_of_ble_eq_true rfl), (Nat.le_of_ble_eq_true rfl)⟩) hK hP hD hS hA (ci := 8) (q0 := 0) rfl rfl [0, 1, 2] [3, 4] [2, 3, 4, 0, 1] rfl rfl rfl rfl (by decide) rfl rfl rfl hl.1 rfl (Nat.le_of_ble_eq_true rfl) dX10_from_63 ⟨Nat.zero_le _, Nat.zero_le _⟩ (fun H locs hP hD hS => ?_)
              refine lv_aload_n hx hb dX10_from_66 rfl (lv_at hl 0 rfl) ?_
              refine lv_iload hx hb dX10_from_67 (lv_at hl 5 rfl) ?_
              refine lv_iload_n hx hb dX10_from_69 rfl (lv_at hl 2 rfl) ?_
              obtain ⟨r_26, hg_27, h⟩ := bd1_el h
              refine kx_Si (As := [.int x5_13, .int p2]) (rest := [.ref q_this]) (wr := [(q_this, .inr (8, [.ref q_text, .int v_size, .int v_at, .ref q_read, .ref q_l, .ref q_stands, .ref q_kept, .int v_keptMany, .ref q_one, .ref q_two, .ref q_ways, .ref q_now, .ref q_then])), (q_l, .inl (ca 0, 336, .inl v_l)), (q_one, .inl (ca 0, 7, .inl y_one_24)), (q_two, .inl (ca 0, 7, .inl y_two_15)), (q_ways, .inl (ca 0, 49, .inl y_ways_16))]) (w1 := []) (wn := [(q_this, .inr (8, [.ref q_text, .int v_size, .int v_at, .ref q_read, .ref q_l, .ref q_stands, .ref q_kept, .int v_keptMany, .ref q_one, .ref q_two, .ref q_ways, .ref q_now, .ref q_then])), (q_l, .inl (ca 0, 336, .inl v_l)), (q_one, .inl (ca 0, 7, .inl y_one_24)), (q_two, .inl (ca 0, 7, .inl y_two_15)), (q_ways, .inl (ca 0, 49, .inl y_ways_16))]) ⟨hx, hb, hml, hown, hts⟩ (c_X10_wordAt l D ca H.size x5_13 p2 r_26 hg_27) (va_cwS 2 hts gX10_from_X10_wordAt rfl rfl rfl (by decide +kernel) ⟨(Nat.le_of_ble_eq_true rfl), (Nat.le_of_ble_eq_true rfl)⟩) hK hP hD hS hA [] [0, 1, 2, 3, 4] [0, 1, 2, 3, 4] rfl rfl rfl rfl (by decide) rfl rfl rfl hl.1 rfl (Nat.le_of_ble_eq_true rfl) dX10_from_70 ⟨Nat.zero_le _, Nat.zero_le _⟩ (fun H locs hP hD hS => ?_)
              refine lv_iconst (v := (-1 : Int32)) hx hb dX10_from_73 (by decide) ?_
              refine lv_aload_n hx hb dX10_from_74 rfl (lv_at hl 0 rfl) ?_
              refine va_get (D := D) (ci := 8) (v := .ref q_two) (C := RX10) (T := TX10) (N := 13) hx hb hts i_X10 hown hK hP 0 rfl rfl 9 (by decide) k_28 (fun _ h9 => h9) rfl dX10_from_75 ?_
              obtain ⟨y_two_28, hg_29, h⟩ := bd1_el h
              refine kx_Vv (As := [.int r_26, .int (-1 : Int32), .ref q_two]) (rest := []) (wr := [(q_one, .inl (ca 0, 7, .inl y_one_24)), (q_ways, .inl (ca 0, 49, .inl y_ways_16))]) (w1 := [(q_this, .inr (8, [.ref q_text, .int v_size, .int v_at, .ref q_read, .ref q_l, .ref q_stands, .ref q_kept, .int v_keptMany, .ref q_one, .ref q_two, .ref q_ways, .ref q_now, .ref q_then])), (q_l, .inl (ca 0, 336, .inl v_l)), (q_two, .inl (ca 0, 7, .inl y_two_28))]) (wn := [(q_this, .inr (8, [.ref q_text, .int v_size, .int v_at, .ref q_read, .ref q_l, .ref q_stands, .ref q_kept, .int v_keptMany, .ref q_one, .ref q_two, .ref q_ways, .ref q_now, .ref q_then])), (q_l, .inl (ca 0, 336, .inl v_l)), (q_one, .inl (ca 0, 7, .inl y_one_24)), (q_two, .inl (ca 0, 7, .inl y_two_28)), (q_ways, .inl (ca 0, 49, .inl y_ways_16))]) ⟨hx, hb, hml, hown, hts⟩ (c_X10_say l D ca F H.size q_this q_text q_read q_l q_stands q_kept q_one q_two q_ways q_now q_then q_two 7 r_26 (-1 : Int32) v_size v_at v_keptMany v_l y_two_15 y_two_28 hg_29) (cwV 3 hts gX10_from_X10_say rfl rfl rfl (by decide +kernel) ⟨(Nat.le_of_ble_eq_true rfl), (Nat.le_of_ble_eq_true rfl)⟩) hK hP hD hS hA (ci := 8) (q0 := 0) rfl rfl [0, 1, 3] [2, 4] [2, 3, 0, 4, 1] rfl rfl rfl rfl (by decide) rfl rfl rfl hl.1 rfl (Nat.le_of_ble_eq_true rfl) dX10_from_78 ⟨Nat.zero_le _, Nat.zero_le _⟩ (fun H locs hP hD hS => ?_)
              refine lv_aload_n hx hb dX10_from_81 rfl (lv_at hl 0 rfl) ?_
              refine va_get (D := D) (ci := 8) (v := .ref q_two) (C := RX10) (T := TX10) (N := 13) hx hb hts i_X10 hown hK hP 0 rfl rfl 9 (by decide) k_28 (fun _ h9 => h9) rfl dX10_from_82 ?_
              refine lv_iconst (v := (nI 0)) hx hb dX10_from_85 (by decide) ?_
              obtain ⟨hi_30, h⟩ := ck_el h
              refine va_iald hx hb hK hP 3 0 rfl rfl hi_30 dX10_from_86 ?_
              have hj_98 : ∀ (z0_31 : Int32) (y_ways_32 : Nat → Int32) (H : Heap) (locs : List Loc) (ls : Array Slot), j_X10_from_98 v_l x3_11 x4_12 x5_13 (lpg (T := Int32 → Int32 → Int32 → (Nat → Int32) → (Nat → Int32) → (Nat → Int32) → Option (Int32 × (Nat → Int32) × (Nat → Int32) × (Nat → Int32))) (fun _ _ _ _ _ _ => none) (b_X10_from_46 p1 p2 v_l F) n) y_one_24 y_two_28 z0_31 y_ways_32 = some (o_17, o_18, o_19, o_20) → va_P D vwCl [(q_this, .inr (8, [.ref q_text, .int v_size, .int v_at, .ref q_read, .ref q_l, .ref q_stands, .ref q_kept, .int v_keptMany, .ref q_one, .ref q_two, .ref q_ways, .ref q_now, .ref q_then])), (q_l, .inl (ca 0, 336, .inl v_l)), (q_one, .inl (ca 0, 7, .inl y_one_24)), (q_two, .inl (ca 0, 7, .inl y_two_28)), (q_ways, .inl (ca 0, 49, .inl y_ways_32))] H → va_D A [(q_this, .inr (8, [.ref q_text, .int v_size, .int v_at, .ref q_read, .ref q_l, .ref q_stands, .ref q_kept, .int v_keptMany, .ref q_one, .ref q_two, .ref q_ways, .ref q_now, .ref q_then])), (q_l, .inl (ca 0, 336, .inl v_l)), (q_one, .inl (ca 0, 7, .inl y_one_24)), (q_two, .inl (ca 0, 7, .inl y_two_28)), (q_ways, .inl (ca 0, 49, .inl y_ways_32))] → va_S A s.heap H locs → lv_has ls 7 [(0, .ref q_this), (1, .int p1), (2, .int p2), (3, .int x3_11), (4, .int x4_12), (5, .int x5_13)] → W p l e (headSpec wsX10_from rm_X10_from).room s m args below meth c H locs 0 0 Q (F0 m 98 ls [.int z0_31]) := by
                intro z0_31 y_ways_32 H locs ls h hP hD hS hl
                rw [j_X10_from_98] at h
                refine lv_istore (lv' := [(6, .int z0_31), (0, .ref q_this), (1, .int p1), (2, .int p2), (3, .int x3_11), (4, .int x4_12), (5, .int x5_13)]) hx hb dX10_from_98 hl (by decide) rfl (fun ls hl => ?_)
                refine lv_iload hx hb dX10_from_100 (lv_at hl 0 rfl) ?_
                refine lv_aload_n hx hb dX10_from_102 rfl (lv_at hl 1 rfl) ?_
                refine va_get (D := D) (ci := 8) (v := .ref q_l) (C := RX10) (T := TX10) (N := 13) hx hb hts i_X10 hown hK hP 0 rfl rfl 4 (by decide) k_16 (fun _ h9 => h9) rfl dX10_from_103 ?_
                refine lv_sipush (v := (nI 303)) hx hb dX10_from_106 (by decide) ?_
                obtain ⟨hi_33, h⟩ := ck_el h
                refine va_iald hx hb hK hP 1 0 rfl rfl hi_33 dX10_from_109 ?_
                have hj_130 : ∀ (z0_34 : Int32) (H : Heap) (locs : List Loc) (ls : Array Slot), j_X10_from_130 x4_12 x5_13 (lpg (T := Int32 → Int32 → Int32 → (Nat → Int32) → (Nat → Int32) → (Nat → Int32) → Option (Int32 × (Nat → Int32) × (Nat → Int32) × (Nat → Int32))) (fun _ _ _ _ _ _ => none) (b_X10_from_46 p1 p2 v_l F) n) y_one_24 y_two_28 z0_31 y_ways_32 z0_34 = some (o_17, o_18, o_19, o_20) → va_P D vwCl [(q_this, .inr (8, [.ref q_text, .int v_size, .int v_at, .ref q_read, .ref q_l, .ref q_stands, .ref q_kept, .int v_keptMany, .ref q_one, .ref q_two, .ref q_ways, .ref q_now, .ref q_then])), (q_l, .inl (ca 0, 336, .inl v_l)), (q_one, .inl (ca 0, 7, .inl y_one_24)), (q_two, .inl (ca 0, 7, .inl y_two_28)), (q_ways, .inl (ca 0, 49, .inl y_ways_32))] H → va_D A [(q_this, .inr (8, [.ref q_text, .int v_size, .int v_at, .ref q_read, .ref q_l, .ref q_stands, .ref q_kept, .int v_keptMany, .ref q_one, .ref q_two, .ref q_ways, .ref q_now, .ref q_then])), (q_l, .inl (ca 0, 336, .inl v_l)), (q_one, .inl (ca 0, 7, .inl y_one_24)), (q_two, .inl (ca 0, 7, .inl y_two_28)), (q_ways, .inl (ca 0, 49, .inl y_ways_32))] → va_S A s.heap H locs → lv_has ls 7 [(0, .ref q_this), (1, .int p1), (2, .int p2), (4, .int x4_12), (5, .int x5_13), (6, .int z0_31)] → W p l e (headSpec wsX10_from rm_X10_from).room s m args below meth c H locs 0 0 Q (F0 m 130 ls [.int z0_34]) := by
                  intro z0_34 H locs ls h hP hD hS hl
                  rw [j_X10_from_130] at h
                  refine lv_istore_n (lv' := [(3, .int z0_34), (0, .ref q_this), (1, .int p1), (2, .int p2), (4, .int x4_12), (5, .int x5_13), (6, .int z0_31)]) hx hb dX10_from_130 rfl hl (by decide) rfl (fun ls hl => ?_)
                  refine lv_iload_n hx hb dX10_from_131 rfl (lv_at hl 0 rfl) ?_
                  refine lv_iload hx hb dX10_from_132 (lv_at hl 5 rfl) ?_
                  refine lv_icmp_ne (tgt := 142) hx hb dX10_from_134 (by decide) (fun c_35 => ?_) (fun c_35 => ?_)
                  · replace h := ifn_el c_35 h
                    refine lv_iload hx hb dX10_from_142 (lv_at hl 4 rfl) ?_
                    refine lv_istore (lv' := [(4, .int x4_12), (3, .int z0_34), (0, .ref q_this), (1, .int p1), (2, .int p2), (5, .int x5_13), (6, .int z0_31)]) hx hb dX10_from_144 hl (by decide) rfl (fun ls hl => ?_)
                    obtain ⟨x5_36, e_37, h⟩ := nm_el h
                    refine lv_iinc (v := x5_36) (lv' := [(5, .int x5_36), (4, .int x4_12), (3, .int z0_34), (0, .ref q_this), (1, .int p1), (2, .int p2), (6, .int z0_31)]) hx hb dX10_from_146 hl (k := 5) rfl (by rw [← e_37]; rfl) (by decide) rfl (fun ls hl => ?_)
                    refine lv_goto (tgt := 46) hx hb dX10_from_149 (by decide) ?_
                    exact ih _ _ _ _ _ _ _ _ _ _ _ _ _ h hex hP hD hS (lv_sub hl [3, 4, 5, 2, 1, 0] rfl)
                  · replace h := ifp_el c_35 h
                    refine lv_iload hx hb dX10_from_137 (lv_at hl 6 rfl) ?_
                    refine lv_goto (tgt := 144) hx hb dX10_from_139 (by decide) ?_
                    refine lv_istore (lv' := [(4, .int z0_31), (3, .int z0_34), (0, .ref q_this), (1, .int p1), (2, .int p2), (5, .int x5_13), (6, .int z0_31)]) hx hb dX10_from_144 hl (by decide) rfl (fun ls hl => ?_)
                    obtain ⟨x5_38, e_39, h⟩ := nm_el h
                    refine lv_iinc (v := x5_38) (lv' := [(5, .int x5_38), (4, .int z0_31), (3, .int z0_34), (0, .ref q_this), (1, .int p1), (2, .int p2), (6, .int z0_31)]) hx hb dX10_from_146 hl (k := 5) rfl (by rw [← e_39]; rfl) (by decide) rfl (fun ls hl => ?_)
                    refine lv_goto (tgt := 46) hx hb dX10_from_149 (by decide) ?_
                    exact ih _ _ _ _ _ _ _ _ _ _ _ _ _ h hex hP hD hS (lv_sub hl [3, 4, 5, 2, 1, 0] rfl)
                have hj_129 : ∀  (H : Heap) (locs : List Loc) (ls : Array Slot), j_X10_from_129 x3_11 x4_12 x5_13 (lpg (T := Int32 → Int32 → Int32 → (Nat → Int32) → (Nat → Int32) → (Nat → Int32) → Option (Int32 × (Nat → Int32) × (Nat → Int32) × (Nat → Int32))) (fun _ _ _ _ _ _ => none) (b_X10_from_46 p1 p2 v_l F) n) y_one_24 y_two_28 z0_31 y_ways_32  = some (o_17, o_18, o_19, o_20) → va_P D vwCl [(q_this, .inr (8, [.ref q_text, .int v_size, .int v_at, .ref q_read, .ref q_l, .ref q_stands, .ref q_kept, .int v_keptMany, .ref q_one, .ref q_two, .ref q_ways, .ref q_now, .ref q_then])), (q_l, .inl (ca 0, 336, .inl v_l)), (q_one, .inl (ca 0, 7, .inl y_one_24)), (q_two, .inl (ca 0, 7, .inl y_two_28)), (q_ways, .inl (ca 0, 49, .inl y_ways_32))] H → va_D A [(q_this, .inr (8, [.ref q_text, .int v_size, .int v_at, .ref q_read, .ref q_l, .ref q_stands, .ref q_kept, .int v_keptMany, .ref q_one, .ref q_two, .ref q_ways, .ref q_now, .ref q_then])), (q_l, .inl (ca 0, 336, .inl v_l)), (q_one, .inl (ca 0, 7, .inl y_one_24)), (q_two, .inl (ca 0, 7, .inl y_two_28)), (q_ways, .inl (ca 0, 49, .inl y_ways_32))] → va_S A s.heap H locs → lv_has ls 7 [(0, .ref q_this), (1, .int p1), (2, .int p2), (3, .int x3_11), (4, .int x4_12), (5, .int x5_13), (6, .int z0_31)] → W p l e (headSpec wsX10_from rm_X10_from).room s m args below meth c H locs 0 0 Q (F0 m 129 ls []) := by
                  intro  H locs ls h hP hD hS hl
                  rw [j_X10_from_129] at h
                  refine lv_iload_n hx hb dX10_from_129 rfl (lv_at hl 3 rfl) ?_
                  exact hj_130 _ _ _ _ h hP hD hS (lv_sub hl [0, 1, 2, 4, 5, 6] rfl)
                refine lv_icmp_lt (tgt := 129) hx hb dX10_from_110 (by decide) (fun c_40 => ?_) (fun c_40 => ?_)
                · replace h := ifp_el c_40 h
                  exact hj_129  _ _ _ h hP hD hS (lv_sub hl [1, 2, 3, 4, 5, 6, 0] rfl)
                · replace h := ifn_el c_40 h
                  refine lv_iload_n hx hb dX10_from_113 rfl (lv_at hl 4 rfl) ?_
                  have hj_124 : ∀  (H : Heap) (locs : List Loc) (ls : Array Slot), j_X10_from_124 x4_12 x5_13 (lpg (T := Int32 → Int32 → Int32 → (Nat → Int32) → (Nat → Int32) → (Nat → Int32) → Option (Int32 × (Nat → Int32) × (Nat → Int32) × (Nat → Int32))) (fun _ _ _ _ _ _ => none) (b_X10_from_46 p1 p2 v_l F) n) y_one_24 y_two_28 z0_31 y_ways_32  = some (o_17, o_18, o_19, o_20) → va_P D vwCl [(q_this, .inr (8, [.ref q_text, .int v_size, .int v_at, .ref q_read, .ref q_l, .ref q_stands, .ref q_kept, .int v_keptMany, .ref q_one, .ref q_two, .ref q_ways, .ref q_now, .ref q_then])), (q_l, .inl (ca 0, 336, .inl v_l)), (q_one, .inl (ca 0, 7, .inl y_one_24)), (q_two, .inl (ca 0, 7, .inl y_two_28)), (q_ways, .inl (ca 0, 49, .inl y_ways_32))] H → va_D A [(q_this, .inr (8, [.ref q_text, .int v_size, .int v_at, .ref q_read, .ref q_l, .ref q_stands, .ref q_kept, .int v_keptMany, .ref q_one, .ref q_two, .ref q_ways, .ref q_now, .ref q_then])), (q_l, .inl (ca 0, 336, .inl v_l)), (q_one, .inl (ca 0, 7, .inl y_one_24)), (q_two, .inl (ca 0, 7, .inl y_two_28)), (q_ways, .inl (ca 0, 49, .inl y_ways_32))] → va_S A s.heap H locs → lv_has ls 7 [(0, .ref q_this), (1, .int p1), (2, .int p2), (4, .int x4_12), (5, .int x5_13), (6, .int z0_31)] → W p l e (headSpec wsX10_from rm_X10_from).room s m args below meth c H locs 0 0 Q (F0 m 124 ls []) := by
                    intro  H locs ls h hP hD hS hl
                    rw [j_X10_from_124] at h
                    refine lv_iload hx hb dX10_from_124 (lv_at hl 4 rfl) ?_
                    refine lv_goto (tgt := 130) hx hb dX10_from_126 (by decide) ?_
                    exact hj_130 _ _ _ _ h hP hD hS (lv_sub hl [0, 1, 2, 3, 4, 5] rfl)
                  refine lv_if_lt (tgt := 124) hx hb dX10_from_114 (by decide) (fun c_41 => ?_) (fun c_41 => ?_)
                  · replace h := ifp_el c_41 h
                    exact hj_124  _ _ _ h hP hD hS (lv_sub hl [1, 2, 3, 5, 6, 0] rfl)
                  · replace h := ifn_el c_41 h
                    refine lv_iload hx hb dX10_from_117 (lv_at hl 0 rfl) ?_
                    refine lv_iload hx hb dX10_from_119 (lv_at hl 5 rfl) ?_
                    refine lv_icmp_le (tgt := 129) hx hb dX10_from_121 (by decide) (fun c_42 => ?_) (fun c_42 => ?_)
                    · replace h := ifp_el c_42 h
                      exact hj_129  _ _ _ h hP hD hS (lv_sub hl [1, 2, 3, 4, 5, 6, 0] rfl)
                    · replace h := ifn_el c_42 h
                      exact hj_124  _ _ _ h hP hD hS (lv_sub hl [1, 2, 3, 5, 6, 0] rfl)
              refine lv_if_ne (tgt := 94) hx hb dX10_from_87 (by decide) (fun c_43 => ?_) (fun c_43 => ?_)
              · replace h := ifn_el c_43 h
                refine lv_aload_n hx hb dX10_from_94 rfl (lv_at hl 0 rfl) ?_
                obtain ⟨r_44, y_ways_45, hg_46, h⟩ := bd2_el h
                refine kx_Vi (As := []) (rest := []) (wr := [(q_l, .inl (ca 0, 336, .inl v_l))]) (w1 := [(q_this, .inr (8, [.ref q_text, .int v_size, .int v_at, .ref q_read, .ref q_l, .ref q_stands, .ref q_kept, .int v_keptMany, .ref q_one, .ref q_two, .ref q_ways, .ref q_now, .ref q_then])), (q_one, .inl (ca 0, 7, .inl y_one_24)), (q_two, .inl (ca 0, 7, .inl y_two_28)), (q_ways, .inl (ca 0, 49, .inl y_ways_45))]) (wn := [(q_this, .inr (8, [.ref q_text, .int v_size, .int v_at, .ref q_read, .ref q_l, .ref q_stands, .ref q_kept, .int v_keptMany, .ref q_one, .ref q_two, .ref q_ways, .ref q_now, .ref q_then])), (q_l, .inl (ca 0, 336, .inl v_l)), (q_one, .inl (ca 0, 7, .inl y_one_24)), (q_two, .inl (ca 0, 7, .inl y_two_28)), (q_ways, .inl (ca 0, 49, .inl y_ways_45))]) ⟨hx, hb, hml, hown, hts⟩ (c_X10_likeOf l D ca F H.size q_this q_text q_read q_l q_stands q_kept q_one q_two q_ways q_now q_then v_size v_at v_keptMany y_one_24 y_two_28 y_ways_16 r_44 y_ways_45 hg_46) (cwV 0 hts gX10_from_X10_likeOf rfl rfl rfl (by decide +kernel) ⟨(Nat.le_of_ble_eq_true rfl), (Nat.le_of_ble_eq_true rfl)⟩) hK hP hD hS hA (ci := 8) (q0 := 0) rfl rfl [0, 2, 3, 4] [1] [1, 0, 2, 3, 4] rfl rfl rfl rfl (by decide) rfl rfl rfl hl.1 rfl (Nat.le_of_ble_eq_true rfl) dX10_from_95 ⟨Nat.zero_le _, Nat.zero_le _⟩ (fun H locs hP hD hS => ?_)
                exact hj_98 _ _ _ _ _ h hP hD hS (lv_sub hl [0, 1, 2, 3, 4, 5] rfl)
              · replace h := ifp_el c_43 h
                refine lv_iconst (v := (-1 : Int32)) hx hb dX10_from_90 (by decide) ?_
                refine lv_goto (tgt := 98) hx hb dX10_from_91 (by decide) ?_
                exact hj_98 _ _ _ _ _ h hP hD hS (lv_sub hl [0, 1, 2, 3, 4, 5] rfl)
        exact hlp F (-4 : Int32) (nI 0) (nI 0) v_one v_two v_ways o_17 o_18 o_19 o_20 H locs ls hL hex hP hD hS (lv_sub hl [3, 4, 5, 2, 1, 0] rfl)
      · replace h := ifp_el c_10 h
        refine lv_bipush (v := (-2 : Int32)) hx hb dX10_from_34 (by decide) ?_
        cases h
        rw [← hQe]
        exact W.iret hx hb hr (fun t ht hW => ⟨⟨_, (), rfl, rfl, by rw [ht]; exact hP, va_K.moved hW.alike hK, hD⟩, hS.F ht⟩) hS.2.2 dX10_from_36
    · replace h := ifp_el c_6 h
      refine lv_iconst (v := (-1 : Int32)) hx hb dX10_from_19 (by decide) ?_
      cases h
      rw [← hQe]
      exact W.iret hx hb hr (fun t ht hW => ⟨⟨_, (), rfl, rfl, by rw [ht]; exact hP, va_K.moved hW.alike hK, hD⟩, hS.F ht⟩) hS.2.2 dX10_from_20
def b_X10_chance_53 (p1 : Int32) (p2 : Int32) (v_l : Nat → Int32) (F : Nat) (x6_12 : Int32) (rec53 : Int32 → Int32 → Int32 → (Nat → Int32) → (Nat → Int32) → (Nat → Int32) → Option (Int32 × Int32 × (Nat → Int32) × (Nat → Int32) × (Nat → Int32))) (x4_22 : Int32) (x5_23 : Int32) (x7_24 : Int32) (y_one_25 : Nat → Int32) (y_two_26 : Nat → Int32) (y_ways_27 : Nat → Int32) : Option (Int32 × Int32 × (Nat → Int32) × (Nat → Int32) × (Nat → Int32)) := (if (nI 8) ≤ x7_24 then some (x4_22, x5_23, y_one_25, y_two_26, y_ways_27) else (if x6_12 = x7_24 then nm (x7_24 + (nI 1)) (fun x7_35 => rec53 x4_22 x5_23 x7_35 y_one_25 y_two_26 y_ways_27) else bd1 (D_X10_earAt p1 x6_12) (fun r_37 => ck 336 r_37 ((if (v_l r_37.toNatClampNeg) ≤ 0 then nm (x7_24 + (nI 1)) (fun x7_41 => rec53 x4_22 x5_23 x7_41 y_one_25 y_two_26 y_ways_27) else bd1 (D_X10_wordAt p2 x7_24) (fun r_43 => ck 336 r_43 ((if (v_l r_43.toNatClampNeg) ≤ 0 then nm (x7_24 + (nI 1)) (fun x7_47 => rec53 x4_22 x5_23 x7_47 y_one_25 y_two_26 y_ways_27) else bd1 (D_X10_earAt p1 x6_12) (fun r_49 => bd1 (D_X10_say F 7 r_49 (-1 : Int32) v_l y_one_25) (fun y_one_51 => bd1 (D_X10_wordAt p2 x7_24) (fun r_53 => bd1 (D_X10_say F 7 r_53 (-1 : Int32) v_l y_two_26) (fun y_two_55 => nm (x5_23 + (nI 1)) (fun x5_57 => bd2 (D_X10_likeOf F y_one_51 y_two_55 y_ways_27) (fun r_59 y_ways_60 => ck 336 (nI 303) ((if r_59 < (v_l (nI 303).toNatClampNeg) then nm (x4_22 + (nI 0)) (fun x4_64 => nm (x7_24 + (nI 1)) (fun x7_65 => rec53 x4_64 x5_57 x7_65 y_one_51 y_two_55 y_ways_60)) else nm (x4_22 + (nI 1)) (fun x4_67 => nm (x7_24 + (nI 1)) (fun x7_68 => rec53 x4_67 x5_57 x7_68 y_one_51 y_two_55 y_ways_60))))))))))))))))))
def b_X10_chance_43 (p1 : Int32) (p2 : Int32) (v_l : Nat → Int32) (F : Nat) (rec43 : Int32 → Int32 → Int32 → (Nat → Int32) → (Nat → Int32) → (Nat → Int32) → Option (Int32 × Int32 × (Nat → Int32) × (Nat → Int32) × (Nat → Int32))) (x4_10 : Int32) (x5_11 : Int32) (x6_12 : Int32) (y_one_13 : Nat → Int32) (y_two_14 : Nat → Int32) (y_ways_15 : Nat → Int32) : Option (Int32 × Int32 × (Nat → Int32) × (Nat → Int32) × (Nat → Int32)) := (if (nI 8) ≤ x6_12 then some (x4_10, x5_11, y_one_13, y_two_14, y_ways_15) else bd5 (lpg (T := Int32 → Int32 → Int32 → (Nat → Int32) → (Nat → Int32) → (Nat → Int32) → Option (Int32 × Int32 × (Nat → Int32) × (Nat → Int32) × (Nat → Int32))) (fun _ _ _ _ _ _ => none) (b_X10_chance_53 p1 p2 v_l F x6_12) F x4_10 x5_11 (nI 0) y_one_13 y_two_14 y_ways_15) (fun o_28 o_29 o_30 o_31 o_32 => nm (x6_12 + (nI 1)) (fun x6_70 => rec43 o_28 o_29 x6_70 o_30 o_31 o_32)))
def D_X10_chance (F : Nat) (p1 : Int32) (p2 : Int32) (p3 : Int32) (v_l : Nat → Int32) (v_one : Nat → Int32) (v_two : Nat → Int32) (v_ways : Nat → Int32) : Option (Int32 × (Nat → Int32) × (Nat → Int32) × (Nat → Int32)) := bd1 (D_X10_in p1.toInt64 (lN 0) (lN 2)) (fun r_1 => (if r_1 = 0 then some ((-1 : Int32), v_one, v_two, v_ways) else bd1 (D_X10_in p2.toInt64 (lN 0) (lN 1)) (fun r_4 => (if r_4 = 0 then some ((-1 : Int32), v_one, v_two, v_ways) else bd1 (D_X10_in p3.toInt64 (lN 0) (lN 1)) (fun r_7 => (if r_7 = 0 then some ((-1 : Int32), v_one, v_two, v_ways) else bd5 (lpg (T := Int32 → Int32 → Int32 → (Nat → Int32) → (Nat → Int32) → (Nat → Int32) → Option (Int32 × Int32 × (Nat → Int32) × (Nat → Int32) × (Nat → Int32))) (fun _ _ _ _ _ _ => none) (b_X10_chance_43 p1 p2 v_l F) F (nI 0) (nI 0) (nI 0) v_one v_two v_ways) (fun o_16 o_17 o_18 o_19 o_20 => (if p3 = 0 then some (o_16, o_18, o_19, o_20) else some (o_17, o_18, o_19, o_20)))))))))
abbrev rm_X10_chance : Room := { frames := 3, cells := 0, slots := 0, locals := 71 }
set_option maxHeartbeats 4000000 in
set_option maxRecDepth 100000 in
theorem c_X10_chance (l : Launch) (D : va_G) (ca : Nat → ClassId) (F : Nat) (sz : Nat) (q_this q_text q_read q_l q_stands q_kept q_one q_two q_ways q_now q_then : Nat) (p1 : Int32) (p2 : Int32) (p3 : Int32) (v_size : Int32) (v_at : Int32) (v_keptMany : Int32) (v_l : Nat → Int32) (v_one : Nat → Int32) (v_two : Nat → Int32) (v_ways : Nat → Int32) (r : Int32) (o_one : Nat → Int32) (o_two : Nat → Int32) (o_ways : Nat → Int32) (h : D_X10_chance F p1 p2 p3 v_l v_one v_two v_ways = some (r, o_one, o_two, o_ways)) : Met l yX10_chance wsX10_chance rm_X10_chance (va_Pc [.ref q_this, .int p1, .int p2, .int p3] (kPre D ca [(q_this, .inr (8, [.ref q_text, .int v_size, .int v_at, .ref q_read, .ref q_l, .ref q_stands, .ref q_kept, .int v_keptMany, .ref q_one, .ref q_two, .ref q_ways, .ref q_now, .ref q_then])), (q_l, .inl (ca 0, 336, .inl v_l)), (q_one, .inl (ca 0, 7, .inl v_one)), (q_two, .inl (ca 0, 7, .inl v_two)), (q_ways, .inl (ca 0, 49, .inl v_ways))] sz)) (kQi D ca (va_A [(q_this, .inr (8, [.ref q_text, .int v_size, .int v_at, .ref q_read, .ref q_l, .ref q_stands, .ref q_kept, .int v_keptMany, .ref q_one, .ref q_two, .ref q_ways, .ref q_now, .ref q_then])), (q_l, .inl (ca 0, 336, .inl v_l)), (q_one, .inl (ca 0, 7, .inl v_one)), (q_two, .inl (ca 0, 7, .inl v_two)), (q_ways, .inl (ca 0, 49, .inl v_ways))] sz) [(q_this, .inr (8, [.ref q_text, .int v_size, .int v_at, .ref q_read, .ref q_l, .ref q_stands, .ref q_kept, .int v_keptMany, .ref q_one, .ref q_two, .ref q_ways, .ref q_now, .ref q_then])), (q_l, .inl (ca 0, 336, .inl v_l)), (q_one, .inl (ca 0, 7, .inl o_one)), (q_two, .inl (ca 0, 7, .inl o_two)), (q_ways, .inl (ca 0, 49, .inl o_ways))] r) 0 0 (va_A [(q_this, .inr (8, [.ref q_text, .int v_size, .int v_at, .ref q_read, .ref q_l, .ref q_stands, .ref q_kept, .int v_keptMany, .ref q_one, .ref q_two, .ref q_ways, .ref q_now, .ref q_then])), (q_l, .inl (ca 0, 336, .inl v_l)), (q_one, .inl (ca 0, 7, .inl v_one)), (q_two, .inl (ca 0, 7, .inl v_two)), (q_ways, .inl (ca 0, 49, .inl v_ways))] sz) := by
  refine Met.ofW (cc := cX10_chance) (maxL := 8) (ret := (some .int)) (by decide +kernel) rfl ?_
  intro p e s m args below meth c s₁ B hml hv
  obtain ⟨rfl, hsz, hP, hK, hD0⟩ := hv
  have hx := B.exec
  have hb := B.bytes
  have hr := B.returns
  have hts := atoms_spec (ws := wsX10_chance) B.pre
  have hown : s.vm.findClass RX10 = some m.cls := findClass_of_methodNamed B.named
  have hlocks := B.notSynchronized
  clear B
  subst hsz
  have hD := hD0.self (sz := s.heap.size)
  generalize hAe : va_A [(q_this, .inr (8, [.ref q_text, .int v_size, .int v_at, .ref q_read, .ref q_l, .ref q_stands, .ref q_kept, .int v_keptMany, .ref q_one, .ref q_two, .ref q_ways, .ref q_now, .ref q_then])), (q_l, .inl (ca 0, 336, .inl v_l)), (q_one, .inl (ca 0, 7, .inl v_one)), (q_two, .inl (ca 0, 7, .inl v_two)), (q_ways, .inl (ca 0, 49, .inl v_ways))] s.heap.size = A at hD ⊢
  have hA : ∀ q : Nat, s.heap.size ≤ q → A q := fun q h => by rw [← hAe]; exact Or.inr h
  have hS : va_S A s.heap s.heap [] := va_S.rf
  have hl := lv_entry ([.ref q_this, .int p1, .int p2, .int p3]) (n := 8) (Nat.le_of_ble_eq_true rfl)
  rw [lg_entry_eq]
  generalize (lg_sl ([.ref q_this, .int p1, .int p2, .int p3]) ++ List.replicate (8 - (lg_sl ([.ref q_this, .int p1, .int p2, .int p3])).length) Slot.unset).toArray = ls at hl ⊢
  have hl : lv_has ls 8 [(0, .ref q_this), (1, .int p1), (2, .int p2), (3, .int p3)] := hl
  generalize ([.ref q_this, .int p1, .int p2, .int p3] : List Value).toArray = args at hts ⊢
  generalize hQe : MQ below (kQi D ca (A) [(q_this, .inr (8, [.ref q_text, .int v_size, .int v_at, .ref q_read, .ref q_l, .ref q_stands, .ref q_kept, .int v_keptMany, .ref q_one, .ref q_two, .ref q_ways, .ref q_now, .ref q_then])), (q_l, .inl (ca 0, 336, .inl v_l)), (q_one, .inl (ca 0, 7, .inl o_one)), (q_two, .inl (ca 0, 7, .inl o_two)), (q_ways, .inl (ca 0, 49, .inl o_ways))] r) args s 0 0 A = Q
  have k_228 := hts (.constantLong RX10 228 (lN 2)) (by decide +kernel)
  have i_X10 : ∀ w ∈ u_ws RX10 TX10 13, w ∈ wsX10_chance := by decide +kernel
  have k_16 := hts (.fieldLink RX10 16 "TradeWordsModel" "l" "[I") (by decide +kernel)
  have k_25 := hts (.fieldLink RX10 25 "TradeWordsModel" "one" "[I") (by decide +kernel)
  have k_28 := hts (.fieldLink RX10 28 "TradeWordsModel" "two" "[I") (by decide +kernel)
  rw [D_X10_chance] at h
  refine lv_iload_n hx hb dX10_chance_0 rfl (lv_at hl 1 rfl) ?_
  refine lv_i2l hx hb dX10_chance_1 rfl ?_
  refine lv_lconst (v := (lN 0)) hx hb dX10_chance_2 (by decide) ?_
  refine lv_ldc2 hx hb hown k_228 dX10_chance_3 ?_
  obtain ⟨r_1, hg_2, h⟩ := bd1_el h
  refine kx_Si (As := [.long p1.toInt64, .long (lN 0), .long (lN 2)]) (rest := []) (wr := [(q_this, .inr (8, [.ref q_text, .int v_size, .int v_at, .ref q_read, .ref q_l, .ref q_stands, .ref q_kept, .int v_keptMany, .ref q_one, .ref q_two, .ref q_ways, .ref q_now, .ref q_then])), (q_l, .inl (ca 0, 336, .inl v_l)), (q_one, .inl (ca 0, 7, .inl v_one)), (q_two, .inl (ca 0, 7, .inl v_two)), (q_ways, .inl (ca 0, 49, .inl v_ways))]) (w1 := []) (wn := [(q_this, .inr (8, [.ref q_text, .int v_size, .int v_at, .ref q_read, .ref q_l, .ref q_stands, .ref q_kept, .int v_keptMany, .ref q_one, .ref q_two, .ref q_ways, .ref q_now, .ref q_then])), (q_l, .inl (ca 0, 336, .inl v_l)), (q_one, .inl (ca 0, 7, .inl v_one)), (q_two, .inl (ca 0, 7, .inl v_two)), (q_ways, .inl (ca 0, 49, .inl v_ways))]) ⟨hx, hb, hml, hown, hts⟩ (c_X10_in l D ca s.heap.size p1.toInt64 (lN 0) (lN 2) r_1 hg_2) (va_cwS 3 hts gX10_chance_X10_in rfl rfl rfl (by decide +kernel) ⟨(Nat.le_of_ble_eq_true rfl), (Nat.le_of_ble_eq_true rfl)⟩) hK hP hD hS hA [] [0, 1, 2, 3, 4] [0, 1, 2, 3, 4] rfl rfl rfl rfl (by decide) rfl rfl rfl hl.1 rfl (Nat.le_of_ble_eq_true rfl) dX10_chance_6 ⟨Nat.zero_le _, Nat.zero_le _⟩ (fun H locs hP hD hS => ?_)
  refine lv_if_eq (tgt := 32) hx hb dX10_chance_9 (by decide) (fun c_3 => ?_) (fun c_3 => ?_)
  · replace h := ifp_el c_3 h
    refine lv_iconst (v := (-1 : Int32)) hx hb dX10_chance_32 (by decide) ?_
    cases h
    rw [← hQe]
    exact W.iret hx hb hr (fun t ht hW => ⟨⟨_, (), rfl, rfl, by rw [ht]; exact hP, va_K.moved hW.alike hK, hD⟩, hS.F ht⟩) hS.2.2 dX10_chance_33
  · replace h := ifn_el c_3 h
    refine lv_iload_n hx hb dX10_chance_12 rfl (lv_at hl 2 rfl) ?_
    refine lv_i2l hx hb dX10_chance_13 rfl ?_
    refine lv_lconst (v := (lN 0)) hx hb dX10_chance_14 (by decide) ?_
    refine lv_lconst (v := (lN 1)) hx hb dX10_chance_15 (by decide) ?_
    obtain ⟨r_4, hg_5, h⟩ := bd1_el h
    refine kx_Si (As := [.long p2.toInt64, .long (lN 0), .long (lN 1)]) (rest := []) (wr := [(q_this, .inr (8, [.ref q_text, .int v_size, .int v_at, .ref q_read, .ref q_l, .ref q_stands, .ref q_kept, .int v_keptMany, .ref q_one, .ref q_two, .ref q_ways, .ref q_now, .ref q_then])), (q_l, .inl (ca 0, 336, .inl v_l)), (q_one, .inl (ca 0, 7, .inl v_one)), (q_two, .inl (ca 0, 7, .inl v_two)), (q_ways, .inl (ca 0, 49, .inl v_ways))]) (w1 := []) (wn := [(q_this, .inr (8, [.ref q_text, .int v_size, .int v_at, .ref q_read, .ref q_l, .ref q_stands, .ref q_kept, .int v_keptMany, .ref q_one, .ref q_two, .ref q_ways, .ref q_now, .ref q_then])), (q_l, .inl (ca 0, 336, .inl v_l)), (q_one, .inl (ca 0, 7, .inl v_one)), (q_two, .inl (ca 0, 7, .inl v_two)), (q_ways, .inl (ca 0, 49, .inl v_ways))]) ⟨hx, hb, hml, hown, hts⟩ (c_X10_in l D ca H.size p2.toInt64 (lN 0) (lN 1) r_4 hg_5) (va_cwS 3 hts gX10_chance_X10_in rfl rfl rfl (by decide +kernel) ⟨(Nat.le_of_ble_eq_true rfl), (Nat.le_of_ble_eq_true rfl)⟩) hK hP hD hS hA [] [0, 1, 2, 3, 4] [0, 1, 2, 3, 4] rfl rfl rfl rfl (by decide) rfl rfl rfl hl.1 rfl (Nat.le_of_ble_eq_true rfl) dX10_chance_16 ⟨Nat.zero_le _, Nat.zero_le _⟩ (fun H locs hP hD hS => ?_)
    refine lv_if_eq (tgt := 32) hx hb dX10_chance_19 (by decide) (fun c_6 => ?_) (fun c_6 => ?_)
    · replace h := ifp_el c_6 h
      refine lv_iconst (v := (-1 : Int32)) hx hb dX10_chance_32 (by decide) ?_
      cases h
      rw [← hQe]
      exact W.iret hx hb hr (fun t ht hW => ⟨⟨_, (), rfl, rfl, by rw [ht]; exact hP, va_K.moved hW.alike hK, hD⟩, hS.F ht⟩) hS.2.2 dX10_chance_33
    · replace h := ifn_el c_6 h
      refine lv_iload_n hx hb dX10_chance_22 rfl (lv_at hl 3 rfl) ?_
      refine lv_i2l hx hb dX10_chance_23 rfl ?_
      refine lv_lconst (v := (lN 0)) hx hb dX10_chance_24 (by decide) ?_
      refine lv_lconst (v := (lN 1)) hx hb dX10_chance_25 (by decide) ?_
      obtain ⟨r_7, hg_8, h⟩ := bd1_el h
      refine kx_Si (As := [.long p3.toInt64, .long (lN 0), .long (lN 1)]) (rest := []) (wr := [(q_this, .inr (8, [.ref q_text, .int v_size, .int v_at, .ref q_read, .ref q_l, .ref q_stands, .ref q_kept, .int v_keptMany, .ref q_one, .ref q_two, .ref q_ways, .ref q_now, .ref q_then])), (q_l, .inl (ca 0, 336, .inl v_l)), (q_one, .inl (ca 0, 7, .inl v_one)), (q_two, .inl (ca 0, 7, .inl v_two)), (q_ways, .inl (ca 0, 49, .inl v_ways))]) (w1 := []) (wn := [(q_this, .inr (8, [.ref q_text, .int v_size, .int v_at, .ref q_read, .ref q_l, .ref q_stands, .ref q_kept, .int v_keptMany, .ref q_one, .ref q_two, .ref q_ways, .ref q_now, .ref q_then])), (q_l, .inl (ca 0, 336, .inl v_l)), (q_one, .inl (ca 0, 7, .inl v_one)), (q_two, .inl (ca 0, 7, .inl v_two)), (q_ways, .inl (ca 0, 49, .inl v_ways))]) ⟨hx, hb, hml, hown, hts⟩ (c_X10_in l D ca H.size p3.toInt64 (lN 0) (lN 1) r_7 hg_8) (va_cwS 3 hts gX10_chance_X10_in rfl rfl rfl (by decide +kernel) ⟨(Nat.le_of_ble_eq_true rfl), (Nat.le_of_ble_eq_true rfl)⟩) hK hP hD hS hA [] [0, 1, 2, 3, 4] [0, 1, 2, 3, 4] rfl rfl rfl rfl (by decide) rfl rfl rfl hl.1 rfl (Nat.le_of_ble_eq_true rfl) dX10_chance_26 ⟨Nat.zero_le _, Nat.zero_le _⟩ (fun H locs hP hD hS => ?_)
      refine lv_if_ne (tgt := 34) hx hb dX10_chance_29 (by decide) (fun c_9 => ?_) (fun c_9 => ?_)
      · replace h := ifn_el c_9 h
        refine lv_iconst (v := (nI 0)) hx hb dX10_chance_34 (by decide) ?_
        refine lv_istore (lv' := [(4, .int (nI 0)), (0, .ref q_this), (1, .int p1), (2, .int p2), (3, .int p3)]) hx hb dX10_chance_35 hl (by decide) rfl (fun ls hl => ?_)
        refine lv_iconst (v := (nI 0)) hx hb dX10_chance_37 (by decide) ?_
        refine lv_istore (lv' := [(5, .int (nI 0)), (4, .int (nI 0)), (0, .ref q_this), (1, .int p1), (2, .int p2), (3, .int p3)]) hx hb dX10_chance_38 hl (by decide) rfl (fun ls hl => ?_)
        refine lv_iconst (v := (nI 0)) hx hb dX10_chance_40 (by decide) ?_
        refine lv_istore (lv' := [(6, .int (nI 0)), (5, .int (nI 0)), (4, .int (nI 0)), (0, .ref q_this), (1, .int p1), (2, .int p2), (3, .int p3)]) hx hb dX10_chance_41 hl (by decide) rfl (fun ls hl => ?_)
        obtain ⟨o_16, o_17, o_18, o_19, o_20, hL, h⟩ := bd5_el h
        have hex : ∀ (H : Heap) (locs : List Loc) (ls : Array Slot), va_P D vwCl [(q_this, .inr (8, [.ref q_text, .int v_size, .int v_at, .ref q_read, .ref q_l, .ref q_stands, .ref q_kept, .int v_keptMany, .ref q_one, .ref q_two, .ref q_ways, .ref q_now, .ref q_then])), (q_l, .inl (ca 0, 336, .inl v_l)), (q_one, .inl (ca 0, 7, .inl o_18)), (q_two, .inl (ca 0, 7, .inl o_19)), (q_ways, .inl (ca 0, 49, .inl o_20))] H → va_D A [(q_this, .inr (8, [.ref q_text, .int v_size, .int v_at, .ref q_read, .ref q_l, .ref q_stands, .ref q_kept, .int v_keptMany, .ref q_one, .ref q_two, .ref q_ways, .ref q_now, .ref q_then])), (q_l, .inl (ca 0, 336, .inl v_l)), (q_one, .inl (ca 0, 7, .inl o_18)), (q_two, .inl (ca 0, 7, .inl o_19)), (q_ways, .inl (ca 0, 49, .inl o_20))] → va_S A s.heap H locs → lv_has ls 8 [(3, .int p3), (4, .int o_16), (5, .int o_17)] → W p l e (headSpec wsX10_chance rm_X10_chance).room s m args below meth c H locs 0 0 Q (F0 m 165 ls []) := by
          intro H locs ls hP hD hS hl
          refine lv_iload_n hx hb dX10_chance_165 rfl (lv_at hl 0 rfl) ?_
          refine lv_if_ne (tgt := 174) hx hb dX10_chance_166 (by decide) (fun c_72 => ?_) (fun c_72 => ?_)
          · replace h := ifn_el c_72 h
            refine lv_iload hx hb dX10_chance_174 (lv_at hl 2 rfl) ?_
            cases h
            rw [← hQe]
            exact W.iret hx hb hr (fun t ht hW => ⟨⟨_, (), rfl, rfl, by rw [ht]; exact hP, va_K.moved hW.alike hK, hD⟩, hS.F ht⟩) hS.2.2 dX10_chance_176
          · replace h := ifp_el c_72 h
            refine lv_iload hx hb dX10_chance_169 (lv_at hl 1 rfl) ?_
            refine lv_goto (tgt := 176) hx hb dX10_chance_171 (by decide) ?_
            cases h
            rw [← hQe]
            exact W.iret hx hb hr (fun t ht hW => ⟨⟨_, (), rfl, rfl, by rw [ht]; exact hP, va_K.moved hW.alike hK, hD⟩, hS.F ht⟩) hS.2.2 dX10_chance_176
        have hlp : ∀ (n : Nat) (x4_10 : Int32) (x5_11 : Int32) (x6_12 : Int32) (y_one_13 : Nat → Int32) (y_two_14 : Nat → Int32) (y_ways_15 : Nat → Int32) (o_16 : Int32) (o_17 : Int32) (o_18 : Nat → Int32) (o_19 : Nat → Int32) (o_20 : Nat → Int32) (H : Heap) (locs : List Loc) (ls : Array Slot), lpg (T := Int32 → Int32 → Int32 → (Nat → Int32) → (Nat → Int32) → (Nat → Int32) → Option (Int32 × Int32 × (Nat → Int32) × (Nat → Int32) × (Nat → Int32))) (fun _ _ _ _ _ _ => none) (b_X10_chance_43 p1 p2 v_l F) n x4_10 x5_11 x6_12 y_one_13 y_two_14 y_ways_15 = some (o_16, o_17, o_18, o_19, o_20) → (∀ (H : Heap) (locs : List Loc) (ls : Array Slot), va_P D vwCl [(q_this, .inr (8, [.ref q_text, .int v_size, .int v_at, .ref q_read, .ref q_l, .ref q_stands, .ref q_kept, .int v_keptMany, .ref q_one, .ref q_two, .ref q_ways, .ref q_now, .ref q_then])), (q_l, .inl (ca 0, 336, .inl v_l)), (q_one, .inl (ca 0, 7, .inl o_18)), (q_two, .inl (ca 0, 7, .inl o_19)), (q_ways, .inl (ca 0, 49, .inl o_20))] H → va_D A [(q_this, .inr (8, [.ref q_text, .int v_size, .int v_at, .ref q_read, .ref q_l, .ref q_stands, .ref q_kept, .int v_keptMany, .ref q_one, .ref q_two, .ref q_ways, .ref q_now, .ref q_then])), (q_l, .inl (ca 0, 336, .inl v_l)), (q_one, .inl (ca 0, 7, .inl o_18)), (q_two, .inl (ca 0, 7, .inl o_19)), (q_ways, .inl (ca 0, 49, .inl o_20))] → va_S A s.heap H locs → lv_has ls 8 [(3, .int p3), (4, .int o_16), (5, .int o_17)] → W p l e (headSpec wsX10_chance rm_X10_chance).room s m args below meth c H locs 0 0 Q (F0 m 165 ls [])) → va_P D vwCl [(q_this, .inr (8, [.ref q_text, .int v_size, .int v_at, .ref q_read, .ref q_l, .ref q_stands, .ref q_kept, .int v_keptMany, .ref q_one, .ref q_two, .ref q_ways, .ref q_now, .ref q_then])), (q_l, .inl (ca 0, 336, .inl v_l)), (q_one, .inl (ca 0, 7, .inl y_one_13)), (q_two, .inl (ca 0, 7, .inl y_two_14)), (q_ways, .inl (ca 0, 49, .inl y_ways_15))] H → va_D A [(q_this, .inr (8, [.ref q_text, .int v_size, .int v_at, .ref q_read, .ref q_l, .ref q_stands, .ref q_kept, .int v_keptMany, .ref q_one, .ref q_two, .ref q_ways, .ref q_now, .ref q_then])), (q_l, .inl (ca 0, 336, .inl v_l)), (q_one, .inl (ca 0, 7, .inl y_one_13)), (q_two, .inl (ca 0, 7, .inl y_two_14)), (q_ways, .inl (ca 0, 49, .inl y_ways_15))] → va_S A s.heap H locs → lv_has ls 8 [(0, .ref q_this), (1, .int p1), (2, .int p2), (3, .int p3), (4, .int x4_10), (5, .int x5_11), (6, .int x6_12)] → W p l e (headSpec wsX10_chance rm_X10_chance).room s m args below meth c H locs 0 0 Q (F0 m 43 ls []) := by
          intro n
          induction n with
          | zero => intro x4_10 x5_11 x6_12 y_one_13 y_two_14 y_ways_15 o_16 o_17 o_18 o_19 o_20 H locs ls h; have h : (none : Option (Int32 × Int32 × (Nat → Int32) × (Nat → Int32) × (Nat → Int32))) = some _ := h; cases h
          | succ n ih =>
            intro x4_10 x5_11 x6_12 y_one_13 y_two_14 y_ways_15 o_16 o_17 o_18 o_19 o_20 H locs ls h hex hP hD hS hl
            rw [lpg_succ, b_X10_chance_43] at h
            refine lv_iload hx hb dX10_chance_43 (lv_at hl 6 rfl) ?_
            refine lv_bipush (v := (nI 8)) hx hb dX10_chance_45 (by decide) ?_
            refine lv_icmp_ge (tgt := 165) hx hb dX10_chance_47 (by decide) (fun c_21 => ?_) (fun c_21 => ?_)
            · replace h := ifp_el c_21 h
              cases h
              exact hex _ _ _ hP hD hS (lv_sub hl [3, 4, 5] rfl)
            · replace h := ifn_el c_21 h
              refine lv_iconst (v := (nI 0)) hx hb dX10_chance_50 (by decide) ?_
              refine lv_istore (lv' := [(7, .int (nI 0)), (0, .ref q_this), (1, .int p1), (2, .int p2), (3, .int p3), (4, .int x4_10), (5, .int x5_11), (6, .int x6_12)]) hx hb dX10_chance_51 hl (by decide) rfl (fun ls hl => ?_)
              obtain ⟨o_28, o_29, o_30, o_31, o_32, hL, h⟩ := bd5_el h
              have hex : ∀ (H : Heap) (locs : List Loc) (ls : Array Slot), va_P D vwCl [(q_this, .inr (8, [.ref q_text, .int v_size, .int v_at, .ref q_read, .ref q_l, .ref q_stands, .ref q_kept, .int v_keptMany, .ref q_one, .ref q_two, .ref q_ways, .ref q_now, .ref q_then])), (q_l, .inl (ca 0, 336, .inl v_l)), (q_one, .inl (ca 0, 7, .inl o_30)), (q_two, .inl (ca 0, 7, .inl o_31)), (q_ways, .inl (ca 0, 49, .inl o_32))] H → va_D A [(q_this, .inr (8, [.ref q_text, .int v_size, .int v_at, .ref q_read, .ref q_l, .ref q_stands, .ref q_kept, .int v_keptMany, .ref q_one, .ref q_two, .ref q_ways, .ref q_now, .ref q_then])), (q_l, .inl (ca 0, 336, .inl v_l)), (q_one, .inl (ca 0, 7, .inl o_30)), (q_two, .inl (ca 0, 7, .inl o_31)), (q_ways, .inl (ca 0, 49, .inl o_32))] → va_S A s.heap H locs → lv_has ls 8 [(0, .ref q_this), (1, .int p1), (2, .int p2), (3, .int p3), (4, .int o_28), (5, .int o_29), (6, .int x6_12)] → W p l e (headSpec wsX10_chance rm_X10_chance).room s m args below meth c H locs 0 0 Q (F0 m 159 ls []) := by
                intro H locs ls hP hD hS hl
                obtain ⟨x6_70, e_71, h⟩ := nm_el h
                refine lv_iinc (v := x6_70) (lv' := [(6, .int x6_70), (0, .ref q_this), (1, .int p1), (2, .int p2), (3, .int p3), (4, .int o_28), (5, .int o_29)]) hx hb dX10_chance_159 hl (k := 6) rfl (by rw [← e_71]; rfl) (by decide) rfl (fun ls hl => ?_)
                refine lv_goto (tgt := 43) hx hb dX10_chance_162 (by decide) ?_
                exact ih _ _ _ _ _ _ _ _ _ _ _ _ _ _ h hex hP hD hS (lv_sub hl [1, 2, 3, 4, 5, 6, 0] rfl)
              have hlp : ∀ (n : Nat) (x4_22 : Int32) (x5_23 : Int32) (x7_24 : Int32) (y_one_25 : Nat → Int32) (y_two_26 : Nat → Int32) (y_ways_27 : Nat → Int32) (o_28 : Int32) (o_29 : Int32) (o_30 : Nat → Int32) (o_31 : Nat → Int32) (o_32 : Nat → Int32) (H : Heap) (locs : List Loc) (ls : Array Slot), lpg (T := Int32 → Int32 → Int32 → (Nat → Int32) → (Nat → Int32) → (Nat → Int32) → Option (Int32 × Int32 × (Nat → Int32) × (Nat → Int32) × (Nat → Int32))) (fun _ _ _ _ _ _ => none) (b_X10_chance_53 p1 p2 v_l F x6_12) n x4_22 x5_23 x7_24 y_one_25 y_two_26 y_ways_27 = some (o_28, o_29, o_30, o_31, o_32) → (∀ (H : Heap) (locs : List Loc) (ls : Array Slot), va_P D vwCl [(q_this, .inr (8, [.ref q_text, .int v_size, .int v_at, .ref q_read, .ref q_l, .ref q_stands, .ref q_kept, .int v_keptMany, .ref q_one, .ref q_two, .ref q_ways, .ref q_now, .ref q_then])), (q_l, .inl (ca 0, 336, .inl v_l)), (q_one, .inl (ca 0, 7, .inl o_30)), (q_two, .inl (ca 0, 7, .inl o_31)), (q_ways, .inl (ca 0, 49, .inl o_32))] H → va_D A [(q_this, .inr (8, [.ref q_text, .int v_size, .int v_at, .ref q_read, .ref q_l, .ref q_stands, .ref q_kept, .int v_keptMany, .ref q_one, .ref q_two, .ref q_ways, .ref q_now, .ref q_then])), (q_l, .inl (ca 0, 336, .inl v_l)), (q_one, .inl (ca 0, 7, .inl o_30)), (q_two, .inl (ca 0, 7, .inl o_31)), (q_ways, .inl (ca 0, 49, .inl o_32))] → va_S A s.heap H locs → lv_has ls 8 [(0, .ref q_this), (1, .int p1), (2, .int p2), (3, .int p3), (4, .int o_28), (5, .int o_29), (6, .int x6_12)] → W p l e (headSpec wsX10_chance rm_X10_chance).room s m args below meth c H locs 0 0 Q (F0 m 159 ls [])) → va_P D vwCl [(q_this, .inr (8, [.ref q_text, .int v_size, .int v_at, .ref q_read, .ref q_l, .ref q_stands, .ref q_kept, .int v_keptMany, .ref q_one, .ref q_two, .ref q_ways, .ref q_now, .ref q_then])), (q_l, .inl (ca 0, 336, .inl v_l)), (q_one, .inl (ca 0, 7, .inl y_one_25)), (q_two, .inl (ca 0, 7, .inl y_two_26)), (q_ways, .inl (ca 0, 49, .inl y_ways_27))] H → va_D A [(q_this, .inr (8, [.ref q_text, .int v_size, .int v_at, .ref q_read, .ref q_l, .ref q_stands, .ref q_kept, .int v_keptMany, .ref q_one, .ref q_two, .ref q_ways, .ref q_now, .ref q_then])), (q_l, .inl (ca 0, 336, .inl v_l)), (q_one, .inl (ca 0, 7, .inl y_one_25)), (q_two, .inl (ca 0, 7, .inl y_two_26)), (q_ways, .inl (ca 0, 49, .inl y_ways_27))] → va_S A s.heap H locs → lv_has ls 8 [(0, .ref q_this), (1, .int p1), (2, .int p2), (3, .int p3), (4, .int x4_22), (5, .int x5_23), (6, .int x6_12), (7, .int x7_24)] → W p l e (headSpec wsX10_chance rm_X10_chance).room s m args below meth c H locs 0 0 Q (F0 m 53 ls []) := by
                intro n
                induction n with
                | zero => intro x4_22 x5_23 x7_24 y_one_25 y_two_26 y_ways_27 o_28 o_29 o_30 o_31 o_32 H locs ls h; have h : (none : Option (Int32 × Int32 × (Nat → Int32) × (Nat → Int32) × (Nat → Int32))) = some _ := h; cases h
                | succ n ih =>
                  intro x4_22 x5_23 x7_24 y_one_25 y_two_26 y_ways_27 o_28 o_29 o_30 o_31 o_32 H locs ls h hex hP hD hS hl
                  rw [lpg_succ, b_X10_chance_53] at h
                  refine lv_iload hx hb dX10_chance_53 (lv_at hl 7 rfl) ?_
                  refine lv_bipush (v := (nI 8)) hx hb dX10_chance_55 (by decide) ?_
                  refine lv_icmp_ge (tgt := 159) hx hb dX10_chance_57 (by decide) (fun c_33 => ?_) (fun c_33 => ?_)
                  · replace h := ifp_el c_33 h
                    cases h
                    exact hex _ _ _ hP hD hS (lv_sub hl [0, 1, 2, 3, 4, 5, 6] rfl)
                  · replace h := ifn_el c_33 h
                    refine lv_iload hx hb dX10_chance_60 (lv_at hl 6 rfl) ?_
                    refine lv_iload hx hb dX10_chance_62 (lv_at hl 7 rfl) ?_
                    refine lv_icmp_eq (tgt := 153) hx hb dX10_chance_64 (by decide) (fun c_34 => ?_) (fun c_34 => ?_)
                    · replace h := ifp_el c_34 h
                      obtain ⟨x7_35, e_36, h⟩ := nm_el h
                      refine lv_iinc (v := x7_35) (lv' := [(7, .int x7_35), (0, .ref q_this), (1, .int p1), (2, .int p2), (3, .int p3), (4, .int x4_22), (5, .int x5_23), (6, .int x6_12)]) hx hb dX10_chance_153 hl (k := 7) rfl (by rw [← e_36]; rfl) (by decide) rfl (fun ls hl => ?_)
                      refine lv_goto (tgt := 53) hx hb dX10_chance_156 (by decide) ?_
                      exact ih _ _ _ _ _ _ _ _ _ _ _ _ _ _ h hex hP hD hS (lv_sub hl [1, 2, 3, 4, 5, 6, 7, 0] rfl)
                    · replace h := ifn_el c_34 h
                      refine lv_aload_n hx hb dX10_chance_67 rfl (lv_at hl 0 rfl) ?_
                      refine va_get (D := D) (ci := 8) (v := .ref q_l) (C := RX10) (T := TX10) (N := 13) hx hb hts i_X10 hown hK hP 0 rfl rfl 4 (by decide) k_16 (fun _ h9 => h9) rfl dX10_chance_68 ?_
                      refine lv_iload_n hx hb dX10_chance_71 rfl (lv_at hl 1 rfl) ?_
                      refine lv_iload hx hb dX10_chance_72 (lv_at hl 6 rfl) ?_
                      obtain ⟨r_37, hg_38, h⟩ := bd1_el h
                      refine kx_Si (As := [.int p1, .int x6_12]) (rest := [.ref q_l]) (wr := [(q_this, .inr (8, [.ref q_text, .int v_size, .int v_at, .ref q_read, .ref q_l, .ref q_stands, .ref q_kept, .int v_keptMany, .ref q_one, .ref q_two, .ref q_ways, .ref q_now, .ref q_then])), (q_l, .inl (ca 0, 336, .inl v_l)), (q_one, .inl (ca 0, 7, .inl y_one_25)), (q_two, .inl (ca 0, 7, .inl y_two_26)), (q_ways, .inl (ca 0, 49, .inl y_ways_27))]) (w1 := []) (wn := [(q_this, .inr (8, [.ref q_text, .int v_size, .int v_at, .ref q_read, .ref q_l, .ref q_stands, .ref q_kept, .int v_keptMany, .ref q_one, .ref q_two, .ref q_ways, .ref q_now, .ref q_then])), (q_l, .inl (ca 0, 336, .inl v_l)), (q_one, .inl (ca 0, 7, .inl y_one_25)), (q_two, .inl (ca 0, 7, .inl y_two_26)), (q_ways, .inl (ca 0, 49, .inl y_ways_27))]) ⟨hx, hb, hml, hown, hts⟩ (c_X10_earAt l D ca H.size p1 x6_12 r_37 hg_38) (va_cwS 2 hts gX10_chance_X10_earAt rfl rfl rfl (by decide +kernel) ⟨(Nat.le_of_ble_eq_true rfl), (Nat.le_of_ble_eq_true rfl)⟩) hK hP hD hS hA [] [0, 1, 2, 3, 4] [0, 1, 2, 3, 4] rfl rfl rfl rfl (by decide) rfl rfl rfl hl.1 rfl (Nat.le_of_ble_eq_true rfl) dX10_chance_74 ⟨Nat.zero_le _, Nat.zero_le _⟩ (fun H locs hP hD hS => ?_)
                      obtain ⟨hi_39, h⟩ := ck_el h
                      refine va_iald hx hb hK hP 1 0 rfl rfl hi_39 dX10_chance_77 ?_
                      refine lv_if_le (tgt := 153) hx hb dX10_chance_78 (by decide) (fun c_40 => ?_) (fun c_40 => ?_)
                      · replace h := ifp_el c_40 h
                        obtain ⟨x7_41, e_42, h⟩ := nm_el h
                        refine lv_iinc (v := x7_41) (lv' := [(7, .int x7_41), (0, .ref q_this), (1, .int p1), (2, .int p2), (3, .int p3), (4, .int x4_22), (5, .int x5_23), (6, .int x6_12)]) hx hb dX10_chance_153 hl (k := 7) rfl (by rw [← e_42]; rfl) (by decide) rfl (fun ls hl => ?_)
                        refine lv_goto (tgt := 53) hx hb dX10_chance_156 (by decide) ?_
                        exact ih _ _ _ _ _ _ _ _ _ _ _ _ _ _ h hex hP hD hS (lv_sub hl [1, 2, 3, 4, 5, 6, 7, 0] rfl)
                      · replace h := ifn_el c_40 h
                        refine lv_aload_n hx hb dX10_chance_81 rfl (lv_at hl 0 rfl) ?_
                        refine va_get (D := D) (ci := 8) (v := .ref q_l) (C := RX10) (T := TX10) (N := 13) hx hb hts i_X10 hown hK hP 0 rfl rfl 4 (by decide) k_16 (fun _ h9 => h9) rfl dX10_chance_82 ?_
                        refine lv_iload_n hx hb dX10_chance_85 rfl (lv_at hl 2 rfl) ?_
                        refine lv_iload hx hb dX10_chance_86 (lv_at hl 7 rfl) ?_
                        obtain ⟨r_43, hg_44, h⟩ := bd1_el h
                        refine kx_Si (As := [.int p2, .int x7_24]) (rest := [.ref q_l]) (wr := [(q_this, .inr (8, [.ref q_text, .int v_size, .int v_at, .ref q_read, .ref q_l, .ref q_stands, .ref q_kept, .int v_keptMany, .ref q_one, .ref q_two, .ref q_ways, .ref q_now, .ref q_then])), (q_l, .inl (ca 0, 336, .inl v_l)), (q_one, .inl (ca 0, 7, .inl y_one_25)), (q_two, .inl (ca 0, 7, .inl y_two_26)), (q_ways, .inl (ca 0, 49, .inl y_ways_27))]) (w1 := []) (wn := [(q_this, .inr (8, [.ref q_text, .int v_size, .int v_at, .ref q_read, .ref q_l, .ref q_stands, .ref q_kept, .int v_keptMany, .ref q_one, .ref q_two, .ref q_ways, .ref q_now, .ref q_then])), (q_l, .inl (ca 0, 336, .inl v_l)), (q_one, .inl (ca 0, 7, .inl y_one_25)), (q_two, .inl (ca 0, 7, .inl y_two_26)), (q_ways, .inl (ca 0, 49, .inl y_ways_27))]) ⟨hx, hb, hml, hown, hts⟩ (c_X10_wordAt l D ca H.size p2 x7_24 r_43 hg_44) (va_cwS 2 hts gX10_chance_X10_wordAt rfl rfl rfl (by decide +kernel) ⟨(Nat.le_of_ble_eq_true rfl), (Nat.le_of_ble_eq_true rfl)⟩) hK hP hD hS hA [] [0, 1, 2, 3, 4] [0, 1, 2, 3, 4] rfl rfl rfl rfl (by decide) rfl rfl rfl hl.1 rfl (Nat.le_of_ble_eq_true rfl) dX10_chance_88 ⟨Nat.zero_le _, Nat.zero_le _⟩ (fun H locs hP hD hS => ?_)
                        obtain ⟨hi_45, h⟩ := ck_el h
                        refine va_iald hx hb hK hP 1 0 rfl rfl hi_45 dX10_chance_91 ?_
                        refine lv_if_le (tgt := 153) hx hb dX10_chance_92 (by decide) (fun c_46 => ?_) (fun c_46 => ?_)
                        · replace h := ifp_el c_46 h
                          obtain ⟨x7_47, e_48, h⟩ := nm_el h
                          refine lv_iinc (v := x7_47) (lv' := [(7, .int x7_47), (0, .ref q_this), (1, .int p1), (2, .int p2), (3, .int p3), (4, .int x4_22), (5, .int x5_23), (6, .int x6_12)]) hx hb dX10_chance_153 hl (k := 7) rfl (by rw [← e_48]; rfl) (by decide) rfl (fun ls hl => ?_)
                          refine lv_goto (tgt := 53) hx hb dX10_chance_156 (by decide) ?_
                          exact ih _ _ _ _ _ _ _ _ _ _ _ _ _ _ h hex hP hD hS (lv_sub hl [1, 2, 3, 4, 5, 6, 7, 0] rfl)
                        · replace h := ifn_el c_46 h
                          refine lv_aload_n hx hb dX10_chance_95 rfl (lv_at hl 0 rfl) ?_
                          refine lv_iload_n hx hb dX10_chance_96 rfl (lv_at hl 1 rfl) ?_
                          refine lv_iload hx hb dX10_chance_97 (lv_at hl 6 rfl) ?_
                          obtain ⟨r_49, hg_50, h⟩ := bd1_el h
                          refine kx_Si (As := [.int p1, .int x6_12]) (rest := [.ref q_this]) (wr := [(q_this, .inr (8, [.ref q_text, .int v_size, .int v_at, .ref q_read, .ref q_l, .ref q_stands, .ref q_kept, .int v_keptMany, .ref q_one, .ref q_two, .ref q_ways, .ref q_now, .ref q_then])), (q_l, .inl (ca 0, 336, .inl v_l)), (q_one, .inl (ca 0, 7, .inl y_one_25)), (q_two, .inl (ca 0, 7, .inl y_two_26)), (q_ways, .inl (ca 0, 49, .inl y_ways_27))]) (w1 := []) (wn := [(q_this, .inr (8, [.ref q_text, .int v_size, .int v_at, .ref q_read, .ref q_l, .ref q_stands, .ref q_kept, .int v_keptMany, .ref q_one, .ref q_two, .ref q_ways, .ref q_now, .ref q_then])), (q_l, .inl (ca 0, 336, .inl v_l)), (q_one, .inl (ca 0, 7, .inl y_one_25)), (q_two, .inl (ca 0, 7, .inl y_two_26)), (q_ways, .inl (ca 0, 49, .inl y_ways_27))]) ⟨hx, hb, hml, hown, hts⟩ (c_X10_earAt l D ca H.size p1 x6_12 r_49 hg_50) (va_cwS 2 hts gX10_chance_X10_earAt rfl rfl rfl (by decide +kernel) ⟨(Nat.le_of_ble_eq_true rfl), (Nat.le_of_ble_eq_true rfl)⟩) hK hP hD hS hA [] [0, 1, 2, 3, 4] [0, 1, 2, 3, 4] rfl rfl rfl rfl (by decide) rfl rfl rfl hl.1 rfl (Nat.le_of_ble_eq_true rfl) dX10_chance_99 ⟨Nat.zero_le _, Nat.zero_le _⟩ (fun H locs hP hD hS => ?_)
                          refine lv_iconst (v := (-1 : Int32)) hx hb dX10_chance_102 (by decide) ?_
                          refine lv_aload_n hx hb dX10_chance_103 rfl (lv_at hl 0 rfl) ?_
                          refine va_get (D := D) (ci := 8) (v := .ref q_one) (C := RX10) (T := TX10) (N := 13) hx hb hts i_X10 hown hK hP 0 rfl rfl 8 (by decide) k_25 (fun _ h9 => h9) rfl dX10_chance_104 ?_
                          obtain ⟨y_one_51, hg_52, h⟩ := bd1_el h
                          refine kx_Vv (As := [.int r_49, .int (-1 : Int32), .ref q_one]) (rest := []) (wr := [(q_two, .inl (ca 0, 7, .inl y_two_26)), (q_ways, .inl (ca 0, 49, .inl y_ways_27))]) (w1 := [(q_this, .inr (8, [.ref q_text, .int v_size, .int v_at, .ref q_read, .ref q_l, .ref q_stands, .ref q_kept, .int v_keptMany, .ref q_one, .ref q_two, .ref q_ways, .ref q_now, .ref q_then])), (q_l, .inl (ca 0, 336, .inl v_l)), (q_one, .inl (ca 0, 7, .inl y_one_51))]) (wn := [(q_this, .inr (8, [.ref q_text, .int v_size, .int v_at, .ref q_read, .ref q_l, .ref q_stands, .ref q_kept, .int v_keptMany, .ref q_one, .ref q_two, .ref q_ways, .ref q_now, .ref q_then])), (q_l, .inl (ca 0, 336, .inl v_l)), (q_one, .inl (ca 0, 7, .inl y_one_51)), (q_two, .inl (ca 0, 7, .inl y_two_26)), (q_ways, .inl (ca 0, 49, .inl y_ways_27))]) ⟨hx, hb, hml, hown, hts⟩ (c_X10_say l D ca F H.size q_this q_text q_read q_l q_stands q_kept q_one q_two q_ways q_now q_then q_one 7 r_49 (-1 : Int32) v_size v_at v_keptMany v_l y_one_25 y_one_51 hg_52) (cwV 3 hts gX10_chance_X10_say rfl rfl rfl (by decide +kernel) ⟨(Nat.le_of_ble_eq_true rfl), (Nat.le_of_ble_eq_true rfl)⟩) hK hP hD hS hA (ci := 8) (q0 := 0) rfl rfl [0, 1, 2] [3, 4] [2, 3, 4, 0, 1] rfl rfl rfl rfl (by decide) rfl rfl rfl hl.1 rfl (Nat.le_of_ble_eq_true rfl) dX10_chance_107 ⟨Nat.zero_le _, Nat.zero_le _⟩ (fun H locs hP hD hS => ?_)
                          refine lv_aload_n hx hb dX10_chance_110 rfl (lv_at hl 0 rfl) ?_
                          refine lv_iload_n hx hb dX10_chance_111 rfl (lv_at hl 2 rfl) ?_
                          refine lv_iload hx hb dX10_chance_112 (lv_at hl 7 rfl) ?_
                          obtain ⟨r_53, hg_54, h⟩ := bd1_el h
                          refine kx_Si (As := [.int p2, .int x7_24]) (rest := [.ref q_this]) (wr := [(q_this, .inr (8, [.ref q_text, .int v_size, .int v_at, .ref q_read, .ref q_l, .ref q_stands, .ref q_kept, .int v_keptMany, .ref q_one, .ref q_two, .ref q_ways, .ref q_now, .ref q_then])), (q_l, .inl (ca 0, 336, .inl v_l)), (q_one, .inl (ca 0, 7, .inl y_one_51)), (q_two, .inl (ca 0, 7, .inl y_two_26)), (q_ways, .inl (ca 0, 49, .inl y_ways_27))]) (w1 := []) (wn := [(q_this, .inr (8, [.ref q_text, .int v_size, .int v_at, .ref q_read, .ref q_l, .ref q_stands, .ref q_kept, .int v_keptMany, .ref q_one, .ref q_two, .ref q_ways, .ref q_now, .ref q_then])), (q_l, .inl (ca 0, 336, .inl v_l)), (q_one, .inl (ca 0, 7, .inl y_one_51)), (q_two, .inl (ca 0, 7, .inl y_two_26)), (q_ways, .inl (ca 0, 49, .inl y_ways_27))]) ⟨hx, hb, hml, hown, hts⟩ (c_X10_wordAt l D ca H.size p2 x7_24 r_53 hg_54) (va_cwS 2 hts gX10_chance_X10_wordAt rfl rfl rfl (by decide +kernel) ⟨(Nat.le_of_ble_eq_true rfl), (Nat.le_of_ble_eq_true rfl)⟩) hK hP hD hS hA [] [0, 1, 2, 3, 4] [0, 1, 2, 3, 4] rfl rfl rfl rfl (by decide) rfl rfl rfl hl.1 rfl (Nat.le_of_ble_eq_true rfl) dX10_chance_114 ⟨Nat.zero_le _, Nat.zero_le _⟩ (fun H locs hP hD hS => ?_)
                          refine lv_iconst (v := (-1 : Int32)) hx hb dX10_chance_117 (by decide) ?_
                          refine lv_aload_n hx hb dX10_chance_118 rfl (lv_at hl 0 rfl) ?_
                          refine va_get (D := D) (ci := 8) (v := .ref q_two) (C := RX10) (T := TX10) (N := 13) hx hb hts i_X10 hown hK hP 0 rfl rfl 9 (by decide) k_28 (fun _ h9 => h9) rfl dX10_chance_119 ?_
                          obtain ⟨y_two_55, hg_56, h⟩ := bd1_el h
                          refine kx_Vv (As := [.int r_53, .int (-1 : Int32), .ref q_two]) (rest := []) (wr := [(q_one, .inl (ca 0, 7, .inl y_one_51)), (q_ways, .inl (ca 0, 49, .inl y_ways_27))]) (w1 := [(q_this, .inr (8, [.ref q_text, .int v_size, .int v_at, .ref q_read, .ref q_l, .ref q_stands, .ref q_kept, .int v_keptMany, .ref q_one, .ref q_two, .ref q_ways, .ref q_now, .ref q_then])), (q_l, .inl (ca 0, 336, .inl v_l)), (q_two, .inl (ca 0, 7, .inl y_two_55))]) (wn := [(q_this, .inr (8, [.ref q_text, .int v_size, .int v_at, .ref q_read, .ref q_l, .ref q_stands, .ref q_kept, .int v_keptMany, .ref q_one, .ref q_two, .ref q_ways, .ref q_now, .ref q_then])), (q_l, .inl (ca 0, 336, .inl v_l)), (q_one, .inl (ca 0, 7, .inl y_one_51)), (q_two, .inl (ca 0, 7, .inl y_two_55)), (q_ways, .inl (ca 0, 49, .inl y_ways_27))]) ⟨hx, hb, hml, hown, hts⟩ (c_X10_say l D ca F H.size q_this q_text q_read q_l q_stands q_kept q_one q_two q_ways q_now q_then q_two 7 r_53 (-1 : Int32) v_size v_at v_keptMany v_l y_two_26 y_two_55 hg_56) (cwV 3 hts gX10_chance_X10_say rfl rfl rfl (by decide +kernel) ⟨(Nat.le_of_ble_eq_true rfl), (Nat.le_of_ble_eq_true rfl)⟩) hK hP hD hS hA (ci := 8) (q0 := 0) rfl rfl [0, 1, 3] [2, 4] [2, 3, 0, 4, 1] rfl rfl rfl rfl (by decide) rfl rfl rfl hl.1 rfl (Nat.le_of_ble_eq_true rfl) dX10_chance_122 ⟨Nat.zero_le _, Nat.zero_le _⟩ (fun H locs hP hD hS => ?_)
                          obtain ⟨x5_57, e_58, h⟩ := nm_el h
                          refine lv_iinc (v := x5_57) (lv' := [(5, .int x5_57), (0, .ref q_this), (1, .int p1), (2, .int p2), (3, .int p3), (4, .int x4_22), (6, .int x6_12), (7, .int x7_24)]) hx hb dX10_chance_125 hl (k := 5) rfl (by rw [← e_58]; rfl) (by decide) rfl (fun ls hl => ?_)
                          refine lv_iload hx hb dX10_chance_128 (lv_at hl 5 rfl) ?_
                          refine lv_aload_n hx hb dX10_chance_130 rfl (lv_at hl 1 rfl) ?_
                          obtain ⟨r_59, y_ways_60, hg_61, h⟩ := bd2_el h
                          refine kx_Vi (As := []) (rest := [.int x4_22]) (wr := [(q_l, .inl (ca 0, 336, .inl v_l))]) (w1 := [(q_this, .inr (8, [.ref q_text, .int v_size, .int v_at, .ref q_read, .ref q_l, .ref q_stands, .ref q_kept, .int v_keptMany, .ref q_one, .ref q_two, .ref q_ways, .ref q_now, .ref q_then])), (q_one, .inl (ca 0, 7, .inl y_one_51)), (q_two, .inl (ca 0, 7, .inl y_two_55)), (q_ways, .inl (ca 0, 49, .inl y_ways_60))]) (wn := [(q_this, .inr (8, [.ref q_text, .int v_size, .int v_at, .ref q_read, .ref q_l, .ref q_stands, .ref q_kept, .int v_keptMany, .ref q_one, .ref q_two, .ref q_ways, .ref q_now, .ref q_then])), (q_l, .inl (ca 0, 336, .inl v_l)), (q_one, .inl (ca 0, 7, .inl y_one_51)), (q_two, .inl (ca 0, 7, .inl y_two_55)), (q_ways, .inl (ca 0, 49, .inl y_ways_60))]) ⟨hx, hb, hml, hown, hts⟩ (c_X10_likeOf l D ca F H.size q_this q_text q_read q_l q_stands q_kept q_one q_two q_ways q_now q_then v_size v_at v_keptMany y_one_51 y_two_55 y_ways_27 r_59 y_ways_60 hg_61) (cwV 0 hts gX10_chance_X10_likeOf rfl rfl rfl (by decide +kernel) ⟨(Nat.le_of_ble_eq_true rfl), (Nat.le_of_ble_eq_true rfl)⟩) hK hP hD hS hA (ci := 8) (q0 := 0) rfl rfl [0, 2, 3, 4] [1] [1, 0, 2, 3, 4] rfl rfl rfl rfl (by decide) rfl rfl rfl hl.1 rfl (Nat.le_of_ble_eq_true rfl) dX10_chance_131 ⟨Nat.zero_le _, Nat.zero_le _⟩ (fun H locs hP hD hS => ?_)
                          refine lv_aload_n hx hb dX10_chance_134 rfl (lv_at hl 1 rfl) ?_
                          refine va_get (D := D) (ci := 8) (v := .ref q_l) (C := RX10) (T := TX10) (N := 13) hx hb hts i_X10 hown hK hP 0 rfl rfl 4 (by decide) k_16 (fun _ h9 => h9) rfl dX10_chance_135 ?_
                          refine lv_sipush (v := (nI 303)) hx hb dX10_chance_138 (by decide) ?_
                          obtain ⟨hi_62, h⟩ := ck_el h
                          refine va_iald hx hb hK hP 1 0 rfl rfl hi_62 dX10_chance_141 ?_
                          refine lv_icmp_lt (tgt := 149) hx hb dX10_chance_142 (by decide) (fun c_63 => ?_) (fun c_63 => ?_)
                          · replace h := ifp_el c_63 h
                            refine lv_iconst (v := (nI 0)) hx hb dX10_chance_149 (by decide) ?_
                            refine lv_iadd hx hb dX10_chance_150 ?_
                            refine lv_nmi h (fun x4_64 h => ?_)
                            refine lv_istore (lv' := [(4, .int x4_64), (5, .int x5_57), (0, .ref q_this), (1, .int p1), (2, .int p2), (3, .int p3), (6, .int x6_12), (7, .int x7_24)]) hx hb dX10_chance_151 hl (by decide) rfl (fun ls hl => ?_)
                            obtain ⟨x7_65, e_66, h⟩ := nm_el h
                            refine lv_iinc (v := x7_65) (lv' := [(7, .int x7_65), (4, .int x4_64), (5, .int x5_57), (0, .ref q_this), (1, .int p1), (2, .int p2), (3, .int p3), (6, .int x6_12)]) hx hb dX10_chance_153 hl (k := 7) rfl (by rw [← e_66]; rfl) (by decide) rfl (fun ls hl => ?_)
                            refine lv_goto (tgt := 53) hx hb dX10_chance_156 (by decide) ?_
                            exact ih _ _ _ _ _ _ _ _ _ _ _ _ _ _ h hex hP hD hS (lv_sub hl [3, 4, 5, 6, 1, 2, 7, 0] rfl)
                          · replace h := ifn_el c_63 h
                            refine lv_iconst (v := (nI 1)) hx hb dX10_chance_145 (by decide) ?_
                            refine lv_goto (tgt := 150) hx hb dX10_chance_146 (by decide) ?_
                            refine lv_iadd hx hb dX10_chance_150 ?_
                            refine lv_nmi h (fun x4_67 h => ?_)
                            refine lv_istore (lv' := [(4, .int x4_67), (5, .int x5_57), (0, .ref q_this), (1, .int p1), (2, .int p2), (3, .int p3), (6, .int x6_12), (7, .int x7_24)]) hx hb dX10_chance_151 hl (by decide) rfl (fun ls hl => ?_)
                            obtain ⟨x7_68, e_69, h⟩ := nm_el h
                            refine lv_iinc (v := x7_68) (lv' := [(7, .int x7_68), (4, .int x4_67), (5, .int x5_57), (0, .ref q_this), (1, .int p1), (2, .int p2), (3, .int p3), (6, .int x6_12)]) hx hb dX10_chance_153 hl (k := 7) rfl (by rw [← e_69]; rfl) (by decide) rfl (fun ls hl => ?_)
                            refine lv_goto (tgt := 53) hx hb dX10_chance_156 (by decide) ?_
                            exact ih _ _ _ _ _ _ _ _ _ _ _ _ _ _ h hex hP hD hS (lv_sub hl [3, 4, 5, 6, 1, 2, 7, 0] rfl)
              exact hlp F x4_10 x5_11 (nI 0) y_one_13 y_two_14 y_ways_15 o_28 o_29 o_30 o_31 o_32 H locs ls hL hex hP hD hS (lv_sub hl [1, 2, 3, 4, 5, 6, 7, 0] rfl)
        exact hlp F (nI 0) (nI 0) (nI 0) v_one v_two v_ways o_16 o_17 o_18 o_19 o_20 H locs ls hL hex hP hD hS (lv_sub hl [3, 4, 5, 6, 2, 1, 0] rfl)
      · replace h := ifp_el c_9 h
        refine lv_iconst (v := (-1 : Int32)) hx hb dX10_chance_32 (by decide) ?_
        cases h
        rw [← hQe]
        exact W.iret hx hb hr (fun t ht hW => ⟨⟨_, (), rfl, rfl, by rw [ht]; exact hP, va_K.moved hW.alike hK, hD⟩, hS.F ht⟩) hS.2.2 dX10_chance_33
def b_X10_joined_29 (p1 : Int32) (v_l : Nat → Int32) (F : Nat) (x4_6 : Int32) (rec29 : Int32 → Int32 → (Nat → Int32) → (Nat → Int32) → (Nat → Int32) → Option (Int32 × (Nat → Int32) × (Nat → Int32) × (Nat → Int32))) (x5_15 : Int32) (x6_16 : Int32) (y_one_17 : Nat → Int32) (y_two_18 : Nat → Int32) (y_ways_19 : Nat → Int32) : Option (Int32 × (Nat → Int32) × (Nat → Int32) × (Nat → Int32)) := (if (nI 3) ≤ x6_16 then some (x5_15, y_one_17, y_two_18, y_ways_19) else bd1 (D_X10_earAt x4_6 p1) (fun r_25 => ck 336 r_25 ((if (v_l r_25.toNatClampNeg) ≤ 0 then some (x5_15, y_one_17, y_two_18, y_ways_19) else bd1 (D_X10_earAt x4_6 p1) (fun r_29 => bd1 (D_X10_say F 7 r_29 (-1 : Int32) v_l y_one_17) (fun y_one_31 => bd1 (D_X10_earAt x6_16 p1) (fun r_33 => bd1 (D_X10_say F 7 r_33 (-1 : Int32) v_l y_two_18) (fun y_two_35 => ck 7 (nI 0) ((if (y_two_35 (nI 0).toNatClampNeg) = 0 then nm (x5_15 + (nI 0)) (fun x5_45 => nm (x6_16 + (nI 1)) (fun x6_46 => rec29 x5_45 x6_46 y_one_31 y_two_35 y_ways_19)) else bd2 (D_X10_farOf F y_one_31 y_two_35 y_ways_19) (fun r_39 y_ways_40 => nm (x5_15 + r_39) (fun x5_42 => nm (x6_16 + (nI 1)) (fun x6_43 => rec29 x5_42 x6_43 y_one_31 y_two_35 y_ways_40)))))))))))))
def b_X10_joined_17 (p1 : Int32) (v_l : Nat → Int32) (F : Nat) (rec17 : Int32 → Int32 → Int32 → (Nat → Int32) → (Nat → Int32) → (Nat → Int32) → Option (Int32 × (Nat → Int32) × (Nat → Int32) × (Nat → Int32))) (x2_4 : Int32) (x3_5 : Int32) (x4_6 : Int32) (y_one_7 : Nat → Int32) (y_two_8 : Nat → Int32) (y_ways_9 : Nat → Int32) : Option (Int32 × (Nat → Int32) × (Nat → Int32) × (Nat → Int32)) := (if (nI 3) ≤ x4_6 then some (x2_4, y_one_7, y_two_8, y_ways_9) else bd4 (lpg (T := Int32 → Int32 → (Nat → Int32) → (Nat → Int32) → (Nat → Int32) → Option (Int32 × (Nat → Int32) × (Nat → Int32) × (Nat → Int32))) (fun _ _ _ _ _ => none) (b_X10_joined_29 p1 v_l F x4_6) F (nI 0) (nI 0) y_one_7 y_two_8 y_ways_9) (fun o_20 o_21 o_22 o_23 => bd1 (D_X10_earAt x4_6 p1) (fun r_48 => ck 336 r_48 ((if (v_l r_48.toNatClampNeg) ≤ 0 then nm (x4_6 + (nI 1)) (fun x4_52 => rec17 x2_4 x3_5 x4_52 o_21 o_22 o_23) else (if x2_4 < 0 then nm (x4_6 + (nI 1)) (fun x4_55 => rec17 x4_6 o_20 x4_55 o_21 o_22 o_23) else (if x3_5 ≤ o_20 then nm (x4_6 + (nI 1)) (fun x4_58 => rec17 x2_4 x3_5 x4_58 o_21 o_22 o_23) else nm (x4_6 + (nI 1)) (fun x4_60 => rec17 x4_6 o_20 x4_60 o_21 o_22 o_23))))))))
def D_X10_joined (F : Nat) (p1 : Int32) (v_l : Nat → Int32) (v_one : Nat → Int32) (v_two : Nat → Int32) (v_ways : Nat → Int32) : Option (Int32 × (Nat → Int32) × (Nat → Int32) × (Nat → Int32)) := bd1 (D_X10_isMeaning p1) (fun r_1 => (if r_1 = 0 then some ((-1 : Int32), v_one, v_two, v_ways) else bd4 (lpg (T := Int32 → Int32 → Int32 → (Nat → Int32) → (Nat → Int32) → (Nat → Int32) → Option (Int32 × (Nat → Int32) × (Nat → Int32) × (Nat → Int32))) (fun _ _ _ _ _ _ => none) (b_X10_joined_17 p1 v_l F) F (-4 : Int32) (nI 0) (nI 0) v_one v_two v_ways) (fun o_10 o_11 o_12 o_13 => some (o_10, o_11, o_12, o_13))))
abbrev rm_X10_joined : Room := { frames := 3, cells := 0, slots := 0, locals := 71 }
set_option maxHeartbeats 4000000 in
set_option maxRecDepth 100000 in
theorem c_X10_joined (l : Launch) (D : va_G) (ca : Nat → ClassId) (F : Nat) (sz : Nat) (q_this q_text q_read q_l q_stands q_kept q_one q_two q_ways q_now q_then : Nat) (p1 : Int32) (v_size : Int32) (v_at : Int32) (v_keptMany : Int32) (v_l : Nat → Int32) (v_one : Nat → Int32) (v_two : Nat → Int32) (v_ways : Nat → Int32) (r : Int32) (o_one : Nat → Int32) (o_two : Nat → Int32) (o_ways : Nat → Int32) (h : D_X10_joined F p1 v_l v_one v_two v_ways = some (r, o_one, o_two, o_ways)) : Met l yX10_joined wsX10_joined rm_X10_joined (va_Pc [.ref q_this, .int p1] (kPre D ca [(q_this, .inr (8, [.ref q_text, .int v_size, .int v_at, .ref q_read, .ref q_l, .ref q_stands, .ref q_kept, .int v_keptMany, .ref q_one, .ref q_two, .ref q_ways, .ref q_now, .ref q_then])), (q_l, .inl (ca 0, 336, .inl v_l)), (q_one, .inl (ca 0, 7, .inl v_one)), (q_two, .inl (ca 0, 7, .inl v_two)), (q_ways, .inl (ca 0, 49, .inl v_ways))] sz)) (kQi D ca (va_A [(q_this, .inr (8, [.ref q_text, .int v_size, .int v_at, .ref q_read, .ref q_l, .ref q_stands, .ref q_kept, .int v_keptMany, .ref q_one, .ref q_two, .ref q_ways, .ref q_now, .ref q_then])), (q_l, .inl (ca 0, 336, .inl v_l)), (q_one, .inl (ca 0, 7, .inl v_one)), (q_two, .inl (ca 0, 7, .inl v_two)), (q_ways, .inl (ca 0, 49, .inl v_ways))] sz) [(q_this, .inr (8, [.ref q_text, .int v_size, .int v_at, .ref q_read, .ref q_l, .ref q_stands, .ref q_kept, .int v_keptMany, .ref q_one, .ref q_two, .ref q_ways, .ref q_now, .ref q_then])), (q_l, .inl (ca 0, 336, .inl v_l)), (q_one, .inl (ca 0, 7, .inl o_one)), (q_two, .inl (ca 0, 7, .inl o_two)), (q_ways, .inl (ca 0, 49, .inl o_ways))] r) 0 0 (va_A [(q_this, .inr (8, [.ref q_text, .int v_size, .int v_at, .ref q_read, .ref q_l, .ref q_stands, .ref q_kept, .int v_keptMany, .ref q_one, .ref q_two, .ref q_ways, .ref q_now, .ref q_then])), (q_l, .inl (ca 0, 336, .inl v_l)), (q_one, .inl (ca 0, 7, .inl v_one)), (q_two, .inl (ca 0, 7, .inl v_two)), (q_ways, .inl (ca 0, 49, .inl v_ways))] sz) := by
  refine Met.ofW (cc := cX10_joined) (maxL := 7) (ret := (some .int)) (by decide +kernel) rfl ?_
  intro p e s m args below meth c s₁ B hml hv
  obtain ⟨rfl, hsz, hP, hK, hD0⟩ := hv
  have hx := B.exec
  have hb := B.bytes
  have hr := B.returns
  have hts := atoms_spec (ws := wsX10_joined) B.pre
  have hown : s.vm.findClass RX10 = some m.cls := findClass_of_methodNamed B.named
  have hlocks := B.notSynchronized
  clear B
  subst hsz
  have hD := hD0.self (sz := s.heap.size)
  generalize hAe : va_A [(q_this, .inr (8, [.ref q_text, .int v_size, .int v_at, .ref q_read, .ref q_l, .ref q_stands, .ref q_kept, .int v_keptMany, .ref q_one, .ref q_two, .ref q_ways, .ref q_now, .ref q_then])), (q_l, .inl (ca 0, 336, .inl v_l)), (q_one, .inl (ca 0, 7, .inl v_one)), (q_two, .inl (ca 0, 7, .inl v_two)), (q_ways, .inl (ca 0, 49, .inl v_ways))] s.heap.size = A at hD ⊢
  have hA : ∀ q : Nat, s.heap.size ≤ q → A q := fun q h => by rw [← hAe]; exact Or.inr h
  have hS : va_S A s.heap s.heap [] := va_S.rf
  have hl := lv_entry ([.ref q_this, .int p1]) (n := 7) (Nat.le_of_ble_eq_true rfl)
  rw [lg_entry_eq]
  generalize (lg_sl ([.ref q_this, .int p1]) ++ List.replicate (7 - (lg_sl ([.ref q_this, .int p1])).length) Slot.unset).toArray = ls at hl ⊢
  have hl : lv_has ls 7 [(0, .ref q_this), (1, .int p1)] := hl
  generalize ([.ref q_this, .int p1] : List Value).toArray = args at hts ⊢
  generalize hQe : MQ below (kQi D ca (A) [(q_this, .inr (8, [.ref q_text, .int v_size, .int v_at, .ref q_read, .ref q_l, .ref q_stands, .ref q_kept, .int v_keptMany, .ref q_one, .ref q_two, .ref q_ways, .ref q_now, .ref q_then])), (q_l, .inl (ca 0, 336, .inl v_l)), (q_one, .inl (ca 0, 7, .inl o_one)), (q_two, .inl (ca 0, 7, .inl o_two)), (q_ways, .inl (ca 0, 49, .inl o_ways))] r) args s 0 0 A = Q
  have i_X10 : ∀ w ∈ u_ws RX10 TX10 13, w ∈ wsX10_joined := by decide +kernel
  have k_16 := hts (.fieldLink RX10 16 "TradeWordsModel" "l" "[I") (by decide +kernel)
  have k_25 := hts (.fieldLink RX10 25 "TradeWordsModel" "one" "[I") (by decide +kernel)
  have k_28 := hts (.fieldLink RX10 28 "TradeWordsModel" "two" "[I") (by decide +kernel)
  rw [D_X10_joined] at h
  refine lv_iload_n hx hb dX10_joined_0 rfl (lv_at hl 1 rfl) ?_
  obtain ⟨r_1, hg_2, h⟩ := bd1_el h
  refine kx_Si (As := [.int p1]) (rest := []) (wr := [(q_this, .inr (8, [.ref q_text, .int v_size, .int v_at, .ref q_read, .ref q_l, .ref q_stands, .ref q_kept, .int v_keptMany, .ref q_one, .ref q_two, .ref q_ways, .ref q_now, .ref q_then])), (q_l, .inl (ca 0, 336, .inl v_l)), (q_one, .inl (ca 0, 7, .inl v_one)), (q_two, .inl (ca 0, 7, .inl v_two)), (q_ways, .inl (ca 0, 49, .inl v_ways))]) (w1 := []) (wn := [(q_this, .inr (8, [.ref q_text, .int v_size, .int v_at, .ref q_read, .ref q_l, .ref q_stands, .ref q_kept, .int v_keptMany, .ref q_one, .ref q_two, .ref q_ways, .ref q_now, .ref q_then])), (q_l, .inl (ca 0, 336, .inl v_l)), (q_one, .inl (ca 0, 7, .inl v_one)), (q_two, .inl (ca 0, 7, .inl v_two)), (q_ways, .inl (ca 0, 49, .inl v_ways))]) ⟨hx, hb, hml, hown, hts⟩ (c_X10_isMeaning l D ca s.heap.size p1 r_1 hg_2) (va_cwS 1 hts gX10_joined_X10_isMeaning rfl rfl rfl (by decide +kernel) ⟨(Nat.le_of_ble_eq_true rfl), (Nat.le_of_ble_eq_true rfl)⟩) hK hP hD hS hA [] [0, 1, 2, 3, 4] [0, 1, 2, 3, 4] rfl rfl rfl rfl (by decide) rfl rfl rfl hl.1 rfl (Nat.le_of_ble_eq_true rfl) dX10_joined_1 ⟨Nat.zero_le _, Nat.zero_le _⟩ (fun H locs hP hD hS => ?_)
  refine lv_if_ne (tgt := 9) hx hb dX10_joined_4 (by decide) (fun c_3 => ?_) (fun c_3 => ?_)
  · replace h := ifn_el c_3 h
    refine lv_bipush (v := (-4 : Int32)) hx hb dX10_joined_9 (by decide) ?_
    refine lv_istore_n (lv' := [(2, .int (-4 : Int32)), (0, .ref q_this), (1, .int p1)]) hx hb dX10_joined_11 rfl hl (by decide) rfl (fun ls hl => ?_)
    refine lv_iconst (v := (nI 0)) hx hb dX10_joined_12 (by decide) ?_
    refine lv_istore_n (lv' := [(3, .int (nI 0)), (2, .int (-4 : Int32)), (0, .ref q_this), (1, .int p1)]) hx hb dX10_joined_13 rfl hl (by decide) rfl (fun ls hl => ?_)
    refine lv_iconst (v := (nI 0)) hx hb dX10_joined_14 (by decide) ?_
    refine lv_istore (lv' := [(4, .int (nI 0)), (3, .int (nI 0)), (2, .int (-4 : Int32)), (0, .ref q_this), (1, .int p1)]) hx hb dX10_joined_15 hl (by decide) rfl (fun ls hl => ?_)
    obtain ⟨o_10, o_11, o_12, o_13, hL, h⟩ := bd4_el h
    have hex : ∀ (H : Heap) (locs : List Loc) (ls : Array Slot), va_P D vwCl [(q_this, .inr (8, [.ref q_text, .int v_size, .int v_at, .ref q_read, .ref q_l, .ref q_stands, .ref q_kept, .int v_keptMany, .ref q_one, .ref q_two, .ref q_ways, .ref q_now, .ref q_then])), (q_l, .inl (ca 0, 336, .inl v_l)), (q_one, .inl (ca 0, 7, .inl o_11)), (q_two, .inl (ca 0, 7, .inl o_12)), (q_ways, .inl (ca 0, 49, .inl o_13))] H → va_D A [(q_this, .inr (8, [.ref q_text, .int v_size, .int v_at, .ref q_read, .ref q_l, .ref q_stands, .ref q_kept, .int v_keptMany, .ref q_one, .ref q_two, .ref q_ways, .ref q_now, .ref q_then])), (q_l, .inl (ca 0, 336, .inl v_l)), (q_one, .inl (ca 0, 7, .inl o_11)), (q_two, .inl (ca 0, 7, .inl o_12)), (q_ways, .inl (ca 0, 49, .inl o_13))] → va_S A s.heap H locs → lv_has ls 7 [(2, .int o_10)] → W p l e (headSpec wsX10_joined rm_X10_joined).room s m args below meth c H locs 0 0 Q (F0 m 143 ls []) := by
      intro H locs ls hP hD hS hl
      refine lv_iload_n hx hb dX10_joined_143 rfl (lv_at hl 0 rfl) ?_
      cases h
      rw [← hQe]
      exact W.iret hx hb hr (fun t ht hW => ⟨⟨_, (), rfl, rfl, by rw [ht]; exact hP, va_K.moved hW.alike hK, hD⟩, hS.F ht⟩) hS.2.2 dX10_joined_144
    have hlp : ∀ (n : Nat) (x2_4 : Int32) (x3_5 : Int32) (x4_6 : Int32) (y_one_7 : Nat → Int32) (y_two_8 : Nat → Int32) (y_ways_9 : Nat → Int32) (o_10 : Int32) (o_11 : Nat → Int32) (o_12 : Nat → Int32) (o_13 : Nat → Int32) (H : Heap) (locs : List Loc) (ls : Array Slot), lpg (T := Int32 → Int32 → Int32 → (Nat → Int32) → (Nat → Int32) → (Nat → Int32) → Option (Int32 × (Nat → Int32) × (Nat → Int32) × (Nat → Int32))) (fun _ _ _ _ _ _ => none) (b_X10_joined_17 p1 v_l F) n x2_4 x3_5 x4_6 y_one_7 y_two_8 y_ways_9 = some (o_10, o_11, o_12, o_13) → (∀ (H : Heap) (locs : List Loc) (ls : Array Slot), va_P D vwCl [(q_this, .inr (8, [.ref q_text, .int v_size, .int v_at, .ref q_read, .ref q_l, .ref q_stands, .ref q_kept, .int v_keptMany, .ref q_one, .ref q_two, .ref q_ways, .ref q_now, .ref q_then])), (q_l, .inl (ca 0, 336, .inl v_l)), (q_one, .inl (ca 0, 7, .inl o_11)), (q_two, .inl (ca 0, 7, .inl o_12)), (q_ways, .inl (ca 0, 49, .inl o_13))] H → va_D A [(q_this, .inr (8, [.ref q_text, .int v_size, .int v_at, .ref q_read, .ref q_l, .ref q_stands, .ref q_kept, .int v_keptMany, .ref q_one, .ref q_two, .ref q_ways, .ref q_now, .ref q_then])), (q_l, .inl (ca 0, 336, .inl v_l)), (q_one, .inl (ca 0, 7, .inl o_11)), (q_two, .inl (ca 0, 7, .inl o_12)), (q_ways, .inl (ca 0, 49, .inl o_13))] → va_S A s.heap H locs → lv_has ls 7 [(2, .int o_10)] → W p l e (headSpec wsX10_joined rm_X10_joined).room s m args below meth c H locs 0 0 Q (F0 m 143 ls [])) → va_P D vwCl [(q_this, .inr (8, [.ref q_text, .int v_size, .int v_at, .ref q_read, .ref q_l, .ref q_stands, .ref q_kept, .int v_keptMany, .ref q_one, .ref q_two, .ref q_ways, .ref q_now, .ref q_then])), (q_l, .inl (ca 0, 336, .inl v_l)), (q_one, .inl (ca 0, 7, .inl y_one_7)), (q_two, .inl (ca 0, 7, .inl y_two_8)), (q_ways, .inl (ca 0, 49, .inl y_ways_9))] H → va_D A [(q_this, .inr (8, [.ref q_text, .int v_size, .int v_at, .ref q_read, .ref q_l, .ref q_stands, .ref q_kept, .int v_keptMany, .ref q_one, .ref q_two, .ref q_ways, .ref q_now, .ref q_then])), (q_l, .inl (ca 0, 336, .inl v_l)), (q_one, .inl (ca 0, 7, .inl y_one_7)), (q_two, .inl (ca 0, 7, .inl y_two_8)), (q_ways, .inl (ca 0, 49, .inl y_ways_9))] → va_S A s.heap H locs → lv_has ls 7 [(0, .ref q_this), (1, .int p1), (2, .int x2_4), (3, .int x3_5), (4, .int x4_6)] → W p l e (headSpec wsX10_joined rm_X10_joined).room s m args below meth c H locs 0 0 Q (F0 m 17 ls []) := by
      intro n
      induction n with
      | zero => intro x2_4 x3_5 x4_6 y_one_7 y_two_8 y_ways_9 o_10 o_11 o_12 o_13 H locs ls h; have h : (none : Option (Int32 × (Nat → Int32) × (Nat → Int32) × (Nat → Int32))) = some _ := h; cases h
      | succ n ih =>
        intro x2_4 x3_5 x4_6 y_one_7 y_two_8 y_ways_9 o_10 o_11 o_12 o_13 H locs ls h hex hP hD hS hl
        rw [lpg_succ, b_X10_joined_17] at h
        refine lv_iload hx hb dX10_joined_17 (lv_at hl 4 rfl) ?_
        refine lv_iconst (v := (nI 3)) hx hb dX10_joined_19 (by decide) ?_
        refine lv_icmp_ge (tgt := 143) hx hb dX10_joined_20 (by decide) (fun c_14 => ?_) (fun c_14 => ?_)
        · replace h := ifp_el c_14 h
          cases h
          exact hex _ _ _ hP hD hS (lv_sub hl [2] rfl)
        · replace h := ifn_el c_14 h
          refine lv_iconst (v := (nI 0)) hx hb dX10_joined_23 (by decide) ?_
          refine lv_istore (lv' := [(5, .int (nI 0)), (0, .ref q_this), (1, .int p1), (2, .int x2_4), (3, .int x3_5), (4, .int x4_6)]) hx hb dX10_joined_24 hl (by decide) rfl (fun ls hl => ?_)
          refine lv_iconst (v := (nI 0)) hx hb dX10_joined_26 (by decide) ?_
          refine lv_istore (lv' := [(6, .int (nI 0)), (5, .int (nI 0)), (0, .ref q_this), (1, .int p1), (2, .int x2_4), (3, .int x3_5), (4, .int x4_6)]) hx hb dX10_joined_27 hl (by decide) rfl (fun ls hl => ?_)
          obtain ⟨o_20, o_21, o_22, o_23, hL, h⟩ := bd4_el h
          have hex : ∀ (H : Heap) (locs : List Loc) (ls : Array Slot), va_P D vwCl [(q_this, .inr (8, [.ref q_text, .int v_size, .int v_at, .ref q_read, .ref q_l, .ref q_stands, .ref q_kept, .int v_keptMany, .ref q_one, .ref q_two, .ref q_ways, .ref q_now, .ref q_then])), (q_l, .inl (ca 0, 336, .inl v_l)), (q_one, .inl (ca 0, 7, .inl o_21)), (q_two, .inl (ca 0, 7, .inl o_22)), (q_ways, .inl (ca 0, 49, .inl o_23))] H → va_D A [(q_this, .inr (8, [.ref q_text, .int v_size, .int v_at, .ref q_read, .ref q_l, .ref q_stands, .ref q_kept, .int v_keptMany, .ref q_one, .ref q_two, .ref q_ways, .ref q_now, .ref q_then])), (q_l, .inl (ca 0, 336, .inl v_l)), (q_one, .inl (ca 0, 7, .inl o_21)), (q_two, .inl (ca 0, 7, .inl o_22)), (q_ways, .inl (ca 0, 49, .inl o_23))] → va_S A s.heap H locs → lv_has ls 7 [(0, .ref q_this), (1, .int p1), (2, .int x2_4), (3, .int x3_5), (4, .int x4_6), (5, .int o_20)] → W p l e (headSpec wsX10_joined rm_X10_joined).room s m args below meth c H locs 0 0 Q (F0 m 107 ls []) := by
            intro H locs ls hP hD hS hl
            refine lv_aload_n hx hb dX10_joined_107 rfl (lv_at hl 0 rfl) ?_
            refine va_get (D := D) (ci := 8) (v := .ref q_l) (C := RX10) (T := TX10) (N := 13) hx hb hts i_X10 hown hK hP 0 rfl rfl 4 (by decide) k_16 (fun _ h9 => h9) rfl dX10_joined_108 ?_
            refine lv_iload hx hb dX10_joined_111 (lv_at hl 4 rfl) ?_
            refine lv_iload_n hx hb dX10_joined_113 rfl (lv_at hl 1 rfl) ?_
            obtain ⟨r_48, hg_49, h⟩ := bd1_el h
            refine kx_Si (As := [.int x4_6, .int p1]) (rest := [.ref q_l]) (wr := [(q_this, .inr (8, [.ref q_text, .int v_size, .int v_at, .ref q_read, .ref q_l, .ref q_stands, .ref q_kept, .int v_keptMany, .ref q_one, .ref q_two, .ref q_ways, .ref q_now, .ref q_then])), (q_l, .inl (ca 0, 336, .inl v_l)), (q_one, .inl (ca 0, 7, .inl o_21)), (q_two, .inl (ca 0, 7, .inl o_22)), (q_ways, .inl (ca 0, 49, .inl o_23))]) (w1 := []) (wn := [(q_this, .inr (8, [.ref q_text, .int v_size, .int v_at, .ref q_read, .ref q_l, .ref q_stands, .ref q_kept, .int v_keptMany, .ref q_one, .ref q_two, .ref q_ways, .ref q_now, .ref q_then])), (q_l, .inl (ca 0, 336, .inl v_l)), (q_one, .inl (ca 0, 7, .inl o_21)), (q_two, .inl (ca 0, 7, .inl o_22)), (q_ways, .inl (ca 0, 49, .inl o_23))]) ⟨hx, hb, hml, hown, hts⟩ (c_X10_earAt l D ca H.size x4_6 p1 r_48 hg_49) (va_cwS 2 hts gX10_joined_X10_earAt rfl rfl rfl (by decide +kernel) ⟨(Nat.le_of_ble_eq_true rfl), (Nat.le_of_ble_eq_true rfl)⟩) hK hP hD hS hA [] [0, 1, 2, 3, 4] [0, 1, 2, 3, 4] rfl rfl rfl rfl (by decide) rfl rfl rfl hl.1 rfl (Nat.le_of_ble_eq_true rfl) dX10_joined_114 ⟨Nat.zero_le _, Nat.zero_le _⟩ (fun H locs hP hD hS => ?_)
            obtain ⟨hi_50, h⟩ := ck_el h
            refine va_iald hx hb hK hP 1 0 rfl rfl hi_50 dX10_joined_117 ?_
            refine lv_if_le (tgt := 137) hx hb dX10_joined_118 (by decide) (fun c_51 => ?_) (fun c_51 => ?_)
            · replace h := ifp_el c_51 h
              obtain ⟨x4_52, e_53, h⟩ := nm_el h
              refine lv_iinc (v := x4_52) (lv' := [(4, .int x4_52), (0, .ref q_this), (1, .int p1), (2, .int x2_4), (3, .int x3_5), (5, .int o_20)]) hx hb dX10_joined_137 hl (k := 4) rfl (by rw [← e_53]; rfl) (by decide) rfl (fun ls hl => ?_)
              refine lv_goto (tgt := 17) hx hb dX10_joined_140 (by decide) ?_
              exact ih _ _ _ _ _ _ _ _ _ _ _ _ _ h hex hP hD hS (lv_sub hl [1, 2, 3, 4, 0] rfl)
            · replace h := ifn_el c_51 h
              refine lv_iload_n hx hb dX10_joined_121 rfl (lv_at hl 2 rfl) ?_
              refine lv_if_lt (tgt := 131) hx hb dX10_joined_122 (by decide) (fun c_54 => ?_) (fun c_54 => ?_)
              · replace h := ifp_el c_54 h
                refine lv_iload hx hb dX10_joined_131 (lv_at hl 4 rfl) ?_
                refine lv_istore_n (lv' := [(2, .int x4_6), (0, .ref q_this), (1, .int p1), (3, .int x3_5), (4, .int x4_6), (5, .int o_20)]) hx hb dX10_joined_133 rfl hl (by decide) rfl (fun ls hl => ?_)
                refine lv_iload hx hb dX10_joined_134 (lv_at hl 5 rfl) ?_
                refine lv_istore_n (lv' := [(3, .int o_20), (2, .int x4_6), (0, .ref q_this), (1, .int p1), (4, .int x4_6), (5, .int o_20)]) hx hb dX10_joined_136 rfl hl (by decide) rfl (fun ls hl => ?_)
                obtain ⟨x4_55, e_56, h⟩ := nm_el h
                refine lv_iinc (v := x4_55) (lv' := [(4, .int x4_55), (3, .int o_20), (2, .int x4_6), (0, .ref q_this), (1, .int p1), (5, .int o_20)]) hx hb dX10_joined_137 hl (k := 4) rfl (by rw [← e_56]; rfl) (by decide) rfl (fun ls hl => ?_)
                refine lv_goto (tgt := 17) hx hb dX10_joined_140 (by decide) ?_
                exact ih _ _ _ _ _ _ _ _ _ _ _ _ _ h hex hP hD hS (lv_sub hl [3, 4, 2, 1, 0] rfl)
              · replace h := ifn_el c_54 h
                refine lv_iload hx hb dX10_joined_125 (lv_at hl 5 rfl) ?_
                refine lv_iload_n hx hb dX10_joined_127 rfl (lv_at hl 3 rfl) ?_
                refine lv_icmp_ge (tgt := 137) hx hb dX10_joined_128 (by decide) (fun c_57 => ?_) (fun c_57 => ?_)
                · replace h := ifp_el c_57 h
                  obtain ⟨x4_58, e_59, h⟩ := nm_el h
                  refine lv_iinc (v := x4_58) (lv' := [(4, .int x4_58), (0, .ref q_this), (1, .int p1), (2, .int x2_4), (3, .int x3_5), (5, .int o_20)]) hx hb dX10_joined_137 hl (k := 4) rfl (by rw [← e_59]; rfl) (by decide) rfl (fun ls hl => ?_)
                  refine lv_goto (tgt := 17) hx hb dX10_joined_140 (by decide) ?_
                  exact ih _ _ _ _ _ _ _ _ _ _ _ _ _ h hex hP hD hS (lv_sub hl [1, 2, 3, 4, 0] rfl)
                · replace h := ifn_el c_57 h
                  refine lv_iload hx hb dX10_joined_131 (lv_at hl 4 rfl) ?_
                  refine lv_istore_n (lv' := [(2, .int x4_6), (0, .ref q_this), (1, .int p1), (3, .int x3_5), (4, .int x4_6), (5, .int o_20)]) hx hb dX10_joined_133 rfl hl (by decide) rfl (fun ls hl => ?_)
                  refine lv_iload hx hb dX10_joined_134 (lv_at hl 5 rfl) ?_
                  refine lv_istore_n (lv' := [(3, .int o_20), (2, .int x4_6), (0, .ref q_this), (1, .int p1), (4, .int x4_6), (5, .int o_20)]) hx hb dX10_joined_136 rfl hl (by decide) rfl (fun ls hl => ?_)
                  obtain ⟨x4_60, e_61, h⟩ := nm_el h
                  refine lv_iinc (v := x4_60) (lv' := [(4, .int x4_60), (3, .int o_20), (2, .int x4_6), (0, .ref q_this), (1, .int p1), (5, .int o_20)]) hx hb dX10_joined_137 hl (k := 4) rfl (by rw [← e_61]; rfl) (by decide) rfl (fun ls hl => ?_)
                  refine lv_goto (tgt := 17) hx hb dX10_joined_140 (by decide) ?_
                  exact ih _ _ _ _ _ _ _ _ _ _ _ _ _ h hex hP hD hS (lv_sub hl [3, 4, 2, 1, 0] rfl)
          have hlp : ∀ (n : Nat) (x5_15 : Int32) (x6_16 : Int32) (y_one_17 : Nat → Int32) (y_two_18 : Nat → Int32) (y_ways_19 : Nat → Int32) (o_20 : Int32) (o_21 : Nat → Int32) (o_22 : Nat → Int32) (o_23 : Nat → Int32) (H : Heap) (locs : List Loc) (ls : Array Slot), lpg (T := Int32 → Int32 → (Nat → Int32) → (Nat → Int32) → (Nat → Int32) → Option (Int32 × (Nat → Int32) × (Nat → Int32) × (Nat → Int32))) (fun _ _ _ _ _ => none) (b_X10_joined_29 p1 v_l F x4_6) n x5_15 x6_16 y_one_17 y_two_18 y_ways_19 = some (o_20, o_21, o_22, o_23) → (∀ (H : Heap) (locs : List Loc) (ls : Array Slot), va_P D vwCl [(q_this, .inr (8, [.ref q_text, .int v_size, .int v_at, .ref q_read, .ref q_l, .ref q_stands, .ref q_kept, .int v_keptMany, .ref q_one, .ref q_two, .ref q_ways, .ref q_now, .ref q_then])), (q_l, .inl (ca 0, 336, .inl v_l)), (q_one, .inl (ca 0, 7, .inl o_21)), (q_two, .inl (ca 0, 7, .inl o_22)), (q_ways, .inl (ca 0, 49, .inl o_23))] H → va_D A [(q_this, .inr (8, [.ref q_text, .int v_size, .int v_at, .ref q_read, .ref q_l, .ref q_stands, .ref q_kept, .int v_keptMany, .ref q_one, .ref q_two, .ref q_ways, .ref q_now, .ref q_then])), (q_l, .inl (ca 0, 336, .inl v_l)), (q_one, .inl (ca 0, 7, .inl o_21)), (q_two, .inl (ca 0, 7, .inl o_22)), (q_ways, .inl (ca 0, 49, .inl o_23))] → va_S A s.heap H locs → lv_has ls 7 [(0, .ref q_this), (1, .int p1), (2, .int x2_4), (3, .int x3_5), (4, .int x4_6), (5, .int o_20)] → W p l e (headSpec wsX10_joined rm_X10_joined).room s m args below meth c H locs 0 0 Q (F0 m 107 ls [])) → va_P D vwCl [(q_this, .inr (8, [.ref q_text, .int v_size, .int v_at, .ref q_read, .ref q_l, .ref q_stands, .ref q_kept, .int v_keptMany, .ref q_one, .ref q_two, .ref q_ways, .ref q_now, .ref q_then])), (q_l, .inl (ca 0, 336, .inl v_l)), (q_one, .inl (ca 0, 7, .inl y_one_17)), (q_two, .inl (ca 0, 7, .inl y_two_18)), (q_ways, .inl (ca 0, 49, .inl y_ways_19))] H → va_D A [(q_this, .inr (8, [.ref q_text, .int v_size, .int v_at, .ref q_read, .ref q_l, .ref q_stands, .ref q_kept, .int v_keptMany, .ref q_one, .ref q_two, .ref q_ways, .ref q_now, .ref q_then])), (q_l, .inl (ca 0, 336, .inl v_l)), (q_one, .inl (ca 0, 7, .inl y_one_17)), (q_two, .inl (ca 0, 7, .inl y_two_18)), (q_ways, .inl (ca 0, 49, .inl y_ways_19))] → va_S A s.heap H locs → lv_has ls 7 [(0, .ref q_this), (1, .int p1), (2, .int x2_4), (3, .int x3_5), (4, .int x4_6), (5, .int x5_15), (6, .int x6_16)] → W p l e (headSpec wsX10_joined rm_X10_joined).room s m args below meth c H locs 0 0 Q (F0 m 29 ls []) := by
            intro n
            induction n with
            | zero => intro x5_15 x6_16 y_one_17 y_two_18 y_ways_19 o_20 o_21 o_22 o_23 H locs ls h; have h : (none : Option (Int32 × (Nat → Int32) × (Nat → Int32) × (Nat → Int32))) = some _ := h; cases h
            | succ n ih =>
              intro x5_15 x6_16 y_one_17 y_two_18 y_ways_19 o_20 o_21 o_22 o_23 H locs ls h hex hP hD hS hl
              rw [lpg_succ, b_X10_joined_29] at h
              refine lv_iload hx hb dX10_joined_29 (lv_at hl 6 rfl) ?_
              refine lv_iconst (v := (nI 3)) hx hb dX10_joined_31 (by decide) ?_
              refine lv_icmp_ge (tgt := 107) hx hb dX10_joined_32 (by decide) (fun c_24 => ?_) (fun c_24 => ?_)
              · replace h := ifp_el c_24 h
                cases h
                exact hex _ _ _ hP hD hS (lv_sub hl [0, 1, 2, 3, 4, 5] rfl)
              · replace h := ifn_el c_24 h
                refine lv_aload_n hx hb dX10_joined_35 rfl (lv_at hl 0 rfl) ?_
                refine va_get (D := D) (ci := 8) (v := .ref q_l) (C := RX10) (T := TX10) (N := 13) hx hb hts i_X10 hown hK hP 0 rfl rfl 4 (by decide) k_16 (fun _ h9 => h9) rfl dX10_joined_36 ?_
                refine lv_iload hx hb dX10_joined_39 (lv_at hl 4 rfl) ?_
                refine lv_iload_n hx hb dX10_joined_41 rfl (lv_at hl 1 rfl) ?_
                obtain ⟨r_25, hg_26, h⟩ := bd1_el h
                refine kx_Si (As := [.int x4_6, .int p1]) (rest := [.ref q_l]) (wr := [(q_this, .inr (8, [.ref q_text, .int v_size, .int v_at, .ref q_read, .ref q_l, .ref q_stands, .ref q_kept, .int v_keptMany, .ref q_one, .ref q_two, .ref q_ways, .ref q_now, .ref q_then])), (q_l, .inl (ca 0, 336, .inl v_l)), (q_one, .inl (ca 0, 7, .inl y_one_17)), (q_two, .inl (ca 0, 7, .inl y_two_18)), (q_ways, .inl (ca 0, 49, .inl y_ways_19))]) (w1 := []) (wn := [(q_this, .inr (8, [.ref q_text, .int v_size, .int v_at, .ref q_read, .ref q_l, .ref q_stands, .ref q_kept, .int v_keptMany, .ref q_one, .ref q_two, .ref q_ways, .ref q_now, .ref q_then])), (q_l, .inl (ca 0, 336, .inl v_l)), (q_one, .inl (ca 0, 7, .inl y_one_17)), (q_two, .inl (ca 0, 7, .inl y_two_18)), (q_ways, .inl (ca 0, 49, .inl y_ways_19))]) ⟨hx, hb, hml, hown, hts⟩ (c_X10_earAt l D ca H.size x4_6 p1 r_25 hg_26) (va_cwS 2 hts gX10_joined_X10_earAt rfl rfl rfl (by decide +kernel) ⟨(Nat.le_of_ble_eq_true rfl), (Nat.le_of_ble_eq_true rfl)⟩) hK hP hD hS hA [] [0, 1, 2, 3, 4] [0, 1, 2, 3, 4] rfl rfl rfl rfl (by decide) rfl rfl rfl hl.1 rfl (Nat.le_of_ble_eq_true rfl) dX10_joined_42 ⟨Nat.zero_le _, Nat.zero_le _⟩ (fun H locs hP hD hS => ?_)
                obtain ⟨hi_27, h⟩ := ck_el h
                refine va_iald hx hb hK hP 1 0 rfl rfl hi_27 dX10_joined_45 ?_
                refine lv_if_le (tgt := 107) hx hb dX10_joined_46 (by decide) (fun c_28 => ?_) (fun c_28 => ?_)
                · replace h := ifp_el c_28 h
                  cases h
                  exact hex _ _ _ hP hD hS (lv_sub hl [0, 1, 2, 3, 4, 5] rfl)
                · replace h := ifn_el c_28 h
                  refine lv_aload_n hx hb dX10_joined_49 rfl (lv_at hl 0 rfl) ?_
                  refine lv_iload hx hb dX10_joined_50 (lv_at hl 4 rfl) ?_
                  refine lv_iload_n hx hb dX10_joined_52 rfl (lv_at hl 1 rfl) ?_
                  obtain ⟨r_29, hg_30, h⟩ := bd1_el h
                  refine kx_Si (As := [.int x4_6, .int p1]) (rest := [.ref q_this]) (wr := [(q_this, .inr (8, [.ref q_text, .int v_size, .int v_at, .ref q_read, .ref q_l, .ref q_stands, .ref q_kept, .int v_keptMany, .ref q_one, .ref q_two, .ref q_ways, .ref q_now, .ref q_then])), (q_l, .inl (ca 0, 336, .inl v_l)), (q_one, .inl (ca 0, 7, .inl y_one_17)), (q_two, .inl (ca 0, 7, .inl y_two_18)), (q_ways, .inl (ca 0, 49, .inl y_ways_19))]) (w1 := []) (wn := [(q_this, .inr (8, [.ref q_text, .int v_size, .int v_at, .ref q_read, .ref q_l, .ref q_stands, .ref q_kept, .int v_keptMany, .ref q_one, .ref q_two, .ref q_ways, .ref q_now, .ref q_then])), (q_l, .inl (ca 0, 336, .inl v_l)), (q_one, .inl (ca 0, 7, .inl y_one_17)), (q_two, .inl (ca 0, 7, .inl y_two_18)), (q_ways, .inl (ca 0, 49, .inl y_ways_19))]) ⟨hx, hb, hml, hown, hts⟩ (c_X10_earAt l D ca H.size x4_6 p1 r_29 hg_30) (va_cwS 2 hts gX10_joined_X10_earAt rfl rfl rfl (by decide +kernel) ⟨(Nat.le_of_ble_eq_true rfl), (Nat.le_of_ble_eq_true rfl)⟩) hK hP hD hS hA [] [0, 1, 2, 3, 4] [0, 1, 2, 3, 4] rfl rfl rfl rfl (by decide) rfl rfl rfl hl.1 rfl (Nat.le_of_ble_eq_true rfl) dX10_joined_53 ⟨Nat.zero_le _, Nat.zero_le _⟩ (fun H locs hP hD hS => ?_)
                  refine lv_iconst (v := (-1 : Int32)) hx hb dX10_joined_56 (by decide) ?_
                  refine lv_aload_n hx hb dX10_joined_57 rfl (lv_at hl 0 rfl) ?_
                  refine va_get (D := D) (ci := 8) (v := .ref q_one) (C := RX10) (T := TX10) (N := 13) hx hb hts i_X10 hown hK hP 0 rfl rfl 8 (by decide) k_25 (fun _ h9 => h9) rfl dX10_joined_58 ?_
                  obtain ⟨y_one_31, hg_32, h⟩ := bd1_el h
                  refine kx_Vv (As := [.int r_29, .int (-1 : Int32), .ref q_one]) (rest := []) (wr := [(q_two, .inl (ca 0, 7, .inl y_two_18)), (q_ways, .inl (ca 0, 49, .inl y_ways_19))]) (w1 := [(q_this, .inr (8, [.ref q_text, .int v_size, .int v_at, .ref q_read, .ref q_l, .ref q_stands, .ref q_kept, .int v_keptMany, .ref q_one, .ref q_two, .ref q_ways, .ref q_now, .ref q_then])), (q_l, .inl (ca 0, 336, .inl v_l)), (q_one, .inl (ca 0, 7, .inl y_one_31))]) (wn := [(q_this, .inr (8, [.ref q_text, .int v_size, .int v_at, .ref q_read, .ref q_l, .ref q_stands, .ref q_kept, .int v_keptMany, .ref q_one, .ref q_two, .ref q_ways, .ref q_now, .ref q_then])), (q_l, .inl (ca 0, 336, .inl v_l)), (q_one, .inl (ca 0, 7, .inl y_one_31)), (q_two, .inl (ca 0, 7, .inl y_two_18)), (q_ways, .inl (ca 0, 49, .inl y_ways_19))]) ⟨hx, hb, hml, hown, hts⟩ (c_X10_say l D ca F H.size q_this q_text q_read q_l q_stands q_kept q_one q_two q_ways q_now q_then q_one 7 r_29 (-1 : Int32) v_size v_at v_keptMany v_l y_one_17 y_one_31 hg_32) (cwV 3 hts gX10_joined_X10_say rfl rfl rfl (by decide +kernel) ⟨(Nat.le_of_ble_eq_true rfl), (Nat.le_of_ble_eq_true rfl)⟩) hK hP hD hS hA (ci := 8) (q0 := 0) rfl rfl [0, 1, 2] [3, 4] [2, 3, 4, 0, 1] rfl rfl rfl rfl (by decide) rfl rfl rfl hl.1 rfl (Nat.le_of_ble_eq_true rfl) dX10_joined_61 ⟨Nat.zero_le _, Nat.zero_le _⟩ (fun H locs hP hD hS => ?_)
                  refine lv_aload_n hx hb dX10_joined_64 rfl (lv_at hl 0 rfl) ?_
                  refine lv_iload hx hb dX10_joined_65 (lv_at hl 6 rfl) ?_
                  refine lv_iload_n hx hb dX10_joined_67 rfl (lv_at hl 1 rfl) ?_
                  obtain ⟨r_33, hg_34, h⟩ := bd1_el h
                  refine kx_Si (As := [.int x6_16, .int p1]) (rest := [.ref q_this]) (wr := [(q_this, .inr (8, [.ref q_text, .int v_size, .int v_at, .ref q_read, .ref q_l, .ref q_stands, .ref q_kept, .int v_keptMany, .ref q_one, .ref q_two, .ref q_ways, .ref q_now, .ref q_then])), (q_l, .inl (ca 0, 336, .inl v_l)), (q_one, .inl (ca 0, 7, .inl y_one_31)), (q_two, .inl (ca 0, 7, .inl y_two_18)), (q_ways, .inl (ca 0, 49, .inl y_ways_19))]) (w1 := []) (wn := [(q_this, .inr (8, [.ref q_text, .int v_size, .int v_at, .ref q_read, .ref q_l, .ref q_stands, .ref q_kept, .int v_keptMany, .ref q_one, .ref q_two, .ref q_ways, .ref q_now, .ref q_then])), (q_l, .inl (ca 0, 336, .inl v_l)), (q_one, .inl (ca 0, 7, .inl y_one_31)), (q_two, .inl (ca 0, 7, .inl y_two_18)), (q_ways, .inl (ca 0, 49, .inl y_ways_19))]) ⟨hx, hb, hml, hown, hts⟩ (c_X10_earAt l D ca H.size x6_16 p1 r_33 hg_34) (va_cwS 2 hts gX10_joined_X10_earAt rfl rfl rfl (by decide +kernel) ⟨(Nat.le_of_ble_eq_true rfl), (Nat.le_of_ble_eq_true rfl)⟩) hK hP hD hS hA [] [0, 1, 2, 3, 4] [0, 1, 2, 3, 4] rfl rfl rfl rfl (by decide) rfl rfl rfl hl.1 rfl (Nat.le_of_ble_eq_true rfl) dX10_joined_68 ⟨Nat.zero_le _, Nat.zero_le _⟩ (fun H locs hP hD hS => ?_)
                  refine lv_iconst (v := (-1 : Int32)) hx hb dX10_joined_71 (by decide) ?_
                  refine lv_aload_n hx hb dX10_joined_72 rfl (lv_at hl 0 rfl) ?_
                  refine va_get (D := D) (ci := 8) (v := .ref q_two) (C := RX10) (T := TX10) (N := 13) hx hb hts i_X10 hown hK hP 0 rfl rfl 9 (by decide) k_28 (fun _ h9 => h9) rfl dX10_joined_73 ?_
                  obtain ⟨y_two_35, hg_36, h⟩ := bd1_el h
                  refine kx_Vv (As := [.int r_33, .int (-1 : Int32), .ref q_two]) (rest := []) (wr := [(q_one, .inl (ca 0, 7, .inl y_one_31)), (q_ways, .inl (ca 0, 49, .inl y_ways_19))]) (w1 := [(q_this, .inr (8, [.ref q_text, .int v_size, .int v_at, .ref q_read, .ref q_l, .ref q_stands, .ref q_kept, .int v_keptMany, .ref q_one, .ref q_two, .ref q_ways, .ref q_now, .ref q_then])), (q_l, .inl (ca 0, 336, .inl v_l)), (q_two, .inl (ca 0, 7, .inl y_two_35))]) (wn := [(q_this, .inr (8, [.ref q_text, .int v_size, .int v_at, .ref q_read, .ref q_l, .ref q_stands, .ref q_kept, .int v_keptMany, .ref q_one, .ref q_two, .ref q_ways, .ref q_now, .ref q_then])), (q_l, .inl (ca 0, 336, .inl v_l)), (q_one, .inl (ca 0, 7, .inl y_one_31)), (q_two, .inl (ca 0, 7, .inl y_two_35)), (q_ways, .inl (ca 0, 49, .inl y_ways_19))]) ⟨hx, hb, hml, hown, hts⟩ (c_X10_say l D ca F H.size q_this q_text q_read q_l q_stands q_kept q_one q_two q_ways q_now q_then q_two 7 r_33 (-1 : Int32) v_size v_at v_keptMany v_l y_two_18 y_two_35 hg_36) (cwV 3 hts gX10_joined_X10_say rfl rfl rfl (by decide +kernel) ⟨(Nat.le_of_ble_eq_true rfl), (Nat.le_of_ble_eq_true rfl)⟩) hK hP hD hS hA (ci := 8) (q0 := 0) rfl rfl [0, 1, 3] [2, 4] [2, 3, 0, 4, 1] rfl rfl rfl rfl (by decide) rfl rfl rfl hl.1 rfl (Nat.le_of_ble_eq_true rfl) dX10_joined_76 ⟨Nat.zero_le _, Nat.zero_le _⟩ (fun H locs hP hD hS => ?_)
                  refine lv_iload hx hb dX10_joined_79 (lv_at hl 5 rfl) ?_
                  refine lv_aload_n hx hb dX10_joined_81 rfl (lv_at hl 0 rfl) ?_
                  refine va_get (D := D) (ci := 8) (v := .ref q_two) (C := RX10) (T := TX10) (N := 13) hx hb hts i_X10 hown hK hP 0 rfl rfl 9 (by decide) k_28 (fun _ h9 => h9) rfl dX10_joined_82 ?_
                  refine lv_iconst (v := (nI 0)) hx hb dX10_joined_85 (by decide) ?_
                  obtain ⟨hi_37, h⟩ := ck_el h
                  refine va_iald hx hb hK hP 3 0 rfl rfl hi_37 dX10_joined_86 ?_
                  refine lv_if_ne (tgt := 94) hx hb dX10_joined_87 (by decide) (fun c_38 => ?_) (fun c_38 => ?_)
                  · replace h := ifn_el c_38 h
                    refine lv_aload_n hx hb dX10_joined_94 rfl (lv_at hl 0 rfl) ?_
                    obtain ⟨r_39, y_ways_40, hg_41, h⟩ := bd2_el h
                    refine kx_Vi (As := []) (rest := [.int x5_15]) (wr := [(q_l, .inl (ca 0, 336, .inl v_l))]) (w1 := [(q_this, .inr (8, [.ref q_text, .int v_size, .int v_at, .ref q_read, .ref q_l, .ref q_stands, .ref q_kept, .int v_keptMany, .ref q_one, .ref q_two, .ref q_ways, .ref q_now, .ref q_then])), (q_one, .inl (ca 0, 7, .inl y_one_31)), (q_two, .inl (ca 0, 7, .inl y_two_35)), (q_ways, .inl (ca 0, 49, .inl y_ways_40))]) (wn := [(q_this, .inr (8, [.ref q_text, .int v_size, .int v_at, .ref q_read, .ref q_l, .ref q_stands, .ref q_kept, .int v_keptMany, .ref q_one, .ref q_two, .ref q_ways, .ref q_now, .ref q_then])), (q_l, .inl (ca 0, 336, .inl v_l)), (q_one, .inl (ca 0, 7, .inl y_one_31)), (q_two, .inl (ca 0, 7, .inl y_two_35)), (q_ways, .inl (ca 0, 49, .inl y_ways_40))]) ⟨hx, hb, hml, hown, hts⟩ (c_X10_farOf l D ca F H.size q_this q_text q_read q_l q_stands q_kept q_one q_two q_ways q_now q_then v_size v_at v_keptMany y_one_31 y_two_35 y_ways_19 r_39 y_ways_40 hg_41) (cwV 0 hts gX10_joined_X10_farOf rfl rfl rfl (by decide +kernel) ⟨(Nat.le_of_ble_eq_true rfl), (Nat.le_of_ble_eq_true rfl)⟩) hK hP hD hS hA (ci := 8) (q0 := 0) rfl rfl [0, 2, 3, 4] [1] [1, 0, 2, 3, 4] rfl rfl rfl rfl (by decide) rfl rfl rfl hl.1 rfl (Nat.le_of_ble_eq_true rfl) dX10_joined_95 ⟨Nat.zero_le _, Nat.zero_le _⟩ (fun H locs hP hD hS => ?_)
                    refine lv_iadd hx hb dX10_joined_98 ?_
                    refine lv_nmi h (fun x5_42 h => ?_)
                    refine lv_istore (lv' := [(5, .int x5_42), (0, .ref q_this), (1, .int p1), (2, .int x2_4), (3, .int x3_5), (4, .int x4_6), (6, .int x6_16)]) hx hb dX10_joined_99 hl (by decide) rfl (fun ls hl => ?_)
                    obtain ⟨x6_43, e_44, h⟩ := nm_el h
                    refine lv_iinc (v := x6_43) (lv' := [(6, .int x6_43), (5, .int x5_42), (0, .ref q_this), (1, .int p1), (2, .int x2_4), (3, .int x3_5), (4, .int x4_6)]) hx hb dX10_joined_101 hl (k := 6) rfl (by rw [← e_44]; rfl) (by decide) rfl (fun ls hl => ?_)
                    refine lv_goto (tgt := 29) hx hb dX10_joined_104 (by decide) ?_
                    exact ih _ _ _ _ _ _ _ _ _ _ _ _ h hex hP hD hS (lv_sub hl [2, 3, 4, 5, 6, 1, 0] rfl)
                  · replace h := ifp_el c_38 h
                    refine lv_iconst (v := (nI 0)) hx hb dX10_joined_90 (by decide) ?_
                    refine lv_goto (tgt := 98) hx hb dX10_joined_91 (by decide) ?_
                    refine lv_iadd hx hb dX10_joined_98 ?_
                    refine lv_nmi h (fun x5_45 h => ?_)
                    refine lv_istore (lv' := [(5, .int x5_45), (0, .ref q_this), (1, .int p1), (2, .int x2_4), (3, .int x3_5), (4, .int x4_6), (6, .int x6_16)]) hx hb dX10_joined_99 hl (by decide) rfl (fun ls hl => ?_)
                    obtain ⟨x6_46, e_47, h⟩ := nm_el h
                    refine lv_iinc (v := x6_46) (lv' := [(6, .int x6_46), (5, .int x5_45), (0, .ref q_this), (1, .int p1), (2, .int x2_4), (3, .int x3_5), (4, .int x4_6)]) hx hb dX10_joined_101 hl (k := 6) rfl (by rw [← e_47]; rfl) (by decide) rfl (fun ls hl => ?_)
                    refine lv_goto (tgt := 29) hx hb dX10_joined_104 (by decide) ?_
                    exact ih _ _ _ _ _ _ _ _ _ _ _ _ h hex hP hD hS (lv_sub hl [2, 3, 4, 5, 6, 1, 0] rfl)
          exact hlp F (nI 0) (nI 0) y_one_7 y_two_8 y_ways_9 o_20 o_21 o_22 o_23 H locs ls hL hex hP hD hS (lv_sub hl [2, 3, 4, 5, 6, 1, 0] rfl)
    exact hlp F (-4 : Int32) (nI 0) (nI 0) v_one v_two v_ways o_10 o_11 o_12 o_13 H locs ls hL hex hP hD hS (lv_sub hl [3, 4, 2, 1, 0] rfl)
  · replace h := ifp_el c_3 h
    refine lv_iconst (v := (-1 : Int32)) hx hb dX10_joined_7 (by decide) ?_
    cases h
    rw [← hQe]
    exact W.iret hx hb hr (fun t ht hW => ⟨⟨_, (), rfl, rfl, by rw [ht]; exact hP, va_K.moved hW.alike hK, hD⟩, hS.F ht⟩) hS.2.2 dX10_joined_8
def b_X10_hear_8 (p1 : Int32) (p2 : Int32) (rec8 : Int64 → Int64 → Int32 → Option (Int64 × Int64)) (x2_1 : Int64) (x4_2 : Int64) (x6_3 : Int32) : Option (Int64 × Int64) := (if p2 ≤ x6_3 then some (x2_1, x4_2) else nm (x2_1 * p1.toInt64) (fun x2_7 => nm (x4_2 * (((nI 1000) - p1).toInt64)) (fun x4_8 => nm (x6_3 + (nI 1)) (fun x6_9 => rec8 x2_7 x4_8 x6_9))))
def D_X10_hear (F : Nat) (p1 : Int32) (p2 : Int32) : Option (Int32) := bd2 (lpg (T := Int64 → Int64 → Int32 → Option (Int64 × Int64)) (fun _ _ _ => none) (b_X10_hear_8 p1 p2) F (lN 1) (lN 1) (nI 0)) (fun o_4 o_5 => dzl (o_4 + o_5) (some (((o_4 * (lN 1000)) / (o_4 + o_5)).toInt32)))
abbrev rm_X10_hear : Room := { frames := 0, cells := 0, slots := 0, locals := 0 }
set_option maxHeartbeats 4000000 in
set_option maxRecDepth 100000 in
theorem c_X10_hear (l : Launch) (D : va_G) (ca : Nat → ClassId) (F : Nat) (sz : Nat) (p1 : Int32) (p2 : Int32) (r : Int32) (h : D_X10_hear F p1 p2 = some (r)) : Met l yX10_hear wsX10_hear rm_X10_hear (va_Pc [.int p1, .int p2] (kPre D ca [] sz)) (kQi D ca (va_A [] sz) [] r) 0 0 (va_A [] sz) := by
  refine Met.ofW (cc := cX10_hear) (maxL := 7) (ret := (some .int)) (by decide +kernel) rfl ?_
  intro p e s m args below meth c s₁ B hml hv
  obtain ⟨rfl, hsz, hP, hK, hD0⟩ := hv
  have hx := B.exec
  have hb := B.bytes
  have hr := B.returns
  have hts := atoms_spec (ws := wsX10_hear) B.pre
  have hown : s.vm.findClass RX10 = some m.cls := findClass_of_methodNamed B.named
  have hlocks := B.notSynchronized
  clear B
  subst hsz
  have hD := hD0.self (sz := s.heap.size)
  generalize hAe : va_A [] s.heap.size = A at hD ⊢
  have hA : ∀ q : Nat, s.heap.size ≤ q → A q := fun q h => by rw [← hAe]; exact Or.inr h
  have hS : va_S A s.heap s.heap [] := va_S.rf
  have hl := lv_entry ([.int p1, .int p2]) (n := 7) (Nat.le_of_ble_eq_true rfl)
  rw [lg_entry_eq]
  generalize (lg_sl ([.int p1, .int p2]) ++ List.replicate (7 - (lg_sl ([.int p1, .int p2])).length) Slot.unset).toArray = ls at hl ⊢
  have hl : lv_has ls 7 [(0, .int p1), (1, .int p2)] := hl
  generalize ([.int p1, .int p2] : List Value).toArray = args at hts ⊢
  generalize hQe : MQ below (kQi D ca (A) [] r) args s 0 0 A = Q
  have k_201 := hts (.constantLong RX10 201 (lN 1000)) (by decide +kernel)
  rw [D_X10_hear] at h
  refine lv_lconst (v := (lN 1)) hx hb dX10_hear_0 (by decide) ?_
  refine lv_lstore_n (lv' := [(2, .long (lN 1)), (0, .int p1), (1, .int p2)]) hx hb dX10_hear_1 rfl hl (by decide) rfl (fun ls hl => ?_)
  refine lv_lconst (v := (lN 1)) hx hb dX10_hear_2 (by decide) ?_
  refine lv_lstore (lv' := [(4, .long (lN 1)), (2, .long (lN 1)), (0, .int p1), (1, .int p2)]) hx hb dX10_hear_3 hl (by decide) rfl (fun ls hl => ?_)
  refine lv_iconst (v := (nI 0)) hx hb dX10_hear_5 (by decide) ?_
  refine lv_istore (lv' := [(6, .int (nI 0)), (4, .long (lN 1)), (2, .long (lN 1)), (0, .int p1), (1, .int p2)]) hx hb dX10_hear_6 hl (by decide) rfl (fun ls hl => ?_)
  obtain ⟨o_4, o_5, hL, h⟩ := bd2_el h
  have hex : ∀ (H : Heap) (locs : List Loc) (ls : Array Slot), va_P D vwCl [] H → va_D A [] → va_S A s.heap H locs → lv_has ls 7 [(2, .long o_4), (4, .long o_5)] → W p l e (headSpec wsX10_hear rm_X10_hear).room s m args below meth c H locs 0 0 Q (F0 m 36 ls []) := by
    intro H locs ls hP hD hS hl
    refine lv_lload_n hx hb dX10_hear_36 rfl (lv_at hl 0 rfl) ?_
    refine lv_ldc2 hx hb hown k_201 dX10_hear_37 ?_
    refine lv_lmul hx hb dX10_hear_40 ?_
    refine lv_lload_n hx hb dX10_hear_41 rfl (lv_at hl 0 rfl) ?_
    refine lv_lload hx hb dX10_hear_42 (lv_at hl 1 rfl) ?_
    refine lv_ladd hx hb dX10_hear_44 ?_
    obtain ⟨hn_11, h⟩ := dzl_el h
    refine lv_ldiv hx hb dX10_hear_45 hn_11 ?_
    refine lv_l2i hx hb dX10_hear_46 rfl ?_
    cases h
    rw [← hQe]
    exact W.iret hx hb hr (fun t ht hW => ⟨⟨_, (), rfl, rfl, by rw [ht]; exact hP, va_K.moved hW.alike hK, hD⟩, hS.F ht⟩) hS.2.2 dX10_hear_47
  have hlp : ∀ (n : Nat) (x2_1 : Int64) (x4_2 : Int64) (x6_3 : Int32) (o_4 : Int64) (o_5 : Int64) (H : Heap) (locs : List Loc) (ls : Array Slot), lpg (T := Int64 → Int64 → Int32 → Option (Int64 × Int64)) (fun _ _ _ => none) (b_X10_hear_8 p1 p2) n x2_1 x4_2 x6_3 = some (o_4, o_5) → (∀ (H : Heap) (locs : List Loc) (ls : Array Slot), va_P D vwCl [] H → va_D A [] → va_S A s.heap H locs → lv_has ls 7 [(2, .long o_4), (4, .long o_5)] → W p l e (headSpec wsX10_hear rm_X10_hear).room s m args below meth c H locs 0 0 Q (F0 m 36 ls [])) → va_P D vwCl [] H → va_D A [] → va_S A s.heap H locs → lv_has ls 7 [(0, .int p1), (1, .int p2), (2, .long x2_1), (4, .long x4_2), (6, .int x6_3)] → W p l e (headSpec wsX10_hear rm_X10_hear).room s m args below meth c H locs 0 0 Q (F0 m 8 ls []) := by
    intro n
    induction n with
    | zero => intro x2_1 x4_2 x6_3 o_4 o_5 H locs ls h; have h : (none : Option (Int64 × Int64)) = some _ := h; cases h
    | succ n ih =>
      intro x2_1 x4_2 x6_3 o_4 o_5 H locs ls h hex hP hD hS hl
      rw [lpg_succ, b_X10_hear_8] at h
      refine lv_iload hx hb dX10_hear_8 (lv_at hl 4 rfl) ?_
      refine lv_iload_n hx hb dX10_hear_10 rfl (lv_at hl 1 rfl) ?_
      refine lv_icmp_ge (tgt := 36) hx hb dX10_hear_11 (by decide) (fun c_6 => ?_) (fun c_6 => ?_)
      · replace h := ifp_el c_6 h
        cases h
        exact hex _ _ _ hP hD hS (lv_sub hl [2, 3] rfl)
      · replace h := ifn_el c_6 h
        refine lv_lload_n hx hb dX10_hear_14 rfl (lv_at hl 2 rfl) ?_
        refine lv_iload_n hx hb dX10_hear_15 rfl (lv_at hl 0 rfl) ?_
        refine lv_i2l hx hb dX10_hear_16 rfl ?_
        refine lv_lmul hx hb dX10_hear_17 ?_
        refine lv_nml h (fun x2_7 h => ?_)
        refine lv_lstore_n (lv' := [(2, .long x2_7), (0, .int p1), (1, .int p2), (4, .long x4_2), (6, .int x6_3)]) hx hb dX10_hear_18 rfl hl (by decide) rfl (fun ls hl => ?_)
        refine lv_lload hx hb dX10_hear_19 (lv_at hl 3 rfl) ?_
        refine lv_sipush (v := (nI 1000)) hx hb dX10_hear_21 (by decide) ?_
        refine lv_iload_n hx hb dX10_hear_24 rfl (lv_at hl 1 rfl) ?_
        refine lv_isub hx hb dX10_hear_25 ?_
        refine lv_i2l hx hb dX10_hear_26 rfl ?_
        refine lv_lmul hx hb dX10_hear_27 ?_
        refine lv_nml h (fun x4_8 h => ?_)
        refine lv_lstore (lv' := [(4, .long x4_8), (2, .long x2_7), (0, .int p1), (1, .int p2), (6, .int x6_3)]) hx hb dX10_hear_28 hl (by decide) rfl (fun ls hl => ?_)
        obtain ⟨x6_9, e_10, h⟩ := nm_el h
        refine lv_iinc (v := x6_9) (lv' := [(6, .int x6_9), (4, .long x4_8), (2, .long x2_7), (0, .int p1), (1, .int p2)]) hx hb dX10_hear_30 hl (k := 4) rfl (by rw [← e_10]; rfl) (by decide) rfl (fun ls hl => ?_)
        refine lv_goto (tgt := 8) hx hb dX10_hear_33 (by decide) ?_
        exact ih _ _ _ _ _ _ _ _ h hex hP hD hS (lv_sub hl [3, 4, 2, 1, 0] rfl)
  exact hlp F (lN 1) (lN 1) (nI 0) o_4 o_5 s.heap [] ls hL hex hP hD hS (lv_sub hl [3, 4, 2, 1, 0] rfl)
def b_X10_children_44 (p2 : Int32) (p3 : Int32) (F : Nat) (rec44 : Int32 → Int32 → Option (Int32)) (x4_10 : Int32) (x5_11 : Int32) : Option (Int32) := (if p3 ≤ x5_11 then some (x4_10) else bd1 (D_X10_hear F x4_10 p2) (fun r_14 => nm (x5_11 + (nI 1)) (fun x5_16 => rec44 r_14 x5_16)))
def D_X10_children (F : Nat) (p1 : Int32) (p2 : Int32) (p3 : Int32) : Option (Int32) := bd1 (D_X10_in p1.toInt64 (lN 0) (lN 1000)) (fun r_1 => (if r_1 = 0 then some ((-1 : Int32)) else bd1 (D_X10_in p2.toInt64 (lN 1) (lN 3)) (fun r_4 => (if r_4 = 0 then some ((-1 : Int32)) else bd1 (D_X10_in p3.toInt64 (lN 0) (lN 20)) (fun r_7 => (if r_7 = 0 then some ((-1 : Int32)) else bd1 (lpg (T := Int32 → Int32 → Option (Int32)) (fun _ _ => none) (b_X10_children_44 p2 p3 F) F p1 (nI 0)) (fun o_12 => some (o_12))))))))
abbrev rm_X10_children : Room := { frames := 1, cells := 0, slots := 0, locals := 26 }
set_option maxHeartbeats 4000000 in
set_option maxRecDepth 100000 in
theorem c_X10_children (l : Launch) (D : va_G) (ca : Nat → ClassId) (F : Nat) (sz : Nat) (q_this : Nat) (p1 : Int32) (p2 : Int32) (p3 : Int32) (r : Int32) (h : D_X10_children F p1 p2 p3 = some (r)) : Met l yX10_children wsX10_children rm_X10_children (va_Pc [.ref q_this, .int p1, .int p2, .int p3] (kPre D ca [] sz)) (kQi D ca (va_A [] sz) [] r) 0 0 (va_A [] sz) := by
  refine Met.ofW (cc := cX10_children) (maxL := 6) (ret := (some .int)) (by decide +kernel) rfl ?_
  intro p e s m args below meth c s₁ B hml hv
  obtain ⟨rfl, hsz, hP, hK, hD0⟩ := hv
  have hx := B.exec
  have hb := B.bytes
  have hr := B.returns
  have hts := atoms_spec (ws := wsX10_children) B.pre
  have hown : s.vm.findClass RX10 = some m.cls := findClass_of_methodNamed B.named
  have hlocks := B.notSynchronized
  clear B
  subst hsz
  have hD := hD0.self (sz := s.heap.size)
  generalize hAe : va_A [] s.heap.size = A at hD ⊢
  have hA : ∀ q : Nat, s.heap.size ≤ q → A q := fun q h => by rw [← hAe]; exact Or.inr h
  have hS : va_S A s.heap s.heap [] := va_S.rf
  have hl := lv_entry ([.ref q_this, .int p1, .int p2, .int p3]) (n := 6) (Nat.le_of_ble_eq_true rfl)
  rw [lg_entry_eq]
  generalize (lg_sl ([.ref q_this, .int p1, .int p2, .int p3]) ++ List.replicate (6 - (lg_sl ([.ref q_this, .int p1, .int p2, .int p3])).length) Slot.unset).toArray = ls at hl ⊢
  have hl : lv_has ls 6 [(0, .ref q_this), (1, .int p1), (2, .int p2), (3, .int p3)] := hl
  generalize ([.ref q_this, .int p1, .int p2, .int p3] : List Value).toArray = args at hts ⊢
  generalize hQe : MQ below (kQi D ca (A) [] r) args s 0 0 A = Q
  have k_201 := hts (.constantLong RX10 201 (lN 1000)) (by decide +kernel)
  have k_233 := hts (.constantLong RX10 233 (lN 3)) (by decide +kernel)
  have k_235 := hts (.constantLong RX10 235 (lN 20)) (by decide +kernel)
  rw [D_X10_children] at h
  refine lv_iload_n hx hb dX10_children_0 rfl (lv_at hl 1 rfl) ?_
  refine lv_i2l hx hb dX10_children_1 rfl ?_
  refine lv_lconst (v := (lN 0)) hx hb dX10_children_2 (by decide) ?_
  refine lv_ldc2 hx hb hown k_201 dX10_children_3 ?_
  obtain ⟨r_1, hg_2, h⟩ := bd1_el h
  refine kx_Si (As := [.long p1.toInt64, .long (lN 0), .long (lN 1000)]) (rest := []) (wr := []) (w1 := []) (wn := []) ⟨hx, hb, hml, hown, hts⟩ (c_X10_in l D ca s.heap.size p1.toInt64 (lN 0) (lN 1000) r_1 hg_2) (va_cwS 3 hts gX10_children_X10_in rfl rfl rfl (by decide +kernel) ⟨(Nat.le_of_ble_eq_true rfl), (Nat.le_of_ble_eq_true rfl)⟩) hK hP hD hS hA [] [] [] rfl rfl rfl rfl (by decide) rfl rfl rfl hl.1 rfl (Nat.le_of_ble_eq_true rfl) dX10_children_6 ⟨Nat.zero_le _, Nat.zero_le _⟩ (fun H locs hP hD hS => ?_)
  refine lv_if_eq (tgt := 36) hx hb dX10_children_9 (by decide) (fun c_3 => ?_) (fun c_3 => ?_)
  · replace h := ifp_el c_3 h
    refine lv_iconst (v := (-1 : Int32)) hx hb dX10_children_36 (by decide) ?_
    cases h
    rw [← hQe]
    exact W.iret hx hb hr (fun t ht hW => ⟨⟨_, (), rfl, rfl, by rw [ht]; exact hP, va_K.moved hW.alike hK, hD⟩, hS.F ht⟩) hS.2.2 dX10_children_37
  · replace h := ifn_el c_3 h
    refine lv_iload_n hx hb dX10_children_12 rfl (lv_at hl 2 rfl) ?_
    refine lv_i2l hx hb dX10_children_13 rfl ?_
    refine lv_lconst (v := (lN 1)) hx hb dX10_children_14 (by decide) ?_
    refine lv_ldc2 hx hb hown k_233 dX10_children_15 ?_
    obtain ⟨r_4, hg_5, h⟩ := bd1_el h
    refine kx_Si (As := [.long p2.toInt64, .long (lN 1), .long (lN 3)]) (rest := []) (wr := []) (w1 := []) (wn := []) ⟨hx, hb, hml, hown, hts⟩ (c_X10_in l D ca H.size p2.toInt64 (lN 1) (lN 3) r_4 hg_5) (va_cwS 3 hts gX10_children_X10_in rfl rfl rfl (by decide +kernel) ⟨(Nat.le_of_ble_eq_true rfl), (Nat.le_of_ble_eq_true rfl)⟩) hK hP hD hS hA [] [] [] rfl rfl rfl rfl (by decide) rfl rfl rfl hl.1 rfl (Nat.le_of_ble_eq_true rfl) dX10_children_18 ⟨Nat.zero_le _, Nat.zero_le _⟩ (fun H locs hP hD hS => ?_)
    refine lv_if_eq (tgt := 36) hx hb dX10_children_21 (by decide) (fun c_6 => ?_) (fun c_6 => ?_)
    · replace h := ifp_el c_6 h
      refine lv_iconst (v := (-1 : Int32)) hx hb dX10_children_36 (by decide) ?_
      cases h
      rw [← hQe]
      exact W.iret hx hb hr (fun t ht hW => ⟨⟨_, (), rfl, rfl, by rw [ht]; exact hP, va_K.moved hW.alike hK, hD⟩, hS.F ht⟩) hS.2.2 dX10_children_37
    · replace h := ifn_el c_6 h
      refine lv_iload_n hx hb dX10_children_24 rfl (lv_at hl 3 rfl) ?_
      refine lv_i2l hx hb dX10_children_25 rfl ?_
      refine lv_lconst (v := (lN 0)) hx hb dX10_children_26 (by decide) ?_
      refine lv_ldc2 hx hb hown k_235 dX10_children_27 ?_
      obtain ⟨r_7, hg_8, h⟩ := bd1_el h
      refine kx_Si (As := [.long p3.toInt64, .long (lN 0), .long (lN 20)]) (rest := []) (wr := []) (w1 := []) (wn := []) ⟨hx, hb, hml, hown, hts⟩ (c_X10_in l D ca H.size p3.toInt64 (lN 0) (lN 20) r_7 hg_8) (va_cwS 3 hts gX10_children_X10_in rfl rfl rfl (by decide +kernel) ⟨(Nat.le_of_ble_eq_true rfl), (Nat.le_of_ble_eq_true rfl)⟩) hK hP hD hS hA [] [] [] rfl rfl rfl rfl (by decide) rfl rfl rfl hl.1 rfl (Nat.le_of_ble_eq_true rfl) dX10_children_30 ⟨Nat.zero_le _, Nat.zero_le _⟩ (fun H locs hP hD hS => ?_)
      refine lv_if_ne (tgt := 38) hx hb dX10_children_33 (by decide) (fun c_9 => ?_) (fun c_9 => ?_)
      · replace h := ifn_el c_9 h
        refine lv_iload_n hx hb dX10_children_38 rfl (lv_at hl 1 rfl) ?_
        refine lv_istore (lv' := [(4, .int p1), (0, .ref q_this), (1, .int p1), (2, .int p2), (3, .int p3)]) hx hb dX10_children_39 hl (by decide) rfl (fun ls hl => ?_)
        refine lv_iconst (v := (nI 0)) hx hb dX10_children_41 (by decide) ?_
        refine lv_istore (lv' := [(5, .int (nI 0)), (4, .int p1), (0, .ref q_this), (1, .int p1), (2, .int p2), (3, .int p3)]) hx hb dX10_children_42 hl (by decide) rfl (fun ls hl => ?_)
        obtain ⟨o_12, hL, h⟩ := bd1_el h
        have hex : ∀ (H : Heap) (locs : List Loc) (ls : Array Slot), va_P D vwCl [] H → va_D A [] → va_S A s.heap H locs → lv_has ls 6 [(4, .int o_12)] → W p l e (headSpec wsX10_children rm_X10_children).room s m args below meth c H locs 0 0 Q (F0 m 64 ls []) := by
          intro H locs ls hP hD hS hl
          refine lv_iload hx hb dX10_children_64 (lv_at hl 0 rfl) ?_
          cases h
          rw [← hQe]
          exact W.iret hx hb hr (fun t ht hW => ⟨⟨_, (), rfl, rfl, by rw [ht]; exact hP, va_K.moved hW.alike hK, hD⟩, hS.F ht⟩) hS.2.2 dX10_children_66
        have hlp : ∀ (n : Nat) (x4_10 : Int32) (x5_11 : Int32) (o_12 : Int32) (H : Heap) (locs : List Loc) (ls : Array Slot), lpg (T := Int32 → Int32 → Option (Int32)) (fun _ _ => none) (b_X10_children_44 p2 p3 F) n x4_10 x5_11 = some (o_12) → (∀ (H : Heap) (locs : List Loc) (ls : Array Slot), va_P D vwCl [] H → va_D A [] → va_S A s.heap H locs → lv_has ls 6 [(4, .int o_12)] → W p l e (headSpec wsX10_children rm_X10_children).room s m args below meth c H locs 0 0 Q (F0 m 64 ls [])) → va_P D vwCl [] H → va_D A [] → va_S A s.heap H locs → lv_has ls 6 [(2, .int p2), (3, .int p3), (4, .int x4_10), (5, .int x5_11)] → W p l e (headSpec wsX10_children rm_X10_children).room s m args below meth c H locs 0 0 Q (F0 m 44 ls []) := by
          intro n
          induction n with
          | zero => intro x4_10 x5_11 o_12 H locs ls h; have h : (none : Option (Int32)) = some _ := h; cases h
          | succ n ih =>
            intro x4_10 x5_11 o_12 H locs ls h hex hP hD hS hl
            rw [lpg_succ, b_X10_children_44] at h
            refine lv_iload hx hb dX10_children_44 (lv_at hl 3 rfl) ?_
            refine lv_iload_n hx hb dX10_children_46 rfl (lv_at hl 1 rfl) ?_
            refine lv_icmp_ge (tgt := 64) hx hb dX10_children_47 (by decide) (fun c_13 => ?_) (fun c_13 => ?_)
            · replace h := ifp_el c_13 h
              cases h
              exact hex _ _ _ hP hD hS (lv_sub hl [2] rfl)
            · replace h := ifn_el c_13 h
              refine lv_iload hx hb dX10_children_50 (lv_at hl 2 rfl) ?_
              refine lv_iload_n hx hb dX10_children_52 rfl (lv_at hl 0 rfl) ?_
              obtain ⟨r_14, hg_15, h⟩ := bd1_el h
              refine kx_Si (As := [.int x4_10, .int p2]) (rest := []) (wr := []) (w1 := []) (wn := []) ⟨hx, hb, hml, hown, hts⟩ (c_X10_hear l D ca F H.size x4_10 p2 r_14 hg_15) (va_cwS 2 hts gX10_children_X10_hear rfl rfl rfl (by decide +kernel) ⟨(Nat.le_of_ble_eq_true rfl), (Nat.le_of_ble_eq_true rfl)⟩) hK hP hD hS hA [] [] [] rfl rfl rfl rfl (by decide) rfl rfl rfl hl.1 rfl (Nat.le_of_ble_eq_true rfl) dX10_children_53 ⟨Nat.zero_le _, Nat.zero_le _⟩ (fun H locs hP hD hS => ?_)
              refine lv_istore (lv' := [(4, .int r_14), (2, .int p2), (3, .int p3), (5, .int x5_11)]) hx hb dX10_children_56 hl (by decide) rfl (fun ls hl => ?_)
              obtain ⟨x5_16, e_17, h⟩ := nm_el h
              refine lv_iinc (v := x5_16) (lv' := [(5, .int x5_16), (4, .int r_14), (2, .int p2), (3, .int p3)]) hx hb dX10_children_58 hl (k := 3) rfl (by rw [← e_17]; rfl) (by decide) rfl (fun ls hl => ?_)
              refine lv_goto (tgt := 44) hx hb dX10_children_61 (by decide) ?_
              exact ih _ _ _ _ _ _ h hex hP hD hS (lv_sub hl [2, 3, 1, 0] rfl)
        exact hlp F p1 (nI 0) o_12 H locs ls hL hex hP hD hS (lv_sub hl [4, 5, 1, 0] rfl)
      · replace h := ifp_el c_9 h
        refine lv_iconst (v := (-1 : Int32)) hx hb dX10_children_36 (by decide) ?_
        cases h
        rw [← hQe]
        exact W.iret hx hb hr (fun t ht hW => ⟨⟨_, (), rfl, rfl, by rw [ht]; exact hP, va_K.moved hW.alike hK, hD⟩, hS.F ht⟩) hS.2.2 dX10_children_37
