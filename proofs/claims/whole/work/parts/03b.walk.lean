def D_X5_add (n_a1 : Nat) (p2 : Int32) (p3 : Int64) (v_a1 : Nat → Int64) : Option ((Nat → Int64)) := (if p2 < 0 then some (v_a1) else (if (nI n_a1) ≤ p2 then some (v_a1) else ck n_a1 p2 (nm ((v_a1 p2.toNatClampNeg) + p3) (fun w_4 => ck n_a1 p2 (some ((vp_updL v_a1 p2.toNatClampNeg w_4)))))))
abbrev rm_X5_add : Room := { frames := 0, cells := 0, slots := 0, locals := 0 }
set_option maxHeartbeats 4000000 in
set_option maxRecDepth 100000 in
theorem c_X5_add (l : Launch) (D : va_G) (ca : Nat → ClassId) (sz : Nat) (q_a1 : Nat) (n_a1 : Nat) (p2 : Int32) (p3 : Int64) (v_a1 : Nat → Int64) (o_a1 : Nat → Int64) (h : D_X5_add n_a1 p2 p3 v_a1 = some (o_a1)) : Met l yX5_add wsX5_add rm_X5_add (va_Pc [.ref q_a1, .int p2, .long p3] (kPre D ca [(q_a1, .inl (ca 1, n_a1, .inr (.inl v_a1)))] sz)) (kQv D ca (va_A [(q_a1, .inl (ca 1, n_a1, .inr (.inl v_a1)))] sz) [(q_a1, .inl (ca 1, n_a1, .inr (.inl o_a1)))]) 0 0 (va_A [(q_a1, .inl (ca 1, n_a1, .inr (.inl v_a1)))] sz) := by
  refine Met.ofW (cc := cX5_add) (maxL := 4) (ret := none) (by decide +kernel) rfl ?_
  intro p e s m args below meth c s₁ B hml hv
  obtain ⟨rfl, hsz, hP, hK, hD0⟩ := hv
  have hx := B.exec
  have hb := B.bytes
  have hr := B.returns
  have hts := atoms_spec (ws := wsX5_add) B.pre
  have hown : s.vm.findClass RX5 = some m.cls := findClass_of_methodNamed B.named
  have hlocks := B.notSynchronized
  clear B
  subst hsz
  have hD := hD0.self (sz := s.heap.size)
  generalize hAe : va_A [(q_a1, .inl (ca 1, n_a1, .inr (.inl v_a1)))] s.heap.size = A at hD ⊢
  have hA : ∀ q : Nat, s.heap.size ≤ q → A q := fun q h => by rw [← hAe]; exact Or.inr h
  have hS : va_S A s.heap s.heap [] := va_S.rf
  have hl := lv_entry ([.ref q_a1, .int p2, .long p3]) (n := 4) (Nat.le_of_ble_eq_true rfl)
  rw [lg_entry_eq]
  generalize (lg_sl ([.ref q_a1, .int p2, .long p3]) ++ List.replicate (4 - (lg_sl ([.ref q_a1, .int p2, .long p3])).length) Slot.unset).toArray = ls at hl ⊢
  have hl : lv_has ls 4 [(0, .ref q_a1), (1, .int p2), (2, .long p3)] := hl
  generalize ([.ref q_a1, .int p2, .long p3] : List Value).toArray = args at hts ⊢
  generalize hQe : MQ below (kQv D ca (A) [(q_a1, .inl (ca 1, n_a1, .inr (.inl o_a1)))]) args s 0 0 A = Q
  rw [D_X5_add] at h
  refine lv_iload_n hx hb dX5_add_0 rfl (lv_at hl 1 rfl) ?_
  refine lv_if_lt (tgt := 17) hx hb dX5_add_1 (by decide) (fun c_1 => ?_) (fun c_1 => ?_)
  · replace h := ifp_el c_1 h
    cases h
    rw [← hQe]
    exact W.vret hx hb hr (fun t ht hW => ⟨⟨(), rfl, trivial, by rw [ht]; exact hP, va_K.moved hW.alike hK, hD⟩, hS.F ht⟩) hS.2.2 dX5_add_17
  · replace h := ifn_el c_1 h
    refine lv_iload_n hx hb dX5_add_4 rfl (lv_at hl 1 rfl) ?_
    refine lv_aload_n hx hb dX5_add_5 rfl (lv_at hl 0 rfl) ?_
    refine va_alen hx hb hK hP 0 1 rfl rfl (v := (nI n_a1)) rfl dX5_add_6 ?_
    refine lv_icmp_ge (tgt := 17) hx hb dX5_add_7 (by decide) (fun c_2 => ?_) (fun c_2 => ?_)
    · replace h := ifp_el c_2 h
      cases h
      rw [← hQe]
      exact W.vret hx hb hr (fun t ht hW => ⟨⟨(), rfl, trivial, by rw [ht]; exact hP, va_K.moved hW.alike hK, hD⟩, hS.F ht⟩) hS.2.2 dX5_add_17
    · replace h := ifn_el c_2 h
      refine lv_aload_n hx hb dX5_add_10 rfl (lv_at hl 0 rfl) ?_
      refine lv_iload_n hx hb dX5_add_11 rfl (lv_at hl 1 rfl) ?_
      refine lv_dup2_11 hx hb dX5_add_12 rfl rfl ?_
      obtain ⟨hi_3, h⟩ := ck_el h
      refine va_lald hx hb hK hP 0 1 rfl rfl hi_3 dX5_add_13 ?_
      refine lv_lload_n hx hb dX5_add_14 rfl (lv_at hl 2 rfl) ?_
      refine lv_ladd hx hb dX5_add_15 ?_
      refine lv_nml h (fun w_4 h => ?_)
      obtain ⟨hi_5, h⟩ := ck_el h
      refine va_last hx hb hK hP hD hS 0 1 rfl rfl hi_5 dX5_add_16 (fun H locs hP hD hS => ?_)
      have hP : va_P D vwCl [(q_a1, .inl (ca 1, n_a1, .inr (.inl (vp_updL v_a1 p2.toNatClampNeg w_4))))] H := hP
      have hD : va_D A [(q_a1, .inl (ca 1, n_a1, .inr (.inl (vp_updL v_a1 p2.toNatClampNeg w_4))))] := hD
      cases h
      rw [← hQe]
      exact W.vret hx hb hr (fun t ht hW => ⟨⟨(), rfl, trivial, by rw [ht]; exact hP, va_K.moved hW.alike hK, hD⟩, hS.F ht⟩) hS.2.2 dX5_add_17
def D_X1_begin (F : Nat) (p1 : Int32) (p2 : Int32) (v_now : Nat → Int64) : Option ((Nat → Int64)) := bd1 (D_J7_fill_d0a16 F 81 (lN 0) v_now) (fun y_now_1 => bd1 (D_X1_place p1 p2) (fun r_3 => bd1 (D_X5_add 81 r_3 (lN 1000000) y_now_1) (fun y_now_5 => some (y_now_5))))
abbrev rm_X1_begin : Room := { frames := 1, cells := 0, slots := 0, locals := 24 }
set_option maxHeartbeats 4000000 in
set_option maxRecDepth 100000 in
theorem c_X1_begin (l : Launch) (D : va_G) (ca : Nat → ClassId) (F : Nat) (sz : Nat) (q_this q_now q_next : Nat) (p1 : Int32) (p2 : Int32) (v_a : Int32) (v_b : Int32) (v_zeroHears : Int32) (v_oneHears : Int32) (v_moved : Int32) (v_now : Nat → Int64) (o_now : Nat → Int64) (h : D_X1_begin F p1 p2 v_now = some (o_now)) : Met l yX1_begin wsX1_begin rm_X1_begin (va_Pc [.ref q_this, .int p1, .int p2] (kPre D ca [(q_this, .inr (1, [.ref q_now, .ref q_next, .int v_a, .int v_b, .int v_zeroHears, .int v_oneHears, .int v_moved])), (q_now, .inl (ca 1, 81, .inr (.inl v_now)))] sz)) (kQv D ca (va_A [(q_this, .inr (1, [.ref q_now, .ref q_next, .int v_a, .int v_b, .int v_zeroHears, .int v_oneHears, .int v_moved])), (q_now, .inl (ca 1, 81, .inr (.inl v_now)))] sz) [(q_this, .inr (1, [.ref q_now, .ref q_next, .int v_a, .int v_b, .int v_zeroHears, .int v_oneHears, .int v_moved])), (q_now, .inl (ca 1, 81, .inr (.inl o_now)))]) 0 0 (va_A [(q_this, .inr (1, [.ref q_now, .ref q_next, .int v_a, .int v_b, .int v_zeroHears, .int v_oneHears, .int v_moved])), (q_now, .inl (ca 1, 81, .inr (.inl v_now)))] sz) := by
  refine Met.ofW (cc := cX1_begin) (maxL := 3) (ret := none) (by decide +kernel) rfl ?_
  intro p e s m args below meth c s₁ B hml hv
  obtain ⟨rfl, hsz, hP, hK, hD0⟩ := hv
  have hx := B.exec
  have hb := B.bytes
  have hr := B.returns
  have hts := atoms_spec (ws := wsX1_begin) B.pre
  have hown : s.vm.findClass RX1 = some m.cls := findClass_of_methodNamed B.named
  have hlocks := B.notSynchronized
  clear B
  subst hsz
  have hD := hD0.self (sz := s.heap.size)
  generalize hAe : va_A [(q_this, .inr (1, [.ref q_now, .ref q_next, .int v_a, .int v_b, .int v_zeroHears, .int v_oneHears, .int v_moved])), (q_now, .inl (ca 1, 81, .inr (.inl v_now)))] s.heap.size = A at hD ⊢
  have hA : ∀ q : Nat, s.heap.size ≤ q → A q := fun q h => by rw [← hAe]; exact Or.inr h
  have hS : va_S A s.heap s.heap [] := va_S.rf
  have hl := lv_entry ([.ref q_this, .int p1, .int p2]) (n := 3) (Nat.le_of_ble_eq_true rfl)
  rw [lg_entry_eq]
  generalize (lg_sl ([.ref q_this, .int p1, .int p2]) ++ List.replicate (3 - (lg_sl ([.ref q_this, .int p1, .int p2])).length) Slot.unset).toArray = ls at hl ⊢
  have hl : lv_has ls 3 [(0, .ref q_this), (1, .int p1), (2, .int p2)] := hl
  generalize ([.ref q_this, .int p1, .int p2] : List Value).toArray = args at hts ⊢
  generalize hQe : MQ below (kQv D ca (A) [(q_this, .inr (1, [.ref q_now, .ref q_next, .int v_a, .int v_b, .int v_zeroHears, .int v_oneHears, .int v_moved])), (q_now, .inl (ca 1, 81, .inr (.inl o_now)))]) args s 0 0 A = Q
  have i_X1 : ∀ w ∈ u_ws RX1 TX1 7, w ∈ wsX1_begin := by decide +kernel
  have k_11 := hts (.fieldLink RX1 11 "TradeWords$Crowd" "now" "[J") (by decide +kernel)
  have k_49 := hts (.constantLong RX1 49 (lN 1000000)) (by decide +kernel)
  rw [D_X1_begin] at h
  refine lv_aload_n hx hb dX1_begin_0 rfl (lv_at hl 0 rfl) ?_
  refine va_get (D := D) (ci := 1) (v := .ref q_now) (C := RX1) (T := TX1) (N := 7) hx hb hts i_X1 hown hK hP 0 rfl rfl 0 (by decide) k_11 (fun _ h9 => h9) rfl dX1_begin_1 ?_
  refine lv_lconst (v := (lN 0)) hx hb dX1_begin_4 (by decide) ?_
  obtain ⟨y_now_1, hg_2, h⟩ := bd1_el h
  refine kx_Sv (As := [.ref q_now, .long (lN 0)]) (rest := []) (wr := [(q_this, .inr (1, [.ref q_now, .ref q_next, .int v_a, .int v_b, .int v_zeroHears, .int v_oneHears, .int v_moved]))]) (w1 := [(q_now, .inl (ca 1, 81, .inr (.inl y_now_1)))]) (wn := [(q_this, .inr (1, [.ref q_now, .ref q_next, .int v_a, .int v_b, .int v_zeroHears, .int v_oneHears, .int v_moved])), (q_now, .inl (ca 1, 81, .inr (.inl y_now_1)))]) ⟨hx, hb, hml, hown, hts⟩ (c_J7_fill_d0a16 l D ca F s.heap.size q_now 81 (lN 0) v_now y_now_1 hg_2) (va_cwS 2 hts gX1_begin_J7_fill_d0a16 rfl rfl rfl (by decide +kernel) ⟨(Nat.le_of_ble_eq_true rfl), (Nat.le_of_ble_eq_true rfl)⟩) hK hP hD hS hA [1] [0] [0, 1] rfl rfl rfl rfl (by decide) rfl rfl rfl hl.1 rfl (Nat.le_of_ble_eq_true rfl) dX1_begin_5 ⟨Nat.zero_le _, Nat.zero_le _⟩ (fun H locs hP hD hS => ?_)
  refine lv_aload_n hx hb dX1_begin_8 rfl (lv_at hl 0 rfl) ?_
  refine va_get (D := D) (ci := 1) (v := .ref q_now) (C := RX1) (T := TX1) (N := 7) hx hb hts i_X1 hown hK hP 0 rfl rfl 0 (by decide) k_11 (fun _ h9 => h9) rfl dX1_begin_9 ?_
  refine lv_iload_n hx hb dX1_begin_12 rfl (lv_at hl 1 rfl) ?_
  refine lv_iload_n hx hb dX1_begin_13 rfl (lv_at hl 2 rfl) ?_
  obtain ⟨r_3, hg_4, h⟩ := bd1_el h
  refine kx_Si (As := [.int p1, .int p2]) (rest := [.ref q_now]) (wr := [(q_this, .inr (1, [.ref q_now, .ref q_next, .int v_a, .int v_b, .int v_zeroHears, .int v_oneHears, .int v_moved])), (q_now, .inl (ca 1, 81, .inr (.inl y_now_1)))]) (w1 := []) (wn := [(q_this, .inr (1, [.ref q_now, .ref q_next, .int v_a, .int v_b, .int v_zeroHears, .int v_oneHears, .int v_moved])), (q_now, .inl (ca 1, 81, .inr (.inl y_now_1)))]) ⟨hx, hb, hml, hown, hts⟩ (c_X1_place l D ca H.size p1 p2 r_3 hg_4) (va_cwS 2 hts gX1_begin_X1_place rfl rfl rfl (by decide +kernel) ⟨(Nat.le_of_ble_eq_true rfl), (Nat.le_of_ble_eq_true rfl)⟩) hK hP hD hS hA [] [0, 1] [0, 1] rfl rfl rfl rfl (by decide) rfl rfl rfl hl.1 rfl (Nat.le_of_ble_eq_true rfl) dX1_begin_14 ⟨Nat.zero_le _, Nat.zero_le _⟩ (fun H locs hP hD hS => ?_)
  refine lv_ldc2 hx hb hown k_49 dX1_begin_17 ?_
  obtain ⟨y_now_5, hg_6, h⟩ := bd1_el h
  refine kx_Sv (As := [.ref q_now, .int r_3, .long (lN 1000000)]) (rest := []) (wr := [(q_this, .inr (1, [.ref q_now, .ref q_next, .int v_a, .int v_b, .int v_zeroHears, .int v_oneHears, .int v_moved]))]) (w1 := [(q_now, .inl (ca 1, 81, .inr (.inl y_now_5)))]) (wn := [(q_this, .inr (1, [.ref q_now, .ref q_next, .int v_a, .int v_b, .int v_zeroHears, .int v_oneHears, .int v_moved])), (q_now, .inl (ca 1, 81, .inr (.inl y_now_5)))]) ⟨hx, hb, hml, hown, hts⟩ (c_X5_add l D ca H.size q_now 81 r_3 (lN 1000000) y_now_1 y_now_5 hg_6) (va_cwS 3 hts gX1_begin_X5_add rfl rfl rfl (by decide +kernel) ⟨(Nat.le_of_ble_eq_true rfl), (Nat.le_of_ble_eq_true rfl)⟩) hK hP hD hS hA [1] [0] [0, 1] rfl rfl rfl rfl (by decide) rfl rfl rfl hl.1 rfl (Nat.le_of_ble_eq_true rfl) dX1_begin_20 ⟨Nat.zero_le _, Nat.zero_le _⟩ (fun H locs hP hD hS => ?_)
  cases h
  rw [← hQe]
  exact W.vret hx hb hr (fun t ht hW => ⟨⟨(), rfl, trivial, by rw [ht]; exact hP, va_K.moved hW.alike hK, hD⟩, hS.F ht⟩) hS.2.2 dX1_begin_23
def D_X5_at_ (n_a1 : Nat) (p2 : Int32) (v_a1 : Nat → Int64) : Option (Int64) := (if p2 < 0 then some ((lN 0)) else (if (nI n_a1) ≤ p2 then some ((lN 0)) else ck n_a1 p2 (some ((v_a1 p2.toNatClampNeg)))))
abbrev rm_X5_at_ : Room := { frames := 0, cells := 0, slots := 0, locals := 0 }
set_option maxHeartbeats 4000000 in
set_option maxRecDepth 100000 in
theorem c_X5_at_ (l : Launch) (D : va_G) (ca : Nat → ClassId) (sz : Nat) (q_a1 : Nat) (n_a1 : Nat) (p2 : Int32) (v_a1 : Nat → Int64) (r : Int64) (h : D_X5_at_ n_a1 p2 v_a1 = some (r)) : Met l yX5_at_ wsX5_at_ rm_X5_at_ (va_Pc [.ref q_a1, .int p2] (kPre D ca [(q_a1, .inl (ca 1, n_a1, .inr (.inl v_a1)))] sz)) (kQl D ca (va_A [(q_a1, .inl (ca 1, n_a1, .inr (.inl v_a1)))] sz) [(q_a1, .inl (ca 1, n_a1, .inr (.inl v_a1)))] r) 0 0 (va_A [(q_a1, .inl (ca 1, n_a1, .inr (.inl v_a1)))] sz) := by
  refine Met.ofW (cc := cX5_at_) (maxL := 2) (ret := (some .long)) (by decide +kernel) rfl ?_
  intro p e s m args below meth c s₁ B hml hv
  obtain ⟨rfl, hsz, hP, hK, hD0⟩ := hv
  have hx := B.exec
  have hb := B.bytes
  have hr := B.returns
  have hts := atoms_spec (ws := wsX5_at_) B.pre
  have hown : s.vm.findClass RX5 = some m.cls := findClass_of_methodNamed B.named
  have hlocks := B.notSynchronized
  clear B
  subst hsz
  have hD := hD0.self (sz := s.heap.size)
  generalize hAe : va_A [(q_a1, .inl (ca 1, n_a1, .inr (.inl v_a1)))] s.heap.size = A at hD ⊢
  have hA : ∀ q : Nat, s.heap.size ≤ q → A q := fun q h => by rw [← hAe]; exact Or.inr h
  have hS : va_S A s.heap s.heap [] := va_S.rf
  have hl := lv_entry ([.ref q_a1, .int p2]) (n := 2) (Nat.le_of_ble_eq_true rfl)
  rw [lg_entry_eq]
  generalize (lg_sl ([.ref q_a1, .int p2]) ++ List.replicate (2 - (lg_sl ([.ref q_a1, .int p2])).length) Slot.unset).toArray = ls at hl ⊢
  have hl : lv_has ls 2 [(0, .ref q_a1), (1, .int p2)] := hl
  generalize ([.ref q_a1, .int p2] : List Value).toArray = args at hts ⊢
  generalize hQe : MQ below (kQl D ca (A) [(q_a1, .inl (ca 1, n_a1, .inr (.inl v_a1)))] r) args s 0 0 A = Q
  rw [D_X5_at_] at h
  refine lv_iload_n hx hb dX5_at__0 rfl (lv_at hl 1 rfl) ?_
  refine lv_if_lt (tgt := 16) hx hb dX5_at__1 (by decide) (fun c_1 => ?_) (fun c_1 => ?_)
  · replace h := ifp_el c_1 h
    refine lv_lconst (v := (lN 0)) hx hb dX5_at__16 (by decide) ?_
    cases h
    rw [← hQe]
    exact W.lret hx hb hr (fun t ht hW => ⟨⟨_, (), rfl, rfl, by rw [ht]; exact hP, va_K.moved hW.alike hK, hD⟩, hS.F ht⟩) hS.2.2 dX5_at__17
  · replace h := ifn_el c_1 h
    refine lv_iload_n hx hb dX5_at__4 rfl (lv_at hl 1 rfl) ?_
    refine lv_aload_n hx hb dX5_at__5 rfl (lv_at hl 0 rfl) ?_
    refine va_alen hx hb hK hP 0 1 rfl rfl (v := (nI n_a1)) rfl dX5_at__6 ?_
    refine lv_icmp_ge (tgt := 16) hx hb dX5_at__7 (by decide) (fun c_2 => ?_) (fun c_2 => ?_)
    · replace h := ifp_el c_2 h
      refine lv_lconst (v := (lN 0)) hx hb dX5_at__16 (by decide) ?_
      cases h
      rw [← hQe]
      exact W.lret hx hb hr (fun t ht hW => ⟨⟨_, (), rfl, rfl, by rw [ht]; exact hP, va_K.moved hW.alike hK, hD⟩, hS.F ht⟩) hS.2.2 dX5_at__17
    · replace h := ifn_el c_2 h
      refine lv_aload_n hx hb dX5_at__10 rfl (lv_at hl 0 rfl) ?_
      refine lv_iload_n hx hb dX5_at__11 rfl (lv_at hl 1 rfl) ?_
      obtain ⟨hi_3, h⟩ := ck_el h
      refine va_lald hx hb hK hP 0 1 rfl rfl hi_3 dX5_at__12 ?_
      refine lv_goto (tgt := 17) hx hb dX5_at__13 (by decide) ?_
      cases h
      rw [← hQe]
      exact W.lret hx hb hr (fun t ht hW => ⟨⟨_, (), rfl, rfl, by rw [ht]; exact hP, va_K.moved hW.alike hK, hD⟩, hS.F ht⟩) hS.2.2 dX5_at__17
def j_X1_go_32 (p1 : Int32) (p2 : Int32) (v_moved : Int32) (v_next : Nat → Int64) (z0_2 : Int64) : Option (Int32 × (Nat → Int64)) := (if (lg_cmp z0_2 (lN 0)) ≤ 0 then some (v_moved, v_next) else bd1 (D_X5_add 81 p1 (-z0_2) v_next) (fun y_next_4 => bd1 (D_X5_add 81 p2 z0_2 y_next_4) (fun y_next_6 => some ((nI 1), y_next_6))))
def D_X1_go (p1 : Int32) (p2 : Int32) (p3 : Int64) (v_a : Int32) (v_b : Int32) (v_moved : Int32) (v_next : Nat → Int64) : Option (Int32 × (Nat → Int64)) := nm (((lN 100) * v_a.toInt64) * v_b.toInt64) (fun x5_1 => (if (lg_cmp x5_1 (lN 0)) ≤ 0 then j_X1_go_32 p1 p2 v_moved v_next (lN 0) else dzl x5_1 (j_X1_go_32 p1 p2 v_moved v_next (p3 / x5_1))))
abbrev rm_X1_go : Room := { frames := 1, cells := 0, slots := 0, locals := 23 }
set_option maxHeartbeats 4000000 in
set_option maxRecDepth 100000 in
theorem c_X1_go (l : Launch) (D : va_G) (ca : Nat → ClassId) (sz : Nat) (q_this q_now q_next : Nat) (p1 : Int32) (p2 : Int32) (p3 : Int64) (v_a : Int32) (v_b : Int32) (v_zeroHears : Int32) (v_oneHears : Int32) (v_moved : Int32) (v_next : Nat → Int64) (o_moved : Int32) (o_next : Nat → Int64) (h : D_X1_go p1 p2 p3 v_a v_b v_moved v_next = some (o_moved, o_next)) : Met l yX1_go wsX1_go rm_X1_go (va_Pc [.ref q_this, .int p1, .int p2, .long p3] (kPre D ca [(q_this, .inr (1, [.ref q_now, .ref q_next, .int v_a, .int v_b, .int v_zeroHears, .int v_oneHears, .int v_moved])), (q_next, .inl (ca 1, 81, .inr (.inl v_next)))] sz)) (kQv D ca (va_A [(q_this, .inr (1, [.ref q_now, .ref q_next, .int v_a, .int v_b, .int v_zeroHears, .int v_oneHears, .int v_moved])), (q_next, .inl (ca 1, 81, .inr (.inl v_next)))] sz) [(q_this, .inr (1, [.ref q_now, .ref q_next, .int v_a, .int v_b, .int v_zeroHears, .int v_oneHears, .int o_moved])), (q_next, .inl (ca 1, 81, .inr (.inl o_next)))]) 0 0 (va_A [(q_this, .inr (1, [.ref q_now, .ref q_next, .int v_a, .int v_b, .int v_zeroHears, .int v_oneHears, .int v_moved])), (q_next, .inl (ca 1, 81, .inr (.inl v_next)))] sz) := by
  refine Met.ofW (cc := cX1_go) (maxL := 9) (ret := none) (by decide +kernel) rfl ?_
  intro p e s m args below meth c s₁ B hml hv
  obtain ⟨rfl, hsz, hP, hK, hD0⟩ := hv
  have hx := B.exec
  have hb := B.bytes
  have hr := B.returns
  have hts := atoms_spec (ws := wsX1_go) B.pre
  have hown : s.vm.findClass RX1 = some m.cls := findClass_of_methodNamed B.named
  have hlocks := B.notSynchronized
  clear B
  subst hsz
  have hD := hD0.self (sz := s.heap.size)
  generalize hAe : va_A [(q_this, .inr (1, [.ref q_now, .ref q_next, .int v_a, .int v_b, .int v_zeroHears, .int v_oneHears, .int v_moved])), (q_next, .inl (ca 1, 81, .inr (.inl v_next)))] s.heap.size = A at hD ⊢
  have hA : ∀ q : Nat, s.heap.size ≤ q → A q := fun q h => by rw [← hAe]; exact Or.inr h
  have hS : va_S A s.heap s.heap [] := va_S.rf
  have hl := lv_entry ([.ref q_this, .int p1, .int p2, .long p3]) (n := 9) (Nat.le_of_ble_eq_true rfl)
  rw [lg_entry_eq]
  generalize (lg_sl ([.ref q_this, .int p1, .int p2, .long p3]) ++ List.replicate (9 - (lg_sl ([.ref q_this, .int p1, .int p2, .long p3])).length) Slot.unset).toArray = ls at hl ⊢
  have hl : lv_has ls 9 [(0, .ref q_this), (1, .int p1), (2, .int p2), (3, .long p3)] := hl
  generalize ([.ref q_this, .int p1, .int p2, .long p3] : List Value).toArray = args at hts ⊢
  generalize hQe : MQ below (kQv D ca (A) [(q_this, .inr (1, [.ref q_now, .ref q_next, .int v_a, .int v_b, .int v_zeroHears, .int v_oneHears, .int o_moved])), (q_next, .inl (ca 1, 81, .inr (.inl o_next)))]) args s 0 0 A = Q
  have k_87 := hts (.constantLong RX1 87 (lN 100)) (by decide +kernel)
  have i_X1 : ∀ w ∈ u_ws RX1 TX1 7, w ∈ wsX1_go := by decide +kernel
  have k_18 := hts (.fieldLink RX1 18 "TradeWords$Crowd" "a" "I") (by decide +kernel)
  have k_22 := hts (.fieldLink RX1 22 "TradeWords$Crowd" "b" "I") (by decide +kernel)
  have k_15 := hts (.fieldLink RX1 15 "TradeWords$Crowd" "next" "[J") (by decide +kernel)
  have k_61 := hts (.fieldLink RX1 61 "TradeWords$Crowd" "moved" "Z") (by decide +kernel)
  rw [D_X1_go] at h
  refine lv_ldc2 hx hb hown k_87 dX1_go_0 ?_
  refine lv_aload_n hx hb dX1_go_3 rfl (lv_at hl 0 rfl) ?_
  refine va_get (D := D) (ci := 1) (v := .int v_a) (C := RX1) (T := TX1) (N := 7) hx hb hts i_X1 hown hK hP 0 rfl rfl 2 (by decide) k_18 (fun _ h9 => h9) rfl dX1_go_4 ?_
  refine lv_i2l hx hb dX1_go_7 rfl ?_
  refine lv_lmul hx hb dX1_go_8 ?_
  refine lv_aload_n hx hb dX1_go_9 rfl (lv_at hl 0 rfl) ?_
  refine va_get (D := D) (ci := 1) (v := .int v_b) (C := RX1) (T := TX1) (N := 7) hx hb hts i_X1 hown hK hP 0 rfl rfl 3 (by decide) k_22 (fun _ h9 => h9) rfl dX1_go_10 ?_
  refine lv_i2l hx hb dX1_go_13 rfl ?_
  refine lv_lmul hx hb dX1_go_14 ?_
  refine lv_nml h (fun x5_1 h => ?_)
  refine lv_lstore (lv' := [(5, .long x5_1), (0, .ref q_this), (1, .int p1), (2, .int p2), (3, .long p3)]) hx hb dX1_go_15 hl (by decide) rfl (fun ls hl => ?_)
  refine lv_lload hx hb dX1_go_17 (lv_at hl 0 rfl) ?_
  refine lv_lconst (v := (lN 0)) hx hb dX1_go_19 (by decide) ?_
  refine W.lcmp hx hb dX1_go_20 ?_
  have hj_32 : ∀ (z0_2 : Int64) (H : Heap) (locs : List Loc) (ls : Array Slot), j_X1_go_32 p1 p2 v_moved v_next z0_2 = some (o_moved, o_next) → va_P D vwCl [(q_this, .inr (1, [.ref q_now, .ref q_next, .int v_a, .int v_b, .int v_zeroHears, .int v_oneHears, .int v_moved])), (q_next, .inl (ca 1, 81, .inr (.inl v_next)))] H → va_D A [(q_this, .inr (1, [.ref q_now, .ref q_next, .int v_a, .int v_b, .int v_zeroHears, .int v_oneHears, .int v_moved])), (q_next, .inl (ca 1, 81, .inr (.inl v_next)))] → va_S A s.heap H locs → lv_has ls 9 [(0, .ref q_this), (1, .int p1), (2, .int p2)] → W p l e (headSpec wsX1_go rm_X1_go).room s m args below meth c H locs 0 0 Q (F0 m 32 ls [.long z0_2]) := by
    intro z0_2 H locs ls h hP hD hS hl
    rw [j_X1_go_32] at h
    refine lv_lstore (lv' := [(7, .long z0_2), (0, .ref q_this), (1, .int p1), (2, .int p2)]) hx hb dX1_go_32 hl (by decide) rfl (fun ls hl => ?_)
    refine lv_lload hx hb dX1_go_34 (lv_at hl 0 rfl) ?_
    refine lv_lconst (v := (lN 0)) hx hb dX1_go_36 (by decide) ?_
    refine W.lcmp hx hb dX1_go_37 ?_
    refine lv_if_le (tgt := 67) hx hb dX1_go_38 (by decide) (fun c_3 => ?_) (fun c_3 => ?_)
    · replace h := ifp_el c_3 h
      cases h
      rw [← hQe]
      exact W.vret hx hb hr (fun t ht hW => ⟨⟨(), rfl, trivial, by rw [ht]; exact hP, va_K.moved hW.alike hK, hD⟩, hS.F ht⟩) hS.2.2 dX1_go_67
    · replace h := ifn_el c_3 h
      refine lv_aload_n hx hb dX1_go_41 rfl (lv_at hl 1 rfl) ?_
      refine va_get (D := D) (ci := 1) (v := .ref q_next) (C := RX1) (T := TX1) (N := 7) hx hb hts i_X1 hown hK hP 0 rfl rfl 1 (by decide) k_15 (fun _ h9 => h9) rfl dX1_go_42 ?_
      refine lv_iload_n hx hb dX1_go_45 rfl (lv_at hl 2 rfl) ?_
      refine lv_lload hx hb dX1_go_46 (lv_at hl 0 rfl) ?_
      refine lv_lneg hx hb dX1_go_48 ?_
      obtain ⟨y_next_4, hg_5, h⟩ := bd1_el h
      refine kx_Sv (As := [.ref q_next, .int p1, .long (-z0_2)]) (rest := []) (wr := [(q_this, .inr (1, [.ref q_now, .ref q_next, .int v_a, .int v_b, .int v_zeroHears, .int v_oneHears, .int v_moved]))]) (w1 := [(q_next, .inl (ca 1, 81, .inr (.inl y_next_4)))]) (wn := [(q_this, .inr (1, [.ref q_now, .ref q_next, .int v_a, .int v_b, .int v_zeroHears, .int v_oneHears, .int v_moved])), (q_next, .inl (ca 1, 81, .inr (.inl y_next_4)))]) ⟨hx, hb, hml, hown, hts⟩ (c_X5_add l D ca H.size q_next 81 p1 (-z0_2) v_next y_next_4 hg_5) (va_cwS 3 hts gX1_go_X5_add rfl rfl rfl (by decide +kernel) ⟨(Nat.le_of_ble_eq_true rfl), (Nat.le_of_ble_eq_true rfl)⟩) hK hP hD hS hA [1] [0] [0, 1] rfl rfl rfl rfl (by decide) rfl rfl rfl hl.1 rfl (Nat.le_of_ble_eq_true rfl) dX1_go_49 ⟨Nat.zero_le _, Nat.zero_le _⟩ (fun H locs hP hD hS => ?_)
      refine lv_aload_n hx hb dX1_go_52 rfl (lv_at hl 1 rfl) ?_
      refine va_get (D := D) (ci := 1) (v := .ref q_next) (C := RX1) (T := TX1) (N := 7) hx hb hts i_X1 hown hK hP 0 rfl rfl 1 (by decide) k_15 (fun _ h9 => h9) rfl dX1_go_53 ?_
      refine lv_iload_n hx hb dX1_go_56 rfl (lv_at hl 3 rfl) ?_
      refine lv_lload hx hb dX1_go_57 (lv_at hl 0 rfl) ?_
      obtain ⟨y_next_6, hg_7, h⟩ := bd1_el h
      refine kx_Sv (As := [.ref q_next, .int p2, .long z0_2]) (rest := []) (wr := [(q_this, .inr (1, [.ref q_now, .ref q_next, .int v_a, .int v_b, .int v_zeroHears, .int v_oneHears, .int v_moved]))]) (w1 := [(q_next, .inl (ca 1, 81, .inr (.inl y_next_6)))]) (wn := [(q_this, .inr (1, [.ref q_now, .ref q_next, .int v_a, .int v_b, .int v_zeroHears, .int v_oneHears, .int v_moved])), (q_next, .inl (ca 1, 81, .inr (.inl y_next_6)))]) ⟨hx, hb, hml, hown, hts⟩ (c_X5_add l D ca H.size q_next 81 p2 z0_2 y_next_4 y_next_6 hg_7) (va_cwS 3 hts gX1_go_X5_add rfl rfl rfl (by decide +kernel) ⟨(Nat.le_of_ble_eq_true rfl), (Nat.le_of_ble_eq_true rfl)⟩) hK hP hD hS hA [1] [0] [0, 1] rfl rfl rfl rfl (by decide) rfl rfl rfl hl.1 rfl (Nat.le_of_ble_eq_true rfl) dX1_go_59 ⟨Nat.zero_le _, Nat.zero_le _⟩ (fun H locs hP hD hS => ?_)
      refine lv_aload_n hx hb dX1_go_62 rfl (lv_at hl 1 rfl) ?_
      refine lv_iconst (v := (nI 1)) hx hb dX1_go_63 (by decide) ?_
      refine va_put (D := D) (ci := 1) (v := .int (nI 1)) (ty := .boolean) (C := RX1) (T := TX1) (N := 7) hx hb hts i_X1 tyX1 tyX1_ok nmX1 hown hK hP hD hS 0 rfl rfl 6 (by decide) k_61 (fun _ h9 => h9) rfl (by decide +kernel) rfl rfl (Nat.le_of_ble_eq_true rfl) dX1_go_64 (fun H locs hP hD hS => ?_)
      have hP : va_P D vwCl [(q_this, .inr (1, [.ref q_now, .ref q_next, .int v_a, .int v_b, .int v_zeroHears, .int v_oneHears, .int (nI 1)])), (q_next, .inl (ca 1, 81, .inr (.inl y_next_6)))] H := hP
      have hD : va_D A [(q_this, .inr (1, [.ref q_now, .ref q_next, .int v_a, .int v_b, .int v_zeroHears, .int v_oneHears, .int (nI 1)])), (q_next, .inl (ca 1, 81, .inr (.inl y_next_6)))] := hD
      cases h
      rw [← hQe]
      exact W.vret hx hb hr (fun t ht hW => ⟨⟨(), rfl, trivial, by rw [ht]; exact hP, va_K.moved hW.alike hK, hD⟩, hS.F ht⟩) hS.2.2 dX1_go_67
  refine lv_if_le (tgt := 31) hx hb dX1_go_21 (by decide) (fun c_8 => ?_) (fun c_8 => ?_)
  · replace h := ifp_el c_8 h
    refine lv_lconst (v := (lN 0)) hx hb dX1_go_31 (by decide) ?_
    exact hj_32 _ _ _ _ h hP hD hS (lv_sub hl [1, 2, 3] rfl)
  · replace h := ifn_el c_8 h
    refine lv_lload_n hx hb dX1_go_24 rfl (lv_at hl 4 rfl) ?_
    refine lv_lload hx hb dX1_go_25 (lv_at hl 0 rfl) ?_
    obtain ⟨hn_9, h⟩ := dzl_el h
    refine lv_ldiv hx hb dX1_go_27 hn_9 ?_
    refine lv_goto (tgt := 32) hx hb dX1_go_28 (by decide) ?_
    exact hj_32 _ _ _ _ h hP hD hS (lv_sub hl [1, 2, 3] rfl)
def j_X1_part_91 (p1 : Int32) (p2 : Int32) (v_a : Int32) (v_b : Int32) (v_zeroHears : Int32) (v_oneHears : Int32) (r_1 : Int32) (x8_6 : Int64) (y_moved_7 : Int32) (y_next_8 : Nat → Int64) : Option (Int32 × (Nat → Int64)) := (if (lg_cmp x8_6 (lN 0)) ≤ 0 then some (y_moved_7, y_next_8) else bd1 (D_X1_place (p1 - (nI 1)) p2) (fun r_10 => bd2 (D_X1_go r_1 r_10 (x8_6 * v_zeroHears.toInt64) v_a v_b y_moved_7 y_next_8) (fun y_moved_12 y_next_13 => bd1 (D_X1_place p1 (p2 - (nI 1))) (fun r_15 => bd2 (D_X1_go r_1 r_15 (x8_6 * v_oneHears.toInt64) v_a v_b y_moved_12 y_next_13) (fun y_moved_17 y_next_18 => some (y_moved_17, y_next_18))))))
def D_X1_part (p1 : Int32) (p2 : Int32) (v_a : Int32) (v_b : Int32) (v_zeroHears : Int32) (v_oneHears : Int32) (v_moved : Int32) (v_now : Nat → Int64) (v_next : Nat → Int64) : Option (Int32 × (Nat → Int64)) := bd1 (D_X1_place p1 p2) (fun r_1 => bd1 (D_X5_at_ 81 r_1 v_now) (fun r_3 => nm (r_3 * (((v_a - p1) * (v_b - p2)).toInt64)) (fun x6_5 => nm (r_3 * ((p1 * p2).toInt64)) (fun x8_6 => (if (lg_cmp x6_5 (lN 0)) ≤ 0 then j_X1_part_91 p1 p2 v_a v_b v_zeroHears v_oneHears r_1 x8_6 v_moved v_next else bd1 (D_X1_place (p1 + (nI 1)) p2) (fun r_21 => bd2 (D_X1_go r_1 r_21 (x6_5 * v_zeroHears.toInt64) v_a v_b v_moved v_next) (fun y_moved_23 y_next_24 => bd1 (D_X1_place p1 (p2 + (nI 1))) (fun r_26 => bd2 (D_X1_go r_1 r_26 (x6_5 * v_oneHears.toInt64) v_a v_b y_moved_23 y_next_24) (fun y_moved_28 y_next_29 => j_X1_part_91 p1 p2 v_a v_b v_zeroHears v_oneHears r_1 x8_6 y_moved_28 y_next_29)))))))))
abbrev rm_X1_part : Room := { frames := 2, cells := 0, slots := 0, locals := 51 }
set_option maxHeartbeats 4000000 in
set_option maxRecDepth 100000 in
theorem c_X1_part (l : Launch) (D : va_G) (ca : Nat → ClassId) (sz : Nat) (q_this q_now q_next : Nat) (p1 : Int32) (p2 : Int32) (v_a : Int32) (v_b : Int32) (v_zeroHears : Int32) (v_oneHears : Int32) (v_moved : Int32) (v_now : Nat → Int64) (v_next : Nat → Int64) (o_moved : Int32) (o_next : Nat → Int64) (h : D_X1_part p1 p2 v_a v_b v_zeroHears v_oneHears v_moved v_now v_next = some (o_moved, o_next)) : Met l yX1_part wsX1_part rm_X1_part (va_Pc [.ref q_this, .int p1, .int p2] (kPre D ca [(q_this, .inr (1, [.ref q_now, .ref q_next, .int v_a, .int v_b, .int v_zeroHears, .int v_oneHears, .int v_moved])), (q_now, .inl (ca 1, 81, .inr (.inl v_now))), (q_next, .inl (ca 1, 81, .inr (.inl v_next)))] sz)) (kQv D ca (va_A [(q_this, .inr (1, [.ref q_now, .ref q_next, .int v_a, .int v_b, .int v_zeroHears, .int v_oneHears, .int v_moved])), (q_now, .inl (ca 1, 81, .inr (.inl v_now))), (q_next, .inl (ca 1, 81, .inr (.inl v_next)))] sz) [(q_this, .inr (1, [.ref q_now, .ref q_next, .int v_a, .int v_b, .int v_zeroHears, .int v_oneHears, .int o_moved])), (q_now, .inl (ca 1, 81, .inr (.inl v_now))), (q_next, .inl (ca 1, 81, .inr (.inl o_next)))]) 0 0 (va_A [(q_this, .inr (1, [.ref q_now, .ref q_next, .int v_a, .int v_b, .int v_zeroHears, .int v_oneHears, .int v_moved])), (q_now, .inl (ca 1, 81, .inr (.inl v_now))), (q_next, .inl (ca 1, 81, .inr (.inl v_next)))] sz) := by
  refine Met.ofW (cc := cX1_part) (maxL := 10) (ret := none) (by decide +kernel) rfl ?_
  intro p e s m args below meth c s₁ B hml hv
  obtain ⟨rfl, hsz, hP, hK, hD0⟩ := hv
  have hx := B.exec
  have hb := B.bytes
  have hr := B.returns
  have hts := atoms_spec (ws := wsX1_part) B.pre
  have hown : s.vm.findClass RX1 = some m.cls := findClass_of_methodNamed B.named
  have hlocks := B.notSynchronized
  clear B
  subst hsz
  have hD := hD0.self (sz := s.heap.size)
  generalize hAe : va_A [(q_this, .inr (1, [.ref q_now, .ref q_next, .int v_a, .int v_b, .int v_zeroHears, .int v_oneHears, .int v_moved])), (q_now, .inl (ca 1, 81, .inr (.inl v_now))), (q_next, .inl (ca 1, 81, .inr (.inl v_next)))] s.heap.size = A at hD ⊢
  have hA : ∀ q : Nat, s.heap.size ≤ q → A q := fun q h => by rw [← hAe]; exact Or.inr h
  have hS : va_S A s.heap s.heap [] := va_S.rf
  have hl := lv_entry ([.ref q_this, .int p1, .int p2]) (n := 10) (Nat.le_of_ble_eq_true rfl)
  rw [lg_entry_eq]
  generalize (lg_sl ([.ref q_this, .int p1, .int p2]) ++ List.replicate (10 - (lg_sl ([.ref q_this, .int p1, .int p2])).length) Slot.unset).toArray = ls at hl ⊢
  have hl : lv_has ls 10 [(0, .ref q_this), (1, .int p1), (2, .int p2)] := hl
  generalize ([.ref q_this, .int p1, .int p2] : List Value).toArray = args at hts ⊢
  generalize hQe : MQ below (kQv D ca (A) [(q_this, .inr (1, [.ref q_now, .ref q_next, .int v_a, .int v_b, .int v_zeroHears, .int v_oneHears, .int o_moved])), (q_now, .inl (ca 1, 81, .inr (.inl v_now))), (q_next, .inl (ca 1, 81, .inr (.inl o_next)))]) args s 0 0 A = Q
  have i_X1 : ∀ w ∈ u_ws RX1 TX1 7, w ∈ wsX1_part := by decide +kernel
  have k_11 := hts (.fieldLink RX1 11 "TradeWords$Crowd" "now" "[J") (by decide +kernel)
  have k_18 := hts (.fieldLink RX1 18 "TradeWords$Crowd" "a" "I") (by decide +kernel)
  have k_22 := hts (.fieldLink RX1 22 "TradeWords$Crowd" "b" "I") (by decide +kernel)
  have k_34 := hts (.fieldLink RX1 34 "TradeWords$Crowd" "zeroHears" "I") (by decide +kernel)
  have k_37 := hts (.fieldLink RX1 37 "TradeWords$Crowd" "oneHears" "I") (by decide +kernel)
  rw [D_X1_part] at h
  refine lv_iload_n hx hb dX1_part_0 rfl (lv_at hl 1 rfl) ?_
  refine lv_iload_n hx hb dX1_part_1 rfl (lv_at hl 2 rfl) ?_
  obtain ⟨r_1, hg_2, h⟩ := bd1_el h
  refine kx_Si (As := [.int p1, .int p2]) (rest := []) (wr := [(q_this, .inr (1, [.ref q_now, .ref q_next, .int v_a, .int v_b, .int v_zeroHears, .int v_oneHears, .int v_moved])), (q_now, .inl (ca 1, 81, .inr (.inl v_now))), (q_next, .inl (ca 1, 81, .inr (.inl v_next)))]) (w1 := []) (wn := [(q_this, .inr (1, [.ref q_now, .ref q_next, .int v_a, .int v_b, .int v_zeroHears, .int v_oneHears, .int v_moved])), (q_now, .inl (ca 1, 81, .inr (.inl v_now))), (q_next, .inl (ca 1, 81, .inr (.inl v_next)))]) ⟨hx, hb, hml, hown, hts⟩ (c_X1_place l D ca s.heap.size p1 p2 r_1 hg_2) (va_cwS 2 hts gX1_part_X1_place rfl rfl rfl (by decide +kernel) ⟨(Nat.le_of_ble_eq_true rfl), (Nat.le_of_ble_eq_true rfl)⟩) hK hP hD hS hA [] [0, 1, 2] [0, 1, 2] rfl rfl rfl rfl (by decide) rfl rfl rfl hl.1 rfl (Nat.le_of_ble_eq_true rfl) dX1_part_2 ⟨Nat.zero_le _, Nat.zero_le _⟩ (fun H locs hP hD hS => ?_)
  refine lv_istore_n (lv' := [(3, .int r_1), (0, .ref q_this), (1, .int p1), (2, .int p2)]) hx hb dX1_part_5 rfl hl (by decide) rfl (fun ls hl => ?_)
  refine lv_aload_n hx hb dX1_part_6 rfl (lv_at hl 1 rfl) ?_
  refine va_get (D := D) (ci := 1) (v := .ref q_now) (C := RX1) (T := TX1) (N := 7) hx hb hts i_X1 hown hK hP 0 rfl rfl 0 (by decide) k_11 (fun _ h9 => h9) rfl dX1_part_7 ?_
  refine lv_iload_n hx hb dX1_part_10 rfl (lv_at hl 0 rfl) ?_
  obtain ⟨r_3, hg_4, h⟩ := bd1_el h
  refine kx_Sl (As := [.ref q_now, .int r_1]) (rest := []) (wr := [(q_this, .inr (1, [.ref q_now, .ref q_next, .int v_a, .int v_b, .int v_zeroHears, .int v_oneHears, .int v_moved])), (q_next, .inl (ca 1, 81, .inr (.inl v_next)))]) (w1 := [(q_now, .inl (ca 1, 81, .inr (.inl v_now)))]) (wn := [(q_this, .inr (1, [.ref q_now, .ref q_next, .int v_a, .int v_b, .int v_zeroHears, .int v_oneHears, .int v_moved])), (q_now, .inl (ca 1, 81, .inr (.inl v_now))), (q_next, .inl (ca 1, 81, .inr (.inl v_next)))]) ⟨hx, hb, hml, hown, hts⟩ (c_X5_at_ l D ca H.size q_now 81 r_1 v_now r_3 hg_4) (va_cwS 2 hts gX1_part_X5_at_ rfl rfl rfl (by decide +kernel) ⟨(Nat.le_of_ble_eq_true rfl), (Nat.le_of_ble_eq_true rfl)⟩) hK hP hD hS hA [1] [0, 2] [0, 2, 1] rfl rfl rfl rfl (by decide) rfl rfl rfl hl.1 rfl (Nat.le_of_ble_eq_true rfl) dX1_part_11 ⟨Nat.zero_le _, Nat.zero_le _⟩ (fun H locs hP hD hS => ?_)
  refine lv_lstore (lv' := [(4, .long r_3), (3, .int r_1), (0, .ref q_this), (1, .int p1), (2, .int p2)]) hx hb dX1_part_14 hl (by decide) rfl (fun ls hl => ?_)
  refine lv_lload hx hb dX1_part_16 (lv_at hl 0 rfl) ?_
  refine lv_aload_n hx hb dX1_part_18 rfl (lv_at hl 2 rfl) ?_
  refine va_get (D := D) (ci := 1) (v := .int v_a) (C := RX1) (T := TX1) (N := 7) hx hb hts i_X1 hown hK hP 0 rfl rfl 2 (by decide) k_18 (fun _ h9 => h9) rfl dX1_part_19 ?_
  refine lv_iload_n hx hb dX1_part_22 rfl (lv_at hl 3 rfl) ?_
  refine lv_isub hx hb dX1_part_23 ?_
  refine lv_aload_n hx hb dX1_part_24 rfl (lv_at hl 2 rfl) ?_
  refine va_get (D := D) (ci := 1) (v := .int v_b) (C := RX1) (T := TX1) (N := 7) hx hb hts i_X1 hown hK hP 0 rfl rfl 3 (by decide) k_22 (fun _ h9 => h9) rfl dX1_part_25 ?_
  refine lv_iload_n hx hb dX1_part_28 rfl (lv_at hl 4 rfl) ?_
  refine lv_isub hx hb dX1_part_29 ?_
  refine lv_imul hx hb dX1_part_30 ?_
  refine lv_i2l hx hb dX1_part_31 rfl ?_
  refine lv_lmul hx hb dX1_part_32 ?_
  refine lv_nml h (fun x6_5 h => ?_)
  refine lv_lstore (lv' := [(6, .long x6_5), (4, .long r_3), (3, .int r_1), (0, .ref q_this), (1, .int p1), (2, .int p2)]) hx hb dX1_part_33 hl (by decide) rfl (fun ls hl => ?_)
  refine lv_lload hx hb dX1_part_35 (lv_at hl 1 rfl) ?_
  refine lv_iload_n hx hb dX1_part_37 rfl (lv_at hl 4 rfl) ?_
  refine lv_iload_n hx hb dX1_part_38 rfl (lv_at hl 5 rfl) ?_
  refine lv_imul hx hb dX1_part_39 ?_
  refine lv_i2l hx hb dX1_part_40 rfl ?_
  refine lv_lmul hx hb dX1_part_41 ?_
  refine lv_nml h (fun x8_6 h => ?_)
  refine lv_lstore (lv' := [(8, .long x8_6), (6, .long x6_5), (4, .long r_3), (3, .int r_1), (0, .ref q_this), (1, .int p1), (2, .int p2)]) hx hb dX1_part_42 hl (by decide) rfl (fun ls hl => ?_)
  refine lv_lload hx hb dX1_part_44 (lv_at hl 1 rfl) ?_
  refine lv_lconst (v := (lN 0)) hx hb dX1_part_46 (by decide) ?_
  refine W.lcmp hx hb dX1_part_47 ?_
  have hj_91 : ∀ (y_moved_7 : Int32) (y_next_8 : Nat → Int64) (H : Heap) (locs : List Loc) (ls : Array Slot), j_X1_part_91 p1 p2 v_a v_b v_zeroHears v_oneHears r_1 x8_6 y_moved_7 y_next_8 = some (o_moved, o_next) → va_P D vwCl [(q_this, .inr (1, [.ref q_now, .ref q_next, .int v_a, .int v_b, .int v_zeroHears, .int v_oneHears, .int y_moved_7])), (q_now, .inl (ca 1, 81, .inr (.inl v_now))), (q_next, .inl (ca 1, 81, .inr (.inl y_next_8)))] H → va_D A [(q_this, .inr (1, [.ref q_now, .ref q_next, .int v_a, .int v_b, .int v_zeroHears, .int v_oneHears, .int y_moved_7])), (q_now, .inl (ca 1, 81, .inr (.inl v_now))), (q_next, .inl (ca 1, 81, .inr (.inl y_next_8)))] → va_S A s.heap H locs → lv_has ls 10 [(0, .ref q_this), (1, .int p1), (2, .int p2), (3, .int r_1), (8, .long x8_6)] → W p l e (headSpec wsX1_part rm_X1_part).room s m args below meth c H locs 0 0 Q (F0 m 91 ls []) := by
    intro y_moved_7 y_next_8 H locs ls h hP hD hS hl
    rw [j_X1_part_91] at h
    refine lv_lload hx hb dX1_part_91 (lv_at hl 4 rfl) ?_
    refine lv_lconst (v := (lN 0)) hx hb dX1_part_93 (by decide) ?_
    refine W.lcmp hx hb dX1_part_94 ?_
    refine lv_if_le (tgt := 138) hx hb dX1_part_95 (by decide) (fun c_9 => ?_) (fun c_9 => ?_)
    · replace h := ifp_el c_9 h
      cases h
      rw [← hQe]
      exact W.vret hx hb hr (fun t ht hW => ⟨⟨(), rfl, trivial, by rw [ht]; exact hP, va_K.moved hW.alike hK, hD⟩, hS.F ht⟩) hS.2.2 dX1_part_138
    · replace h := ifn_el c_9 h
      refine lv_aload_n hx hb dX1_part_98 rfl (lv_at hl 0 rfl) ?_
      refine lv_iload_n hx hb dX1_part_99 rfl (lv_at hl 3 rfl) ?_
      refine lv_iload_n hx hb dX1_part_100 rfl (lv_at hl 1 rfl) ?_
      refine lv_iconst (v := (nI 1)) hx hb dX1_part_101 (by decide) ?_
      refine lv_isub hx hb dX1_part_102 ?_
      refine lv_iload_n hx hb dX1_part_103 rfl (lv_at hl 2 rfl) ?_
      obtain ⟨r_10, hg_11, h⟩ := bd1_el h
      refine kx_Si (As := [.int (p1 - (nI 1)), .int p2]) (rest := [.int r_1, .ref q_this]) (wr := [(q_this, .inr (1, [.ref q_now, .ref q_next, .int v_a, .int v_b, .int v_zeroHears, .int v_oneHears, .int y_moved_7])), (q_now, .inl (ca 1, 81, .inr (.inl v_now))), (q_next, .inl (ca 1, 81, .inr (.inl y_next_8)))]) (w1 := []) (wn := [(q_this, .inr (1, [.ref q_now, .ref q_next, .int v_a, .int v_b, .int v_zeroHears, .int v_oneHears, .int y_moved_7])), (q_now, .inl (ca 1, 81, .inr (.inl v_now))), (q_next, .inl (ca 1, 81, .inr (.inl y_next_8)))]) ⟨hx, hb, hml, hown, hts⟩ (c_X1_place l D ca H.size (p1 - (nI 1)) p2 r_10 hg_11) (va_cwS 2 hts gX1_part_X1_place rfl rfl rfl (by decide +kernel) ⟨(Nat.le_of_ble_eq_true rfl), (Nat.le_of_ble_eq_true rfl)⟩) hK hP hD hS hA [] [0, 1, 2] [0, 1, 2] rfl rfl rfl rfl (by decide) rfl rfl rfl hl.1 rfl (Nat.le_of_ble_eq_true rfl) dX1_part_104 ⟨Nat.zero_le _, Nat.zero_le _⟩ (fun H locs hP hD hS => ?_)
      refine lv_lload hx hb dX1_part_107 (lv_at hl 4 rfl) ?_
      refine lv_aload_n hx hb dX1_part_109 rfl (lv_at hl 0 rfl) ?_
      refine va_get (D := D) (ci := 1) (v := .int v_zeroHears) (C := RX1) (T := TX1) (N := 7) hx hb hts i_X1 hown hK hP 0 rfl rfl 4 (by decide) k_34 (fun _ h9 => h9) rfl dX1_part_110 ?_
      refine lv_i2l hx hb dX1_part_113 rfl ?_
      refine lv_lmul hx hb dX1_part_114 ?_
      obtain ⟨y_moved_12, y_next_13, hg_14, h⟩ := bd2_el h
      refine kx_Vv (As := [.int r_1, .int r_10, .long (x8_6 * v_zeroHears.toInt64)]) (rest := []) (wr := [(q_now, .inl (ca 1, 81, .inr (.inl v_now)))]) (w1 := [(q_this, .inr (1, [.ref q_now, .ref q_next, .int v_a, .int v_b, .int v_zeroHears, .int v_oneHears, .int y_moved_12])), (q_next, .inl (ca 1, 81, .inr (.inl y_next_13)))]) (wn := [(q_this, .inr (1, [.ref q_now, .ref q_next, .int v_a, .int v_b, .int v_zeroHears, .int v_oneHears, .int y_moved_12])), (q_now, .inl (ca 1, 81, .inr (.inl v_now))), (q_next, .inl (ca 1, 81, .inr (.inl y_next_13)))]) ⟨hx, hb, hml, hown, hts⟩ (c_X1_go l D ca H.size q_this q_now q_next r_1 r_10 (x8_6 * v_zeroHears.toInt64) v_a v_b v_zeroHears v_oneHears y_moved_7 y_next_8 y_moved_12 y_next_13 hg_14) (cwV 3 hts gX1_part_X1_go rfl rfl rfl (by decide +kernel) ⟨(Nat.le_of_ble_eq_true rfl), (Nat.le_of_ble_eq_true rfl)⟩) hK hP hD hS hA (ci := 1) (q0 := 0) rfl rfl [0, 2] [1] [1, 0, 2] rfl rfl rfl rfl (by decide) rfl rfl rfl hl.1 rfl (Nat.le_of_ble_eq_true rfl) dX1_part_115 ⟨Nat.zero_le _, Nat.zero_le _⟩ (fun H locs hP hD hS => ?_)
      refine lv_aload_n hx hb dX1_part_118 rfl (lv_at hl 0 rfl) ?_
      refine lv_iload_n hx hb dX1_part_119 rfl (lv_at hl 3 rfl) ?_
      refine lv_iload_n hx hb dX1_part_120 rfl (lv_at hl 1 rfl) ?_
      refine lv_iload_n hx hb dX1_part_121 rfl (lv_at hl 2 rfl) ?_
      refine lv_iconst (v := (nI 1)) hx hb dX1_part_122 (by decide) ?_
      refine lv_isub hx hb dX1_part_123 ?_
      obtain ⟨r_15, hg_16, h⟩ := bd1_el h
      refine kx_Si (As := [.int p1, .int (p2 - (nI 1))]) (rest := [.int r_1, .ref q_this]) (wr := [(q_this, .inr (1, [.ref q_now, .ref q_next, .int v_a, .int v_b, .int v_zeroHears, .int v_oneHears, .int y_moved_12])), (q_now, .inl (ca 1, 81, .inr (.inl v_now))), (q_next, .inl (ca 1, 81, .inr (.inl y_next_13)))]) (w1 := []) (wn := [(q_this, .inr (1, [.ref q_now, .ref q_next, .int v_a, .int v_b, .int v_zeroHears, .int v_oneHears, .int y_moved_12])), (q_now, .inl (ca 1, 81, .inr (.inl v_now))), (q_next, .inl (ca 1, 81, .inr (.inl y_next_13)))]) ⟨hx, hb, hml, hown, hts⟩ (c_X1_place l D ca H.size p1 (p2 - (nI 1)) r_15 hg_16) (va_cwS 2 hts gX1_part_X1_place rfl rfl rfl (by decide +kernel) ⟨(Nat.le_of_ble_eq_true rfl), (Nat.le_of_ble_eq_true rfl)⟩) hK hP hD hS hA [] [0, 1, 2] [0, 1, 2] rfl rfl rfl rfl (by decide) rfl rfl rfl hl.1 rfl (Nat.le_of_ble_eq_true rfl) dX1_part_124 ⟨Nat.zero_le _, Nat.zero_le _⟩ (fun H locs hP hD hS => ?_)
      refine lv_lload hx hb dX1_part_127 (lv_at hl 4 rfl) ?_
      refine lv_aload_n hx hb dX1_part_129 rfl (lv_at hl 0 rfl) ?_
      refine va_get (D := D) (ci := 1) (v := .int v_oneHears) (C := RX1) (T := TX1) (N := 7) hx hb hts i_X1 hown hK hP 0 rfl rfl 5 (by decide) k_37 (fun _ h9 => h9) rfl dX1_part_130 ?_
      refine lv_i2l hx hb dX1_part_133 rfl ?_
      refine lv_lmul hx hb dX1_part_134 ?_
      obtain ⟨y_moved_17, y_next_18, hg_19, h⟩ := bd2_el h
      refine kx_Vv (As := [.int r_1, .int r_15, .long (x8_6 * v_oneHears.toInt64)]) (rest := []) (wr := [(q_now, .inl (ca 1, 81, .inr (.inl v_now)))]) (w1 := [(q_this, .inr (1, [.ref q_now, .ref q_next, .int v_a, .int v_b, .int v_zeroHears, .int v_oneHears, .int y_moved_17])), (q_next, .inl (ca 1, 81, .inr (.inl y_next_18)))]) (wn := [(q_this, .inr (1, [.ref q_now, .ref q_next, .int v_a, .int v_b, .int v_zeroHears, .int v_oneHears, .int y_moved_17])), (q_now, .inl (ca 1, 81, .inr (.inl v_now))), (q_next, .inl (ca 1, 81, .inr (.inl y_next_18)))]) ⟨hx, hb, hml, hown, hts⟩ (c_X1_go l D ca H.size q_this q_now q_next r_1 r_15 (x8_6 * v_oneHears.toInt64) v_a v_b v_zeroHears v_oneHears y_moved_12 y_next_13 y_moved_17 y_next_18 hg_19) (cwV 3 hts gX1_part_X1_go rfl rfl rfl (by decide +kernel) ⟨(Nat.le_of_ble_eq_true rfl), (Nat.le_of_ble_eq_true rfl)⟩) hK hP hD hS hA (ci := 1) (q0 := 0) rfl rfl [0, 2] [1] [1, 0, 2] rfl rfl rfl rfl (by decide) rfl rfl rfl hl.1 rfl (Nat.le_of_ble_eq_true rfl) dX1_part_135 ⟨Nat.zero_le _, Nat.zero_le _⟩ (fun H locs hP hD hS => ?_)
      cases h
      rw [← hQe]
      exact W.vret hx hb hr (fun t ht hW => ⟨⟨(), rfl, trivial, by rw [ht]; exact hP, va_K.moved hW.alike hK, hD⟩, hS.F ht⟩) hS.2.2 dX1_part_138
  refine lv_if_le (tgt := 91) hx hb dX1_part_48 (by decide) (fun c_20 => ?_) (fun c_20 => ?_)
  · replace h := ifp_el c_20 h
    exact hj_91 _ _ _ _ _ h hP hD hS (lv_sub hl [4, 5, 6, 3, 0] rfl)
  · replace h := ifn_el c_20 h
    refine lv_aload_n hx hb dX1_part_51 rfl (lv_at hl 4 rfl) ?_
    refine lv_iload_n hx hb dX1_part_52 rfl (lv_at hl 3 rfl) ?_
    refine lv_iload_n hx hb dX1_part_53 rfl (lv_at hl 5 rfl) ?_
    refine lv_iconst (v := (nI 1)) hx hb dX1_part_54 (by decide) ?_
    refine lv_iadd hx hb dX1_part_55 ?_
    refine lv_iload_n hx hb dX1_part_56 rfl (lv_at hl 6 rfl) ?_
    obtain ⟨r_21, hg_22, h⟩ := bd1_el h
    refine kx_Si (As := [.int (p1 + (nI 1)), .int p2]) (rest := [.int r_1, .ref q_this]) (wr := [(q_this, .inr (1, [.ref q_now, .ref q_next, .int v_a, .int v_b, .int v_zeroHears, .int v_oneHears, .int v_moved])), (q_now, .inl (ca 1, 81, .inr (.inl v_now))), (q_next, .inl (ca 1, 81, .inr (.inl v_next)))]) (w1 := []) (wn := [(q_this, .inr (1, [.ref q_now, .ref q_next, .int v_a, .int v_b, .int v_zeroHears, .int v_oneHears, .int v_moved])), (q_now, .inl (ca 1, 81, .inr (.inl v_now))), (q_next, .inl (ca 1, 81, .inr (.inl v_next)))]) ⟨hx, hb, hml, hown, hts⟩ (c_X1_place l D ca H.size (p1 + (nI 1)) p2 r_21 hg_22) (va_cwS 2 hts gX1_part_X1_place rfl rfl rfl (by decide +kernel) ⟨(Nat.le_of_ble_eq_true rfl), (Nat.le_of_ble_eq_true rfl)⟩) hK hP hD hS hA [] [0, 1, 2] [0, 1, 2] rfl rfl rfl rfl (by decide) rfl rfl rfl hl.1 rfl (Nat.le_of_ble_eq_true rfl) dX1_part_57 ⟨Nat.zero_le _, Nat.zero_le _⟩ (fun H locs hP hD hS => ?_)
    refine lv_lload hx hb dX1_part_60 (lv_at hl 1 rfl) ?_
    refine lv_aload_n hx hb dX1_part_62 rfl (lv_at hl 4 rfl) ?_
    refine va_get (D := D) (ci := 1) (v := .int v_zeroHears) (C := RX1) (T := TX1) (N := 7) hx hb hts i_X1 hown hK hP 0 rfl rfl 4 (by decide) k_34 (fun _ h9 => h9) rfl dX1_part_63 ?_
    refine lv_i2l hx hb dX1_part_66 rfl ?_
    refine lv_lmul hx hb dX1_part_67 ?_
    obtain ⟨y_moved_23, y_next_24, hg_25, h⟩ := bd2_el h
    refine kx_Vv (As := [.int r_1, .int r_21, .long (x6_5 * v_zeroHears.toInt64)]) (rest := []) (wr := [(q_now, .inl (ca 1, 81, .inr (.inl v_now)))]) (w1 := [(q_this, .inr (1, [.ref q_now, .ref q_next, .int v_a, .int v_b, .int v_zeroHears, .int v_oneHears, .int y_moved_23])), (q_next, .inl (ca 1, 81, .inr (.inl y_next_24)))]) (wn := [(q_this, .inr (1, [.ref q_now, .ref q_next, .int v_a, .int v_b, .int v_zeroHears, .int v_oneHears, .int y_moved_23])), (q_now, .inl (ca 1, 81, .inr (.inl v_now))), (q_next, .inl (ca 1, 81, .inr (.inl y_next_24)))]) ⟨hx, hb, hml, hown, hts⟩ (c_X1_go l D ca H.size q_this q_now q_next r_1 r_21 (x6_5 * v_zeroHears.toInt64) v_a v_b v_zeroHears v_oneHears v_moved v_next y_moved_23 y_next_24 hg_25) (cwV 3 hts gX1_part_X1_go rfl rfl rfl (by decide +kernel) ⟨(Nat.le_of_ble_eq_true rfl), (Nat.le_of_ble_eq_true rfl)⟩) hK hP hD hS hA (ci := 1) (q0 := 0) rfl rfl [0, 2] [1] [1, 0, 2] rfl rfl rfl rfl (by decide) rfl rfl rfl hl.1 rfl (Nat.le_of_ble_eq_true rfl) dX1_part_68 ⟨Nat.zero_le _, Nat.zero_le _⟩ (fun H locs hP hD hS => ?_)
    refine lv_aload_n hx hb dX1_part_71 rfl (lv_at hl 4 rfl) ?_
    refine lv_iload_n hx hb dX1_part_72 rfl (lv_at hl 3 rfl) ?_
    refine lv_iload_n hx hb dX1_part_73 rfl (lv_at hl 5 rfl) ?_
    refine lv_iload_n hx hb dX1_part_74 rfl (lv_at hl 6 rfl) ?_
    refine lv_iconst (v := (nI 1)) hx hb dX1_part_75 (by decide) ?_
    refine lv_iadd hx hb dX1_part_76 ?_
    obtain ⟨r_26, hg_27, h⟩ := bd1_el h
    refine kx_Si (As := [.int p1, .int (p2 + (nI 1))]) (rest := [.int r_1, .ref q_this]) (wr := [(q_this, .inr (1, [.ref q_now, .ref q_next, .int v_a, .int v_b, .int v_zeroHears, .int v_oneHears, .int y_moved_23])), (q_now, .inl (ca 1, 81, .inr (.inl v_now))), (q_next, .inl (ca 1, 81, .inr (.inl y_next_24)))]) (w1 := []) (wn := [(q_this, .inr (1, [.ref q_now, .ref q_next, .int v_a, .int v_b, .int v_zeroHears, .int v_oneHears, .int y_moved_23])), (q_now, .inl (ca 1, 81, .inr (.inl v_now))), (q_next, .inl (ca 1, 81, .inr (.inl y_next_24)))]) ⟨hx, hb, hml, hown, hts⟩ (c_X1_place l D ca H.size p1 (p2 + (nI 1)) r_26 hg_27) (va_cwS 2 hts gX1_part_X1_place rfl rfl rfl (by decide +kernel) ⟨(Nat.le_of_ble_eq_true rfl), (Nat.le_of_ble_eq_true rfl)⟩) hK hP hD hS hA [] [0, 1, 2] [0, 1, 2] rfl rfl rfl rfl (by decide) rfl rfl rfl hl.1 rfl (Nat.le_of_ble_eq_true rfl) dX1_part_77 ⟨Nat.zero_le _, Nat.zero_le _⟩ (fun H locs hP hD hS => ?_)
    refine lv_lload hx hb dX1_part_80 (lv_at hl 1 rfl) ?_
    refine lv_aload_n hx hb dX1_part_82 rfl (lv_at hl 4 rfl) ?_
    refine va_get (D := D) (ci := 1) (v := .int v_oneHears) (C := RX1) (T := TX1) (N := 7) hx hb hts i_X1 hown hK hP 0 rfl rfl 5 (by decide) k_37 (fun _ h9 => h9) rfl dX1_part_83 ?_
    refine lv_i2l hx hb dX1_part_86 rfl ?_
    refine lv_lmul hx hb dX1_part_87 ?_
    obtain ⟨y_moved_28, y_next_29, hg_30, h⟩ := bd2_el h
    refine kx_Vv (As := [.int r_1, .int r_26, .long (x6_5 * v_oneHears.toInt64)]) (rest := []) (wr := [(q_now, .inl (ca 1, 81, .inr (.inl v_now)))]) (w1 := [(q_this, .inr (1, [.ref q_now, .ref q_next, .int v_a, .int v_b, .int v_zeroHears, .int v_oneHears, .int y_moved_28])), (q_next, .inl (ca 1, 81, .inr (.inl y_next_29)))]) (wn := [(q_this, .inr (1, [.ref q_now, .ref q_next, .int v_a, .int v_b, .int v_zeroHears, .int v_oneHears, .int y_moved_28])), (q_now, .inl (ca 1, 81, .inr (.inl v_now))), (q_next, .inl (ca 1, 81, .inr (.inl y_next_29)))]) ⟨hx, hb, hml, hown, hts⟩ (c_X1_go l D ca H.size q_this q_now q_next r_1 r_26 (x6_5 * v_oneHears.toInt64) v_a v_b v_zeroHears v_oneHears y_moved_23 y_next_24 y_moved_28 y_next_29 hg_30) (cwV 3 hts gX1_part_X1_go rfl rfl rfl (by decide +kernel) ⟨(Nat.le_of_ble_eq_true rfl), (Nat.le_of_ble_eq_true rfl)⟩) hK hP hD hS hA (ci := 1) (q0 := 0) rfl rfl [0, 2] [1] [1, 0, 2] rfl rfl rfl rfl (by decide) rfl rfl rfl hl.1 rfl (Nat.le_of_ble_eq_true rfl) dX1_part_88 ⟨Nat.zero_le _, Nat.zero_le _⟩ (fun H locs hP hD hS => ?_)
    exact hj_91 _ _ _ _ _ h hP hD hS (lv_sub hl [4, 5, 6, 3, 0] rfl)
def b_X1_meetOnce_35 (v_a : Int32) (v_b : Int32) (v_zeroHears : Int32) (v_oneHears : Int32) (v_now : Nat → Int64) (x1_2 : Int32) (rec35 : Int32 → Int32 → (Nat → Int64) → Option (Int32 × (Nat → Int64))) (x2_8 : Int32) (y_moved_9 : Int32) (y_next_10 : Nat → Int64) : Option (Int32 × (Nat → Int64)) := (if v_b < x2_8 then some (y_moved_9, y_next_10) else bd2 (D_X1_part x1_2 x2_8 v_a v_b v_zeroHears v_oneHears y_moved_9 v_now y_next_10) (fun y_moved_14 y_next_15 => nm (x2_8 + (nI 1)) (fun x2_17 => rec35 x2_17 y_moved_14 y_next_15)))
def b_X1_meetOnce_25 (v_a : Int32) (v_b : Int32) (v_zeroHears : Int32) (v_oneHears : Int32) (v_now : Nat → Int64) (F : Nat) (rec25 : Int32 → Int32 → (Nat → Int64) → Option (Int32 × (Nat → Int64))) (x1_2 : Int32) (y_moved_3 : Int32) (y_next_4 : Nat → Int64) : Option (Int32 × (Nat → Int64)) := (if v_a < x1_2 then some (y_moved_3, y_next_4) else bd2 (lpg (T := Int32 → Int32 → (Nat → Int64) → Option (Int32 × (Nat → Int64))) (fun _ _ _ => none) (b_X1_meetOnce_35 v_a v_b v_zeroHears v_oneHears v_now x1_2) F (nI 0) y_moved_3 y_next_4) (fun o_11 o_12 => nm (x1_2 + (nI 1)) (fun x1_19 => rec25 x1_19 o_11 o_12)))
def D_X1_meetOnce (F : Nat) (v_a : Int32) (v_b : Int32) (v_zeroHears : Int32) (v_oneHears : Int32) (v_moved : Int32) (v_now : Nat → Int64) (v_next : Nat → Int64) : Option (Int32 × Int32 × (Nat → Int64) × (Nat → Int64)) := cpk (nI 0) (nI 0) (nI 81) 81 81 (bd2 (lpg (T := Int32 → Int32 → (Nat → Int64) → Option (Int32 × (Nat → Int64))) (fun _ _ _ => none) (b_X1_meetOnce_25 v_a v_b v_zeroHears v_oneHears v_now F) F (nI 0) (nI 0) (va_cpy v_now v_next (nI 0).toNatClampNeg (nI 0).toNatClampNeg (nI 81).toNatClampNeg)) (fun o_5 o_6 => cpk (nI 0) (nI 0) (nI 81) 81 81 (cz o_5 (some (o_5, o_5, (va_cpy o_6 v_now (nI 0).toNatClampNeg (nI 0).toNatClampNeg (nI 81).toNatClampNeg), o_6)))))
abbrev rm_X1_meetOnce : Room := { frames := 3, cells := 0, slots := 0, locals := 80 }
set_option maxHeartbeats 4000000 in
set_option maxRecDepth 100000 in
theorem c_X1_meetOnce (l : Launch) (D : va_G) (ca : Nat → ClassId) (F : Nat) (sz : Nat) (q_this q_now q_next : Nat) (v_a : Int32) (v_b : Int32) (v_zeroHears : Int32) (v_oneHears : Int32) (v_moved : Int32) (v_now : Nat → Int64) (v_next : Nat → Int64) (r : Int32) (o_moved : Int32) (o_now : Nat → Int64) (o_next : Nat → Int64) (h : D_X1_meetOnce F v_a v_b v_zeroHears v_oneHears v_moved v_now v_next = some (r, o_moved, o_now, o_next)) : Met l yX1_meetOnce wsX1_meetOnce rm_X1_meetOnce (va_Pc [.ref q_this] (kPre D ca [(q_this, .inr (1, [.ref q_now, .ref q_next, .int v_a, .int v_b, .int v_zeroHears, .int v_oneHears, .int v_moved])), (q_now, .inl (ca 1, 81, .inr (.inl v_now))), (q_next, .inl (ca 1, 81, .inr (.inl v_next)))] sz)) (kQi D ca (va_A [(q_this, .inr (1, [.ref q_now, .ref q_next, .int v_a, .int v_b, .int v_zeroHears, .int v_oneHears, .int v_moved])), (q_now, .inl (ca 1, 81, .inr (.inl v_now))), (q_next, .inl (ca 1, 81, .inr (.inl v_next)))] sz) [(q_this, .inr (1, [.ref q_now, .ref q_next, .int v_a, .int v_b, .int v_zeroHears, .int v_oneHears, .int o_moved])), (q_now, .inl (ca 1, 81, .inr (.inl o_now))), (q_next, .inl (ca 1, 81, .inr (.inl o_next)))] r) 0 0 (va_A [(q_this, .inr (1, [.ref q_now, .ref q_next, .int v_a, .int v_b, .int v_zeroHears, .int v_oneHears, .int v_moved])), (q_now, .inl (ca 1, 81, .inr (.inl v_now))), (q_next, .inl (ca 1, 81, .inr (.inl v_next)))] sz) := by
  refine Met.ofW (cc := cX1_meetOnce) (maxL := 3) (ret := (some .boolean)) (by decide +kernel) rfl ?_
  intro p e s m args below meth c s₁ B hml hv
  obtain ⟨rfl, hsz, hP, hK, hD0⟩ := hv
  have hx := B.exec
  have hb := B.bytes
  have hr := B.returns
  have hts := atoms_spec (ws := wsX1_meetOnce) B.pre
  have hown : s.vm.findClass RX1 = some m.cls := findClass_of_methodNamed B.named
  have hlocks := B.notSynchronized
  clear B
  subst hsz
  have hD := hD0.self (sz := s.heap.size)
  generalize hAe : va_A [(q_this, .inr (1, [.ref q_now, .ref q_next, .int v_a, .int v_b, .int v_zeroHears, .int v_oneHears, .int v_moved])), (q_now, .inl (ca 1, 81, .inr (.inl v_now))), (q_next, .inl (ca 1, 81, .inr (.inl v_next)))] s.heap.size = A at hD ⊢
  have hA : ∀ q : Nat, s.heap.size ≤ q → A q := fun q h => by rw [← hAe]; exact Or.inr h
  have hS : va_S A s.heap s.heap [] := va_S.rf
  have hl := lv_entry ([.ref q_this]) (n := 3) (Nat.le_of_ble_eq_true rfl)
  rw [lg_entry_eq]
  generalize (lg_sl ([.ref q_this]) ++ List.replicate (3 - (lg_sl ([.ref q_this])).length) Slot.unset).toArray = ls at hl ⊢
  have hl : lv_has ls 3 [(0, .ref q_this)] := hl
  generalize ([.ref q_this] : List Value).toArray = args at hts ⊢
  generalize hQe : MQ below (kQi D ca (A) [(q_this, .inr (1, [.ref q_now, .ref q_next, .int v_a, .int v_b, .int v_zeroHears, .int v_oneHears, .int o_moved])), (q_now, .inl (ca 1, 81, .inr (.inl o_now))), (q_next, .inl (ca 1, 81, .inr (.inl o_next)))] r) args s 0 0 A = Q
  have i_X1 : ∀ w ∈ u_ws RX1 TX1 7, w ∈ wsX1_meetOnce := by decide +kernel
  have k_61 := hts (.fieldLink RX1 61 "TradeWords$Crowd" "moved" "Z") (by decide +kernel)
  have k_11 := hts (.fieldLink RX1 11 "TradeWords$Crowd" "now" "[J") (by decide +kernel)
  have k_15 := hts (.fieldLink RX1 15 "TradeWords$Crowd" "next" "[J") (by decide +kernel)
  have k_65 := hts (.methodLink RX1 65 arraycopyName) (by decide +kernel)
  have kac_n := hts (.native arraycopyName) (by decide +kernel)
  have kac_s := hts (.static arraycopyName) (by decide +kernel)
  have kac_i := hts (.initialized "java/lang/System") (by decide +kernel)
  have k_18 := hts (.fieldLink RX1 18 "TradeWords$Crowd" "a" "I") (by decide +kernel)
  have k_22 := hts (.fieldLink RX1 22 "TradeWords$Crowd" "b" "I") (by decide +kernel)
  rw [D_X1_meetOnce] at h
  refine lv_aload_n hx hb dX1_meetOnce_0 rfl (lv_at hl 0 rfl) ?_
  refine lv_iconst (v := (nI 0)) hx hb dX1_meetOnce_1 (by decide) ?_
  refine va_put (D := D) (ci := 1) (v := .int (nI 0)) (ty := .boolean) (C := RX1) (T := TX1) (N := 7) hx hb hts i_X1 tyX1 tyX1_ok nmX1 hown hK hP hD hS 0 rfl rfl 6 (by decide) k_61 (fun _ h9 => h9) rfl (by decide +kernel) rfl rfl (Nat.le_of_ble_eq_true rfl) dX1_meetOnce_2 (fun H locs hP hD hS => ?_)
  have hP : va_P D vwCl [(q_this, .inr (1, [.ref q_now, .ref q_next, .int v_a, .int v_b, .int v_zeroHears, .int v_oneHears, .int (nI 0)])), (q_now, .inl (ca 1, 81, .inr (.inl v_now))), (q_next, .inl (ca 1, 81, .inr (.inl v_next)))] H := hP
  have hD : va_D A [(q_this, .inr (1, [.ref q_now, .ref q_next, .int v_a, .int v_b, .int v_zeroHears, .int v_oneHears, .int (nI 0)])), (q_now, .inl (ca 1, 81, .inr (.inl v_now))), (q_next, .inl (ca 1, 81, .inr (.inl v_next)))] := hD
  refine lv_aload_n hx hb dX1_meetOnce_5 rfl (lv_at hl 0 rfl) ?_
  refine va_get (D := D) (ci := 1) (v := .ref q_now) (C := RX1) (T := TX1) (N := 7) hx hb hts i_X1 hown hK hP 0 rfl rfl 0 (by decide) k_11 (fun _ h9 => h9) rfl dX1_meetOnce_6 ?_
  refine lv_iconst (v := (nI 0)) hx hb dX1_meetOnce_9 (by decide) ?_
  refine lv_aload_n hx hb dX1_meetOnce_10 rfl (lv_at hl 0 rfl) ?_
  refine va_get (D := D) (ci := 1) (v := .ref q_next) (C := RX1) (T := TX1) (N := 7) hx hb hts i_X1 hown hK hP 0 rfl rfl 1 (by decide) k_15 (fun _ h9 => h9) rfl dX1_meetOnce_11 ?_
  refine lv_iconst (v := (nI 0)) hx hb dX1_meetOnce_14 (by decide) ?_
  refine lv_aload_n hx hb dX1_meetOnce_15 rfl (lv_at hl 0 rfl) ?_
  refine va_get (D := D) (ci := 1) (v := .ref q_now) (C := RX1) (T := TX1) (N := 7) hx hb hts i_X1 hown hK hP 0 rfl rfl 0 (by decide) k_11 (fun _ h9 => h9) rfl dX1_meetOnce_16 ?_
  refine va_alen hx hb hK hP 1 1 rfl rfl (v := (nI 81)) rfl dX1_meetOnce_19 ?_
  obtain ⟨hc_1, h⟩ := cpk_el h
  refine va_copyl hx hb (by rw [hml]; exact hl.1.symm) hown k_65 kac_n kac_s kac_i hK hP hD hS 1 2 1 1 rfl rfl rfl rfl rfl hc_1.1 hc_1.2.1 hc_1.2.2.1 hc_1.2.2.2.1 hc_1.2.2.2.2 (fun _ _ => rfl) (Nat.le_of_ble_eq_true rfl) (Nat.le_of_ble_eq_true rfl) dX1_meetOnce_20 (fun H locs hP hD hS => ?_)
  have hP : va_P D vwCl [(q_this, .inr (1, [.ref q_now, .ref q_next, .int v_a, .int v_b, .int v_zeroHears, .int v_oneHears, .int (nI 0)])), (q_now, .inl (ca 1, 81, .inr (.inl v_now))), (q_next, .inl (ca 1, 81, .inr (.inl (va_cpy v_now v_next (nI 0).toNatClampNeg (nI 0).toNatClampNeg (nI 81).toNatClampNeg))))] H := hP
  have hD : va_D A [(q_this, .inr (1, [.ref q_now, .ref q_next, .int v_a, .int v_b, .int v_zeroHears, .int v_oneHears, .int (nI 0)])), (q_now, .inl (ca 1, 81, .inr (.inl v_now))), (q_next, .inl (ca 1, 81, .inr (.inl (va_cpy v_now v_next (nI 0).toNatClampNeg (nI 0).toNatClampNeg (nI 81).toNatClampNeg))))] := hD
  refine lv_iconst (v := (nI 0)) hx hb dX1_meetOnce_23 (by decide) ?_
  refine lv_istore_n (lv' := [(1, .int (nI 0)), (0, .ref q_this)]) hx hb dX1_meetOnce_24 rfl hl (by decide) rfl (fun ls hl => ?_)
  obtain ⟨o_5, o_6, hL, h⟩ := bd2_el h
  have hex : ∀ (H : Heap) (locs : List Loc) (ls : Array Slot), va_P D vwCl [(q_this, .inr (1, [.ref q_now, .ref q_next, .int v_a, .int v_b, .int v_zeroHears, .int v_oneHears, .int o_5])), (q_now, .inl (ca 1, 81, .inr (.inl v_now))), (q_next, .inl (ca 1, 81, .inr (.inl o_6)))] H → va_D A [(q_this, .inr (1, [.ref q_now, .ref q_next, .int v_a, .int v_b, .int v_zeroHears, .int v_oneHears, .int o_5])), (q_now, .inl (ca 1, 81, .inr (.inl v_now))), (q_next, .inl (ca 1, 81, .inr (.inl o_6)))] → va_S A s.heap H locs → lv_has ls 3 [(0, .ref q_this)] → W p l e (headSpec wsX1_meetOnce rm_X1_meetOnce).room s m args below meth c H locs 0 0 Q (F0 m 61 ls []) := by
    intro H locs ls hP hD hS hl
    refine lv_aload_n hx hb dX1_meetOnce_61 rfl (lv_at hl 0 rfl) ?_
    refine va_get (D := D) (ci := 1) (v := .ref q_next) (C := RX1) (T := TX1) (N := 7) hx hb hts i_X1 hown hK hP 0 rfl rfl 1 (by decide) k_15 (fun _ h9 => h9) rfl dX1_meetOnce_62 ?_
    refine lv_iconst (v := (nI 0)) hx hb dX1_meetOnce_65 (by decide) ?_
    refine lv_aload_n hx hb dX1_meetOnce_66 rfl (lv_at hl 0 rfl) ?_
    refine va_get (D := D) (ci := 1) (v := .ref q_now) (C := RX1) (T := TX1) (N := 7) hx hb hts i_X1 hown hK hP 0 rfl rfl 0 (by decide) k_11 (fun _ h9 => h9) rfl dX1_meetOnce_67 ?_
    refine lv_iconst (v := (nI 0)) hx hb dX1_meetOnce_70 (by decide) ?_
    refine lv_aload_n hx hb dX1_meetOnce_71 rfl (lv_at hl 0 rfl) ?_
    refine va_get (D := D) (ci := 1) (v := .ref q_now) (C := RX1) (T := TX1) (N := 7) hx hb hts i_X1 hown hK hP 0 rfl rfl 0 (by decide) k_11 (fun _ h9 => h9) rfl dX1_meetOnce_72 ?_
    refine va_alen hx hb hK hP 1 1 rfl rfl (v := (nI 81)) rfl dX1_meetOnce_75 ?_
    obtain ⟨hc_21, h⟩ := cpk_el h
    refine va_copyl hx hb (by rw [hml]; exact hl.1.symm) hown k_65 kac_n kac_s kac_i hK hP hD hS 2 1 1 1 rfl rfl rfl rfl rfl hc_21.1 hc_21.2.1 hc_21.2.2.1 hc_21.2.2.2.1 hc_21.2.2.2.2 (fun _ _ => rfl) (Nat.le_of_ble_eq_true rfl) (Nat.le_of_ble_eq_true rfl) dX1_meetOnce_76 (fun H locs hP hD hS => ?_)
    have hP : va_P D vwCl [(q_this, .inr (1, [.ref q_now, .ref q_next, .int v_a, .int v_b, .int v_zeroHears, .int v_oneHears, .int o_5])), (q_now, .inl (ca 1, 81, .inr (.inl (va_cpy o_6 v_now (nI 0).toNatClampNeg (nI 0).toNatClampNeg (nI 81).toNatClampNeg)))), (q_next, .inl (ca 1, 81, .inr (.inl o_6)))] H := hP
    have hD : va_D A [(q_this, .inr (1, [.ref q_now, .ref q_next, .int v_a, .int v_b, .int v_zeroHears, .int v_oneHears, .int o_5])), (q_now, .inl (ca 1, 81, .inr (.inl (va_cpy o_6 v_now (nI 0).toNatClampNeg (nI 0).toNatClampNeg (nI 81).toNatClampNeg)))), (q_next, .inl (ca 1, 81, .inr (.inl o_6)))] := hD
    refine lv_aload_n hx hb dX1_meetOnce_79 rfl (lv_at hl 0 rfl) ?_
    refine va_get (D := D) (ci := 1) (v := .int o_5) (C := RX1) (T := TX1) (N := 7) hx hb hts i_X1 hown hK hP 0 rfl rfl 6 (by decide) k_61 (fun _ h9 => h9) rfl dX1_meetOnce_80 ?_
    obtain ⟨hz, h⟩ := cz_el h
    cases h
    rw [← hQe]
    exact W.zret hx hb hr hz (fun t ht hW => ⟨⟨_, (), rfl, rfl, by rw [ht]; exact hP, va_K.moved hW.alike hK, hD⟩, hS.F ht⟩) hS.2.2 dX1_meetOnce_83
  have hlp : ∀ (n : Nat) (x1_2 : Int32) (y_moved_3 : Int32) (y_next_4 : Nat → Int64) (o_5 : Int32) (o_6 : Nat → Int64) (H : Heap) (locs : List Loc) (ls : Array Slot), lpg (T := Int32 → Int32 → (Nat → Int64) → Option (Int32 × (Nat → Int64))) (fun _ _ _ => none) (b_X1_meetOnce_25 v_a v_b v_zeroHears v_oneHears v_now F) n x1_2 y_moved_3 y_next_4 = some (o_5, o_6) → (∀ (H : Heap) (locs : List Loc) (ls : Array Slot), va_P D vwCl [(q_this, .inr (1, [.ref q_now, .ref q_next, .int v_a, .int v_b, .int v_zeroHears, .int v_oneHears, .int o_5])), (q_now, .inl (ca 1, 81, .inr (.inl v_now))), (q_next, .inl (ca 1, 81, .inr (.inl o_6)))] H → va_D A [(q_this, .inr (1, [.ref q_now, .ref q_next, .int v_a, .int v_b, .int v_zeroHears, .int v_oneHears, .int o_5])), (q_now, .inl (ca 1, 81, .inr (.inl v_now))), (q_next, .inl (ca 1, 81, .inr (.inl o_6)))] → va_S A s.heap H locs → lv_has ls 3 [(0, .ref q_this)] → W p l e (headSpec wsX1_meetOnce rm_X1_meetOnce).room s m args below meth c H locs 0 0 Q (F0 m 61 ls [])) → va_P D vwCl [(q_this, .inr (1, [.ref q_now, .ref q_next, .int v_a, .int v_b, .int v_zeroHears, .int v_oneHears, .int y_moved_3])), (q_now, .inl (ca 1, 81, .inr (.inl v_now))), (q_next, .inl (ca 1, 81, .inr (.inl y_next_4)))] H → va_D A [(q_this, .inr (1, [.ref q_now, .ref q_next, .int v_a, .int v_b, .int v_zeroHears, .int v_oneHears, .int y_moved_3])), (q_now, .inl (ca 1, 81, .inr (.inl v_now))), (q_next, .inl (ca 1, 81, .inr (.inl y_next_4)))] → va_S A s.heap H locs → lv_has ls 3 [(0, .ref q_this), (1, .int x1_2)] → W p l e (headSpec wsX1_meetOnce rm_X1_meetOnce).room s m args below meth c H locs 0 0 Q (F0 m 25 ls []) := by
    intro n
    induction n with
    | zero => intro x1_2 y_moved_3 y_next_4 o_5 o_6 H locs ls h; have h : (none : Option (Int32 × (Nat → Int64))) = some _ := h; cases h
    | succ n ih =>
      intro x1_2 y_moved_3 y_next_4 o_5 o_6 H locs ls h hex hP hD hS hl
      rw [lpg_succ, b_X1_meetOnce_25] at h
      refine lv_iload_n hx hb dX1_meetOnce_25 rfl (lv_at hl 1 rfl) ?_
      refine lv_aload_n hx hb dX1_meetOnce_26 rfl (lv_at hl 0 rfl) ?_
      refine va_get (D := D) (ci := 1) (v := .int v_a) (C := RX1) (T := TX1) (N := 7) hx hb hts i_X1 hown hK hP 0 rfl rfl 2 (by decide) k_18 (fun _ h9 => h9) rfl dX1_meetOnce_27 ?_
      refine lv_icmp_gt (tgt := 61) hx hb dX1_meetOnce_30 (by decide) (fun c_7 => ?_) (fun c_7 => ?_)
      · replace h := ifp_el c_7 h
        cases h
        exact hex _ _ _ hP hD hS (lv_sub hl [0] rfl)
      · replace h := ifn_el c_7 h
        refine lv_iconst (v := (nI 0)) hx hb dX1_meetOnce_33 (by decide) ?_
        refine lv_istore_n (lv' := [(2, .int (nI 0)), (0, .ref q_this), (1, .int x1_2)]) hx hb dX1_meetOnce_34 rfl hl (by decide) rfl (fun ls hl => ?_)
        obtain ⟨o_11, o_12, hL, h⟩ := bd2_el h
        have hex : ∀ (H : Heap) (locs : List Loc) (ls : Array Slot), va_P D vwCl [(q_this, .inr (1, [.ref q_now, .ref q_next, .int v_a, .int v_b, .int v_zeroHears, .int v_oneHears, .int o_11])), (q_now, .inl (ca 1, 81, .inr (.inl v_now))), (q_next, .inl (ca 1, 81, .inr (.inl o_12)))] H → va_D A [(q_this, .inr (1, [.ref q_now, .ref q_next, .int v_a, .int v_b, .int v_zeroHears, .int v_oneHears, .int o_11])), (q_now, .inl (ca 1, 81, .inr (.inl v_now))), (q_next, .inl (ca 1, 81, .inr (.inl o_12)))] → va_S A s.heap H locs → lv_has ls 3 [(0, .ref q_this), (1, .int x1_2)] → W p l e (headSpec wsX1_meetOnce rm_X1_meetOnce).room s m args below meth c H locs 0 0 Q (F0 m 55 ls []) := by
          intro H locs ls hP hD hS hl
          obtain ⟨x1_19, e_20, h⟩ := nm_el h
          refine lv_iinc (v := x1_19) (lv' := [(1, .int x1_19), (0, .ref q_this)]) hx hb dX1_meetOnce_55 hl (k := 1) rfl (by rw [← e_20]; rfl) (by decide) rfl (fun ls hl => ?_)
          refine lv_goto (tgt := 25) hx hb dX1_meetOnce_58 (by decide) ?_
          exact ih _ _ _ _ _ _ _ _ h hex hP hD hS (lv_sub hl [1, 0] rfl)
        have hlp : ∀ (n : Nat) (x2_8 : Int32) (y_moved_9 : Int32) (y_next_10 : Nat → Int64) (o_11 : Int32) (o_12 : Nat → Int64) (H : Heap) (locs : List Loc) (ls : Array Slot), lpg (T := Int32 → Int32 → (Nat → Int64) → Option (Int32 × (Nat → Int64))) (fun _ _ _ => none) (b_X1_meetOnce_35 v_a v_b v_zeroHears v_oneHears v_now x1_2) n x2_8 y_moved_9 y_next_10 = some (o_11, o_12) → (∀ (H : Heap) (locs : List Loc) (ls : Array Slot), va_P D vwCl [(q_this, .inr (1, [.ref q_now, .ref q_next, .int v_a, .int v_b, .int v_zeroHears, .int v_oneHears, .int o_11])), (q_now, .inl (ca 1, 81, .inr (.inl v_now))), (q_next, .inl (ca 1, 81, .inr (.inl o_12)))] H → va_D A [(q_this, .inr (1, [.ref q_now, .ref q_next, .int v_a, .int v_b, .int v_zeroHears, .int v_oneHears, .int o_11])), (q_now, .inl (ca 1, 81, .inr (.inl v_now))), (q_next, .inl (ca 1, 81, .inr (.inl o_12)))] → va_S A s.heap H locs → lv_has ls 3 [(0, .ref q_this), (1, .int x1_2)] → W p l e (headSpec wsX1_meetOnce rm_X1_meetOnce).room s m args below meth c H locs 0 0 Q (F0 m 55 ls [])) → va_P D vwCl [(q_this, .inr (1, [.ref q_now, .ref q_next, .int v_a, .int v_b, .int v_zeroHears, .int v_oneHears, .int y_moved_9])), (q_now, .inl (ca 1, 81, .inr (.inl v_now))), (q_next, .inl (ca 1, 81, .inr (.inl y_next_10)))] H → va_D A [(q_this, .inr (1, [.ref q_now, .ref q_next, .int v_a, .int v_b, .int v_zeroHears, .int v_oneHears, .int y_moved_9])), (q_now, .inl (ca 1, 81, .inr (.inl v_now))), (q_next, .inl (ca 1, 81, .inr (.inl y_next_10)))] → va_S A s.heap H locs → lv_has ls 3 [(0, .ref q_this), (1, .int x1_2), (2, .int x2_8)] → W p l e (headSpec wsX1_meetOnce rm_X1_meetOnce).room s m args below meth c H locs 0 0 Q (F0 m 35 ls []) := by
          intro n
          induction n with
          | zero => intro x2_8 y_moved_9 y_next_10 o_11 o_12 H locs ls h; have h : (none : Option (Int32 × (Nat → Int64))) = some _ := h; cases h
          | succ n ih =>
            intro x2_8 y_moved_9 y_next_10 o_11 o_12 H locs ls h hex hP hD hS hl
            rw [lpg_succ, b_X1_meetOnce_35] at h
            refine lv_iload_n hx hb dX1_meetOnce_35 rfl (lv_at hl 2 rfl) ?_
            refine lv_aload_n hx hb dX1_meetOnce_36 rfl (lv_at hl 0 rfl) ?_
            refine va_get (D := D) (ci := 1) (v := .int v_b) (C := RX1) (T := TX1) (N := 7) hx hb hts i_X1 hown hK hP 0 rfl rfl 3 (by decide) k_22 (fun _ h9 => h9) rfl dX1_meetOnce_37 ?_
            refine lv_icmp_gt (tgt := 55) hx hb dX1_meetOnce_40 (by decide) (fun c_13 => ?_) (fun c_13 => ?_)
            · replace h := ifp_el c_13 h
              cases h
              exact hex _ _ _ hP hD hS (lv_sub hl [0, 1] rfl)
            · replace h := ifn_el c_13 h
              refine lv_aload_n hx hb dX1_meetOnce_43 rfl (lv_at hl 0 rfl) ?_
              refine lv_iload_n hx hb dX1_meetOnce_44 rfl (lv_at hl 1 rfl) ?_
              refine lv_iload_n hx hb dX1_meetOnce_45 rfl (lv_at hl 2 rfl) ?_
              obtain ⟨y_moved_14, y_next_15, hg_16, h⟩ := bd2_el h
              refine kx_Vv (As := [.int x1_2, .int x2_8]) (rest := []) (wr := []) (w1 := [(q_this, .inr (1, [.ref q_now, .ref q_next, .int v_a, .int v_b, .int v_zeroHears, .int v_oneHears, .int y_moved_14])), (q_now, .inl (ca 1, 81, .inr (.inl v_now))), (q_next, .inl (ca 1, 81, .inr (.inl y_next_15)))]) (wn := [(q_this, .inr (1, [.ref q_now, .ref q_next, .int v_a, .int v_b, .int v_zeroHears, .int v_oneHears, .int y_moved_14])), (q_now, .inl (ca 1, 81, .inr (.inl v_now))), (q_next, .inl (ca 1, 81, .inr (.inl y_next_15)))]) ⟨hx, hb, hml, hown, hts⟩ (c_X1_part l D ca H.size q_this q_now q_next x1_2 x2_8 v_a v_b v_zeroHears v_oneHears y_moved_9 v_now y_next_10 y_moved_14 y_next_15 hg_16) (cwV 2 hts gX1_meetOnce_X1_part rfl rfl rfl (by decide +kernel) ⟨(Nat.le_of_ble_eq_true rfl), (Nat.le_of_ble_eq_true rfl)⟩) hK hP hD hS hA (ci := 1) (q0 := 0) rfl rfl [0, 1, 2] [] [0, 1, 2] rfl rfl rfl rfl (by decide) rfl rfl rfl hl.1 rfl (Nat.le_of_ble_eq_true rfl) dX1_meetOnce_46 ⟨Nat.zero_le _, Nat.zero_le _⟩ (fun H locs hP hD hS => ?_)
              obtain ⟨x2_17, e_18, h⟩ := nm_el h
              refine lv_iinc (v := x2_17) (lv' := [(2, .int x2_17), (0, .ref q_this), (1, .int x1_2)]) hx hb dX1_meetOnce_49 hl (k := 2) rfl (by rw [← e_18]; rfl) (by decide) rfl (fun ls hl => ?_)
              refine lv_goto (tgt := 35) hx hb dX1_meetOnce_52 (by decide) ?_
              exact ih _ _ _ _ _ _ _ _ h hex hP hD hS (lv_sub hl [1, 2, 0] rfl)
        exact hlp F (nI 0) y_moved_3 y_next_4 o_11 o_12 H locs ls hL hex hP hD hS (lv_sub hl [1, 2, 0] rfl)
  exact hlp F (nI 0) (nI 0) (va_cpy v_now v_next (nI 0).toNatClampNeg (nI 0).toNatClampNeg (nI 81).toNatClampNeg) o_5 o_6 H locs ls hL hex hP hD hS (lv_sub hl [1, 0] rfl)
def b_X1_meet_4 (p1 : Int32) (v_a : Int32) (v_b : Int32) (v_zeroHears : Int32) (v_oneHears : Int32) (F : Nat) (rec4 : Int32 → Int32 → Int32 → (Nat → Int64) → (Nat → Int64) → Option (Int32 × (Nat → Int64) × (Nat → Int64))) (x2_1 : Int32) (x3_2 : Int32) (y_moved_3 : Int32) (y_now_4 : Nat → Int64) (y_next_5 : Nat → Int64) : Option (Int32 × (Nat → Int64) × (Nat → Int64)) := (if p1 ≤ x3_2 then some (y_moved_3, y_now_4, y_next_5) else (if x2_1 = 0 then some (y_moved_3, y_now_4, y_next_5) else bd4 (D_X1_meetOnce F v_a v_b v_zeroHears v_oneHears y_moved_3 y_now_4 y_next_5) (fun r_11 y_moved_12 y_now_13 y_next_14 => nm (x3_2 + (nI 1)) (fun x3_16 => rec4 r_11 x3_16 y_moved_12 y_now_13 y_next_14))))
def D_X1_meet (F : Nat) (p1 : Int32) (v_a : Int32) (v_b : Int32) (v_zeroHears : Int32) (v_oneHears : Int32) (v_moved : Int32) (v_now : Nat → Int64) (v_next : Nat → Int64) : Option (Int32 × (Nat → Int64) × (Nat → Int64)) := bd3 (lpg (T := Int32 → Int32 → Int32 → (Nat → Int64) → (Nat → Int64) → Option (Int32 × (Nat → Int64) × (Nat → Int64))) (fun _ _ _ _ _ => none) (b_X1_meet_4 p1 v_a v_b v_zeroHears v_oneHears F) F (nI 1) (nI 0) v_moved v_now v_next) (fun o_6 o_7 o_8 => some (o_6, o_7, o_8))
abbrev rm_X1_meet : Room := { frames := 4, cells := 0, slots := 0, locals := 102 }
set_option maxHeartbeats 4000000 in
set_option maxRecDepth 100000 in
theorem c_X1_meet (l : Launch) (D : va_G) (ca : Nat → ClassId) (F : Nat) (sz : Nat) (q_this q_now q_next : Nat) (p1 : Int32) (v_a : Int32) (v_b : Int32) (v_zeroHears : Int32) (v_oneHears : Int32) (v_moved : Int32) (v_now : Nat → Int64) (v_next : Nat → Int64) (o_moved : Int32) (o_now : Nat → Int64) (o_next : Nat → Int64) (h : D_X1_meet F p1 v_a v_b v_zeroHears v_oneHears v_moved v_now v_next = some (o_moved, o_now, o_next)) : Met l yX1_meet wsX1_meet rm_X1_meet (va_Pc [.ref q_this, .int p1] (kPre D ca [(q_this, .inr (1, [.ref q_now, .ref q_next, .int v_a, .int v_b, .int v_zeroHears, .int v_oneHears, .int v_moved])), (q_now, .inl (ca 1, 81, .inr (.inl v_now))), (q_next, .inl (ca 1, 81, .inr (.inl v_next)))] sz)) (kQv D ca (va_A [(q_this, .inr (1, [.ref q_now, .ref q_next, .int v_a, .int v_b, .int v_zeroHears, .int v_oneHears, .int v_moved])), (q_now, .inl (ca 1, 81, .inr (.inl v_now))), (q_next, .inl (ca 1, 81, .inr (.inl v_next)))] sz) [(q_this, .inr (1, [.ref q_now, .ref q_next, .int v_a, .int v_b, .int v_zeroHears, .int v_oneHears, .int o_moved])), (q_now, .inl (ca 1, 81, .inr (.inl o_now))), (q_next, .inl (ca 1, 81, .inr (.inl o_next)))]) 0 0 (va_A [(q_this, .inr (1, [.ref q_now, .ref q_next, .int v_a, .int v_b, .int v_zeroHears, .int v_oneHears, .int v_moved])), (q_now, .inl (ca 1, 81, .inr (.inl v_now))), (q_next, .inl (ca 1, 81, .inr (.inl v_next)))] sz) := by
  refine Met.ofW (cc := cX1_meet) (maxL := 4) (ret := none) (by decide +kernel) rfl ?_
  intro p e s m args below meth c s₁ B hml hv
  obtain ⟨rfl, hsz, hP, hK, hD0⟩ := hv
  have hx := B.exec
  have hb := B.bytes
  have hr := B.returns
  have hts := atoms_spec (ws := wsX1_meet) B.pre
  have hown : s.vm.findClass RX1 = some m.cls := findClass_of_methodNamed B.named
  have hlocks := B.notSynchronized
  clear B
  subst hsz
  have hD := hD0.self (sz := s.heap.size)
  generalize hAe : va_A [(q_this, .inr (1, [.ref q_now, .ref q_next, .int v_a, .int v_b, .int v_zeroHears, .int v_oneHears, .int v_moved])), (q_now, .inl (ca 1, 81, .inr (.inl v_now))), (q_next, .inl (ca 1, 81, .inr (.inl v_next)))] s.heap.size = A at hD ⊢
  have hA : ∀ q : Nat, s.heap.size ≤ q → A q := fun q h => by rw [← hAe]; exact Or.inr h
  have hS : va_S A s.heap s.heap [] := va_S.rf
  have hl := lv_entry ([.ref q_this, .int p1]) (n := 4) (Nat.le_of_ble_eq_true rfl)
  rw [lg_entry_eq]
  generalize (lg_sl ([.ref q_this, .int p1]) ++ List.replicate (4 - (lg_sl ([.ref q_this, .int p1])).length) Slot.unset).toArray = ls at hl ⊢
  have hl : lv_has ls 4 [(0, .ref q_this), (1, .int p1)] := hl
  generalize ([.ref q_this, .int p1] : List Value).toArray = args at hts ⊢
  generalize hQe : MQ below (kQv D ca (A) [(q_this, .inr (1, [.ref q_now, .ref q_next, .int v_a, .int v_b, .int v_zeroHears, .int v_oneHears, .int o_moved])), (q_now, .inl (ca 1, 81, .inr (.inl o_now))), (q_next, .inl (ca 1, 81, .inr (.inl o_next)))]) args s 0 0 A = Q
  rw [D_X1_meet] at h
  refine lv_iconst (v := (nI 1)) hx hb dX1_meet_0 (by decide) ?_
  refine lv_istore_n (lv' := [(2, .int (nI 1)), (0, .ref q_this), (1, .int p1)]) hx hb dX1_meet_1 rfl hl (by decide) rfl (fun ls hl => ?_)
  refine lv_iconst (v := (nI 0)) hx hb dX1_meet_2 (by decide) ?_
  refine lv_istore_n (lv' := [(3, .int (nI 0)), (2, .int (nI 1)), (0, .ref q_this), (1, .int p1)]) hx hb dX1_meet_3 rfl hl (by decide) rfl (fun ls hl => ?_)
  obtain ⟨o_6, o_7, o_8, hL, h⟩ := bd3_el h
  have hex : ∀ (H : Heap) (locs : List Loc) (ls : Array Slot), va_P D vwCl [(q_this, .inr (1, [.ref q_now, .ref q_next, .int v_a, .int v_b, .int v_zeroHears, .int v_oneHears, .int o_6])), (q_now, .inl (ca 1, 81, .inr (.inl o_7))), (q_next, .inl (ca 1, 81, .inr (.inl o_8)))] H → va_D A [(q_this, .inr (1, [.ref q_now, .ref q_next, .int v_a, .int v_b, .int v_zeroHears, .int v_oneHears, .int o_6])), (q_now, .inl (ca 1, 81, .inr (.inl o_7))), (q_next, .inl (ca 1, 81, .inr (.inl o_8)))] → va_S A s.heap H locs → lv_has ls 4 [] → W p l e (headSpec wsX1_meet rm_X1_meet).room s m args below meth c H locs 0 0 Q (F0 m 24 ls []) := by
    intro H locs ls hP hD hS hl
    cases h
    rw [← hQe]
    exact W.vret hx hb hr (fun t ht hW => ⟨⟨(), rfl, trivial, by rw [ht]; exact hP, va_K.moved hW.alike hK, hD⟩, hS.F ht⟩) hS.2.2 dX1_meet_24
  have hlp : ∀ (n : Nat) (x2_1 : Int32) (x3_2 : Int32) (y_moved_3 : Int32) (y_now_4 : Nat → Int64) (y_next_5 : Nat → Int64) (o_6 : Int32) (o_7 : Nat → Int64) (o_8 : Nat → Int64) (H : Heap) (locs : List Loc) (ls : Array Slot), lpg (T := Int32 → Int32 → Int32 → (Nat → Int64) → (Nat → Int64) → Option (Int32 × (Nat → Int64) × (Nat → Int64))) (fun _ _ _ _ _ => none) (b_X1_meet_4 p1 v_a v_b v_zeroHears v_oneHears F) n x2_1 x3_2 y_moved_3 y_now_4 y_next_5 = some (o_6, o_7, o_8) → (∀ (H : Heap) (locs : List Loc) (ls : Array Slot), va_P D vwCl [(q_this, .inr (1, [.ref q_now, .ref q_next, .int v_a, .int v_b, .int v_zeroHears, .int v_oneHears, .int o_6])), (q_now, .inl (ca 1, 81, .inr (.inl o_7))), (q_next, .inl (ca 1, 81, .inr (.inl o_8)))] H → va_D A [(q_this, .inr (1, [.ref q_now, .ref q_next, .int v_a, .int v_b, .int v_zeroHears, .int v_oneHears, .int o_6])), (q_now, .inl (ca 1, 81, .inr (.inl o_7))), (q_next, .inl (ca 1, 81, .inr (.inl o_8)))] → va_S A s.heap H locs → lv_has ls 4 [] → W p l e (headSpec wsX1_meet rm_X1_meet).room s m args below meth c H locs 0 0 Q (F0 m 24 ls [])) → va_P D vwCl [(q_this, .inr (1, [.ref q_now, .ref q_next, .int v_a, .int v_b, .int v_zeroHears, .int v_oneHears, .int y_moved_3])), (q_now, .inl (ca 1, 81, .inr (.inl y_now_4))), (q_next, .inl (ca 1, 81, .inr (.inl y_next_5)))] H → va_D A [(q_this, .inr (1, [.ref q_now, .ref q_next, .int v_a, .int v_b, .int v_zeroHears, .int v_oneHears, .int y_moved_3])), (q_now, .inl (ca 1, 81, .inr (.inl y_now_4))), (q_next, .inl (ca 1, 81, .inr (.inl y_next_5)))] → va_S A s.heap H locs → lv_has ls 4 [(0, .ref q_this), (1, .int p1), (2, .int x2_1), (3, .int x3_2)] → W p l e (headSpec wsX1_meet rm_X1_meet).room s m args below meth c H locs 0 0 Q (F0 m 4 ls []) := by
    intro n
    induction n with
    | zero => intro x2_1 x3_2 y_moved_3 y_now_4 y_next_5 o_6 o_7 o_8 H locs ls h; have h : (none : Option (Int32 × (Nat → Int64) × (Nat → Int64))) = some _ := h; cases h
    | succ n ih =>
      intro x2_1 x3_2 y_moved_3 y_now_4 y_next_5 o_6 o_7 o_8 H locs ls h hex hP hD hS hl
      rw [lpg_succ, b_X1_meet_4] at h
      refine lv_iload_n hx hb dX1_meet_4 rfl (lv_at hl 3 rfl) ?_
      refine lv_iload_n hx hb dX1_meet_5 rfl (lv_at hl 1 rfl) ?_
      refine lv_icmp_ge (tgt := 24) hx hb dX1_meet_6 (by decide) (fun c_9 => ?_) (fun c_9 => ?_)
      · replace h := ifp_el c_9 h
        cases h
        exact hex _ _ _ hP hD hS (lv_sub hl [] rfl)
      · replace h := ifn_el c_9 h
        refine lv_iload_n hx hb dX1_meet_9 rfl (lv_at hl 2 rfl) ?_
        refine lv_if_eq (tgt := 24) hx hb dX1_meet_10 (by decide) (fun c_10 => ?_) (fun c_10 => ?_)
        · replace h := ifp_el c_10 h
          cases h
          exact hex _ _ _ hP hD hS (lv_sub hl [] rfl)
        · replace h := ifn_el c_10 h
          refine lv_aload_n hx hb dX1_meet_13 rfl (lv_at hl 0 rfl) ?_
          obtain ⟨r_11, y_moved_12, y_now_13, y_next_14, hg_15, h⟩ := bd4_el h
          refine kx_Vi (As := []) (rest := []) (wr := []) (w1 := [(q_this, .inr (1, [.ref q_now, .ref q_next, .int v_a, .int v_b, .int v_zeroHears, .int v_oneHears, .int y_moved_12])), (q_now, .inl (ca 1, 81, .inr (.inl y_now_13))), (q_next, .inl (ca 1, 81, .inr (.inl y_next_14)))]) (wn := [(q_this, .inr (1, [.ref q_now, .ref q_next, .int v_a, .int v_b, .int v_zeroHears, .int v_oneHears, .int y_moved_12])), (q_now, .inl (ca 1, 81, .inr (.inl y_now_13))), (q_next, .inl (ca 1, 81, .inr (.inl y_next_14)))]) ⟨hx, hb, hml, hown, hts⟩ (c_X1_meetOnce l D ca F H.size q_this q_now q_next v_a v_b v_zeroHears v_oneHears y_moved_3 y_now_4 y_next_5 r_11 y_moved_12 y_now_13 y_next_14 hg_15) (cwV 0 hts gX1_meet_X1_meetOnce rfl rfl rfl (by decide +kernel) ⟨(Nat.le_of_ble_eq_true rfl), (Nat.le_of_ble_eq_true rfl)⟩) hK hP hD hS hA (ci := 1) (q0 := 0) rfl rfl [0, 1, 2] [] [0, 1, 2] rfl rfl rfl rfl (by decide) rfl rfl rfl hl.1 rfl (Nat.le_of_ble_eq_true rfl) dX1_meet_14 ⟨Nat.zero_le _, Nat.zero_le _⟩ (fun H locs hP hD hS => ?_)
          refine lv_istore_n (lv' := [(2, .int r_11), (0, .ref q_this), (1, .int p1), (3, .int x3_2)]) hx hb dX1_meet_17 rfl hl (by decide) rfl (fun ls hl => ?_)
          obtain ⟨x3_16, e_17, h⟩ := nm_el h
          refine lv_iinc (v := x3_16) (lv' := [(3, .int x3_16), (2, .int r_11), (0, .ref q_this), (1, .int p1)]) hx hb dX1_meet_18 hl (k := 3) rfl (by rw [← e_17]; rfl) (by decide) rfl (fun ls hl => ?_)
          refine lv_goto (tgt := 4) hx hb dX1_meet_21 (by decide) ?_
          exact ih _ _ _ _ _ _ _ _ _ _ _ h hex hP hD hS (lv_sub hl [2, 3, 1, 0] rfl)
  exact hlp F (nI 1) (nI 0) v_moved v_now v_next o_6 o_7 o_8 s.heap [] ls hL hex hP hD hS (lv_sub hl [2, 3, 1, 0] rfl)
def D_X1_inStand (p1 : Int32) (p2 : Int32) (v_now : Nat → Int64) : Option (Int64) := bd1 (D_X1_place p1 p2) (fun r_1 => bd1 (D_X5_at_ 81 r_1 v_now) (fun r_3 => some (r_3)))
abbrev rm_X1_inStand : Room := { frames := 1, cells := 0, slots := 0, locals := 21 }
set_option maxHeartbeats 4000000 in
set_option maxRecDepth 100000 in
theorem c_X1_inStand (l : Launch) (D : va_G) (ca : Nat → ClassId) (sz : Nat) (q_this q_now q_next : Nat) (p1 : Int32) (p2 : Int32) (v_a : Int32) (v_b : Int32) (v_zeroHears : Int32) (v_oneHears : Int32) (v_moved : Int32) (v_now : Nat → Int64) (r : Int64) (h : D_X1_inStand p1 p2 v_now = some (r)) : Met l yX1_inStand wsX1_inStand rm_X1_inStand (va_Pc [.ref q_this, .int p1, .int p2] (kPre D ca [(q_this, .inr (1, [.ref q_now, .ref q_next, .int v_a, .int v_b, .int v_zeroHears, .int v_oneHears, .int v_moved])), (q_now, .inl (ca 1, 81, .inr (.inl v_now)))] sz)) (kQl D ca (va_A [(q_this, .inr (1, [.ref q_now, .ref q_next, .int v_a, .int v_b, .int v_zeroHears, .int v_oneHears, .int v_moved])), (q_now, .inl (ca 1, 81, .inr (.inl v_now)))] sz) [(q_this, .inr (1, [.ref q_now, .ref q_next, .int v_a, .int v_b, .int v_zeroHears, .int v_oneHears, .int v_moved])), (q_now, .inl (ca 1, 81, .inr (.inl v_now)))] r) 0 0 (va_A [(q_this, .inr (1, [.ref q_now, .ref q_next, .int v_a, .int v_b, .int v_zeroHears, .int v_oneHears, .int v_moved])), (q_now, .inl (ca 1, 81, .inr (.inl v_now)))] sz) := by
  refine Met.ofW (cc := cX1_inStand) (maxL := 3) (ret := (some .long)) (by decide +kernel) rfl ?_
  intro p e s m args below meth c s₁ B hml hv
  obtain ⟨rfl, hsz, hP, hK, hD0⟩ := hv
  have hx := B.exec
  have hb := B.bytes
  have hr := B.returns
  have hts := atoms_spec (ws := wsX1_inStand) B.pre
  have hown : s.vm.findClass RX1 = some m.cls := findClass_of_methodNamed B.named
  have hlocks := B.notSynchronized
  clear B
  subst hsz
  have hD := hD0.self (sz := s.heap.size)
  generalize hAe : va_A [(q_this, .inr (1, [.ref q_now, .ref q_next, .int v_a, .int v_b, .int v_zeroHears, .int v_oneHears, .int v_moved])), (q_now, .inl (ca 1, 81, .inr (.inl v_now)))] s.heap.size = A at hD ⊢
  have hA : ∀ q : Nat, s.heap.size ≤ q → A q := fun q h => by rw [← hAe]; exact Or.inr h
  have hS : va_S A s.heap s.heap [] := va_S.rf
  have hl := lv_entry ([.ref q_this, .int p1, .int p2]) (n := 3) (Nat.le_of_ble_eq_true rfl)
  rw [lg_entry_eq]
  generalize (lg_sl ([.ref q_this, .int p1, .int p2]) ++ List.replicate (3 - (lg_sl ([.ref q_this, .int p1, .int p2])).length) Slot.unset).toArray = ls at hl ⊢
  have hl : lv_has ls 3 [(0, .ref q_this), (1, .int p1), (2, .int p2)] := hl
  generalize ([.ref q_this, .int p1, .int p2] : List Value).toArray = args at hts ⊢
  generalize hQe : MQ below (kQl D ca (A) [(q_this, .inr (1, [.ref q_now, .ref q_next, .int v_a, .int v_b, .int v_zeroHears, .int v_oneHears, .int v_moved])), (q_now, .inl (ca 1, 81, .inr (.inl v_now)))] r) args s 0 0 A = Q
  have i_X1 : ∀ w ∈ u_ws RX1 TX1 7, w ∈ wsX1_inStand := by decide +kernel
  have k_11 := hts (.fieldLink RX1 11 "TradeWords$Crowd" "now" "[J") (by decide +kernel)
  rw [D_X1_inStand] at h
  refine lv_aload_n hx hb dX1_inStand_0 rfl (lv_at hl 0 rfl) ?_
  refine va_get (D := D) (ci := 1) (v := .ref q_now) (C := RX1) (T := TX1) (N := 7) hx hb hts i_X1 hown hK hP 0 rfl rfl 0 (by decide) k_11 (fun _ h9 => h9) rfl dX1_inStand_1 ?_
  refine lv_iload_n hx hb dX1_inStand_4 rfl (lv_at hl 1 rfl) ?_
  refine lv_iload_n hx hb dX1_inStand_5 rfl (lv_at hl 2 rfl) ?_
  obtain ⟨r_1, hg_2, h⟩ := bd1_el h
  refine kx_Si (As := [.int p1, .int p2]) (rest := [.ref q_now]) (wr := [(q_this, .inr (1, [.ref q_now, .ref q_next, .int v_a, .int v_b, .int v_zeroHears, .int v_oneHears, .int v_moved])), (q_now, .inl (ca 1, 81, .inr (.inl v_now)))]) (w1 := []) (wn := [(q_this, .inr (1, [.ref q_now, .ref q_next, .int v_a, .int v_b, .int v_zeroHears, .int v_oneHears, .int v_moved])), (q_now, .inl (ca 1, 81, .inr (.inl v_now)))]) ⟨hx, hb, hml, hown, hts⟩ (c_X1_place l D ca s.heap.size p1 p2 r_1 hg_2) (va_cwS 2 hts gX1_inStand_X1_place rfl rfl rfl (by decide +kernel) ⟨(Nat.le_of_ble_eq_true rfl), (Nat.le_of_ble_eq_true rfl)⟩) hK hP hD hS hA [] [0, 1] [0, 1] rfl rfl rfl rfl (by decide) rfl rfl rfl hl.1 rfl (Nat.le_of_ble_eq_true rfl) dX1_inStand_6 ⟨Nat.zero_le _, Nat.zero_le _⟩ (fun H locs hP hD hS => ?_)
  obtain ⟨r_3, hg_4, h⟩ := bd1_el h
  refine kx_Sl (As := [.ref q_now, .int r_1]) (rest := []) (wr := [(q_this, .inr (1, [.ref q_now, .ref q_next, .int v_a, .int v_b, .int v_zeroHears, .int v_oneHears, .int v_moved]))]) (w1 := [(q_now, .inl (ca 1, 81, .inr (.inl v_now)))]) (wn := [(q_this, .inr (1, [.ref q_now, .ref q_next, .int v_a, .int v_b, .int v_zeroHears, .int v_oneHears, .int v_moved])), (q_now, .inl (ca 1, 81, .inr (.inl v_now)))]) ⟨hx, hb, hml, hown, hts⟩ (c_X5_at_ l D ca H.size q_now 81 r_1 v_now r_3 hg_4) (va_cwS 2 hts gX1_inStand_X5_at_ rfl rfl rfl (by decide +kernel) ⟨(Nat.le_of_ble_eq_true rfl), (Nat.le_of_ble_eq_true rfl)⟩) hK hP hD hS hA [1] [0] [0, 1] rfl rfl rfl rfl (by decide) rfl rfl rfl hl.1 rfl (Nat.le_of_ble_eq_true rfl) dX1_inStand_9 ⟨Nat.zero_le _, Nat.zero_le _⟩ (fun H locs hP hD hS => ?_)
  cases h
  rw [← hQe]
  exact W.lret hx hb hr (fun t ht hW => ⟨⟨_, (), rfl, rfl, by rw [ht]; exact hP, va_K.moved hW.alike hK, hD⟩, hS.F ht⟩) hS.2.2 dX1_inStand_12
def D_X1_allSaying (p1 : Int32) (v_a : Int32) (v_b : Int32) (v_now : Nat → Int64) : Option (Int64) := (if p1 = 0 then bd1 (D_X1_inStand (nI 0) v_b v_now) (fun r_4 => some (r_4)) else bd1 (D_X1_inStand v_a (nI 0) v_now) (fun r_2 => some (r_2)))
abbrev rm_X1_allSaying : Room := { frames := 2, cells := 0, slots := 0, locals := 43 }
set_option maxHeartbeats 4000000 in
set_option maxRecDepth 100000 in
theorem c_X1_allSaying (l : Launch) (D : va_G) (ca : Nat → ClassId) (sz : Nat) (q_this q_now q_next : Nat) (p1 : Int32) (v_a : Int32) (v_b : Int32) (v_zeroHears : Int32) (v_oneHears : Int32) (v_moved : Int32) (v_now : Nat → Int64) (r : Int64) (h : D_X1_allSaying p1 v_a v_b v_now = some (r)) : Met l yX1_allSaying wsX1_allSaying rm_X1_allSaying (va_Pc [.ref q_this, .int p1] (kPre D ca [(q_this, .inr (1, [.ref q_now, .ref q_next, .int v_a, .int v_b, .int v_zeroHears, .int v_oneHears, .int v_moved])), (q_now, .inl (ca 1, 81, .inr (.inl v_now)))] sz)) (kQl D ca (va_A [(q_this, .inr (1, [.ref q_now, .ref q_next, .int v_a, .int v_b, .int v_zeroHears, .int v_oneHears, .int v_moved])), (q_now, .inl (ca 1, 81, .inr (.inl v_now)))] sz) [(q_this, .inr (1, [.ref q_now, .ref q_next, .int v_a, .int v_b, .int v_zeroHears, .int v_oneHears, .int v_moved])), (q_now, .inl (ca 1, 81, .inr (.inl v_now)))] r) 0 0 (va_A [(q_this, .inr (1, [.ref q_now, .ref q_next, .int v_a, .int v_b, .int v_zeroHears, .int v_oneHears, .int v_moved])), (q_now, .inl (ca 1, 81, .inr (.inl v_now)))] sz) := by
  refine Met.ofW (cc := cX1_allSaying) (maxL := 2) (ret := (some .long)) (by decide +kernel) rfl ?_
  intro p e s m args below meth c s₁ B hml hv
  obtain ⟨rfl, hsz, hP, hK, hD0⟩ := hv
  have hx := B.exec
  have hb := B.bytes
  have hr := B.returns
  have hts := atoms_spec (ws := wsX1_allSaying) B.pre
  have hown : s.vm.findClass RX1 = some m.cls := findClass_of_methodNamed B.named
  have hlocks := B.notSynchronized
  clear B
  subst hsz
  have hD := hD0.self (sz := s.heap.size)
  generalize hAe : va_A [(q_this, .inr (1, [.ref q_now, .ref q_next, .int v_a, .int v_b, .int v_zeroHears, .int v_oneHears, .int v_moved])), (q_now, .inl (ca 1, 81, .inr (.inl v_now)))] s.heap.size = A at hD ⊢
  have hA : ∀ q : Nat, s.heap.size ≤ q → A q := fun q h => by rw [← hAe]; exact Or.inr h
  have hS : va_S A s.heap s.heap [] := va_S.rf
  have hl := lv_entry ([.ref q_this, .int p1]) (n := 2) (Nat.le_of_ble_eq_true rfl)
  rw [lg_entry_eq]
  generalize (lg_sl ([.ref q_this, .int p1]) ++ List.replicate (2 - (lg_sl ([.ref q_this, .int p1])).length) Slot.unset).toArray = ls at hl ⊢
  have hl : lv_has ls 2 [(0, .ref q_this), (1, .int p1)] := hl
  generalize ([.ref q_this, .int p1] : List Value).toArray = args at hts ⊢
  generalize hQe : MQ below (kQl D ca (A) [(q_this, .inr (1, [.ref q_now, .ref q_next, .int v_a, .int v_b, .int v_zeroHears, .int v_oneHears, .int v_moved])), (q_now, .inl (ca 1, 81, .inr (.inl v_now)))] r) args s 0 0 A = Q
  have i_X1 : ∀ w ∈ u_ws RX1 TX1 7, w ∈ wsX1_allSaying := by decide +kernel
  have k_18 := hts (.fieldLink RX1 18 "TradeWords$Crowd" "a" "I") (by decide +kernel)
  have k_22 := hts (.fieldLink RX1 22 "TradeWords$Crowd" "b" "I") (by decide +kernel)
  rw [D_X1_allSaying] at h
  refine lv_iload_n hx hb dX1_allSaying_0 rfl (lv_at hl 1 rfl) ?_
  refine lv_if_ne (tgt := 16) hx hb dX1_allSaying_1 (by decide) (fun c_1 => ?_) (fun c_1 => ?_)
  · replace h := ifn_el c_1 h
    refine lv_aload_n hx hb dX1_allSaying_16 rfl (lv_at hl 0 rfl) ?_
    refine lv_aload_n hx hb dX1_allSaying_17 rfl (lv_at hl 0 rfl) ?_
    refine va_get (D := D) (ci := 1) (v := .int v_a) (C := RX1) (T := TX1) (N := 7) hx hb hts i_X1 hown hK hP 0 rfl rfl 2 (by decide) k_18 (fun _ h9 => h9) rfl dX1_allSaying_18 ?_
    refine lv_iconst (v := (nI 0)) hx hb dX1_allSaying_21 (by decide) ?_
    obtain ⟨r_2, hg_3, h⟩ := bd1_el h
    refine kx_Vl (As := [.int v_a, .int (nI 0)]) (rest := []) (wr := []) (w1 := [(q_this, .inr (1, [.ref q_now, .ref q_next, .int v_a, .int v_b, .int v_zeroHears, .int v_oneHears, .int v_moved])), (q_now, .inl (ca 1, 81, .inr (.inl v_now)))]) (wn := [(q_this, .inr (1, [.ref q_now, .ref q_next, .int v_a, .int v_b, .int v_zeroHears, .int v_oneHears, .int v_moved])), (q_now, .inl (ca 1, 81, .inr (.inl v_now)))]) ⟨hx, hb, hml, hown, hts⟩ (c_X1_inStand l D ca s.heap.size q_this q_now q_next v_a (nI 0) v_a v_b v_zeroHears v_oneHears v_moved v_now r_2 hg_3) (cwV 2 hts gX1_allSaying_X1_inStand rfl rfl rfl (by decide +kernel) ⟨(Nat.le_of_ble_eq_true rfl), (Nat.le_of_ble_eq_true rfl)⟩) hK hP hD hS hA (ci := 1) (q0 := 0) rfl rfl [0, 1] [] [0, 1] rfl rfl rfl rfl (by decide) rfl rfl rfl hl.1 rfl (Nat.le_of_ble_eq_true rfl) dX1_allSaying_22 ⟨Nat.zero_le _, Nat.zero_le _⟩ (fun H locs hP hD hS => ?_)
    cases h
    rw [← hQe]
    exact W.lret hx hb hr (fun t ht hW => ⟨⟨_, (), rfl, rfl, by rw [ht]; exact hP, va_K.moved hW.alike hK, hD⟩, hS.F ht⟩) hS.2.2 dX1_allSaying_25
  · replace h := ifp_el c_1 h
    refine lv_aload_n hx hb dX1_allSaying_4 rfl (lv_at hl 0 rfl) ?_
    refine lv_iconst (v := (nI 0)) hx hb dX1_allSaying_5 (by decide) ?_
    refine lv_aload_n hx hb dX1_allSaying_6 rfl (lv_at hl 0 rfl) ?_
    refine va_get (D := D) (ci := 1) (v := .int v_b) (C := RX1) (T := TX1) (N := 7) hx hb hts i_X1 hown hK hP 0 rfl rfl 3 (by decide) k_22 (fun _ h9 => h9) rfl dX1_allSaying_7 ?_
    obtain ⟨r_4, hg_5, h⟩ := bd1_el h
    refine kx_Vl (As := [.int (nI 0), .int v_b]) (rest := []) (wr := []) (w1 := [(q_this, .inr (1, [.ref q_now, .ref q_next, .int v_a, .int v_b, .int v_zeroHears, .int v_oneHears, .int v_moved])), (q_now, .inl (ca 1, 81, .inr (.inl v_now)))]) (wn := [(q_this, .inr (1, [.ref q_now, .ref q_next, .int v_a, .int v_b, .int v_zeroHears, .int v_oneHears, .int v_moved])), (q_now, .inl (ca 1, 81, .inr (.inl v_now)))]) ⟨hx, hb, hml, hown, hts⟩ (c_X1_inStand l D ca s.heap.size q_this q_now q_next (nI 0) v_b v_a v_b v_zeroHears v_oneHears v_moved v_now r_4 hg_5) (cwV 2 hts gX1_allSaying_X1_inStand rfl rfl rfl (by decide +kernel) ⟨(Nat.le_of_ble_eq_true rfl), (Nat.le_of_ble_eq_true rfl)⟩) hK hP hD hS hA (ci := 1) (q0 := 0) rfl rfl [0, 1] [] [0, 1] rfl rfl rfl rfl (by decide) rfl rfl rfl hl.1 rfl (Nat.le_of_ble_eq_true rfl) dX1_allSaying_10 ⟨Nat.zero_le _, Nat.zero_le _⟩ (fun H locs hP hD hS => ?_)
    refine lv_goto (tgt := 25) hx hb dX1_allSaying_13 (by decide) ?_
    cases h
    rw [← hQe]
    exact W.lret hx hb hr (fun t ht hW => ⟨⟨_, (), rfl, rfl, by rw [ht]; exact hP, va_K.moved hW.alike hK, hD⟩, hS.F ht⟩) hS.2.2 dX1_allSaying_25
def b_X1_sayingWordZero_15 (v_a : Int32) (v_b : Int32) (v_now : Nat → Int64) (x3_2 : Int32) (rec15 : Int64 → Int32 → Option (Int64)) (x1_5 : Int64) (x4_6 : Int32) : Option (Int64) := (if v_b < x4_6 then some (x1_5) else bd1 (D_X1_inStand x3_2 x4_6 v_now) (fun r_9 => nm (x1_5 + ((((v_a - x3_2) + x4_6).toInt64) * r_9)) (fun x1_11 => nm (x4_6 + (nI 1)) (fun x4_12 => rec15 x1_11 x4_12))))
def b_X1_sayingWordZero_4 (v_a : Int32) (v_b : Int32) (v_now : Nat → Int64) (F : Nat) (rec4 : Int64 → Int32 → Option (Int64)) (x1_1 : Int64) (x3_2 : Int32) : Option (Int64) := (if v_a < x3_2 then some (x1_1) else bd1 (lpg (T := Int64 → Int32 → Option (Int64)) (fun _ _ => none) (b_X1_sayingWordZero_15 v_a v_b v_now x3_2) F x1_1 (nI 0)) (fun o_7 => nm (x3_2 + (nI 1)) (fun x3_14 => rec4 o_7 x3_14)))
def D_X1_sayingWordZero (F : Nat) (v_a : Int32) (v_b : Int32) (v_now : Nat → Int64) : Option (Int64) := bd1 (lpg (T := Int64 → Int32 → Option (Int64)) (fun _ _ => none) (b_X1_sayingWordZero_4 v_a v_b v_now F) F (lN 0) (nI 0)) (fun o_3 => some (o_3))
abbrev rm_X1_sayingWordZero : Room := { frames := 2, cells := 0, slots := 0, locals := 43 }
set_option maxHeartbeats 4000000 in
set_option maxRecDepth 100000 in
theorem c_X1_sayingWordZero (l : Launch) (D : va_G) (ca : Nat → ClassId) (F : Nat) (sz : Nat) (q_this q_now q_next : Nat) (v_a : Int32) (v_b : Int32) (v_zeroHears : Int32) (v_oneHears : Int32) (v_moved : Int32) (v_now : Nat → Int64) (r : Int64) (h : D_X1_sayingWordZero F v_a v_b v_now = some (r)) : Met l yX1_sayingWordZero wsX1_sayingWordZero rm_X1_sayingWordZero (va_Pc [.ref q_this] (kPre D ca [(q_this, .inr (1, [.ref q_now, .ref q_next, .int v_a, .int v_b, .int v_zeroHears, .int v_oneHears, .int v_moved])), (q_now, .inl (ca 1, 81, .inr (.inl v_now)))] sz)) (kQl D ca (va_A [(q_this, .inr (1, [.ref q_now, .ref q_next, .int v_a, .int v_b, .int v_zeroHears, .int v_oneHears, .int v_moved])), (q_now, .inl (ca 1, 81, .inr (.inl v_now)))] sz) [(q_this, .inr (1, [.ref q_now, .ref q_next, .int v_a, .int v_b, .int v_zeroHears, .int v_oneHears, .int v_moved])), (q_now, .inl (ca 1, 81, .inr (.inl v_now)))] r) 0 0 (va_A [(q_this, .inr (1, [.ref q_now, .ref q_next, .int v_a, .int v_b, .int v_zeroHears, .int v_oneHears, .int v_moved])), (q_now, .inl (ca 1, 81, .inr (.inl v_now)))] sz) := by
  refine Met.ofW (cc := cX1_sayingWordZero) (maxL := 5) (ret := (some .long)) (by decide +kernel) rfl ?_
  intro p e s m args below meth c s₁ B hml hv
  obtain ⟨rfl, hsz, hP, hK, hD0⟩ := hv
  have hx := B.exec
  have hb := B.bytes
  have hr := B.returns
  have hts := atoms_spec (ws := wsX1_sayingWordZero) B.pre
  have hown : s.vm.findClass RX1 = some m.cls := findClass_of_methodNamed B.named
  have hlocks := B.notSynchronized
  clear B
  subst hsz
  have hD := hD0.self (sz := s.heap.size)
  generalize hAe : va_A [(q_this, .inr (1, [.ref q_now, .ref q_next, .int v_a, .int v_b, .int v_zeroHears, .int v_oneHears, .int v_moved])), (q_now, .inl (ca 1, 81, .inr (.inl v_now)))] s.heap.size = A at hD ⊢
  have hA : ∀ q : Nat, s.heap.size ≤ q → A q := fun q h => by rw [← hAe]; exact Or.inr h
  have hS : va_S A s.heap s.heap [] := va_S.rf
  have hl := lv_entry ([.ref q_this]) (n := 5) (Nat.le_of_ble_eq_true rfl)
  rw [lg_entry_eq]
  generalize (lg_sl ([.ref q_this]) ++ List.replicate (5 - (lg_sl ([.ref q_this])).length) Slot.unset).toArray = ls at hl ⊢
  have hl : lv_has ls 5 [(0, .ref q_this)] := hl
  generalize ([.ref q_this] : List Value).toArray = args at hts ⊢
  generalize hQe : MQ below (kQl D ca (A) [(q_this, .inr (1, [.ref q_now, .ref q_next, .int v_a, .int v_b, .int v_zeroHears, .int v_oneHears, .int v_moved])), (q_now, .inl (ca 1, 81, .inr (.inl v_now)))] r) args s 0 0 A = Q
  have i_X1 : ∀ w ∈ u_ws RX1 TX1 7, w ∈ wsX1_sayingWordZero := by decide +kernel
  have k_18 := hts (.fieldLink RX1 18 "TradeWords$Crowd" "a" "I") (by decide +kernel)
  have k_22 := hts (.fieldLink RX1 22 "TradeWords$Crowd" "b" "I") (by decide +kernel)
  rw [D_X1_sayingWordZero] at h
  refine lv_lconst (v := (lN 0)) hx hb dX1_sayingWordZero_0 (by decide) ?_
  refine lv_lstore_n (lv' := [(1, .long (lN 0)), (0, .ref q_this)]) hx hb dX1_sayingWordZero_1 rfl hl (by decide) rfl (fun ls hl => ?_)
  refine lv_iconst (v := (nI 0)) hx hb dX1_sayingWordZero_2 (by decide) ?_
  refine lv_istore_n (lv' := [(3, .int (nI 0)), (1, .long (lN 0)), (0, .ref q_this)]) hx hb dX1_sayingWordZero_3 rfl hl (by decide) rfl (fun ls hl => ?_)
  obtain ⟨o_3, hL, h⟩ := bd1_el h
  have hex : ∀ (H : Heap) (locs : List Loc) (ls : Array Slot), va_P D vwCl [(q_this, .inr (1, [.ref q_now, .ref q_next, .int v_a, .int v_b, .int v_zeroHears, .int v_oneHears, .int v_moved])), (q_now, .inl (ca 1, 81, .inr (.inl v_now)))] H → va_D A [(q_this, .inr (1, [.ref q_now, .ref q_next, .int v_a, .int v_b, .int v_zeroHears, .int v_oneHears, .int v_moved])), (q_now, .inl (ca 1, 81, .inr (.inl v_now)))] → va_S A s.heap H locs → lv_has ls 5 [(1, .long o_3)] → W p l e (headSpec wsX1_sayingWordZero rm_X1_sayingWordZero).room s m args below meth c H locs 0 0 Q (F0 m 57 ls []) := by
    intro H locs ls hP hD hS hl
    refine lv_lload_n hx hb dX1_sayingWordZero_57 rfl (lv_at hl 0 rfl) ?_
    cases h
    rw [← hQe]
    exact W.lret hx hb hr (fun t ht hW => ⟨⟨_, (), rfl, rfl, by rw [ht]; exact hP, va_K.moved hW.alike hK, hD⟩, hS.F ht⟩) hS.2.2 dX1_sayingWordZero_58
  have hlp : ∀ (n : Nat) (x1_1 : Int64) (x3_2 : Int32) (o_3 : Int64) (H : Heap) (locs : List Loc) (ls : Array Slot), lpg (T := Int64 → Int32 → Option (Int64)) (fun _ _ => none) (b_X1_sayingWordZero_4 v_a v_b v_now F) n x1_1 x3_2 = some (o_3) → (∀ (H : Heap) (locs : List Loc) (ls : Array Slot), va_P D vwCl [(q_this, .inr (1, [.ref q_now, .ref q_next, .int v_a, .int v_b, .int v_zeroHears, .int v_oneHears, .int v_moved])), (q_now, .inl (ca 1, 81, .inr (.inl v_now)))] H → va_D A [(q_this, .inr (1, [.ref q_now, .ref q_next, .int v_a, .int v_b, .int v_zeroHears, .int v_oneHears, .int v_moved])), (q_now, .inl (ca 1, 81, .inr (.inl v_now)))] → va_S A s.heap H locs → lv_has ls 5 [(1, .long o_3)] → W p l e (headSpec wsX1_sayingWordZero rm_X1_sayingWordZero).room s m args below meth c H locs 0 0 Q (F0 m 57 ls [])) → va_P D vwCl [(q_this, .inr (1, [.ref q_now, .ref q_next, .int v_a, .int v_b, .int v_zeroHears, .int v_oneHears, .int v_moved])), (q_now, .inl (ca 1, 81, .inr (.inl v_now)))] H → va_D A [(q_this, .inr (1, [.ref q_now, .ref q_next, .int v_a, .int v_b, .int v_zeroHears, .int v_oneHears, .int v_moved])), (q_now, .inl (ca 1, 81, .inr (.inl v_now)))] → va_S A s.heap H locs → lv_has ls 5 [(0, .ref q_this), (1, .long x1_1), (3, .int x3_2)] → W p l e (headSpec wsX1_sayingWordZero rm_X1_sayingWordZero).room s m args below meth c H locs 0 0 Q (F0 m 4 ls []) := by
    intro n
    induction n with
    | zero => intro x1_1 x3_2 o_3 H locs ls h; have h : (none : Option (Int64)) = some _ := h; cases h
    | succ n ih =>
      intro x1_1 x3_2 o_3 H locs ls h hex hP hD hS hl
      rw [lpg_succ, b_X1_sayingWordZero_4] at h
      refine lv_iload_n hx hb dX1_sayingWordZero_4 rfl (lv_at hl 2 rfl) ?_
      refine lv_aload_n hx hb dX1_sayingWordZero_5 rfl (lv_at hl 0 rfl) ?_
      refine va_get (D := D) (ci := 1) (v := .int v_a) (C := RX1) (T := TX1) (N := 7) hx hb hts i_X1 hown hK hP 0 rfl rfl 2 (by decide) k_18 (fun _ h9 => h9) rfl dX1_sayingWordZero_6 ?_
      refine lv_icmp_gt (tgt := 57) hx hb dX1_sayingWordZero_9 (by decide) (fun c_4 => ?_) (fun c_4 => ?_)
      · replace h := ifp_el c_4 h
        cases h
        exact hex _ _ _ hP hD hS (lv_sub hl [1] rfl)
      · replace h := ifn_el c_4 h
        refine lv_iconst (v := (nI 0)) hx hb dX1_sayingWordZero_12 (by decide) ?_
        refine lv_istore (lv' := [(4, .int (nI 0)), (0, .ref q_this), (1, .long x1_1), (3, .int x3_2)]) hx hb dX1_sayingWordZero_13 hl (by decide) rfl (fun ls hl => ?_)
        obtain ⟨o_7, hL, h⟩ := bd1_el h
        have hex : ∀ (H : Heap) (locs : List Loc) (ls : Array Slot), va_P D vwCl [(q_this, .inr (1, [.ref q_now, .ref q_next, .int v_a, .int v_b, .int v_zeroHears, .int v_oneHears, .int v_moved])), (q_now, .inl (ca 1, 81, .inr (.inl v_now)))] H → va_D A [(q_this, .inr (1, [.ref q_now, .ref q_next, .int v_a, .int v_b, .int v_zeroHears, .int v_oneHears, .int v_moved])), (q_now, .inl (ca 1, 81, .inr (.inl v_now)))] → va_S A s.heap H locs → lv_has ls 5 [(0, .ref q_this), (1, .long o_7), (3, .int x3_2)] → W p l e (headSpec wsX1_sayingWordZero rm_X1_sayingWordZero).room s m args below meth c H locs 0 0 Q (F0 m 51 ls []) := by
          intro H locs ls hP hD hS hl
          obtain ⟨x3_14, e_15, h⟩ := nm_el h
          refine lv_iinc (v := x3_14) (lv' := [(3, .int x3_14), (0, .ref q_this), (1, .long o_7)]) hx hb dX1_sayingWordZero_51 hl (k := 2) rfl (by rw [← e_15]; rfl) (by decide) rfl (fun ls hl => ?_)
          refine lv_goto (tgt := 4) hx hb dX1_sayingWordZero_54 (by decide) ?_
          exact ih _ _ _ _ _ _ h hex hP hD hS (lv_sub hl [1, 2, 0] rfl)
        have hlp : ∀ (n : Nat) (x1_5 : Int64) (x4_6 : Int32) (o_7 : Int64) (H : Heap) (locs : List Loc) (ls : Array Slot), lpg (T := Int64 → Int32 → Option (Int64)) (fun _ _ => none) (b_X1_sayingWordZero_15 v_a v_b v_now x3_2) n x1_5 x4_6 = some (o_7) → (∀ (H : Heap) (locs : List Loc) (ls : Array Slot), va_P D vwCl [(q_this, .inr (1, [.ref q_now, .ref q_next, .int v_a, .int v_b, .int v_zeroHears, .int v_oneHears, .int v_moved])), (q_now, .inl (ca 1, 81, .inr (.inl v_now)))] H → va_D A [(q_this, .inr (1, [.ref q_now, .ref q_next, .int v_a, .int v_b, .int v_zeroHears, .int v_oneHears, .int v_moved])), (q_now, .inl (ca 1, 81, .inr (.inl v_now)))] → va_S A s.heap H locs → lv_has ls 5 [(0, .ref q_this), (1, .long o_7), (3, .int x3_2)] → W p l e (headSpec wsX1_sayingWordZero rm_X1_sayingWordZero).room s m args below meth c H locs 0 0 Q (F0 m 51 ls [])) → va_P D vwCl [(q_this, .inr (1, [.ref q_now, .ref q_next, .int v_a, .int v_b, .int v_zeroHears, .int v_oneHears, .int v_moved])), (q_now, .inl (ca 1, 81, .inr (.inl v_now)))] H → va_D A [(q_this, .inr (1, [.ref q_now, .ref q_next, .int v_a, .int v_b, .int v_zeroHears, .int v_oneHears, .int v_moved])), (q_now, .inl (ca 1, 81, .inr (.inl v_now)))] → va_S A s.heap H locs → lv_has ls 5 [(0, .ref q_this), (1, .long x1_5), (3, .int x3_2), (4, .int x4_6)] → W p l e (headSpec wsX1_sayingWordZero rm_X1_sayingWordZero).room s m args below meth c H locs 0 0 Q (F0 m 15 ls []) := by
          intro n
          induction n with
          | zero => intro x1_5 x4_6 o_7 H locs ls h; have h : (none : Option (Int64)) = some _ := h; cases h
          | succ n ih =>
            intro x1_5 x4_6 o_7 H locs ls h hex hP hD hS hl
            rw [lpg_succ, b_X1_sayingWordZero_15] at h
            refine lv_iload hx hb dX1_sayingWordZero_15 (lv_at hl 3 rfl) ?_
            refine lv_aload_n hx hb dX1_sayingWordZero_17 rfl (lv_at hl 0 rfl) ?_
            refine va_get (D := D) (ci := 1) (v := .int v_b) (C := RX1) (T := TX1) (N := 7) hx hb hts i_X1 hown hK hP 0 rfl rfl 3 (by decide) k_22 (fun _ h9 => h9) rfl dX1_sayingWordZero_18 ?_
            refine lv_icmp_gt (tgt := 51) hx hb dX1_sayingWordZero_21 (by decide) (fun c_8 => ?_) (fun c_8 => ?_)
            · replace h := ifp_el c_8 h
              cases h
              exact hex _ _ _ hP hD hS (lv_sub hl [0, 1, 2] rfl)
            · replace h := ifn_el c_8 h
              refine lv_lload_n hx hb dX1_sayingWordZero_24 rfl (lv_at hl 1 rfl) ?_
              refine lv_aload_n hx hb dX1_sayingWordZero_25 rfl (lv_at hl 0 rfl) ?_
              refine va_get (D := D) (ci := 1) (v := .int v_a) (C := RX1) (T := TX1) (N := 7) hx hb hts i_X1 hown hK hP 0 rfl rfl 2 (by decide) k_18 (fun _ h9 => h9) rfl dX1_sayingWordZero_26 ?_
              refine lv_iload_n hx hb dX1_sayingWordZero_29 rfl (lv_at hl 2 rfl) ?_
              refine lv_isub hx hb dX1_sayingWordZero_30 ?_
              refine lv_iload hx hb dX1_sayingWordZero_31 (lv_at hl 3 rfl) ?_
              refine lv_iadd hx hb dX1_sayingWordZero_33 ?_
              refine lv_i2l hx hb dX1_sayingWordZero_34 rfl ?_
              refine lv_aload_n hx hb dX1_sayingWordZero_35 rfl (lv_at hl 0 rfl) ?_
              refine lv_iload_n hx hb dX1_sayingWordZero_36 rfl (lv_at hl 2 rfl) ?_
              refine lv_iload hx hb dX1_sayingWordZero_37 (lv_at hl 3 rfl) ?_
              obtain ⟨r_9, hg_10, h⟩ := bd1_el h
              refine kx_Vl (As := [.int x3_2, .int x4_6]) (rest := [.long (((v_a - x3_2) + x4_6).toInt64), .long x1_5]) (wr := []) (w1 := [(q_this, .inr (1, [.ref q_now, .ref q_next, .int v_a, .int v_b, .int v_zeroHears, .int v_oneHears, .int v_moved])), (q_now, .inl (ca 1, 81, .inr (.inl v_now)))]) (wn := [(q_this, .inr (1, [.ref q_now, .ref q_next, .int v_a, .int v_b, .int v_zeroHears, .int v_oneHears, .int v_moved])), (q_now, .inl (ca 1, 81, .inr (.inl v_now)))]) ⟨hx, hb, hml, hown, hts⟩ (c_X1_inStand l D ca H.size q_this q_now q_next x3_2 x4_6 v_a v_b v_zeroHears v_oneHears v_moved v_now r_9 hg_10) (cwV 2 hts gX1_sayingWordZero_X1_inStand rfl rfl rfl (by decide +kernel) ⟨(Nat.le_of_ble_eq_true rfl), (Nat.le_of_ble_eq_true rfl)⟩) hK hP hD hS hA (ci := 1) (q0 := 0) rfl rfl [0, 1] [] [0, 1] rfl rfl rfl rfl (by decide) rfl rfl rfl hl.1 rfl (Nat.le_of_ble_eq_true rfl) dX1_sayingWordZero_39 ⟨Nat.zero_le _, Nat.zero_le _⟩ (fun H locs hP hD hS => ?_)
              refine lv_lmul hx hb dX1_sayingWordZero_42 ?_
              refine lv_ladd hx hb dX1_sayingWordZero_43 ?_
              refine lv_nml h (fun x1_11 h => ?_)
              refine lv_lstore_n (lv' := [(1, .long x1_11), (0, .ref q_this), (3, .int x3_2), (4, .int x4_6)]) hx hb dX1_sayingWordZero_44 rfl hl (by decide) rfl (fun ls hl => ?_)
              obtain ⟨x4_12, e_13, h⟩ := nm_el h
              refine lv_iinc (v := x4_12) (lv' := [(4, .int x4_12), (1, .long x1_11), (0, .ref q_this), (3, .int x3_2)]) hx hb dX1_sayingWordZero_45 hl (k := 3) rfl (by rw [← e_13]; rfl) (by decide) rfl (fun ls hl => ?_)
              refine lv_goto (tgt := 15) hx hb dX1_sayingWordZero_48 (by decide) ?_
              exact ih _ _ _ _ _ _ h hex hP hD hS (lv_sub hl [2, 1, 3, 0] rfl)
        exact hlp F x1_1 (nI 0) o_7 H locs ls hL hex hP hD hS (lv_sub hl [1, 2, 3, 0] rfl)
  exact hlp F (lN 0) (nI 0) o_3 s.heap [] ls hL hex hP hD hS (lv_sub hl [2, 1, 0] rfl)
def D_X7_at (p1 : Int32) (v_length : Int32) (v_bytes : Nat → Int32) : Option (Int32) := (if p1 < 0 then some ((nI 0)) else (if v_length ≤ p1 then some ((nI 0)) else ck 500 p1 (some (((v_bytes p1.toNatClampNeg) &&& (nI 255))))))
abbrev rm_X7_at : Room := { frames := 0, cells := 0, slots := 0, locals := 0 }
set_option maxHeartbeats 4000000 in
set_option maxRecDepth 100000 in
theorem c_X7_at (l : Launch) (D : va_G) (ca : Nat → ClassId) (sz : Nat) (q_this q_bytes : Nat) (p1 : Int32) (v_length : Int32) (v_bytes : Nat → Int32) (r : Int32) (h : D_X7_at p1 v_length v_bytes = some (r)) : Met l yX7_at wsX7_at rm_X7_at (va_Pc [.ref q_this, .int p1] (kPre D ca [(q_this, .inr (6, [.ref q_bytes, .int v_length])), (q_bytes, .inl (ca 2, 500, .inl v_bytes))] sz)) (kQi D ca (va_A [(q_this, .inr (6, [.ref q_bytes, .int v_length])), (q_bytes, .inl (ca 2, 500, .inl v_bytes))] sz) [(q_this, .inr (6, [.ref q_bytes, .int v_length])), (q_bytes, .inl (ca 2, 500, .inl v_bytes))] r) 0 0 (va_A [(q_this, .inr (6, [.ref q_bytes, .int v_length])), (q_bytes, .inl (ca 2, 500, .inl v_bytes))] sz) := by
  refine Met.ofW (cc := cX7_at) (maxL := 2) (ret := (some .int)) (by decide +kernel) rfl ?_
  intro p e s m args below meth c s₁ B hml hv
  obtain ⟨rfl, hsz, hP, hK, hD0⟩ := hv
  have hx := B.exec
  have hb := B.bytes
  have hr := B.returns
  have hts := atoms_spec (ws := wsX7_at) B.pre
  have hown : s.vm.findClass RX7 = some m.cls := findClass_of_methodNamed B.named
  have hlocks := B.notSynchronized
  clear B
  subst hsz
  have hD := hD0.self (sz := s.heap.size)
  generalize hAe : va_A [(q_this, .inr (6, [.ref q_bytes, .int v_length])), (q_bytes, .inl (ca 2, 500, .inl v_bytes))] s.heap.size = A at hD ⊢
  have hA : ∀ q : Nat, s.heap.size ≤ q → A q := fun q h => by rw [← hAe]; exact Or.inr h
  have hS : va_S A s.heap s.heap [] := va_S.rf
  have hl := lv_entry ([.ref q_this, .int p1]) (n := 2) (Nat.le_of_ble_eq_true rfl)
  rw [lg_entry_eq]
  generalize (lg_sl ([.ref q_this, .int p1]) ++ List.replicate (2 - (lg_sl ([.ref q_this, .int p1])).length) Slot.unset).toArray = ls at hl ⊢
  have hl : lv_has ls 2 [(0, .ref q_this), (1, .int p1)] := hl
  generalize ([.ref q_this, .int p1] : List Value).toArray = args at hts ⊢
  generalize hQe : MQ below (kQi D ca (A) [(q_this, .inr (6, [.ref q_bytes, .int v_length])), (q_bytes, .inl (ca 2, 500, .inl v_bytes))] r) args s 0 0 A = Q
  have i_X7 : ∀ w ∈ u_ws RX7 TX7 2, w ∈ wsX7_at := by decide +kernel
  have k_15 := hts (.fieldLink RX7 15 "TradeWords$Text" "length" "I") (by decide +kernel)
  have k_9 := hts (.fieldLink RX7 9 "TradeWords$Text" "bytes" "[B") (by decide +kernel)
  rw [D_X7_at] at h
  refine lv_iload_n hx hb dX7_at_0 rfl (lv_at hl 1 rfl) ?_
  refine lv_if_lt (tgt := 25) hx hb dX7_at_1 (by decide) (fun c_1 => ?_) (fun c_1 => ?_)
  · replace h := ifp_el c_1 h
    refine lv_iconst (v := (nI 0)) hx hb dX7_at_25 (by decide) ?_
    cases h
    rw [← hQe]
    exact W.iret hx hb hr (fun t ht hW => ⟨⟨_, (), rfl, rfl, by rw [ht]; exact hP, va_K.moved hW.alike hK, hD⟩, hS.F ht⟩) hS.2.2 dX7_at_26
  · replace h := ifn_el c_1 h
    refine lv_iload_n hx hb dX7_at_4 rfl (lv_at hl 1 rfl) ?_
    refine lv_aload_n hx hb dX7_at_5 rfl (lv_at hl 0 rfl) ?_
    refine va_get (D := D) (ci := 6) (v := .int v_length) (C := RX7) (T := TX7) (N := 2) hx hb hts i_X7 hown hK hP 0 rfl rfl 1 (by decide) k_15 (fun _ h9 => h9) rfl dX7_at_6 ?_
    refine lv_icmp_ge (tgt := 25) hx hb dX7_at_9 (by decide) (fun c_2 => ?_) (fun c_2 => ?_)
    · replace h := ifp_el c_2 h
      refine lv_iconst (v := (nI 0)) hx hb dX7_at_25 (by decide) ?_
      cases h
      rw [← hQe]
      exact W.iret hx hb hr (fun t ht hW => ⟨⟨_, (), rfl, rfl, by rw [ht]; exact hP, va_K.moved hW.alike hK, hD⟩, hS.F ht⟩) hS.2.2 dX7_at_26
    · replace h := ifn_el c_2 h
      refine lv_aload_n hx hb dX7_at_12 rfl (lv_at hl 0 rfl) ?_
      refine va_get (D := D) (ci := 6) (v := .ref q_bytes) (C := RX7) (T := TX7) (N := 2) hx hb hts i_X7 hown hK hP 0 rfl rfl 0 (by decide) k_9 (fun _ h9 => h9) rfl dX7_at_13 ?_
      refine lv_iload_n hx hb dX7_at_16 rfl (lv_at hl 1 rfl) ?_
      obtain ⟨hi_3, h⟩ := ck_el h
      refine va_bald hx hb hK hP 1 2 rfl rfl hi_3 dX7_at_17 ?_
      refine lv_sipush (v := (nI 255)) hx hb dX7_at_18 (by decide) ?_
      refine lv_iand hx hb dX7_at_21 ?_
      refine lv_goto (tgt := 26) hx hb dX7_at_22 (by decide) ?_
      cases h
      rw [← hQe]
      exact W.iret hx hb hr (fun t ht hW => ⟨⟨_, (), rfl, rfl, by rw [ht]; exact hP, va_K.moved hW.alike hK, hD⟩, hS.F ht⟩) hS.2.2 dX7_at_26
def D_X2_isFigure (p1 : Int32) : Option (Int32) := (if p1 < (nI 48) then some ((nI 0)) else (if (nI 57) < p1 then some ((nI 0)) else some ((nI 1))))
abbrev rm_X2_isFigure : Room := { frames := 0, cells := 0, slots := 0, locals := 0 }
set_option maxHeartbeats 4000000 in
set_option maxRecDepth 100000 in
theorem c_X2_isFigure (l : Launch) (D : va_G) (ca : Nat → ClassId) (sz : Nat) (p1 : Int32) (r : Int32) (h : D_X2_isFigure p1 = some (r)) : Met l yX2_isFigure wsX2_isFigure rm_X2_isFigure (va_Pc [.int p1] (kPre D ca [] sz)) (kQi D ca (va_A [] sz) [] r) 0 0 (va_A [] sz) := by
  refine Met.ofW (cc := cX2_isFigure) (maxL := 1) (ret := (some .boolean)) (by decide +kernel) rfl ?_
  intro p e s m args below meth c s₁ B hml hv
  obtain ⟨rfl, hsz, hP, hK, hD0⟩ := hv
  have hx := B.exec
  have hb := B.bytes
  have hr := B.returns
  have hts := atoms_spec (ws := wsX2_isFigure) B.pre
  have hown : s.vm.findClass RX2 = some m.cls := findClass_of_methodNamed B.named
  have hlocks := B.notSynchronized
  clear B
  subst hsz
  have hD := hD0.self (sz := s.heap.size)
  generalize hAe : va_A [] s.heap.size = A at hD ⊢
  have hA : ∀ q : Nat, s.heap.size ≤ q → A q := fun q h => by rw [← hAe]; exact Or.inr h
  have hS : va_S A s.heap s.heap [] := va_S.rf
  have hl := lv_entry ([.int p1]) (n := 1) (Nat.le_of_ble_eq_true rfl)
  rw [lg_entry_eq]
  generalize (lg_sl ([.int p1]) ++ List.replicate (1 - (lg_sl ([.int p1])).length) Slot.unset).toArray = ls at hl ⊢
  have hl : lv_has ls 1 [(0, .int p1)] := hl
  generalize ([.int p1] : List Value).toArray = args at hts ⊢
  generalize hQe : MQ below (kQi D ca (A) [] r) args s 0 0 A = Q
  rw [D_X2_isFigure] at h
  refine lv_iload_n hx hb dX2_isFigure_0 rfl (lv_at hl 0 rfl) ?_
  refine lv_bipush (v := (nI 48)) hx hb dX2_isFigure_1 (by decide) ?_
  refine lv_icmp_lt (tgt := 16) hx hb dX2_isFigure_3 (by decide) (fun c_1 => ?_) (fun c_1 => ?_)
  · replace h := ifp_el c_1 h
    refine lv_iconst (v := (nI 0)) hx hb dX2_isFigure_16 (by decide) ?_
    cases h
    rw [← hQe]
    exact W.zret hx hb hr rfl (fun t ht hW => ⟨⟨_, (), rfl, rfl, by rw [ht]; exact hP, va_K.moved hW.alike hK, hD⟩, hS.F ht⟩) hS.2.2 dX2_isFigure_17
  · replace h := ifn_el c_1 h
    refine lv_iload_n hx hb dX2_isFigure_6 rfl (lv_at hl 0 rfl) ?_
    refine lv_bipush (v := (nI 57)) hx hb dX2_isFigure_7 (by decide) ?_
    refine lv_icmp_gt (tgt := 16) hx hb dX2_isFigure_9 (by decide) (fun c_2 => ?_) (fun c_2 => ?_)
    · replace h := ifp_el c_2 h
      refine lv_iconst (v := (nI 0)) hx hb dX2_isFigure_16 (by decide) ?_
      cases h
      rw [← hQe]
      exact W.zret hx hb hr rfl (fun t ht hW => ⟨⟨_, (), rfl, rfl, by rw [ht]; exact hP, va_K.moved hW.alike hK, hD⟩, hS.F ht⟩) hS.2.2 dX2_isFigure_17
    · replace h := ifn_el c_2 h
      refine lv_iconst (v := (nI 1)) hx hb dX2_isFigure_12 (by decide) ?_
      refine lv_goto (tgt := 17) hx hb dX2_isFigure_13 (by decide) ?_
      cases h
      rw [← hQe]
      exact W.zret hx hb hr rfl (fun t ht hW => ⟨⟨_, (), rfl, rfl, by rw [ht]; exact hP, va_K.moved hW.alike hK, hD⟩, hS.F ht⟩) hS.2.2 dX2_isFigure_17
def j_X2_readNumber_94 (p1 : Int32) (p2 : Int32) (p3 : Int32) (v_numbers : Nat → Int32) (x4_14 : Int32) (y_place_15 : Int32) : Option (Int32 × Int32 × (Nat → Int32)) := bd1 (D_X5_put 3 p1 x4_14 v_numbers) (fun y_numbers_16 => (if x4_14 < p2 then some ((nI 0), y_place_15, y_numbers_16) else (if p3 < x4_14 then some ((nI 0), y_place_15, y_numbers_16) else some ((nI 1), y_place_15, y_numbers_16))))
def D_X2_readNumber (p1 : Int32) (p2 : Int32) (p3 : Int32) (v_place : Int32) (v_text_length : Int32) (v_text_bytes : Nat → Int32) (v_numbers : Nat → Int32) : Option (Int32 × Int32 × (Nat → Int32)) := bd1 (D_X7_at v_place v_text_length v_text_bytes) (fun r_1 => bd1 (D_X2_isFigure r_1) (fun r_3 => (if r_3 = 0 then some ((nI 0), v_place, v_numbers) else bd1 (D_X7_at v_place v_text_length v_text_bytes) (fun r_6 => nm (r_6 - (nI 48)) (fun x4_8 => nm (v_place + (nI 1)) (fun w_9 => bd1 (D_X7_at w_9 v_text_length v_text_bytes) (fun r_10 => bd1 (D_X2_isFigure r_10) (fun r_12 => (if r_12 = 0 then j_X2_readNumber_94 p1 p2 p3 v_numbers x4_8 w_9 else bd1 (D_X7_at w_9 v_text_length v_text_bytes) (fun r_21 => nm (((x4_8 * (nI 10)) + r_21) - (nI 48)) (fun x4_23 => nm (w_9 + (nI 1)) (fun w_24 => j_X2_readNumber_94 p1 p2 p3 v_numbers x4_23 w_24))))))))))))
abbrev rm_X2_readNumber : Room := { frames := 1, cells := 0, slots := 0, locals := 22 }
set_option maxHeartbeats 4000000 in
set_option maxRecDepth 100000 in
theorem c_X2_readNumber (l : Launch) (D : va_G) (ca : Nat → ClassId) (sz : Nat) (q_this q_text q_text_bytes q_numbers : Nat) (p1 : Int32) (p2 : Int32) (p3 : Int32) (v_place : Int32) (v_letter : Int32) (v_word : Int32) (v_bits : Int32) (v_text_length : Int32) (v_text_bytes : Nat → Int32) (v_numbers : Nat → Int32) (r : Int32) (o_place : Int32) (o_numbers : Nat → Int32) (h : D_X2_readNumber p1 p2 p3 v_place v_text_length v_text_bytes v_numbers = some (r, o_place, o_numbers)) : Met l yX2_readNumber wsX2_readNumber rm_X2_readNumber (va_Pc [.ref q_this, .int p1, .int p2, .int p3] (kPre D ca [(q_this, .inr (2, [.ref q_text, .ref q_numbers, .int v_place, .int v_letter, .int v_word, .int v_bits])), (q_text, .inr (6, [.ref q_text_bytes, .int v_text_length])), (q_text_bytes, .inl (ca 2, 500, .inl v_text_bytes)), (q_numbers, .inl (ca 0, 3, .inl v_numbers))] sz)) (kQi D ca (va_A [(q_this, .inr (2, [.ref q_text, .ref q_numbers, .int v_place, .int v_letter, .int v_word, .int v_bits])), (q_text, .inr (6, [.ref q_text_bytes, .int v_text_length])), (q_text_bytes, .inl (ca 2, 500, .inl v_text_bytes)), (q_numbers, .inl (ca 0, 3, .inl v_numbers))] sz) [(q_this, .inr (2, [.ref q_text, .ref q_numbers, .int o_place, .int v_letter, .int v_word, .int v_bits])), (q_text, .inr (6, [.ref q_text_bytes, .int v_text_length])), (q_text_bytes, .inl (ca 2, 500, .inl v_text_bytes)), (q_numbers, .inl (ca 0, 3, .inl o_numbers))] r) 0 0 (va_A [(q_this, .inr (2, [.ref q_text, .ref q_numbers, .int v_place, .int v_letter, .int v_word, .int v_bits])), (q_text, .inr (6, [.ref q_text_bytes, .int v_text_length])), (q_text_bytes, .inl (ca 2, 500, .inl v_text_bytes)), (q_numbers, .inl (ca 0, 3, .inl v_numbers))] sz) := by
  refine Met.ofW (cc := cX2_readNumber) (maxL := 5) (ret := (some .boolean)) (by decide +kernel) rfl ?_
  intro p e s m args below meth c s₁ B hml hv
  obtain ⟨rfl, hsz, hP, hK, hD0⟩ := hv
  have hx := B.exec
  have hb := B.bytes
  have hr := B.returns
  have hts := atoms_spec (ws := wsX2_readNumber) B.pre
  have hown : s.vm.findClass RX2 = some m.cls := findClass_of_methodNamed B.named
  have hlocks := B.notSynchronized
  clear B
  subst hsz
  have hD := hD0.self (sz := s.heap.size)
  generalize hAe : va_A [(q_this, .inr (2, [.ref q_text, .ref q_numbers, .int v_place, .int v_letter, .int v_word, .int v_bits])), (q_text, .inr (6, [.ref q_text_bytes, .int v_text_length])), (q_text_bytes, .inl (ca 2, 500, .inl v_text_bytes)), (q_numbers, .inl (ca 0, 3, .inl v_numbers))] s.heap.size = A at hD ⊢
  have hA : ∀ q : Nat, s.heap.size ≤ q → A q := fun q h => by rw [← hAe]; exact Or.inr h
  have hS : va_S A s.heap s.heap [] := va_S.rf
  have hl := lv_entry ([.ref q_this, .int p1, .int p2, .int p3]) (n := 5) (Nat.le_of_ble_eq_true rfl)
  rw [lg_entry_eq]
  generalize (lg_sl ([.ref q_this, .int p1, .int p2, .int p3]) ++ List.replicate (5 - (lg_sl ([.ref q_this, .int p1, .int p2, .int p3])).length) Slot.unset).toArray = ls at hl ⊢
  have hl : lv_has ls 5 [(0, .ref q_this), (1, .int p1), (2, .int p2), (3, .int p3)] := hl
  generalize ([.ref q_this, .int p1, .int p2, .int p3] : List Value).toArray = args at hts ⊢
  generalize hQe : MQ below (kQi D ca (A) [(q_this, .inr (2, [.ref q_text, .ref q_numbers, .int o_place, .int v_letter, .int v_word, .int v_bits])), (q_text, .inr (6, [.ref q_text_bytes, .int v_text_length])), (q_text_bytes, .inl (ca 2, 500, .inl v_text_bytes)), (q_numbers, .inl (ca 0, 3, .inl o_numbers))] r) args s 0 0 A = Q
  have i_X2 : ∀ w ∈ u_ws RX2 TX2 6, w ∈ wsX2_readNumber := by decide +kernel
  have k_15 := hts (.fieldLink RX2 15 "TradeWords$Item" "text" "LTradeWords$Text;") (by decide +kernel)
  have k_19 := hts (.fieldLink RX2 19 "TradeWords$Item" "place" "I") (by decide +kernel)
  have k_9 := hts (.fieldLink RX2 9 "TradeWords$Item" "numbers" "[I") (by decide +kernel)
  rw [D_X2_readNumber] at h
  refine lv_aload_n hx hb dX2_readNumber_0 rfl (lv_at hl 0 rfl) ?_
  refine va_get (D := D) (ci := 2) (v := .ref q_text) (C := RX2) (T := TX2) (N := 6) hx hb hts i_X2 hown hK hP 0 rfl rfl 0 (by decide) k_15 (fun _ h9 => h9) rfl dX2_readNumber_1 ?_
  refine lv_aload_n hx hb dX2_readNumber_4 rfl (lv_at hl 0 rfl) ?_
  refine va_get (D := D) (ci := 2) (v := .int v_place) (C := RX2) (T := TX2) (N := 6) hx hb hts i_X2 hown hK hP 0 rfl rfl 2 (by decide) k_19 (fun _ h9 => h9) rfl dX2_readNumber_5 ?_
  obtain ⟨r_1, hg_2, h⟩ := bd1_el h
  refine kx_Vi (As := [.int v_place]) (rest := []) (wr := [(q_this, .inr (2, [.ref q_text, .ref q_numbers, .int v_place, .int v_letter, .int v_word, .int v_bits])), (q_numbers, .inl (ca 0, 3, .inl v_numbers))]) (w1 := [(q_text, .inr (6, [.ref q_text_bytes, .int v_text_length])), (q_text_bytes, .inl (ca 2, 500, .inl v_text_bytes))]) (wn := [(q_this, .inr (2, [.ref q_text, .ref q_numbers, .int v_place, .int v_letter, .int v_word, .int v_bits])), (q_text, .inr (6, [.ref q_text_bytes, .int v_text_length])), (q_text_bytes, .inl (ca 2, 500, .inl v_text_bytes)), (q_numbers, .inl (ca 0, 3, .inl v_numbers))]) ⟨hx, hb, hml, hown, hts⟩ (c_X7_at l D ca s.heap.size q_text q_text_bytes v_place v_text_length v_text_bytes r_1 hg_2) (cwV 1 hts gX2_readNumber_X7_at rfl rfl rfl (by decide +kernel) ⟨(Nat.le_of_ble_eq_true rfl), (Nat.le_of_ble_eq_true rfl)⟩) hK hP hD hS hA (ci := 6) (q0 := 0) rfl rfl [1, 2] [0, 3] [0, 2, 3, 1] rfl rfl rfl rfl (by decide) rfl rfl rfl hl.1 rfl (Nat.le_of_ble_eq_true rfl) dX2_readNumber_8 ⟨Nat.zero_le _, Nat.zero_le _⟩ (fun H locs hP hD hS => ?_)
  obtain ⟨r_3, hg_4, h⟩ := bd1_el h
  refine kx_Si (As := [.int r_1]) (rest := []) (wr := [(q_this, .inr (2, [.ref q_text, .ref q_numbers, .int v_place, .int v_letter, .int v_word, .int v_bits])), (q_text, .inr (6, [.ref q_text_bytes, .int v_text_length])), (q_text_bytes, .inl (ca 2, 500, .inl v_text_bytes)), (q_numbers, .inl (ca 0, 3, .inl v_numbers))]) (w1 := []) (wn := [(q_this, .inr (2, [.ref q_text, .ref q_numbers, .int v_place, .int v_letter, .int v_word, .int v_bits])), (q_text, .inr (6, [.ref q_text_bytes, .int v_text_length])), (q_text_bytes, .inl (ca 2, 500, .inl v_text_bytes)), (q_numbers, .inl (ca 0, 3, .inl v_numbers))]) ⟨hx, hb, hml, hown, hts⟩ (c_X2_isFigure l D ca H.size r_1 r_3 hg_4) (va_cwS 1 hts gX2_readNumber_X2_isFigure rfl rfl rfl (by decide +kernel) ⟨(Nat.le_of_ble_eq_true rfl), (Nat.le_of_ble_eq_true rfl)⟩) hK hP hD hS hA [] [0, 1, 2, 3] [0, 1, 2, 3] rfl rfl rfl rfl (by decide) rfl rfl rfl hl.1 rfl (Nat.le_of_ble_eq_true rfl) dX2_readNumber_11 ⟨Nat.zero_le _, Nat.zero_le _⟩ (fun H locs hP hD hS => ?_)
  refine lv_if_ne (tgt := 19) hx hb dX2_readNumber_14 (by decide) (fun c_5 => ?_) (fun c_5 => ?_)
  · replace h := ifn_el c_5 h
    refine lv_aload_n hx hb dX2_readNumber_19 rfl (lv_at hl 0 rfl) ?_
    refine va_get (D := D) (ci := 2) (v := .ref q_text) (C := RX2) (T := TX2) (N := 6) hx hb hts i_X2 hown hK hP 0 rfl rfl 0 (by decide) k_15 (fun _ h9 => h9) rfl dX2_readNumber_20 ?_
    refine lv_aload_n hx hb dX2_readNumber_23 rfl (lv_at hl 0 rfl) ?_
    refine va_get (D := D) (ci := 2) (v := .int v_place) (C := RX2) (T := TX2) (N := 6) hx hb hts i_X2 hown hK hP 0 rfl rfl 2 (by decide) k_19 (fun _ h9 => h9) rfl dX2_readNumber_24 ?_
    obtain ⟨r_6, hg_7, h⟩ := bd1_el h
    refine kx_Vi (As := [.int v_place]) (rest := []) (wr := [(q_this, .inr (2, [.ref q_text, .ref q_numbers, .int v_place, .int v_letter, .int v_word, .int v_bits])), (q_numbers, .inl (ca 0, 3, .inl v_numbers))]) (w1 := [(q_text, .inr (6, [.ref q_text_bytes, .int v_text_length])), (q_text_bytes, .inl (ca 2, 500, .inl v_text_bytes))]) (wn := [(q_this, .inr (2, [.ref q_text, .ref q_numbers, .int v_place, .int v_letter, .int v_word, .int v_bits])), (q_text, .inr (6, [.ref q_text_bytes, .int v_text_length])), (q_text_bytes, .inl (ca 2, 500, .inl v_text_bytes)), (q_numbers, .inl (ca 0, 3, .inl v_numbers))]) ⟨hx, hb, hml, hown, hts⟩ (c_X7_at l D ca H.size q_text q_text_bytes v_place v_text_length v_text_bytes r_6 hg_7) (cwV 1 hts gX2_readNumber_X7_at rfl rfl rfl (by decide +kernel) ⟨(Nat.le_of_ble_eq_true rfl), (Nat.le_of_ble_eq_true rfl)⟩) hK hP hD hS hA (ci := 6) (q0 := 0) rfl rfl [1, 2] [0, 3] [0, 2, 3, 1] rfl rfl rfl rfl (by decide) rfl rfl rfl hl.1 rfl (Nat.le_of_ble_eq_true rfl) dX2_readNumber_27 ⟨Nat.zero_le _, Nat.zero_le _⟩ (fun H locs hP hD hS => ?_)
    refine lv_bipush (v := (nI 48)) hx hb dX2_readNumber_30 (by decide) ?_
    refine lv_isub hx hb dX2_readNumber_32 ?_
    refine lv_nmi h (fun x4_8 h => ?_)
    refine lv_istore (lv' := [(4, .int x4_8), (0, .ref q_this), (1, .int p1), (2, .int p2), (3, .int p3)]) hx hb dX2_readNumber_33 hl (by decide) rfl (fun ls hl => ?_)
    refine lv_aload_n hx hb dX2_readNumber_35 rfl (lv_at hl 1 rfl) ?_
    refine lv_dup hx hb dX2_readNumber_36 rfl ?_
    refine va_get (D := D) (ci := 2) (v := .int v_place) (C := RX2) (T := TX2) (N := 6) hx hb hts i_X2 hown hK hP 0 rfl rfl 2 (by decide) k_19 (fun _ h9 => h9) rfl dX2_readNumber_37 ?_
    refine lv_iconst (v := (nI 1)) hx hb dX2_readNumber_40 (by decide) ?_
    refine lv_iadd hx hb dX2_readNumber_41 ?_
    refine lv_nmi h (fun w_9 h => ?_)
    refine va_put (D := D) (ci := 2) (v := .int w_9) (ty := .int) (C := RX2) (T := TX2) (N := 6) hx hb hts i_X2 tyX2 tyX2_ok nmX2 hown hK hP hD hS 0 rfl rfl 2 (by decide) k_19 (fun _ h9 => h9) rfl (by decide +kernel) rfl rfl (Nat.le_of_ble_eq_true rfl) dX2_readNumber_42 (fun H locs hP hD hS => ?_)
    have hP : va_P D vwCl [(q_this, .inr (2, [.ref q_text, .ref q_numbers, .int w_9, .int v_letter, .int v_word, .int v_bits])), (q_text, .inr (6, [.ref q_text_bytes, .int v_text_length])), (q_text_bytes, .inl (ca 2, 500, .inl v_text_bytes)), (q_numbers, .inl (ca 0, 3, .inl v_numbers))] H := hP
    have hD : va_D A [(q_this, .inr (2, [.ref q_text, .ref q_numbers, .int w_9, .int v_letter, .int v_word, .int v_bits])), (q_text, .inr (6, [.ref q_text_bytes, .int v_text_length])), (q_text_bytes, .inl (ca 2, 500, .inl v_text_bytes)), (q_numbers, .inl (ca 0, 3, .inl v_numbers))] := hD
    refine lv_aload_n hx hb dX2_readNumber_45 rfl (lv_at hl 1 rfl) ?_
    refine va_get (D := D) (ci := 2) (v := .ref q_text) (C := RX2) (T := TX2) (N := 6) hx hb hts i_X2 hown hK hP 0 rfl rfl 0 (by decide) k_15 (fun _ h9 => h9) rfl dX2_readNumber_46 ?_
    refine lv_aload_n hx hb dX2_readNumber_49 rfl (lv_at hl 1 rfl) ?_
    refine va_get (D := D) (ci := 2) (v := .int w_9) (C := RX2) (T := TX2) (N := 6) hx hb hts i_X2 hown hK hP 0 rfl rfl 2 (by decide) k_19 (fun _ h9 => h9) rfl dX2_readNumber_50 ?_
    obtain ⟨r_10, hg_11, h⟩ := bd1_el h
    refine kx_Vi (As := [.int w_9]) (rest := []) (wr := [(q_this, .inr (2, [.ref q_text, .ref q_numbers, .int w_9, .int v_letter, .int v_word, .int v_bits])), (q_numbers, .inl (ca 0, 3, .inl v_numbers))]) (w1 := [(q_text, .inr (6, [.ref q_text_bytes, .int v_text_length])), (q_text_bytes, .inl (ca 2, 500, .inl v_text_bytes))]) (wn := [(q_this, .inr (2, [.ref q_text, .ref q_numbers, .int w_9, .int v_letter, .int v_word, .int v_bits])), (q_text, .inr (6, [.ref q_text_bytes, .int v_text_length])), (q_text_bytes, .inl (ca 2, 500, .inl v_text_bytes)), (q_numbers, .inl (ca 0, 3, .inl v_numbers))]) ⟨hx, hb, hml, hown, hts⟩ (c_X7_at l D ca H.size q_text q_text_bytes w_9 v_text_length v_text_bytes r_10 hg_11) (cwV 1 hts gX2_readNumber_X7_at rfl rfl rfl (by decide +kernel) ⟨(Nat.le_of_ble_eq_true rfl), (Nat.le_of_ble_eq_true rfl)⟩) hK hP hD hS hA (ci := 6) (q0 := 0) rfl rfl [1, 2] [0, 3] [0, 2, 3, 1] rfl rfl rfl rfl (by decide) rfl rfl rfl hl.1 rfl (Nat.le_of_ble_eq_true rfl) dX2_readNumber_53 ⟨Nat.zero_le _, Nat.zero_le _⟩ (fun H locs hP hD hS => ?_)
    obtain ⟨r_12, hg_13, h⟩ := bd1_el h
    refine kx_Si (As := [.int r_10]) (rest := []) (wr := [(q_this, .inr (2, [.ref q_text, .ref q_numbers, .int w_9, .int v_letter, .int v_word, .int v_bits])), (q_text, .inr (6, [.ref q_text_bytes, .int v_text_length])), (q_text_bytes, .inl (ca 2, 500, .inl v_text_bytes)), (q_numbers, .inl (ca 0, 3, .inl v_numbers))]) (w1 := []) (wn := [(q_this, .inr (2, [.ref q_text, .ref q_numbers, .int w_9, .int v_letter, .int v_word, .int v_bits])), (q_text, .inr (6, [.ref q_text_bytes, .int v_text_length])), (q_text_bytes, .inl (ca 2, 500, .inl v_text_bytes)), (q_numbers, .inl (ca 0, 3, .inl v_numbers))]) ⟨hx, hb, hml, hown, hts⟩ (c_X2_isFigure l D ca H.size r_10 r_12 hg_13) (va_cwS 1 hts gX2_readNumber_X2_isFigure rfl rfl rfl (by decide +kernel) ⟨(Nat.le_of_ble_eq_true rfl), (Nat.le_of_ble_eq_true rfl)⟩) hK hP hD hS hA [] [0, 1, 2, 3] [0, 1, 2, 3] rfl rfl rfl rfl (by decide) rfl rfl rfl hl.1 rfl (Nat.le_of_ble_eq_true rfl) dX2_readNumber_56 ⟨Nat.zero_le _, Nat.zero_le _⟩ (fun H locs hP hD hS => ?_)
    have hj_94 : ∀ (x4_14 : Int32) (y_place_15 : Int32) (H : Heap) (locs : List Loc) (ls : Array Slot), j_X2_readNumber_94 p1 p2 p3 v_numbers x4_14 y_place_15 = some (r, o_place, o_numbers) → va_P D vwCl [(q_this, .inr (2, [.ref q_text, .ref q_numbers, .int y_place_15, .int v_letter, .int v_word, .int v_bits])), (q_text, .inr (6, [.ref q_text_bytes, .int v_text_length])), (q_text_bytes, .inl (ca 2, 500, .inl v_text_bytes)), (q_numbers, .inl (ca 0, 3, .inl v_numbers))] H → va_D A [(q_this, .inr (2, [.ref q_text, .ref q_numbers, .int y_place_15, .int v_letter, .int v_word, .int v_bits])), (q_text, .inr (6, [.ref q_text_bytes, .int v_text_length])), (q_text_bytes, .inl (ca 2, 500, .inl v_text_bytes)), (q_numbers, .inl (ca 0, 3, .inl v_numbers))] → va_S A s.heap H locs → lv_has ls 5 [(0, .ref q_this), (1, .int p1), (2, .int p2), (3, .int p3), (4, .int x4_14)] → W p l e (headSpec wsX2_readNumber rm_X2_readNumber).room s m args below meth c H locs 0 0 Q (F0 m 94 ls []) := by
      intro x4_14 y_place_15 H locs ls h hP hD hS hl
      rw [j_X2_readNumber_94] at h
      refine lv_aload_n hx hb dX2_readNumber_94 rfl (lv_at hl 0 rfl) ?_
      refine va_get (D := D) (ci := 2) (v := .ref q_numbers) (C := RX2) (T := TX2) (N := 6) hx hb hts i_X2 hown hK hP 0 rfl rfl 1 (by decide) k_9 (fun _ h9 => h9) rfl dX2_readNumber_95 ?_
      refine lv_iload_n hx hb dX2_readNumber_98 rfl (lv_at hl 1 rfl) ?_
      refine lv_iload hx hb dX2_readNumber_99 (lv_at hl 4 rfl) ?_
      obtain ⟨y_numbers_16, hg_17, h⟩ := bd1_el h
      refine kx_Sv (As := [.ref q_numbers, .int p1, .int x4_14]) (rest := []) (wr := [(q_this, .inr (2, [.ref q_text, .ref q_numbers, .int y_place_15, .int v_letter, .int v_word, .int v_bits])), (q_text, .inr (6, [.ref q_text_bytes, .int v_text_length])), (q_text_bytes, .inl (ca 2, 500, .inl v_text_bytes))]) (w1 := [(q_numbers, .inl (ca 0, 3, .inl y_numbers_16))]) (wn := [(q_this, .inr (2, [.ref q_text, .ref q_numbers, .int y_place_15, .int v_letter, .int v_word, .int v_bits])), (q_text, .inr (6, [.ref q_text_bytes, .int v_text_length])), (q_text_bytes, .inl (ca 2, 500, .inl v_text_bytes)), (q_numbers, .inl (ca 0, 3, .inl y_numbers_16))]) ⟨hx, hb, hml, hown, hts⟩ (c_X5_put l D ca H.size q_numbers 3 p1 x4_14 v_numbers y_numbers_16 hg_17) (va_cwS 3 hts gX2_readNumber_X5_put rfl rfl rfl (by decide +kernel) ⟨(Nat.le_of_ble_eq_true rfl), (Nat.le_of_ble_eq_true rfl)⟩) hK hP hD hS hA [3] [0, 1, 2] [0, 1, 2, 3] rfl rfl rfl rfl (by decide) rfl rfl rfl hl.1 rfl (Nat.le_of_ble_eq_true rfl) dX2_readNumber_101 ⟨Nat.zero_le _, Nat.zero_le _⟩ (fun H locs hP hD hS => ?_)
      refine lv_iload hx hb dX2_readNumber_104 (lv_at hl 4 rfl) ?_
      refine lv_iload_n hx hb dX2_readNumber_106 rfl (lv_at hl 2 rfl) ?_
      refine lv_icmp_lt (tgt := 120) hx hb dX2_readNumber_107 (by decide) (fun c_18 => ?_) (fun c_18 => ?_)
      · replace h := ifp_el c_18 h
        refine lv_iconst (v := (nI 0)) hx hb dX2_readNumber_120 (by decide) ?_
        cases h
        rw [← hQe]
        exact W.zret hx hb hr rfl (fun t ht hW => ⟨⟨_, (), rfl, rfl, by rw [ht]; exact hP, va_K.moved hW.alike hK, hD⟩, hS.F ht⟩) hS.2.2 dX2_readNumber_121
      · replace h := ifn_el c_18 h
        refine lv_iload hx hb dX2_readNumber_110 (lv_at hl 4 rfl) ?_
        refine lv_iload_n hx hb dX2_readNumber_112 rfl (lv_at hl 3 rfl) ?_
        refine lv_icmp_gt (tgt := 120) hx hb dX2_readNumber_113 (by decide) (fun c_19 => ?_) (fun c_19 => ?_)
        · replace h := ifp_el c_19 h
          refine lv_iconst (v := (nI 0)) hx hb dX2_readNumber_120 (by decide) ?_
          cases h
          rw [← hQe]
          exact W.zret hx hb hr rfl (fun t ht hW => ⟨⟨_, (), rfl, rfl, by rw [ht]; exact hP, va_K.moved hW.alike hK, hD⟩, hS.F ht⟩) hS.2.2 dX2_readNumber_121
        · replace h := ifn_el c_19 h
          refine lv_iconst (v := (nI 1)) hx hb dX2_readNumber_116 (by decide) ?_
          refine lv_goto (tgt := 121) hx hb dX2_readNumber_117 (by decide) ?_
          cases h
          rw [← hQe]
          exact W.zret hx hb hr rfl (fun t ht hW => ⟨⟨_, (), rfl, rfl, by rw [ht]; exact hP, va_K.moved hW.alike hK, hD⟩, hS.F ht⟩) hS.2.2 dX2_readNumber_121
    refine lv_if_eq (tgt := 94) hx hb dX2_readNumber_59 (by decide) (fun c_20 => ?_) (fun c_20 => ?_)
    · replace h := ifp_el c_20 h
      exact hj_94 _ _ _ _ _ h hP hD hS (lv_sub hl [1, 2, 3, 4, 0] rfl)
    · replace h := ifn_el c_20 h
      refine lv_iload hx hb dX2_readNumber_62 (lv_at hl 0 rfl) ?_
      refine lv_bipush (v := (nI 10)) hx hb dX2_readNumber_64 (by decide) ?_
      refine lv_imul hx hb dX2_readNumber_66 ?_
      refine lv_aload_n hx hb dX2_readNumber_67 rfl (lv_at hl 1 rfl) ?_
      refine va_get (D := D) (ci := 2) (v := .ref q_text) (C := RX2) (T := TX2) (N := 6) hx hb hts i_X2 hown hK hP 0 rfl rfl 0 (by decide) k_15 (fun _ h9 => h9) rfl dX2_readNumber_68 ?_
      refine lv_aload_n hx hb dX2_readNumber_71 rfl (lv_at hl 1 rfl) ?_
      refine va_get (D := D) (ci := 2) (v := .int w_9) (C := RX2) (T := TX2) (N := 6) hx hb hts i_X2 hown hK hP 0 rfl rfl 2 (by decide) k_19 (fun _ h9 => h9) rfl dX2_readNumber_72 ?_
      obtain ⟨r_21, hg_22, h⟩ := bd1_el h
      refine kx_Vi (As := [.int w_9]) (rest := [.int (x4_8 * (nI 10))]) (wr := [(q_this, .inr (2, [.ref q_text, .ref q_numbers, .int w_9, .int v_letter, .int v_word, .int v_bits])), (q_numbers, .inl (ca 0, 3, .inl v_numbers))]) (w1 := [(q_text, .inr (6, [.ref q_text_bytes, .int v_text_length])), (q_text_bytes, .inl (ca 2, 500, .inl v_text_bytes))]) (wn := [(q_this, .inr (2, [.ref q_text, .ref q_numbers, .int w_9, .int v_letter, .int v_word, .int v_bits])), (q_text, .inr (6, [.ref q_text_bytes, .int v_text_length])), (q_text_bytes, .inl (ca 2, 500, .inl v_text_bytes)), (q_numbers, .inl (ca 0, 3, .inl v_numbers))]) ⟨hx, hb, hml, hown, hts⟩ (c_X7_at l D ca H.size q_text q_text_bytes w_9 v_text_length v_text_bytes r_21 hg_22) (cwV 1 hts gX2_readNumber_X7_at rfl rfl rfl (by decide +kernel) ⟨(Nat.le_of_ble_eq_true rfl), (Nat.le_of_ble_eq_true rfl)⟩) hK hP hD hS hA (ci := 6) (q0 := 0) rfl rfl [1, 2] [0, 3] [0, 2, 3, 1] rfl rfl rfl rfl (by decide) rfl rfl rfl hl.1 rfl (Nat.le_of_ble_eq_true rfl) dX2_readNumber_75 ⟨Nat.zero_le _, Nat.zero_le _⟩ (fun H locs hP hD hS => ?_)
      refine lv_iadd hx hb dX2_readNumber_78 ?_
      refine lv_bipush (v := (nI 48)) hx hb dX2_readNumber_79 (by decide) ?_
      refine lv_isub hx hb dX2_readNumber_81 ?_
      refine lv_nmi h (fun x4_23 h => ?_)
      refine lv_istore (lv' := [(4, .int x4_23), (0, .ref q_this), (1, .int p1), (2, .int p2), (3, .int p3)]) hx hb dX2_readNumber_82 hl (by decide) rfl (fun ls hl => ?_)
      refine lv_aload_n hx hb dX2_readNumber_84 rfl (lv_at hl 1 rfl) ?_
      refine lv_dup hx hb dX2_readNumber_85 rfl ?_
      refine va_get (D := D) (ci := 2) (v := .int w_9) (C := RX2) (T := TX2) (N := 6) hx hb hts i_X2 hown hK hP 0 rfl rfl 2 (by decide) k_19 (fun _ h9 => h9) rfl dX2_readNumber_86 ?_
      refine lv_iconst (v := (nI 1)) hx hb dX2_readNumber_89 (by decide) ?_
      refine lv_iadd hx hb dX2_readNumber_90 ?_
      refine lv_nmi h (fun w_24 h => ?_)
      refine va_put (D := D) (ci := 2) (v := .int w_24) (ty := .int) (C := RX2) (T := TX2) (N := 6) hx hb hts i_X2 tyX2 tyX2_ok nmX2 hown hK hP hD hS 0 rfl rfl 2 (by decide) k_19 (fun _ h9 => h9) rfl (by decide +kernel) rfl rfl (Nat.le_of_ble_eq_true rfl) dX2_readNumber_91 (fun H locs hP hD hS => ?_)
      have hP : va_P D vwCl [(q_this, .inr (2, [.ref q_text, .ref q_numbers, .int w_24, .int v_letter, .int v_word, .int v_bits])), (q_text, .inr (6, [.ref q_text_bytes, .int v_text_length])), (q_text_bytes, .inl (ca 2, 500, .inl v_text_bytes)), (q_numbers, .inl (ca 0, 3, .inl v_numbers))] H := hP
      have hD : va_D A [(q_this, .inr (2, [.ref q_text, .ref q_numbers, .int w_24, .int v_letter, .int v_word, .int v_bits])), (q_text, .inr (6, [.ref q_text_bytes, .int v_text_length])), (q_text_bytes, .inl (ca 2, 500, .inl v_text_bytes)), (q_numbers, .inl (ca 0, 3, .inl v_numbers))] := hD
      exact hj_94 _ _ _ _ _ h hP hD hS (lv_sub hl [1, 2, 3, 4, 0] rfl)
  · replace h := ifp_el c_5 h
    refine lv_iconst (v := (nI 0)) hx hb dX2_readNumber_17 (by decide) ?_
    cases h
    rw [← hQe]
    exact W.zret hx hb hr rfl (fun t ht hW => ⟨⟨_, (), rfl, rfl, by rw [ht]; exact hP, va_K.moved hW.alike hK, hD⟩, hS.F ht⟩) hS.2.2 dX2_readNumber_18
def D_X2_passes (p1 : Int32) (v_place : Int32) (v_text_length : Int32) (v_text_bytes : Nat → Int32) : Option (Int32 × Int32) := bd1 (D_X7_at v_place v_text_length v_text_bytes) (fun r_1 => (if r_1 = p1 then nm (v_place + (nI 1)) (fun w_4 => some ((nI 1), w_4)) else some ((nI 0), v_place)))
abbrev rm_X2_passes : Room := { frames := 1, cells := 0, slots := 0, locals := 21 }
set_option maxHeartbeats 4000000 in
set_option maxRecDepth 100000 in
theorem c_X2_passes (l : Launch) (D : va_G) (ca : Nat → ClassId) (sz : Nat) (q_this q_text q_text_bytes q_numbers : Nat) (p1 : Int32) (v_place : Int32) (v_letter : Int32) (v_word : Int32) (v_bits : Int32) (v_text_length : Int32) (v_text_bytes : Nat → Int32) (r : Int32) (o_place : Int32) (h : D_X2_passes p1 v_place v_text_length v_text_bytes = some (r, o_place)) : Met l yX2_passes wsX2_passes rm_X2_passes (va_Pc [.ref q_this, .int p1] (kPre D ca [(q_this, .inr (2, [.ref q_text, .ref q_numbers, .int v_place, .int v_letter, .int v_word, .int v_bits])), (q_text, .inr (6, [.ref q_text_bytes, .int v_text_length])), (q_text_bytes, .inl (ca 2, 500, .inl v_text_bytes))] sz)) (kQi D ca (va_A [(q_this, .inr (2, [.ref q_text, .ref q_numbers, .int v_place, .int v_letter, .int v_word, .int v_bits])), (q_text, .inr (6, [.ref q_text_bytes, .int v_text_length])), (q_text_bytes, .inl (ca 2, 500, .inl v_text_bytes))] sz) [(q_this, .inr (2, [.ref q_text, .ref q_numbers, .int o_place, .int v_letter, .int v_word, .int v_bits])), (q_text, .inr (6, [.ref q_text_bytes, .int v_text_length])), (q_text_bytes, .inl (ca 2, 500, .inl v_text_bytes))] r) 0 0 (va_A [(q_this, .inr (2, [.ref q_text, .ref q_numbers, .int v_place, .int v_letter, .int v_word, .int v_bits])), (q_text, .inr (6, [.ref q_text_bytes, .int v_text_length])), (q_text_bytes, .inl (ca 2, 500, .inl v_text_bytes))] sz) := by
  refine Met.ofW (cc := cX2_passes) (maxL := 2) (ret := (some .boolean)) (by decide +kernel) rfl ?_
  intro p e s m args below meth c s₁ B hml hv
  obtain ⟨rfl, hsz, hP, hK, hD0⟩ := hv
  have hx := B.exec
  have hb := B.bytes
  have hr := B.returns
  have hts := atoms_spec (ws := wsX2_passes) B.pre
  have hown : s.vm.findClass RX2 = some m.cls := findClass_of_methodNamed B.named
  have hlocks := B.notSynchronized
  clear B
  subst hsz
  have hD := hD0.self (sz := s.heap.size)
  generalize hAe : va_A [(q_this, .inr (2, [.ref q_text, .ref q_numbers, .int v_place, .int v_letter, .int v_word, .int v_bits])), (q_text, .inr (6, [.ref q_text_bytes, .int v_text_length])), (q_text_bytes, .inl (ca 2, 500, .inl v_text_bytes))] s.heap.size = A at hD ⊢
  have hA : ∀ q : Nat, s.heap.size ≤ q → A q := fun q h => by rw [← hAe]; exact Or.inr h
  have hS : va_S A s.heap s.heap [] := va_S.rf
  have hl := lv_entry ([.ref q_this, .int p1]) (n := 2) (Nat.le_of_ble_eq_true rfl)
  rw [lg_entry_eq]
  generalize (lg_sl ([.ref q_this, .int p1]) ++ List.replicate (2 - (lg_sl ([.ref q_this, .int p1])).length) Slot.unset).toArray = ls at hl ⊢
  have hl : lv_has ls 2 [(0, .ref q_this), (1, .int p1)] := hl
  generalize ([.ref q_this, .int p1] : List Value).toArray = args at hts ⊢
  generalize hQe : MQ below (kQi D ca (A) [(q_this, .inr (2, [.ref q_text, .ref q_numbers, .int o_place, .int v_letter, .int v_word, .int v_bits])), (q_text, .inr (6, [.ref q_text_bytes, .int v_text_length])), (q_text_bytes, .inl (ca 2, 500, .inl v_text_bytes))] r) args s 0 0 A = Q
  have i_X2 : ∀ w ∈ u_ws RX2 TX2 6, w ∈ wsX2_passes := by decide +kernel
  have k_15 := hts (.fieldLink RX2 15 "TradeWords$Item" "text" "LTradeWords$Text;") (by decide +kernel)
  have k_19 := hts (.fieldLink RX2 19 "TradeWords$Item" "place" "I") (by decide +kernel)
  rw [D_X2_passes] at h
  refine lv_aload_n hx hb dX2_passes_0 rfl (lv_at hl 0 rfl) ?_
  refine va_get (D := D) (ci := 2) (v := .ref q_text) (C := RX2) (T := TX2) (N := 6) hx hb hts i_X2 hown hK hP 0 rfl rfl 0 (by decide) k_15 (fun _ h9 => h9) rfl dX2_passes_1 ?_
  refine lv_aload_n hx hb dX2_passes_4 rfl (lv_at hl 0 rfl) ?_
  refine va_get (D := D) (ci := 2) (v := .int v_place) (C := RX2) (T := TX2) (N := 6) hx hb hts i_X2 hown hK hP 0 rfl rfl 2 (by decide) k_19 (fun _ h9 => h9) rfl dX2_passes_5 ?_
  obtain ⟨r_1, hg_2, h⟩ := bd1_el h
  refine kx_Vi (As := [.int v_place]) (rest := []) (wr := [(q_this, .inr (2, [.ref q_text, .ref q_numbers, .int v_place, .int v_letter, .int v_word, .int v_bits]))]) (w1 := [(q_text, .inr (6, [.ref q_text_bytes, .int v_text_length])), (q_text_bytes, .inl (ca 2, 500, .inl v_text_bytes))]) (wn := [(q_this, .inr (2, [.ref q_text, .ref q_numbers, .int v_place, .int v_letter, .int v_word, .int v_bits])), (q_text, .inr (6, [.ref q_text_bytes, .int v_text_length])), (q_text_bytes, .inl (ca 2, 500, .inl v_text_bytes))]) ⟨hx, hb, hml, hown, hts⟩ (c_X7_at l D ca s.heap.size q_text q_text_bytes v_place v_text_length v_text_bytes r_1 hg_2) (cwV 1 hts gX2_passes_X7_at rfl rfl rfl (by decide +kernel) ⟨(Nat.le_of_ble_eq_true rfl), (Nat.le_of_ble_eq_true rfl)⟩) hK hP hD hS hA (ci := 6) (q0 := 0) rfl rfl [1, 2] [0] [0, 1, 2] rfl rfl rfl rfl (by decide) rfl rfl rfl hl.1 rfl (Nat.le_of_ble_eq_true rfl) dX2_passes_8 ⟨Nat.zero_le _, Nat.zero_le _⟩ (fun H locs hP hD hS => ?_)
  refine lv_iload_n hx hb dX2_passes_11 rfl (lv_at hl 1 rfl) ?_
  refine lv_icmp_eq (tgt := 17) hx hb dX2_passes_12 (by decide) (fun c_3 => ?_) (fun c_3 => ?_)
  · replace h := ifp_el c_3 h
    refine lv_aload_n hx hb dX2_passes_17 rfl (lv_at hl 0 rfl) ?_
    refine lv_dup hx hb dX2_passes_18 rfl ?_
    refine va_get (D := D) (ci := 2) (v := .int v_place) (C := RX2) (T := TX2) (N := 6) hx hb hts i_X2 hown hK hP 0 rfl rfl 2 (by decide) k_19 (fun _ h9 => h9) rfl dX2_passes_19 ?_
    refine lv_iconst (v := (nI 1)) hx hb dX2_passes_22 (by decide) ?_
    refine lv_iadd hx hb dX2_passes_23 ?_
    refine lv_nmi h (fun w_4 h => ?_)
    refine va_put (D := D) (ci := 2) (v := .int w_4) (ty := .int) (C := RX2) (T := TX2) (N := 6) hx hb hts i_X2 tyX2 tyX2_ok nmX2 hown hK hP hD hS 0 rfl rfl 2 (by decide) k_19 (fun _ h9 => h9) rfl (by decide +kernel) rfl rfl (Nat.le_of_ble_eq_true rfl) dX2_passes_24 (fun H locs hP hD hS => ?_)
    have hP : va_P D vwCl [(q_this, .inr (2, [.ref q_text, .ref q_numbers, .int w_4, .int v_letter, .int v_word, .int v_bits])), (q_text, .inr (6, [.ref q_text_bytes, .int v_text_length])), (q_text_bytes, .inl (ca 2, 500, .inl v_text_bytes))] H := hP
    have hD : va_D A [(q_this, .inr (2, [.ref q_text, .ref q_numbers, .int w_4, .int v_letter, .int v_word, .int v_bits])), (q_text, .inr (6, [.ref q_text_bytes, .int v_text_length])), (q_text_bytes, .inl (ca 2, 500, .inl v_text_bytes))] := hD
    refine lv_iconst (v := (nI 1)) hx hb dX2_passes_27 (by decide) ?_
    cases h
    rw [← hQe]
    exact W.zret hx hb hr rfl (fun t ht hW => ⟨⟨_, (), rfl, rfl, by rw [ht]; exact hP, va_K.moved hW.alike hK, hD⟩, hS.F ht⟩) hS.2.2 dX2_passes_28
  · replace h := ifn_el c_3 h
    refine lv_iconst (v := (nI 0)) hx hb dX2_passes_15 (by decide) ?_
    cases h
    rw [← hQe]
    exact W.zret hx hb hr rfl (fun t ht hW => ⟨⟨_, (), rfl, rfl, by rw [ht]; exact hP, va_K.moved hW.alike hK, hD⟩, hS.F ht⟩) hS.2.2 dX2_passes_16
def D_X2_readNumbers (p1 : Int32) (p2 : Int32) (v_place : Int32) (v_text_length : Int32) (v_text_bytes : Nat → Int32) (v_numbers : Nat → Int32) : Option (Int32 × Int32 × (Nat → Int32)) := bd3 (D_X2_readNumber (nI 0) (nI 0) p1 v_place v_text_length v_text_bytes v_numbers) (fun r_1 y_place_2 y_numbers_3 => (if r_1 = 0 then some ((nI 0), y_place_2, y_numbers_3) else bd2 (D_X2_passes (nI 44) y_place_2 v_text_length v_text_bytes) (fun r_6 y_place_7 => (if r_6 = 0 then some ((nI 0), y_place_7, y_numbers_3) else bd3 (D_X2_readNumber (nI 1) (nI 0) p2 y_place_7 v_text_length v_text_bytes y_numbers_3) (fun r_10 y_place_11 y_numbers_12 => (if r_10 = 0 then some ((nI 0), y_place_11, y_numbers_12) else some ((nI 1), y_place_11, y_numbers_12)))))))
abbrev rm_X2_readNumbers : Room := { frames := 2, cells := 0, slots := 0, locals := 46 }
set_option maxHeartbeats 4000000 in
set_option maxRecDepth 100000 in
theorem c_X2_readNumbers (l : Launch) (D : va_G) (ca : Nat → ClassId) (sz : Nat) (q_this q_text q_text_bytes q_numbers : Nat) (p1 : Int32) (p2 : Int32) (v_place : Int32) (v_letter : Int32) (v_word : Int32) (v_bits : Int32) (v_text_length : Int32) (v_text_bytes : Nat → Int32) (v_numbers : Nat → Int32) (r : Int32) (o_place : Int32) (o_numbers : Nat → Int32) (h : D_X2_readNumbers p1 p2 v_place v_text_length v_text_bytes v_numbers = some (r, o_place, o_numbers)) : Met l yX2_readNumbers wsX2_readNumbers rm_X2_readNumbers (va_Pc [.ref q_this, .int p1, .int p2] (kPre D ca [(q_this, .inr (2, [.ref q_text, .ref q_numbers, .int v_place, .int v_letter, .int v_word, .int v_bits])), (q_text, .inr (6, [.ref q_text_bytes, .int v_text_length])), (q_text_bytes, .inl (ca 2, 500, .inl v_text_bytes)), (q_numbers, .inl (ca 0, 3, .inl v_numbers))] sz)) (kQi D ca (va_A [(q_this, .inr (2, [.ref q_text, .ref q_numbers, .int v_place, .int v_letter, .int v_word, .int v_bits])), (q_text, .inr (6, [.ref q_text_bytes, .int v_text_length])), (q_text_bytes, .inl (ca 2, 500, .inl v_text_bytes)), (q_numbers, .inl (ca 0, 3, .inl v_numbers))] sz) [(q_this, .inr (2, [.ref q_text, .ref q_numbers, .int o_place, .int v_letter, .int v_word, .int v_bits])), (q_text, .inr (6, [.ref q_text_bytes, .int v_text_length])), (q_text_bytes, .inl (ca 2, 500, .inl v_text_bytes)), (q_numbers, .inl (ca 0, 3, .inl o_numbers))] r) 0 0 (va_A [(q_this, .inr (2, [.ref q_text, .ref q_numbers, .int v_place, .int v_letter, .int v_word, .int v_bits])), (q_text, .inr (6, [.ref q_text_bytes, .int v_text_length])), (q_text_bytes, .inl (ca 2, 500, .inl v_text_bytes)), (q_numbers, .inl (ca 0, 3, .inl v_numbers))] sz) := by
  refine Met.ofW (cc := cX2_readNumbers) (maxL := 3) (ret := (some .boolean)) (by decide +kernel) rfl ?_
  intro p e s m args below meth c s₁ B hml hv
  obtain ⟨rfl, hsz, hP, hK, hD0⟩ := hv
  have hx := B.exec
  have hb := B.bytes
  have hr := B.returns
  have hts := atoms_spec (ws := wsX2_readNumbers) B.pre
  have hown : s.vm.findClass RX2 = some m.cls := findClass_of_methodNamed B.named
  have hlocks := B.notSynchronized
  clear B
  subst hsz
  have hD := hD0.self (sz := s.heap.size)
  generalize hAe : va_A [(q_this, .inr (2, [.ref q_text, .ref q_numbers, .int v_place, .int v_letter, .int v_word, .int v_bits])), (q_text, .inr (6, [.ref q_text_bytes, .int v_text_length])), (q_text_bytes, .inl (ca 2, 500, .inl v_text_bytes)), (q_numbers, .inl (ca 0, 3, .inl v_numbers))] s.heap.size = A at hD ⊢
  have hA : ∀ q : Nat, s.heap.size ≤ q → A q := fun q h => by rw [← hAe]; exact Or.inr h
  have hS : va_S A s.heap s.heap [] := va_S.rf
  have hl := lv_entry ([.ref q_this, .int p1, .int p2]) (n := 3) (Nat.le_of_ble_eq_true rfl)
  rw [lg_entry_eq]
  generalize (lg_sl ([.ref q_this, .int p1, .int p2]) ++ List.replicate (3 - (lg_sl ([.ref q_this, .int p1, .int p2])).length) Slot.unset).toArray = ls at hl ⊢
  have hl : lv_has ls 3 [(0, .ref q_this), (1, .int p1), (2, .int p2)] := hl
  generalize ([.ref q_this, .int p1, .int p2] : List Value).toArray = args at hts ⊢
  generalize hQe : MQ below (kQi D ca (A) [(q_this, .inr (2, [.ref q_text, .ref q_numbers, .int o_place, .int v_letter, .int v_word, .int v_bits])), (q_text, .inr (6, [.ref q_text_bytes, .int v_text_length])), (q_text_bytes, .inl (ca 2, 500, .inl v_text_bytes)), (q_numbers, .inl (ca 0, 3, .inl o_numbers))] r) args s 0 0 A = Q
  rw [D_X2_readNumbers] at h
  refine lv_aload_n hx hb dX2_readNumbers_0 rfl (lv_at hl 0 rfl) ?_
  refine lv_iconst (v := (nI 0)) hx hb dX2_readNumbers_1 (by decide) ?_
  refine lv_iconst (v := (nI 0)) hx hb dX2_readNumbers_2 (by decide) ?_
  refine lv_iload_n hx hb dX2_readNumbers_3 rfl (lv_at hl 1 rfl) ?_
  obtain ⟨r_1, y_place_2, y_numbers_3, hg_4, h⟩ := bd3_el h
  refine kx_Vi (As := [.int (nI 0), .int (nI 0), .int p1]) (rest := []) (wr := []) (w1 := [(q_this, .inr (2, [.ref q_text, .ref q_numbers, .int y_place_2, .int v_letter, .int v_word, .int v_bits])), (q_text, .inr (6, [.ref q_text_bytes, .int v_text_length])), (q_text_bytes, .inl (ca 2, 500, .inl v_text_bytes)), (q_numbers, .inl (ca 0, 3, .inl y_numbers_3))]) (wn := [(q_this, .inr (2, [.ref q_text, .ref q_numbers, .int y_place_2, .int v_letter, .int v_word, .int v_bits])), (q_text, .inr (6, [.ref q_text_bytes, .int v_text_length])), (q_text_bytes, .inl (ca 2, 500, .inl v_text_bytes)), (q_numbers, .inl (ca 0, 3, .inl y_numbers_3))]) ⟨hx, hb, hml, hown, hts⟩ (c_X2_readNumber l D ca s.heap.size q_this q_text q_text_bytes q_numbers (nI 0) (nI 0) p1 v_place v_letter v_word v_bits v_text_length v_text_bytes v_numbers r_1 y_place_2 y_numbers_3 hg_4) (cwV 3 hts gX2_readNumbers_X2_readNumber rfl rfl rfl (by decide +kernel) ⟨(Nat.le_of_ble_eq_true rfl), (Nat.le_of_ble_eq_true rfl)⟩) hK hP hD hS hA (ci := 2) (q0 := 0) rfl rfl [0, 1, 2, 3] [] [0, 1, 2, 3] rfl rfl rfl rfl (by decide) rfl rfl rfl hl.1 rfl (Nat.le_of_ble_eq_true rfl) dX2_readNumbers_4 ⟨Nat.zero_le _, Nat.zero_le _⟩ (fun H locs hP hD hS => ?_)
  refine lv_if_eq (tgt := 33) hx hb dX2_readNumbers_7 (by decide) (fun c_5 => ?_) (fun c_5 => ?_)
  · replace h := ifp_el c_5 h
    refine lv_iconst (v := (nI 0)) hx hb dX2_readNumbers_33 (by decide) ?_
    cases h
    rw [← hQe]
    exact W.zret hx hb hr rfl (fun t ht hW => ⟨⟨_, (), rfl, rfl, by rw [ht]; exact hP, va_K.moved hW.alike hK, hD⟩, hS.F ht⟩) hS.2.2 dX2_readNumbers_34
  · replace h := ifn_el c_5 h
    refine lv_aload_n hx hb dX2_readNumbers_10 rfl (lv_at hl 0 rfl) ?_
    refine lv_bipush (v := (nI 44)) hx hb dX2_readNumbers_11 (by decide) ?_
    obtain ⟨r_6, y_place_7, hg_8, h⟩ := bd2_el h
    refine kx_Vi (As := [.int (nI 44)]) (rest := []) (wr := [(q_numbers, .inl (ca 0, 3, .inl y_numbers_3))]) (w1 := [(q_this, .inr (2, [.ref q_text, .ref q_numbers, .int y_place_7, .int v_letter, .int v_word, .int v_bits])), (q_text, .inr (6, [.ref q_text_bytes, .int v_text_length])), (q_text_bytes, .inl (ca 2, 500, .inl v_text_bytes))]) (wn := [(q_this, .inr (2, [.ref q_text, .ref q_numbers, .int y_place_7, .int v_letter, .int v_word, .int v_bits])), (q_text, .inr (6, [.ref q_text_bytes, .int v_text_length])), (q_text_bytes, .inl (ca 2, 500, .inl v_text_bytes)), (q_numbers, .inl (ca 0, 3, .inl y_numbers_3))]) ⟨hx, hb, hml, hown, hts⟩ (c_X2_passes l D ca H.size q_this q_text q_text_bytes q_numbers (nI 44) y_place_2 v_letter v_word v_bits v_text_length v_text_bytes r_6 y_place_7 hg_8) (cwV 1 hts gX2_readNumbers_X2_passes rfl rfl rfl (by decide +kernel) ⟨(Nat.le_of_ble_eq_true rfl), (Nat.le_of_ble_eq_true rfl)⟩) hK hP hD hS hA (ci := 2) (q0 := 0) rfl rfl [0, 1, 2] [3] [1, 2, 3, 0] rfl rfl rfl rfl (by decide) rfl rfl rfl hl.1 rfl (Nat.le_of_ble_eq_true rfl) dX2_readNumbers_13 ⟨Nat.zero_le _, Nat.zero_le _⟩ (fun H locs hP hD hS => ?_)
    refine lv_if_eq (tgt := 33) hx hb dX2_readNumbers_16 (by decide) (fun c_9 => ?_) (fun c_9 => ?_)
    · replace h := ifp_el c_9 h
      refine lv_iconst (v := (nI 0)) hx hb dX2_readNumbers_33 (by decide) ?_
      cases h
      rw [← hQe]
      exact W.zret hx hb hr rfl (fun t ht hW => ⟨⟨_, (), rfl, rfl, by rw [ht]; exact hP, va_K.moved hW.alike hK, hD⟩, hS.F ht⟩) hS.2.2 dX2_readNumbers_34
    · replace h := ifn_el c_9 h
      refine lv_aload_n hx hb dX2_readNumbers_19 rfl (lv_at hl 0 rfl) ?_
      refine lv_iconst (v := (nI 1)) hx hb dX2_readNumbers_20 (by decide) ?_
      refine lv_iconst (v := (nI 0)) hx hb dX2_readNumbers_21 (by decide) ?_
      refine lv_iload_n hx hb dX2_readNumbers_22 rfl (lv_at hl 2 rfl) ?_
      obtain ⟨r_10, y_place_11, y_numbers_12, hg_13, h⟩ := bd3_el h
      refine kx_Vi (As := [.int (nI 1), .int (nI 0), .int p2]) (rest := []) (wr := []) (w1 := [(q_this, .inr (2, [.ref q_text, .ref q_numbers, .int y_place_11, .int v_letter, .int v_word, .int v_bits])), (q_text, .inr (6, [.ref q_text_bytes, .int v_text_length])), (q_text_bytes, .inl (ca 2, 500, .inl v_text_bytes)), (q_numbers, .inl (ca 0, 3, .inl y_numbers_12))]) (wn := [(q_this, .inr (2, [.ref q_text, .ref q_numbers, .int y_place_11, .int v_letter, .int v_word, .int v_bits])), (q_text, .inr (6, [.ref q_text_bytes, .int v_text_length])), (q_text_bytes, .inl (ca 2, 500, .inl v_text_bytes)), (q_numbers, .inl (ca 0, 3, .inl y_numbers_12))]) ⟨hx, hb, hml, hown, hts⟩ (c_X2_readNumber l D ca H.size q_this q_text q_text_bytes q_numbers (nI 1) (nI 0) p2 y_place_7 v_letter v_word v_bits v_text_length v_text_bytes y_numbers_3 r_10 y_place_11 y_numbers_12 hg_13) (cwV 3 hts gX2_readNumbers_X2_readNumber rfl rfl rfl (by decide +kernel) ⟨(Nat.le_of_ble_eq_true rfl), (Nat.le_of_ble_eq_true rfl)⟩) hK hP hD hS hA (ci := 2) (q0 := 0) rfl rfl [0, 1, 2, 3] [] [0, 1, 2, 3] rfl rfl rfl rfl (by decide) rfl rfl rfl hl.1 rfl (Nat.le_of_ble_eq_true rfl) dX2_readNumbers_23 ⟨Nat.zero_le _, Nat.zero_le _⟩ (fun H locs hP hD hS => ?_)
      refine lv_if_eq (tgt := 33) hx hb dX2_readNumbers_26 (by decide) (fun c_14 => ?_) (fun c_14 => ?_)
      · replace h := ifp_el c_14 h
        refine lv_iconst (v := (nI 0)) hx hb dX2_readNumbers_33 (by decide) ?_
        cases h
        rw [← hQe]
        exact W.zret hx hb hr rfl (fun t ht hW => ⟨⟨_, (), rfl, rfl, by rw [ht]; exact hP, va_K.moved hW.alike hK, hD⟩, hS.F ht⟩) hS.2.2 dX2_readNumbers_34
      · replace h := ifn_el c_14 h
        refine lv_iconst (v := (nI 1)) hx hb dX2_readNumbers_29 (by decide) ?_
        refine lv_goto (tgt := 34) hx hb dX2_readNumbers_30 (by decide) ?_
        cases h
        rw [← hQe]
        exact W.zret hx hb hr rfl (fun t ht hW => ⟨⟨_, (), rfl, rfl, by rw [ht]; exact hP, va_K.moved hW.alike hK, hD⟩, hS.F ht⟩) hS.2.2 dX2_readNumbers_34
def j_X2_readWord_69 (y_place_2 : Int32) (y_word_3 : Int32)  : Option (Int32 × Int32 × Int32) := (if y_word_3 = 0 then some ((nI 0), y_place_2, y_word_3) else some ((nI 1), y_place_2, y_word_3))
def b_X2_readWord_7 (v_text_length : Int32) (v_text_bytes : Nat → Int32) (rec7 : Int32 → Int32 → Int32 → Option (Int32 × Int32 × Int32)) (x1_1 : Int32) (y_place_2 : Int32) (y_word_3 : Int32) : Option (Int32 × Int32 × Int32) := (if (nI 6) ≤ x1_1 then j_X2_readWord_69 y_place_2 y_word_3  else bd1 (D_X7_at y_place_2 v_text_length v_text_bytes) (fun r_6 => nm (r_6 - (nI 97)) (fun x2_8 => (if x2_8 < 0 then j_X2_readWord_69 y_place_2 y_word_3  else (if x2_8 < (nI 16) then bd1 (D_X8_with y_word_3 x2_8) (fun r_11 => nm (y_place_2 + (nI 1)) (fun w_13 => nm (x1_1 + (nI 1)) (fun x1_14 => rec7 x1_14 w_13 r_11))) else j_X2_readWord_69 y_place_2 y_word_3 )))))
def D_X2_readWord (F : Nat) (v_place : Int32) (v_word : Int32) (v_text_length : Int32) (v_text_bytes : Nat → Int32) : Option (Int32 × Int32 × Int32) := lpg (T := Int32 → Int32 → Int32 → Option (Int32 × Int32 × Int32)) (fun _ _ _ => none) (b_X2_readWord_7 v_text_length v_text_bytes) F (nI 0) v_place (nI 0)
abbrev rm_X2_readWord : Room := { frames := 2, cells := 0, slots := 0, locals := 42 }
set_option maxHeartbeats 4000000 in
set_option maxRecDepth 100000 in
theorem c_X2_readWord (l : Launch) (D : va_G) (ca : Nat → ClassId) (F : Nat) (sz : Nat) (q_this q_text q_text_bytes q_numbers : Nat) (v_place : Int32) (v_letter : Int32) (v_word : Int32) (v_bits : Int32) (v_text_length : Int32) (v_text_bytes : Nat → Int32) (r : Int32) (o_place : Int32) (o_word : Int32) (h : D_X2_readWord F v_place v_word v_text_length v_text_bytes = some (r, o_place, o_word)) : Met l yX2_readWord wsX2_readWord rm_X2_readWord (va_Pc [.ref q_this] (kPre D ca [(q_this, .inr (2, [.ref q_text, .ref q_numbers, .int v_place, .int v_letter, .int v_word, .int v_bits])), (q_text, .inr (6, [.ref q_text_bytes, .int v_text_length])), (q_text_bytes, .inl (ca 2, 500, .inl v_text_bytes))] sz)) (kQi D ca (va_A [(q_this, .inr (2, [.ref q_text, .ref q_numbers, .int v_place, .int v_letter, .int v_word, .int v_bits])), (q_text, .inr (6, [.ref q_text_bytes, .int v_text_length])), (q_text_bytes, .inl (ca 2, 500, .inl v_text_bytes))] sz) [(q_this, .inr (2, [.ref q_text, .ref q_numbers, .int o_place, .int v_letter, .int o_word, .int v_bits])), (q_text, .inr (6, [.ref q_text_bytes, .int v_text_length])), (q_text_bytes, .inl (ca 2, 500, .inl v_text_bytes))] r) 0 0 (va_A [(q_this, .inr (2, [.ref q_text, .ref q_numbers, .int v_place, .int v_letter, .int v_word, .int v_bits])), (q_text, .inr (6, [.ref q_text_bytes, .int v_text_length])), (q_text_bytes, .inl (ca 2, 500, .inl v_text_bytes))] sz) := by
  refine Met.ofW (cc := cX2_readWord) (maxL := 3) (ret := (some .boolean)) (by decide +kernel) rfl ?_
  intro p e s m args below meth c s₁ B hml hv
  obtain ⟨rfl, hsz, hP, hK, hD0⟩ := hv
  have hx := B.exec
  have hb := B.bytes
  have hr := B.returns
  have hts := atoms_spec (ws := wsX2_readWord) B.pre
  have hown : s.vm.findClass RX2 = some m.cls := findClass_of_methodNamed B.named
  have hlocks := B.notSynchronized
  clear B
  subst hsz
  have hD := hD0.self (sz := s.heap.size)
  generalize hAe : va_A [(q_this, .inr (2, [.ref q_text, .ref q_numbers, .int v_place, .int v_letter, .int v_word, .int v_bits])), (q_text, .inr (6, [.ref q_text_bytes, .int v_text_length])), (q_text_bytes, .inl (ca 2, 500, .inl v_text_bytes))] s.heap.size = A at hD ⊢
  have hA : ∀ q : Nat, s.heap.size ≤ q → A q := fun q h => by rw [← hAe]; exact Or.inr h
  have hS : va_S A s.heap s.heap [] := va_S.rf
  have hl := lv_entry ([.ref q_this]) (n := 3) (Nat.le_of_ble_eq_true rfl)
  rw [lg_entry_eq]
  generalize (lg_sl ([.ref q_this]) ++ List.replicate (3 - (lg_sl ([.ref q_this])).length) Slot.unset).toArray = ls at hl ⊢
  have hl : lv_has ls 3 [(0, .ref q_this)] := hl
  generalize ([.ref q_this] : List Value).toArray = args at hts ⊢
  generalize hQe : MQ below (kQi D ca (A) [(q_this, .inr (2, [.ref q_text, .ref q_numbers, .int o_place, .int v_letter, .int o_word, .int v_bits])), (q_text, .inr (6, [.ref q_text_bytes, .int v_text_length])), (q_text_bytes, .inl (ca 2, 500, .inl v_text_bytes))] r) args s 0 0 A = Q
  have i_X2 : ∀ w ∈ u_ws RX2 TX2 6, w ∈ wsX2_readWord := by decide +kernel
  have k_45 := hts (.fieldLink RX2 45 "TradeWords$Item" "word" "I") (by decide +kernel)
  have k_15 := hts (.fieldLink RX2 15 "TradeWords$Item" "text" "LTradeWords$Text;") (by decide +kernel)
  have k_19 := hts (.fieldLink RX2 19 "TradeWords$Item" "place" "I") (by decide +kernel)
  rw [D_X2_readWord] at h
  refine lv_aload_n hx hb dX2_readWord_0 rfl (lv_at hl 0 rfl) ?_
  refine lv_iconst (v := (nI 0)) hx hb dX2_readWord_1 (by decide) ?_
  refine va_put (D := D) (ci := 2) (v := .int (nI 0)) (ty := .int) (C := RX2) (T := TX2) (N := 6) hx hb hts i_X2 tyX2 tyX2_ok nmX2 hown hK hP hD hS 0 rfl rfl 4 (by decide) k_45 (fun _ h9 => h9) rfl (by decide +kernel) rfl rfl (Nat.le_of_ble_eq_true rfl) dX2_readWord_2 (fun H locs hP hD hS => ?_)
  have hP : va_P D vwCl [(q_this, .inr (2, [.ref q_text, .ref q_numbers, .int v_place, .int v_letter, .int (nI 0), .int v_bits])), (q_text, .inr (6, [.ref q_text_bytes, .int v_text_length])), (q_text_bytes, .inl (ca 2, 500, .inl v_text_bytes))] H := hP
  have hD : va_D A [(q_this, .inr (2, [.ref q_text, .ref q_numbers, .int v_place, .int v_letter, .int (nI 0), .int v_bits])), (q_text, .inr (6, [.ref q_text_bytes, .int v_text_length])), (q_text_bytes, .inl (ca 2, 500, .inl v_text_bytes))] := hD
  refine lv_iconst (v := (nI 0)) hx hb dX2_readWord_5 (by decide) ?_
  refine lv_istore_n (lv' := [(1, .int (nI 0)), (0, .ref q_this)]) hx hb dX2_readWord_6 rfl hl (by decide) rfl (fun ls hl => ?_)
  have hlp : ∀ (n : Nat) (x1_1 : Int32) (y_place_2 : Int32) (y_word_3 : Int32) (H : Heap) (locs : List Loc) (ls : Array Slot), lpg (T := Int32 → Int32 → Int32 → Option (Int32 × Int32 × Int32)) (fun _ _ _ => none) (b_X2_readWord_7 v_text_length v_text_bytes) n x1_1 y_place_2 y_word_3 = some (r, o_place, o_word) → va_P D vwCl [(q_this, .inr (2, [.ref q_text, .ref q_numbers, .int y_place_2, .int v_letter, .int y_word_3, .int v_bits])), (q_text, .inr (6, [.ref q_text_bytes, .int v_text_length])), (q_text_bytes, .inl (ca 2, 500, .inl v_text_bytes))] H → va_D A [(q_this, .inr (2, [.ref q_text, .ref q_numbers, .int y_place_2, .int v_letter, .int y_word_3, .int v_bits])), (q_text, .inr (6, [.ref q_text_bytes, .int v_text_length])), (q_text_bytes, .inl (ca 2, 500, .inl v_text_bytes))] → va_S A s.heap H locs → lv_has ls 3 [(0, .ref q_this), (1, .int x1_1)] → W p l e (headSpec wsX2_readWord rm_X2_readWord).room s m args below meth c H locs 0 0 Q (F0 m 7 ls []) := by
    intro n
    induction n with
    | zero => intro x1_1 y_place_2 y_word_3 H locs ls h; have h : (none : Option (Int32 × Int32 × Int32)) = some _ := h; cases h
    | succ n ih =>
      intro x1_1 y_place_2 y_word_3 H locs ls h hP hD hS hl
      rw [lpg_succ, b_X2_readWord_7] at h
      refine lv_iload_n hx hb dX2_readWord_7 rfl (lv_at hl 1 rfl) ?_
      refine lv_bipush (v := (nI 6)) hx hb dX2_readWord_8 (by decide) ?_
      have hj_69 : ∀  (H : Heap) (locs : List Loc) (ls : Array Slot), j_X2_readWord_69 y_place_2 y_word_3  = some (r, o_place, o_word) → va_P D vwCl [(q_this, .inr (2, [.ref q_text, .ref q_numbers, .int y_place_2, .int v_letter, .int y_word_3, .int v_bits])), (q_text, .inr (6, [.ref q_text_bytes, .int v_text_length])), (q_text_bytes, .inl (ca 2, 500, .inl v_text_bytes))] H → va_D A [(q_this, .inr (2, [.ref q_text, .ref q_numbers, .int y_place_2, .int v_letter, .int y_word_3, .int v_bits])), (q_text, .inr (6, [.ref q_text_bytes, .int v_text_length])), (q_text_bytes, .inl (ca 2, 500, .inl v_text_bytes))] → va_S A s.heap H locs → lv_has ls 3 [(0, .ref q_this)] → W p l e (headSpec wsX2_readWord rm_X2_readWord).room s m args below meth c H locs 0 0 Q (F0 m 69 ls []) := by
        intro  H locs ls h hP hD hS hl
        rw [j_X2_readWord_69] at h
        refine lv_aload_n hx hb dX2_readWord_69 rfl (lv_at hl 0 rfl) ?_
        refine va_get (D := D) (ci := 2) (v := .int y_word_3) (C := RX2) (T := TX2) (N := 6) hx hb hts i_X2 hown hK hP 0 rfl rfl 4 (by decide) k_45 (fun _ h9 => h9) rfl dX2_readWord_70 ?_
        refine lv_if_eq (tgt := 80) hx hb dX2_readWord_73 (by decide) (fun c_4 => ?_) (fun c_4 => ?_)
        · replace h := ifp_el c_4 h
          refine lv_iconst (v := (nI 0)) hx hb dX2_readWord_80 (by decide) ?_
          cases h
          rw [← hQe]
          exact W.zret hx hb hr rfl (fun t ht hW => ⟨⟨_, (), rfl, rfl, by rw [ht]; exact hP, va_K.moved hW.alike hK, hD⟩, hS.F ht⟩) hS.2.2 dX2_readWord_81
        · replace h := ifn_el c_4 h
          refine lv_iconst (v := (nI 1)) hx hb dX2_readWord_76 (by decide) ?_
          refine lv_goto (tgt := 81) hx hb dX2_readWord_77 (by decide) ?_
          cases h
          rw [← hQe]
          exact W.zret hx hb hr rfl (fun t ht hW => ⟨⟨_, (), rfl, rfl, by rw [ht]; exact hP, va_K.moved hW.alike hK, hD⟩, hS.F ht⟩) hS.2.2 dX2_readWord_81
      refine lv_icmp_ge (tgt := 69) hx hb dX2_readWord_10 (by decide) (fun c_5 => ?_) (fun c_5 => ?_)
      · replace h := ifp_el c_5 h
        exact hj_69  _ _ _ h hP hD hS (lv_sub hl [0] rfl)
      · replace h := ifn_el c_5 h
        refine lv_aload_n hx hb dX2_readWord_13 rfl (lv_at hl 0 rfl) ?_
        refine va_get (D := D) (ci := 2) (v := .ref q_text) (C := RX2) (T := TX2) (N := 6) hx hb hts i_X2 hown hK hP 0 rfl rfl 0 (by decide) k_15 (fun _ h9 => h9) rfl dX2_readWord_14 ?_
        refine lv_aload_n hx hb dX2_readWord_17 rfl (lv_at hl 0 rfl) ?_
        refine va_get (D := D) (ci := 2) (v := .int y_place_2) (C := RX2) (T := TX2) (N := 6) hx hb hts i_X2 hown hK hP 0 rfl rfl 2 (by decide) k_19 (fun _ h9 => h9) rfl dX2_readWord_18 ?_
        obtain ⟨r_6, hg_7, h⟩ := bd1_el h
        refine kx_Vi (As := [.int y_place_2]) (rest := []) (wr := [(q_this, .inr (2, [.ref q_text, .ref q_numbers, .int y_place_2, .int v_letter, .int y_word_3, .int v_bits]))]) (w1 := [(q_text, .inr (6, [.ref q_text_bytes, .int v_text_length])), (q_text_bytes, .inl (ca 2, 500, .inl v_text_bytes))]) (wn := [(q_this, .inr (2, [.ref q_text, .ref q_numbers, .int y_place_2, .int v_letter, .int y_word_3, .int v_bits])), (q_text, .inr (6, [.ref q_text_bytes, .int v_text_length])), (q_text_bytes, .inl (ca 2, 500, .inl v_text_bytes))]) ⟨hx, hb, hml, hown, hts⟩ (c_X7_at l D ca H.size q_text q_text_bytes y_place_2 v_text_length v_text_bytes r_6 hg_7) (cwV 1 hts gX2_readWord_X7_at rfl rfl rfl (by decide +kernel) ⟨(Nat.le_of_ble_eq_true rfl), (Nat.le_of_ble_eq_true rfl)⟩) hK hP hD hS hA (ci := 6) (q0 := 0) rfl rfl [1, 2] [0] [0, 1, 2] rfl rfl rfl rfl (by decide) rfl rfl rfl hl.1 rfl (Nat.le_of_ble_eq_true rfl) dX2_readWord_21 ⟨Nat.zero_le _, Nat.zero_le _⟩ (fun H locs hP hD hS => ?_)
        refine lv_bipush (v := (nI 97)) hx hb dX2_readWord_24 (by decide) ?_
        refine lv_isub hx hb dX2_readWord_26 ?_
        refine lv_nmi h (fun x2_8 h => ?_)
        refine lv_istore_n (lv' := [(2, .int x2_8), (0, .ref q_this), (1, .int x1_1)]) hx hb dX2_readWord_27 rfl hl (by decide) rfl (fun ls hl => ?_)
        refine lv_iload_n hx hb dX2_readWord_28 rfl (lv_at hl 0 rfl) ?_
        refine lv_if_lt (tgt := 69) hx hb dX2_readWord_29 (by decide) (fun c_9 => ?_) (fun c_9 => ?_)
        · replace h := ifp_el c_9 h
          exact hj_69  _ _ _ h hP hD hS (lv_sub hl [1] rfl)
        · replace h := ifn_el c_9 h
          refine lv_iload_n hx hb dX2_readWord_32 rfl (lv_at hl 0 rfl) ?_
          refine lv_bipush (v := (nI 16)) hx hb dX2_readWord_33 (by decide) ?_
          refine lv_icmp_lt (tgt := 41) hx hb dX2_readWord_35 (by decide) (fun c_10 => ?_) (fun c_10 => ?_)
          · replace h := ifp_el c_10 h
            refine lv_aload_n hx hb dX2_readWord_41 rfl (lv_at hl 1 rfl) ?_
            refine lv_aload_n hx hb dX2_readWord_42 rfl (lv_at hl 1 rfl) ?_
            refine va_get (D := D) (ci := 2) (v := .int y_word_3) (C := RX2) (T := TX2) (N := 6) hx hb hts i_X2 hown hK hP 0 rfl rfl 4 (by decide) k_45 (fun _ h9 => h9) rfl dX2_readWord_43 ?_
            refine lv_iload_n hx hb dX2_readWord_46 rfl (lv_at hl 0 rfl) ?_
            obtain ⟨r_11, hg_12, h⟩ := bd1_el h
            refine kx_Si (As := [.int y_word_3, .int x2_8]) (rest := [.ref q_this]) (wr := [(q_this, .inr (2, [.ref q_text, .ref q_numbers, .int y_place_2, .int v_letter, .int y_word_3, .int v_bits])), (q_text, .inr (6, [.ref q_text_bytes, .int v_text_length])), (q_text_bytes, .inl (ca 2, 500, .inl v_text_bytes))]) (w1 := []) (wn := [(q_this, .inr (2, [.ref q_text, .ref q_numbers, .int y_place_2, .int v_letter, .int y_word_3, .int v_bits])), (q_text, .inr (6, [.ref q_text_bytes, .int v_text_length])), (q_text_bytes, .inl (ca 2, 500, .inl v_text_bytes))]) ⟨hx, hb, hml, hown, hts⟩ (c_X8_with l D ca H.size y_word_3 x2_8 r_11 hg_12) (va_cwS 2 hts gX2_readWord_X8_with rfl rfl rfl (by decide +kernel) ⟨(Nat.le_of_ble_eq_true rfl), (Nat.le_of_ble_eq_true rfl)⟩) hK hP hD hS hA [] [0, 1, 2] [0, 1, 2] rfl rfl rfl rfl (by decide) rfl rfl rfl hl.1 rfl (Nat.le_of_ble_eq_true rfl) dX2_readWord_47 ⟨Nat.zero_le _, Nat.zero_le _⟩ (fun H locs hP hD hS => ?_)
            refine va_put (D := D) (ci := 2) (v := .int r_11) (ty := .int) (C := RX2) (T := TX2) (N := 6) hx hb hts i_X2 tyX2 tyX2_ok nmX2 hown hK hP hD hS 0 rfl rfl 4 (by decide) k_45 (fun _ h9 => h9) rfl (by decide +kernel) rfl rfl (Nat.le_of_ble_eq_true rfl) dX2_readWord_50 (fun H locs hP hD hS => ?_)
            have hP : va_P D vwCl [(q_this, .inr (2, [.ref q_text, .ref q_numbers, .int y_place_2, .int v_letter, .int r_11, .int v_bits])), (q_text, .inr (6, [.ref q_text_bytes, .int v_text_length])), (q_text_bytes, .inl (ca 2, 500, .inl v_text_bytes))] H := hP
            have hD : va_D A [(q_this, .inr (2, [.ref q_text, .ref q_numbers, .int y_place_2, .int v_letter, .int r_11, .int v_bits])), (q_text, .inr (6, [.ref q_text_bytes, .int v_text_length])), (q_text_bytes, .inl (ca 2, 500, .inl v_text_bytes))] := hD
            refine lv_aload_n hx hb dX2_readWord_53 rfl (lv_at hl 1 rfl) ?_
            refine lv_dup hx hb dX2_readWord_54 rfl ?_
            refine va_get (D := D) (ci := 2) (v := .int y_place_2) (C := RX2) (T := TX2) (N := 6) hx hb hts i_X2 hown hK hP 0 rfl rfl 2 (by decide) k_19 (fun _ h9 => h9) rfl dX2_readWord_55 ?_
            refine lv_iconst (v := (nI 1)) hx hb dX2_readWord_58 (by decide) ?_
            refine lv_iadd hx hb dX2_readWord_59 ?_
            refine lv_nmi h (fun w_13 h => ?_)
            refine va_put (D := D) (ci := 2) (v := .int w_13) (ty := .int) (C := RX2) (T := TX2) (N := 6) hx hb hts i_X2 tyX2 tyX2_ok nmX2 hown hK hP hD hS 0 rfl rfl 2 (by decide) k_19 (fun _ h9 => h9) rfl (by decide +kernel) rfl rfl (Nat.le_of_ble_eq_true rfl) dX2_readWord_60 (fun H locs hP hD hS => ?_)
            have hP : va_P D vwCl [(q_this, .inr (2, [.ref q_text, .ref q_numbers, .int w_13, .int v_letter, .int r_11, .int v_bits])), (q_text, .inr (6, [.ref q_text_bytes, .int v_text_length])), (q_text_bytes, .inl (ca 2, 500, .inl v_text_bytes))] H := hP
            have hD : va_D A [(q_this, .inr (2, [.ref q_text, .ref q_numbers, .int w_13, .int v_letter, .int r_11, .int v_bits])), (q_text, .inr (6, [.ref q_text_bytes, .int v_text_length])), (q_text_bytes, .inl (ca 2, 500, .inl v_text_bytes))] := hD
            obtain ⟨x1_14, e_15, h⟩ := nm_el h
            refine lv_iinc (v := x1_14) (lv' := [(1, .int x1_14), (2, .int x2_8), (0, .ref q_this)]) hx hb dX2_readWord_63 hl (k := 2) rfl (by rw [← e_15]; rfl) (by decide) rfl (fun ls hl => ?_)
            refine lv_goto (tgt := 7) hx hb dX2_readWord_66 (by decide) ?_
            exact ih _ _ _ _ _ _ h hP hD hS (lv_sub hl [2, 0] rfl)
          · replace h := ifn_el c_10 h
            refine lv_goto (tgt := 69) hx hb dX2_readWord_38 (by decide) ?_
            exact hj_69  _ _ _ h hP hD hS (lv_sub hl [1] rfl)
  exact hlp F (nI 0) v_place (nI 0) H locs ls h hP hD hS (lv_sub hl [1, 0] rfl)
def j_X2_readRising_78 (y_place_3 : Int32) (y_bits_4 : Int32)  : Option (Int32 × Int32 × Int32) := (if y_bits_4 = 0 then some ((nI 0), y_place_3, y_bits_4) else some ((nI 1), y_place_3, y_bits_4))
def b_X2_readRising_10 (p1 : Int32) (p2 : Int32) (v_text_length : Int32) (v_text_bytes : Nat → Int32) (rec10 : Int32 → Int32 → Int32 → Int32 → Option (Int32 × Int32 × Int32)) (x3_1 : Int32) (x4_2 : Int32) (y_place_3 : Int32) (y_bits_4 : Int32) : Option (Int32 × Int32 × Int32) := (if p2 ≤ x4_2 then j_X2_readRising_78 y_place_3 y_bits_4  else bd1 (D_X7_at y_place_3 v_text_length v_text_bytes) (fun r_7 => nm (r_7 - p1) (fun x5_9 => (if x5_9 ≤ x3_1 then j_X2_readRising_78 y_place_3 y_bits_4  else (if x5_9 < p2 then nm (y_bits_4 ||| ((nI 1) <<< (x5_9 &&& 31))) (fun w_12 => nm (y_place_3 + (nI 1)) (fun w_13 => nm (x4_2 + (nI 1)) (fun x4_14 => rec10 x5_9 x4_14 w_13 w_12))) else j_X2_readRising_78 y_place_3 y_bits_4 )))))
def D_X2_readRising (F : Nat) (p1 : Int32) (p2 : Int32) (v_place : Int32) (v_bits : Int32) (v_text_length : Int32) (v_text_bytes : Nat → Int32) : Option (Int32 × Int32 × Int32) := lpg (T := Int32 → Int32 → Int32 → Int32 → Option (Int32 × Int32 × Int32)) (fun _ _ _ _ => none) (b_X2_readRising_10 p1 p2 v_text_length v_text_bytes) F (-1 : Int32) (nI 0) v_place (nI 0)
abbrev rm_X2_readRising : Room := { frames := 1, cells := 0, slots := 0, locals := 21 }
set_option maxHeartbeats 4000000 in
set_option maxRecDepth 100000 in
theorem c_X2_readRising (l : Launch) (D : va_G) (ca : Nat → ClassId) (F : Nat) (sz : Nat) (q_this q_text q_text_bytes q_numbers : Nat) (p1 : Int32) (p2 : Int32) (v_place : Int32) (v_letter : Int32) (v_word : Int32) (v_bits : Int32) (v_text_length : Int32) (v_text_bytes : Nat → Int32) (r : Int32) (o_place : Int32) (o_bits : Int32) (h : D_X2_readRising F p1 p2 v_place v_bits v_text_length v_text_bytes = some (r, o_place, o_bits)) : Met l yX2_readRising wsX2_readRising rm_X2_readRising (va_Pc [.ref q_this, .int p1, .int p2] (kPre D ca [(q_this, .inr (2, [.ref q_text, .ref q_numbers, .int v_place, .int v_letter, .int v_word, .int v_bits])), (q_text, .inr (6, [.ref q_text_bytes, .int v_text_length])), (q_text_bytes, .inl (ca 2, 500, .inl v_text_bytes))] sz)) (kQi D ca (va_A [(q_this, .inr (2, [.ref q_text, .ref q_numbers, .int v_place, .int v_letter, .int v_word, .int v_bits])), (q_text, .inr (6, [.ref q_text_bytes, .int v_text_length])), (q_text_bytes, .inl (ca 2, 500, .inl v_text_bytes))] sz) [(q_this, .inr (2, [.ref q_text, .ref q_numbers, .int o_place, .int v_letter, .int v_word, .int o_bits])), (q_text, .inr (6, [.ref q_text_bytes, .int v_text_length])), (q_text_bytes, .inl (ca 2, 500, .inl v_text_bytes))] r) 0 0 (va_A [(q_this, .inr (2, [.ref q_text, .ref q_numbers, .int v_place, .int v_letter, .int v_word, .int v_bits])), (q_text, .inr (6, [.ref q_text_bytes, .int v_text_length])), (q_text_bytes, .inl (ca 2, 500, .inl v_text_bytes))] sz) := by
  refine Met.ofW (cc := cX2_readRising) (maxL := 6) (ret := (some .boolean)) (by decide +kernel) rfl ?_
  intro p e s m args below meth c s₁ B hml hv
  obtain ⟨rfl, hsz, hP, hK, hD0⟩ := hv
  have hx := B.exec
  have hb := B.bytes
  have hr := B.returns
  have hts := atoms_spec (ws := wsX2_readRising) B.pre
  have hown : s.vm.findClass RX2 = some m.cls := findClass_of_methodNamed B.named
  have hlocks := B.notSynchronized
  clear B
  subst hsz
  have hD := hD0.self (sz := s.heap.size)
  generalize hAe : va_A [(q_this, .inr (2, [.ref q_text, .ref q_numbers, .int v_place, .int v_letter, .int v_word, .int v_bits])), (q_text, .inr (6, [.ref q_text_bytes, .int v_text_length])), (q_text_bytes, .inl (ca 2, 500, .inl v_text_bytes))] s.heap.size = A at hD ⊢
  have hA : ∀ q : Nat, s.heap.size ≤ q → A q := fun q h => by rw [← hAe]; exact Or.inr h
  have hS : va_S A s.heap s.heap [] := va_S.rf
  have hl := lv_entry ([.ref q_this, .int p1, .int p2]) (n := 6) (Nat.le_of_ble_eq_true rfl)
  rw [lg_entry_eq]
  generalize (lg_sl ([.ref q_this, .int p1, .int p2]) ++ List.replicate (6 - (lg_sl ([.ref q_this, .int p1, .int p2])).length) Slot.unset).toArray = ls at hl ⊢
  have hl : lv_has ls 6 [(0, .ref q_this), (1, .int p1), (2, .int p2)] := hl
  generalize ([.ref q_this, .int p1, .int p2] : List Value).toArray = args at hts ⊢
  generalize hQe : MQ below (kQi D ca (A) [(q_this, .inr (2, [.ref q_text, .ref q_numbers, .int o_place, .int v_letter, .int v_word, .int o_bits])), (q_text, .inr (6, [.ref q_text_bytes, .int v_text_length])), (q_text_bytes, .inl (ca 2, 500, .inl v_text_bytes))] r) args s 0 0 A = Q
  have i_X2 : ∀ w ∈ u_ws RX2 TX2 6, w ∈ wsX2_readRising := by decide +kernel
  have k_48 := hts (.fieldLink RX2 48 "TradeWords$Item" "bits" "I") (by decide +kernel)
  have k_15 := hts (.fieldLink RX2 15 "TradeWords$Item" "text" "LTradeWords$Text;") (by decide +kernel)
  have k_19 := hts (.fieldLink RX2 19 "TradeWords$Item" "place" "I") (by decide +kernel)
  rw [D_X2_readRising] at h
  refine lv_aload_n hx hb dX2_readRising_0 rfl (lv_at hl 0 rfl) ?_
  refine lv_iconst (v := (nI 0)) hx hb dX2_readRising_1 (by decide) ?_
  refine va_put (D := D) (ci := 2) (v := .int (nI 0)) (ty := .int) (C := RX2) (T := TX2) (N := 6) hx hb hts i_X2 tyX2 tyX2_ok nmX2 hown hK hP hD hS 0 rfl rfl 5 (by decide) k_48 (fun _ h9 => h9) rfl (by decide +kernel) rfl rfl (Nat.le_of_ble_eq_true rfl) dX2_readRising_2 (fun H locs hP hD hS => ?_)
  have hP : va_P D vwCl [(q_this, .inr (2, [.ref q_text, .ref q_numbers, .int v_place, .int v_letter, .int v_word, .int (nI 0)])), (q_text, .inr (6, [.ref q_text_bytes, .int v_text_length])), (q_text_bytes, .inl (ca 2, 500, .inl v_text_bytes))] H := hP
  have hD : va_D A [(q_this, .inr (2, [.ref q_text, .ref q_numbers, .int v_place, .int v_letter, .int v_word, .int (nI 0)])), (q_text, .inr (6, [.ref q_text_bytes, .int v_text_length])), (q_text_bytes, .inl (ca 2, 500, .inl v_text_bytes))] := hD
  refine lv_iconst (v := (-1 : Int32)) hx hb dX2_readRising_5 (by decide) ?_
  refine lv_istore_n (lv' := [(3, .int (-1 : Int32)), (0, .ref q_this), (1, .int p1), (2, .int p2)]) hx hb dX2_readRising_6 rfl hl (by decide) rfl (fun ls hl => ?_)
  refine lv_iconst (v := (nI 0)) hx hb dX2_readRising_7 (by decide) ?_
  refine lv_istore (lv' := [(4, .int (nI 0)), (3, .int (-1 : Int32)), (0, .ref q_this), (1, .int p1), (2, .int p2)]) hx hb dX2_readRising_8 hl (by decide) rfl (fun ls hl => ?_)
  have hlp : ∀ (n : Nat) (x3_1 : Int32) (x4_2 : Int32) (y_place_3 : Int32) (y_bits_4 : Int32) (H : Heap) (locs : List Loc) (ls : Array Slot), lpg (T := Int32 → Int32 → Int32 → Int32 → Option (Int32 × Int32 × Int32)) (fun _ _ _ _ => none) (b_X2_readRising_10 p1 p2 v_text_length v_text_bytes) n x3_1 x4_2 y_place_3 y_bits_4 = some (r, o_place, o_bits) → va_P D vwCl [(q_this, .inr (2, [.ref q_text, .ref q_numbers, .int y_place_3, .int v_letter, .int v_word, .int y_bits_4])), (q_text, .inr (6, [.ref q_text_bytes, .int v_text_length])), (q_text_bytes, .inl (ca 2, 500, .inl v_text_bytes))] H → va_D A [(q_this, .inr (2, [.ref q_text, .ref q_numbers, .int y_place_3, .int v_letter, .int v_word, .int y_bits_4])), (q_text, .inr (6, [.ref q_text_bytes, .int v_text_length])), (q_text_bytes, .inl (ca 2, 500, .inl v_text_bytes))] → va_S A s.heap H locs → lv_has ls 6 [(0, .ref q_this), (1, .int p1), (2, .int p2), (3, .int x3_1), (4, .int x4_2)] → W p l e (headSpec wsX2_readRising rm_X2_readRising).room s m args below meth c H locs 0 0 Q (F0 m 10 ls []) := by
    intro n
    induction n with
    | zero => intro x3_1 x4_2 y_place_3 y_bits_4 H locs ls h; have h : (none : Option (Int32 × Int32 × Int32)) = some _ := h; cases h
    | succ n ih =>
      intro x3_1 x4_2 y_place_3 y_bits_4 H locs ls h hP hD hS hl
      rw [lpg_succ, b_X2_readRising_10] at h
      refine lv_iload hx hb dX2_readRising_10 (lv_at hl 4 rfl) ?_
      refine lv_iload_n hx hb dX2_readRising_12 rfl (lv_at hl 2 rfl) ?_
      have hj_78 : ∀  (H : Heap) (locs : List Loc) (ls : Array Slot), j_X2_readRising_78 y_place_3 y_bits_4  = some (r, o_place, o_bits) → va_P D vwCl [(q_this, .inr (2, [.ref q_text, .ref q_numbers, .int y_place_3, .int v_letter, .int v_word, .int y_bits_4])), (q_text, .inr (6, [.ref q_text_bytes, .int v_text_length])), (q_text_bytes, .inl (ca 2, 500, .inl v_text_bytes))] H → va_D A [(q_this, .inr (2, [.ref q_text, .ref q_numbers, .int y_place_3, .int v_letter, .int v_word, .int y_bits_4])), (q_text, .inr (6, [.ref q_text_bytes, .int v_text_length])), (q_text_bytes, .inl (ca 2, 500, .inl v_text_bytes))] → va_S A s.heap H locs → lv_has ls 6 [(0, .ref q_this)] → W p l e (headSpec wsX2_readRising rm_X2_readRising).room s m args below meth c H locs 0 0 Q (F0 m 78 ls []) := by
        intro  H locs ls h hP hD hS hl
        rw [j_X2_readRising_78] at h
        refine lv_aload_n hx hb dX2_readRising_78 rfl (lv_at hl 0 rfl) ?_
        refine va_get (D := D) (ci := 2) (v := .int y_bits_4) (C := RX2) (T := TX2) (N := 6) hx hb hts i_X2 hown hK hP 0 rfl rfl 5 (by decide) k_48 (fun _ h9 => h9) rfl dX2_readRising_79 ?_
        refine lv_if_eq (tgt := 89) hx hb dX2_readRising_82 (by decide) (fun c_5 => ?_) (fun c_5 => ?_)
        · replace h := ifp_el c_5 h
          refine lv_iconst (v := (nI 0)) hx hb dX2_readRising_89 (by decide) ?_
          cases h
          rw [← hQe]
          exact W.zret hx hb hr rfl (fun t ht hW => ⟨⟨_, (), rfl, rfl, by rw [ht]; exact hP, va_K.moved hW.alike hK, hD⟩, hS.F ht⟩) hS.2.2 dX2_readRising_90
        · replace h := ifn_el c_5 h
          refine lv_iconst (v := (nI 1)) hx hb dX2_readRising_85 (by decide) ?_
          refine lv_goto (tgt := 90) hx hb dX2_readRising_86 (by decide) ?_
          cases h
          rw [← hQe]
          exact W.zret hx hb hr rfl (fun t ht hW => ⟨⟨_, (), rfl, rfl, by rw [ht]; exact hP, va_K.moved hW.alike hK, hD⟩, hS.F ht⟩) hS.2.2 dX2_readRising_90
      refine lv_icmp_ge (tgt := 78) hx hb dX2_readRising_13 (by decide) (fun c_6 => ?_) (fun c_6 => ?_)
      · replace h := ifp_el c_6 h
        exact hj_78  _ _ _ h hP hD hS (lv_sub hl [0] rfl)
      · replace h := ifn_el c_6 h
        refine lv_aload_n hx hb dX2_readRising_16 rfl (lv_at hl 0 rfl) ?_
        refine va_get (D := D) (ci := 2) (v := .ref q_text) (C := RX2) (T := TX2) (N := 6) hx hb hts i_X2 hown hK hP 0 rfl rfl 0 (by decide) k_15 (fun _ h9 => h9) rfl dX2_readRising_17 ?_
        refine lv_aload_n hx hb dX2_readRising_20 rfl (lv_at hl 0 rfl) ?_
        refine va_get (D := D) (ci := 2) (v := .int y_place_3) (C := RX2) (T := TX2) (N := 6) hx hb hts i_X2 hown hK hP 0 rfl rfl 2 (by decide) k_19 (fun _ h9 => h9) rfl dX2_readRising_21 ?_
        obtain ⟨r_7, hg_8, h⟩ := bd1_el h
        refine kx_Vi (As := [.int y_place_3]) (rest := []) (wr := [(q_this, .inr (2, [.ref q_text, .ref q_numbers, .int y_place_3, .int v_letter, .int v_word, .int y_bits_4]))]) (w1 := [(q_text, .inr (6, [.ref q_text_bytes, .int v_text_length])), (q_text_bytes, .inl (ca 2, 500, .inl v_text_bytes))]) (wn := [(q_this, .inr (2, [.ref q_text, .ref q_numbers, .int y_place_3, .int v_letter, .int v_word, .int y_bits_4])), (q_text, .inr (6, [.ref q_text_bytes, .int v_text_length])), (q_text_bytes, .inl (ca 2, 500, .inl v_text_bytes))]) ⟨hx, hb, hml, hown, hts⟩ (c_X7_at l D ca H.size q_text q_text_bytes y_place_3 v_text_length v_text_bytes r_7 hg_8) (cwV 1 hts gX2_readRising_X7_at rfl rfl rfl (by decide +kernel) ⟨(Nat.le_of_ble_eq_true rfl), (Nat.le_of_ble_eq_true rfl)⟩) hK hP hD hS hA (ci := 6) (q0 := 0) rfl rfl [1, 2] [0] [0, 1, 2] rfl rfl rfl rfl (by decide) rfl rfl rfl hl.1 rfl (Nat.le_of_ble_eq_true rfl) dX2_readRising_24 ⟨Nat.zero_le _, Nat.zero_le _⟩ (fun H locs hP hD hS => ?_)
        refine lv_iload_n hx hb dX2_readRising_27 rfl (lv_at hl 1 rfl) ?_
        refine lv_isub hx hb dX2_readRising_28 ?_
        refine lv_nmi h (fun x5_9 h => ?_)
        refine lv_istore (lv' := [(5, .int x5_9), (0, .ref q_this), (1, .int p1), (2, .int p2), (3, .int x3_1), (4, .int x4_2)]) hx hb dX2_readRising_29 hl (by decide) rfl (fun ls hl => ?_)
        refine lv_iload hx hb dX2_readRising_31 (lv_at hl 0 rfl) ?_
        refine lv_iload_n hx hb dX2_readRising_33 rfl (lv_at hl 4 rfl) ?_
        refine lv_icmp_le (tgt := 78) hx hb dX2_readRising_34 (by decide) (fun c_10 => ?_) (fun c_10 => ?_)
        · replace h := ifp_el c_10 h
          exact hj_78  _ _ _ h hP hD hS (lv_sub hl [1] rfl)
        · replace h := ifn_el c_10 h
          refine lv_iload hx hb dX2_readRising_37 (lv_at hl 0 rfl) ?_
          refine lv_iload_n hx hb dX2_readRising_39 rfl (lv_at hl 3 rfl) ?_
          refine lv_icmp_lt (tgt := 46) hx hb dX2_readRising_40 (by decide) (fun c_11 => ?_) (fun c_11 => ?_)
          · replace h := ifp_el c_11 h
            refine lv_aload_n hx hb dX2_readRising_46 rfl (lv_at hl 1 rfl) ?_
            refine lv_dup hx hb dX2_readRising_47 rfl ?_
            refine va_get (D := D) (ci := 2) (v := .int y_bits_4) (C := RX2) (T := TX2) (N := 6) hx hb hts i_X2 hown hK hP 0 rfl rfl 5 (by decide) k_48 (fun _ h9 => h9) rfl dX2_readRising_48 ?_
            refine lv_iconst (v := (nI 1)) hx hb dX2_readRising_51 (by decide) ?_
            refine lv_iload hx hb dX2_readRising_52 (lv_at hl 0 rfl) ?_
            refine lv_ishl hx hb dX2_readRising_54 ?_
            refine lv_ior hx hb dX2_readRising_55 ?_
            refine lv_nmi h (fun w_12 h => ?_)
            refine va_put (D := D) (ci := 2) (v := .int w_12) (ty := .int) (C := RX2) (T := TX2) (N := 6) hx hb hts i_X2 tyX2 tyX2_ok nmX2 hown hK hP hD hS 0 rfl rfl 5 (by decide) k_48 (fun _ h9 => h9) rfl (by decide +kernel) rfl rfl (Nat.le_of_ble_eq_true rfl) dX2_readRising_56 (fun H locs hP hD hS => ?_)
            have hP : va_P D vwCl [(q_this, .inr (2, [.ref q_text, .ref q_numbers, .int y_place_3, .int v_letter, .int v_word, .int w_12])), (q_text, .inr (6, [.ref q_text_bytes, .int v_text_length])), (q_text_bytes, .inl (ca 2, 500, .inl v_text_bytes))] H := hP
            have hD : va_D A [(q_this, .inr (2, [.ref q_text, .ref q_numbers, .int y_place_3, .int v_letter, .int v_word, .int w_12])), (q_text, .inr (6, [.ref q_text_bytes, .int v_text_length])), (q_text_bytes, .inl (ca 2, 500, .inl v_text_bytes))] := hD
            refine lv_iload hx hb dX2_readRising_59 (lv_at hl 0 rfl) ?_
            refine lv_istore_n (lv' := [(3, .int x5_9), (5, .int x5_9), (0, .ref q_this), (1, .int p1), (2, .int p2), (4, .int x4_2)]) hx hb dX2_readRising_61 rfl hl (by decide) rfl (fun ls hl => ?_)
            refine lv_aload_n hx hb dX2_readRising_62 rfl (lv_at hl 2 rfl) ?_
            refine lv_dup hx hb dX2_readRising_63 rfl ?_
            refine va_get (D := D) (ci := 2) (v := .int y_place_3) (C := RX2) (T := TX2) (N := 6) hx hb hts i_X2 hown hK hP 0 rfl rfl 2 (by decide) k_19 (fun _ h9 => h9) rfl dX2_readRising_64 ?_
            refine lv_iconst (v := (nI 1)) hx hb dX2_readRising_67 (by decide) ?_
            refine lv_iadd hx hb dX2_readRising_68 ?_
            refine lv_nmi h (fun w_13 h => ?_)
            refine va_put (D := D) (ci := 2) (v := .int w_13) (ty := .int) (C := RX2) (T := TX2) (N := 6) hx hb hts i_X2 tyX2 tyX2_ok nmX2 hown hK hP hD hS 0 rfl rfl 2 (by decide) k_19 (fun _ h9 => h9) rfl (by decide +kernel) rfl rfl (Nat.le_of_ble_eq_true rfl) dX2_readRising_69 (fun H locs hP hD hS => ?_)
            have hP : va_P D vwCl [(q_this, .inr (2, [.ref q_text, .ref q_numbers, .int w_13, .int v_letter, .int v_word, .int w_12])), (q_text, .inr (6, [.ref q_text_bytes, .int v_text_length])), (q_text_bytes, .inl (ca 2, 500, .inl v_text_bytes))] H := hP
            have hD : va_D A [(q_this, .inr (2, [.ref q_text, .ref q_numbers, .int w_13, .int v_letter, .int v_word, .int w_12])), (q_text, .inr (6, [.ref q_text_bytes, .int v_text_length])), (q_text_bytes, .inl (ca 2, 500, .inl v_text_bytes))] := hD
            obtain ⟨x4_14, e_15, h⟩ := nm_el h
            refine lv_iinc (v := x4_14) (lv' := [(4, .int x4_14), (3, .int x5_9), (5, .int x5_9), (0, .ref q_this), (1, .int p1), (2, .int p2)]) hx hb dX2_readRising_72 hl (k := 5) rfl (by rw [← e_15]; rfl) (by decide) rfl (fun ls hl => ?_)
            refine lv_goto (tgt := 10) hx hb dX2_readRising_75 (by decide) ?_
            exact ih _ _ _ _ _ _ _ h hP hD hS (lv_sub hl [3, 4, 5, 1, 0] rfl)
          · replace h := ifn_el c_11 h
            refine lv_goto (tgt := 78) hx hb dX2_readRising_43 (by decide) ?_
            exact hj_78  _ _ _ h hP hD hS (lv_sub hl [1] rfl)
  exact hlp F (-1 : Int32) (nI 0) v_place (nI 0) H locs ls h hP hD hS (lv_sub hl [2, 3, 4, 1, 0] rfl)
def D_X2_readJoined (v_place : Int32) (v_text_length : Int32) (v_text_bytes : Nat → Int32) (v_numbers : Nat → Int32) : Option (Int32 × Int32 × (Nat → Int32)) := bd3 (D_X2_readNumber (nI 0) (nI 0) (nI 7) v_place v_text_length v_text_bytes v_numbers) (fun r_1 y_place_2 y_numbers_3 => (if r_1 = 0 then some ((nI 0), y_place_2, y_numbers_3) else bd2 (D_X2_passes (nI 44) y_place_2 v_text_length v_text_bytes) (fun r_6 y_place_7 => (if r_6 = 0 then some ((nI 0), y_place_7, y_numbers_3) else bd3 (D_X2_readNumber (nI 1) (nI 0) (nI 7) y_place_7 v_text_length v_text_bytes y_numbers_3) (fun r_10 y_place_11 y_numbers_12 => (if r_10 = 0 then some ((nI 0), y_place_11, y_numbers_12) else bd2 (D_X2_passes (nI 44) y_place_11 v_text_length v_text_bytes) (fun r_15 y_place_16 => (if r_15 = 0 then some ((nI 0), y_place_16, y_numbers_12) else bd3 (D_X2_readNumber (nI 2) (nI 0) (nI 7) y_place_16 v_text_length v_text_bytes y_numbers_12) (fun r_19 y_place_20 y_numbers_21 => (if r_19 = 0 then some ((nI 0), y_place_20, y_numbers_21) else bd1 (D_X2_number (nI 0) y_numbers_21) (fun r_24 => bd1 (D_X2_number (nI 1) y_numbers_21) (fun r_26 => (if r_24 = r_26 then some ((nI 0), y_place_20, y_numbers_21) else bd1 (D_X2_number (nI 0) y_numbers_21) (fun r_29 => bd1 (D_X2_number (nI 2) y_numbers_21) (fun r_31 => (if r_29 = r_31 then some ((nI 0), y_place_20, y_numbers_21) else bd1 (D_X2_number (nI 1) y_numbers_21) (fun r_34 => bd1 (D_X2_number (nI 2) y_numbers_21) (fun r_36 => (if r_34 = r_36 then some ((nI 0), y_place_20, y_numbers_21) else some ((nI 1), y_place_20, y_numbers_21))))))))))))))))))))
abbrev rm_X2_readJoined : Room := { frames := 2, cells := 0, slots := 0, locals := 46 }
set_option maxHeartbeats 4000000 in
set_option maxRecDepth 100000 in
theorem c_X2_readJoined (l : Launch) (D : va_G) (ca : Nat → ClassId) (sz : Nat) (q_this q_text q_text_bytes q_numbers : Nat) (v_place : Int32) (v_letter : Int32) (v_word : Int32) (v_bits : Int32) (v_text_length : Int32) (v_text_bytes : Nat → Int32) (v_numbers : Nat → Int32) (r : Int32) (o_place : Int32) (o_numbers : Nat → Int32) (h : D_X2_readJoined v_place v_text_length v_text_bytes v_numbers = some (r, o_place, o_numbers)) : Met l yX2_readJoined wsX2_readJoined rm_X2_readJoined (va_Pc [.ref q_this] (kPre D ca [(q_this, .inr (2, [.ref q_text, .ref q_numbers, .int v_place, .int v_letter, .int v_word, .int v_bits])), (q_text, .inr (6, [.ref q_text_bytes, .int v_text_length])), (q_text_bytes, .inl (ca 2, 500, .inl v_text_bytes)), (q_numbers, .inl (ca 0, 3, .inl v_numbers))] sz)) (kQi D ca (va_A [(q_this, .inr (2, [.ref q_text, .ref q_numbers, .int v_place, .int v_letter, .int v_word, .int v_bits])), (q_text, .inr (6, [.ref q_text_bytes, .int v_text_length])), (q_text_bytes, .inl (ca 2, 500, .inl v_text_bytes)), (q_numbers, .inl (ca 0, 3, .inl v_numbers))] sz) [(q_this, .inr (2, [.ref q_text, .ref q_numbers, .int o_place, .int v_letter, .int v_word, .int v_bits])), (q_text, .inr (6, [.ref q_text_bytes, .int v_text_length])), (q_text_bytes, .inl (ca 2, 500, .inl v_text_bytes)), (q_numbers, .inl (ca 0, 3, .inl o_numbers))] r) 0 0 (va_A [(q_this, .inr (2, [.ref q_text, .ref q_numbers, .int v_place, .int v_letter, .int v_word, .int v_bits])), (q_text, .inr (6, [.ref q_text_bytes, .int v_text_length])), (q_text_bytes, .inl (ca 2, 500, .inl v_text_bytes)), (q_numbers, .inl (ca 0, 3, .inl v_numbers))] sz) := by
  refine Met.ofW (cc := cX2_readJoined) (maxL := 1) (ret := (some .boolean)) (by decide +kernel) rfl ?_
  intro p e s m args below meth c s₁ B hml hv
  obtain ⟨rfl, hsz, hP, hK, hD0⟩ := hv
  have hx := B.exec
  have hb := B.bytes
  have hr := B.returns
  have hts := atoms_spec (ws := wsX2_readJoined) B.pre
  have hown : s.vm.findClass RX2 = some m.cls := findClass_of_methodNamed B.named
  have hlocks := B.notSynchronized
  clear B
  subst hsz
  have hD := hD0.self (sz := s.heap.size)
  generalize hAe : va_A [(q_this, .inr (2, [.ref q_text, .ref q_numbers, .int v_place, .int v_letter, .int v_word, .int v_bits])), (q_text, .inr (6, [.ref q_text_bytes, .int v_text_length])), (q_text_bytes, .inl (ca 2, 500, .inl v_text_bytes)), (q_numbers, .inl (ca 0, 3, .inl v_numbers))] s.heap.size = A at hD ⊢
  have hA : ∀ q : Nat, s.heap.size ≤ q → A q := fun q h => by rw [← hAe]; exact Or.inr h
  have hS : va_S A s.heap s.heap [] := va_S.rf
  have hl := lv_entry ([.ref q_this]) (n := 1) (Nat.le_of_ble_eq_true rfl)
  rw [lg_entry_eq]
  generalize (lg_sl ([.ref q_this]) ++ List.replicate (1 - (lg_sl ([.ref q_this])).length) Slot.unset).toArray = ls at hl ⊢
  have hl : lv_has ls 1 [(0, .ref q_this)] := hl
  generalize ([.ref q_this] : List Value).toArray = args at hts ⊢
  generalize hQe : MQ below (kQi D ca (A) [(q_this, .inr (2, [.ref q_text, .ref q_numbers, .int o_place, .int v_letter, .int v_word, .int v_bits])), (q_text, .inr (6, [.ref q_text_bytes, .int v_text_length])), (q_text_bytes, .inl (ca 2, 500, .inl v_text_bytes)), (q_numbers, .inl (ca 0, 3, .inl o_numbers))] r) args s 0 0 A = Q
  rw [D_X2_readJoined] at h
  refine lv_aload_n hx hb dX2_readJoined_0 rfl (lv_at hl 0 rfl) ?_
  refine lv_iconst (v := (nI 0)) hx hb dX2_readJoined_1 (by decide) ?_
  refine lv_iconst (v := (nI 0)) hx hb dX2_readJoined_2 (by decide) ?_
  refine lv_bipush (v := (nI 7)) hx hb dX2_readJoined_3 (by decide) ?_
  obtain ⟨r_1, y_place_2, y_numbers_3, hg_4, h⟩ := bd3_el h
  refine kx_Vi (As := [.int (nI 0), .int (nI 0), .int (nI 7)]) (rest := []) (wr := []) (w1 := [(q_this, .inr (2, [.ref q_text, .ref q_numbers, .int y_place_2, .int v_letter, .int v_word, .int v_bits])), (q_text, .inr (6, [.ref q_text_bytes, .int v_text_length])), (q_text_bytes, .inl (ca 2, 500, .inl v_text_bytes)), (q_numbers, .inl (ca 0, 3, .inl y_numbers_3))]) (wn := [(q_this, .inr (2, [.ref q_text, .ref q_numbers, .int y_place_2, .int v_letter, .int v_word, .int v_bits])), (q_text, .inr (6, [.ref q_text_bytes, .int v_text_length])), (q_text_bytes, .inl (ca 2, 500, .inl v_text_bytes)), (q_numbers, .inl (ca 0, 3, .inl y_numbers_3))]) ⟨hx, hb, hml, hown, hts⟩ (c_X2_readNumber l D ca s.heap.size q_this q_text q_text_bytes q_numbers (nI 0) (nI 0) (nI 7) v_place v_letter v_word v_bits v_text_length v_text_bytes v_numbers r_1 y_place_2 y_numbers_3 hg_4) (cwV 3 hts gX2_readJoined_X2_readNumber rfl rfl rfl (by decide +kernel) ⟨(Nat.le_of_ble_eq_true rfl), (Nat.le_of_ble_eq_true rfl)⟩) hK hP hD hS hA (ci := 2) (q0 := 0) rfl rfl [0, 1, 2, 3] [] [0, 1, 2, 3] rfl rfl rfl rfl (by decide) rfl rfl rfl hl.1 rfl (Nat.le_of_ble_eq_true rfl) dX2_readJoined_5 ⟨Nat.zero_le _, Nat.zero_le _⟩ (fun H locs hP hD hS => ?_)
  refine lv_if_eq (tgt := 94) hx hb dX2_readJoined_8 (by decide) (fun c_5 => ?_) (fun c_5 => ?_)
  · replace h := ifp_el c_5 h
    refine lv_iconst (v := (nI 0)) hx hb dX2_readJoined_94 (by decide) ?_
    cases h
    rw [← hQe]
    exact W.zret hx hb hr rfl (fun t ht hW => ⟨⟨_, (), rfl, rfl, by rw [ht]; exact hP, va_K.moved hW.alike hK, hD⟩, hS.F ht⟩) hS.2.2 dX2_readJoined_95
  · replace h := ifn_el c_5 h
    refine lv_aload_n hx hb dX2_readJoined_11 rfl (lv_at hl 0 rfl) ?_
    refine lv_bipush (v := (nI 44)) hx hb dX2_readJoined_12 (by decide) ?_
    obtain ⟨r_6, y_place_7, hg_8, h⟩ := bd2_el h
    refine kx_Vi (As := [.int (nI 44)]) (rest := []) (wr := [(q_numbers, .inl (ca 0, 3, .inl y_numbers_3))]) (w1 := [(q_this, .inr (2, [.ref q_text, .ref q_numbers, .int y_place_7, .int v_letter, .int v_word, .int v_bits])), (q_text, .inr (6, [.ref q_text_bytes, .int v_text_length])), (q_text_bytes, .inl (ca 2, 500, .inl v_text_bytes))]) (wn := [(q_this, .inr (2, [.ref q_text, .ref q_numbers, .int y_place_7, .int v_letter, .int v_word, .int v_bits])), (q_text, .inr (6, [.ref q_text_bytes, .int v_text_length])), (q_text_bytes, .inl (ca 2, 500, .inl v_text_bytes)), (q_numbers, .inl (ca 0, 3, .inl y_numbers_3))]) ⟨hx, hb, hml, hown, hts⟩ (c_X2_passes l D ca H.size q_this q_text q_text_bytes q_numbers (nI 44) y_place_2 v_letter v_word v_bits v_text_length v_text_bytes r_6 y_place_7 hg_8) (cwV 1 hts gX2_readJoined_X2_passes rfl rfl rfl (by decide +kernel) ⟨(Nat.le_of_ble_eq_true rfl), (Nat.le_of_ble_eq_true rfl)⟩) hK hP hD hS hA (ci := 2) (q0 := 0) rfl rfl [0, 1, 2] [3] [1, 2, 3, 0] rfl rfl rfl rfl (by decide) rfl rfl rfl hl.1 rfl (Nat.le_of_ble_eq_true rfl) dX2_readJoined_14 ⟨Nat.zero_le _, Nat.zero_le _⟩ (fun H locs hP hD hS => ?_)
    refine lv_if_eq (tgt := 94) hx hb dX2_readJoined_17 (by decide) (fun c_9 => ?_) (fun c_9 => ?_)
    · replace h := ifp_el c_9 h
      refine lv_iconst (v := (nI 0)) hx hb dX2_readJoined_94 (by decide) ?_
      cases h
      rw [← hQe]
      exact W.zret hx hb hr rfl (fun t ht hW => ⟨⟨_, (), rfl, rfl, by rw [ht]; exact hP, va_K.moved hW.alike hK, hD⟩, hS.F ht⟩) hS.2.2 dX2_readJoined_95
    · replace h := ifn_el c_9 h
      refine lv_aload_n hx hb dX2_readJoined_20 rfl (lv_at hl 0 rfl) ?_
      refine lv_iconst (v := (nI 1)) hx hb dX2_readJoined_21 (by decide) ?_
      refine lv_iconst (v := (nI 0)) hx hb dX2_readJoined_22 (by decide) ?_
      refine lv_bipush (v := (nI 7)) hx hb dX2_readJoined_23 (by decide) ?_
      obtain ⟨r_10, y_place_11, y_numbers_12, hg_13, h⟩ := bd3_el h
      refine kx_Vi (As := [.int (nI 1), .int (nI 0), .int (nI 7)]) (rest := []) (wr := []) (w1 := [(q_this, .inr (2, [.ref q_text, .ref q_numbers, .int y_place_11, .int v_letter, .int v_word, .int v_bits])), (q_text, .inr (6, [.ref q_text_bytes, .int v_text_length])), (q_text_bytes, .inl (ca 2, 500, .inl v_text_bytes)), (q_numbers, .inl (ca 0, 3, .inl y_numbers_12))]) (wn := [(q_this, .inr (2, [.ref q_text, .ref q_numbers, .int y_place_11, .int v_letter, .int v_word, .int v_bits])), (q_text, .inr (6, [.ref q_text_bytes, .int v_text_length])), (q_text_bytes, .inl (ca 2, 500, .inl v_text_bytes)), (q_numbers, .inl (ca 0, 3, .inl y_numbers_12))]) ⟨hx, hb, hml, hown, hts⟩ (c_X2_readNumber l D ca H.size q_this q_text q_text_bytes q_numbers (nI 1) (nI 0) (nI 7) y_place_7 v_letter v_word v_bits v_text_length v_text_bytes y_numbers_3 r_10 y_place_11 y_numbers_12 hg_13) (cwV 3 hts gX2_readJoined_X2_readNumber rfl rfl rfl (by decide +kernel) ⟨(Nat.le_of_ble_eq_true rfl), (Nat.le_of_ble_eq_true rfl)⟩) hK hP hD hS hA (ci := 2) (q0 := 0) rfl rfl [0, 1, 2, 3] [] [0, 1, 2, 3] rfl rfl rfl rfl (by decide) rfl rfl rfl hl.1 rfl (Nat.le_of_ble_eq_true rfl) dX2_readJoined_25 ⟨Nat.zero_le _, Nat.zero_le _⟩ (fun H locs hP hD hS => ?_)
      refine lv_if_eq (tgt := 94) hx hb dX2_readJoined_28 (by decide) (fun c_14 => ?_) (fun c_14 => ?_)
      · replace h := ifp_el c_14 h
        refine lv_iconst (v := (nI 0)) hx hb dX2_readJoined_94 (by decide) ?_
        cases h
        rw [← hQe]
        exact W.zret hx hb hr rfl (fun t ht hW => ⟨⟨_, (), rfl, rfl, by rw [ht]; exact hP, va_K.moved hW.alike hK, hD⟩, hS.F ht⟩) hS.2.2 dX2_readJoined_95
      · replace h := ifn_el c_14 h
        refine lv_aload_n hx hb dX2_readJoined_31 rfl (lv_at hl 0 rfl) ?_
        refine lv_bipush (v := (nI 44)) hx hb dX2_readJoined_32 (by decide) ?_
        obtain ⟨r_15, y_place_16, hg_17, h⟩ := bd2_el h
        refine kx_Vi (As := [.int (nI 44)]) (rest := []) (wr := [(q_numbers, .inl (ca 0, 3, .inl y_numbers_12))]) (w1 := [(q_this, .inr (2, [.ref q_text, .ref q_numbers, .int y_place_16, .int v_letter, .int v_word, .int v_bits])), (q_text, .inr (6, [.ref q_text_bytes, .int v_text_length])), (q_text_bytes, .inl (ca 2, 500, .inl v_text_bytes))]) (wn := [(q_this, .inr (2, [.ref q_text, .ref q_numbers, .int y_place_16, .int v_letter, .int v_word, .int v_bits])), (q_text, .inr (6, [.ref q_text_bytes, .int v_text_length])), (q_text_bytes, .inl (ca 2, 500, .inl v_text_bytes)), (q_numbers, .inl (ca 0, 3, .inl y_numbers_12))]) ⟨hx, hb, hml, hown, hts⟩ (c_X2_passes l D ca H.size q_this q_text q_text_bytes q_numbers (nI 44) y_place_11 v_letter v_word v_bits v_text_length v_text_bytes r_15 y_place_16 hg_17) (cwV 1 hts gX2_readJoined_X2_passes rfl rfl rfl (by decide +kernel) ⟨(Nat.le_of_ble_eq_true rfl), (Nat.le_of_ble_eq_true rfl)⟩) hK hP hD hS hA (ci := 2) (q0 := 0) rfl rfl [0, 1, 2] [3] [1, 2, 3, 0] rfl rfl rfl rfl (by decide) rfl rfl rfl hl.1 rfl (Nat.le_of_ble_eq_true rfl) dX2_readJoined_34 ⟨Nat.zero_le _, Nat.zero_le _⟩ (fun H locs hP hD hS => ?_)
        refine lv_if_eq (tgt := 94) hx hb dX2_readJoined_37 (by decide) (fun c_18 => ?_) (fun c_18 => ?_)
        · replace h := ifp_el c_18 h
          refine lv_iconst (v := (nI 0)) hx hb dX2_readJoined_94 (by decide) ?_
          cases h
          rw [← hQe]
          exact W.zret hx hb hr rfl (fun t ht hW => ⟨⟨_, (), rfl, rfl, by rw [ht]; exact hP, va_K.moved hW.alike hK, hD⟩, hS.F ht⟩) hS.2.2 dX2_readJoined_95
        · replace h := ifn_el c_18 h
          refine lv_aload_n hx hb dX2_readJoined_40 rfl (lv_at hl 0 rfl) ?_
          refine lv_iconst (v := (nI 2)) hx hb dX2_readJoined_41 (by decide) ?_
          refine lv_iconst (v := (nI 0)) hx hb dX2_readJoined_42 (by decide) ?_
          refine lv_bipush (v := (nI 7)) hx hb dX2_readJoined_43 (by decide) ?_
          obtain ⟨r_19, y_place_20, y_numbers_21, hg_22, h⟩ := bd3_el h
          refine kx_Vi (As := [.int (nI 2), .int (nI 0), .int (nI 7)]) (rest := []) (wr := []) (w1 := [(q_this, .inr (2, [.ref q_text, .ref q_numbers, .int y_place_20, .int v_letter, .int v_word, .int v_bits])), (q_text, .inr (6, [.ref q_text_bytes, .int v_text_length])), (q_text_bytes, .inl (ca 2, 500, .inl v_text_bytes)), (q_numbers, .inl (ca 0, 3, .inl y_numbers_21))]) (wn := [(q_this, .inr (2, [.ref q_text, .ref q_numbers, .int y_place_20, .int v_letter, .int v_word, .int v_bits])), (q_text, .inr (6, [.ref q_text_bytes, .int v_text_length])), (q_text_bytes, .inl (ca 2, 500, .inl v_text_bytes)), (q_numbers, .inl (ca 0, 3, .inl y_numbers_21))]) ⟨hx, hb, hml, hown, hts⟩ (c_X2_readNumber l D ca H.size q_this q_text q_text_bytes q_numbers (nI 2) (nI 0) (nI 7) y_place_16 v_letter v_word v_bits v_text_length v_text_bytes y_numbers_12 r_19 y_place_20 y_numbers_21 hg_22) (cwV 3 hts gX2_readJoined_X2_readNumber rfl rfl rfl (by decide +kernel) ⟨(Nat.le_of_ble_eq_true rfl), (Nat.le_of_ble_eq_true rfl)⟩) hK hP hD hS hA (ci := 2) (q0 := 0) rfl rfl [0, 1, 2, 3] [] [0, 1, 2, 3] rfl rfl rfl rfl (by decide) rfl rfl rfl hl.1 rfl (Nat.le_of_ble_eq_true rfl) dX2_readJoined_45 ⟨Nat.zero_le _, Nat.zero_le _⟩ (fun H locs hP hD hS => ?_)
          refine lv_if_eq (tgt := 94) hx hb dX2_readJoined_48 (by decide) (fun c_23 => ?_) (fun c_23 => ?_)
          · replace h := ifp_el c_23 h
            refine lv_iconst (v := (nI 0)) hx hb dX2_readJoined_94 (by decide) ?_
            cases h
            rw [← hQe]
            exact W.zret hx hb hr rfl (fun t ht hW => ⟨⟨_, (), rfl, rfl, by rw [ht]; exact hP, va_K.moved hW.alike hK, hD⟩, hS.F ht⟩) hS.2.2 dX2_readJoined_95
          · replace h := ifn_el c_23 h
            refine lv_aload_n hx hb dX2_readJoined_51 rfl (lv_at hl 0 rfl) ?_
            refine lv_iconst (v := (nI 0)) hx hb dX2_readJoined_52 (by decide) ?_
            obtain ⟨r_24, hg_25, h⟩ := bd1_el h
            refine kx_Vi (As := [.int (nI 0)]) (rest := []) (wr := [(q_text, .inr (6, [.ref q_text_bytes, .int v_text_length])), (q_text_bytes, .inl (ca 2, 500, .inl v_text_bytes))]) (w1 := [(q_this, .inr (2, [.ref q_text, .ref q_numbers, .int y_place_20, .int v_letter, .int v_word, .int v_bits])), (q_numbers, .inl (ca 0, 3, .inl y_numbers_21))]) (wn := [(q_this, .inr (2, [.ref q_text, .ref q_numbers, .int y_place_20, .int v_letter, .int v_word, .int v_bits])), (q_text, .inr (6, [.ref q_text_bytes, .int v_text_length])), (q_text_bytes, .inl (ca 2, 500, .inl v_text_bytes)), (q_numbers, .inl (ca 0, 3, .inl y_numbers_21))]) ⟨hx, hb, hml, hown, hts⟩ (c_X2_number l D ca H.size q_this q_text q_numbers (nI 0) y_place_20 v_letter v_word v_bits y_numbers_21 r_24 hg_25) (cwV 1 hts gX2_readJoined_X2_number rfl rfl rfl (by decide +kernel) ⟨(Nat.le_of_ble_eq_true rfl), (Nat.le_of_ble_eq_true rfl)⟩) hK hP hD hS hA (ci := 2) (q0 := 0) rfl rfl [0, 3] [1, 2] [2, 0, 1, 3] rfl rfl rfl rfl (by decide) rfl rfl rfl hl.1 rfl (Nat.le_of_ble_eq_true rfl) dX2_readJoined_53 ⟨Nat.zero_le _, Nat.zero_le _⟩ (fun H locs hP hD hS => ?_)
            refine lv_aload_n hx hb dX2_readJoined_56 rfl (lv_at hl 0 rfl) ?_
            refine lv_iconst (v := (nI 1)) hx hb dX2_readJoined_57 (by decide) ?_
            obtain ⟨r_26, hg_27, h⟩ := bd1_el h
            refine kx_Vi (As := [.int (nI 1)]) (rest := [.int r_24]) (wr := [(q_text, .inr (6, [.ref q_text_bytes, .int v_text_length])), (q_text_bytes, .inl (ca 2, 500, .inl v_text_bytes))]) (w1 := [(q_this, .inr (2, [.ref q_text, .ref q_numbers, .int y_place_20, .int v_letter, .int v_word, .int v_bits])), (q_numbers, .inl (ca 0, 3, .inl y_numbers_21))]) (wn := [(q_this, .inr (2, [.ref q_text, .ref q_numbers, .int y_place_20, .int v_letter, .int v_word, .int v_bits])), (q_text, .inr (6, [.ref q_text_bytes, .int v_text_length])), (q_text_bytes, .inl (ca 2, 500, .inl v_text_bytes)), (q_numbers, .inl (ca 0, 3, .inl y_numbers_21))]) ⟨hx, hb, hml, hown, hts⟩ (c_X2_number l D ca H.size q_this q_text q_numbers (nI 1) y_place_20 v_letter v_word v_bits y_numbers_21 r_26 hg_27) (cwV 1 hts gX2_readJoined_X2_number rfl rfl rfl (by decide +kernel) ⟨(Nat.le_of_ble_eq_true rfl), (Nat.le_of_ble_eq_true rfl)⟩) hK hP hD hS hA (ci := 2) (q0 := 0) rfl rfl [0, 3] [1, 2] [2, 0, 1, 3] rfl rfl rfl rfl (by decide) rfl rfl rfl hl.1 rfl (Nat.le_of_ble_eq_true rfl) dX2_readJoined_58 ⟨Nat.zero_le _, Nat.zero_le _⟩ (fun H locs hP hD hS => ?_)
            refine lv_icmp_eq (tgt := 94) hx hb dX2_readJoined_61 (by decide) (fun c_28 => ?_) (fun c_28 => ?_)
            · replace h := ifp_el c_28 h
              refine lv_iconst (v := (nI 0)) hx hb dX2_readJoined_94 (by decide) ?_
              cases h
              rw [← hQe]
              exact W.zret hx hb hr rfl (fun t ht hW => ⟨⟨_, (), rfl, rfl, by rw [ht]; exact hP, va_K.moved hW.alike hK, hD⟩, hS.F ht⟩) hS.2.2 dX2_readJoined_95
            · replace h := ifn_el c_28 h
              refine lv_aload_n hx hb dX2_readJoined_64 rfl (lv_at hl 0 rfl) ?_
              refine lv_iconst (v := (nI 0)) hx hb dX2_readJoined_65 (by decide) ?_
              obtain ⟨r_29, hg_30, h⟩ := bd1_el h
              refine kx_Vi (As := [.int (nI 0)]) (rest := []) (wr := [(q_text, .inr (6, [.ref q_text_bytes, .int v_text_length])), (q_text_bytes, .inl (ca 2, 500, .inl v_text_bytes))]) (w1 := [(q_this, .inr (2, [.ref q_text, .ref q_numbers, .int y_place_20, .int v_letter, .int v_word, .int v_bits])), (q_numbers, .inl (ca 0, 3, .inl y_numbers_21))]) (wn := [(q_this, .inr (2, [.ref q_text, .ref q_numbers, .int y_place_20, .int v_letter, .int v_word, .int v_bits])), (q_text, .inr (6, [.ref q_text_bytes, .int v_text_length])), (q_text_bytes, .inl (ca 2, 500, .inl v_text_bytes)), (q_numbers, .inl (ca 0, 3, .inl y_numbers_21))]) ⟨hx, hb, hml, hown, hts⟩ (c_X2_number l D ca H.size q_this q_text q_numbers (nI 0) y_place_20 v_letter v_word v_bits y_numbers_21 r_29 hg_30) (cwV 1 hts gX2_readJoined_X2_number rfl rfl rfl (by decide +kernel) ⟨(Nat.le_of_ble_eq_true rfl), (Nat.le_of_ble_eq_true rfl)⟩) hK hP hD hS hA (ci := 2) (q0 := 0) rfl rfl [0, 3] [1, 2] [2, 0, 1, 3] rfl rfl rfl rfl (by decide) rfl rfl rfl hl.1 rfl (Nat.le_of_ble_eq_true rfl) dX2_readJoined_66 ⟨Nat.zero_le _, Nat.zero_le _⟩ (fun H locs hP hD hS => ?_)
              refine lv_aload_n hx hb dX2_readJoined_69 rfl (lv_at hl 0 rfl) ?_
              refine lv_iconst (v := (nI 2)) hx hb dX2_readJoined_70 (by decide) ?_
              obtain ⟨r_31, hg_32, h⟩ := bd1_el h
              refine kx_Vi (As := [.int (nI 2)]) (rest := [.int r_29]) (wr := [(q_text, .inr (6, [.ref q_text_bytes, .int v_text_length])), (q_text_bytes, .inl (ca 2, 500, .inl v_text_bytes))]) (w1 := [(q_this, .inr (2, [.ref q_text, .ref q_numbers, .int y_place_20, .int v_letter, .int v_word, .int v_bits])), (q_numbers, .inl (ca 0, 3, .inl y_numbers_21))]) (wn := [(q_this, .inr (2, [.ref q_text, .ref q_numbers, .int y_place_20, .int v_letter, .int v_word, .int v_bits])), (q_text, .inr (6, [.ref q_text_bytes, .int v_text_length])), (q_text_bytes, .inl (ca 2, 500, .inl v_text_bytes)), (q_numbers, .inl (ca 0, 3, .inl y_numbers_21))]) ⟨hx, hb, hml, hown, hts⟩ (c_X2_number l D ca H.size q_this q_text q_numbers (nI 2) y_place_20 v_letter v_word v_bits y_numbers_21 r_31 hg_32) (cwV 1 hts gX2_readJoined_X2_number rfl rfl rfl (by decide +kernel) ⟨(Nat.le_of_ble_eq_true rfl), (Nat.le_of_ble_eq_true rfl)⟩) hK hP hD hS hA (ci := 2) (q0 := 0) rfl rfl [0, 3] [1, 2] [2, 0, 1, 3] rfl rfl rfl rfl (by decide) rfl rfl rfl hl.1 rfl (Nat.le_of_ble_eq_true rfl) dX2_readJoined_71 ⟨Nat.zero_le _, Nat.zero_le _⟩ (fun H locs hP hD hS => ?_)
              refine lv_icmp_eq (tgt := 94) hx hb dX2_readJoined_74 (by decide) (fun c_33 => ?_) (fun c_33 => ?_)
              · replace h := ifp_el c_33 h
                refine lv_iconst (v := (nI 0)) hx hb dX2_readJoined_94 (by decide) ?_
                cases h
                rw [← hQe]
                exact W.zret hx hb hr rfl (fun t ht hW => ⟨⟨_, (), rfl, rfl, by rw [ht]; exact hP, va_K.moved hW.alike hK, hD⟩, hS.F ht⟩) hS.2.2 dX2_readJoined_95
              · replace h := ifn_el c_33 h
                refine lv_aload_n hx hb dX2_readJoined_77 rfl (lv_at hl 0 rfl) ?_
                refine lv_iconst (v := (nI 1)) hx hb dX2_readJoined_78 (by decide) ?_
                obtain ⟨r_34, hg_35, h⟩ := bd1_el h
                refine kx_Vi (As := [.int (nI 1)]) (rest := []) (wr := [(q_text, .inr (6, [.ref q_text_bytes, .int v_text_length])), (q_text_bytes, .inl (ca 2, 500, .inl v_text_bytes))]) (w1 := [(q_this, .inr (2, [.ref q_text, .ref q_numbers, .int y_place_20, .int v_letter, .int v_word, .int v_bits])), (q_numbers, .inl (ca 0, 3, .inl y_numbers_21))]) (wn := [(q_this, .inr (2, [.ref q_text, .ref q_numbers, .int y_place_20, .int v_letter, .int v_word, .int v_bits])), (q_text, .inr (6, [.ref q_text_bytes, .int v_text_length])), (q_text_bytes, .inl (ca 2, 500, .inl v_text_bytes)), (q_numbers, .inl (ca 0, 3, .inl y_numbers_21))]) ⟨hx, hb, hml, hown, hts⟩ (c_X2_number l D ca H.size q_this q_text q_numbers (nI 1) y_place_20 v_letter v_word v_bits y_numbers_21 r_34 hg_35) (cwV 1 hts gX2_readJoined_X2_number rfl rfl rfl (by decide +kernel) ⟨(Nat.le_of_ble_eq_true rfl), (Nat.le_of_ble_eq_true rfl)⟩) hK hP hD hS hA (ci := 2) (q0 := 0) rfl rfl [0, 3] [1, 2] [2, 0, 1, 3] rfl rfl rfl rfl (by decide) rfl rfl rfl hl.1 rfl (Nat.le_of_ble_eq_true rfl) dX2_readJoined_79 ⟨Nat.zero_le _, Nat.zero_le _⟩ (fun H locs hP hD hS => ?_)
                refine lv_aload_n hx hb dX2_readJoined_82 rfl (lv_at hl 0 rfl) ?_
                refine lv_iconst (v := (nI 2)) hx hb dX2_readJoined_83 (by decide) ?_
                obtain ⟨r_36, hg_37, h⟩ := bd1_el h
                refine kx_Vi (As := [.int (nI 2)]) (rest := [.int r_34]) (wr := [(q_text, .inr (6, [.ref q_text_bytes, .int v_text_length])), (q_text_bytes, .inl (ca 2, 500, .inl v_text_bytes))]) (w1 := [(q_this, .inr (2, [.ref q_text, .ref q_numbers, .int y_place_20, .int v_letter, .int v_word, .int v_bits])), (q_numbers, .inl (ca 0, 3, .inl y_numbers_21))]) (wn := [(q_this, .inr (2, [.ref q_text, .ref q_numbers, .int y_place_20, .int v_letter, .int v_word, .int v_bits])), (q_text, .inr (6, [.ref q_text_bytes, .int v_text_length])), (q_text_bytes, .inl (ca 2, 500, .inl v_text_bytes)), (q_numbers, .inl (ca 0, 3, .inl y_numbers_21))]) ⟨hx, hb, hml, hown, hts⟩ (c_X2_number l D ca H.size q_this q_text q_numbers (nI 2) y_place_20 v_letter v_word v_bits y_numbers_21 r_36 hg_37) (cwV 1 hts gX2_readJoined_X2_number rfl rfl rfl (by decide +kernel) ⟨(Nat.le_of_ble_eq_true rfl), (Nat.le_of_ble_eq_true rfl)⟩) hK hP hD hS hA (ci := 2) (q0 := 0) rfl rfl [0, 3] [1, 2] [2, 0, 1, 3] rfl rfl rfl rfl (by decide) rfl rfl rfl hl.1 rfl (Nat.le_of_ble_eq_true rfl) dX2_readJoined_84 ⟨Nat.zero_le _, Nat.zero_le _⟩ (fun H locs hP hD hS => ?_)
                refine lv_icmp_eq (tgt := 94) hx hb dX2_readJoined_87 (by decide) (fun c_38 => ?_) (fun c_38 => ?_)
                · replace h := ifp_el c_38 h
                  refine lv_iconst (v := (nI 0)) hx hb dX2_readJoined_94 (by decide) ?_
                  cases h
                  rw [← hQe]
                  exact W.zret hx hb hr rfl (fun t ht hW => ⟨⟨_, (), rfl, rfl, by rw [ht]; exact hP, va_K.moved hW.alike hK, hD⟩, hS.F ht⟩) hS.2.2 dX2_readJoined_95
                · replace h := ifn_el c_38 h
                  refine lv_iconst (v := (nI 1)) hx hb dX2_readJoined_90 (by decide) ?_
                  refine lv_goto (tgt := 95) hx hb dX2_readJoined_91 (by decide) ?_
                  cases h
                  rw [← hQe]
                  exact W.zret hx hb hr rfl (fun t ht hW => ⟨⟨_, (), rfl, rfl, by rw [ht]; exact hP, va_K.moved hW.alike hK, hD⟩, hS.F ht⟩) hS.2.2 dX2_readJoined_95
