def b_X10_goOn_10 (p2 : Int32) (p3 : Int32) (p4 : Int32) (p5 : Int32) (p6 : Int32) (v_l : Nat → Int32) (F : Nat) (r_1 : Int32) (rec10 : Int32 → (Nat → Int64) → (Nat → Int64) → Option ((Nat → Int64) × (Nat → Int64))) (x8_6 : Int32) (y_now_7 : Nat → Int64) (y_then_8 : Nat → Int64) : Option ((Nat → Int64) × (Nat → Int64)) := (if p2 ≤ x8_6 then some (y_now_7, y_then_8) else (if r_1 = 0 then bd2 (D_X10_meet F p3 p4 p5 p6 v_l y_now_7 y_then_8) (fun y_now_13 y_then_14 => nm (x8_6 + (nI 1)) (fun x8_16 => rec10 x8_16 y_now_13 y_then_14)) else some (y_now_7, y_then_8)))
def D_X10_goOn (F : Nat) (p1 : Int32) (p2 : Int32) (p3 : Int32) (p4 : Int32) (p5 : Int32) (p6 : Int32) (v_l : Nat → Int32) (v_one : Nat → Int32) (v_two : Nat → Int32) (v_ways : Nat → Int32) (v_now : Nat → Int64) (v_then : Nat → Int64) : Option ((Nat → Int32) × (Nat → Int32) × (Nat → Int32) × (Nat → Int64) × (Nat → Int64)) := bd4 (D_X10_isAlike F p1 v_l v_one v_two v_ways) (fun r_1 y_one_2 y_two_3 y_ways_4 => bd2 (lpg (T := Int32 → (Nat → Int64) → (Nat → Int64) → Option ((Nat → Int64) × (Nat → Int64))) (fun _ _ _ => none) (b_X10_goOn_10 p2 p3 p4 p5 p6 v_l F r_1) F (nI 0) v_now v_then) (fun o_9 o_10 => some (y_one_2, y_two_3, y_ways_4, o_9, o_10)))
abbrev rm_X10_goOn : Room := { frames := 5, cells := 0, slots := 0, locals := 113 }
set_option maxHeartbeats 4000000 in
set_option maxRecDepth 100000 in
theorem c_X10_goOn (l : Launch) (D : va_G) (ca : Nat → ClassId) (F : Nat) (sz : Nat) (q_this q_text q_read q_l q_stands q_kept q_one q_two q_ways q_now q_then : Nat) (p1 : Int32) (p2 : Int32) (p3 : Int32) (p4 : Int32) (p5 : Int32) (p6 : Int32) (v_size : Int32) (v_at : Int32) (v_keptMany : Int32) (v_l : Nat → Int32) (v_one : Nat → Int32) (v_two : Nat → Int32) (v_ways : Nat → Int32) (v_now : Nat → Int64) (v_then : Nat → Int64) (o_one : Nat → Int32) (o_two : Nat → Int32) (o_ways : Nat → Int32) (o_now : Nat → Int64) (o_then : Nat → Int64) (h : D_X10_goOn F p1 p2 p3 p4 p5 p6 v_l v_one v_two v_ways v_now v_then = some (o_one, o_two, o_ways, o_now, o_then)) : Met l yX10_goOn wsX10_goOn rm_X10_goOn (va_Pc [.ref q_this, .int p1, .int p2, .int p3, .int p4, .int p5, .int p6] (kPre D ca [(q_this, .inr (8, [.ref q_text, .int v_size, .int v_at, .ref q_read, .ref q_l, .ref q_stands, .ref q_kept, .int v_keptMany, .ref q_one, .ref q_two, .ref q_ways, .ref q_now, .ref q_then])), (q_l, .inl (ca 0, 336, .inl v_l)), (q_one, .inl (ca 0, 7, .inl v_one)), (q_two, .inl (ca 0, 7, .inl v_two)), (q_ways, .inl (ca 0, 49, .inl v_ways)), (q_now, .inl (ca 1, 81, .inr (.inl v_now))), (q_then, .inl (ca 1, 81, .inr (.inl v_then)))] sz)) (kQv D ca (va_A [(q_this, .inr (8, [.ref q_text, .int v_size, .int v_at, .ref q_read, .ref q_l, .ref q_stands, .ref q_kept, .int v_keptMany, .ref q_one, .ref q_two, .ref q_ways, .ref q_now, .ref q_then])), (q_l, .inl (ca 0, 336, .inl v_l)), (q_one, .inl (ca 0, 7, .inl v_one)), (q_two, .inl (ca 0, 7, .inl v_two)), (q_ways, .inl (ca 0, 49, .inl v_ways)), (q_now, .inl (ca 1, 81, .inr (.inl v_now))), (q_then, .inl (ca 1, 81, .inr (.inl v_then)))] sz) [(q_this, .inr (8, [.ref q_text, .int v_size, .int v_at, .ref q_read, .ref q_l, .ref q_stands, .ref q_kept, .int v_keptMany, .ref q_one, .ref q_two, .ref q_ways, .ref q_now, .ref q_then])), (q_l, .inl (ca 0, 336, .inl v_l)), (q_one, .inl (ca 0, 7, .inl o_one)), (q_two, .inl (ca 0, 7, .inl o_two)), (q_ways, .inl (ca 0, 49, .inl o_ways)), (q_now, .inl (ca 1, 81, .inr (.inl o_now))), (q_then, .inl (ca 1, 81, .inr (.inl o_then)))]) 0 0 (va_A [(q_this, .inr (8, [.ref q_text, .int v_size, .int v_at, .ref q_read, .ref q_l, .ref q_stands, .ref q_kept, .int v_keptMany, .ref q_one, .ref q_two, .ref q_ways, .ref q_now, .ref q_then])), (q_l, .inl (ca 0, 336, .inl v_l)), (q_one, .inl (ca 0, 7, .inl v_one)), (q_two, .inl (ca 0, 7, .inl v_two)), (q_ways, .inl (ca 0, 49, .inl v_ways)), (q_now, .inl (ca 1, 81, .inr (.inl v_now))), (q_then, .inl (ca 1, 81, .inr (.inl v_then)))] sz) := by
  refine Met.ofW (cc := cX10_goOn) (maxL := 9) (ret := none) (by decide +kernel) rfl ?_
  intro p e s m args below meth c s₁ B hml hv
  obtain ⟨rfl, hsz, hP, hK, hD0⟩ := hv
  have hx := B.exec
  have hb := B.bytes
  have hr := B.returns
  have hts := atoms_spec (ws := wsX10_goOn) B.pre
  have hown : s.vm.findClass RX10 = some m.cls := findClass_of_methodNamed B.named
  have hlocks := B.notSynchronized
  clear B
  subst hsz
  have hD := hD0.self (sz := s.heap.size)
  generalize hAe : va_A [(q_this, .inr (8, [.ref q_text, .int v_size, .int v_at, .ref q_read, .ref q_l, .ref q_stands, .ref q_kept, .int v_keptMany, .ref q_one, .ref q_two, .ref q_ways, .ref q_now, .ref q_then])), (q_l, .inl (ca 0, 336, .inl v_l)), (q_one, .inl (ca 0, 7, .inl v_one)), (q_two, .inl (ca 0, 7, .inl v_two)), (q_ways, .inl (ca 0, 49, .inl v_ways)), (q_now, .inl (ca 1, 81, .inr (.inl v_now))), (q_then, .inl (ca 1, 81, .inr (.inl v_then)))] s.heap.size = A at hD ⊢
  have hA : ∀ q : Nat, s.heap.size ≤ q → A q := fun q h => by rw [← hAe]; exact Or.inr h
  have hS : va_S A s.heap s.heap [] := va_S.rf
  have hl := lv_entry ([.ref q_this, .int p1, .int p2, .int p3, .int p4, .int p5, .int p6]) (n := 9) (Nat.le_of_ble_eq_true rfl)
  rw [lg_entry_eq]
  generalize (lg_sl ([.ref q_this, .int p1, .int p2, .int p3, .int p4, .int p5, .int p6]) ++ List.replicate (9 - (lg_sl ([.ref q_this, .int p1, .int p2, .int p3, .int p4, .int p5, .int p6])).length) Slot.unset).toArray = ls at hl ⊢
  have hl : lv_has ls 9 [(0, .ref q_this), (1, .int p1), (2, .int p2), (3, .int p3), (4, .int p4), (5, .int p5), (6, .int p6)] := hl
  generalize ([.ref q_this, .int p1, .int p2, .int p3, .int p4, .int p5, .int p6] : List Value).toArray = args at hts ⊢
  generalize hQe : MQ below (kQv D ca (A) [(q_this, .inr (8, [.ref q_text, .int v_size, .int v_at, .ref q_read, .ref q_l, .ref q_stands, .ref q_kept, .int v_keptMany, .ref q_one, .ref q_two, .ref q_ways, .ref q_now, .ref q_then])), (q_l, .inl (ca 0, 336, .inl v_l)), (q_one, .inl (ca 0, 7, .inl o_one)), (q_two, .inl (ca 0, 7, .inl o_two)), (q_ways, .inl (ca 0, 49, .inl o_ways)), (q_now, .inl (ca 1, 81, .inr (.inl o_now))), (q_then, .inl (ca 1, 81, .inr (.inl o_then)))]) args s 0 0 A = Q
  rw [D_X10_goOn] at h
  refine lv_aload_n hx hb dX10_goOn_0 rfl (lv_at hl 0 rfl) ?_
  refine lv_iload_n hx hb dX10_goOn_1 rfl (lv_at hl 1 rfl) ?_
  obtain ⟨r_1, y_one_2, y_two_3, y_ways_4, hg_5, h⟩ := bd4_el h
  refine kx_Vi (As := [.int p1]) (rest := []) (wr := [(q_now, .inl (ca 1, 81, .inr (.inl v_now))), (q_then, .inl (ca 1, 81, .inr (.inl v_then)))]) (w1 := [(q_this, .inr (8, [.ref q_text, .int v_size, .int v_at, .ref q_read, .ref q_l, .ref q_stands, .ref q_kept, .int v_keptMany, .ref q_one, .ref q_two, .ref q_ways, .ref q_now, .ref q_then])), (q_l, .inl (ca 0, 336, .inl v_l)), (q_one, .inl (ca 0, 7, .inl y_one_2)), (q_two, .inl (ca 0, 7, .inl y_two_3)), (q_ways, .inl (ca 0, 49, .inl y_ways_4))]) (wn := [(q_this, .inr (8, [.ref q_text, .int v_size, .int v_at, .ref q_read, .ref q_l, .ref q_stands, .ref q_kept, .int v_keptMany, .ref q_one, .ref q_two, .ref q_ways, .ref q_now, .ref q_then])), (q_l, .inl (ca 0, 336, .inl v_l)), (q_one, .inl (ca 0, 7, .inl y_one_2)), (q_two, .inl (ca 0, 7, .inl y_two_3)), (q_ways, .inl (ca 0, 49, .inl y_ways_4)), (q_now, .inl (ca 1, 81, .inr (.inl v_now))), (q_then, .inl (ca 1, 81, .inr (.inl v_then)))]) ⟨hx, hb, hml, hown, hts⟩ (c_X10_isAlike l D ca F s.heap.size q_this q_text q_read q_l q_stands q_kept q_one q_two q_ways q_now q_then p1 v_size v_at v_keptMany v_l v_one v_two v_ways r_1 y_one_2 y_two_3 y_ways_4 hg_5) (cwV 1 hts gX10_goOn_X10_isAlike rfl rfl rfl (by decide +kernel) ⟨(Nat.le_of_ble_eq_true rfl), (Nat.le_of_ble_eq_true rfl)⟩) hK hP hD hS hA (ci := 8) (q0 := 0) rfl rfl [0, 1, 2, 3, 4] [5, 6] [2, 3, 4, 5, 6, 0, 1] rfl rfl rfl rfl (by decide) rfl rfl rfl hl.1 rfl (Nat.le_of_ble_eq_true rfl) dX10_goOn_2 ⟨Nat.zero_le _, Nat.zero_le _⟩ (fun H locs hP hD hS => ?_)
  refine lv_istore (lv' := [(7, .int r_1), (0, .ref q_this), (1, .int p1), (2, .int p2), (3, .int p3), (4, .int p4), (5, .int p5), (6, .int p6)]) hx hb dX10_goOn_5 hl (by decide) rfl (fun ls hl => ?_)
  refine lv_iconst (v := (nI 0)) hx hb dX10_goOn_7 (by decide) ?_
  refine lv_istore (lv' := [(8, .int (nI 0)), (7, .int r_1), (0, .ref q_this), (1, .int p1), (2, .int p2), (3, .int p3), (4, .int p4), (5, .int p5), (6, .int p6)]) hx hb dX10_goOn_8 hl (by decide) rfl (fun ls hl => ?_)
  obtain ⟨o_9, o_10, hL, h⟩ := bd2_el h
  have hex : ∀ (H : Heap) (locs : List Loc) (ls : Array Slot), va_P D vwCl [(q_this, .inr (8, [.ref q_text, .int v_size, .int v_at, .ref q_read, .ref q_l, .ref q_stands, .ref q_kept, .int v_keptMany, .ref q_one, .ref q_two, .ref q_ways, .ref q_now, .ref q_then])), (q_l, .inl (ca 0, 336, .inl v_l)), (q_one, .inl (ca 0, 7, .inl y_one_2)), (q_two, .inl (ca 0, 7, .inl y_two_3)), (q_ways, .inl (ca 0, 49, .inl y_ways_4)), (q_now, .inl (ca 1, 81, .inr (.inl o_9))), (q_then, .inl (ca 1, 81, .inr (.inl o_10)))] H → va_D A [(q_this, .inr (8, [.ref q_text, .int v_size, .int v_at, .ref q_read, .ref q_l, .ref q_stands, .ref q_kept, .int v_keptMany, .ref q_one, .ref q_two, .ref q_ways, .ref q_now, .ref q_then])), (q_l, .inl (ca 0, 336, .inl v_l)), (q_one, .inl (ca 0, 7, .inl y_one_2)), (q_two, .inl (ca 0, 7, .inl y_two_3)), (q_ways, .inl (ca 0, 49, .inl y_ways_4)), (q_now, .inl (ca 1, 81, .inr (.inl o_9))), (q_then, .inl (ca 1, 81, .inr (.inl o_10)))] → va_S A s.heap H locs → lv_has ls 9 [] → W p l e (headSpec wsX10_goOn rm_X10_goOn).room s m args below meth c H locs 0 0 Q (F0 m 38 ls []) := by
    intro H locs ls hP hD hS hl
    cases h
    rw [← hQe]
    exact W.vret hx hb hr (fun t ht hW => ⟨⟨(), rfl, trivial, by rw [ht]; exact hP, va_K.moved hW.alike hK, hD⟩, hS.F ht⟩) hS.2.2 dX10_goOn_38
  have hlp : ∀ (n : Nat) (x8_6 : Int32) (y_now_7 : Nat → Int64) (y_then_8 : Nat → Int64) (o_9 : Nat → Int64) (o_10 : Nat → Int64) (H : Heap) (locs : List Loc) (ls : Array Slot), lpg (T := Int32 → (Nat → Int64) → (Nat → Int64) → Option ((Nat → Int64) × (Nat → Int64))) (fun _ _ _ => none) (b_X10_goOn_10 p2 p3 p4 p5 p6 v_l F r_1) n x8_6 y_now_7 y_then_8 = some (o_9, o_10) → (∀ (H : Heap) (locs : List Loc) (ls : Array Slot), va_P D vwCl [(q_this, .inr (8, [.ref q_text, .int v_size, .int v_at, .ref q_read, .ref q_l, .ref q_stands, .ref q_kept, .int v_keptMany, .ref q_one, .ref q_two, .ref q_ways, .ref q_now, .ref q_then])), (q_l, .inl (ca 0, 336, .inl v_l)), (q_one, .inl (ca 0, 7, .inl y_one_2)), (q_two, .inl (ca 0, 7, .inl y_two_3)), (q_ways, .inl (ca 0, 49, .inl y_ways_4)), (q_now, .inl (ca 1, 81, .inr (.inl o_9))), (q_then, .inl (ca 1, 81, .inr (.inl o_10)))] H → va_D A [(q_this, .inr (8, [.ref q_text, .int v_size, .int v_at, .ref q_read, .ref q_l, .ref q_stands, .ref q_kept, .int v_keptMany, .ref q_one, .ref q_two, .ref q_ways, .ref q_now, .ref q_then])), (q_l, .inl (ca 0, 336, .inl v_l)), (q_one, .inl (ca 0, 7, .inl y_one_2)), (q_two, .inl (ca 0, 7, .inl y_two_3)), (q_ways, .inl (ca 0, 49, .inl y_ways_4)), (q_now, .inl (ca 1, 81, .inr (.inl o_9))), (q_then, .inl (ca 1, 81, .inr (.inl o_10)))] → va_S A s.heap H locs → lv_has ls 9 [] → W p l e (headSpec wsX10_goOn rm_X10_goOn).room s m args below meth c H locs 0 0 Q (F0 m 38 ls [])) → va_P D vwCl [(q_this, .inr (8, [.ref q_text, .int v_size, .int v_at, .ref q_read, .ref q_l, .ref q_stands, .ref q_kept, .int v_keptMany, .ref q_one, .ref q_two, .ref q_ways, .ref q_now, .ref q_then])), (q_l, .inl (ca 0, 336, .inl v_l)), (q_one, .inl (ca 0, 7, .inl y_one_2)), (q_two, .inl (ca 0, 7, .inl y_two_3)), (q_ways, .inl (ca 0, 49, .inl y_ways_4)), (q_now, .inl (ca 1, 81, .inr (.inl y_now_7))), (q_then, .inl (ca 1, 81, .inr (.inl y_then_8)))] H → va_D A [(q_this, .inr (8, [.ref q_text, .int v_size, .int v_at, .ref q_read, .ref q_l, .ref q_stands, .ref q_kept, .int v_keptMany, .ref q_one, .ref q_two, .ref q_ways, .ref q_now, .ref q_then])), (q_l, .inl (ca 0, 336, .inl v_l)), (q_one, .inl (ca 0, 7, .inl y_one_2)), (q_two, .inl (ca 0, 7, .inl y_two_3)), (q_ways, .inl (ca 0, 49, .inl y_ways_4)), (q_now, .inl (ca 1, 81, .inr (.inl y_now_7))), (q_then, .inl (ca 1, 81, .inr (.inl y_then_8)))] → va_S A s.heap H locs → lv_has ls 9 [(0, .ref q_this), (2, .int p2), (3, .int p3), (4, .int p4), (5, .int p5), (6, .int p6), (7, .int r_1), (8, .int x8_6)] → W p l e (headSpec wsX10_goOn rm_X10_goOn).room s m args below meth c H locs 0 0 Q (F0 m 10 ls []) := by
    intro n
    induction n with
    | zero => intro x8_6 y_now_7 y_then_8 o_9 o_10 H locs ls h; have h : (none : Option ((Nat → Int64) × (Nat → Int64))) = some _ := h; cases h
    | succ n ih =>
      intro x8_6 y_now_7 y_then_8 o_9 o_10 H locs ls h hex hP hD hS hl
      rw [lpg_succ, b_X10_goOn_10] at h
      refine lv_iload hx hb dX10_goOn_10 (lv_at hl 7 rfl) ?_
      refine lv_iload_n hx hb dX10_goOn_12 rfl (lv_at hl 1 rfl) ?_
      refine lv_icmp_ge (tgt := 38) hx hb dX10_goOn_13 (by decide) (fun c_11 => ?_) (fun c_11 => ?_)
      · replace h := ifp_el c_11 h
        cases h
        exact hex _ _ _ hP hD hS (lv_sub hl [] rfl)
      · replace h := ifn_el c_11 h
        refine lv_iload hx hb dX10_goOn_16 (lv_at hl 6 rfl) ?_
        refine lv_if_ne (tgt := 38) hx hb dX10_goOn_18 (by decide) (fun c_12 => ?_) (fun c_12 => ?_)
        · replace h := ifn_el c_12 h
          cases h
          exact hex _ _ _ hP hD hS (lv_sub hl [] rfl)
        · replace h := ifp_el c_12 h
          refine lv_aload_n hx hb dX10_goOn_21 rfl (lv_at hl 0 rfl) ?_
          refine lv_iload_n hx hb dX10_goOn_22 rfl (lv_at hl 2 rfl) ?_
          refine lv_iload hx hb dX10_goOn_23 (lv_at hl 3 rfl) ?_
          refine lv_iload hx hb dX10_goOn_25 (lv_at hl 4 rfl) ?_
          refine lv_iload hx hb dX10_goOn_27 (lv_at hl 5 rfl) ?_
          obtain ⟨y_now_13, y_then_14, hg_15, h⟩ := bd2_el h
          refine kx_Vv (As := [.int p3, .int p4, .int p5, .int p6]) (rest := []) (wr := [(q_one, .inl (ca 0, 7, .inl y_one_2)), (q_two, .inl (ca 0, 7, .inl y_two_3)), (q_ways, .inl (ca 0, 49, .inl y_ways_4))]) (w1 := [(q_this, .inr (8, [.ref q_text, .int v_size, .int v_at, .ref q_read, .ref q_l, .ref q_stands, .ref q_kept, .int v_keptMany, .ref q_one, .ref q_two, .ref q_ways, .ref q_now, .ref q_then])), (q_l, .inl (ca 0, 336, .inl v_l)), (q_now, .inl (ca 1, 81, .inr (.inl y_now_13))), (q_then, .inl (ca 1, 81, .inr (.inl y_then_14)))]) (wn := [(q_this, .inr (8, [.ref q_text, .int v_size, .int v_at, .ref q_read, .ref q_l, .ref q_stands, .ref q_kept, .int v_keptMany, .ref q_one, .ref q_two, .ref q_ways, .ref q_now, .ref q_then])), (q_l, .inl (ca 0, 336, .inl v_l)), (q_one, .inl (ca 0, 7, .inl y_one_2)), (q_two, .inl (ca 0, 7, .inl y_two_3)), (q_ways, .inl (ca 0, 49, .inl y_ways_4)), (q_now, .inl (ca 1, 81, .inr (.inl y_now_13))), (q_then, .inl (ca 1, 81, .inr (.inl y_then_14)))]) ⟨hx, hb, hml, hown, hts⟩ (c_X10_meet l D ca F H.size q_this q_text q_read q_l q_stands q_kept q_one q_two q_ways q_now q_then p3 p4 p5 p6 v_size v_at v_keptMany v_l y_now_7 y_then_8 y_now_13 y_then_14 hg_15) (cwV 4 hts gX10_goOn_X10_meet rfl rfl rfl (by decide +kernel) ⟨(Nat.le_of_ble_eq_true rfl), (Nat.le_of_ble_eq_true rfl)⟩) hK hP hD hS hA (ci := 8) (q0 := 0) rfl rfl [0, 1, 5, 6] [2, 3, 4] [3, 4, 0, 1, 2, 5, 6] rfl rfl rfl rfl (by decide) rfl rfl rfl hl.1 rfl (Nat.le_of_ble_eq_true rfl) dX10_goOn_29 ⟨Nat.zero_le _, Nat.zero_le _⟩ (fun H locs hP hD hS => ?_)
          obtain ⟨x8_16, e_17, h⟩ := nm_el h
          refine lv_iinc (v := x8_16) (lv' := [(8, .int x8_16), (0, .ref q_this), (2, .int p2), (3, .int p3), (4, .int p4), (5, .int p5), (6, .int p6), (7, .int r_1)]) hx hb dX10_goOn_32 hl (k := 7) rfl (by rw [← e_17]; rfl) (by decide) rfl (fun ls hl => ?_)
          refine lv_goto (tgt := 10) hx hb dX10_goOn_35 (by decide) ?_
          exact ih _ _ _ _ _ _ _ _ h hex hP hD hS (lv_sub hl [1, 2, 3, 4, 5, 6, 7, 0] rfl)
  exact hlp F (nI 0) v_now v_then o_9 o_10 H locs ls hL hex hP hD hS (lv_sub hl [2, 4, 5, 6, 7, 8, 1, 0] rfl)
def D_X10_goAsTold (F : Nat) (p1 : Int32) (p2 : Int32) (v_l : Nat → Int32) (v_stands : Nat → Int32) (v_one : Nat → Int32) (v_two : Nat → Int32) (v_ways : Nat → Int32) (v_now : Nat → Int64) (v_then : Nat → Int64) : Option ((Nat → Int32) × (Nat → Int32) × (Nat → Int32) × (Nat → Int64) × (Nat → Int64)) := ck 16 ((nI 2) * p1) (ck 16 (((nI 2) * p1) + (nI 1)) (bd1 (D_X10_beginAt F (v_stands ((nI 2) * p1).toNatClampNeg) (v_stands (((nI 2) * p1) + (nI 1)).toNatClampNeg) v_now) (fun y_now_3 => ck 336 (nI 298) (ck 336 (nI 299) (ck 336 (nI 300) (ck 336 (nI 301) (bd5 (D_X10_goOn F p1 p2 (v_l (nI 298).toNatClampNeg) (v_l (nI 299).toNatClampNeg) (v_l (nI 300).toNatClampNeg) (v_l (nI 301).toNatClampNeg) v_l v_one v_two v_ways y_now_3 v_then) (fun y_one_9 y_two_10 y_ways_11 y_now_12 y_then_13 => some (y_one_9, y_two_10, y_ways_11, y_now_12, y_then_13)))))))))
abbrev rm_X10_goAsTold : Room := { frames := 6, cells := 0, slots := 0, locals := 141 }
set_option maxHeartbeats 4000000 in
set_option maxRecDepth 100000 in
theorem c_X10_goAsTold (l : Launch) (D : va_G) (ca : Nat → ClassId) (F : Nat) (sz : Nat) (q_this q_text q_read q_l q_stands q_kept q_one q_two q_ways q_now q_then : Nat) (p1 : Int32) (p2 : Int32) (v_size : Int32) (v_at : Int32) (v_keptMany : Int32) (v_l : Nat → Int32) (v_stands : Nat → Int32) (v_one : Nat → Int32) (v_two : Nat → Int32) (v_ways : Nat → Int32) (v_now : Nat → Int64) (v_then : Nat → Int64) (o_one : Nat → Int32) (o_two : Nat → Int32) (o_ways : Nat → Int32) (o_now : Nat → Int64) (o_then : Nat → Int64) (h : D_X10_goAsTold F p1 p2 v_l v_stands v_one v_two v_ways v_now v_then = some (o_one, o_two, o_ways, o_now, o_then)) : Met l yX10_goAsTold wsX10_goAsTold rm_X10_goAsTold (va_Pc [.ref q_this, .int p1, .int p2] (kPre D ca [(q_this, .inr (8, [.ref q_text, .int v_size, .int v_at, .ref q_read, .ref q_l, .ref q_stands, .ref q_kept, .int v_keptMany, .ref q_one, .ref q_two, .ref q_ways, .ref q_now, .ref q_then])), (q_l, .inl (ca 0, 336, .inl v_l)), (q_stands, .inl (ca 0, 16, .inl v_stands)), (q_one, .inl (ca 0, 7, .inl v_one)), (q_two, .inl (ca 0, 7, .inl v_two)), (q_ways, .inl (ca 0, 49, .inl v_ways)), (q_now, .inl (ca 1, 81, .inr (.inl v_now))), (q_then, .inl (ca 1, 81, .inr (.inl v_then)))] sz)) (kQv D ca (va_A [(q_this, .inr (8, [.ref q_text, .int v_size, .int v_at, .ref q_read, .ref q_l, .ref q_stands, .ref q_kept, .int v_keptMany, .ref q_one, .ref q_two, .ref q_ways, .ref q_now, .ref q_then])), (q_l, .inl (ca 0, 336, .inl v_l)), (q_stands, .inl (ca 0, 16, .inl v_stands)), (q_one, .inl (ca 0, 7, .inl v_one)), (q_two, .inl (ca 0, 7, .inl v_two)), (q_ways, .inl (ca 0, 49, .inl v_ways)), (q_now, .inl (ca 1, 81, .inr (.inl v_now))), (q_then, .inl (ca 1, 81, .inr (.inl v_then)))] sz) [(q_this, .inr (8, [.ref q_text, .int v_size, .int v_at, .ref q_read, .ref q_l, .ref q_stands, .ref q_kept, .int v_keptMany, .ref q_one, .ref q_two, .ref q_ways, .ref q_now, .ref q_then])), (q_l, .inl (ca 0, 336, .inl v_l)), (q_stands, .inl (ca 0, 16, .inl v_stands)), (q_one, .inl (ca 0, 7, .inl o_one)), (q_two, .inl (ca 0, 7, .inl o_two)), (q_ways, .inl (ca 0, 49, .inl o_ways)), (q_now, .inl (ca 1, 81, .inr (.inl o_now))), (q_then, .inl (ca 1, 81, .inr (.inl o_then)))]) 0 0 (va_A [(q_this, .inr (8, [.ref q_text, .int v_size, .int v_at, .ref q_read, .ref q_l, .ref q_stands, .ref q_kept, .int v_keptMany, .ref q_one, .ref q_two, .ref q_ways, .ref q_now, .ref q_then])), (q_l, .inl (ca 0, 336, .inl v_l)), (q_stands, .inl (ca 0, 16, .inl v_stands)), (q_one, .inl (ca 0, 7, .inl v_one)), (q_two, .inl (ca 0, 7, .inl v_two)), (q_ways, .inl (ca 0, 49, .inl v_ways)), (q_now, .inl (ca 1, 81, .inr (.inl v_now))), (q_then, .inl (ca 1, 81, .inr (.inl v_then)))] sz) := by
  refine Met.ofW (cc := cX10_goAsTold) (maxL := 3) (ret := none) (by decide +kernel) rfl ?_
  intro p e s m args below meth c s₁ B hml hv
  obtain ⟨rfl, hsz, hP, hK, hD0⟩ := hv
  have hx := B.exec
  have hb := B.bytes
  have hr := B.returns
  have hts := atoms_spec (ws := wsX10_goAsTold) B.pre
  have hown : s.vm.findClass RX10 = some m.cls := findClass_of_methodNamed B.named
  have hlocks := B.notSynchronized
  clear B
  subst hsz
  have hD := hD0.self (sz := s.heap.size)
  generalize hAe : va_A [(q_this, .inr (8, [.ref q_text, .int v_size, .int v_at, .ref q_read, .ref q_l, .ref q_stands, .ref q_kept, .int v_keptMany, .ref q_one, .ref q_two, .ref q_ways, .ref q_now, .ref q_then])), (q_l, .inl (ca 0, 336, .inl v_l)), (q_stands, .inl (ca 0, 16, .inl v_stands)), (q_one, .inl (ca 0, 7, .inl v_one)), (q_two, .inl (ca 0, 7, .inl v_two)), (q_ways, .inl (ca 0, 49, .inl v_ways)), (q_now, .inl (ca 1, 81, .inr (.inl v_now))), (q_then, .inl (ca 1, 81, .inr (.inl v_then)))] s.heap.size = A at hD ⊢
  have hA : ∀ q : Nat, s.heap.size ≤ q → A q := fun q h => by rw [← hAe]; exact Or.inr h
  have hS : va_S A s.heap s.heap [] := va_S.rf
  have hl := lv_entry ([.ref q_this, .int p1, .int p2]) (n := 3) (Nat.le_of_ble_eq_true rfl)
  rw [lg_entry_eq]
  generalize (lg_sl ([.ref q_this, .int p1, .int p2]) ++ List.replicate (3 - (lg_sl ([.ref q_this, .int p1, .int p2])).length) Slot.unset).toArray = ls at hl ⊢
  have hl : lv_has ls 3 [(0, .ref q_this), (1, .int p1), (2, .int p2)] := hl
  generalize ([.ref q_this, .int p1, .int p2] : List Value).toArray = args at hts ⊢
  generalize hQe : MQ below (kQv D ca (A) [(q_this, .inr (8, [.ref q_text, .int v_size, .int v_at, .ref q_read, .ref q_l, .ref q_stands, .ref q_kept, .int v_keptMany, .ref q_one, .ref q_two, .ref q_ways, .ref q_now, .ref q_then])), (q_l, .inl (ca 0, 336, .inl v_l)), (q_stands, .inl (ca 0, 16, .inl v_stands)), (q_one, .inl (ca 0, 7, .inl o_one)), (q_two, .inl (ca 0, 7, .inl o_two)), (q_ways, .inl (ca 0, 49, .inl o_ways)), (q_now, .inl (ca 1, 81, .inr (.inl o_now))), (q_then, .inl (ca 1, 81, .inr (.inl o_then)))]) args s 0 0 A = Q
  have i_X10 : ∀ w ∈ u_ws RX10 TX10 13, w ∈ wsX10_goAsTold := by decide +kernel
  have k_19 := hts (.fieldLink RX10 19 "TradeWordsModel" "stands" "[I") (by decide +kernel)
  have k_16 := hts (.fieldLink RX10 16 "TradeWordsModel" "l" "[I") (by decide +kernel)
  rw [D_X10_goAsTold] at h
  refine lv_aload_n hx hb dX10_goAsTold_0 rfl (lv_at hl 0 rfl) ?_
  refine lv_aload_n hx hb dX10_goAsTold_1 rfl (lv_at hl 0 rfl) ?_
  refine va_get (D := D) (ci := 8) (v := .ref q_stands) (C := RX10) (T := TX10) (N := 13) hx hb hts i_X10 hown hK hP 0 rfl rfl 5 (by decide) k_19 (fun _ h9 => h9) rfl dX10_goAsTold_2 ?_
  refine lv_iconst (v := (nI 2)) hx hb dX10_goAsTold_5 (by decide) ?_
  refine lv_iload_n hx hb dX10_goAsTold_6 rfl (lv_at hl 1 rfl) ?_
  refine lv_imul hx hb dX10_goAsTold_7 ?_
  obtain ⟨hi_1, h⟩ := ck_el h
  refine va_iald hx hb hK hP 2 0 rfl rfl hi_1 dX10_goAsTold_8 ?_
  refine lv_aload_n hx hb dX10_goAsTold_9 rfl (lv_at hl 0 rfl) ?_
  refine va_get (D := D) (ci := 8) (v := .ref q_stands) (C := RX10) (T := TX10) (N := 13) hx hb hts i_X10 hown hK hP 0 rfl rfl 5 (by decide) k_19 (fun _ h9 => h9) rfl dX10_goAsTold_10 ?_
  refine lv_iconst (v := (nI 2)) hx hb dX10_goAsTold_13 (by decide) ?_
  refine lv_iload_n hx hb dX10_goAsTold_14 rfl (lv_at hl 1 rfl) ?_
  refine lv_imul hx hb dX10_goAsTold_15 ?_
  refine lv_iconst (v := (nI 1)) hx hb dX10_goAsTold_16 (by decide) ?_
  refine lv_iadd hx hb dX10_goAsTold_17 ?_
  obtain ⟨hi_2, h⟩ := ck_el h
  refine va_iald hx hb hK hP 2 0 rfl rfl hi_2 dX10_goAsTold_18 ?_
  obtain ⟨y_now_3, hg_4, h⟩ := bd1_el h
  refine kx_Vv (As := [.int (v_stands ((nI 2) * p1).toNatClampNeg), .int (v_stands (((nI 2) * p1) + (nI 1)).toNatClampNeg)]) (rest := []) (wr := [(q_l, .inl (ca 0, 336, .inl v_l)), (q_stands, .inl (ca 0, 16, .inl v_stands)), (q_one, .inl (ca 0, 7, .inl v_one)), (q_two, .inl (ca 0, 7, .inl v_two)), (q_ways, .inl (ca 0, 49, .inl v_ways)), (q_then, .inl (ca 1, 81, .inr (.inl v_then)))]) (w1 := [(q_this, .inr (8, [.ref q_text, .int v_size, .int v_at, .ref q_read, .ref q_l, .ref q_stands, .ref q_kept, .int v_keptMany, .ref q_one, .ref q_two, .ref q_ways, .ref q_now, .ref q_then])), (q_now, .inl (ca 1, 81, .inr (.inl y_now_3)))]) (wn := [(q_this, .inr (8, [.ref q_text, .int v_size, .int v_at, .ref q_read, .ref q_l, .ref q_stands, .ref q_kept, .int v_keptMany, .ref q_one, .ref q_two, .ref q_ways, .ref q_now, .ref q_then])), (q_l, .inl (ca 0, 336, .inl v_l)), (q_stands, .inl (ca 0, 16, .inl v_stands)), (q_one, .inl (ca 0, 7, .inl v_one)), (q_two, .inl (ca 0, 7, .inl v_two)), (q_ways, .inl (ca 0, 49, .inl v_ways)), (q_now, .inl (ca 1, 81, .inr (.inl y_now_3))), (q_then, .inl (ca 1, 81, .inr (.inl v_then)))]) ⟨hx, hb, hml, hown, hts⟩ (c_X10_beginAt l D ca F s.heap.size q_this q_text q_read q_l q_stands q_kept q_one q_two q_ways q_now q_then (v_stands ((nI 2) * p1).toNatClampNeg) (v_stands (((nI 2) * p1) + (nI 1)).toNatClampNeg) v_size v_at v_keptMany v_now y_now_3 hg_4) (cwV 2 hts gX10_goAsTold_X10_beginAt rfl rfl rfl (by decide +kernel) ⟨(Nat.le_of_ble_eq_true rfl), (Nat.le_of_ble_eq_true rfl)⟩) hK hP hD hS hA (ci := 8) (q0 := 0) rfl rfl [0, 6] [1, 2, 3, 4, 5, 7] [6, 0, 1, 2, 3, 4, 7, 5] rfl rfl rfl rfl (by decide) rfl rfl rfl hl.1 rfl (Nat.le_of_ble_eq_true rfl) dX10_goAsTold_19 ⟨Nat.zero_le _, Nat.zero_le _⟩ (fun H locs hP hD hS => ?_)
  refine lv_aload_n hx hb dX10_goAsTold_22 rfl (lv_at hl 0 rfl) ?_
  refine lv_iload_n hx hb dX10_goAsTold_23 rfl (lv_at hl 1 rfl) ?_
  refine lv_iload_n hx hb dX10_goAsTold_24 rfl (lv_at hl 2 rfl) ?_
  refine lv_aload_n hx hb dX10_goAsTold_25 rfl (lv_at hl 0 rfl) ?_
  refine va_get (D := D) (ci := 8) (v := .ref q_l) (C := RX10) (T := TX10) (N := 13) hx hb hts i_X10 hown hK hP 0 rfl rfl 4 (by decide) k_16 (fun _ h9 => h9) rfl dX10_goAsTold_26 ?_
  refine lv_sipush (v := (nI 298)) hx hb dX10_goAsTold_29 (by decide) ?_
  obtain ⟨hi_5, h⟩ := ck_el h
  refine va_iald hx hb hK hP 1 0 rfl rfl hi_5 dX10_goAsTold_32 ?_
  refine lv_aload_n hx hb dX10_goAsTold_33 rfl (lv_at hl 0 rfl) ?_
  refine va_get (D := D) (ci := 8) (v := .ref q_l) (C := RX10) (T := TX10) (N := 13) hx hb hts i_X10 hown hK hP 0 rfl rfl 4 (by decide) k_16 (fun _ h9 => h9) rfl dX10_goAsTold_34 ?_
  refine lv_sipush (v := (nI 299)) hx hb dX10_goAsTold_37 (by decide) ?_
  obtain ⟨hi_6, h⟩ := ck_el h
  refine va_iald hx hb hK hP 1 0 rfl rfl hi_6 dX10_goAsTold_40 ?_
  refine lv_aload_n hx hb dX10_goAsTold_41 rfl (lv_at hl 0 rfl) ?_
  refine va_get (D := D) (ci := 8) (v := .ref q_l) (C := RX10) (T := TX10) (N := 13) hx hb hts i_X10 hown hK hP 0 rfl rfl 4 (by decide) k_16 (fun _ h9 => h9) rfl dX10_goAsTold_42 ?_
  refine lv_sipush (v := (nI 300)) hx hb dX10_goAsTold_45 (by decide) ?_
  obtain ⟨hi_7, h⟩ := ck_el h
  refine va_iald hx hb hK hP 1 0 rfl rfl hi_7 dX10_goAsTold_48 ?_
  refine lv_aload_n hx hb dX10_goAsTold_49 rfl (lv_at hl 0 rfl) ?_
  refine va_get (D := D) (ci := 8) (v := .ref q_l) (C := RX10) (T := TX10) (N := 13) hx hb hts i_X10 hown hK hP 0 rfl rfl 4 (by decide) k_16 (fun _ h9 => h9) rfl dX10_goAsTold_50 ?_
  refine lv_sipush (v := (nI 301)) hx hb dX10_goAsTold_53 (by decide) ?_
  obtain ⟨hi_8, h⟩ := ck_el h
  refine va_iald hx hb hK hP 1 0 rfl rfl hi_8 dX10_goAsTold_56 ?_
  obtain ⟨y_one_9, y_two_10, y_ways_11, y_now_12, y_then_13, hg_14, h⟩ := bd5_el h
  refine kx_Vv (As := [.int p1, .int p2, .int (v_l (nI 298).toNatClampNeg), .int (v_l (nI 299).toNatClampNeg), .int (v_l (nI 300).toNatClampNeg), .int (v_l (nI 301).toNatClampNeg)]) (rest := []) (wr := [(q_stands, .inl (ca 0, 16, .inl v_stands))]) (w1 := [(q_this, .inr (8, [.ref q_text, .int v_size, .int v_at, .ref q_read, .ref q_l, .ref q_stands, .ref q_kept, .int v_keptMany, .ref q_one, .ref q_two, .ref q_ways, .ref q_now, .ref q_then])), (q_l, .inl (ca 0, 336, .inl v_l)), (q_one, .inl (ca 0, 7, .inl y_one_9)), (q_two, .inl (ca 0, 7, .inl y_two_10)), (q_ways, .inl (ca 0, 49, .inl y_ways_11)), (q_now, .inl (ca 1, 81, .inr (.inl y_now_12))), (q_then, .inl (ca 1, 81, .inr (.inl y_then_13)))]) (wn := [(q_this, .inr (8, [.ref q_text, .int v_size, .int v_at, .ref q_read, .ref q_l, .ref q_stands, .ref q_kept, .int v_keptMany, .ref q_one, .ref q_two, .ref q_ways, .ref q_now, .ref q_then])), (q_l, .inl (ca 0, 336, .inl v_l)), (q_stands, .inl (ca 0, 16, .inl v_stands)), (q_one, .inl (ca 0, 7, .inl y_one_9)), (q_two, .inl (ca 0, 7, .inl y_two_10)), (q_ways, .inl (ca 0, 49, .inl y_ways_11)), (q_now, .inl (ca 1, 81, .inr (.inl y_now_12))), (q_then, .inl (ca 1, 81, .inr (.inl y_then_13)))]) ⟨hx, hb, hml, hown, hts⟩ (c_X10_goOn l D ca F H.size q_this q_text q_read q_l q_stands q_kept q_one q_two q_ways q_now q_then p1 p2 (v_l (nI 298).toNatClampNeg) (v_l (nI 299).toNatClampNeg) (v_l (nI 300).toNatClampNeg) (v_l (nI 301).toNatClampNeg) v_size v_at v_keptMany v_l v_one v_two v_ways y_now_3 v_then y_one_9 y_two_10 y_ways_11 y_now_12 y_then_13 hg_14) (cwV 6 hts gX10_goAsTold_X10_goOn rfl rfl rfl (by decide +kernel) ⟨(Nat.le_of_ble_eq_true rfl), (Nat.le_of_ble_eq_true rfl)⟩) hK hP hD hS hA (ci := 8) (q0 := 0) rfl rfl [0, 1, 3, 4, 5, 6, 7] [2] [1, 2, 0, 3, 4, 5, 6, 7] rfl rfl rfl rfl (by decide) rfl rfl rfl hl.1 rfl (Nat.le_of_ble_eq_true rfl) dX10_goAsTold_57 ⟨Nat.zero_le _, Nat.zero_le _⟩ (fun H locs hP hD hS => ?_)
  cases h
  rw [← hQe]
  exact W.vret hx hb hr (fun t ht hW => ⟨⟨(), rfl, trivial, by rw [ht]; exact hP, va_K.moved hW.alike hK, hD⟩, hS.F ht⟩) hS.2.2 dX10_goAsTold_60
def D_X10_wonBy (p1 : Int32) (p2 : Int32) (p3 : Int32) (v_now : Nat → Int64) : Option (Int64) := (if p1 = 0 then ck 81 p3 (some ((v_now p3.toNatClampNeg))) else ck 81 ((nI 9) * p2) (some ((v_now ((nI 9) * p2).toNatClampNeg))))
abbrev rm_X10_wonBy : Room := { frames := 0, cells := 0, slots := 0, locals := 0 }
set_option maxHeartbeats 4000000 in
set_option maxRecDepth 100000 in
theorem c_X10_wonBy (l : Launch) (D : va_G) (ca : Nat → ClassId) (sz : Nat) (q_this q_text q_read q_l q_stands q_kept q_one q_two q_ways q_now q_then : Nat) (p1 : Int32) (p2 : Int32) (p3 : Int32) (v_size : Int32) (v_at : Int32) (v_keptMany : Int32) (v_now : Nat → Int64) (r : Int64) (h : D_X10_wonBy p1 p2 p3 v_now = some (r)) : Met l yX10_wonBy wsX10_wonBy rm_X10_wonBy (va_Pc [.ref q_this, .int p1, .int p2, .int p3] (kPre D ca [(q_this, .inr (8, [.ref q_text, .int v_size, .int v_at, .ref q_read, .ref q_l, .ref q_stands, .ref q_kept, .int v_keptMany, .ref q_one, .ref q_two, .ref q_ways, .ref q_now, .ref q_then])), (q_now, .inl (ca 1, 81, .inr (.inl v_now)))] sz)) (kQl D ca (va_A [(q_this, .inr (8, [.ref q_text, .int v_size, .int v_at, .ref q_read, .ref q_l, .ref q_stands, .ref q_kept, .int v_keptMany, .ref q_one, .ref q_two, .ref q_ways, .ref q_now, .ref q_then])), (q_now, .inl (ca 1, 81, .inr (.inl v_now)))] sz) [(q_this, .inr (8, [.ref q_text, .int v_size, .int v_at, .ref q_read, .ref q_l, .ref q_stands, .ref q_kept, .int v_keptMany, .ref q_one, .ref q_two, .ref q_ways, .ref q_now, .ref q_then])), (q_now, .inl (ca 1, 81, .inr (.inl v_now)))] r) 0 0 (va_A [(q_this, .inr (8, [.ref q_text, .int v_size, .int v_at, .ref q_read, .ref q_l, .ref q_stands, .ref q_kept, .int v_keptMany, .ref q_one, .ref q_two, .ref q_ways, .ref q_now, .ref q_then])), (q_now, .inl (ca 1, 81, .inr (.inl v_now)))] sz) := by
  refine Met.ofW (cc := cX10_wonBy) (maxL := 4) (ret := (some .long)) (by decide +kernel) rfl ?_
  intro p e s m args below meth c s₁ B hml hv
  obtain ⟨rfl, hsz, hP, hK, hD0⟩ := hv
  have hx := B.exec
  have hb := B.bytes
  have hr := B.returns
  have hts := atoms_spec (ws := wsX10_wonBy) B.pre
  have hown : s.vm.findClass RX10 = some m.cls := findClass_of_methodNamed B.named
  have hlocks := B.notSynchronized
  clear B
  subst hsz
  have hD := hD0.self (sz := s.heap.size)
  generalize hAe : va_A [(q_this, .inr (8, [.ref q_text, .int v_size, .int v_at, .ref q_read, .ref q_l, .ref q_stands, .ref q_kept, .int v_keptMany, .ref q_one, .ref q_two, .ref q_ways, .ref q_now, .ref q_then])), (q_now, .inl (ca 1, 81, .inr (.inl v_now)))] s.heap.size = A at hD ⊢
  have hA : ∀ q : Nat, s.heap.size ≤ q → A q := fun q h => by rw [← hAe]; exact Or.inr h
  have hS : va_S A s.heap s.heap [] := va_S.rf
  have hl := lv_entry ([.ref q_this, .int p1, .int p2, .int p3]) (n := 4) (Nat.le_of_ble_eq_true rfl)
  rw [lg_entry_eq]
  generalize (lg_sl ([.ref q_this, .int p1, .int p2, .int p3]) ++ List.replicate (4 - (lg_sl ([.ref q_this, .int p1, .int p2, .int p3])).length) Slot.unset).toArray = ls at hl ⊢
  have hl : lv_has ls 4 [(0, .ref q_this), (1, .int p1), (2, .int p2), (3, .int p3)] := hl
  generalize ([.ref q_this, .int p1, .int p2, .int p3] : List Value).toArray = args at hts ⊢
  generalize hQe : MQ below (kQl D ca (A) [(q_this, .inr (8, [.ref q_text, .int v_size, .int v_at, .ref q_read, .ref q_l, .ref q_stands, .ref q_kept, .int v_keptMany, .ref q_one, .ref q_two, .ref q_ways, .ref q_now, .ref q_then])), (q_now, .inl (ca 1, 81, .inr (.inl v_now)))] r) args s 0 0 A = Q
  have i_X10 : ∀ w ∈ u_ws RX10 TX10 13, w ∈ wsX10_wonBy := by decide +kernel
  have k_34 := hts (.fieldLink RX10 34 "TradeWordsModel" "now" "[J") (by decide +kernel)
  rw [D_X10_wonBy] at h
  refine lv_iload_n hx hb dX10_wonBy_0 rfl (lv_at hl 1 rfl) ?_
  refine lv_if_ne (tgt := 13) hx hb dX10_wonBy_1 (by decide) (fun c_1 => ?_) (fun c_1 => ?_)
  · replace h := ifn_el c_1 h
    refine lv_aload_n hx hb dX10_wonBy_13 rfl (lv_at hl 0 rfl) ?_
    refine va_get (D := D) (ci := 8) (v := .ref q_now) (C := RX10) (T := TX10) (N := 13) hx hb hts i_X10 hown hK hP 0 rfl rfl 11 (by decide) k_34 (fun _ h9 => h9) rfl dX10_wonBy_14 ?_
    refine lv_bipush (v := (nI 9)) hx hb dX10_wonBy_17 (by decide) ?_
    refine lv_iload_n hx hb dX10_wonBy_19 rfl (lv_at hl 2 rfl) ?_
    refine lv_imul hx hb dX10_wonBy_20 ?_
    obtain ⟨hi_2, h⟩ := ck_el h
    refine va_lald hx hb hK hP 1 1 rfl rfl hi_2 dX10_wonBy_21 ?_
    cases h
    rw [← hQe]
    exact W.lret hx hb hr (fun t ht hW => ⟨⟨_, (), rfl, rfl, by rw [ht]; exact hP, va_K.moved hW.alike hK, hD⟩, hS.F ht⟩) hS.2.2 dX10_wonBy_22
  · replace h := ifp_el c_1 h
    refine lv_aload_n hx hb dX10_wonBy_4 rfl (lv_at hl 0 rfl) ?_
    refine va_get (D := D) (ci := 8) (v := .ref q_now) (C := RX10) (T := TX10) (N := 13) hx hb hts i_X10 hown hK hP 0 rfl rfl 11 (by decide) k_34 (fun _ h9 => h9) rfl dX10_wonBy_5 ?_
    refine lv_iload_n hx hb dX10_wonBy_8 rfl (lv_at hl 3 rfl) ?_
    obtain ⟨hi_3, h⟩ := ck_el h
    refine va_lald hx hb hK hP 1 1 rfl rfl hi_3 dX10_wonBy_9 ?_
    refine lv_goto (tgt := 22) hx hb dX10_wonBy_10 (by decide) ?_
    cases h
    rw [← hQe]
    exact W.lret hx hb hr (fun t ht hW => ⟨⟨_, (), rfl, rfl, by rw [ht]; exact hP, va_K.moved hW.alike hK, hD⟩, hS.F ht⟩) hS.2.2 dX10_wonBy_22
def D_X10_stand (p1 : Int32) (p2 : Int32) (v_l : Nat → Int32) (v_stands : Nat → Int32) : Option (Int32) := bd1 (D_X10_isMeaning p1) (fun r_1 => (if r_1 = 0 then some ((-1 : Int32)) else bd1 (D_X10_in p2.toInt64 (lN 0) (lN 1)) (fun r_4 => (if r_4 = 0 then some ((-1 : Int32)) else bd1 (D_X10_isTold p1 v_l) (fun r_7 => (if r_7 = 0 then some ((-2 : Int32)) else ck 16 (((nI 2) * p1) + p2) (some ((v_stands (((nI 2) * p1) + p2).toNatClampNeg)))))))))
abbrev rm_X10_stand : Room := { frames := 2, cells := 0, slots := 0, locals := 45 }
set_option maxHeartbeats 4000000 in
set_option maxRecDepth 100000 in
theorem c_X10_stand (l : Launch) (D : va_G) (ca : Nat → ClassId) (sz : Nat) (q_this q_text q_read q_l q_stands q_kept q_one q_two q_ways q_now q_then : Nat) (p1 : Int32) (p2 : Int32) (v_size : Int32) (v_at : Int32) (v_keptMany : Int32) (v_l : Nat → Int32) (v_stands : Nat → Int32) (r : Int32) (h : D_X10_stand p1 p2 v_l v_stands = some (r)) : Met l yX10_stand wsX10_stand rm_X10_stand (va_Pc [.ref q_this, .int p1, .int p2] (kPre D ca [(q_this, .inr (8, [.ref q_text, .int v_size, .int v_at, .ref q_read, .ref q_l, .ref q_stands, .ref q_kept, .int v_keptMany, .ref q_one, .ref q_two, .ref q_ways, .ref q_now, .ref q_then])), (q_l, .inl (ca 0, 336, .inl v_l)), (q_stands, .inl (ca 0, 16, .inl v_stands))] sz)) (kQi D ca (va_A [(q_this, .inr (8, [.ref q_text, .int v_size, .int v_at, .ref q_read, .ref q_l, .ref q_stands, .ref q_kept, .int v_keptMany, .ref q_one, .ref q_two, .ref q_ways, .ref q_now, .ref q_then])), (q_l, .inl (ca 0, 336, .inl v_l)), (q_stands, .inl (ca 0, 16, .inl v_stands))] sz) [(q_this, .inr (8, [.ref q_text, .int v_size, .int v_at, .ref q_read, .ref q_l, .ref q_stands, .ref q_kept, .int v_keptMany, .ref q_one, .ref q_two, .ref q_ways, .ref q_now, .ref q_then])), (q_l, .inl (ca 0, 336, .inl v_l)), (q_stands, .inl (ca 0, 16, .inl v_stands))] r) 0 0 (va_A [(q_this, .inr (8, [.ref q_text, .int v_size, .int v_at, .ref q_read, .ref q_l, .ref q_stands, .ref q_kept, .int v_keptMany, .ref q_one, .ref q_two, .ref q_ways, .ref q_now, .ref q_then])), (q_l, .inl (ca 0, 336, .inl v_l)), (q_stands, .inl (ca 0, 16, .inl v_stands))] sz) := by
  refine Met.ofW (cc := cX10_stand) (maxL := 3) (ret := (some .int)) (by decide +kernel) rfl ?_
  intro p e s m args below meth c s₁ B hml hv
  obtain ⟨rfl, hsz, hP, hK, hD0⟩ := hv
  have hx := B.exec
  have hb := B.bytes
  have hr := B.returns
  have hts := atoms_spec (ws := wsX10_stand) B.pre
  have hown : s.vm.findClass RX10 = some m.cls := findClass_of_methodNamed B.named
  have hlocks := B.notSynchronized
  clear B
  subst hsz
  have hD := hD0.self (sz := s.heap.size)
  generalize hAe : va_A [(q_this, .inr (8, [.ref q_text, .int v_size, .int v_at, .ref q_read, .ref q_l, .ref q_stands, .ref q_kept, .int v_keptMany, .ref q_one, .ref q_two, .ref q_ways, .ref q_now, .ref q_then])), (q_l, .inl (ca 0, 336, .inl v_l)), (q_stands, .inl (ca 0, 16, .inl v_stands))] s.heap.size = A at hD ⊢
  have hA : ∀ q : Nat, s.heap.size ≤ q → A q := fun q h => by rw [← hAe]; exact Or.inr h
  have hS : va_S A s.heap s.heap [] := va_S.rf
  have hl := lv_entry ([.ref q_this, .int p1, .int p2]) (n := 3) (Nat.le_of_ble_eq_true rfl)
  rw [lg_entry_eq]
  generalize (lg_sl ([.ref q_this, .int p1, .int p2]) ++ List.replicate (3 - (lg_sl ([.ref q_this, .int p1, .int p2])).length) Slot.unset).toArray = ls at hl ⊢
  have hl : lv_has ls 3 [(0, .ref q_this), (1, .int p1), (2, .int p2)] := hl
  generalize ([.ref q_this, .int p1, .int p2] : List Value).toArray = args at hts ⊢
  generalize hQe : MQ below (kQi D ca (A) [(q_this, .inr (8, [.ref q_text, .int v_size, .int v_at, .ref q_read, .ref q_l, .ref q_stands, .ref q_kept, .int v_keptMany, .ref q_one, .ref q_two, .ref q_ways, .ref q_now, .ref q_then])), (q_l, .inl (ca 0, 336, .inl v_l)), (q_stands, .inl (ca 0, 16, .inl v_stands))] r) args s 0 0 A = Q
  have i_X10 : ∀ w ∈ u_ws RX10 TX10 13, w ∈ wsX10_stand := by decide +kernel
  have k_19 := hts (.fieldLink RX10 19 "TradeWordsModel" "stands" "[I") (by decide +kernel)
  rw [D_X10_stand] at h
  refine lv_iload_n hx hb dX10_stand_0 rfl (lv_at hl 1 rfl) ?_
  obtain ⟨r_1, hg_2, h⟩ := bd1_el h
  refine kx_Si (As := [.int p1]) (rest := []) (wr := [(q_this, .inr (8, [.ref q_text, .int v_size, .int v_at, .ref q_read, .ref q_l, .ref q_stands, .ref q_kept, .int v_keptMany, .ref q_one, .ref q_two, .ref q_ways, .ref q_now, .ref q_then])), (q_l, .inl (ca 0, 336, .inl v_l)), (q_stands, .inl (ca 0, 16, .inl v_stands))]) (w1 := []) (wn := [(q_this, .inr (8, [.ref q_text, .int v_size, .int v_at, .ref q_read, .ref q_l, .ref q_stands, .ref q_kept, .int v_keptMany, .ref q_one, .ref q_two, .ref q_ways, .ref q_now, .ref q_then])), (q_l, .inl (ca 0, 336, .inl v_l)), (q_stands, .inl (ca 0, 16, .inl v_stands))]) ⟨hx, hb, hml, hown, hts⟩ (c_X10_isMeaning l D ca s.heap.size p1 r_1 hg_2) (va_cwS 1 hts gX10_stand_X10_isMeaning rfl rfl rfl (by decide +kernel) ⟨(Nat.le_of_ble_eq_true rfl), (Nat.le_of_ble_eq_true rfl)⟩) hK hP hD hS hA [] [0, 1, 2] [0, 1, 2] rfl rfl rfl rfl (by decide) rfl rfl rfl hl.1 rfl (Nat.le_of_ble_eq_true rfl) dX10_stand_1 ⟨Nat.zero_le _, Nat.zero_le _⟩ (fun H locs hP hD hS => ?_)
  refine lv_if_eq (tgt := 17) hx hb dX10_stand_4 (by decide) (fun c_3 => ?_) (fun c_3 => ?_)
  · replace h := ifp_el c_3 h
    refine lv_iconst (v := (-1 : Int32)) hx hb dX10_stand_17 (by decide) ?_
    refine lv_goto (tgt := 44) hx hb dX10_stand_18 (by decide) ?_
    cases h
    rw [← hQe]
    exact W.iret hx hb hr (fun t ht hW => ⟨⟨_, (), rfl, rfl, by rw [ht]; exact hP, va_K.moved hW.alike hK, hD⟩, hS.F ht⟩) hS.2.2 dX10_stand_44
  · replace h := ifn_el c_3 h
    refine lv_iload_n hx hb dX10_stand_7 rfl (lv_at hl 2 rfl) ?_
    refine lv_i2l hx hb dX10_stand_8 rfl ?_
    refine lv_lconst (v := (lN 0)) hx hb dX10_stand_9 (by decide) ?_
    refine lv_lconst (v := (lN 1)) hx hb dX10_stand_10 (by decide) ?_
    obtain ⟨r_4, hg_5, h⟩ := bd1_el h
    refine kx_Si (As := [.long p2.toInt64, .long (lN 0), .long (lN 1)]) (rest := []) (wr := [(q_this, .inr (8, [.ref q_text, .int v_size, .int v_at, .ref q_read, .ref q_l, .ref q_stands, .ref q_kept, .int v_keptMany, .ref q_one, .ref q_two, .ref q_ways, .ref q_now, .ref q_then])), (q_l, .inl (ca 0, 336, .inl v_l)), (q_stands, .inl (ca 0, 16, .inl v_stands))]) (w1 := []) (wn := [(q_this, .inr (8, [.ref q_text, .int v_size, .int v_at, .ref q_read, .ref q_l, .ref q_stands, .ref q_kept, .int v_keptMany, .ref q_one, .ref q_two, .ref q_ways, .ref q_now, .ref q_then])), (q_l, .inl (ca 0, 336, .inl v_l)), (q_stands, .inl (ca 0, 16, .inl v_stands))]) ⟨hx, hb, hml, hown, hts⟩ (c_X10_in l D ca H.size p2.toInt64 (lN 0) (lN 1) r_4 hg_5) (va_cwS 3 hts gX10_stand_X10_in rfl rfl rfl (by decide +kernel) ⟨(Nat.le_of_ble_eq_true rfl), (Nat.le_of_ble_eq_true rfl)⟩) hK hP hD hS hA [] [0, 1, 2] [0, 1, 2] rfl rfl rfl rfl (by decide) rfl rfl rfl hl.1 rfl (Nat.le_of_ble_eq_true rfl) dX10_stand_11 ⟨Nat.zero_le _, Nat.zero_le _⟩ (fun H locs hP hD hS => ?_)
    refine lv_if_ne (tgt := 21) hx hb dX10_stand_14 (by decide) (fun c_6 => ?_) (fun c_6 => ?_)
    · replace h := ifn_el c_6 h
      refine lv_aload_n hx hb dX10_stand_21 rfl (lv_at hl 0 rfl) ?_
      refine lv_iload_n hx hb dX10_stand_22 rfl (lv_at hl 1 rfl) ?_
      obtain ⟨r_7, hg_8, h⟩ := bd1_el h
      refine kx_Vi (As := [.int p1]) (rest := []) (wr := [(q_stands, .inl (ca 0, 16, .inl v_stands))]) (w1 := [(q_this, .inr (8, [.ref q_text, .int v_size, .int v_at, .ref q_read, .ref q_l, .ref q_stands, .ref q_kept, .int v_keptMany, .ref q_one, .ref q_two, .ref q_ways, .ref q_now, .ref q_then])), (q_l, .inl (ca 0, 336, .inl v_l))]) (wn := [(q_this, .inr (8, [.ref q_text, .int v_size, .int v_at, .ref q_read, .ref q_l, .ref q_stands, .ref q_kept, .int v_keptMany, .ref q_one, .ref q_two, .ref q_ways, .ref q_now, .ref q_then])), (q_l, .inl (ca 0, 336, .inl v_l)), (q_stands, .inl (ca 0, 16, .inl v_stands))]) ⟨hx, hb, hml, hown, hts⟩ (c_X10_isTold l D ca H.size q_this q_text q_read q_l q_stands q_kept q_one q_two q_ways q_now q_then p1 v_size v_at v_keptMany v_l r_7 hg_8) (cwV 1 hts gX10_stand_X10_isTold rfl rfl rfl (by decide +kernel) ⟨(Nat.le_of_ble_eq_true rfl), (Nat.le_of_ble_eq_true rfl)⟩) hK hP hD hS hA (ci := 8) (q0 := 0) rfl rfl [0, 1] [2] [1, 2, 0] rfl rfl rfl rfl (by decide) rfl rfl rfl hl.1 rfl (Nat.le_of_ble_eq_true rfl) dX10_stand_23 ⟨Nat.zero_le _, Nat.zero_le _⟩ (fun H locs hP hD hS => ?_)
      refine lv_if_eq (tgt := 42) hx hb dX10_stand_26 (by decide) (fun c_9 => ?_) (fun c_9 => ?_)
      · replace h := ifp_el c_9 h
        refine lv_bipush (v := (-2 : Int32)) hx hb dX10_stand_42 (by decide) ?_
        cases h
        rw [← hQe]
        exact W.iret hx hb hr (fun t ht hW => ⟨⟨_, (), rfl, rfl, by rw [ht]; exact hP, va_K.moved hW.alike hK, hD⟩, hS.F ht⟩) hS.2.2 dX10_stand_44
      · replace h := ifn_el c_9 h
        refine lv_aload_n hx hb dX10_stand_29 rfl (lv_at hl 0 rfl) ?_
        refine va_get (D := D) (ci := 8) (v := .ref q_stands) (C := RX10) (T := TX10) (N := 13) hx hb hts i_X10 hown hK hP 0 rfl rfl 5 (by decide) k_19 (fun _ h9 => h9) rfl dX10_stand_30 ?_
        refine lv_iconst (v := (nI 2)) hx hb dX10_stand_33 (by decide) ?_
        refine lv_iload_n hx hb dX10_stand_34 rfl (lv_at hl 1 rfl) ?_
        refine lv_imul hx hb dX10_stand_35 ?_
        refine lv_iload_n hx hb dX10_stand_36 rfl (lv_at hl 2 rfl) ?_
        refine lv_iadd hx hb dX10_stand_37 ?_
        obtain ⟨hi_10, h⟩ := ck_el h
        refine va_iald hx hb hK hP 2 0 rfl rfl hi_10 dX10_stand_38 ?_
        refine lv_goto (tgt := 44) hx hb dX10_stand_39 (by decide) ?_
        cases h
        rw [← hQe]
        exact W.iret hx hb hr (fun t ht hW => ⟨⟨_, (), rfl, rfl, by rw [ht]; exact hP, va_K.moved hW.alike hK, hD⟩, hS.F ht⟩) hS.2.2 dX10_stand_44
    · replace h := ifp_el c_6 h
      refine lv_iconst (v := (-1 : Int32)) hx hb dX10_stand_17 (by decide) ?_
      refine lv_goto (tgt := 44) hx hb dX10_stand_18 (by decide) ?_
      cases h
      rw [← hQe]
      exact W.iret hx hb hr (fun t ht hW => ⟨⟨_, (), rfl, rfl, by rw [ht]; exact hP, va_K.moved hW.alike hK, hD⟩, hS.F ht⟩) hS.2.2 dX10_stand_44
def D_X10_isStand (p1 : Int32) (p2 : Int32) (v_l : Nat → Int32) : Option (Int32) := ck 336 (nI 298) (bd1 (D_X10_in p1.toInt64 (lN 0) ((v_l (nI 298).toNatClampNeg).toInt64)) (fun r_2 => (if r_2 = 0 then some ((nI 0)) else ck 336 (nI 299) (bd1 (D_X10_in p2.toInt64 (lN 0) ((v_l (nI 299).toNatClampNeg).toInt64)) (fun r_6 => (if r_6 = 0 then some ((nI 0)) else some ((nI 1))))))))
abbrev rm_X10_isStand : Room := { frames := 1, cells := 0, slots := 0, locals := 25 }
set_option maxHeartbeats 4000000 in
set_option maxRecDepth 100000 in
theorem c_X10_isStand (l : Launch) (D : va_G) (ca : Nat → ClassId) (sz : Nat) (q_this q_text q_read q_l q_stands q_kept q_one q_two q_ways q_now q_then : Nat) (p1 : Int32) (p2 : Int32) (v_size : Int32) (v_at : Int32) (v_keptMany : Int32) (v_l : Nat → Int32) (r : Int32) (h : D_X10_isStand p1 p2 v_l = some (r)) : Met l yX10_isStand wsX10_isStand rm_X10_isStand (va_Pc [.ref q_this, .int p1, .int p2] (kPre D ca [(q_this, .inr (8, [.ref q_text, .int v_size, .int v_at, .ref q_read, .ref q_l, .ref q_stands, .ref q_kept, .int v_keptMany, .ref q_one, .ref q_two, .ref q_ways, .ref q_now, .ref q_then])), (q_l, .inl (ca 0, 336, .inl v_l))] sz)) (kQi D ca (va_A [(q_this, .inr (8, [.ref q_text, .int v_size, .int v_at, .ref q_read, .ref q_l, .ref q_stands, .ref q_kept, .int v_keptMany, .ref q_one, .ref q_two, .ref q_ways, .ref q_now, .ref q_then])), (q_l, .inl (ca 0, 336, .inl v_l))] sz) [(q_this, .inr (8, [.ref q_text, .int v_size, .int v_at, .ref q_read, .ref q_l, .ref q_stands, .ref q_kept, .int v_keptMany, .ref q_one, .ref q_two, .ref q_ways, .ref q_now, .ref q_then])), (q_l, .inl (ca 0, 336, .inl v_l))] r) 0 0 (va_A [(q_this, .inr (8, [.ref q_text, .int v_size, .int v_at, .ref q_read, .ref q_l, .ref q_stands, .ref q_kept, .int v_keptMany, .ref q_one, .ref q_two, .ref q_ways, .ref q_now, .ref q_then])), (q_l, .inl (ca 0, 336, .inl v_l))] sz) := by
  refine Met.ofW (cc := cX10_isStand) (maxL := 3) (ret := (some .boolean)) (by decide +kernel) rfl ?_
  intro p e s m args below meth c s₁ B hml hv
  obtain ⟨rfl, hsz, hP, hK, hD0⟩ := hv
  have hx := B.exec
  have hb := B.bytes
  have hr := B.returns
  have hts := atoms_spec (ws := wsX10_isStand) B.pre
  have hown : s.vm.findClass RX10 = some m.cls := findClass_of_methodNamed B.named
  have hlocks := B.notSynchronized
  clear B
  subst hsz
  have hD := hD0.self (sz := s.heap.size)
  generalize hAe : va_A [(q_this, .inr (8, [.ref q_text, .int v_size, .int v_at, .ref q_read, .ref q_l, .ref q_stands, .ref q_kept, .int v_keptMany, .ref q_one, .ref q_two, .ref q_ways, .ref q_now, .ref q_then])), (q_l, .inl (ca 0, 336, .inl v_l))] s.heap.size = A at hD ⊢
  have hA : ∀ q : Nat, s.heap.size ≤ q → A q := fun q h => by rw [← hAe]; exact Or.inr h
  have hS : va_S A s.heap s.heap [] := va_S.rf
  have hl := lv_entry ([.ref q_this, .int p1, .int p2]) (n := 3) (Nat.le_of_ble_eq_true rfl)
  rw [lg_entry_eq]
  generalize (lg_sl ([.ref q_this, .int p1, .int p2]) ++ List.replicate (3 - (lg_sl ([.ref q_this, .int p1, .int p2])).length) Slot.unset).toArray = ls at hl ⊢
  have hl : lv_has ls 3 [(0, .ref q_this), (1, .int p1), (2, .int p2)] := hl
  generalize ([.ref q_this, .int p1, .int p2] : List Value).toArray = args at hts ⊢
  generalize hQe : MQ below (kQi D ca (A) [(q_this, .inr (8, [.ref q_text, .int v_size, .int v_at, .ref q_read, .ref q_l, .ref q_stands, .ref q_kept, .int v_keptMany, .ref q_one, .ref q_two, .ref q_ways, .ref q_now, .ref q_then])), (q_l, .inl (ca 0, 336, .inl v_l))] r) args s 0 0 A = Q
  have i_X10 : ∀ w ∈ u_ws RX10 TX10 13, w ∈ wsX10_isStand := by decide +kernel
  have k_16 := hts (.fieldLink RX10 16 "TradeWordsModel" "l" "[I") (by decide +kernel)
  rw [D_X10_isStand] at h
  refine lv_iload_n hx hb dX10_isStand_0 rfl (lv_at hl 1 rfl) ?_
  refine lv_i2l hx hb dX10_isStand_1 rfl ?_
  refine lv_lconst (v := (lN 0)) hx hb dX10_isStand_2 (by decide) ?_
  refine lv_aload_n hx hb dX10_isStand_3 rfl (lv_at hl 0 rfl) ?_
  refine va_get (D := D) (ci := 8) (v := .ref q_l) (C := RX10) (T := TX10) (N := 13) hx hb hts i_X10 hown hK hP 0 rfl rfl 4 (by decide) k_16 (fun _ h9 => h9) rfl dX10_isStand_4 ?_
  refine lv_sipush (v := (nI 298)) hx hb dX10_isStand_7 (by decide) ?_
  obtain ⟨hi_1, h⟩ := ck_el h
  refine va_iald hx hb hK hP 1 0 rfl rfl hi_1 dX10_isStand_10 ?_
  refine lv_i2l hx hb dX10_isStand_11 rfl ?_
  obtain ⟨r_2, hg_3, h⟩ := bd1_el h
  refine kx_Si (As := [.long p1.toInt64, .long (lN 0), .long ((v_l (nI 298).toNatClampNeg).toInt64)]) (rest := []) (wr := [(q_this, .inr (8, [.ref q_text, .int v_size, .int v_at, .ref q_read, .ref q_l, .ref q_stands, .ref q_kept, .int v_keptMany, .ref q_one, .ref q_two, .ref q_ways, .ref q_now, .ref q_then])), (q_l, .inl (ca 0, 336, .inl v_l))]) (w1 := []) (wn := [(q_this, .inr (8, [.ref q_text, .int v_size, .int v_at, .ref q_read, .ref q_l, .ref q_stands, .ref q_kept, .int v_keptMany, .ref q_one, .ref q_two, .ref q_ways, .ref q_now, .ref q_then])), (q_l, .inl (ca 0, 336, .inl v_l))]) ⟨hx, hb, hml, hown, hts⟩ (c_X10_in l D ca s.heap.size p1.toInt64 (lN 0) ((v_l (nI 298).toNatClampNeg).toInt64) r_2 hg_3) (va_cwS 3 hts gX10_isStand_X10_in rfl rfl rfl (by decide +kernel) ⟨(Nat.le_of_ble_eq_true rfl), (Nat.le_of_ble_eq_true rfl)⟩) hK hP hD hS hA [] [0, 1] [0, 1] rfl rfl rfl rfl (by decide) rfl rfl rfl hl.1 rfl (Nat.le_of_ble_eq_true rfl) dX10_isStand_12 ⟨Nat.zero_le _, Nat.zero_le _⟩ (fun H locs hP hD hS => ?_)
  refine lv_if_eq (tgt := 40) hx hb dX10_isStand_15 (by decide) (fun c_4 => ?_) (fun c_4 => ?_)
  · replace h := ifp_el c_4 h
    refine lv_iconst (v := (nI 0)) hx hb dX10_isStand_40 (by decide) ?_
    cases h
    rw [← hQe]
    exact W.zret hx hb hr rfl (fun t ht hW => ⟨⟨_, (), rfl, rfl, by rw [ht]; exact hP, va_K.moved hW.alike hK, hD⟩, hS.F ht⟩) hS.2.2 dX10_isStand_41
  · replace h := ifn_el c_4 h
    refine lv_iload_n hx hb dX10_isStand_18 rfl (lv_at hl 2 rfl) ?_
    refine lv_i2l hx hb dX10_isStand_19 rfl ?_
    refine lv_lconst (v := (lN 0)) hx hb dX10_isStand_20 (by decide) ?_
    refine lv_aload_n hx hb dX10_isStand_21 rfl (lv_at hl 0 rfl) ?_
    refine va_get (D := D) (ci := 8) (v := .ref q_l) (C := RX10) (T := TX10) (N := 13) hx hb hts i_X10 hown hK hP 0 rfl rfl 4 (by decide) k_16 (fun _ h9 => h9) rfl dX10_isStand_22 ?_
    refine lv_sipush (v := (nI 299)) hx hb dX10_isStand_25 (by decide) ?_
    obtain ⟨hi_5, h⟩ := ck_el h
    refine va_iald hx hb hK hP 1 0 rfl rfl hi_5 dX10_isStand_28 ?_
    refine lv_i2l hx hb dX10_isStand_29 rfl ?_
    obtain ⟨r_6, hg_7, h⟩ := bd1_el h
    refine kx_Si (As := [.long p2.toInt64, .long (lN 0), .long ((v_l (nI 299).toNatClampNeg).toInt64)]) (rest := []) (wr := [(q_this, .inr (8, [.ref q_text, .int v_size, .int v_at, .ref q_read, .ref q_l, .ref q_stands, .ref q_kept, .int v_keptMany, .ref q_one, .ref q_two, .ref q_ways, .ref q_now, .ref q_then])), (q_l, .inl (ca 0, 336, .inl v_l))]) (w1 := []) (wn := [(q_this, .inr (8, [.ref q_text, .int v_size, .int v_at, .ref q_read, .ref q_l, .ref q_stands, .ref q_kept, .int v_keptMany, .ref q_one, .ref q_two, .ref q_ways, .ref q_now, .ref q_then])), (q_l, .inl (ca 0, 336, .inl v_l))]) ⟨hx, hb, hml, hown, hts⟩ (c_X10_in l D ca H.size p2.toInt64 (lN 0) ((v_l (nI 299).toNatClampNeg).toInt64) r_6 hg_7) (va_cwS 3 hts gX10_isStand_X10_in rfl rfl rfl (by decide +kernel) ⟨(Nat.le_of_ble_eq_true rfl), (Nat.le_of_ble_eq_true rfl)⟩) hK hP hD hS hA [] [0, 1] [0, 1] rfl rfl rfl rfl (by decide) rfl rfl rfl hl.1 rfl (Nat.le_of_ble_eq_true rfl) dX10_isStand_30 ⟨Nat.zero_le _, Nat.zero_le _⟩ (fun H locs hP hD hS => ?_)
    refine lv_if_eq (tgt := 40) hx hb dX10_isStand_33 (by decide) (fun c_8 => ?_) (fun c_8 => ?_)
    · replace h := ifp_el c_8 h
      refine lv_iconst (v := (nI 0)) hx hb dX10_isStand_40 (by decide) ?_
      cases h
      rw [← hQe]
      exact W.zret hx hb hr rfl (fun t ht hW => ⟨⟨_, (), rfl, rfl, by rw [ht]; exact hP, va_K.moved hW.alike hK, hD⟩, hS.F ht⟩) hS.2.2 dX10_isStand_41
    · replace h := ifn_el c_8 h
      refine lv_iconst (v := (nI 1)) hx hb dX10_isStand_36 (by decide) ?_
      refine lv_goto (tgt := 41) hx hb dX10_isStand_37 (by decide) ?_
      cases h
      rw [← hQe]
      exact W.zret hx hb hr rfl (fun t ht hW => ⟨⟨_, (), rfl, rfl, by rw [ht]; exact hP, va_K.moved hW.alike hK, hD⟩, hS.F ht⟩) hS.2.2 dX10_isStand_41
def D_X10_set (p1 : Int32) (p2 : Int32) (p3 : Int32) (v_l : Nat → Int32) (v_stands : Nat → Int32) : Option (Int32 × (Nat → Int32)) := bd1 (D_X10_isMeaning p1) (fun r_1 => (if r_1 = 0 then some ((-1 : Int32), v_stands) else bd1 (D_X10_isStand p2 p3 v_l) (fun r_4 => (if r_4 = 0 then some ((-1 : Int32), v_stands) else bd1 (D_X10_isTold p1 v_l) (fun r_7 => (if r_7 = 0 then some ((-2 : Int32), v_stands) else ck 16 ((nI 2) * p1) (ck 16 (((nI 2) * p1) + (nI 1)) (some ((nI 1), (upd (upd v_stands ((nI 2) * p1).toNatClampNeg p2) (((nI 2) * p1) + (nI 1)).toNatClampNeg p3))))))))))
abbrev rm_X10_set : Room := { frames := 2, cells := 0, slots := 0, locals := 47 }
set_option maxHeartbeats 4000000 in
set_option maxRecDepth 100000 in
theorem c_X10_set (l : Launch) (D : va_G) (ca : Nat → ClassId) (sz : Nat) (q_this q_text q_read q_l q_stands q_kept q_one q_two q_ways q_now q_then : Nat) (p1 : Int32) (p2 : Int32) (p3 : Int32) (v_size : Int32) (v_at : Int32) (v_keptMany : Int32) (v_l : Nat → Int32) (v_stands : Nat → Int32) (r : Int32) (o_stands : Nat → Int32) (h : D_X10_set p1 p2 p3 v_l v_stands = some (r, o_stands)) : Met l yX10_set wsX10_set rm_X10_set (va_Pc [.ref q_this, .int p1, .int p2, .int p3] (kPre D ca [(q_this, .inr (8, [.ref q_text, .int v_size, .int v_at, .ref q_read, .ref q_l, .ref q_stands, .ref q_kept, .int v_keptMany, .ref q_one, .ref q_two, .ref q_ways, .ref q_now, .ref q_then])), (q_l, .inl (ca 0, 336, .inl v_l)), (q_stands, .inl (ca 0, 16, .inl v_stands))] sz)) (kQi D ca (va_A [(q_this, .inr (8, [.ref q_text, .int v_size, .int v_at, .ref q_read, .ref q_l, .ref q_stands, .ref q_kept, .int v_keptMany, .ref q_one, .ref q_two, .ref q_ways, .ref q_now, .ref q_then])), (q_l, .inl (ca 0, 336, .inl v_l)), (q_stands, .inl (ca 0, 16, .inl v_stands))] sz) [(q_this, .inr (8, [.ref q_text, .int v_size, .int v_at, .ref q_read, .ref q_l, .ref q_stands, .ref q_kept, .int v_keptMany, .ref q_one, .ref q_two, .ref q_ways, .ref q_now, .ref q_then])), (q_l, .inl (ca 0, 336, .inl v_l)), (q_stands, .inl (ca 0, 16, .inl o_stands))] r) 0 0 (va_A [(q_this, .inr (8, [.ref q_text, .int v_size, .int v_at, .ref q_read, .ref q_l, .ref q_stands, .ref q_kept, .int v_keptMany, .ref q_one, .ref q_two, .ref q_ways, .ref q_now, .ref q_then])), (q_l, .inl (ca 0, 336, .inl v_l)), (q_stands, .inl (ca 0, 16, .inl v_stands))] sz) := by
  refine Met.ofW (cc := cX10_set) (maxL := 4) (ret := (some .int)) (by decide +kernel) rfl ?_
  intro p e s m args below meth c s₁ B hml hv
  obtain ⟨rfl, hsz, hP, hK, hD0⟩ := hv
  have hx := B.exec
  have hb := B.bytes
  have hr := B.returns
  have hts := atoms_spec (ws := wsX10_set) B.pre
  have hown : s.vm.findClass RX10 = some m.cls := findClass_of_methodNamed B.named
  have hlocks := B.notSynchronized
  clear B
  subst hsz
  have hD := hD0.self (sz := s.heap.size)
  generalize hAe : va_A [(q_this, .inr (8, [.ref q_text, .int v_size, .int v_at, .ref q_read, .ref q_l, .ref q_stands, .ref q_kept, .int v_keptMany, .ref q_one, .ref q_two, .ref q_ways, .ref q_now, .ref q_then])), (q_l, .inl (ca 0, 336, .inl v_l)), (q_stands, .inl (ca 0, 16, .inl v_stands))] s.heap.size = A at hD ⊢
  have hA : ∀ q : Nat, s.heap.size ≤ q → A q := fun q h => by rw [← hAe]; exact Or.inr h
  have hS : va_S A s.heap s.heap [] := va_S.rf
  have hl := lv_entry ([.ref q_this, .int p1, .int p2, .int p3]) (n := 4) (Nat.le_of_ble_eq_true rfl)
  rw [lg_entry_eq]
  generalize (lg_sl ([.ref q_this, .int p1, .int p2, .int p3]) ++ List.replicate (4 - (lg_sl ([.ref q_this, .int p1, .int p2, .int p3])).length) Slot.unset).toArray = ls at hl ⊢
  have hl : lv_has ls 4 [(0, .ref q_this), (1, .int p1), (2, .int p2), (3, .int p3)] := hl
  generalize ([.ref q_this, .int p1, .int p2, .int p3] : List Value).toArray = args at hts ⊢
  generalize hQe : MQ below (kQi D ca (A) [(q_this, .inr (8, [.ref q_text, .int v_size, .int v_at, .ref q_read, .ref q_l, .ref q_stands, .ref q_kept, .int v_keptMany, .ref q_one, .ref q_two, .ref q_ways, .ref q_now, .ref q_then])), (q_l, .inl (ca 0, 336, .inl v_l)), (q_stands, .inl (ca 0, 16, .inl o_stands))] r) args s 0 0 A = Q
  have i_X10 : ∀ w ∈ u_ws RX10 TX10 13, w ∈ wsX10_set := by decide +kernel
  have k_19 := hts (.fieldLink RX10 19 "TradeWordsModel" "stands" "[I") (by decide +kernel)
  rw [D_X10_set] at h
  refine lv_iload_n hx hb dX10_set_0 rfl (lv_at hl 1 rfl) ?_
  obtain ⟨r_1, hg_2, h⟩ := bd1_el h
  refine kx_Si (As := [.int p1]) (rest := []) (wr := [(q_this, .inr (8, [.ref q_text, .int v_size, .int v_at, .ref q_read, .ref q_l, .ref q_stands, .ref q_kept, .int v_keptMany, .ref q_one, .ref q_two, .ref q_ways, .ref q_now, .ref q_then])), (q_l, .inl (ca 0, 336, .inl v_l)), (q_stands, .inl (ca 0, 16, .inl v_stands))]) (w1 := []) (wn := [(q_this, .inr (8, [.ref q_text, .int v_size, .int v_at, .ref q_read, .ref q_l, .ref q_stands, .ref q_kept, .int v_keptMany, .ref q_one, .ref q_two, .ref q_ways, .ref q_now, .ref q_then])), (q_l, .inl (ca 0, 336, .inl v_l)), (q_stands, .inl (ca 0, 16, .inl v_stands))]) ⟨hx, hb, hml, hown, hts⟩ (c_X10_isMeaning l D ca s.heap.size p1 r_1 hg_2) (va_cwS 1 hts gX10_set_X10_isMeaning rfl rfl rfl (by decide +kernel) ⟨(Nat.le_of_ble_eq_true rfl), (Nat.le_of_ble_eq_true rfl)⟩) hK hP hD hS hA [] [0, 1, 2] [0, 1, 2] rfl rfl rfl rfl (by decide) rfl rfl rfl hl.1 rfl (Nat.le_of_ble_eq_true rfl) dX10_set_1 ⟨Nat.zero_le _, Nat.zero_le _⟩ (fun H locs hP hD hS => ?_)
  refine lv_if_eq (tgt := 16) hx hb dX10_set_4 (by decide) (fun c_3 => ?_) (fun c_3 => ?_)
  · replace h := ifp_el c_3 h
    refine lv_iconst (v := (-1 : Int32)) hx hb dX10_set_16 (by decide) ?_
    cases h
    rw [← hQe]
    exact W.iret hx hb hr (fun t ht hW => ⟨⟨_, (), rfl, rfl, by rw [ht]; exact hP, va_K.moved hW.alike hK, hD⟩, hS.F ht⟩) hS.2.2 dX10_set_17
  · replace h := ifn_el c_3 h
    refine lv_aload_n hx hb dX10_set_7 rfl (lv_at hl 0 rfl) ?_
    refine lv_iload_n hx hb dX10_set_8 rfl (lv_at hl 2 rfl) ?_
    refine lv_iload_n hx hb dX10_set_9 rfl (lv_at hl 3 rfl) ?_
    obtain ⟨r_4, hg_5, h⟩ := bd1_el h
    refine kx_Vi (As := [.int p2, .int p3]) (rest := []) (wr := [(q_stands, .inl (ca 0, 16, .inl v_stands))]) (w1 := [(q_this, .inr (8, [.ref q_text, .int v_size, .int v_at, .ref q_read, .ref q_l, .ref q_stands, .ref q_kept, .int v_keptMany, .ref q_one, .ref q_two, .ref q_ways, .ref q_now, .ref q_then])), (q_l, .inl (ca 0, 336, .inl v_l))]) (wn := [(q_this, .inr (8, [.ref q_text, .int v_size, .int v_at, .ref q_read, .ref q_l, .ref q_stands, .ref q_kept, .int v_keptMany, .ref q_one, .ref q_two, .ref q_ways, .ref q_now, .ref q_then])), (q_l, .inl (ca 0, 336, .inl v_l)), (q_stands, .inl (ca 0, 16, .inl v_stands))]) ⟨hx, hb, hml, hown, hts⟩ (c_X10_isStand l D ca H.size q_this q_text q_read q_l q_stands q_kept q_one q_two q_ways q_now q_then p2 p3 v_size v_at v_keptMany v_l r_4 hg_5) (cwV 2 hts gX10_set_X10_isStand rfl rfl rfl (by decide +kernel) ⟨(Nat.le_of_ble_eq_true rfl), (Nat.le_of_ble_eq_true rfl)⟩) hK hP hD hS hA (ci := 8) (q0 := 0) rfl rfl [0, 1] [2] [1, 2, 0] rfl rfl rfl rfl (by decide) rfl rfl rfl hl.1 rfl (Nat.le_of_ble_eq_true rfl) dX10_set_10 ⟨Nat.zero_le _, Nat.zero_le _⟩ (fun H locs hP hD hS => ?_)
    refine lv_if_ne (tgt := 18) hx hb dX10_set_13 (by decide) (fun c_6 => ?_) (fun c_6 => ?_)
    · replace h := ifn_el c_6 h
      refine lv_aload_n hx hb dX10_set_18 rfl (lv_at hl 0 rfl) ?_
      refine lv_iload_n hx hb dX10_set_19 rfl (lv_at hl 1 rfl) ?_
      obtain ⟨r_7, hg_8, h⟩ := bd1_el h
      refine kx_Vi (As := [.int p1]) (rest := []) (wr := [(q_stands, .inl (ca 0, 16, .inl v_stands))]) (w1 := [(q_this, .inr (8, [.ref q_text, .int v_size, .int v_at, .ref q_read, .ref q_l, .ref q_stands, .ref q_kept, .int v_keptMany, .ref q_one, .ref q_two, .ref q_ways, .ref q_now, .ref q_then])), (q_l, .inl (ca 0, 336, .inl v_l))]) (wn := [(q_this, .inr (8, [.ref q_text, .int v_size, .int v_at, .ref q_read, .ref q_l, .ref q_stands, .ref q_kept, .int v_keptMany, .ref q_one, .ref q_two, .ref q_ways, .ref q_now, .ref q_then])), (q_l, .inl (ca 0, 336, .inl v_l)), (q_stands, .inl (ca 0, 16, .inl v_stands))]) ⟨hx, hb, hml, hown, hts⟩ (c_X10_isTold l D ca H.size q_this q_text q_read q_l q_stands q_kept q_one q_two q_ways q_now q_then p1 v_size v_at v_keptMany v_l r_7 hg_8) (cwV 1 hts gX10_set_X10_isTold rfl rfl rfl (by decide +kernel) ⟨(Nat.le_of_ble_eq_true rfl), (Nat.le_of_ble_eq_true rfl)⟩) hK hP hD hS hA (ci := 8) (q0 := 0) rfl rfl [0, 1] [2] [1, 2, 0] rfl rfl rfl rfl (by decide) rfl rfl rfl hl.1 rfl (Nat.le_of_ble_eq_true rfl) dX10_set_20 ⟨Nat.zero_le _, Nat.zero_le _⟩ (fun H locs hP hD hS => ?_)
      refine lv_if_ne (tgt := 29) hx hb dX10_set_23 (by decide) (fun c_9 => ?_) (fun c_9 => ?_)
      · replace h := ifn_el c_9 h
        refine lv_aload_n hx hb dX10_set_29 rfl (lv_at hl 0 rfl) ?_
        refine va_get (D := D) (ci := 8) (v := .ref q_stands) (C := RX10) (T := TX10) (N := 13) hx hb hts i_X10 hown hK hP 0 rfl rfl 5 (by decide) k_19 (fun _ h9 => h9) rfl dX10_set_30 ?_
        refine lv_iconst (v := (nI 2)) hx hb dX10_set_33 (by decide) ?_
        refine lv_iload_n hx hb dX10_set_34 rfl (lv_at hl 1 rfl) ?_
        refine lv_imul hx hb dX10_set_35 ?_
        refine lv_iload_n hx hb dX10_set_36 rfl (lv_at hl 2 rfl) ?_
        obtain ⟨hi_10, h⟩ := ck_el h
        refine va_iast hx hb hK hP hD hS 2 0 rfl rfl hi_10 dX10_set_37 (fun H locs hP hD hS => ?_)
        have hP : va_P D vwCl [(q_this, .inr (8, [.ref q_text, .int v_size, .int v_at, .ref q_read, .ref q_l, .ref q_stands, .ref q_kept, .int v_keptMany, .ref q_one, .ref q_two, .ref q_ways, .ref q_now, .ref q_then])), (q_l, .inl (ca 0, 336, .inl v_l)), (q_stands, .inl (ca 0, 16, .inl (upd v_stands ((nI 2) * p1).toNatClampNeg p2)))] H := hP
        have hD : va_D A [(q_this, .inr (8, [.ref q_text, .int v_size, .int v_at, .ref q_read, .ref q_l, .ref q_stands, .ref q_kept, .int v_keptMany, .ref q_one, .ref q_two, .ref q_ways, .ref q_now, .ref q_then])), (q_l, .inl (ca 0, 336, .inl v_l)), (q_stands, .inl (ca 0, 16, .inl (upd v_stands ((nI 2) * p1).toNatClampNeg p2)))] := hD
        refine lv_aload_n hx hb dX10_set_38 rfl (lv_at hl 0 rfl) ?_
        refine va_get (D := D) (ci := 8) (v := .ref q_stands) (C := RX10) (T := TX10) (N := 13) hx hb hts i_X10 hown hK hP 0 rfl rfl 5 (by decide) k_19 (fun _ h9 => h9) rfl dX10_set_39 ?_
        refine lv_iconst (v := (nI 2)) hx hb dX10_set_42 (by decide) ?_
        refine lv_iload_n hx hb dX10_set_43 rfl (lv_at hl 1 rfl) ?_
        refine lv_imul hx hb dX10_set_44 ?_
        refine lv_iconst (v := (nI 1)) hx hb dX10_set_45 (by decide) ?_
        refine lv_iadd hx hb dX10_set_46 ?_
        refine lv_iload_n hx hb dX10_set_47 rfl (lv_at hl 3 rfl) ?_
        obtain ⟨hi_11, h⟩ := ck_el h
        refine va_iast hx hb hK hP hD hS 2 0 rfl rfl hi_11 dX10_set_48 (fun H locs hP hD hS => ?_)
        have hP : va_P D vwCl [(q_this, .inr (8, [.ref q_text, .int v_size, .int v_at, .ref q_read, .ref q_l, .ref q_stands, .ref q_kept, .int v_keptMany, .ref q_one, .ref q_two, .ref q_ways, .ref q_now, .ref q_then])), (q_l, .inl (ca 0, 336, .inl v_l)), (q_stands, .inl (ca 0, 16, .inl (upd (upd v_stands ((nI 2) * p1).toNatClampNeg p2) (((nI 2) * p1) + (nI 1)).toNatClampNeg p3)))] H := hP
        have hD : va_D A [(q_this, .inr (8, [.ref q_text, .int v_size, .int v_at, .ref q_read, .ref q_l, .ref q_stands, .ref q_kept, .int v_keptMany, .ref q_one, .ref q_two, .ref q_ways, .ref q_now, .ref q_then])), (q_l, .inl (ca 0, 336, .inl v_l)), (q_stands, .inl (ca 0, 16, .inl (upd (upd v_stands ((nI 2) * p1).toNatClampNeg p2) (((nI 2) * p1) + (nI 1)).toNatClampNeg p3)))] := hD
        refine lv_iconst (v := (nI 1)) hx hb dX10_set_49 (by decide) ?_
        cases h
        rw [← hQe]
        exact W.iret hx hb hr (fun t ht hW => ⟨⟨_, (), rfl, rfl, by rw [ht]; exact hP, va_K.moved hW.alike hK, hD⟩, hS.F ht⟩) hS.2.2 dX10_set_50
      · replace h := ifp_el c_9 h
        refine lv_bipush (v := (-2 : Int32)) hx hb dX10_set_26 (by decide) ?_
        cases h
        rw [← hQe]
        exact W.iret hx hb hr (fun t ht hW => ⟨⟨_, (), rfl, rfl, by rw [ht]; exact hP, va_K.moved hW.alike hK, hD⟩, hS.F ht⟩) hS.2.2 dX10_set_28
    · replace h := ifp_el c_6 h
      refine lv_iconst (v := (-1 : Int32)) hx hb dX10_set_16 (by decide) ?_
      cases h
      rw [← hQe]
      exact W.iret hx hb hr (fun t ht hW => ⟨⟨_, (), rfl, rfl, by rw [ht]; exact hP, va_K.moved hW.alike hK, hD⟩, hS.F ht⟩) hS.2.2 dX10_set_17
def D_X10_million (F : Nat) (p1 : Int32) (p2 : Int32) (p3 : Int32) (p4 : Int32) (v_l : Nat → Int32) (v_stands : Nat → Int32) (v_one : Nat → Int32) (v_two : Nat → Int32) (v_ways : Nat → Int32) (v_now : Nat → Int64) (v_then : Nat → Int64) : Option (Int32 × (Nat → Int32) × (Nat → Int32) × (Nat → Int32) × (Nat → Int64) × (Nat → Int64)) := bd1 (D_X10_isMeaning p1) (fun r_1 => (if r_1 = 0 then some ((-1 : Int32), v_one, v_two, v_ways, v_now, v_then) else bd1 (D_X10_in p2.toInt64 (lN 0) (lN 200)) (fun r_4 => (if r_4 = 0 then some ((-1 : Int32), v_one, v_two, v_ways, v_now, v_then) else bd1 (D_X10_isStand p3 p4 v_l) (fun r_7 => (if r_7 = 0 then some ((-1 : Int32), v_one, v_two, v_ways, v_now, v_then) else bd1 (D_X10_isTold p1 v_l) (fun r_10 => (if r_10 = 0 then some ((-2 : Int32), v_one, v_two, v_ways, v_now, v_then) else bd5 (D_X10_goAsTold F p1 p2 v_l v_stands v_one v_two v_ways v_now v_then) (fun y_one_13 y_two_14 y_ways_15 y_now_16 y_then_17 => ck 81 (((nI 9) * p3) + p4) (some ((y_now_16 (((nI 9) * p3) + p4).toNatClampNeg).toInt32, y_one_13, y_two_14, y_ways_15, y_now_16, y_then_17)))))))))))
abbrev rm_X10_million : Room := { frames := 7, cells := 0, slots := 0, locals := 163 }
set_option maxHeartbeats 4000000 in
set_option maxRecDepth 100000 in
theorem c_X10_million (l : Launch) (D : va_G) (ca : Nat → ClassId) (F : Nat) (sz : Nat) (q_this q_text q_read q_l q_stands q_kept q_one q_two q_ways q_now q_then : Nat) (p1 : Int32) (p2 : Int32) (p3 : Int32) (p4 : Int32) (v_size : Int32) (v_at : Int32) (v_keptMany : Int32) (v_l : Nat → Int32) (v_stands : Nat → Int32) (v_one : Nat → Int32) (v_two : Nat → Int32) (v_ways : Nat → Int32) (v_now : Nat → Int64) (v_then : Nat → Int64) (r : Int32) (o_one : Nat → Int32) (o_two : Nat → Int32) (o_ways : Nat → Int32) (o_now : Nat → Int64) (o_then : Nat → Int64) (h : D_X10_million F p1 p2 p3 p4 v_l v_stands v_one v_two v_ways v_now v_then = some (r, o_one, o_two, o_ways, o_now, o_then)) : Met l yX10_million wsX10_million rm_X10_million (va_Pc [.ref q_this, .int p1, .int p2, .int p3, .int p4] (kPre D ca [(q_this, .inr (8, [.ref q_text, .int v_size, .int v_at, .ref q_read, .ref q_l, .ref q_stands, .ref q_kept, .int v_keptMany, .ref q_one, .ref q_two, .ref q_ways, .ref q_now, .ref q_then])), (q_l, .inl (ca 0, 336, .inl v_l)), (q_stands, .inl (ca 0, 16, .inl v_stands)), (q_one, .inl (ca 0, 7, .inl v_one)), (q_two, .inl (ca 0, 7, .inl v_two)), (q_ways, .inl (ca 0, 49, .inl v_ways)), (q_now, .inl (ca 1, 81, .inr (.inl v_now))), (q_then, .inl (ca 1, 81, .inr (.inl v_then)))] sz)) (kQi D ca (va_A [(q_this, .inr (8, [.ref q_text, .int v_size, .int v_at, .ref q_read, .ref q_l, .ref q_stands, .ref q_kept, .int v_keptMany, .ref q_one, .ref q_two, .ref q_ways, .ref q_now, .ref q_then])), (q_l, .inl (ca 0, 336, .inl v_l)), (q_stands, .inl (ca 0, 16, .inl v_stands)), (q_one, .inl (ca 0, 7, .inl v_one)), (q_two, .inl (ca 0, 7, .inl v_two)), (q_ways, .inl (ca 0, 49, .inl v_ways)), (q_now, .inl (ca 1, 81, .inr (.inl v_now))), (q_then, .inl (ca 1, 81, .inr (.inl v_then)))] sz) [(q_this, .inr (8, [.ref q_text, .int v_size, .int v_at, .ref q_read, .ref q_l, .ref q_stands, .ref q_kept, .int v_keptMany, .ref q_one, .ref q_two, .ref q_ways, .ref q_now, .ref q_then])), (q_l, .inl (ca 0, 336, .inl v_l)), (q_stands, .inl (ca 0, 16, .inl v_stands)), (q_one, .inl (ca 0, 7, .inl o_one)), (q_two, .inl (ca 0, 7, .inl o_two)), (q_ways, .inl (ca 0, 49, .inl o_ways)), (q_now, .inl (ca 1, 81, .inr (.inl o_now))), (q_then, .inl (ca 1, 81, .inr (.inl o_then)))] r) 0 0 (va_A [(q_this, .inr (8, [.ref q_text, .int v_size, .int v_at, .ref q_read, .ref q_l, .ref q_stands, .ref q_kept, .int v_keptMany, .ref q_one, .ref q_two, .ref q_ways, .ref q_now, .ref q_then])), (q_l, .inl (ca 0, 336, .inl v_l)), (q_stands, .inl (ca 0, 16, .inl v_stands)), (q_one, .inl (ca 0, 7, .inl v_one)), (q_two, .inl (ca 0, 7, .inl v_two)), (q_ways, .inl (ca 0, 49, .inl v_ways)), (q_now, .inl (ca 1, 81, .inr (.inl v_now))), (q_then, .inl (ca 1, 81, .inr (.inl v_then)))] sz) := by
  refine Met.ofW (cc := cX10_million) (maxL := 5) (ret := (some .int)) (by decide +kernel) rfl ?_
  intro p e s m args below meth c s₁ B hml hv
  obtain ⟨rfl, hsz, hP, hK, hD0⟩ := hv
  have hx := B.exec
  have hb := B.bytes
  have hr := B.returns
  have hts := atoms_spec (ws := wsX10_million) B.pre
  have hown : s.vm.findClass RX10 = some m.cls := findClass_of_methodNamed B.named
  have hlocks := B.notSynchronized
  clear B
  subst hsz
  have hD := hD0.self (sz := s.heap.size)
  generalize hAe : va_A [(q_this, .inr (8, [.ref q_text, .int v_size, .int v_at, .ref q_read, .ref q_l, .ref q_stands, .ref q_kept, .int v_keptMany, .ref q_one, .ref q_two, .ref q_ways, .ref q_now, .ref q_then])), (q_l, .inl (ca 0, 336, .inl v_l)), (q_stands, .inl (ca 0, 16, .inl v_stands)), (q_one, .inl (ca 0, 7, .inl v_one)), (q_two, .inl (ca 0, 7, .inl v_two)), (q_ways, .inl (ca 0, 49, .inl v_ways)), (q_now, .inl (ca 1, 81, .inr (.inl v_now))), (q_then, .inl (ca 1, 81, .inr (.inl v_then)))] s.heap.size = A at hD ⊢
  have hA : ∀ q : Nat, s.heap.size ≤ q → A q := fun q h => by rw [← hAe]; exact Or.inr h
  have hS : va_S A s.heap s.heap [] := va_S.rf
  have hl := lv_entry ([.ref q_this, .int p1, .int p2, .int p3, .int p4]) (n := 5) (Nat.le_of_ble_eq_true rfl)
  rw [lg_entry_eq]
  generalize (lg_sl ([.ref q_this, .int p1, .int p2, .int p3, .int p4]) ++ List.replicate (5 - (lg_sl ([.ref q_this, .int p1, .int p2, .int p3, .int p4])).length) Slot.unset).toArray = ls at hl ⊢
  have hl : lv_has ls 5 [(0, .ref q_this), (1, .int p1), (2, .int p2), (3, .int p3), (4, .int p4)] := hl
  generalize ([.ref q_this, .int p1, .int p2, .int p3, .int p4] : List Value).toArray = args at hts ⊢
  generalize hQe : MQ below (kQi D ca (A) [(q_this, .inr (8, [.ref q_text, .int v_size, .int v_at, .ref q_read, .ref q_l, .ref q_stands, .ref q_kept, .int v_keptMany, .ref q_one, .ref q_two, .ref q_ways, .ref q_now, .ref q_then])), (q_l, .inl (ca 0, 336, .inl v_l)), (q_stands, .inl (ca 0, 16, .inl v_stands)), (q_one, .inl (ca 0, 7, .inl o_one)), (q_two, .inl (ca 0, 7, .inl o_two)), (q_ways, .inl (ca 0, 49, .inl o_ways)), (q_now, .inl (ca 1, 81, .inr (.inl o_now))), (q_then, .inl (ca 1, 81, .inr (.inl o_then)))] r) args s 0 0 A = Q
  have k_188 := hts (.constantLong RX10 188 (lN 200)) (by decide +kernel)
  have i_X10 : ∀ w ∈ u_ws RX10 TX10 13, w ∈ wsX10_million := by decide +kernel
  have k_34 := hts (.fieldLink RX10 34 "TradeWordsModel" "now" "[J") (by decide +kernel)
  rw [D_X10_million] at h
  refine lv_iload_n hx hb dX10_million_0 rfl (lv_at hl 1 rfl) ?_
  obtain ⟨r_1, hg_2, h⟩ := bd1_el h
  refine kx_Si (As := [.int p1]) (rest := []) (wr := [(q_this, .inr (8, [.ref q_text, .int v_size, .int v_at, .ref q_read, .ref q_l, .ref q_stands, .ref q_kept, .int v_keptMany, .ref q_one, .ref q_two, .ref q_ways, .ref q_now, .ref q_then])), (q_l, .inl (ca 0, 336, .inl v_l)), (q_stands, .inl (ca 0, 16, .inl v_stands)), (q_one, .inl (ca 0, 7, .inl v_one)), (q_two, .inl (ca 0, 7, .inl v_two)), (q_ways, .inl (ca 0, 49, .inl v_ways)), (q_now, .inl (ca 1, 81, .inr (.inl v_now))), (q_then, .inl (ca 1, 81, .inr (.inl v_then)))]) (w1 := []) (wn := [(q_this, .inr (8, [.ref q_text, .int v_size, .int v_at, .ref q_read, .ref q_l, .ref q_stands, .ref q_kept, .int v_keptMany, .ref q_one, .ref q_two, .ref q_ways, .ref q_now, .ref q_then])), (q_l, .inl (ca 0, 336, .inl v_l)), (q_stands, .inl (ca 0, 16, .inl v_stands)), (q_one, .inl (ca 0, 7, .inl v_one)), (q_two, .inl (ca 0, 7, .inl v_two)), (q_ways, .inl (ca 0, 49, .inl v_ways)), (q_now, .inl (ca 1, 81, .inr (.inl v_now))), (q_then, .inl (ca 1, 81, .inr (.inl v_then)))]) ⟨hx, hb, hml, hown, hts⟩ (c_X10_isMeaning l D ca s.heap.size p1 r_1 hg_2) (va_cwS 1 hts gX10_million_X10_isMeaning rfl rfl rfl (by decide +kernel) ⟨(Nat.le_of_ble_eq_true rfl), (Nat.le_of_ble_eq_true rfl)⟩) hK hP hD hS hA [] [0, 1, 2, 3, 4, 5, 6, 7] [0, 1, 2, 3, 4, 5, 6, 7] rfl rfl rfl rfl (by decide) rfl rfl rfl hl.1 rfl (Nat.le_of_ble_eq_true rfl) dX10_million_1 ⟨Nat.zero_le _, Nat.zero_le _⟩ (fun H locs hP hD hS => ?_)
  refine lv_if_eq (tgt := 29) hx hb dX10_million_4 (by decide) (fun c_3 => ?_) (fun c_3 => ?_)
  · replace h := ifp_el c_3 h
    refine lv_iconst (v := (-1 : Int32)) hx hb dX10_million_29 (by decide) ?_
    cases h
    rw [← hQe]
    exact W.iret hx hb hr (fun t ht hW => ⟨⟨_, (), rfl, rfl, by rw [ht]; exact hP, va_K.moved hW.alike hK, hD⟩, hS.F ht⟩) hS.2.2 dX10_million_30
  · replace h := ifn_el c_3 h
    refine lv_iload_n hx hb dX10_million_7 rfl (lv_at hl 2 rfl) ?_
    refine lv_i2l hx hb dX10_million_8 rfl ?_
    refine lv_lconst (v := (lN 0)) hx hb dX10_million_9 (by decide) ?_
    refine lv_ldc2 hx hb hown k_188 dX10_million_10 ?_
    obtain ⟨r_4, hg_5, h⟩ := bd1_el h
    refine kx_Si (As := [.long p2.toInt64, .long (lN 0), .long (lN 200)]) (rest := []) (wr := [(q_this, .inr (8, [.ref q_text, .int v_size, .int v_at, .ref q_read, .ref q_l, .ref q_stands, .ref q_kept, .int v_keptMany, .ref q_one, .ref q_two, .ref q_ways, .ref q_now, .ref q_then])), (q_l, .inl (ca 0, 336, .inl v_l)), (q_stands, .inl (ca 0, 16, .inl v_stands)), (q_one, .inl (ca 0, 7, .inl v_one)), (q_two, .inl (ca 0, 7, .inl v_two)), (q_ways, .inl (ca 0, 49, .inl v_ways)), (q_now, .inl (ca 1, 81, .inr (.inl v_now))), (q_then, .inl (ca 1, 81, .inr (.inl v_then)))]) (w1 := []) (wn := [(q_this, .inr (8, [.ref q_text, .int v_size, .int v_at, .ref q_read, .ref q_l, .ref q_stands, .ref q_kept, .int v_keptMany, .ref q_one, .ref q_two, .ref q_ways, .ref q_now, .ref q_then])), (q_l, .inl (ca 0, 336, .inl v_l)), (q_stands, .inl (ca 0, 16, .inl v_stands)), (q_one, .inl (ca 0, 7, .inl v_one)), (q_two, .inl (ca 0, 7, .inl v_two)), (q_ways, .inl (ca 0, 49, .inl v_ways)), (q_now, .inl (ca 1, 81, .inr (.inl v_now))), (q_then, .inl (ca 1, 81, .inr (.inl v_then)))]) ⟨hx, hb, hml, hown, hts⟩ (c_X10_in l D ca H.size p2.toInt64 (lN 0) (lN 200) r_4 hg_5) (va_cwS 3 hts gX10_million_X10_in rfl rfl rfl (by decide +kernel) ⟨(Nat.le_of_ble_eq_true rfl), (Nat.le_of_ble_eq_true rfl)⟩) hK hP hD hS hA [] [0, 1, 2, 3, 4, 5, 6, 7] [0, 1, 2, 3, 4, 5, 6, 7] rfl rfl rfl rfl (by decide) rfl rfl rfl hl.1 rfl (Nat.le_of_ble_eq_true rfl) dX10_million_13 ⟨Nat.zero_le _, Nat.zero_le _⟩ (fun H locs hP hD hS => ?_)
    refine lv_if_eq (tgt := 29) hx hb dX10_million_16 (by decide) (fun c_6 => ?_) (fun c_6 => ?_)
    · replace h := ifp_el c_6 h
      refine lv_iconst (v := (-1 : Int32)) hx hb dX10_million_29 (by decide) ?_
      cases h
      rw [← hQe]
      exact W.iret hx hb hr (fun t ht hW => ⟨⟨_, (), rfl, rfl, by rw [ht]; exact hP, va_K.moved hW.alike hK, hD⟩, hS.F ht⟩) hS.2.2 dX10_million_30
    · replace h := ifn_el c_6 h
      refine lv_aload_n hx hb dX10_million_19 rfl (lv_at hl 0 rfl) ?_
      refine lv_iload_n hx hb dX10_million_20 rfl (lv_at hl 3 rfl) ?_
      refine lv_iload hx hb dX10_million_21 (lv_at hl 4 rfl) ?_
      obtain ⟨r_7, hg_8, h⟩ := bd1_el h
      refine kx_Vi (As := [.int p3, .int p4]) (rest := []) (wr := [(q_stands, .inl (ca 0, 16, .inl v_stands)), (q_one, .inl (ca 0, 7, .inl v_one)), (q_two, .inl (ca 0, 7, .inl v_two)), (q_ways, .inl (ca 0, 49, .inl v_ways)), (q_now, .inl (ca 1, 81, .inr (.inl v_now))), (q_then, .inl (ca 1, 81, .inr (.inl v_then)))]) (w1 := [(q_this, .inr (8, [.ref q_text, .int v_size, .int v_at, .ref q_read, .ref q_l, .ref q_stands, .ref q_kept, .int v_keptMany, .ref q_one, .ref q_two, .ref q_ways, .ref q_now, .ref q_then])), (q_l, .inl (ca 0, 336, .inl v_l))]) (wn := [(q_this, .inr (8, [.ref q_text, .int v_size, .int v_at, .ref q_read, .ref q_l, .ref q_stands, .ref q_kept, .int v_keptMany, .ref q_one, .ref q_two, .ref q_ways, .ref q_now, .ref q_then])), (q_l, .inl (ca 0, 336, .inl v_l)), (q_stands, .inl (ca 0, 16, .inl v_stands)), (q_one, .inl (ca 0, 7, .inl v_one)), (q_two, .inl (ca 0, 7, .inl v_two)), (q_ways, .inl (ca 0, 49, .inl v_ways)), (q_now, .inl (ca 1, 81, .inr (.inl v_now))), (q_then, .inl (ca 1, 81, .inr (.inl v_then)))]) ⟨hx, hb, hml, hown, hts⟩ (c_X10_isStand l D ca H.size q_this q_text q_read q_l q_stands q_kept q_one q_two q_ways q_now q_then p3 p4 v_size v_at v_keptMany v_l r_7 hg_8) (cwV 2 hts gX10_million_X10_isStand rfl rfl rfl (by decide +kernel) ⟨(Nat.le_of_ble_eq_true rfl), (Nat.le_of_ble_eq_true rfl)⟩) hK hP hD hS hA (ci := 8) (q0 := 0) rfl rfl [0, 1] [2, 3, 4, 5, 6, 7] [6, 7, 0, 1, 2, 3, 4, 5] rfl rfl rfl rfl (by decide) rfl rfl rfl hl.1 rfl (Nat.le_of_ble_eq_true rfl) dX10_million_23 ⟨Nat.zero_le _, Nat.zero_le _⟩ (fun H locs hP hD hS => ?_)
      refine lv_if_ne (tgt := 31) hx hb dX10_million_26 (by decide) (fun c_9 => ?_) (fun c_9 => ?_)
      · replace h := ifn_el c_9 h
        refine lv_aload_n hx hb dX10_million_31 rfl (lv_at hl 0 rfl) ?_
        refine lv_iload_n hx hb dX10_million_32 rfl (lv_at hl 1 rfl) ?_
        obtain ⟨r_10, hg_11, h⟩ := bd1_el h
        refine kx_Vi (As := [.int p1]) (rest := []) (wr := [(q_stands, .inl (ca 0, 16, .inl v_stands)), (q_one, .inl (ca 0, 7, .inl v_one)), (q_two, .inl (ca 0, 7, .inl v_two)), (q_ways, .inl (ca 0, 49, .inl v_ways)), (q_now, .inl (ca 1, 81, .inr (.inl v_now))), (q_then, .inl (ca 1, 81, .inr (.inl v_then)))]) (w1 := [(q_this, .inr (8, [.ref q_text, .int v_size, .int v_at, .ref q_read, .ref q_l, .ref q_stands, .ref q_kept, .int v_keptMany, .ref q_one, .ref q_two, .ref q_ways, .ref q_now, .ref q_then])), (q_l, .inl (ca 0, 336, .inl v_l))]) (wn := [(q_this, .inr (8, [.ref q_text, .int v_size, .int v_at, .ref q_read, .ref q_l, .ref q_stands, .ref q_kept, .int v_keptMany, .ref q_one, .ref q_two, .ref q_ways, .ref q_now, .ref q_then])), (q_l, .inl (ca 0, 336, .inl v_l)), (q_stands, .inl (ca 0, 16, .inl v_stands)), (q_one, .inl (ca 0, 7, .inl v_one)), (q_two, .inl (ca 0, 7, .inl v_two)), (q_ways, .inl (ca 0, 49, .inl v_ways)), (q_now, .inl (ca 1, 81, .inr (.inl v_now))), (q_then, .inl (ca 1, 81, .inr (.inl v_then)))]) ⟨hx, hb, hml, hown, hts⟩ (c_X10_isTold l D ca H.size q_this q_text q_read q_l q_stands q_kept q_one q_two q_ways q_now q_then p1 v_size v_at v_keptMany v_l r_10 hg_11) (cwV 1 hts gX10_million_X10_isTold rfl rfl rfl (by decide +kernel) ⟨(Nat.le_of_ble_eq_true rfl), (Nat.le_of_ble_eq_true rfl)⟩) hK hP hD hS hA (ci := 8) (q0 := 0) rfl rfl [0, 1] [2, 3, 4, 5, 6, 7] [6, 7, 0, 1, 2, 3, 4, 5] rfl rfl rfl rfl (by decide) rfl rfl rfl hl.1 rfl (Nat.le_of_ble_eq_true rfl) dX10_million_33 ⟨Nat.zero_le _, Nat.zero_le _⟩ (fun H locs hP hD hS => ?_)
        refine lv_if_ne (tgt := 42) hx hb dX10_million_36 (by decide) (fun c_12 => ?_) (fun c_12 => ?_)
        · replace h := ifn_el c_12 h
          refine lv_aload_n hx hb dX10_million_42 rfl (lv_at hl 0 rfl) ?_
          refine lv_iload_n hx hb dX10_million_43 rfl (lv_at hl 1 rfl) ?_
          refine lv_iload_n hx hb dX10_million_44 rfl (lv_at hl 2 rfl) ?_
          obtain ⟨y_one_13, y_two_14, y_ways_15, y_now_16, y_then_17, hg_18, h⟩ := bd5_el h
          refine kx_Vv (As := [.int p1, .int p2]) (rest := []) (wr := []) (w1 := [(q_this, .inr (8, [.ref q_text, .int v_size, .int v_at, .ref q_read, .ref q_l, .ref q_stands, .ref q_kept, .int v_keptMany, .ref q_one, .ref q_two, .ref q_ways, .ref q_now, .ref q_then])), (q_l, .inl (ca 0, 336, .inl v_l)), (q_stands, .inl (ca 0, 16, .inl v_stands)), (q_one, .inl (ca 0, 7, .inl y_one_13)), (q_two, .inl (ca 0, 7, .inl y_two_14)), (q_ways, .inl (ca 0, 49, .inl y_ways_15)), (q_now, .inl (ca 1, 81, .inr (.inl y_now_16))), (q_then, .inl (ca 1, 81, .inr (.inl y_then_17)))]) (wn := [(q_this, .inr (8, [.ref q_text, .int v_size, .int v_at, .ref q_read, .ref q_l, .ref q_stands, .ref q_kept, .int v_keptMany, .ref q_one, .ref q_two, .ref q_ways, .ref q_now, .ref q_then])), (q_l, .inl (ca 0, 336, .inl v_l)), (q_stands, .inl (ca 0, 16, .inl v_stands)), (q_one, .inl (ca 0, 7, .inl y_one_13)), (q_two, .inl (ca 0, 7, .inl y_two_14)), (q_ways, .inl (ca 0, 49, .inl y_ways_15)), (q_now, .inl (ca 1, 81, .inr (.inl y_now_16))), (q_then, .inl (ca 1, 81, .inr (.inl y_then_17)))]) ⟨hx, hb, hml, hown, hts⟩ (c_X10_goAsTold l D ca F H.size q_this q_text q_read q_l q_stands q_kept q_one q_two q_ways q_now q_then p1 p2 v_size v_at v_keptMany v_l v_stands v_one v_two v_ways v_now v_then y_one_13 y_two_14 y_ways_15 y_now_16 y_then_17 hg_18) (cwV 2 hts gX10_million_X10_goAsTold rfl rfl rfl (by decide +kernel) ⟨(Nat.le_of_ble_eq_true rfl), (Nat.le_of_ble_eq_true rfl)⟩) hK hP hD hS hA (ci := 8) (q0 := 0) rfl rfl [0, 1, 2, 3, 4, 5, 6, 7] [] [0, 1, 2, 3, 4, 5, 6, 7] rfl rfl rfl rfl (by decide) rfl rfl rfl hl.1 rfl (Nat.le_of_ble_eq_true rfl) dX10_million_45 ⟨Nat.zero_le _, Nat.zero_le _⟩ (fun H locs hP hD hS => ?_)
          refine lv_aload_n hx hb dX10_million_48 rfl (lv_at hl 0 rfl) ?_
          refine va_get (D := D) (ci := 8) (v := .ref q_now) (C := RX10) (T := TX10) (N := 13) hx hb hts i_X10 hown hK hP 0 rfl rfl 11 (by decide) k_34 (fun _ h9 => h9) rfl dX10_million_49 ?_
          refine lv_bipush (v := (nI 9)) hx hb dX10_million_52 (by decide) ?_
          refine lv_iload_n hx hb dX10_million_54 rfl (lv_at hl 3 rfl) ?_
          refine lv_imul hx hb dX10_million_55 ?_
          refine lv_iload hx hb dX10_million_56 (lv_at hl 4 rfl) ?_
          refine lv_iadd hx hb dX10_million_58 ?_
          obtain ⟨hi_19, h⟩ := ck_el h
          refine va_lald hx hb hK hP 6 1 rfl rfl hi_19 dX10_million_59 ?_
          refine lv_l2i hx hb dX10_million_60 rfl ?_
          cases h
          rw [← hQe]
          exact W.iret hx hb hr (fun t ht hW => ⟨⟨_, (), rfl, rfl, by rw [ht]; exact hP, va_K.moved hW.alike hK, hD⟩, hS.F ht⟩) hS.2.2 dX10_million_61
        · replace h := ifp_el c_12 h
          refine lv_bipush (v := (-2 : Int32)) hx hb dX10_million_39 (by decide) ?_
          cases h
          rw [← hQe]
          exact W.iret hx hb hr (fun t ht hW => ⟨⟨_, (), rfl, rfl, by rw [ht]; exact hP, va_K.moved hW.alike hK, hD⟩, hS.F ht⟩) hS.2.2 dX10_million_41
      · replace h := ifp_el c_9 h
        refine lv_iconst (v := (-1 : Int32)) hx hb dX10_million_29 (by decide) ?_
        cases h
        rw [← hQe]
        exact W.iret hx hb hr (fun t ht hW => ⟨⟨_, (), rfl, rfl, by rw [ht]; exact hP, va_K.moved hW.alike hK, hD⟩, hS.F ht⟩) hS.2.2 dX10_million_30
def D_X10_won (F : Nat) (p1 : Int32) (p2 : Int32) (p3 : Int32) (v_l : Nat → Int32) (v_stands : Nat → Int32) (v_one : Nat → Int32) (v_two : Nat → Int32) (v_ways : Nat → Int32) (v_now : Nat → Int64) (v_then : Nat → Int64) : Option (Int32 × (Nat → Int32) × (Nat → Int32) × (Nat → Int32) × (Nat → Int64) × (Nat → Int64)) := bd1 (D_X10_isMeaning p1) (fun r_1 => (if r_1 = 0 then some ((-1 : Int32), v_one, v_two, v_ways, v_now, v_then) else bd1 (D_X10_in p2.toInt64 (lN 0) (lN 200)) (fun r_4 => (if r_4 = 0 then some ((-1 : Int32), v_one, v_two, v_ways, v_now, v_then) else bd1 (D_X10_in p3.toInt64 (lN 0) (lN 1)) (fun r_7 => (if r_7 = 0 then some ((-1 : Int32), v_one, v_two, v_ways, v_now, v_then) else bd1 (D_X10_isTold p1 v_l) (fun r_10 => (if r_10 = 0 then some ((-2 : Int32), v_one, v_two, v_ways, v_now, v_then) else bd5 (D_X10_goAsTold F p1 p2 v_l v_stands v_one v_two v_ways v_now v_then) (fun y_one_13 y_two_14 y_ways_15 y_now_16 y_then_17 => ck 336 (nI 298) (ck 336 (nI 299) (bd1 (D_X10_wonBy p3 (v_l (nI 298).toNatClampNeg) (v_l (nI 299).toNatClampNeg) y_now_16) (fun r_21 => some (r_21.toInt32, y_one_13, y_two_14, y_ways_15, y_now_16, y_then_17)))))))))))))
abbrev rm_X10_won : Room := { frames := 7, cells := 0, slots := 0, locals := 163 }
set_option maxHeartbeats 4000000 in
set_option maxRecDepth 100000 in
theorem c_X10_won (l : Launch) (D : va_G) (ca : Nat → ClassId) (F : Nat) (sz : Nat) (q_this q_text q_read q_l q_stands q_kept q_one q_two q_ways q_now q_then : Nat) (p1 : Int32) (p2 : Int32) (p3 : Int32) (v_size : Int32) (v_at : Int32) (v_keptMany : Int32) (v_l : Nat → Int32) (v_stands : Nat → Int32) (v_one : Nat → Int32) (v_two : Nat → Int32) (v_ways : Nat → Int32) (v_now : Nat → Int64) (v_then : Nat → Int64) (r : Int32) (o_one : Nat → Int32) (o_two : Nat → Int32) (o_ways : Nat → Int32) (o_now : Nat → Int64) (o_then : Nat → Int64) (h : D_X10_won F p1 p2 p3 v_l v_stands v_one v_two v_ways v_now v_then = some (r, o_one, o_two, o_ways, o_now, o_then)) : Met l yX10_won wsX10_won rm_X10_won (va_Pc [.ref q_this, .int p1, .int p2, .int p3] (kPre D ca [(q_this, .inr (8, [.ref q_text, .int v_size, .int v_at, .ref q_read, .ref q_l, .ref q_stands, .ref q_kept, .int v_keptMany, .ref q_one, .ref q_two, .ref q_ways, .ref q_now, .ref q_then])), (q_l, .inl (ca 0, 336, .inl v_l)), (q_stands, .inl (ca 0, 16, .inl v_stands)), (q_one, .inl (ca 0, 7, .inl v_one)), (q_two, .inl (ca 0, 7, .inl v_two)), (q_ways, .inl (ca 0, 49, .inl v_ways)), (q_now, .inl (ca 1, 81, .inr (.inl v_now))), (q_then, .inl (ca 1, 81, .inr (.inl v_then)))] sz)) (kQi D ca (va_A [(q_this, .inr (8, [.ref q_text, .int v_size, .int v_at, .ref q_read, .ref q_l, .ref q_stands, .ref q_kept, .int v_keptMany, .ref q_one, .ref q_two, .ref q_ways, .ref q_now, .ref q_then])), (q_l, .inl (ca 0, 336, .inl v_l)), (q_stands, .inl (ca 0, 16, .inl v_stands)), (q_one, .inl (ca 0, 7, .inl v_one)), (q_two, .inl (ca 0, 7, .inl v_two)), (q_ways, .inl (ca 0, 49, .inl v_ways)), (q_now, .inl (ca 1, 81, .inr (.inl v_now))), (q_then, .inl (ca 1, 81, .inr (.inl v_then)))] sz) [(q_this, .inr (8, [.ref q_text, .int v_size, .int v_at, .ref q_read, .ref q_l, .ref q_stands, .ref q_kept, .int v_keptMany, .ref q_one, .ref q_two, .ref q_ways, .ref q_now, .ref q_then])), (q_l, .inl (ca 0, 336, .inl v_l)), (q_stands, .inl (ca 0, 16, .inl v_stands)), (q_one, .inl (ca 0, 7, .inl o_one)), (q_two, .inl (ca 0, 7, .inl o_two)), (q_ways, .inl (ca 0, 49, .inl o_ways)), (q_now, .inl (ca 1, 81, .inr (.inl o_now))), (q_then, .inl (ca 1, 81, .inr (.inl o_then)))] r) 0 0 (va_A [(q_this, .inr (8, [.ref q_text, .int v_size, .int v_at, .ref q_read, .ref q_l, .ref q_stands, .ref q_kept, .int v_keptMany, .ref q_one, .ref q_two, .ref q_ways, .ref q_now, .ref q_then])), (q_l, .inl (ca 0, 336, .inl v_l)), (q_stands, .inl (ca 0, 16, .inl v_stands)), (q_one, .inl (ca 0, 7, .inl v_one)), (q_two, .inl (ca 0, 7, .inl v_two)), (q_ways, .inl (ca 0, 49, .inl v_ways)), (q_now, .inl (ca 1, 81, .inr (.inl v_now))), (q_then, .inl (ca 1, 81, .inr (.inl v_then)))] sz) := by
  refine Met.ofW (cc := cX10_won) (maxL := 4) (ret := (some .int)) (by decide +kernel) rfl ?_
  intro p e s m args below meth c s₁ B hml hv
  obtain ⟨rfl, hsz, hP, hK, hD0⟩ := hv
  have hx := B.exec
  have hb := B.bytes
  have hr := B.returns
  have hts := atoms_spec (ws := wsX10_won) B.pre
  have hown : s.vm.findClass RX10 = some m.cls := findClass_of_methodNamed B.named
  have hlocks := B.notSynchronized
  clear B
  subst hsz
  have hD := hD0.self (sz := s.heap.size)
  generalize hAe : va_A [(q_this, .inr (8, [.ref q_text, .int v_size, .int v_at, .ref q_read, .ref q_l, .ref q_stands, .ref q_kept, .int v_keptMany, .ref q_one, .ref q_two, .ref q_ways, .ref q_now, .ref q_then])), (q_l, .inl (ca 0, 336, .inl v_l)), (q_stands, .inl (ca 0, 16, .inl v_stands)), (q_one, .inl (ca 0, 7, .inl v_one)), (q_two, .inl (ca 0, 7, .inl v_two)), (q_ways, .inl (ca 0, 49, .inl v_ways)), (q_now, .inl (ca 1, 81, .inr (.inl v_now))), (q_then, .inl (ca 1, 81, .inr (.inl v_then)))] s.heap.size = A at hD ⊢
  have hA : ∀ q : Nat, s.heap.size ≤ q → A q := fun q h => by rw [← hAe]; exact Or.inr h
  have hS : va_S A s.heap s.heap [] := va_S.rf
  have hl := lv_entry ([.ref q_this, .int p1, .int p2, .int p3]) (n := 4) (Nat.le_of_ble_eq_true rfl)
  rw [lg_entry_eq]
  generalize (lg_sl ([.ref q_this, .int p1, .int p2, .int p3]) ++ List.replicate (4 - (lg_sl ([.ref q_this, .int p1, .int p2, .int p3])).length) Slot.unset).toArray = ls at hl ⊢
  have hl : lv_has ls 4 [(0, .ref q_this), (1, .int p1), (2, .int p2), (3, .int p3)] := hl
  generalize ([.ref q_this, .int p1, .int p2, .int p3] : List Value).toArray = args at hts ⊢
  generalize hQe : MQ below (kQi D ca (A) [(q_this, .inr (8, [.ref q_text, .int v_size, .int v_at, .ref q_read, .ref q_l, .ref q_stands, .ref q_kept, .int v_keptMany, .ref q_one, .ref q_two, .ref q_ways, .ref q_now, .ref q_then])), (q_l, .inl (ca 0, 336, .inl v_l)), (q_stands, .inl (ca 0, 16, .inl v_stands)), (q_one, .inl (ca 0, 7, .inl o_one)), (q_two, .inl (ca 0, 7, .inl o_two)), (q_ways, .inl (ca 0, 49, .inl o_ways)), (q_now, .inl (ca 1, 81, .inr (.inl o_now))), (q_then, .inl (ca 1, 81, .inr (.inl o_then)))] r) args s 0 0 A = Q
  have k_188 := hts (.constantLong RX10 188 (lN 200)) (by decide +kernel)
  have i_X10 : ∀ w ∈ u_ws RX10 TX10 13, w ∈ wsX10_won := by decide +kernel
  have k_16 := hts (.fieldLink RX10 16 "TradeWordsModel" "l" "[I") (by decide +kernel)
  rw [D_X10_won] at h
  refine lv_iload_n hx hb dX10_won_0 rfl (lv_at hl 1 rfl) ?_
  obtain ⟨r_1, hg_2, h⟩ := bd1_el h
  refine kx_Si (As := [.int p1]) (rest := []) (wr := [(q_this, .inr (8, [.ref q_text, .int v_size, .int v_at, .ref q_read, .ref q_l, .ref q_stands, .ref q_kept, .int v_keptMany, .ref q_one, .ref q_two, .ref q_ways, .ref q_now, .ref q_then])), (q_l, .inl (ca 0, 336, .inl v_l)), (q_stands, .inl (ca 0, 16, .inl v_stands)), (q_one, .inl (ca 0, 7, .inl v_one)), (q_two, .inl (ca 0, 7, .inl v_two)), (q_ways, .inl (ca 0, 49, .inl v_ways)), (q_now, .inl (ca 1, 81, .inr (.inl v_now))), (q_then, .inl (ca 1, 81, .inr (.inl v_then)))]) (w1 := []) (wn := [(q_this, .inr (8, [.ref q_text, .int v_size, .int v_at, .ref q_read, .ref q_l, .ref q_stands, .ref q_kept, .int v_keptMany, .ref q_one, .ref q_two, .ref q_ways, .ref q_now, .ref q_then])), (q_l, .inl (ca 0, 336, .inl v_l)), (q_stands, .inl (ca 0, 16, .inl v_stands)), (q_one, .inl (ca 0, 7, .inl v_one)), (q_two, .inl (ca 0, 7, .inl v_two)), (q_ways, .inl (ca 0, 49, .inl v_ways)), (q_now, .inl (ca 1, 81, .inr (.inl v_now))), (q_then, .inl (ca 1, 81, .inr (.inl v_then)))]) ⟨hx, hb, hml, hown, hts⟩ (c_X10_isMeaning l D ca s.heap.size p1 r_1 hg_2) (va_cwS 1 hts gX10_won_X10_isMeaning rfl rfl rfl (by decide +kernel) ⟨(Nat.le_of_ble_eq_true rfl), (Nat.le_of_ble_eq_true rfl)⟩) hK hP hD hS hA [] [0, 1, 2, 3, 4, 5, 6, 7] [0, 1, 2, 3, 4, 5, 6, 7] rfl rfl rfl rfl (by decide) rfl rfl rfl hl.1 rfl (Nat.le_of_ble_eq_true rfl) dX10_won_1 ⟨Nat.zero_le _, Nat.zero_le _⟩ (fun H locs hP hD hS => ?_)
  refine lv_if_eq (tgt := 29) hx hb dX10_won_4 (by decide) (fun c_3 => ?_) (fun c_3 => ?_)
  · replace h := ifp_el c_3 h
    refine lv_iconst (v := (-1 : Int32)) hx hb dX10_won_29 (by decide) ?_
    cases h
    rw [← hQe]
    exact W.iret hx hb hr (fun t ht hW => ⟨⟨_, (), rfl, rfl, by rw [ht]; exact hP, va_K.moved hW.alike hK, hD⟩, hS.F ht⟩) hS.2.2 dX10_won_30
  · replace h := ifn_el c_3 h
    refine lv_iload_n hx hb dX10_won_7 rfl (lv_at hl 2 rfl) ?_
    refine lv_i2l hx hb dX10_won_8 rfl ?_
    refine lv_lconst (v := (lN 0)) hx hb dX10_won_9 (by decide) ?_
    refine lv_ldc2 hx hb hown k_188 dX10_won_10 ?_
    obtain ⟨r_4, hg_5, h⟩ := bd1_el h
    refine kx_Si (As := [.long p2.toInt64, .long (lN 0), .long (lN 200)]) (rest := []) (wr := [(q_this, .inr (8, [.ref q_text, .int v_size, .int v_at, .ref q_read, .ref q_l, .ref q_stands, .ref q_kept, .int v_keptMany, .ref q_one, .ref q_two, .ref q_ways, .ref q_now, .ref q_then])), (q_l, .inl (ca 0, 336, .inl v_l)), (q_stands, .inl (ca 0, 16, .inl v_stands)), (q_one, .inl (ca 0, 7, .inl v_one)), (q_two, .inl (ca 0, 7, .inl v_two)), (q_ways, .inl (ca 0, 49, .inl v_ways)), (q_now, .inl (ca 1, 81, .inr (.inl v_now))), (q_then, .inl (ca 1, 81, .inr (.inl v_then)))]) (w1 := []) (wn := [(q_this, .inr (8, [.ref q_text, .int v_size, .int v_at, .ref q_read, .ref q_l, .ref q_stands, .ref q_kept, .int v_keptMany, .ref q_one, .ref q_two, .ref q_ways, .ref q_now, .ref q_then])), (q_l, .inl (ca 0, 336, .inl v_l)), (q_stands, .inl (ca 0, 16, .inl v_stands)), (q_one, .inl (ca 0, 7, .inl v_one)), (q_two, .inl (ca 0, 7, .inl v_two)), (q_ways, .inl (ca 0, 49, .inl v_ways)), (q_now, .inl (ca 1, 81, .inr (.inl v_now))), (q_then, .inl (ca 1, 81, .inr (.inl v_then)))]) ⟨hx, hb, hml, hown, hts⟩ (c_X10_in l D ca H.size p2.toInt64 (lN 0) (lN 200) r_4 hg_5) (va_cwS 3 hts gX10_won_X10_in rfl rfl rfl (by decide +kernel) ⟨(Nat.le_of_ble_eq_true rfl), (Nat.le_of_ble_eq_true rfl)⟩) hK hP hD hS hA [] [0, 1, 2, 3, 4, 5, 6, 7] [0, 1, 2, 3, 4, 5, 6, 7] rfl rfl rfl rfl (by decide) rfl rfl rfl hl.1 rfl (Nat.le_of_ble_eq_true rfl) dX10_won_13 ⟨Nat.zero_le _, Nat.zero_le _⟩ (fun H locs hP hD hS => ?_)
    refine lv_if_eq (tgt := 29) hx hb dX10_won_16 (by decide) (fun c_6 => ?_) (fun c_6 => ?_)
    · replace h := ifp_el c_6 h
      refine lv_iconst (v := (-1 : Int32)) hx hb dX10_won_29 (by decide) ?_
      cases h
      rw [← hQe]
      exact W.iret hx hb hr (fun t ht hW => ⟨⟨_, (), rfl, rfl, by rw [ht]; exact hP, va_K.moved hW.alike hK, hD⟩, hS.F ht⟩) hS.2.2 dX10_won_30
    · replace h := ifn_el c_6 h
      refine lv_iload_n hx hb dX10_won_19 rfl (lv_at hl 3 rfl) ?_
      refine lv_i2l hx hb dX10_won_20 rfl ?_
      refine lv_lconst (v := (lN 0)) hx hb dX10_won_21 (by decide) ?_
      refine lv_lconst (v := (lN 1)) hx hb dX10_won_22 (by decide) ?_
      obtain ⟨r_7, hg_8, h⟩ := bd1_el h
      refine kx_Si (As := [.long p3.toInt64, .long (lN 0), .long (lN 1)]) (rest := []) (wr := [(q_this, .inr (8, [.ref q_text, .int v_size, .int v_at, .ref q_read, .ref q_l, .ref q_stands, .ref q_kept, .int v_keptMany, .ref q_one, .ref q_two, .ref q_ways, .ref q_now, .ref q_then])), (q_l, .inl (ca 0, 336, .inl v_l)), (q_stands, .inl (ca 0, 16, .inl v_stands)), (q_one, .inl (ca 0, 7, .inl v_one)), (q_two, .inl (ca 0, 7, .inl v_two)), (q_ways, .inl (ca 0, 49, .inl v_ways)), (q_now, .inl (ca 1, 81, .inr (.inl v_now))), (q_then, .inl (ca 1, 81, .inr (.inl v_then)))]) (w1 := []) (wn := [(q_this, .inr (8, [.ref q_text, .int v_size, .int v_at, .ref q_read, .ref q_l, .ref q_stands, .ref q_kept, .int v_keptMany, .ref q_one, .ref q_two, .ref q_ways, .ref q_now, .ref q_then])), (q_l, .inl (ca 0, 336, .inl v_l)), (q_stands, .inl (ca 0, 16, .inl v_stands)), (q_one, .inl (ca 0, 7, .inl v_one)), (q_two, .inl (ca 0, 7, .inl v_two)), (q_ways, .inl (ca 0, 49, .inl v_ways)), (q_now, .inl (ca 1, 81, .inr (.inl v_now))), (q_then, .inl (ca 1, 81, .inr (.inl v_then)))]) ⟨hx, hb, hml, hown, hts⟩ (c_X10_in l D ca H.size p3.toInt64 (lN 0) (lN 1) r_7 hg_8) (va_cwS 3 hts gX10_won_X10_in rfl rfl rfl (by decide +kernel) ⟨(Nat.le_of_ble_eq_true rfl), (Nat.le_of_ble_eq_true rfl)⟩) hK hP hD hS hA [] [0, 1, 2, 3, 4, 5, 6, 7] [0, 1, 2, 3, 4, 5, 6, 7] rfl rfl rfl rfl (by decide) rfl rfl rfl hl.1 rfl (Nat.le_of_ble_eq_true rfl) dX10_won_23 ⟨Nat.zero_le _, Nat.zero_le _⟩ (fun H locs hP hD hS => ?_)
      refine lv_if_ne (tgt := 31) hx hb dX10_won_26 (by decide) (fun c_9 => ?_) (fun c_9 => ?_)
      · replace h := ifn_el c_9 h
        refine lv_aload_n hx hb dX10_won_31 rfl (lv_at hl 0 rfl) ?_
        refine lv_iload_n hx hb dX10_won_32 rfl (lv_at hl 1 rfl) ?_
        obtain ⟨r_10, hg_11, h⟩ := bd1_el h
        refine kx_Vi (As := [.int p1]) (rest := []) (wr := [(q_stands, .inl (ca 0, 16, .inl v_stands)), (q_one, .inl (ca 0, 7, .inl v_one)), (q_two, .inl (ca 0, 7, .inl v_two)), (q_ways, .inl (ca 0, 49, .inl v_ways)), (q_now, .inl (ca 1, 81, .inr (.inl v_now))), (q_then, .inl (ca 1, 81, .inr (.inl v_then)))]) (w1 := [(q_this, .inr (8, [.ref q_text, .int v_size, .int v_at, .ref q_read, .ref q_l, .ref q_stands, .ref q_kept, .int v_keptMany, .ref q_one, .ref q_two, .ref q_ways, .ref q_now, .ref q_then])), (q_l, .inl (ca 0, 336, .inl v_l))]) (wn := [(q_this, .inr (8, [.ref q_text, .int v_size, .int v_at, .ref q_read, .ref q_l, .ref q_stands, .ref q_kept, .int v_keptMany, .ref q_one, .ref q_two, .ref q_ways, .ref q_now, .ref q_then])), (q_l, .inl (ca 0, 336, .inl v_l)), (q_stands, .inl (ca 0, 16, .inl v_stands)), (q_one, .inl (ca 0, 7, .inl v_one)), (q_two, .inl (ca 0, 7, .inl v_two)), (q_ways, .inl (ca 0, 49, .inl v_ways)), (q_now, .inl (ca 1, 81, .inr (.inl v_now))), (q_then, .inl (ca 1, 81, .inr (.inl v_then)))]) ⟨hx, hb, hml, hown, hts⟩ (c_X10_isTold l D ca H.size q_this q_text q_read q_l q_stands q_kept q_one q_two q_ways q_now q_then p1 v_size v_at v_keptMany v_l r_10 hg_11) (cwV 1 hts gX10_won_X10_isTold rfl rfl rfl (by decide +kernel) ⟨(Nat.le_of_ble_eq_true rfl), (Nat.le_of_ble_eq_true rfl)⟩) hK hP hD hS hA (ci := 8) (q0 := 0) rfl rfl [0, 1] [2, 3, 4, 5, 6, 7] [6, 7, 0, 1, 2, 3, 4, 5] rfl rfl rfl rfl (by decide) rfl rfl rfl hl.1 rfl (Nat.le_of_ble_eq_true rfl) dX10_won_33 ⟨Nat.zero_le _, Nat.zero_le _⟩ (fun H locs hP hD hS => ?_)
        refine lv_if_ne (tgt := 42) hx hb dX10_won_36 (by decide) (fun c_12 => ?_) (fun c_12 => ?_)
        · replace h := ifn_el c_12 h
          refine lv_aload_n hx hb dX10_won_42 rfl (lv_at hl 0 rfl) ?_
          refine lv_iload_n hx hb dX10_won_43 rfl (lv_at hl 1 rfl) ?_
          refine lv_iload_n hx hb dX10_won_44 rfl (lv_at hl 2 rfl) ?_
          obtain ⟨y_one_13, y_two_14, y_ways_15, y_now_16, y_then_17, hg_18, h⟩ := bd5_el h
          refine kx_Vv (As := [.int p1, .int p2]) (rest := []) (wr := []) (w1 := [(q_this, .inr (8, [.ref q_text, .int v_size, .int v_at, .ref q_read, .ref q_l, .ref q_stands, .ref q_kept, .int v_keptMany, .ref q_one, .ref q_two, .ref q_ways, .ref q_now, .ref q_then])), (q_l, .inl (ca 0, 336, .inl v_l)), (q_stands, .inl (ca 0, 16, .inl v_stands)), (q_one, .inl (ca 0, 7, .inl y_one_13)), (q_two, .inl (ca 0, 7, .inl y_two_14)), (q_ways, .inl (ca 0, 49, .inl y_ways_15)), (q_now, .inl (ca 1, 81, .inr (.inl y_now_16))), (q_then, .inl (ca 1, 81, .inr (.inl y_then_17)))]) (wn := [(q_this, .inr (8, [.ref q_text, .int v_size, .int v_at, .ref q_read, .ref q_l, .ref q_stands, .ref q_kept, .int v_keptMany, .ref q_one, .ref q_two, .ref q_ways, .ref q_now, .ref q_then])), (q_l, .inl (ca 0, 336, .inl v_l)), (q_stands, .inl (ca 0, 16, .inl v_stands)), (q_one, .inl (ca 0, 7, .inl y_one_13)), (q_two, .inl (ca 0, 7, .inl y_two_14)), (q_ways, .inl (ca 0, 49, .inl y_ways_15)), (q_now, .inl (ca 1, 81, .inr (.inl y_now_16))), (q_then, .inl (ca 1, 81, .inr (.inl y_then_17)))]) ⟨hx, hb, hml, hown, hts⟩ (c_X10_goAsTold l D ca F H.size q_this q_text q_read q_l q_stands q_kept q_one q_two q_ways q_now q_then p1 p2 v_size v_at v_keptMany v_l v_stands v_one v_two v_ways v_now v_then y_one_13 y_two_14 y_ways_15 y_now_16 y_then_17 hg_18) (cwV 2 hts gX10_won_X10_goAsTold rfl rfl rfl (by decide +kernel) ⟨(Nat.le_of_ble_eq_true rfl), (Nat.le_of_ble_eq_true rfl)⟩) hK hP hD hS hA (ci := 8) (q0 := 0) rfl rfl [0, 1, 2, 3, 4, 5, 6, 7] [] [0, 1, 2, 3, 4, 5, 6, 7] rfl rfl rfl rfl (by decide) rfl rfl rfl hl.1 rfl (Nat.le_of_ble_eq_true rfl) dX10_won_45 ⟨Nat.zero_le _, Nat.zero_le _⟩ (fun H locs hP hD hS => ?_)
          refine lv_aload_n hx hb dX10_won_48 rfl (lv_at hl 0 rfl) ?_
          refine lv_iload_n hx hb dX10_won_49 rfl (lv_at hl 3 rfl) ?_
          refine lv_aload_n hx hb dX10_won_50 rfl (lv_at hl 0 rfl) ?_
          refine va_get (D := D) (ci := 8) (v := .ref q_l) (C := RX10) (T := TX10) (N := 13) hx hb hts i_X10 hown hK hP 0 rfl rfl 4 (by decide) k_16 (fun _ h9 => h9) rfl dX10_won_51 ?_
          refine lv_sipush (v := (nI 298)) hx hb dX10_won_54 (by decide) ?_
          obtain ⟨hi_19, h⟩ := ck_el h
          refine va_iald hx hb hK hP 1 0 rfl rfl hi_19 dX10_won_57 ?_
          refine lv_aload_n hx hb dX10_won_58 rfl (lv_at hl 0 rfl) ?_
          refine va_get (D := D) (ci := 8) (v := .ref q_l) (C := RX10) (T := TX10) (N := 13) hx hb hts i_X10 hown hK hP 0 rfl rfl 4 (by decide) k_16 (fun _ h9 => h9) rfl dX10_won_59 ?_
          refine lv_sipush (v := (nI 299)) hx hb dX10_won_62 (by decide) ?_
          obtain ⟨hi_20, h⟩ := ck_el h
          refine va_iald hx hb hK hP 1 0 rfl rfl hi_20 dX10_won_65 ?_
          obtain ⟨r_21, hg_22, h⟩ := bd1_el h
          refine kx_Vl (As := [.int p3, .int (v_l (nI 298).toNatClampNeg), .int (v_l (nI 299).toNatClampNeg)]) (rest := []) (wr := [(q_l, .inl (ca 0, 336, .inl v_l)), (q_stands, .inl (ca 0, 16, .inl v_stands)), (q_one, .inl (ca 0, 7, .inl y_one_13)), (q_two, .inl (ca 0, 7, .inl y_two_14)), (q_ways, .inl (ca 0, 49, .inl y_ways_15)), (q_then, .inl (ca 1, 81, .inr (.inl y_then_17)))]) (w1 := [(q_this, .inr (8, [.ref q_text, .int v_size, .int v_at, .ref q_read, .ref q_l, .ref q_stands, .ref q_kept, .int v_keptMany, .ref q_one, .ref q_two, .ref q_ways, .ref q_now, .ref q_then])), (q_now, .inl (ca 1, 81, .inr (.inl y_now_16)))]) (wn := [(q_this, .inr (8, [.ref q_text, .int v_size, .int v_at, .ref q_read, .ref q_l, .ref q_stands, .ref q_kept, .int v_keptMany, .ref q_one, .ref q_two, .ref q_ways, .ref q_now, .ref q_then])), (q_l, .inl (ca 0, 336, .inl v_l)), (q_stands, .inl (ca 0, 16, .inl v_stands)), (q_one, .inl (ca 0, 7, .inl y_one_13)), (q_two, .inl (ca 0, 7, .inl y_two_14)), (q_ways, .inl (ca 0, 49, .inl y_ways_15)), (q_now, .inl (ca 1, 81, .inr (.inl y_now_16))), (q_then, .inl (ca 1, 81, .inr (.inl y_then_17)))]) ⟨hx, hb, hml, hown, hts⟩ (c_X10_wonBy l D ca H.size q_this q_text q_read q_l q_stands q_kept q_one q_two q_ways q_now q_then p3 (v_l (nI 298).toNatClampNeg) (v_l (nI 299).toNatClampNeg) v_size v_at v_keptMany y_now_16 r_21 hg_22) (cwV 3 hts gX10_won_X10_wonBy rfl rfl rfl (by decide +kernel) ⟨(Nat.le_of_ble_eq_true rfl), (Nat.le_of_ble_eq_true rfl)⟩) hK hP hD hS hA (ci := 8) (q0 := 0) rfl rfl [0, 6] [1, 2, 3, 4, 5, 7] [6, 0, 1, 2, 3, 4, 7, 5] rfl rfl rfl rfl (by decide) rfl rfl rfl hl.1 rfl (Nat.le_of_ble_eq_true rfl) dX10_won_66 ⟨Nat.zero_le _, Nat.zero_le _⟩ (fun H locs hP hD hS => ?_)
          refine lv_l2i hx hb dX10_won_69 rfl ?_
          cases h
          rw [← hQe]
          exact W.iret hx hb hr (fun t ht hW => ⟨⟨_, (), rfl, rfl, by rw [ht]; exact hP, va_K.moved hW.alike hK, hD⟩, hS.F ht⟩) hS.2.2 dX10_won_70
        · replace h := ifp_el c_12 h
          refine lv_bipush (v := (-2 : Int32)) hx hb dX10_won_39 (by decide) ?_
          cases h
          rw [← hQe]
          exact W.iret hx hb hr (fun t ht hW => ⟨⟨_, (), rfl, rfl, by rw [ht]; exact hP, va_K.moved hW.alike hK, hD⟩, hS.F ht⟩) hS.2.2 dX10_won_41
      · replace h := ifp_el c_9 h
        refine lv_iconst (v := (-1 : Int32)) hx hb dX10_won_29 (by decide) ?_
        cases h
        rw [← hQe]
        exact W.iret hx hb hr (fun t ht hW => ⟨⟨_, (), rfl, rfl, by rw [ht]; exact hP, va_K.moved hW.alike hK, hD⟩, hS.F ht⟩) hS.2.2 dX10_won_30
def D_X10_isEnough (p1 : Int64) (p2 : Int32) : Option (Int32) := (if (lg_cmp (p1 * (lN 100)) (p2.toInt64 * (lN 1000000))) < 0 then some ((nI 0)) else some ((nI 1)))
abbrev rm_X10_isEnough : Room := { frames := 0, cells := 0, slots := 0, locals := 0 }
set_option maxHeartbeats 4000000 in
set_option maxRecDepth 100000 in
theorem c_X10_isEnough (l : Launch) (D : va_G) (ca : Nat → ClassId) (sz : Nat) (p1 : Int64) (p2 : Int32) (r : Int32) (h : D_X10_isEnough p1 p2 = some (r)) : Met l yX10_isEnough wsX10_isEnough rm_X10_isEnough (va_Pc [.long p1, .int p2] (kPre D ca [] sz)) (kQi D ca (va_A [] sz) [] r) 0 0 (va_A [] sz) := by
  refine Met.ofW (cc := cX10_isEnough) (maxL := 3) (ret := (some .boolean)) (by decide +kernel) rfl ?_
  intro p e s m args below meth c s₁ B hml hv
  obtain ⟨rfl, hsz, hP, hK, hD0⟩ := hv
  have hx := B.exec
  have hb := B.bytes
  have hr := B.returns
  have hts := atoms_spec (ws := wsX10_isEnough) B.pre
  have hown : s.vm.findClass RX10 = some m.cls := findClass_of_methodNamed B.named
  have hlocks := B.notSynchronized
  clear B
  subst hsz
  have hD := hD0.self (sz := s.heap.size)
  generalize hAe : va_A [] s.heap.size = A at hD ⊢
  have hA : ∀ q : Nat, s.heap.size ≤ q → A q := fun q h => by rw [← hAe]; exact Or.inr h
  have hS : va_S A s.heap s.heap [] := va_S.rf
  have hl := lv_entry ([.long p1, .int p2]) (n := 3) (Nat.le_of_ble_eq_true rfl)
  rw [lg_entry_eq]
  generalize (lg_sl ([.long p1, .int p2]) ++ List.replicate (3 - (lg_sl ([.long p1, .int p2])).length) Slot.unset).toArray = ls at hl ⊢
  have hl : lv_has ls 3 [(0, .long p1), (2, .int p2)] := hl
  generalize ([.long p1, .int p2] : List Value).toArray = args at hts ⊢
  generalize hQe : MQ below (kQi D ca (A) [] r) args s 0 0 A = Q
  have k_168 := hts (.constantLong RX10 168 (lN 100)) (by decide +kernel)
  have k_166 := hts (.constantLong RX10 166 (lN 1000000)) (by decide +kernel)
  rw [D_X10_isEnough] at h
  refine lv_lload_n hx hb dX10_isEnough_0 rfl (lv_at hl 0 rfl) ?_
  refine lv_ldc2 hx hb hown k_168 dX10_isEnough_1 ?_
  refine lv_lmul hx hb dX10_isEnough_4 ?_
  refine lv_iload_n hx hb dX10_isEnough_5 rfl (lv_at hl 1 rfl) ?_
  refine lv_i2l hx hb dX10_isEnough_6 rfl ?_
  refine lv_ldc2 hx hb hown k_166 dX10_isEnough_7 ?_
  refine lv_lmul hx hb dX10_isEnough_10 ?_
  refine W.lcmp hx hb dX10_isEnough_11 ?_
  refine lv_if_lt (tgt := 19) hx hb dX10_isEnough_12 (by decide) (fun c_1 => ?_) (fun c_1 => ?_)
  · replace h := ifp_el c_1 h
    refine lv_iconst (v := (nI 0)) hx hb dX10_isEnough_19 (by decide) ?_
    cases h
    rw [← hQe]
    exact W.zret hx hb hr rfl (fun t ht hW => ⟨⟨_, (), rfl, rfl, by rw [ht]; exact hP, va_K.moved hW.alike hK, hD⟩, hS.F ht⟩) hS.2.2 dX10_isEnough_20
  · replace h := ifn_el c_1 h
    refine lv_iconst (v := (nI 1)) hx hb dX10_isEnough_15 (by decide) ?_
    refine lv_goto (tgt := 20) hx hb dX10_isEnough_16 (by decide) ?_
    cases h
    rw [← hQe]
    exact W.zret hx hb hr rfl (fun t ht hW => ⟨⟨_, (), rfl, rfl, by rw [ht]; exact hP, va_K.moved hW.alike hK, hD⟩, hS.F ht⟩) hS.2.2 dX10_isEnough_20
def b_X10_soon_40 (p1 : Int32) (p2 : Int32) (v_l : Nat → Int32) (F : Nat) (rec40 : Int32 → (Nat → Int32) → (Nat → Int32) → (Nat → Int32) → (Nat → Int64) → (Nat → Int64) → Option (Int32 × (Nat → Int32) × (Nat → Int32) × (Nat → Int32) × (Nat → Int64) × (Nat → Int64))) (x3_16 : Int32) (y_one_17 : Nat → Int32) (y_two_18 : Nat → Int32) (y_ways_19 : Nat → Int32) (y_now_20 : Nat → Int64) (y_then_21 : Nat → Int64) : Option (Int32 × (Nat → Int32) × (Nat → Int32) × (Nat → Int32) × (Nat → Int64) × (Nat → Int64)) := (if (nI 200) < x3_16 then some ((-4 : Int32), y_one_17, y_two_18, y_ways_19, y_now_20, y_then_21) else ck 336 (nI 298) (ck 336 (nI 299) (bd1 (D_X10_wonBy (nI 0) (v_l (nI 298).toNatClampNeg) (v_l (nI 299).toNatClampNeg) y_now_20) (fun r_25 => ck 336 (nI 298) (ck 336 (nI 299) (bd1 (D_X10_wonBy (nI 1) (v_l (nI 298).toNatClampNeg) (v_l (nI 299).toNatClampNeg) y_now_20) (fun r_29 => bd1 (D_X10_isEnough (r_25 + r_29) p2) (fun r_31 => (if r_31 = 0 then ck 336 (nI 298) (ck 336 (nI 299) (ck 336 (nI 300) (ck 336 (nI 301) (bd5 (D_X10_goOn F p1 (nI 1) (v_l (nI 298).toNatClampNeg) (v_l (nI 299).toNatClampNeg) (v_l (nI 300).toNatClampNeg) (v_l (nI 301).toNatClampNeg) v_l y_one_17 y_two_18 y_ways_19 y_now_20 y_then_21) (fun y_one_38 y_two_39 y_ways_40 y_now_41 y_then_42 => nm (x3_16 + (nI 1)) (fun x3_44 => rec40 x3_44 y_one_38 y_two_39 y_ways_40 y_now_41 y_then_42)))))) else some (x3_16, y_one_17, y_two_18, y_ways_19, y_now_20, y_then_21))))))))))
def D_X10_soon (F : Nat) (p1 : Int32) (p2 : Int32) (v_l : Nat → Int32) (v_stands : Nat → Int32) (v_one : Nat → Int32) (v_two : Nat → Int32) (v_ways : Nat → Int32) (v_now : Nat → Int64) (v_then : Nat → Int64) : Option (Int32 × (Nat → Int32) × (Nat → Int32) × (Nat → Int32) × (Nat → Int64) × (Nat → Int64)) := bd1 (D_X10_isMeaning p1) (fun r_1 => (if r_1 = 0 then some ((-1 : Int32), v_one, v_two, v_ways, v_now, v_then) else bd1 (D_X10_in p2.toInt64 (lN 1) (lN 100)) (fun r_4 => (if r_4 = 0 then some ((-1 : Int32), v_one, v_two, v_ways, v_now, v_then) else bd1 (D_X10_isTold p1 v_l) (fun r_7 => (if r_7 = 0 then some ((-2 : Int32), v_one, v_two, v_ways, v_now, v_then) else bd5 (D_X10_goAsTold F p1 (nI 0) v_l v_stands v_one v_two v_ways v_now v_then) (fun y_one_10 y_two_11 y_ways_12 y_now_13 y_then_14 => lpg (T := Int32 → (Nat → Int32) → (Nat → Int32) → (Nat → Int32) → (Nat → Int64) → (Nat → Int64) → Option (Int32 × (Nat → Int32) × (Nat → Int32) × (Nat → Int32) × (Nat → Int64) × (Nat → Int64))) (fun _ _ _ _ _ _ => none) (b_X10_soon_40 p1 p2 v_l F) F (nI 0) y_one_10 y_two_11 y_ways_12 y_now_13 y_then_14)))))))
abbrev rm_X10_soon : Room := { frames := 7, cells := 0, slots := 0, locals := 163 }
set_option maxHeartbeats 4000000 in
set_option maxRecDepth 100000 in
theorem c_X10_soon (l : Launch) (D : va_G) (ca : Nat → ClassId) (F : Nat) (sz : Nat) (q_this q_text q_read q_l q_stands q_kept q_one q_two q_ways q_now q_then : Nat) (p1 : Int32) (p2 : Int32) (v_size : Int32) (v_at : Int32) (v_keptMany : Int32) (v_l : Nat → Int32) (v_stands : Nat → Int32) (v_one : Nat → Int32) (v_two : Nat → Int32) (v_ways : Nat → Int32) (v_now : Nat → Int64) (v_then : Nat → Int64) (r : Int32) (o_one : Nat → Int32) (o_two : Nat → Int32) (o_ways : Nat → Int32) (o_now : Nat → Int64) (o_then : Nat → Int64) (h : D_X10_soon F p1 p2 v_l v_stands v_one v_two v_ways v_now v_then = some (r, o_one, o_two, o_ways, o_now, o_then)) : Met l yX10_soon wsX10_soon rm_X10_soon (va_Pc [.ref q_this, .int p1, .int p2] (kPre D ca [(q_this, .inr (8, [.ref q_text, .int v_size, .int v_at, .ref q_read, .ref q_l, .ref q_stands, .ref q_kept, .int v_keptMany, .ref q_one, .ref q_two, .ref q_ways, .ref q_now, .ref q_then])), (q_l, .inl (ca 0, 336, .inl v_l)), (q_stands, .inl (ca 0, 16, .inl v_stands)), (q_one, .inl (ca 0, 7, .inl v_one)), (q_two, .inl (ca 0, 7, .inl v_two)), (q_ways, .inl (ca 0, 49, .inl v_ways)), (q_now, .inl (ca 1, 81, .inr (.inl v_now))), (q_then, .inl (ca 1, 81, .inr (.inl v_then)))] sz)) (kQi D ca (va_A [(q_this, .inr (8, [.ref q_text, .int v_size, .int v_at, .ref q_read, .ref q_l, .ref q_stands, .ref q_kept, .int v_keptMany, .ref q_one, .ref q_two, .ref q_ways, .ref q_now, .ref q_then])), (q_l, .inl (ca 0, 336, .inl v_l)), (q_stands, .inl (ca 0, 16, .inl v_stands)), (q_one, .inl (ca 0, 7, .inl v_one)), (q_two, .inl (ca 0, 7, .inl v_two)), (q_ways, .inl (ca 0, 49, .inl v_ways)), (q_now, .inl (ca 1, 81, .inr (.inl v_now))), (q_then, .inl (ca 1, 81, .inr (.inl v_then)))] sz) [(q_this, .inr (8, [.ref q_text, .int v_size, .int v_at, .ref q_read, .ref q_l, .ref q_stands, .ref q_kept, .int v_keptMany, .ref q_one, .ref q_two, .ref q_ways, .ref q_now, .ref q_then])), (q_l, .inl (ca 0, 336, .inl v_l)), (q_stands, .inl (ca 0, 16, .inl v_stands)), (q_one, .inl (ca 0, 7, .inl o_one)), (q_two, .inl (ca 0, 7, .inl o_two)), (q_ways, .inl (ca 0, 49, .inl o_ways)), (q_now, .inl (ca 1, 81, .inr (.inl o_now))), (q_then, .inl (ca 1, 81, .inr (.inl o_then)))] r) 0 0 (va_A [(q_this, .inr (8, [.ref q_text, .int v_size, .int v_at, .ref q_read, .ref q_l, .ref q_stands, .ref q_kept, .int v_keptMany, .ref q_one, .ref q_two, .ref q_ways, .ref q_now, .ref q_then])), (q_l, .inl (ca 0, 336, .inl v_l)), (q_stands, .inl (ca 0, 16, .inl v_stands)), (q_one, .inl (ca 0, 7, .inl v_one)), (q_two, .inl (ca 0, 7, .inl v_two)), (q_ways, .inl (ca 0, 49, .inl v_ways)), (q_now, .inl (ca 1, 81, .inr (.inl v_now))), (q_then, .inl (ca 1, 81, .inr (.inl v_then)))] sz) := by
  refine Met.ofW (cc := cX10_soon) (maxL := 4) (ret := (some .int)) (by decide +kernel) rfl ?_
  intro p e s m args below meth c s₁ B hml hv
  obtain ⟨rfl, hsz, hP, hK, hD0⟩ := hv
  have hx := B.exec
  have hb := B.bytes
  have hr := B.returns
  have hts := atoms_spec (ws := wsX10_soon) B.pre
  have hown : s.vm.findClass RX10 = some m.cls := findClass_of_methodNamed B.named
  have hlocks := B.notSynchronized
  clear B
  subst hsz
  have hD := hD0.self (sz := s.heap.size)
  generalize hAe : va_A [(q_this, .inr (8, [.ref q_text, .int v_size, .int v_at, .ref q_read, .ref q_l, .ref q_stands, .ref q_kept, .int v_keptMany, .ref q_one, .ref q_two, .ref q_ways, .ref q_now, .ref q_then])), (q_l, .inl (ca 0, 336, .inl v_l)), (q_stands, .inl (ca 0, 16, .inl v_stands)), (q_one, .inl (ca 0, 7, .inl v_one)), (q_two, .inl (ca 0, 7, .inl v_two)), (q_ways, .inl (ca 0, 49, .inl v_ways)), (q_now, .inl (ca 1, 81, .inr (.inl v_now))), (q_then, .inl (ca 1, 81, .inr (.inl v_then)))] s.heap.size = A at hD ⊢
  have hA : ∀ q : Nat, s.heap.size ≤ q → A q := fun q h => by rw [← hAe]; exact Or.inr h
  have hS : va_S A s.heap s.heap [] := va_S.rf
  have hl := lv_entry ([.ref q_this, .int p1, .int p2]) (n := 4) (Nat.le_of_ble_eq_true rfl)
  rw [lg_entry_eq]
  generalize (lg_sl ([.ref q_this, .int p1, .int p2]) ++ List.replicate (4 - (lg_sl ([.ref q_this, .int p1, .int p2])).length) Slot.unset).toArray = ls at hl ⊢
  have hl : lv_has ls 4 [(0, .ref q_this), (1, .int p1), (2, .int p2)] := hl
  generalize ([.ref q_this, .int p1, .int p2] : List Value).toArray = args at hts ⊢
  generalize hQe : MQ below (kQi D ca (A) [(q_this, .inr (8, [.ref q_text, .int v_size, .int v_at, .ref q_read, .ref q_l, .ref q_stands, .ref q_kept, .int v_keptMany, .ref q_one, .ref q_two, .ref q_ways, .ref q_now, .ref q_then])), (q_l, .inl (ca 0, 336, .inl v_l)), (q_stands, .inl (ca 0, 16, .inl v_stands)), (q_one, .inl (ca 0, 7, .inl o_one)), (q_two, .inl (ca 0, 7, .inl o_two)), (q_ways, .inl (ca 0, 49, .inl o_ways)), (q_now, .inl (ca 1, 81, .inr (.inl o_now))), (q_then, .inl (ca 1, 81, .inr (.inl o_then)))] r) args s 0 0 A = Q
  have k_168 := hts (.constantLong RX10 168 (lN 100)) (by decide +kernel)
  have i_X10 : ∀ w ∈ u_ws RX10 TX10 13, w ∈ wsX10_soon := by decide +kernel
  have k_16 := hts (.fieldLink RX10 16 "TradeWordsModel" "l" "[I") (by decide +kernel)
  rw [D_X10_soon] at h
  refine lv_iload_n hx hb dX10_soon_0 rfl (lv_at hl 1 rfl) ?_
  obtain ⟨r_1, hg_2, h⟩ := bd1_el h
  refine kx_Si (As := [.int p1]) (rest := []) (wr := [(q_this, .inr (8, [.ref q_text, .int v_size, .int v_at, .ref q_read, .ref q_l, .ref q_stands, .ref q_kept, .int v_keptMany, .ref q_one, .ref q_two, .ref q_ways, .ref q_now, .ref q_then])), (q_l, .inl (ca 0, 336, .inl v_l)), (q_stands, .inl (ca 0, 16, .inl v_stands)), (q_one, .inl (ca 0, 7, .inl v_one)), (q_two, .inl (ca 0, 7, .inl v_two)), (q_ways, .inl (ca 0, 49, .inl v_ways)), (q_now, .inl (ca 1, 81, .inr (.inl v_now))), (q_then, .inl (ca 1, 81, .inr (.inl v_then)))]) (w1 := []) (wn := [(q_this, .inr (8, [.ref q_text, .int v_size, .int v_at, .ref q_read, .ref q_l, .ref q_stands, .ref q_kept, .int v_keptMany, .ref q_one, .ref q_two, .ref q_ways, .ref q_now, .ref q_then])), (q_l, .inl (ca 0, 336, .inl v_l)), (q_stands, .inl (ca 0, 16, .inl v_stands)), (q_one, .inl (ca 0, 7, .inl v_one)), (q_two, .inl (ca 0, 7, .inl v_two)), (q_ways, .inl (ca 0, 49, .inl v_ways)), (q_now, .inl (ca 1, 81, .inr (.inl v_now))), (q_then, .inl (ca 1, 81, .inr (.inl v_then)))]) ⟨hx, hb, hml, hown, hts⟩ (c_X10_isMeaning l D ca s.heap.size p1 r_1 hg_2) (va_cwS 1 hts gX10_soon_X10_isMeaning rfl rfl rfl (by decide +kernel) ⟨(Nat.le_of_ble_eq_true rfl), (Nat.le_of_ble_eq_true rfl)⟩) hK hP hD hS hA [] [0, 1, 2, 3, 4, 5, 6, 7] [0, 1, 2, 3, 4, 5, 6, 7] rfl rfl rfl rfl (by decide) rfl rfl rfl hl.1 rfl (Nat.le_of_ble_eq_true rfl) dX10_soon_1 ⟨Nat.zero_le _, Nat.zero_le _⟩ (fun H locs hP hD hS => ?_)
  refine lv_if_eq (tgt := 19) hx hb dX10_soon_4 (by decide) (fun c_3 => ?_) (fun c_3 => ?_)
  · replace h := ifp_el c_3 h
    refine lv_iconst (v := (-1 : Int32)) hx hb dX10_soon_19 (by decide) ?_
    cases h
    rw [← hQe]
    exact W.iret hx hb hr (fun t ht hW => ⟨⟨_, (), rfl, rfl, by rw [ht]; exact hP, va_K.moved hW.alike hK, hD⟩, hS.F ht⟩) hS.2.2 dX10_soon_20
  · replace h := ifn_el c_3 h
    refine lv_iload_n hx hb dX10_soon_7 rfl (lv_at hl 2 rfl) ?_
    refine lv_i2l hx hb dX10_soon_8 rfl ?_
    refine lv_lconst (v := (lN 1)) hx hb dX10_soon_9 (by decide) ?_
    refine lv_ldc2 hx hb hown k_168 dX10_soon_10 ?_
    obtain ⟨r_4, hg_5, h⟩ := bd1_el h
    refine kx_Si (As := [.long p2.toInt64, .long (lN 1), .long (lN 100)]) (rest := []) (wr := [(q_this, .inr (8, [.ref q_text, .int v_size, .int v_at, .ref q_read, .ref q_l, .ref q_stands, .ref q_kept, .int v_keptMany, .ref q_one, .ref q_two, .ref q_ways, .ref q_now, .ref q_then])), (q_l, .inl (ca 0, 336, .inl v_l)), (q_stands, .inl (ca 0, 16, .inl v_stands)), (q_one, .inl (ca 0, 7, .inl v_one)), (q_two, .inl (ca 0, 7, .inl v_two)), (q_ways, .inl (ca 0, 49, .inl v_ways)), (q_now, .inl (ca 1, 81, .inr (.inl v_now))), (q_then, .inl (ca 1, 81, .inr (.inl v_then)))]) (w1 := []) (wn := [(q_this, .inr (8, [.ref q_text, .int v_size, .int v_at, .ref q_read, .ref q_l, .ref q_stands, .ref q_kept, .int v_keptMany, .ref q_one, .ref q_two, .ref q_ways, .ref q_now, .ref q_then])), (q_l, .inl (ca 0, 336, .inl v_l)), (q_stands, .inl (ca 0, 16, .inl v_stands)), (q_one, .inl (ca 0, 7, .inl v_one)), (q_two, .inl (ca 0, 7, .inl v_two)), (q_ways, .inl (ca 0, 49, .inl v_ways)), (q_now, .inl (ca 1, 81, .inr (.inl v_now))), (q_then, .inl (ca 1, 81, .inr (.inl v_then)))]) ⟨hx, hb, hml, hown, hts⟩ (c_X10_in l D ca H.size p2.toInt64 (lN 1) (lN 100) r_4 hg_5) (va_cwS 3 hts gX10_soon_X10_in rfl rfl rfl (by decide +kernel) ⟨(Nat.le_of_ble_eq_true rfl), (Nat.le_of_ble_eq_true rfl)⟩) hK hP hD hS hA [] [0, 1, 2, 3, 4, 5, 6, 7] [0, 1, 2, 3, 4, 5, 6, 7] rfl rfl rfl rfl (by decide) rfl rfl rfl hl.1 rfl (Nat.le_of_ble_eq_true rfl) dX10_soon_13 ⟨Nat.zero_le _, Nat.zero_le _⟩ (fun H locs hP hD hS => ?_)
    refine lv_if_ne (tgt := 21) hx hb dX10_soon_16 (by decide) (fun c_6 => ?_) (fun c_6 => ?_)
    · replace h := ifn_el c_6 h
      refine lv_aload_n hx hb dX10_soon_21 rfl (lv_at hl 0 rfl) ?_
      refine lv_iload_n hx hb dX10_soon_22 rfl (lv_at hl 1 rfl) ?_
      obtain ⟨r_7, hg_8, h⟩ := bd1_el h
      refine kx_Vi (As := [.int p1]) (rest := []) (wr := [(q_stands, .inl (ca 0, 16, .inl v_stands)), (q_one, .inl (ca 0, 7, .inl v_one)), (q_two, .inl (ca 0, 7, .inl v_two)), (q_ways, .inl (ca 0, 49, .inl v_ways)), (q_now, .inl (ca 1, 81, .inr (.inl v_now))), (q_then, .inl (ca 1, 81, .inr (.inl v_then)))]) (w1 := [(q_this, .inr (8, [.ref q_text, .int v_size, .int v_at, .ref q_read, .ref q_l, .ref q_stands, .ref q_kept, .int v_keptMany, .ref q_one, .ref q_two, .ref q_ways, .ref q_now, .ref q_then])), (q_l, .inl (ca 0, 336, .inl v_l))]) (wn := [(q_this, .inr (8, [.ref q_text, .int v_size, .int v_at, .ref q_read, .ref q_l, .ref q_stands, .ref q_kept, .int v_keptMany, .ref q_one, .ref q_two, .ref q_ways, .ref q_now, .ref q_then])), (q_l, .inl (ca 0, 336, .inl v_l)), (q_stands, .inl (ca 0, 16, .inl v_stands)), (q_one, .inl (ca 0, 7, .inl v_one)), (q_two, .inl (ca 0, 7, .inl v_two)), (q_ways, .inl (ca 0, 49, .inl v_ways)), (q_now, .inl (ca 1, 81, .inr (.inl v_now))), (q_then, .inl (ca 1, 81, .inr (.inl v_then)))]) ⟨hx, hb, hml, hown, hts⟩ (c_X10_isTold l D ca H.size q_this q_text q_read q_l q_stands q_kept q_one q_two q_ways q_now q_then p1 v_size v_at v_keptMany v_l r_7 hg_8) (cwV 1 hts gX10_soon_X10_isTold rfl rfl rfl (by decide +kernel) ⟨(Nat.le_of_ble_eq_true rfl), (Nat.le_of_ble_eq_true rfl)⟩) hK hP hD hS hA (ci := 8) (q0 := 0) rfl rfl [0, 1] [2, 3, 4, 5, 6, 7] [6, 7, 0, 1, 2, 3, 4, 5] rfl rfl rfl rfl (by decide) rfl rfl rfl hl.1 rfl (Nat.le_of_ble_eq_true rfl) dX10_soon_23 ⟨Nat.zero_le _, Nat.zero_le _⟩ (fun H locs hP hD hS => ?_)
      refine lv_if_ne (tgt := 32) hx hb dX10_soon_26 (by decide) (fun c_9 => ?_) (fun c_9 => ?_)
      · replace h := ifn_el c_9 h
        refine lv_aload_n hx hb dX10_soon_32 rfl (lv_at hl 0 rfl) ?_
        refine lv_iload_n hx hb dX10_soon_33 rfl (lv_at hl 1 rfl) ?_
        refine lv_iconst (v := (nI 0)) hx hb dX10_soon_34 (by decide) ?_
        obtain ⟨y_one_10, y_two_11, y_ways_12, y_now_13, y_then_14, hg_15, h⟩ := bd5_el h
        refine kx_Vv (As := [.int p1, .int (nI 0)]) (rest := []) (wr := []) (w1 := [(q_this, .inr (8, [.ref q_text, .int v_size, .int v_at, .ref q_read, .ref q_l, .ref q_stands, .ref q_kept, .int v_keptMany, .ref q_one, .ref q_two, .ref q_ways, .ref q_now, .ref q_then])), (q_l, .inl (ca 0, 336, .inl v_l)), (q_stands, .inl (ca 0, 16, .inl v_stands)), (q_one, .inl (ca 0, 7, .inl y_one_10)), (q_two, .inl (ca 0, 7, .inl y_two_11)), (q_ways, .inl (ca 0, 49, .inl y_ways_12)), (q_now, .inl (ca 1, 81, .inr (.inl y_now_13))), (q_then, .inl (ca 1, 81, .inr (.inl y_then_14)))]) (wn := [(q_this, .inr (8, [.ref q_text, .int v_size, .int v_at, .ref q_read, .ref q_l, .ref q_stands, .ref q_kept, .int v_keptMany, .ref q_one, .ref q_two, .ref q_ways, .ref q_now, .ref q_then])), (q_l, .inl (ca 0, 336, .inl v_l)), (q_stands, .inl (ca 0, 16, .inl v_stands)), (q_one, .inl (ca 0, 7, .inl y_one_10)), (q_two, .inl (ca 0, 7, .inl y_two_11)), (q_ways, .inl (ca 0, 49, .inl y_ways_12)), (q_now, .inl (ca 1, 81, .inr (.inl y_now_13))), (q_then, .inl (ca 1, 81, .inr (.inl y_then_14)))]) ⟨hx, hb, hml, hown, hts⟩ (c_X10_goAsTold l D ca F H.size q_this q_text q_read q_l q_stands q_kept q_one q_two q_ways q_now q_then p1 (nI 0) v_size v_at v_keptMany v_l v_stands v_one v_two v_ways v_now v_then y_one_10 y_two_11 y_ways_12 y_now_13 y_then_14 hg_15) (cwV 2 hts gX10_soon_X10_goAsTold rfl rfl rfl (by decide +kernel) ⟨(Nat.le_of_ble_eq_true rfl), (Nat.le_of_ble_eq_true rfl)⟩) hK hP hD hS hA (ci := 8) (q0 := 0) rfl rfl [0, 1, 2, 3, 4, 5, 6, 7] [] [0, 1, 2, 3, 4, 5, 6, 7] rfl rfl rfl rfl (by decide) rfl rfl rfl hl.1 rfl (Nat.le_of_ble_eq_true rfl) dX10_soon_35 ⟨Nat.zero_le _, Nat.zero_le _⟩ (fun H locs hP hD hS => ?_)
        refine lv_iconst (v := (nI 0)) hx hb dX10_soon_38 (by decide) ?_
        refine lv_istore_n (lv' := [(3, .int (nI 0)), (0, .ref q_this), (1, .int p1), (2, .int p2)]) hx hb dX10_soon_39 rfl hl (by decide) rfl (fun ls hl => ?_)
        have hlp : ∀ (n : Nat) (x3_16 : Int32) (y_one_17 : Nat → Int32) (y_two_18 : Nat → Int32) (y_ways_19 : Nat → Int32) (y_now_20 : Nat → Int64) (y_then_21 : Nat → Int64) (H : Heap) (locs : List Loc) (ls : Array Slot), lpg (T := Int32 → (Nat → Int32) → (Nat → Int32) → (Nat → Int32) → (Nat → Int64) → (Nat → Int64) → Option (Int32 × (Nat → Int32) × (Nat → Int32) × (Nat → Int32) × (Nat → Int64) × (Nat → Int64))) (fun _ _ _ _ _ _ => none) (b_X10_soon_40 p1 p2 v_l F) n x3_16 y_one_17 y_two_18 y_ways_19 y_now_20 y_then_21 = some (r, o_one, o_two, o_ways, o_now, o_then) → va_P D vwCl [(q_this, .inr (8, [.ref q_text, .int v_size, .int v_at, .ref q_read, .ref q_l, .ref q_stands, .ref q_kept, .int v_keptMany, .ref q_one, .ref q_two, .ref q_ways, .ref q_now, .ref q_then])), (q_l, .inl (ca 0, 336, .inl v_l)), (q_stands, .inl (ca 0, 16, .inl v_stands)), (q_one, .inl (ca 0, 7, .inl y_one_17)), (q_two, .inl (ca 0, 7, .inl y_two_18)), (q_ways, .inl (ca 0, 49, .inl y_ways_19)), (q_now, .inl (ca 1, 81, .inr (.inl y_now_20))), (q_then, .inl (ca 1, 81, .inr (.inl y_then_21)))] H → va_D A [(q_this, .inr (8, [.ref q_text, .int v_size, .int v_at, .ref q_read, .ref q_l, .ref q_stands, .ref q_kept, .int v_keptMany, .ref q_one, .ref q_two, .ref q_ways, .ref q_now, .ref q_then])), (q_l, .inl (ca 0, 336, .inl v_l)), (q_stands, .inl (ca 0, 16, .inl v_stands)), (q_one, .inl (ca 0, 7, .inl y_one_17)), (q_two, .inl (ca 0, 7, .inl y_two_18)), (q_ways, .inl (ca 0, 49, .inl y_ways_19)), (q_now, .inl (ca 1, 81, .inr (.inl y_now_20))), (q_then, .inl (ca 1, 81, .inr (.inl y_then_21)))] → va_S A s.heap H locs → lv_has ls 4 [(0, .ref q_this), (1, .int p1), (2, .int p2), (3, .int x3_16)] → W p l e (headSpec wsX10_soon rm_X10_soon).room s m args below meth c H locs 0 0 Q (F0 m 40 ls []) := by
          intro n
          induction n with
          | zero => intro x3_16 y_one_17 y_two_18 y_ways_19 y_now_20 y_then_21 H locs ls h; have h : (none : Option (Int32 × (Nat → Int32) × (Nat → Int32) × (Nat → Int32) × (Nat → Int64) × (Nat → Int64))) = some _ := h; cases h
          | succ n ih =>
            intro x3_16 y_one_17 y_two_18 y_ways_19 y_now_20 y_then_21 H locs ls h hP hD hS hl
            rw [lpg_succ, b_X10_soon_40] at h
            refine lv_iload_n hx hb dX10_soon_40 rfl (lv_at hl 3 rfl) ?_
            refine lv_sipush (v := (nI 200)) hx hb dX10_soon_41 (by decide) ?_
            refine lv_icmp_gt (tgt := 143) hx hb dX10_soon_44 (by decide) (fun c_22 => ?_) (fun c_22 => ?_)
            · replace h := ifp_el c_22 h
              refine lv_bipush (v := (-4 : Int32)) hx hb dX10_soon_143 (by decide) ?_
              cases h
              rw [← hQe]
              exact W.iret hx hb hr (fun t ht hW => ⟨⟨_, (), rfl, rfl, by rw [ht]; exact hP, va_K.moved hW.alike hK, hD⟩, hS.F ht⟩) hS.2.2 dX10_soon_145
            · replace h := ifn_el c_22 h
              refine lv_aload_n hx hb dX10_soon_47 rfl (lv_at hl 0 rfl) ?_
              refine lv_iconst (v := (nI 0)) hx hb dX10_soon_48 (by decide) ?_
              refine lv_aload_n hx hb dX10_soon_49 rfl (lv_at hl 0 rfl) ?_
              refine va_get (D := D) (ci := 8) (v := .ref q_l) (C := RX10) (T := TX10) (N := 13) hx hb hts i_X10 hown hK hP 0 rfl rfl 4 (by decide) k_16 (fun _ h9 => h9) rfl dX10_soon_50 ?_
              refine lv_sipush (v := (nI 298)) hx hb dX10_soon_53 (by decide) ?_
              obtain ⟨hi_23, h⟩ := ck_el h
              refine va_iald hx hb hK hP 1 0 rfl rfl hi_23 dX10_soon_56 ?_
              refine lv_aload_n hx hb dX10_soon_57 rfl (lv_at hl 0 rfl) ?_
              refine va_get (D := D) (ci := 8) (v := .ref q_l) (C := RX10) (T := TX10) (N := 13) hx hb hts i_X10 hown hK hP 0 rfl rfl 4 (by decide) k_16 (fun _ h9 => h9) rfl dX10_soon_58 ?_
              refine lv_sipush (v := (nI 299)) hx hb dX10_soon_61 (by decide) ?_
              obtain ⟨hi_24, h⟩ := ck_el h
              refine va_iald hx hb hK hP 1 0 rfl rfl hi_24 dX10_soon_64 ?_
              obtain ⟨r_25, hg_26, h⟩ := bd1_el h
              refine kx_Vl (As := [.int (nI 0), .int (v_l (nI 298).toNatClampNeg), .int (v_l (nI 299).toNatClampNeg)]) (rest := []) (wr := [(q_l, .inl (ca 0, 336, .inl v_l)), (q_stands, .inl (ca 0, 16, .inl v_stands)), (q_one, .inl (ca 0, 7, .inl y_one_17)), (q_two, .inl (ca 0, 7, .inl y_two_18)), (q_ways, .inl (ca 0, 49, .inl y_ways_19)), (q_then, .inl (ca 1, 81, .inr (.inl y_then_21)))]) (w1 := [(q_this, .inr (8, [.ref q_text, .int v_size, .int v_at, .ref q_read, .ref q_l, .ref q_stands, .ref q_kept, .int v_keptMany, .ref q_one, .ref q_two, .ref q_ways, .ref q_now, .ref q_then])), (q_now, .inl (ca 1, 81, .inr (.inl y_now_20)))]) (wn := [(q_this, .inr (8, [.ref q_text, .int v_size, .int v_at, .ref q_read, .ref q_l, .ref q_stands, .ref q_kept, .int v_keptMany, .ref q_one, .ref q_two, .ref q_ways, .ref q_now, .ref q_then])), (q_l, .inl (ca 0, 336, .inl v_l)), (q_stands, .inl (ca 0, 16, .inl v_stands)), (q_one, .inl (ca 0, 7, .inl y_one_17)), (q_two, .inl (ca 0, 7, .inl y_two_18)), (q_ways, .inl (ca 0, 49, .inl y_ways_19)), (q_now, .inl (ca 1, 81, .inr (.inl y_now_20))), (q_then, .inl (ca 1, 81, .inr (.inl y_then_21)))]) ⟨hx, hb, hml, hown, hts⟩ (c_X10_wonBy l D ca H.size q_this q_text q_read q_l q_stands q_kept q_one q_two q_ways q_now q_then (nI 0) (v_l (nI 298).toNatClampNeg) (v_l (nI 299).toNatClampNeg) v_size v_at v_keptMany y_now_20 r_25 hg_26) (cwV 3 hts gX10_soon_X10_wonBy rfl rfl rfl (by decide +kernel) ⟨(Nat.le_of_ble_eq_true rfl), (Nat.le_of_ble_eq_true rfl)⟩) hK hP hD hS hA (ci := 8) (q0 := 0) rfl rfl [0, 6] [1, 2, 3, 4, 5, 7] [6, 0, 1, 2, 3, 4, 7, 5] rfl rfl rfl rfl (by decide) rfl rfl rfl hl.1 rfl (Nat.le_of_ble_eq_true rfl) dX10_soon_65 ⟨Nat.zero_le _, Nat.zero_le _⟩ (fun H locs hP hD hS => ?_)
              refine lv_aload_n hx hb dX10_soon_68 rfl (lv_at hl 0 rfl) ?_
              refine lv_iconst (v := (nI 1)) hx hb dX10_soon_69 (by decide) ?_
              refine lv_aload_n hx hb dX10_soon_70 rfl (lv_at hl 0 rfl) ?_
              refine va_get (D := D) (ci := 8) (v := .ref q_l) (C := RX10) (T := TX10) (N := 13) hx hb hts i_X10 hown hK hP 0 rfl rfl 4 (by decide) k_16 (fun _ h9 => h9) rfl dX10_soon_71 ?_
              refine lv_sipush (v := (nI 298)) hx hb dX10_soon_74 (by decide) ?_
              obtain ⟨hi_27, h⟩ := ck_el h
              refine va_iald hx hb hK hP 1 0 rfl rfl hi_27 dX10_soon_77 ?_
              refine lv_aload_n hx hb dX10_soon_78 rfl (lv_at hl 0 rfl) ?_
              refine va_get (D := D) (ci := 8) (v := .ref q_l) (C := RX10) (T := TX10) (N := 13) hx hb hts i_X10 hown hK hP 0 rfl rfl 4 (by decide) k_16 (fun _ h9 => h9) rfl dX10_soon_79 ?_
              refine lv_sipush (v := (nI 299)) hx hb dX10_soon_82 (by decide) ?_
              obtain ⟨hi_28, h⟩ := ck_el h
              refine va_iald hx hb hK hP 1 0 rfl rfl hi_28 dX10_soon_85 ?_
              obtain ⟨r_29, hg_30, h⟩ := bd1_el h
              refine kx_Vl (As := [.int (nI 1), .int (v_l (nI 298).toNatClampNeg), .int (v_l (nI 299).toNatClampNeg)]) (rest := [.long r_25]) (wr := [(q_l, .inl (ca 0, 336, .inl v_l)), (q_stands, .inl (ca 0, 16, .inl v_stands)), (q_one, .inl (ca 0, 7, .inl y_one_17)), (q_two, .inl (ca 0, 7, .inl y_two_18)), (q_ways, .inl (ca 0, 49, .inl y_ways_19)), (q_then, .inl (ca 1, 81, .inr (.inl y_then_21)))]) (w1 := [(q_this, .inr (8, [.ref q_text, .int v_size, .int v_at, .ref q_read, .ref q_l, .ref q_stands, .ref q_kept, .int v_keptMany, .ref q_one, .ref q_two, .ref q_ways, .ref q_now, .ref q_then])), (q_now, .inl (ca 1, 81, .inr (.inl y_now_20)))]) (wn := [(q_this, .inr (8, [.ref q_text, .int v_size, .int v_at, .ref q_read, .ref q_l, .ref q_stands, .ref q_kept, .int v_keptMany, .ref q_one, .ref q_two, .ref q_ways, .ref q_now, .ref q_then])), (q_l, .inl (ca 0, 336, .inl v_l)), (q_stands, .inl (ca 0, 16, .inl v_stands)), (q_one, .inl (ca 0, 7, .inl y_one_17)), (q_two, .inl (ca 0, 7, .inl y_two_18)), (q_ways, .inl (ca 0, 49, .inl y_ways_19)), (q_now, .inl (ca 1, 81, .inr (.inl y_now_20))), (q_then, .inl (ca 1, 81, .inr (.inl y_then_21)))]) ⟨hx, hb, hml, hown, hts⟩ (c_X10_wonBy l D ca H.size q_this q_text q_read q_l q_stands q_kept q_one q_two q_ways q_now q_then (nI 1) (v_l (nI 298).toNatClampNeg) (v_l (nI 299).toNatClampNeg) v_size v_at v_keptMany y_now_20 r_29 hg_30) (cwV 3 hts gX10_soon_X10_wonBy rfl rfl rfl (by decide +kernel) ⟨(Nat.le_of_ble_eq_true rfl), (Nat.le_of_ble_eq_true rfl)⟩) hK hP hD hS hA (ci := 8) (q0 := 0) rfl rfl [0, 6] [1, 2, 3, 4, 5, 7] [6, 0, 1, 2, 3, 4, 7, 5] rfl rfl rfl rfl (by decide) rfl rfl rfl hl.1 rfl (Nat.le_of_ble_eq_true rfl) dX10_soon_86 ⟨Nat.zero_le _, Nat.zero_le _⟩ (fun H locs hP hD hS => ?_)
              refine lv_ladd hx hb dX10_soon_89 ?_
              refine lv_iload_n hx hb dX10_soon_90 rfl (lv_at hl 2 rfl) ?_
              obtain ⟨r_31, hg_32, h⟩ := bd1_el h
              refine kx_Si (As := [.long (r_25 + r_29), .int p2]) (rest := []) (wr := [(q_this, .inr (8, [.ref q_text, .int v_size, .int v_at, .ref q_read, .ref q_l, .ref q_stands, .ref q_kept, .int v_keptMany, .ref q_one, .ref q_two, .ref q_ways, .ref q_now, .ref q_then])), (q_l, .inl (ca 0, 336, .inl v_l)), (q_stands, .inl (ca 0, 16, .inl v_stands)), (q_one, .inl (ca 0, 7, .inl y_one_17)), (q_two, .inl (ca 0, 7, .inl y_two_18)), (q_ways, .inl (ca 0, 49, .inl y_ways_19)), (q_now, .inl (ca 1, 81, .inr (.inl y_now_20))), (q_then, .inl (ca 1, 81, .inr (.inl y_then_21)))]) (w1 := []) (wn := [(q_this, .inr (8, [.ref q_text, .int v_size, .int v_at, .ref q_read, .ref q_l, .ref q_stands, .ref q_kept, .int v_keptMany, .ref q_one, .ref q_two, .ref q_ways, .ref q_now, .ref q_then])), (q_l, .inl (ca 0, 336, .inl v_l)), (q_stands, .inl (ca 0, 16, .inl v_stands)), (q_one, .inl (ca 0, 7, .inl y_one_17)), (q_two, .inl (ca 0, 7, .inl y_two_18)), (q_ways, .inl (ca 0, 49, .inl y_ways_19)), (q_now, .inl (ca 1, 81, .inr (.inl y_now_20))), (q_then, .inl (ca 1, 81, .inr (.inl y_then_21)))]) ⟨hx, hb, hml, hown, hts⟩ (c_X10_isEnough l D ca H.size (r_25 + r_29) p2 r_31 hg_32) (va_cwS 2 hts gX10_soon_X10_isEnough rfl rfl rfl (by decide +kernel) ⟨(Nat.le_of_ble_eq_true rfl), (Nat.le_of_ble_eq_true rfl)⟩) hK hP hD hS hA [] [0, 1, 2, 3, 4, 5, 6, 7] [0, 1, 2, 3, 4, 5, 6, 7] rfl rfl rfl rfl (by decide) rfl rfl rfl hl.1 rfl (Nat.le_of_ble_eq_true rfl) dX10_soon_91 ⟨Nat.zero_le _, Nat.zero_le _⟩ (fun H locs hP hD hS => ?_)
              refine lv_if_eq (tgt := 99) hx hb dX10_soon_94 (by decide) (fun c_33 => ?_) (fun c_33 => ?_)
              · replace h := ifp_el c_33 h
                refine lv_aload_n hx hb dX10_soon_99 rfl (lv_at hl 0 rfl) ?_
                refine lv_iload_n hx hb dX10_soon_100 rfl (lv_at hl 1 rfl) ?_
                refine lv_iconst (v := (nI 1)) hx hb dX10_soon_101 (by decide) ?_
                refine lv_aload_n hx hb dX10_soon_102 rfl (lv_at hl 0 rfl) ?_
                refine va_get (D := D) (ci := 8) (v := .ref q_l) (C := RX10) (T := TX10) (N := 13) hx hb hts i_X10 hown hK hP 0 rfl rfl 4 (by decide) k_16 (fun _ h9 => h9) rfl dX10_soon_103 ?_
                refine lv_sipush (v := (nI 298)) hx hb dX10_soon_106 (by decide) ?_
                obtain ⟨hi_34, h⟩ := ck_el h
                refine va_iald hx hb hK hP 1 0 rfl rfl hi_34 dX10_soon_109 ?_
                refine lv_aload_n hx hb dX10_soon_110 rfl (lv_at hl 0 rfl) ?_
                refine va_get (D := D) (ci := 8) (v := .ref q_l) (C := RX10) (T := TX10) (N := 13) hx hb hts i_X10 hown hK hP 0 rfl rfl 4 (by decide) k_16 (fun _ h9 => h9) rfl dX10_soon_111 ?_
                refine lv_sipush (v := (nI 299)) hx hb dX10_soon_114 (by decide) ?_
                obtain ⟨hi_35, h⟩ := ck_el h
                refine va_iald hx hb hK hP 1 0 rfl rfl hi_35 dX10_soon_117 ?_
                refine lv_aload_n hx hb dX10_soon_118 rfl (lv_at hl 0 rfl) ?_
                refine va_get (D := D) (ci := 8) (v := .ref q_l) (C := RX10) (T := TX10) (N := 13) hx hb hts i_X10 hown hK hP 0 rfl rfl 4 (by decide) k_16 (fun _ h9 => h9) rfl dX10_soon_119 ?_
                refine lv_sipush (v := (nI 300)) hx hb dX10_soon_122 (by decide) ?_
                obtain ⟨hi_36, h⟩ := ck_el h
                refine va_iald hx hb hK hP 1 0 rfl rfl hi_36 dX10_soon_125 ?_
                refine lv_aload_n hx hb dX10_soon_126 rfl (lv_at hl 0 rfl) ?_
                refine va_get (D := D) (ci := 8) (v := .ref q_l) (C := RX10) (T := TX10) (N := 13) hx hb hts i_X10 hown hK hP 0 rfl rfl 4 (by decide) k_16 (fun _ h9 => h9) rfl dX10_soon_127 ?_
                refine lv_sipush (v := (nI 301)) hx hb dX10_soon_130 (by decide) ?_
                obtain ⟨hi_37, h⟩ := ck_el h
                refine va_iald hx hb hK hP 1 0 rfl rfl hi_37 dX10_soon_133 ?_
                obtain ⟨y_one_38, y_two_39, y_ways_40, y_now_41, y_then_42, hg_43, h⟩ := bd5_el h
                refine kx_Vv (As := [.int p1, .int (nI 1), .int (v_l (nI 298).toNatClampNeg), .int (v_l (nI 299).toNatClampNeg), .int (v_l (nI 300).toNatClampNeg), .int (v_l (nI 301).toNatClampNeg)]) (rest := []) (wr := [(q_stands, .inl (ca 0, 16, .inl v_stands))]) (w1 := [(q_this, .inr (8, [.ref q_text, .int v_size, .int v_at, .ref q_read, .ref q_l, .ref q_stands, .ref q_kept, .int v_keptMany, .ref q_one, .ref q_two, .ref q_ways, .ref q_now, .ref q_then])), (q_l, .inl (ca 0, 336, .inl v_l)), (q_one, .inl (ca 0, 7, .inl y_one_38)), (q_two, .inl (ca 0, 7, .inl y_two_39)), (q_ways, .inl (ca 0, 49, .inl y_ways_40)), (q_now, .inl (ca 1, 81, .inr (.inl y_now_41))), (q_then, .inl (ca 1, 81, .inr (.inl y_then_42)))]) (wn := [(q_this, .inr (8, [.ref q_text, .int v_size, .int v_at, .ref q_read, .ref q_l, .ref q_stands, .ref q_kept, .int v_keptMany, .ref q_one, .ref q_two, .ref q_ways, .ref q_now, .ref q_then])), (q_l, .inl (ca 0, 336, .inl v_l)), (q_stands, .inl (ca 0, 16, .inl v_stands)), (q_one, .inl (ca 0, 7, .inl y_one_38)), (q_two, .inl (ca 0, 7, .inl y_two_39)), (q_ways, .inl (ca 0, 49, .inl y_ways_40)), (q_now, .inl (ca 1, 81, .inr (.inl y_now_41))), (q_then, .inl (ca 1, 81, .inr (.inl y_then_42)))]) ⟨hx, hb, hml, hown, hts⟩ (c_X10_goOn l D ca F H.size q_this q_text q_read q_l q_stands q_kept q_one q_two q_ways q_now q_then p1 (nI 1) (v_l (nI 298).toNatClampNeg) (v_l (nI 299).toNatClampNeg) (v_l (nI 300).toNatClampNeg) (v_l (nI 301).toNatClampNeg) v_size v_at v_keptMany v_l y_one_17 y_two_18 y_ways_19 y_now_20 y_then_21 y_one_38 y_two_39 y_ways_40 y_now_41 y_then_42 hg_43) (cwV 6 hts gX10_soon_X10_goOn rfl rfl rfl (by decide +kernel) ⟨(Nat.le_of_ble_eq_true rfl), (Nat.le_of_ble_eq_true rfl)⟩) hK hP hD hS hA (ci := 8) (q0 := 0) rfl rfl [0, 1, 3, 4, 5, 6, 7] [2] [1, 2, 0, 3, 4, 5, 6, 7] rfl rfl rfl rfl (by decide) rfl rfl rfl hl.1 rfl (Nat.le_of_ble_eq_true rfl) dX10_soon_134 ⟨Nat.zero_le _, Nat.zero_le _⟩ (fun H locs hP hD hS => ?_)
                obtain ⟨x3_44, e_45, h⟩ := nm_el h
                refine lv_iinc (v := x3_44) (lv' := [(3, .int x3_44), (0, .ref q_this), (1, .int p1), (2, .int p2)]) hx hb dX10_soon_137 hl (k := 3) rfl (by rw [← e_45]; rfl) (by decide) rfl (fun ls hl => ?_)
                refine lv_goto (tgt := 40) hx hb dX10_soon_140 (by decide) ?_
                exact ih _ _ _ _ _ _ _ _ _ h hP hD hS (lv_sub hl [1, 2, 3, 0] rfl)
              · replace h := ifn_el c_33 h
                refine lv_iload_n hx hb dX10_soon_97 rfl (lv_at hl 3 rfl) ?_
                cases h
                rw [← hQe]
                exact W.iret hx hb hr (fun t ht hW => ⟨⟨_, (), rfl, rfl, by rw [ht]; exact hP, va_K.moved hW.alike hK, hD⟩, hS.F ht⟩) hS.2.2 dX10_soon_98
        exact hlp F (nI 0) y_one_10 y_two_11 y_ways_12 y_now_13 y_then_14 H locs ls h hP hD hS (lv_sub hl [1, 2, 3, 0] rfl)
      · replace h := ifp_el c_9 h
        refine lv_bipush (v := (-2 : Int32)) hx hb dX10_soon_29 (by decide) ?_
        cases h
        rw [← hQe]
        exact W.iret hx hb hr (fun t ht hW => ⟨⟨_, (), rfl, rfl, by rw [ht]; exact hP, va_K.moved hW.alike hK, hD⟩, hS.F ht⟩) hS.2.2 dX10_soon_31
    · replace h := ifp_el c_6 h
      refine lv_iconst (v := (-1 : Int32)) hx hb dX10_soon_19 (by decide) ?_
      cases h
      rw [← hQe]
      exact W.iret hx hb hr (fun t ht hW => ⟨⟨_, (), rfl, rfl, by rw [ht]; exact hP, va_K.moved hW.alike hK, hD⟩, hS.F ht⟩) hS.2.2 dX10_soon_20
def b_X10_use_59 (v_l : Nat → Int32) (y_now_13 : Nat → Int64) (x5_17 : Int32) (rec59 : Int64 → Int32 → Option (Int64)) (x3_21 : Int64) (x6_22 : Int32) : Option (Int64) := ck 336 (nI 299) ((if (v_l (nI 299).toNatClampNeg) < x6_22 then some (x3_21) else ck 336 (nI 298) (ck 81 (((nI 9) * x5_17) + x6_22) (nm (x3_21 + (((((v_l (nI 298).toNatClampNeg) - x5_17) + x6_22).toInt64) * (y_now_13 (((nI 9) * x5_17) + x6_22).toNatClampNeg))) (fun x3_28 => nm (x6_22 + (nI 1)) (fun x6_29 => rec59 x3_28 x6_29))))))
def b_X10_use_43 (v_l : Nat → Int32) (F : Nat) (y_now_13 : Nat → Int64) (rec43 : Int64 → Int32 → Option (Int64)) (x3_16 : Int64) (x5_17 : Int32) : Option (Int64) := ck 336 (nI 298) ((if (v_l (nI 298).toNatClampNeg) < x5_17 then some (x3_16) else bd1 (lpg (T := Int64 → Int32 → Option (Int64)) (fun _ _ => none) (b_X10_use_59 v_l y_now_13 x5_17) F x3_16 (nI 0)) (fun o_23 => nm (x5_17 + (nI 1)) (fun x5_31 => rec43 o_23 x5_31))))
def D_X10_use (F : Nat) (p1 : Int32) (p2 : Int32) (v_l : Nat → Int32) (v_stands : Nat → Int32) (v_one : Nat → Int32) (v_two : Nat → Int32) (v_ways : Nat → Int32) (v_now : Nat → Int64) (v_then : Nat → Int64) : Option (Int32 × (Nat → Int32) × (Nat → Int32) × (Nat → Int32) × (Nat → Int64) × (Nat → Int64)) := bd1 (D_X10_isMeaning p1) (fun r_1 => (if r_1 = 0 then some ((-1 : Int32), v_one, v_two, v_ways, v_now, v_then) else bd1 (D_X10_in p2.toInt64 (lN 0) (lN 200)) (fun r_4 => (if r_4 = 0 then some ((-1 : Int32), v_one, v_two, v_ways, v_now, v_then) else bd1 (D_X10_isTold p1 v_l) (fun r_7 => (if r_7 = 0 then some ((-2 : Int32), v_one, v_two, v_ways, v_now, v_then) else bd5 (D_X10_goAsTold F p1 p2 v_l v_stands v_one v_two v_ways v_now v_then) (fun y_one_10 y_two_11 y_ways_12 y_now_13 y_then_14 => bd1 (lpg (T := Int64 → Int32 → Option (Int64)) (fun _ _ => none) (b_X10_use_43 v_l F y_now_13) F (lN 0) (nI 0)) (fun o_18 => some ((o_18 / (lN 1000)).toInt32, y_one_10, y_two_11, y_ways_12, y_now_13, y_then_14)))))))))
abbrev rm_X10_use : Room := { frames := 7, cells := 0, slots := 0, locals := 163 }
set_option maxHeartbeats 4000000 in
set_option maxRecDepth 100000 in
theorem c_X10_use (l : Launch) (D : va_G) (ca : Nat → ClassId) (F : Nat) (sz : Nat) (q_this q_text q_read q_l q_stands q_kept q_one q_two q_ways q_now q_then : Nat) (p1 : Int32) (p2 : Int32) (v_size : Int32) (v_at : Int32) (v_keptMany : Int32) (v_l : Nat → Int32) (v_stands : Nat → Int32) (v_one : Nat → Int32) (v_two : Nat → Int32) (v_ways : Nat → Int32) (v_now : Nat → Int64) (v_then : Nat → Int64) (r : Int32) (o_one : Nat → Int32) (o_two : Nat → Int32) (o_ways : Nat → Int32) (o_now : Nat → Int64) (o_then : Nat → Int64) (h : D_X10_use F p1 p2 v_l v_stands v_one v_two v_ways v_now v_then = some (r, o_one, o_two, o_ways, o_now, o_then)) : Met l yX10_use wsX10_use rm_X10_use (va_Pc [.ref q_this, .int p1, .int p2] (kPre D ca [(q_this, .inr (8, [.ref q_text, .int v_size, .int v_at, .ref q_read, .ref q_l, .ref q_stands, .ref q_kept, .int v_keptMany, .ref q_one, .ref q_two, .ref q_ways, .ref q_now, .ref q_then])), (q_l, .inl (ca 0, 336, .inl v_l)), (q_stands, .inl (ca 0, 16, .inl v_stands)), (q_one, .inl (ca 0, 7, .inl v_one)), (q_two, .inl (ca 0, 7, .inl v_two)), (q_ways, .inl (ca 0, 49, .inl v_ways)), (q_now, .inl (ca 1, 81, .inr (.inl v_now))), (q_then, .inl (ca 1, 81, .inr (.inl v_then)))] sz)) (kQi D ca (va_A [(q_this, .inr (8, [.ref q_text, .int v_size, .int v_at, .ref q_read, .ref q_l, .ref q_stands, .ref q_kept, .int v_keptMany, .ref q_one, .ref q_two, .ref q_ways, .ref q_now, .ref q_then])), (q_l, .inl (ca 0, 336, .inl v_l)), (q_stands, .inl (ca 0, 16, .inl v_stands)), (q_one, .inl (ca 0, 7, .inl v_one)), (q_two, .inl (ca 0, 7, .inl v_two)), (q_ways, .inl (ca 0, 49, .inl v_ways)), (q_now, .inl (ca 1, 81, .inr (.inl v_now))), (q_then, .inl (ca 1, 81, .inr (.inl v_then)))] sz) [(q_this, .inr (8, [.ref q_text, .int v_size, .int v_at, .ref q_read, .ref q_l, .ref q_stands, .ref q_kept, .int v_keptMany, .ref q_one, .ref q_two, .ref q_ways, .ref q_now, .ref q_then])), (q_l, .inl (ca 0, 336, .inl v_l)), (q_stands, .inl (ca 0, 16, .inl v_stands)), (q_one, .inl (ca 0, 7, .inl o_one)), (q_two, .inl (ca 0, 7, .inl o_two)), (q_ways, .inl (ca 0, 49, .inl o_ways)), (q_now, .inl (ca 1, 81, .inr (.inl o_now))), (q_then, .inl (ca 1, 81, .inr (.inl o_then)))] r) 0 0 (va_A [(q_this, .inr (8, [.ref q_text, .int v_size, .int v_at, .ref q_read, .ref q_l, .ref q_stands, .ref q_kept, .int v_keptMany, .ref q_one, .ref q_two, .ref q_ways, .ref q_now, .ref q_then])), (q_l, .inl (ca 0, 336, .inl v_l)), (q_stands, .inl (ca 0, 16, .inl v_stands)), (q_one, .inl (ca 0, 7, .inl v_one)), (q_two, .inl (ca 0, 7, .inl v_two)), (q_ways, .inl (ca 0, 49, .inl v_ways)), (q_now, .inl (ca 1, 81, .inr (.inl v_now))), (q_then, .inl (ca 1, 81, .inr (.inl v_then)))] sz) := by
  refine Met.ofW (cc := cX10_use) (maxL := 7) (ret := (some .int)) (by decide +kernel) rfl ?_
  intro p e s m args below meth c s₁ B hml hv
  obtain ⟨rfl, hsz, hP, hK, hD0⟩ := hv
  have hx := B.exec
  have hb := B.bytes
  have hr := B.returns
  have hts := atoms_spec (ws := wsX10_use) B.pre
  have hown : s.vm.findClass RX10 = some m.cls := findClass_of_methodNamed B.named
  have hlocks := B.notSynchronized
  clear B
  subst hsz
  have hD := hD0.self (sz := s.heap.size)
  generalize hAe : va_A [(q_this, .inr (8, [.ref q_text, .int v_size, .int v_at, .ref q_read, .ref q_l, .ref q_stands, .ref q_kept, .int v_keptMany, .ref q_one, .ref q_two, .ref q_ways, .ref q_now, .ref q_then])), (q_l, .inl (ca 0, 336, .inl v_l)), (q_stands, .inl (ca 0, 16, .inl v_stands)), (q_one, .inl (ca 0, 7, .inl v_one)), (q_two, .inl (ca 0, 7, .inl v_two)), (q_ways, .inl (ca 0, 49, .inl v_ways)), (q_now, .inl (ca 1, 81, .inr (.inl v_now))), (q_then, .inl (ca 1, 81, .inr (.inl v_then)))] s.heap.size = A at hD ⊢
  have hA : ∀ q : Nat, s.heap.size ≤ q → A q := fun q h => by rw [← hAe]; exact Or.inr h
  have hS : va_S A s.heap s.heap [] := va_S.rf
  have hl := lv_entry ([.ref q_this, .int p1, .int p2]) (n := 7) (Nat.le_of_ble_eq_true rfl)
  rw [lg_entry_eq]
  generalize (lg_sl ([.ref q_this, .int p1, .int p2]) ++ List.replicate (7 - (lg_sl ([.ref q_this, .int p1, .int p2])).length) Slot.unset).toArray = ls at hl ⊢
  have hl : lv_has ls 7 [(0, .ref q_this), (1, .int p1), (2, .int p2)] := hl
  generalize ([.ref q_this, .int p1, .int p2] : List Value).toArray = args at hts ⊢
  generalize hQe : MQ below (kQi D ca (A) [(q_this, .inr (8, [.ref q_text, .int v_size, .int v_at, .ref q_read, .ref q_l, .ref q_stands, .ref q_kept, .int v_keptMany, .ref q_one, .ref q_two, .ref q_ways, .ref q_now, .ref q_then])), (q_l, .inl (ca 0, 336, .inl v_l)), (q_stands, .inl (ca 0, 16, .inl v_stands)), (q_one, .inl (ca 0, 7, .inl o_one)), (q_two, .inl (ca 0, 7, .inl o_two)), (q_ways, .inl (ca 0, 49, .inl o_ways)), (q_now, .inl (ca 1, 81, .inr (.inl o_now))), (q_then, .inl (ca 1, 81, .inr (.inl o_then)))] r) args s 0 0 A = Q
  have k_188 := hts (.constantLong RX10 188 (lN 200)) (by decide +kernel)
  have i_X10 : ∀ w ∈ u_ws RX10 TX10 13, w ∈ wsX10_use := by decide +kernel
  have k_16 := hts (.fieldLink RX10 16 "TradeWordsModel" "l" "[I") (by decide +kernel)
  have k_34 := hts (.fieldLink RX10 34 "TradeWordsModel" "now" "[J") (by decide +kernel)
  have k_201 := hts (.constantLong RX10 201 (lN 1000)) (by decide +kernel)
  rw [D_X10_use] at h
  refine lv_iload_n hx hb dX10_use_0 rfl (lv_at hl 1 rfl) ?_
  obtain ⟨r_1, hg_2, h⟩ := bd1_el h
  refine kx_Si (As := [.int p1]) (rest := []) (wr := [(q_this, .inr (8, [.ref q_text, .int v_size, .int v_at, .ref q_read, .ref q_l, .ref q_stands, .ref q_kept, .int v_keptMany, .ref q_one, .ref q_two, .ref q_ways, .ref q_now, .ref q_then])), (q_l, .inl (ca 0, 336, .inl v_l)), (q_stands, .inl (ca 0, 16, .inl v_stands)), (q_one, .inl (ca 0, 7, .inl v_one)), (q_two, .inl (ca 0, 7, .inl v_two)), (q_ways, .inl (ca 0, 49, .inl v_ways)), (q_now, .inl (ca 1, 81, .inr (.inl v_now))), (q_then, .inl (ca 1, 81, .inr (.inl v_then)))]) (w1 := []) (wn := [(q_this, .inr (8, [.ref q_text, .int v_size, .int v_at, .ref q_read, .ref q_l, .ref q_stands, .ref q_kept, .int v_keptMany, .ref q_one, .ref q_two, .ref q_ways, .ref q_now, .ref q_then])), (q_l, .inl (ca 0, 336, .inl v_l)), (q_stands, .inl (ca 0, 16, .inl v_stands)), (q_one, .inl (ca 0, 7, .inl v_one)), (q_two, .inl (ca 0, 7, .inl v_two)), (q_ways, .inl (ca 0, 49, .inl v_ways)), (q_now, .inl (ca 1, 81, .inr (.inl v_now))), (q_then, .inl (ca 1, 81, .inr (.inl v_then)))]) ⟨hx, hb, hml, hown, hts⟩ (c_X10_isMeaning l D ca s.heap.size p1 r_1 hg_2) (va_cwS 1 hts gX10_use_X10_isMeaning rfl rfl rfl (by decide +kernel) ⟨(Nat.le_of_ble_eq_true rfl), (Nat.le_of_ble_eq_true rfl)⟩) hK hP hD hS hA [] [0, 1, 2, 3, 4, 5, 6, 7] [0, 1, 2, 3, 4, 5, 6, 7] rfl rfl rfl rfl (by decide) rfl rfl rfl hl.1 rfl (Nat.le_of_ble_eq_true rfl) dX10_use_1 ⟨Nat.zero_le _, Nat.zero_le _⟩ (fun H locs hP hD hS => ?_)
  refine lv_if_eq (tgt := 19) hx hb dX10_use_4 (by decide) (fun c_3 => ?_) (fun c_3 => ?_)
  · replace h := ifp_el c_3 h
    refine lv_iconst (v := (-1 : Int32)) hx hb dX10_use_19 (by decide) ?_
    cases h
    rw [← hQe]
    exact W.iret hx hb hr (fun t ht hW => ⟨⟨_, (), rfl, rfl, by rw [ht]; exact hP, va_K.moved hW.alike hK, hD⟩, hS.F ht⟩) hS.2.2 dX10_use_20
  · replace h := ifn_el c_3 h
    refine lv_iload_n hx hb dX10_use_7 rfl (lv_at hl 2 rfl) ?_
    refine lv_i2l hx hb dX10_use_8 rfl ?_
    refine lv_lconst (v := (lN 0)) hx hb dX10_use_9 (by decide) ?_
    refine lv_ldc2 hx hb hown k_188 dX10_use_10 ?_
    obtain ⟨r_4, hg_5, h⟩ := bd1_el h
    refine kx_Si (As := [.long p2.toInt64, .long (lN 0), .long (lN 200)]) (rest := []) (wr := [(q_this, .inr (8, [.ref q_text, .int v_size, .int v_at, .ref q_read, .ref q_l, .ref q_stands, .ref q_kept, .int v_keptMany, .ref q_one, .ref q_two, .ref q_ways, .ref q_now, .ref q_then])), (q_l, .inl (ca 0, 336, .inl v_l)), (q_stands, .inl (ca 0, 16, .inl v_stands)), (q_one, .inl (ca 0, 7, .inl v_one)), (q_two, .inl (ca 0, 7, .inl v_two)), (q_ways, .inl (ca 0, 49, .inl v_ways)), (q_now, .inl (ca 1, 81, .inr (.inl v_now))), (q_then, .inl (ca 1, 81, .inr (.inl v_then)))]) (w1 := []) (wn := [(q_this, .inr (8, [.ref q_text, .int v_size, .int v_at, .ref q_read, .ref q_l, .ref q_stands, .ref q_kept, .int v_keptMany, .ref q_one, .ref q_two, .ref q_ways, .ref q_now, .ref q_then])), (q_l, .inl (ca 0, 336, .inl v_l)), (q_stands, .inl (ca 0, 16, .inl v_stands)), (q_one, .inl (ca 0, 7, .inl v_one)), (q_two, .inl (ca 0, 7, .inl v_two)), (q_ways, .inl (ca 0, 49, .inl v_ways)), (q_now, .inl (ca 1, 81, .inr (.inl v_now))), (q_then, .inl (ca 1, 81, .inr (.inl v_then)))]) ⟨hx, hb, hml, hown, hts⟩ (c_X10_in l D ca H.size p2.toInt64 (lN 0) (lN 200) r_4 hg_5) (va_cwS 3 hts gX10_use_X10_in rfl rfl rfl (by decide +kernel) ⟨(Nat.le_of_ble_eq_true rfl), (Nat.le_of_ble_eq_true rfl)⟩) hK hP hD hS hA [] [0, 1, 2, 3, 4, 5, 6, 7] [0, 1, 2, 3, 4, 5, 6, 7] rfl rfl rfl rfl (by decide) rfl rfl rfl hl.1 rfl (Nat.le_of_ble_eq_true rfl) dX10_use_13 ⟨Nat.zero_le _, Nat.zero_le _⟩ (fun H locs hP hD hS => ?_)
    refine lv_if_ne (tgt := 21) hx hb dX10_use_16 (by decide) (fun c_6 => ?_) (fun c_6 => ?_)
    · replace h := ifn_el c_6 h
      refine lv_aload_n hx hb dX10_use_21 rfl (lv_at hl 0 rfl) ?_
      refine lv_iload_n hx hb dX10_use_22 rfl (lv_at hl 1 rfl) ?_
      obtain ⟨r_7, hg_8, h⟩ := bd1_el h
      refine kx_Vi (As := [.int p1]) (rest := []) (wr := [(q_stands, .inl (ca 0, 16, .inl v_stands)), (q_one, .inl (ca 0, 7, .inl v_one)), (q_two, .inl (ca 0, 7, .inl v_two)), (q_ways, .inl (ca 0, 49, .inl v_ways)), (q_now, .inl (ca 1, 81, .inr (.inl v_now))), (q_then, .inl (ca 1, 81, .inr (.inl v_then)))]) (w1 := [(q_this, .inr (8, [.ref q_text, .int v_size, .int v_at, .ref q_read, .ref q_l, .ref q_stands, .ref q_kept, .int v_keptMany, .ref q_one, .ref q_two, .ref q_ways, .ref q_now, .ref q_then])), (q_l, .inl (ca 0, 336, .inl v_l))]) (wn := [(q_this, .inr (8, [.ref q_text, .int v_size, .int v_at, .ref q_read, .ref q_l, .ref q_stands, .ref q_kept, .int v_keptMany, .ref q_one, .ref q_two, .ref q_ways, .ref q_now, .ref q_then])), (q_l, .inl (ca 0, 336, .inl v_l)), (q_stands, .inl (ca 0, 16, .inl v_stands)), (q_one, .inl (ca 0, 7, .inl v_one)), (q_two, .inl (ca 0, 7, .inl v_two)), (q_ways, .inl (ca 0, 49, .inl v_ways)), (q_now, .inl (ca 1, 81, .inr (.inl v_now))), (q_then, .inl (ca 1, 81, .inr (.inl v_then)))]) ⟨hx, hb, hml, hown, hts⟩ (c_X10_isTold l D ca H.size q_this q_text q_read q_l q_stands q_kept q_one q_two q_ways q_now q_then p1 v_size v_at v_keptMany v_l r_7 hg_8) (cwV 1 hts gX10_use_X10_isTold rfl rfl rfl (by decide +kernel) ⟨(Nat.le_of_ble_eq_true rfl), (Nat.le_of_ble_eq_true rfl)⟩) hK hP hD hS hA (ci := 8) (q0 := 0) rfl rfl [0, 1] [2, 3, 4, 5, 6, 7] [6, 7, 0, 1, 2, 3, 4, 5] rfl rfl rfl rfl (by decide) rfl rfl rfl hl.1 rfl (Nat.le_of_ble_eq_true rfl) dX10_use_23 ⟨Nat.zero_le _, Nat.zero_le _⟩ (fun H locs hP hD hS => ?_)
      refine lv_if_ne (tgt := 32) hx hb dX10_use_26 (by decide) (fun c_9 => ?_) (fun c_9 => ?_)
      · replace h := ifn_el c_9 h
        refine lv_aload_n hx hb dX10_use_32 rfl (lv_at hl 0 rfl) ?_
        refine lv_iload_n hx hb dX10_use_33 rfl (lv_at hl 1 rfl) ?_
        refine lv_iload_n hx hb dX10_use_34 rfl (lv_at hl 2 rfl) ?_
        obtain ⟨y_one_10, y_two_11, y_ways_12, y_now_13, y_then_14, hg_15, h⟩ := bd5_el h
        refine kx_Vv (As := [.int p1, .int p2]) (rest := []) (wr := []) (w1 := [(q_this, .inr (8, [.ref q_text, .int v_size, .int v_at, .ref q_read, .ref q_l, .ref q_stands, .ref q_kept, .int v_keptMany, .ref q_one, .ref q_two, .ref q_ways, .ref q_now, .ref q_then])), (q_l, .inl (ca 0, 336, .inl v_l)), (q_stands, .inl (ca 0, 16, .inl v_stands)), (q_one, .inl (ca 0, 7, .inl y_one_10)), (q_two, .inl (ca 0, 7, .inl y_two_11)), (q_ways, .inl (ca 0, 49, .inl y_ways_12)), (q_now, .inl (ca 1, 81, .inr (.inl y_now_13))), (q_then, .inl (ca 1, 81, .inr (.inl y_then_14)))]) (wn := [(q_this, .inr (8, [.ref q_text, .int v_size, .int v_at, .ref q_read, .ref q_l, .ref q_stands, .ref q_kept, .int v_keptMany, .ref q_one, .ref q_two, .ref q_ways, .ref q_now, .ref q_then])), (q_l, .inl (ca 0, 336, .inl v_l)), (q_stands, .inl (ca 0, 16, .inl v_stands)), (q_one, .inl (ca 0, 7, .inl y_one_10)), (q_two, .inl (ca 0, 7, .inl y_two_11)), (q_ways, .inl (ca 0, 49, .inl y_ways_12)), (q_now, .inl (ca 1, 81, .inr (.inl y_now_13))), (q_then, .inl (ca 1, 81, .inr (.inl y_then_14)))]) ⟨hx, hb, hml, hown, hts⟩ (c_X10_goAsTold l D ca F H.size q_this q_text q_read q_l q_stands q_kept q_one q_two q_ways q_now q_then p1 p2 v_size v_at v_keptMany v_l v_stands v_one v_two v_ways v_now v_then y_one_10 y_two_11 y_ways_12 y_now_13 y_then_14 hg_15) (cwV 2 hts gX10_use_X10_goAsTold rfl rfl rfl (by decide +kernel) ⟨(Nat.le_of_ble_eq_true rfl), (Nat.le_of_ble_eq_true rfl)⟩) hK hP hD hS hA (ci := 8) (q0 := 0) rfl rfl [0, 1, 2, 3, 4, 5, 6, 7] [] [0, 1, 2, 3, 4, 5, 6, 7] rfl rfl rfl rfl (by decide) rfl rfl rfl hl.1 rfl (Nat.le_of_ble_eq_true rfl) dX10_use_35 ⟨Nat.zero_le _, Nat.zero_le _⟩ (fun H locs hP hD hS => ?_)
        refine lv_lconst (v := (lN 0)) hx hb dX10_use_38 (by decide) ?_
        refine lv_lstore_n (lv' := [(3, .long (lN 0)), (0, .ref q_this), (1, .int p1), (2, .int p2)]) hx hb dX10_use_39 rfl hl (by decide) rfl (fun ls hl => ?_)
        refine lv_iconst (v := (nI 0)) hx hb dX10_use_40 (by decide) ?_
        refine lv_istore (lv' := [(5, .int (nI 0)), (3, .long (lN 0)), (0, .ref q_this), (1, .int p1), (2, .int p2)]) hx hb dX10_use_41 hl (by decide) rfl (fun ls hl => ?_)
        obtain ⟨o_18, hL, h⟩ := bd1_el h
        have hex : ∀ (H : Heap) (locs : List Loc) (ls : Array Slot), va_P D vwCl [(q_this, .inr (8, [.ref q_text, .int v_size, .int v_at, .ref q_read, .ref q_l, .ref q_stands, .ref q_kept, .int v_keptMany, .ref q_one, .ref q_two, .ref q_ways, .ref q_now, .ref q_then])), (q_l, .inl (ca 0, 336, .inl v_l)), (q_stands, .inl (ca 0, 16, .inl v_stands)), (q_one, .inl (ca 0, 7, .inl y_one_10)), (q_two, .inl (ca 0, 7, .inl y_two_11)), (q_ways, .inl (ca 0, 49, .inl y_ways_12)), (q_now, .inl (ca 1, 81, .inr (.inl y_now_13))), (q_then, .inl (ca 1, 81, .inr (.inl y_then_14)))] H → va_D A [(q_this, .inr (8, [.ref q_text, .int v_size, .int v_at, .ref q_read, .ref q_l, .ref q_stands, .ref q_kept, .int v_keptMany, .ref q_one, .ref q_two, .ref q_ways, .ref q_now, .ref q_then])), (q_l, .inl (ca 0, 336, .inl v_l)), (q_stands, .inl (ca 0, 16, .inl v_stands)), (q_one, .inl (ca 0, 7, .inl y_one_10)), (q_two, .inl (ca 0, 7, .inl y_two_11)), (q_ways, .inl (ca 0, 49, .inl y_ways_12)), (q_now, .inl (ca 1, 81, .inr (.inl y_now_13))), (q_then, .inl (ca 1, 81, .inr (.inl y_then_14)))] → va_S A s.heap H locs → lv_has ls 7 [(3, .long o_18)] → W p l e (headSpec wsX10_use rm_X10_use).room s m args below meth c H locs 0 0 Q (F0 m 116 ls []) := by
          intro H locs ls hP hD hS hl
          refine lv_lload_n hx hb dX10_use_116 rfl (lv_at hl 0 rfl) ?_
          refine lv_ldc2 hx hb hown k_201 dX10_use_117 ?_
          refine lv_ldiv hx hb dX10_use_120 (by decide) ?_
          refine lv_l2i hx hb dX10_use_121 rfl ?_
          cases h
          rw [← hQe]
          exact W.iret hx hb hr (fun t ht hW => ⟨⟨_, (), rfl, rfl, by rw [ht]; exact hP, va_K.moved hW.alike hK, hD⟩, hS.F ht⟩) hS.2.2 dX10_use_122
        have hlp : ∀ (n : Nat) (x3_16 : Int64) (x5_17 : Int32) (o_18 : Int64) (H : Heap) (locs : List Loc) (ls : Array Slot), lpg (T := Int64 → Int32 → Option (Int64)) (fun _ _ => none) (b_X10_use_43 v_l F y_now_13) n x3_16 x5_17 = some (o_18) → (∀ (H : Heap) (locs : List Loc) (ls : Array Slot), va_P D vwCl [(q_this, .inr (8, [.ref q_text, .int v_size, .int v_at, .ref q_read, .ref q_l, .ref q_stands, .ref q_kept, .int v_keptMany, .ref q_one, .ref q_two, .ref q_ways, .ref q_now, .ref q_then])), (q_l, .inl (ca 0, 336, .inl v_l)), (q_stands, .inl (ca 0, 16, .inl v_stands)), (q_one, .inl (ca 0, 7, .inl y_one_10)), (q_two, .inl (ca 0, 7, .inl y_two_11)), (q_ways, .inl (ca 0, 49, .inl y_ways_12)), (q_now, .inl (ca 1, 81, .inr (.inl y_now_13))), (q_then, .inl (ca 1, 81, .inr (.inl y_then_14)))] H → va_D A [(q_this, .inr (8, [.ref q_text, .int v_size, .int v_at, .ref q_read, .ref q_l, .ref q_stands, .ref q_kept, .int v_keptMany, .ref q_one, .ref q_two, .ref q_ways, .ref q_now, .ref q_then])), (q_l, .inl (ca 0, 336, .inl v_l)), (q_stands, .inl (ca 0, 16, .inl v_stands)), (q_one, .inl (ca 0, 7, .inl y_one_10)), (q_two, .inl (ca 0, 7, .inl y_two_11)), (q_ways, .inl (ca 0, 49, .inl y_ways_12)), (q_now, .inl (ca 1, 81, .inr (.inl y_now_13))), (q_then, .inl (ca 1, 81, .inr (.inl y_then_14)))] → va_S A s.heap H locs → lv_has ls 7 [(3, .long o_18)] → W p l e (headSpec wsX10_use rm_X10_use).room s m args below meth c H locs 0 0 Q (F0 m 116 ls [])) → va_P D vwCl [(q_this, .inr (8, [.ref q_text, .int v_size, .int v_at, .ref q_read, .ref q_l, .ref q_stands, .ref q_kept, .int v_keptMany, .ref q_one, .ref q_two, .ref q_ways, .ref q_now, .ref q_then])), (q_l, .inl (ca 0, 336, .inl v_l)), (q_stands, .inl (ca 0, 16, .inl v_stands)), (q_one, .inl (ca 0, 7, .inl y_one_10)), (q_two, .inl (ca 0, 7, .inl y_two_11)), (q_ways, .inl (ca 0, 49, .inl y_ways_12)), (q_now, .inl (ca 1, 81, .inr (.inl y_now_13))), (q_then, .inl (ca 1, 81, .inr (.inl y_then_14)))] H → va_D A [(q_this, .inr (8, [.ref q_text, .int v_size, .int v_at, .ref q_read, .ref q_l, .ref q_stands, .ref q_kept, .int v_keptMany, .ref q_one, .ref q_two, .ref q_ways, .ref q_now, .ref q_then])), (q_l, .inl (ca 0, 336, .inl v_l)), (q_stands, .inl (ca 0, 16, .inl v_stands)), (q_one, .inl (ca 0, 7, .inl y_one_10)), (q_two, .inl (ca 0, 7, .inl y_two_11)), (q_ways, .inl (ca 0, 49, .inl y_ways_12)), (q_now, .inl (ca 1, 81, .inr (.inl y_now_13))), (q_then, .inl (ca 1, 81, .inr (.inl y_then_14)))] → va_S A s.heap H locs → lv_has ls 7 [(0, .ref q_this), (3, .long x3_16), (5, .int x5_17)] → W p l e (headSpec wsX10_use rm_X10_use).room s m args below meth c H locs 0 0 Q (F0 m 43 ls []) := by
          intro n
          induction n with
          | zero => intro x3_16 x5_17 o_18 H locs ls h; have h : (none : Option (Int64)) = some _ := h; cases h
          | succ n ih =>
            intro x3_16 x5_17 o_18 H locs ls h hex hP hD hS hl
            rw [lpg_succ, b_X10_use_43] at h
            refine lv_iload hx hb dX10_use_43 (lv_at hl 2 rfl) ?_
            refine lv_aload_n hx hb dX10_use_45 rfl (lv_at hl 0 rfl) ?_
            refine va_get (D := D) (ci := 8) (v := .ref q_l) (C := RX10) (T := TX10) (N := 13) hx hb hts i_X10 hown hK hP 0 rfl rfl 4 (by decide) k_16 (fun _ h9 => h9) rfl dX10_use_46 ?_
            refine lv_sipush (v := (nI 298)) hx hb dX10_use_49 (by decide) ?_
            obtain ⟨hi_19, h⟩ := ck_el h
            refine va_iald hx hb hK hP 1 0 rfl rfl hi_19 dX10_use_52 ?_
            refine lv_icmp_gt (tgt := 116) hx hb dX10_use_53 (by decide) (fun c_20 => ?_) (fun c_20 => ?_)
            · replace h := ifp_el c_20 h
              cases h
              exact hex _ _ _ hP hD hS (lv_sub hl [1] rfl)
            · replace h := ifn_el c_20 h
              refine lv_iconst (v := (nI 0)) hx hb dX10_use_56 (by decide) ?_
              refine lv_istore (lv' := [(6, .int (nI 0)), (0, .ref q_this), (3, .long x3_16), (5, .int x5_17)]) hx hb dX10_use_57 hl (by decide) rfl (fun ls hl => ?_)
              obtain ⟨o_23, hL, h⟩ := bd1_el h
              have hex : ∀ (H : Heap) (locs : List Loc) (ls : Array Slot), va_P D vwCl [(q_this, .inr (8, [.ref q_text, .int v_size, .int v_at, .ref q_read, .ref q_l, .ref q_stands, .ref q_kept, .int v_keptMany, .ref q_one, .ref q_two, .ref q_ways, .ref q_now, .ref q_then])), (q_l, .inl (ca 0, 336, .inl v_l)), (q_stands, .inl (ca 0, 16, .inl v_stands)), (q_one, .inl (ca 0, 7, .inl y_one_10)), (q_two, .inl (ca 0, 7, .inl y_two_11)), (q_ways, .inl (ca 0, 49, .inl y_ways_12)), (q_now, .inl (ca 1, 81, .inr (.inl y_now_13))), (q_then, .inl (ca 1, 81, .inr (.inl y_then_14)))] H → va_D A [(q_this, .inr (8, [.ref q_text, .int v_size, .int v_at, .ref q_read, .ref q_l, .ref q_stands, .ref q_kept, .int v_keptMany, .ref q_one, .ref q_two, .ref q_ways, .ref q_now, .ref q_then])), (q_l, .inl (ca 0, 336, .inl v_l)), (q_stands, .inl (ca 0, 16, .inl v_stands)), (q_one, .inl (ca 0, 7, .inl y_one_10)), (q_two, .inl (ca 0, 7, .inl y_two_11)), (q_ways, .inl (ca 0, 49, .inl y_ways_12)), (q_now, .inl (ca 1, 81, .inr (.inl y_now_13))), (q_then, .inl (ca 1, 81, .inr (.inl y_then_14)))] → va_S A s.heap H locs → lv_has ls 7 [(0, .ref q_this), (3, .long o_23), (5, .int x5_17)] → W p l e (headSpec wsX10_use rm_X10_use).room s m args below meth c H locs 0 0 Q (F0 m 110 ls []) := by
                intro H locs ls hP hD hS hl
                obtain ⟨x5_31, e_32, h⟩ := nm_el h
                refine lv_iinc (v := x5_31) (lv' := [(5, .int x5_31), (0, .ref q_this), (3, .long o_23)]) hx hb dX10_use_110 hl (k := 2) rfl (by rw [← e_32]; rfl) (by decide) rfl (fun ls hl => ?_)
                refine lv_goto (tgt := 43) hx hb dX10_use_113 (by decide) ?_
                exact ih _ _ _ _ _ _ h hex hP hD hS (lv_sub hl [1, 2, 0] rfl)
              have hlp : ∀ (n : Nat) (x3_21 : Int64) (x6_22 : Int32) (o_23 : Int64) (H : Heap) (locs : List Loc) (ls : Array Slot), lpg (T := Int64 → Int32 → Option (Int64)) (fun _ _ => none) (b_X10_use_59 v_l y_now_13 x5_17) n x3_21 x6_22 = some (o_23) → (∀ (H : Heap) (locs : List Loc) (ls : Array Slot), va_P D vwCl [(q_this, .inr (8, [.ref q_text, .int v_size, .int v_at, .ref q_read, .ref q_l, .ref q_stands, .ref q_kept, .int v_keptMany, .ref q_one, .ref q_two, .ref q_ways, .ref q_now, .ref q_then])), (q_l, .inl (ca 0, 336, .inl v_l)), (q_stands, .inl (ca 0, 16, .inl v_stands)), (q_one, .inl (ca 0, 7, .inl y_one_10)), (q_two, .inl (ca 0, 7, .inl y_two_11)), (q_ways, .inl (ca 0, 49, .inl y_ways_12)), (q_now, .inl (ca 1, 81, .inr (.inl y_now_13))), (q_then, .inl (ca 1, 81, .inr (.inl y_then_14)))] H → va_D A [(q_this, .inr (8, [.ref q_text, .int v_size, .int v_at, .ref q_read, .ref q_l, .ref q_stands, .ref q_kept, .int v_keptMany, .ref q_one, .ref q_two, .ref q_ways, .ref q_now, .ref q_then])), (q_l, .inl (ca 0, 336, .inl v_l)), (q_stands, .inl (ca 0, 16, .inl v_stands)), (q_one, .inl (ca 0, 7, .inl y_one_10)), (q_two, .inl (ca 0, 7, .inl y_two_11)), (q_ways, .inl (ca 0, 49, .inl y_ways_12)), (q_now, .inl (ca 1, 81, .inr (.inl y_now_13))), (q_then, .inl (ca 1, 81, .inr (.inl y_then_14)))] → va_S A s.heap H locs → lv_has ls 7 [(0, .ref q_this), (3, .long o_23), (5, .int x5_17)] → W p l e (headSpec wsX10_use rm_X10_use).room s m args below meth c H locs 0 0 Q (F0 m 110 ls [])) → va_P D vwCl [(q_this, .inr (8, [.ref q_text, .int v_size, .int v_at, .ref q_read, .ref q_l, .ref q_stands, .ref q_kept, .int v_keptMany, .ref q_one, .ref q_two, .ref q_ways, .ref q_now, .ref q_then])), (q_l, .inl (ca 0, 336, .inl v_l)), (q_stands, .inl (ca 0, 16, .inl v_stands)), (q_one, .inl (ca 0, 7, .inl y_one_10)), (q_two, .inl (ca 0, 7, .inl y_two_11)), (q_ways, .inl (ca 0, 49, .inl y_ways_12)), (q_now, .inl (ca 1, 81, .inr (.inl y_now_13))), (q_then, .inl (ca 1, 81, .inr (.inl y_then_14)))] H → va_D A [(q_this, .inr (8, [.ref q_text, .int v_size, .int v_at, .ref q_read, .ref q_l, .ref q_stands, .ref q_kept, .int v_keptMany, .ref q_one, .ref q_two, .ref q_ways, .ref q_now, .ref q_then])), (q_l, .inl (ca 0, 336, .inl v_l)), (q_stands, .inl (ca 0, 16, .inl v_stands)), (q_one, .inl (ca 0, 7, .inl y_one_10)), (q_two, .inl (ca 0, 7, .inl y_two_11)), (q_ways, .inl (ca 0, 49, .inl y_ways_12)), (q_now, .inl (ca 1, 81, .inr (.inl y_now_13))), (q_then, .inl (ca 1, 81, .inr (.inl y_then_14)))] → va_S A s.heap H locs → lv_has ls 7 [(0, .ref q_this), (3, .long x3_21), (5, .int x5_17), (6, .int x6_22)] → W p l e (headSpec wsX10_use rm_X10_use).room s m args below meth c H locs 0 0 Q (F0 m 59 ls []) := by
                intro n
                induction n with
                | zero => intro x3_21 x6_22 o_23 H locs ls h; have h : (none : Option (Int64)) = some _ := h; cases h
                | succ n ih =>
                  intro x3_21 x6_22 o_23 H locs ls h hex hP hD hS hl
                  rw [lpg_succ, b_X10_use_59] at h
                  refine lv_iload hx hb dX10_use_59 (lv_at hl 3 rfl) ?_
                  refine lv_aload_n hx hb dX10_use_61 rfl (lv_at hl 0 rfl) ?_
                  refine va_get (D := D) (ci := 8) (v := .ref q_l) (C := RX10) (T := TX10) (N := 13) hx hb hts i_X10 hown hK hP 0 rfl rfl 4 (by decide) k_16 (fun _ h9 => h9) rfl dX10_use_62 ?_
                  refine lv_sipush (v := (nI 299)) hx hb dX10_use_65 (by decide) ?_
                  obtain ⟨hi_24, h⟩ := ck_el h
                  refine va_iald hx hb hK hP 1 0 rfl rfl hi_24 dX10_use_68 ?_
                  refine lv_icmp_gt (tgt := 110) hx hb dX10_use_69 (by decide) (fun c_25 => ?_) (fun c_25 => ?_)
                  · replace h := ifp_el c_25 h
                    cases h
                    exact hex _ _ _ hP hD hS (lv_sub hl [0, 1, 2] rfl)
                  · replace h := ifn_el c_25 h
                    refine lv_lload_n hx hb dX10_use_72 rfl (lv_at hl 1 rfl) ?_
                    refine lv_aload_n hx hb dX10_use_73 rfl (lv_at hl 0 rfl) ?_
                    refine va_get (D := D) (ci := 8) (v := .ref q_l) (C := RX10) (T := TX10) (N := 13) hx hb hts i_X10 hown hK hP 0 rfl rfl 4 (by decide) k_16 (fun _ h9 => h9) rfl dX10_use_74 ?_
                    refine lv_sipush (v := (nI 298)) hx hb dX10_use_77 (by decide) ?_
                    obtain ⟨hi_26, h⟩ := ck_el h
                    refine va_iald hx hb hK hP 1 0 rfl rfl hi_26 dX10_use_80 ?_
                    refine lv_iload hx hb dX10_use_81 (lv_at hl 2 rfl) ?_
                    refine lv_isub hx hb dX10_use_83 ?_
                    refine lv_iload hx hb dX10_use_84 (lv_at hl 3 rfl) ?_
                    refine lv_iadd hx hb dX10_use_86 ?_
                    refine lv_i2l hx hb dX10_use_87 rfl ?_
                    refine lv_aload_n hx hb dX10_use_88 rfl (lv_at hl 0 rfl) ?_
                    refine va_get (D := D) (ci := 8) (v := .ref q_now) (C := RX10) (T := TX10) (N := 13) hx hb hts i_X10 hown hK hP 0 rfl rfl 11 (by decide) k_34 (fun _ h9 => h9) rfl dX10_use_89 ?_
                    refine lv_bipush (v := (nI 9)) hx hb dX10_use_92 (by decide) ?_
                    refine lv_iload hx hb dX10_use_94 (lv_at hl 2 rfl) ?_
                    refine lv_imul hx hb dX10_use_96 ?_
                    refine lv_iload hx hb dX10_use_97 (lv_at hl 3 rfl) ?_
                    refine lv_iadd hx hb dX10_use_99 ?_
                    obtain ⟨hi_27, h⟩ := ck_el h
                    refine va_lald hx hb hK hP 6 1 rfl rfl hi_27 dX10_use_100 ?_
                    refine lv_lmul hx hb dX10_use_101 ?_
                    refine lv_ladd hx hb dX10_use_102 ?_
                    refine lv_nml h (fun x3_28 h => ?_)
                    refine lv_lstore_n (lv' := [(3, .long x3_28), (0, .ref q_this), (5, .int x5_17), (6, .int x6_22)]) hx hb dX10_use_103 rfl hl (by decide) rfl (fun ls hl => ?_)
                    obtain ⟨x6_29, e_30, h⟩ := nm_el h
                    refine lv_iinc (v := x6_29) (lv' := [(6, .int x6_29), (3, .long x3_28), (0, .ref q_this), (5, .int x5_17)]) hx hb dX10_use_104 hl (k := 3) rfl (by rw [← e_30]; rfl) (by decide) rfl (fun ls hl => ?_)
                    refine lv_goto (tgt := 59) hx hb dX10_use_107 (by decide) ?_
                    exact ih _ _ _ _ _ _ h hex hP hD hS (lv_sub hl [2, 1, 3, 0] rfl)
              exact hlp F x3_16 (nI 0) o_23 H locs ls hL hex hP hD hS (lv_sub hl [1, 2, 3, 0] rfl)
        exact hlp F (lN 0) (nI 0) o_18 H locs ls hL hex hP hD hS (lv_sub hl [2, 1, 0] rfl)
      · replace h := ifp_el c_9 h
        refine lv_bipush (v := (-2 : Int32)) hx hb dX10_use_29 (by decide) ?_
        cases h
        rw [← hQe]
        exact W.iret hx hb hr (fun t ht hW => ⟨⟨_, (), rfl, rfl, by rw [ht]; exact hP, va_K.moved hW.alike hK, hD⟩, hS.F ht⟩) hS.2.2 dX10_use_31
    · replace h := ifp_el c_6 h
      refine lv_iconst (v := (-1 : Int32)) hx hb dX10_use_19 (by decide) ?_
      cases h
      rw [← hQe]
      exact W.iret hx hb hr (fun t ht hW => ⟨⟨_, (), rfl, rfl, by rw [ht]; exact hP, va_K.moved hW.alike hK, hD⟩, hS.F ht⟩) hS.2.2 dX10_use_20
def b_X10_traders_58 (p1 : Int32) (p2 : Int32) (p3 : Int32) (p4 : Int32) (v_l : Nat → Int32) (F : Nat) (rec58 : Int32 → (Nat → Int32) → (Nat → Int32) → (Nat → Int32) → (Nat → Int64) → (Nat → Int64) → Option (Int32 × (Nat → Int32) × (Nat → Int32) × (Nat → Int32) × (Nat → Int64) × (Nat → Int64))) (x5_16 : Int32) (y_one_17 : Nat → Int32) (y_two_18 : Nat → Int32) (y_ways_19 : Nat → Int32) (y_now_20 : Nat → Int64) (y_then_21 : Nat → Int64) : Option (Int32 × (Nat → Int32) × (Nat → Int32) × (Nat → Int32) × (Nat → Int64) × (Nat → Int64)) := (if (nI 8) < x5_16 then some ((-4 : Int32), y_one_17, y_two_18, y_ways_19, y_now_20, y_then_21) else bd1 (D_X10_beginAt F (nI 0) (nI 0) y_now_20) (fun y_now_23 => ck 336 (nI 300) (ck 336 (nI 301) (bd5 (D_X10_goOn F p1 p2 x5_16 x5_16 (v_l (nI 300).toNatClampNeg) (v_l (nI 301).toNatClampNeg) v_l y_one_17 y_two_18 y_ways_19 y_now_23 y_then_21) (fun y_one_27 y_two_28 y_ways_29 y_now_30 y_then_31 => bd1 (D_X10_wonBy p3 x5_16 x5_16 y_now_30) (fun r_33 => bd1 (D_X10_isEnough r_33 p4) (fun r_35 => (if r_35 = 0 then nm (x5_16 + (nI 1)) (fun x5_38 => rec58 x5_38 y_one_27 y_two_28 y_ways_29 y_now_30 y_then_31) else some (x5_16, y_one_27, y_two_28, y_ways_29, y_now_30, y_then_31)))))))))
def D_X10_traders (F : Nat) (p1 : Int32) (p2 : Int32) (p3 : Int32) (p4 : Int32) (v_l : Nat → Int32) (v_one : Nat → Int32) (v_two : Nat → Int32) (v_ways : Nat → Int32) (v_now : Nat → Int64) (v_then : Nat → Int64) : Option (Int32 × (Nat → Int32) × (Nat → Int32) × (Nat → Int32) × (Nat → Int64) × (Nat → Int64)) := bd1 (D_X10_isMeaning p1) (fun r_1 => (if r_1 = 0 then some ((-1 : Int32), v_one, v_two, v_ways, v_now, v_then) else bd1 (D_X10_in p2.toInt64 (lN 0) (lN 200)) (fun r_4 => (if r_4 = 0 then some ((-1 : Int32), v_one, v_two, v_ways, v_now, v_then) else bd1 (D_X10_in p3.toInt64 (lN 0) (lN 1)) (fun r_7 => (if r_7 = 0 then some ((-1 : Int32), v_one, v_two, v_ways, v_now, v_then) else bd1 (D_X10_in p4.toInt64 (lN 1) (lN 100)) (fun r_10 => (if r_10 = 0 then some ((-1 : Int32), v_one, v_two, v_ways, v_now, v_then) else bd1 (D_X10_isTold p1 v_l) (fun r_13 => (if r_13 = 0 then some ((-2 : Int32), v_one, v_two, v_ways, v_now, v_then) else lpg (T := Int32 → (Nat → Int32) → (Nat → Int32) → (Nat → Int32) → (Nat → Int64) → (Nat → Int64) → Option (Int32 × (Nat → Int32) × (Nat → Int32) × (Nat → Int32) × (Nat → Int64) × (Nat → Int64))) (fun _ _ _ _ _ _ => none) (b_X10_traders_58 p1 p2 p3 p4 v_l F) F (nI 1) v_one v_two v_ways v_now v_then))))))))))
abbrev rm_X10_traders : Room := { frames := 6, cells := 0, slots := 0, locals := 141 }
set_option maxHeartbeats 4000000 in
set_option maxRecDepth 100000 in
theorem c_X10_traders (l : Launch) (D : va_G) (ca : Nat → ClassId) (F : Nat) (sz : Nat) (q_this q_text q_read q_l q_stands q_kept q_one q_two q_ways q_now q_then : Nat) (p1 : Int32) (p2 : Int32) (p3 : Int32) (p4 : Int32) (v_size : Int32) (v_at : Int32) (v_keptMany : Int32) (v_l : Nat → Int32) (v_one : Nat → Int32) (v_two : Nat → Int32) (v_ways : Nat → Int32) (v_now : Nat → Int64) (v_then : Nat → Int64) (r : Int32) (o_one : Nat → Int32) (o_two : Nat → Int32) (o_ways : Nat → Int32) (o_now : Nat → Int64) (o_then : Nat → Int64) (h : D_X10_traders F p1 p2 p3 p4 v_l v_one v_two v_ways v_now v_then = some (r, o_one, o_two, o_ways, o_now, o_then)) : Met l yX10_traders wsX10_traders rm_X10_traders (va_Pc [.ref q_this, .int p1, .int p2, .int p3, .int p4] (kPre D ca [(q_this, .inr (8, [.ref q_text, .int v_size, .int v_at, .ref q_read, .ref q_l, .ref q_stands, .ref q_kept, .int v_keptMany, .ref q_one, .ref q_two, .ref q_ways, .ref q_now, .ref q_then])), (q_l, .inl (ca 0, 336, .inl v_l)), (q_one, .inl (ca 0, 7, .inl v_one)), (q_two, .inl (ca 0, 7, .inl v_two)), (q_ways, .inl (ca 0, 49, .inl v_ways)), (q_now, .inl (ca 1, 81, .inr (.inl v_now))), (q_then, .inl (ca 1, 81, .inr (.inl v_then)))] sz)) (kQi D ca (va_A [(q_this, .inr (8, [.ref q_text, .int v_size, .int v_at, .ref q_read, .ref q_l, .ref q_stands, .ref q_kept, .int v_keptMany, .ref q_one, .ref q_two, .ref q_ways, .ref q_now, .ref q_then])), (q_l, .inl (ca 0, 336, .inl v_l)), (q_one, .inl (ca 0, 7, .inl v_one)), (q_two, .inl (ca 0, 7, .inl v_two)), (q_ways, .inl (ca 0, 49, .inl v_ways)), (q_now, .inl (ca 1, 81, .inr (.inl v_now))), (q_then, .inl (ca 1, 81, .inr (.inl v_then)))] sz) [(q_this, .inr (8, [.ref q_text, .int v_size, .int v_at, .ref q_read, .ref q_l, .ref q_stands, .ref q_kept, .int v_keptMany, .ref q_one, .ref q_two, .ref q_ways, .ref q_now, .ref q_then])), (q_l, .inl (ca 0, 336, .inl v_l)), (q_one, .inl (ca 0, 7, .inl o_one)), (q_two, .inl (ca 0, 7, .inl o_two)), (q_ways, .inl (ca 0, 49, .inl o_ways)), (q_now, .inl (ca 1, 81, .inr (.inl o_now))), (q_then, .inl (ca 1, 81, .inr (.inl o_then)))] r) 0 0 (va_A [(q_this, .inr (8, [.ref q_text, .int v_size, .int v_at, .ref q_read, .ref q_l, .ref q_stands, .ref q_kept, .int v_keptMany, .ref q_one, .ref q_two, .ref q_ways, .ref q_now, .ref q_then])), (q_l, .inl (ca 0, 336, .inl v_l)), (q_one, .inl (ca 0, 7, .inl v_one)), (q_two, .inl (ca 0, 7, .inl v_two)), (q_ways, .inl (ca 0, 49, .inl v_ways)), (q_now, .inl (ca 1, 81, .inr (.inl v_now))), (q_then, .inl (ca 1, 81, .inr (.inl v_then)))] sz) := by
  refine Met.ofW (cc := cX10_traders) (maxL := 6) (ret := (some .int)) (by decide +kernel) rfl ?_
  intro p e s m args below meth c s₁ B hml hv
  obtain ⟨rfl, hsz, hP, hK, hD0⟩ := hv
  have hx := B.exec
  have hb := B.bytes
  have hr := B.returns
  have hts := atoms_spec (ws := wsX10_traders) B.pre
  have hown : s.vm.findClass RX10 = some m.cls := findClass_of_methodNamed B.named
  have hlocks := B.notSynchronized
  clear B
  subst hsz
  have hD := hD0.self (sz := s.heap.size)
  generalize hAe : va_A [(q_this, .inr (8, [.ref q_text, .int v_size, .int v_at, .ref q_read, .ref q_l, .ref q_stands, .ref q_kept, .int v_keptMany, .ref q_one, .ref q_two, .ref q_ways, .ref q_now, .ref q_then])), (q_l, .inl (ca 0, 336, .inl v_l)), (q_one, .inl (ca 0, 7, .inl v_one)), (q_two, .inl (ca 0, 7, .inl v_two)), (q_ways, .inl (ca 0, 49, .inl v_ways)), (q_now, .inl (ca 1, 81, .inr (.inl v_now))), (q_then, .inl (ca 1, 81, .inr (.inl v_then)))] s.heap.size = A at hD ⊢
  have hA : ∀ q : Nat, s.heap.size ≤ q → A q := fun q h => by rw [← hAe]; exact Or.inr h
  have hS : va_S A s.heap s.heap [] := va_S.rf
  have hl := lv_entry ([.ref q_this, .int p1, .int p2, .int p3, .int p4]) (n := 6) (Nat.le_of_ble_eq_true rfl)
  rw [lg_entry_eq]
  generalize (lg_sl ([.ref q_this, .int p1, .int p2, .int p3, .int p4]) ++ List.replicate (6 - (lg_sl ([.ref q_this, .int p1, .int p2, .int p3, .int p4])).length) Slot.unset).toArray = ls at hl ⊢
  have hl : lv_has ls 6 [(0, .ref q_this), (1, .int p1), (2, .int p2), (3, .int p3), (4, .int p4)] := hl
  generalize ([.ref q_this, .int p1, .int p2, .int p3, .int p4] : List Value).toArray = args at hts ⊢
  generalize hQe : MQ below (kQi D ca (A) [(q_this, .inr (8, [.ref q_text, .int v_size, .int v_at, .ref q_read, .ref q_l, .ref q_stands, .ref q_kept, .int v_keptMany, .ref q_one, .ref q_two, .ref q_ways, .ref q_now, .ref q_then])), (q_l, .inl (ca 0, 336, .inl v_l)), (q_one, .inl (ca 0, 7, .inl o_one)), (q_two, .inl (ca 0, 7, .inl o_two)), (q_ways, .inl (ca 0, 49, .inl o_ways)), (q_now, .inl (ca 1, 81, .inr (.inl o_now))), (q_then, .inl (ca 1, 81, .inr (.inl o_then)))] r) args s 0 0 A = Q
  have k_188 := hts (.constantLong RX10 188 (lN 200)) (by decide +kernel)
  have k_168 := hts (.constantLong RX10 168 (lN 100)) (by decide +kernel)
  have i_X10 : ∀ w ∈ u_ws RX10 TX10 13, w ∈ wsX10_traders := by decide +kernel
  have k_16 := hts (.fieldLink RX10 16 "TradeWordsModel" "l" "[I") (by decide +kernel)
  rw [D_X10_traders] at h
  refine lv_iload_n hx hb dX10_traders_0 rfl (lv_at hl 1 rfl) ?_
  obtain ⟨r_1, hg_2, h⟩ := bd1_el h
  refine kx_Si (As := [.int p1]) (rest := []) (wr := [(q_this, .inr (8, [.ref q_text, .int v_size, .int v_at, .ref q_read, .ref q_l, .ref q_stands, .ref q_kept, .int v_keptMany, .ref q_one, .ref q_two, .ref q_ways, .ref q_now, .ref q_then])), (q_l, .inl (ca 0, 336, .inl v_l)), (q_one, .inl (ca 0, 7, .inl v_one)), (q_two, .inl (ca 0, 7, .inl v_two)), (q_ways, .inl (ca 0, 49, .inl v_ways)), (q_now, .inl (ca 1, 81, .inr (.inl v_now))), (q_then, .inl (ca 1, 81, .inr (.inl v_then)))]) (w1 := []) (wn := [(q_this, .inr (8, [.ref q_text, .int v_size, .int v_at, .ref q_read, .ref q_l, .ref q_stands, .ref q_kept, .int v_keptMany, .ref q_one, .ref q_two, .ref q_ways, .ref q_now, .ref q_then])), (q_l, .inl (ca 0, 336, .inl v_l)), (q_one, .inl (ca 0, 7, .inl v_one)), (q_two, .inl (ca 0, 7, .inl v_two)), (q_ways, .inl (ca 0, 49, .inl v_ways)), (q_now, .inl (ca 1, 81, .inr (.inl v_now))), (q_then, .inl (ca 1, 81, .inr (.inl v_then)))]) ⟨hx, hb, hml, hown, hts⟩ (c_X10_isMeaning l D ca s.heap.size p1 r_1 hg_2) (va_cwS 1 hts gX10_traders_X10_isMeaning rfl rfl rfl (by decide +kernel) ⟨(Nat.le_of_ble_eq_true rfl), (Nat.le_of_ble_eq_true rfl)⟩) hK hP hD hS hA [] [0, 1, 2, 3, 4, 5, 6] [0, 1, 2, 3, 4, 5, 6] rfl rfl rfl rfl (by decide) rfl rfl rfl hl.1 rfl (Nat.le_of_ble_eq_true rfl) dX10_traders_1 ⟨Nat.zero_le _, Nat.zero_le _⟩ (fun H locs hP hD hS => ?_)
  refine lv_if_eq (tgt := 42) hx hb dX10_traders_4 (by decide) (fun c_3 => ?_) (fun c_3 => ?_)
  · replace h := ifp_el c_3 h
    refine lv_iconst (v := (-1 : Int32)) hx hb dX10_traders_42 (by decide) ?_
    cases h
    rw [← hQe]
    exact W.iret hx hb hr (fun t ht hW => ⟨⟨_, (), rfl, rfl, by rw [ht]; exact hP, va_K.moved hW.alike hK, hD⟩, hS.F ht⟩) hS.2.2 dX10_traders_43
  · replace h := ifn_el c_3 h
    refine lv_iload_n hx hb dX10_traders_7 rfl (lv_at hl 2 rfl) ?_
    refine lv_i2l hx hb dX10_traders_8 rfl ?_
    refine lv_lconst (v := (lN 0)) hx hb dX10_traders_9 (by decide) ?_
    refine lv_ldc2 hx hb hown k_188 dX10_traders_10 ?_
    obtain ⟨r_4, hg_5, h⟩ := bd1_el h
    refine kx_Si (As := [.long p2.toInt64, .long (lN 0), .long (lN 200)]) (rest := []) (wr := [(q_this, .inr (8, [.ref q_text, .int v_size, .int v_at, .ref q_read, .ref q_l, .ref q_stands, .ref q_kept, .int v_keptMany, .ref q_one, .ref q_two, .ref q_ways, .ref q_now, .ref q_then])), (q_l, .inl (ca 0, 336, .inl v_l)), (q_one, .inl (ca 0, 7, .inl v_one)), (q_two, .inl (ca 0, 7, .inl v_two)), (q_ways, .inl (ca 0, 49, .inl v_ways)), (q_now, .inl (ca 1, 81, .inr (.inl v_now))), (q_then, .inl (ca 1, 81, .inr (.inl v_then)))]) (w1 := []) (wn := [(q_this, .inr (8, [.ref q_text, .int v_size, .int v_at, .ref q_read, .ref q_l, .ref q_stands, .ref q_kept, .int v_keptMany, .ref q_one, .ref q_two, .ref q_ways, .ref q_now, .ref q_then])), (q_l, .inl (ca 0, 336, .inl v_l)), (q_one, .inl (ca 0, 7, .inl v_one)), (q_two, .inl (ca 0, 7, .inl v_two)), (q_ways, .inl (ca 0, 49, .inl v_ways)), (q_now, .inl (ca 1, 81, .inr (.inl v_now))), (q_then, .inl (ca 1, 81, .inr (.inl v_then)))]) ⟨hx, hb, hml, hown, hts⟩ (c_X10_in l D ca H.size p2.toInt64 (lN 0) (lN 200) r_4 hg_5) (va_cwS 3 hts gX10_traders_X10_in rfl rfl rfl (by decide +kernel) ⟨(Nat.le_of_ble_eq_true rfl), (Nat.le_of_ble_eq_true rfl)⟩) hK hP hD hS hA [] [0, 1, 2, 3, 4, 5, 6] [0, 1, 2, 3, 4, 5, 6] rfl rfl rfl rfl (by decide) rfl rfl rfl hl.1 rfl (Nat.le_of_ble_eq_true rfl) dX10_traders_13 ⟨Nat.zero_le _, Nat.zero_le _⟩ (fun H locs hP hD hS => ?_)
    refine lv_if_eq (tgt := 42) hx hb dX10_traders_16 (by decide) (fun c_6 => ?_) (fun c_6 => ?_)
    · replace h := ifp_el c_6 h
      refine lv_iconst (v := (-1 : Int32)) hx hb dX10_traders_42 (by decide) ?_
      cases h
      rw [← hQe]
      exact W.iret hx hb hr (fun t ht hW => ⟨⟨_, (), rfl, rfl, by rw [ht]; exact hP, va_K.moved hW.alike hK, hD⟩, hS.F ht⟩) hS.2.2 dX10_traders_43
    · replace h := ifn_el c_6 h
      refine lv_iload_n hx hb dX10_traders_19 rfl (lv_at hl 3 rfl) ?_
      refine lv_i2l hx hb dX10_traders_20 rfl ?_
      refine lv_lconst (v := (lN 0)) hx hb dX10_traders_21 (by decide) ?_
      refine lv_lconst (v := (lN 1)) hx hb dX10_traders_22 (by decide) ?_
      obtain ⟨r_7, hg_8, h⟩ := bd1_el h
      refine kx_Si (As := [.long p3.toInt64, .long (lN 0), .long (lN 1)]) (rest := []) (wr := [(q_this, .inr (8, [.ref q_text, .int v_size, .int v_at, .ref q_read, .ref q_l, .ref q_stands, .ref q_kept, .int v_keptMany, .ref q_one, .ref q_two, .ref q_ways, .ref q_now, .ref q_then])), (q_l, .inl (ca 0, 336, .inl v_l)), (q_one, .inl (ca 0, 7, .inl v_one)), (q_two, .inl (ca 0, 7, .inl v_two)), (q_ways, .inl (ca 0, 49, .inl v_ways)), (q_now, .inl (ca 1, 81, .inr (.inl v_now))), (q_then, .inl (ca 1, 81, .inr (.inl v_then)))]) (w1 := []) (wn := [(q_this, .inr (8, [.ref q_text, .int v_size, .int v_at, .ref q_read, .ref q_l, .ref q_stands, .ref q_kept, .int v_keptMany, .ref q_one, .ref q_two, .ref q_ways, .ref q_now, .ref q_then])), (q_l, .inl (ca 0, 336, .inl v_l)), (q_one, .inl (ca 0, 7, .inl v_one)), (q_two, .inl (ca 0, 7, .inl v_two)), (q_ways, .inl (ca 0, 49, .inl v_ways)), (q_now, .inl (ca 1, 81, .inr (.inl v_now))), (q_then, .inl (ca 1, 81, .inr (.inl v_then)))]) ⟨hx, hb, hml, hown, hts⟩ (c_X10_in l D ca H.size p3.toInt64 (lN 0) (lN 1) r_7 hg_8) (va_cwS 3 hts gX10_traders_X10_in rfl rfl rfl (by decide +kernel) ⟨(Nat.le_of_ble_eq_true rfl), (Nat.le_of_ble_eq_true rfl)⟩) hK hP hD hS hA [] [0, 1, 2, 3, 4, 5, 6] [0, 1, 2, 3, 4, 5, 6] rfl rfl rfl rfl (by decide) rfl rfl rfl hl.1 rfl (Nat.le_of_ble_eq_true rfl) dX10_traders_23 ⟨Nat.zero_le _, Nat.zero_le _⟩ (fun H locs hP hD hS => ?_)
      refine lv_if_eq (tgt := 42) hx hb dX10_traders_26 (by decide) (fun c_9 => ?_) (fun c_9 => ?_)
      · replace h := ifp_el c_9 h
        refine lv_iconst (v := (-1 : Int32)) hx hb dX10_traders_42 (by decide) ?_
        cases h
        rw [← hQe]
        exact W.iret hx hb hr (fun t ht hW => ⟨⟨_, (), rfl, rfl, by rw [ht]; exact hP, va_K.moved hW.alike hK, hD⟩, hS.F ht⟩) hS.2.2 dX10_traders_43
      · replace h := ifn_el c_9 h
        refine lv_iload hx hb dX10_traders_29 (lv_at hl 4 rfl) ?_
        refine lv_i2l hx hb dX10_traders_31 rfl ?_
        refine lv_lconst (v := (lN 1)) hx hb dX10_traders_32 (by decide) ?_
        refine lv_ldc2 hx hb hown k_168 dX10_traders_33 ?_
        obtain ⟨r_10, hg_11, h⟩ := bd1_el h
        refine kx_Si (As := [.long p4.toInt64, .long (lN 1), .long (lN 100)]) (rest := []) (wr := [(q_this, .inr (8, [.ref q_text, .int v_size, .int v_at, .ref q_read, .ref q_l, .ref q_stands, .ref q_kept, .int v_keptMany, .ref q_one, .ref q_two, .ref q_ways, .ref q_now, .ref q_then])), (q_l, .inl (ca 0, 336, .inl v_l)), (q_one, .inl (ca 0, 7, .inl v_one)), (q_two, .inl (ca 0, 7, .inl v_two)), (q_ways, .inl (ca 0, 49, .inl v_ways)), (q_now, .inl (ca 1, 81, .inr (.inl v_now))), (q_then, .inl (ca 1, 81, .inr (.inl v_then)))]) (w1 := []) (wn := [(q_this, .inr (8, [.ref q_text, .int v_size, .int v_at, .ref q_read, .ref q_l, .ref q_stands, .ref q_kept, .int v_keptMany, .ref q_one, .ref q_two, .ref q_ways, .ref q_now, .ref q_then])), (q_l, .inl (ca 0, 336, .inl v_l)), (q_one, .inl (ca 0, 7, .inl v_one)), (q_two, .inl (ca 0, 7, .inl v_two)), (q_ways, .inl (ca 0, 49, .inl v_ways)), (q_now, .inl (ca 1, 81, .inr (.inl v_now))), (q_then, .inl (ca 1, 81, .inr (.inl v_then)))]) ⟨hx, hb, hml, hown, hts⟩ (c_X10_in l D ca H.size p4.toInt64 (lN 1) (lN 100) r_10 hg_11) (va_cwS 3 hts gX10_traders_X10_in rfl rfl rfl (by decide +kernel) ⟨(Nat.le_of_ble_eq_true rfl), (Nat.le_of_ble_eq_true rfl)⟩) hK hP hD hS hA [] [0, 1, 2, 3, 4, 5, 6] [0, 1, 2, 3, 4, 5, 6] rfl rfl rfl rfl (by decide) rfl rfl rfl hl.1 rfl (Nat.le_of_ble_eq_true rfl) dX10_traders_36 ⟨Nat.zero_le _, Nat.zero_le _⟩ (fun H locs hP hD hS => ?_)
        refine lv_if_ne (tgt := 44) hx hb dX10_traders_39 (by decide) (fun c_12 => ?_) (fun c_12 => ?_)
        · replace h := ifn_el c_12 h
          refine lv_aload_n hx hb dX10_traders_44 rfl (lv_at hl 0 rfl) ?_
          refine lv_iload_n hx hb dX10_traders_45 rfl (lv_at hl 1 rfl) ?_
          obtain ⟨r_13, hg_14, h⟩ := bd1_el h
          refine kx_Vi (As := [.int p1]) (rest := []) (wr := [(q_one, .inl (ca 0, 7, .inl v_one)), (q_two, .inl (ca 0, 7, .inl v_two)), (q_ways, .inl (ca 0, 49, .inl v_ways)), (q_now, .inl (ca 1, 81, .inr (.inl v_now))), (q_then, .inl (ca 1, 81, .inr (.inl v_then)))]) (w1 := [(q_this, .inr (8, [.ref q_text, .int v_size, .int v_at, .ref q_read, .ref q_l, .ref q_stands, .ref q_kept, .int v_keptMany, .ref q_one, .ref q_two, .ref q_ways, .ref q_now, .ref q_then])), (q_l, .inl (ca 0, 336, .inl v_l))]) (wn := [(q_this, .inr (8, [.ref q_text, .int v_size, .int v_at, .ref q_read, .ref q_l, .ref q_stands, .ref q_kept, .int v_keptMany, .ref q_one, .ref q_two, .ref q_ways, .ref q_now, .ref q_then])), (q_l, .inl (ca 0, 336, .inl v_l)), (q_one, .inl (ca 0, 7, .inl v_one)), (q_two, .inl (ca 0, 7, .inl v_two)), (q_ways, .inl (ca 0, 49, .inl v_ways)), (q_now, .inl (ca 1, 81, .inr (.inl v_now))), (q_then, .inl (ca 1, 81, .inr (.inl v_then)))]) ⟨hx, hb, hml, hown, hts⟩ (c_X10_isTold l D ca H.size q_this q_text q_read q_l q_stands q_kept q_one q_two q_ways q_now q_then p1 v_size v_at v_keptMany v_l r_13 hg_14) (cwV 1 hts gX10_traders_X10_isTold rfl rfl rfl (by decide +kernel) ⟨(Nat.le_of_ble_eq_true rfl), (Nat.le_of_ble_eq_true rfl)⟩) hK hP hD hS hA (ci := 8) (q0 := 0) rfl rfl [0, 1] [2, 3, 4, 5, 6] [5, 6, 0, 1, 2, 3, 4] rfl rfl rfl rfl (by decide) rfl rfl rfl hl.1 rfl (Nat.le_of_ble_eq_true rfl) dX10_traders_46 ⟨Nat.zero_le _, Nat.zero_le _⟩ (fun H locs hP hD hS => ?_)
          refine lv_if_ne (tgt := 55) hx hb dX10_traders_49 (by decide) (fun c_15 => ?_) (fun c_15 => ?_)
          · replace h := ifn_el c_15 h
            refine lv_iconst (v := (nI 1)) hx hb dX10_traders_55 (by decide) ?_
            refine lv_istore (lv' := [(5, .int (nI 1)), (0, .ref q_this), (1, .int p1), (2, .int p2), (3, .int p3), (4, .int p4)]) hx hb dX10_traders_56 hl (by decide) rfl (fun ls hl => ?_)
            have hlp : ∀ (n : Nat) (x5_16 : Int32) (y_one_17 : Nat → Int32) (y_two_18 : Nat → Int32) (y_ways_19 : Nat → Int32) (y_now_20 : Nat → Int64) (y_then_21 : Nat → Int64) (H : Heap) (locs : List Loc) (ls : Array Slot), lpg (T := Int32 → (Nat → Int32) → (Nat → Int32) → (Nat → Int32) → (Nat → Int64) → (Nat → Int64) → Option (Int32 × (Nat → Int32) × (Nat → Int32) × (Nat → Int32) × (Nat → Int64) × (Nat → Int64))) (fun _ _ _ _ _ _ => none) (b_X10_traders_58 p1 p2 p3 p4 v_l F) n x5_16 y_one_17 y_two_18 y_ways_19 y_now_20 y_then_21 = some (r, o_one, o_two, o_ways, o_now, o_then) → va_P D vwCl [(q_this, .inr (8, [.ref q_text, .int v_size, .int v_at, .ref q_read, .ref q_l, .ref q_stands, .ref q_kept, .int v_keptMany, .ref q_one, .ref q_two, .ref q_ways, .ref q_now, .ref q_then])), (q_l, .inl (ca 0, 336, .inl v_l)), (q_one, .inl (ca 0, 7, .inl y_one_17)), (q_two, .inl (ca 0, 7, .inl y_two_18)), (q_ways, .inl (ca 0, 49, .inl y_ways_19)), (q_now, .inl (ca 1, 81, .inr (.inl y_now_20))), (q_then, .inl (ca 1, 81, .inr (.inl y_then_21)))] H → va_D A [(q_this, .inr (8, [.ref q_text, .int v_size, .int v_at, .ref q_read, .ref q_l, .ref q_stands, .ref q_kept, .int v_keptMany, .ref q_one, .ref q_two, .ref q_ways, .ref q_now, .ref q_then])), (q_l, .inl (ca 0, 336, .inl v_l)), (q_one, .inl (ca 0, 7, .inl y_one_17)), (q_two, .inl (ca 0, 7, .inl y_two_18)), (q_ways, .inl (ca 0, 49, .inl y_ways_19)), (q_now, .inl (ca 1, 81, .inr (.inl y_now_20))), (q_then, .inl (ca 1, 81, .inr (.inl y_then_21)))] → va_S A s.heap H locs → lv_has ls 6 [(0, .ref q_this), (1, .int p1), (2, .int p2), (3, .int p3), (4, .int p4), (5, .int x5_16)] → W p l e (headSpec wsX10_traders rm_X10_traders).room s m args below meth c H locs 0 0 Q (F0 m 58 ls []) := by
              intro n
              induction n with
              | zero => intro x5_16 y_one_17 y_two_18 y_ways_19 y_now_20 y_then_21 H locs ls h; have h : (none : Option (Int32 × (Nat → Int32) × (Nat → Int32) × (Nat → Int32) × (Nat → Int64) × (Nat → Int64))) = some _ := h; cases h
              | succ n ih =>
                intro x5_16 y_one_17 y_two_18 y_ways_19 y_now_20 y_then_21 H locs ls h hP hD hS hl
                rw [lpg_succ, b_X10_traders_58] at h
                refine lv_iload hx hb dX10_traders_58 (lv_at hl 5 rfl) ?_
                refine lv_bipush (v := (nI 8)) hx hb dX10_traders_60 (by decide) ?_
                refine lv_icmp_gt (tgt := 123) hx hb dX10_traders_62 (by decide) (fun c_22 => ?_) (fun c_22 => ?_)
                · replace h := ifp_el c_22 h
                  refine lv_bipush (v := (-4 : Int32)) hx hb dX10_traders_123 (by decide) ?_
                  cases h
                  rw [← hQe]
                  exact W.iret hx hb hr (fun t ht hW => ⟨⟨_, (), rfl, rfl, by rw [ht]; exact hP, va_K.moved hW.alike hK, hD⟩, hS.F ht⟩) hS.2.2 dX10_traders_125
                · replace h := ifn_el c_22 h
                  refine lv_aload_n hx hb dX10_traders_65 rfl (lv_at hl 0 rfl) ?_
                  refine lv_iconst (v := (nI 0)) hx hb dX10_traders_66 (by decide) ?_
                  refine lv_iconst (v := (nI 0)) hx hb dX10_traders_67 (by decide) ?_
                  obtain ⟨y_now_23, hg_24, h⟩ := bd1_el h
                  refine kx_Vv (As := [.int (nI 0), .int (nI 0)]) (rest := []) (wr := [(q_l, .inl (ca 0, 336, .inl v_l)), (q_one, .inl (ca 0, 7, .inl y_one_17)), (q_two, .inl (ca 0, 7, .inl y_two_18)), (q_ways, .inl (ca 0, 49, .inl y_ways_19)), (q_then, .inl (ca 1, 81, .inr (.inl y_then_21)))]) (w1 := [(q_this, .inr (8, [.ref q_text, .int v_size, .int v_at, .ref q_read, .ref q_l, .ref q_stands, .ref q_kept, .int v_keptMany, .ref q_one, .ref q_two, .ref q_ways, .ref q_now, .ref q_then])), (q_now, .inl (ca 1, 81, .inr (.inl y_now_23)))]) (wn := [(q_this, .inr (8, [.ref q_text, .int v_size, .int v_at, .ref q_read, .ref q_l, .ref q_stands, .ref q_kept, .int v_keptMany, .ref q_one, .ref q_two, .ref q_ways, .ref q_now, .ref q_then])), (q_l, .inl (ca 0, 336, .inl v_l)), (q_one, .inl (ca 0, 7, .inl y_one_17)), (q_two, .inl (ca 0, 7, .inl y_two_18)), (q_ways, .inl (ca 0, 49, .inl y_ways_19)), (q_now, .inl (ca 1, 81, .inr (.inl y_now_23))), (q_then, .inl (ca 1, 81, .inr (.inl y_then_21)))]) ⟨hx, hb, hml, hown, hts⟩ (c_X10_beginAt l D ca F H.size q_this q_text q_read q_l q_stands q_kept q_one q_two q_ways q_now q_then (nI 0) (nI 0) v_size v_at v_keptMany y_now_20 y_now_23 hg_24) (cwV 2 hts gX10_traders_X10_beginAt rfl rfl rfl (by decide +kernel) ⟨(Nat.le_of_ble_eq_true rfl), (Nat.le_of_ble_eq_true rfl)⟩) hK hP hD hS hA (ci := 8) (q0 := 0) rfl rfl [0, 5] [1, 2, 3, 4, 6] [5, 0, 1, 2, 3, 6, 4] rfl rfl rfl rfl (by decide) rfl rfl rfl hl.1 rfl (Nat.le_of_ble_eq_true rfl) dX10_traders_68 ⟨Nat.zero_le _, Nat.zero_le _⟩ (fun H locs hP hD hS => ?_)
                  refine lv_aload_n hx hb dX10_traders_71 rfl (lv_at hl 0 rfl) ?_
                  refine lv_iload_n hx hb dX10_traders_72 rfl (lv_at hl 1 rfl) ?_
                  refine lv_iload_n hx hb dX10_traders_73 rfl (lv_at hl 2 rfl) ?_
                  refine lv_iload hx hb dX10_traders_74 (lv_at hl 5 rfl) ?_
                  refine lv_iload hx hb dX10_traders_76 (lv_at hl 5 rfl) ?_
                  refine lv_aload_n hx hb dX10_traders_78 rfl (lv_at hl 0 rfl) ?_
                  refine va_get (D := D) (ci := 8) (v := .ref q_l) (C := RX10) (T := TX10) (N := 13) hx hb hts i_X10 hown hK hP 0 rfl rfl 4 (by decide) k_16 (fun _ h9 => h9) rfl dX10_traders_79 ?_
                  refine lv_sipush (v := (nI 300)) hx hb dX10_traders_82 (by decide) ?_
                  obtain ⟨hi_25, h⟩ := ck_el h
                  refine va_iald hx hb hK hP 1 0 rfl rfl hi_25 dX10_traders_85 ?_
                  refine lv_aload_n hx hb dX10_traders_86 rfl (lv_at hl 0 rfl) ?_
                  refine va_get (D := D) (ci := 8) (v := .ref q_l) (C := RX10) (T := TX10) (N := 13) hx hb hts i_X10 hown hK hP 0 rfl rfl 4 (by decide) k_16 (fun _ h9 => h9) rfl dX10_traders_87 ?_
                  refine lv_sipush (v := (nI 301)) hx hb dX10_traders_90 (by decide) ?_
                  obtain ⟨hi_26, h⟩ := ck_el h
                  refine va_iald hx hb hK hP 1 0 rfl rfl hi_26 dX10_traders_93 ?_
                  obtain ⟨y_one_27, y_two_28, y_ways_29, y_now_30, y_then_31, hg_32, h⟩ := bd5_el h
                  refine kx_Vv (As := [.int p1, .int p2, .int x5_16, .int x5_16, .int (v_l (nI 300).toNatClampNeg), .int (v_l (nI 301).toNatClampNeg)]) (rest := []) (wr := []) (w1 := [(q_this, .inr (8, [.ref q_text, .int v_size, .int v_at, .ref q_read, .ref q_l, .ref q_stands, .ref q_kept, .int v_keptMany, .ref q_one, .ref q_two, .ref q_ways, .ref q_now, .ref q_then])), (q_l, .inl (ca 0, 336, .inl v_l)), (q_one, .inl (ca 0, 7, .inl y_one_27)), (q_two, .inl (ca 0, 7, .inl y_two_28)), (q_ways, .inl (ca 0, 49, .inl y_ways_29)), (q_now, .inl (ca 1, 81, .inr (.inl y_now_30))), (q_then, .inl (ca 1, 81, .inr (.inl y_then_31)))]) (wn := [(q_this, .inr (8, [.ref q_text, .int v_size, .int v_at, .ref q_read, .ref q_l, .ref q_stands, .ref q_kept, .int v_keptMany, .ref q_one, .ref q_two, .ref q_ways, .ref q_now, .ref q_then])), (q_l, .inl (ca 0, 336, .inl v_l)), (q_one, .inl (ca 0, 7, .inl y_one_27)), (q_two, .inl (ca 0, 7, .inl y_two_28)), (q_ways, .inl (ca 0, 49, .inl y_ways_29)), (q_now, .inl (ca 1, 81, .inr (.inl y_now_30))), (q_then, .inl (ca 1, 81, .inr (.inl y_then_31)))]) ⟨hx, hb, hml, hown, hts⟩ (c_X10_goOn l D ca F H.size q_this q_text q_read q_l q_stands q_kept q_one q_two q_ways q_now q_then p1 p2 x5_16 x5_16 (v_l (nI 300).toNatClampNeg) (v_l (nI 301).toNatClampNeg) v_size v_at v_keptMany v_l y_one_17 y_two_18 y_ways_19 y_now_23 y_then_21 y_one_27 y_two_28 y_ways_29 y_now_30 y_then_31 hg_32) (cwV 6 hts gX10_traders_X10_goOn rfl rfl rfl (by decide +kernel) ⟨(Nat.le_of_ble_eq_true rfl), (Nat.le_of_ble_eq_true rfl)⟩) hK hP hD hS hA (ci := 8) (q0 := 0) rfl rfl [0, 1, 2, 3, 4, 5, 6] [] [0, 1, 2, 3, 4, 5, 6] rfl rfl rfl rfl (by decide) rfl rfl rfl hl.1 rfl (Nat.le_of_ble_eq_true rfl) dX10_traders_94 ⟨Nat.zero_le _, Nat.zero_le _⟩ (fun H locs hP hD hS => ?_)
                  refine lv_aload_n hx hb dX10_traders_97 rfl (lv_at hl 0 rfl) ?_
                  refine lv_iload_n hx hb dX10_traders_98 rfl (lv_at hl 3 rfl) ?_
                  refine lv_iload hx hb dX10_traders_99 (lv_at hl 5 rfl) ?_
                  refine lv_iload hx hb dX10_traders_101 (lv_at hl 5 rfl) ?_
                  obtain ⟨r_33, hg_34, h⟩ := bd1_el h
                  refine kx_Vl (As := [.int p3, .int x5_16, .int x5_16]) (rest := []) (wr := [(q_l, .inl (ca 0, 336, .inl v_l)), (q_one, .inl (ca 0, 7, .inl y_one_27)), (q_two, .inl (ca 0, 7, .inl y_two_28)), (q_ways, .inl (ca 0, 49, .inl y_ways_29)), (q_then, .inl (ca 1, 81, .inr (.inl y_then_31)))]) (w1 := [(q_this, .inr (8, [.ref q_text, .int v_size, .int v_at, .ref q_read, .ref q_l, .ref q_stands, .ref q_kept, .int v_keptMany, .ref q_one, .ref q_two, .ref q_ways, .ref q_now, .ref q_then])), (q_now, .inl (ca 1, 81, .inr (.inl y_now_30)))]) (wn := [(q_this, .inr (8, [.ref q_text, .int v_size, .int v_at, .ref q_read, .ref q_l, .ref q_stands, .ref q_kept, .int v_keptMany, .ref q_one, .ref q_two, .ref q_ways, .ref q_now, .ref q_then])), (q_l, .inl (ca 0, 336, .inl v_l)), (q_one, .inl (ca 0, 7, .inl y_one_27)), (q_two, .inl (ca 0, 7, .inl y_two_28)), (q_ways, .inl (ca 0, 49, .inl y_ways_29)), (q_now, .inl (ca 1, 81, .inr (.inl y_now_30))), (q_then, .inl (ca 1, 81, .inr (.inl y_then_31)))]) ⟨hx, hb, hml, hown, hts⟩ (c_X10_wonBy l D ca H.size q_this q_text q_read q_l q_stands q_kept q_one q_two q_ways q_now q_then p3 x5_16 x5_16 v_size v_at v_keptMany y_now_30 r_33 hg_34) (cwV 3 hts gX10_traders_X10_wonBy rfl rfl rfl (by decide +kernel) ⟨(Nat.le_of_ble_eq_true rfl), (Nat.le_of_ble_eq_true rfl)⟩) hK hP hD hS hA (ci := 8) (q0 := 0) rfl rfl [0, 5] [1, 2, 3, 4, 6] [5, 0, 1, 2, 3, 6, 4] rfl rfl rfl rfl (by decide) rfl rfl rfl hl.1 rfl (Nat.le_of_ble_eq_true rfl) dX10_traders_103 ⟨Nat.zero_le _, Nat.zero_le _⟩ (fun H locs hP hD hS => ?_)
                  refine lv_iload hx hb dX10_traders_106 (lv_at hl 4 rfl) ?_
                  obtain ⟨r_35, hg_36, h⟩ := bd1_el h
                  refine kx_Si (As := [.long r_33, .int p4]) (rest := []) (wr := [(q_this, .inr (8, [.ref q_text, .int v_size, .int v_at, .ref q_read, .ref q_l, .ref q_stands, .ref q_kept, .int v_keptMany, .ref q_one, .ref q_two, .ref q_ways, .ref q_now, .ref q_then])), (q_l, .inl (ca 0, 336, .inl v_l)), (q_one, .inl (ca 0, 7, .inl y_one_27)), (q_two, .inl (ca 0, 7, .inl y_two_28)), (q_ways, .inl (ca 0, 49, .inl y_ways_29)), (q_now, .inl (ca 1, 81, .inr (.inl y_now_30))), (q_then, .inl (ca 1, 81, .inr (.inl y_then_31)))]) (w1 := []) (wn := [(q_this, .inr (8, [.ref q_text, .int v_size, .int v_at, .ref q_read, .ref q_l, .ref q_stands, .ref q_kept, .int v_keptMany, .ref q_one, .ref q_two, .ref q_ways, .ref q_now, .ref q_then])), (q_l, .inl (ca 0, 336, .inl v_l)), (q_one, .inl (ca 0, 7, .inl y_one_27)), (q_two, .inl (ca 0, 7, .inl y_two_28)), (q_ways, .inl (ca 0, 49, .inl y_ways_29)), (q_now, .inl (ca 1, 81, .inr (.inl y_now_30))), (q_then, .inl (ca 1, 81, .inr (.inl y_then_31)))]) ⟨hx, hb, hml, hown, hts⟩ (c_X10_isEnough l D ca H.size r_33 p4 r_35 hg_36) (va_cwS 2 hts gX10_traders_X10_isEnough rfl rfl rfl (by decide +kernel) ⟨(Nat.le_of_ble_eq_true rfl), (Nat.le_of_ble_eq_true rfl)⟩) hK hP hD hS hA [] [0, 1, 2, 3, 4, 5, 6] [0, 1, 2, 3, 4, 5, 6] rfl rfl rfl rfl (by decide) rfl rfl rfl hl.1 rfl (Nat.le_of_ble_eq_true rfl) dX10_traders_108 ⟨Nat.zero_le _, Nat.zero_le _⟩ (fun H locs hP hD hS => ?_)
                  refine lv_if_eq (tgt := 117) hx hb dX10_traders_111 (by decide) (fun c_37 => ?_) (fun c_37 => ?_)
                  · replace h := ifp_el c_37 h
                    obtain ⟨x5_38, e_39, h⟩ := nm_el h
                    refine lv_iinc (v := x5_38) (lv' := [(5, .int x5_38), (0, .ref q_this), (1, .int p1), (2, .int p2), (3, .int p3), (4, .int p4)]) hx hb dX10_traders_117 hl (k := 5) rfl (by rw [← e_39]; rfl) (by decide) rfl (fun ls hl => ?_)
                    refine lv_goto (tgt := 58) hx hb dX10_traders_120 (by decide) ?_
                    exact ih _ _ _ _ _ _ _ _ _ h hP hD hS (lv_sub hl [1, 2, 3, 4, 5, 0] rfl)
                  · replace h := ifn_el c_37 h
                    refine lv_iload hx hb dX10_traders_114 (lv_at hl 5 rfl) ?_
                    cases h
                    rw [← hQe]
                    exact W.iret hx hb hr (fun t ht hW => ⟨⟨_, (), rfl, rfl, by rw [ht]; exact hP, va_K.moved hW.alike hK, hD⟩, hS.F ht⟩) hS.2.2 dX10_traders_116
            exact hlp F (nI 1) v_one v_two v_ways v_now v_then H locs ls h hP hD hS (lv_sub hl [1, 2, 3, 4, 5, 0] rfl)
          · replace h := ifp_el c_15 h
            refine lv_bipush (v := (-2 : Int32)) hx hb dX10_traders_52 (by decide) ?_
            cases h
            rw [← hQe]
            exact W.iret hx hb hr (fun t ht hW => ⟨⟨_, (), rfl, rfl, by rw [ht]; exact hP, va_K.moved hW.alike hK, hD⟩, hS.F ht⟩) hS.2.2 dX10_traders_54
        · replace h := ifp_el c_12 h
          refine lv_iconst (v := (-1 : Int32)) hx hb dX10_traders_42 (by decide) ?_
          cases h
          rw [← hQe]
          exact W.iret hx hb hr (fun t ht hW => ⟨⟨_, (), rfl, rfl, by rw [ht]; exact hP, va_K.moved hW.alike hK, hD⟩, hS.F ht⟩) hS.2.2 dX10_traders_43
def b_X10_ready_58 (p1 : Int32) (p2 : Int32) (p3 : Int32) (p4 : Int32) (v_l : Nat → Int32) (v_stands : Nat → Int32) (F : Nat) (rec58 : Int32 → (Nat → Int32) → (Nat → Int32) → (Nat → Int32) → (Nat → Int64) → (Nat → Int64) → Option (Int32 × (Nat → Int32) × (Nat → Int32) × (Nat → Int32) × (Nat → Int64) × (Nat → Int64))) (x5_16 : Int32) (y_one_17 : Nat → Int32) (y_two_18 : Nat → Int32) (y_ways_19 : Nat → Int32) (y_now_20 : Nat → Int64) (y_then_21 : Nat → Int64) : Option (Int32 × (Nat → Int32) × (Nat → Int32) × (Nat → Int32) × (Nat → Int64) × (Nat → Int64)) := (if (nI 10) < x5_16 then some ((-4 : Int32), y_one_17, y_two_18, y_ways_19, y_now_20, y_then_21) else ck 16 ((nI 2) * p1) (ck 16 (((nI 2) * p1) + (nI 1)) (bd1 (D_X10_beginAt F (v_stands ((nI 2) * p1).toNatClampNeg) (v_stands (((nI 2) * p1) + (nI 1)).toNatClampNeg) y_now_20) (fun y_now_25 => ck 336 (nI 298) (ck 336 (nI 299) (bd5 (D_X10_goOn F p1 p2 (v_l (nI 298).toNatClampNeg) (v_l (nI 299).toNatClampNeg) x5_16 x5_16 v_l y_one_17 y_two_18 y_ways_19 y_now_25 y_then_21) (fun y_one_29 y_two_30 y_ways_31 y_now_32 y_then_33 => ck 336 (nI 298) (ck 336 (nI 299) (bd1 (D_X10_wonBy p3 (v_l (nI 298).toNatClampNeg) (v_l (nI 299).toNatClampNeg) y_now_32) (fun r_37 => bd1 (D_X10_isEnough r_37 p4) (fun r_39 => (if r_39 = 0 then nm (x5_16 + (nI 1)) (fun x5_42 => rec58 x5_42 y_one_29 y_two_30 y_ways_31 y_now_32 y_then_33) else some (x5_16, y_one_29, y_two_30, y_ways_31, y_now_32, y_then_33)))))))))))))
def D_X10_ready (F : Nat) (p1 : Int32) (p2 : Int32) (p3 : Int32) (p4 : Int32) (v_l : Nat → Int32) (v_stands : Nat → Int32) (v_one : Nat → Int32) (v_two : Nat → Int32) (v_ways : Nat → Int32) (v_now : Nat → Int64) (v_then : Nat → Int64) : Option (Int32 × (Nat → Int32) × (Nat → Int32) × (Nat → Int32) × (Nat → Int64) × (Nat → Int64)) := bd1 (D_X10_isMeaning p1) (fun r_1 => (if r_1 = 0 then some ((-1 : Int32), v_one, v_two, v_ways, v_now, v_then) else bd1 (D_X10_in p2.toInt64 (lN 0) (lN 200)) (fun r_4 => (if r_4 = 0 then some ((-1 : Int32), v_one, v_two, v_ways, v_now, v_then) else bd1 (D_X10_in p3.toInt64 (lN 0) (lN 1)) (fun r_7 => (if r_7 = 0 then some ((-1 : Int32), v_one, v_two, v_ways, v_now, v_then) else bd1 (D_X10_in p4.toInt64 (lN 1) (lN 100)) (fun r_10 => (if r_10 = 0 then some ((-1 : Int32), v_one, v_two, v_ways, v_now, v_then) else bd1 (D_X10_isTold p1 v_l) (fun r_13 => (if r_13 = 0 then some ((-2 : Int32), v_one, v_two, v_ways, v_now, v_then) else lpg (T := Int32 → (Nat → Int32) → (Nat → Int32) → (Nat → Int32) → (Nat → Int64) → (Nat → Int64) → Option (Int32 × (Nat → Int32) × (Nat → Int32) × (Nat → Int32) × (Nat → Int64) × (Nat → Int64))) (fun _ _ _ _ _ _ => none) (b_X10_ready_58 p1 p2 p3 p4 v_l v_stands F) F (nI 0) v_one v_two v_ways v_now v_then))))))))))
abbrev rm_X10_ready : Room := { frames := 6, cells := 0, slots := 0, locals := 141 }
set_option maxHeartbeats 4000000 in
set_option maxRecDepth 100000 in
theorem c_X10_ready (l : Launch) (D : va_G) (ca : Nat → ClassId) (F : Nat) (sz : Nat) (q_this q_text q_read q_l q_stands q_kept q_one q_two q_ways q_now q_then : Nat) (p1 : Int32) (p2 : Int32) (p3 : Int32) (p4 : Int32) (v_size : Int32) (v_at : Int32) (v_keptMany : Int32) (v_l : Nat → Int32) (v_stands : Nat → Int32) (v_one : Nat → Int32) (v_two : Nat → Int32) (v_ways : Nat → Int32) (v_now : Nat → Int64) (v_then : Nat → Int64) (r : Int32) (o_one : Nat → Int32) (o_two : Nat → Int32) (o_ways : Nat → Int32) (o_now : Nat → Int64) (o_then : Nat → Int64) (h : D_X10_ready F p1 p2 p3 p4 v_l v_stands v_one v_two v_ways v_now v_then = some (r, o_one, o_two, o_ways, o_now, o_then)) : Met l yX10_ready wsX10_ready rm_X10_ready (va_Pc [.ref q_this, .int p1, .int p2, .int p3, .int p4] (kPre D ca [(q_this, .inr (8, [.ref q_text, .int v_size, .int v_at, .ref q_read, .ref q_l, .ref q_stands, .ref q_kept, .int v_keptMany, .ref q_one, .ref q_two, .ref q_ways, .ref q_now, .ref q_then])), (q_l, .inl (ca 0, 336, .inl v_l)), (q_stands, .inl (ca 0, 16, .inl v_stands)), (q_one, .inl (ca 0, 7, .inl v_one)), (q_two, .inl (ca 0, 7, .inl v_two)), (q_ways, .inl (ca 0, 49, .inl v_ways)), (q_now, .inl (ca 1, 81, .inr (.inl v_now))), (q_then, .inl (ca 1, 81, .inr (.inl v_then)))] sz)) (kQi D ca (va_A [(q_this, .inr (8, [.ref q_text, .int v_size, .int v_at, .ref q_read, .ref q_l, .ref q_stands, .ref q_kept, .int v_keptMany, .ref q_one, .ref q_two, .ref q_ways, .ref q_now, .ref q_then])), (q_l, .inl (ca 0, 336, .inl v_l)), (q_stands, .inl (ca 0, 16, .inl v_stands)), (q_one, .inl (ca 0, 7, .inl v_one)), (q_two, .inl (ca 0, 7, .inl v_two)), (q_ways, .inl (ca 0, 49, .inl v_ways)), (q_now, .inl (ca 1, 81, .inr (.inl v_now))), (q_then, .inl (ca 1, 81, .inr (.inl v_then)))] sz) [(q_this, .inr (8, [.ref q_text, .int v_size, .int v_at, .ref q_read, .ref q_l, .ref q_stands, .ref q_kept, .int v_keptMany, .ref q_one, .ref q_two, .ref q_ways, .ref q_now, .ref q_then])), (q_l, .inl (ca 0, 336, .inl v_l)), (q_stands, .inl (ca 0, 16, .inl v_stands)), (q_one, .inl (ca 0, 7, .inl o_one)), (q_two, .inl (ca 0, 7, .inl o_two)), (q_ways, .inl (ca 0, 49, .inl o_ways)), (q_now, .inl (ca 1, 81, .inr (.inl o_now))), (q_then, .inl (ca 1, 81, .inr (.inl o_then)))] r) 0 0 (va_A [(q_this, .inr (8, [.ref q_text, .int v_size, .int v_at, .ref q_read, .ref q_l, .ref q_stands, .ref q_kept, .int v_keptMany, .ref q_one, .ref q_two, .ref q_ways, .ref q_now, .ref q_then])), (q_l, .inl (ca 0, 336, .inl v_l)), (q_stands, .inl (ca 0, 16, .inl v_stands)), (q_one, .inl (ca 0, 7, .inl v_one)), (q_two, .inl (ca 0, 7, .inl v_two)), (q_ways, .inl (ca 0, 49, .inl v_ways)), (q_now, .inl (ca 1, 81, .inr (.inl v_now))), (q_then, .inl (ca 1, 81, .inr (.inl v_then)))] sz) := by
  refine Met.ofW (cc := cX10_ready) (maxL := 6) (ret := (some .int)) (by decide +kernel) rfl ?_
  intro p e s m args below meth c s₁ B hml hv
  obtain ⟨rfl, hsz, hP, hK, hD0⟩ := hv
  have hx := B.exec
  have hb := B.bytes
  have hr := B.returns
  have hts := atoms_spec (ws := wsX10_ready) B.pre
  have hown : s.vm.findClass RX10 = some m.cls := findClass_of_methodNamed B.named
  have hlocks := B.notSynchronized
  clear B
  subst hsz
  have hD := hD0.self (sz := s.heap.size)
  generalize hAe : va_A [(q_this, .inr (8, [.ref q_text, .int v_size, .int v_at, .ref q_read, .ref q_l, .ref q_stands, .ref q_kept, .int v_keptMany, .ref q_one, .ref q_two, .ref q_ways, .ref q_now, .ref q_then])), (q_l, .inl (ca 0, 336, .inl v_l)), (q_stands, .inl (ca 0, 16, .inl v_stands)), (q_one, .inl (ca 0, 7, .inl v_one)), (q_two, .inl (ca 0, 7, .inl v_two)), (q_ways, .inl (ca 0, 49, .inl v_ways)), (q_now, .inl (ca 1, 81, .inr (.inl v_now))), (q_then, .inl (ca 1, 81, .inr (.inl v_then)))] s.heap.size = A at hD ⊢
  have hA : ∀ q : Nat, s.heap.size ≤ q → A q := fun q h => by rw [← hAe]; exact Or.inr h
  have hS : va_S A s.heap s.heap [] := va_S.rf
  have hl := lv_entry ([.ref q_this, .int p1, .int p2, .int p3, .int p4]) (n := 6) (Nat.le_of_ble_eq_true rfl)
  rw [lg_entry_eq]
  generalize (lg_sl ([.ref q_this, .int p1, .int p2, .int p3, .int p4]) ++ List.replicate (6 - (lg_sl ([.ref q_this, .int p1, .int p2, .int p3, .int p4])).length) Slot.unset).toArray = ls at hl ⊢
  have hl : lv_has ls 6 [(0, .ref q_this), (1, .int p1), (2, .int p2), (3, .int p3), (4, .int p4)] := hl
  generalize ([.ref q_this, .int p1, .int p2, .int p3, .int p4] : List Value).toArray = args at hts ⊢
  generalize hQe : MQ below (kQi D ca (A) [(q_this, .inr (8, [.ref q_text, .int v_size, .int v_at, .ref q_read, .ref q_l, .ref q_stands, .ref q_kept, .int v_keptMany, .ref q_one, .ref q_two, .ref q_ways, .ref q_now, .ref q_then])), (q_l, .inl (ca 0, 336, .inl v_l)), (q_stands, .inl (ca 0, 16, .inl v_stands)), (q_one, .inl (ca 0, 7, .inl o_one)), (q_two, .inl (ca 0, 7, .inl o_two)), (q_ways, .inl (ca 0, 49, .inl o_ways)), (q_now, .inl (ca 1, 81, .inr (.inl o_now))), (q_then, .inl (ca 1, 81, .inr (.inl o_then)))] r) args s 0 0 A = Q
  have k_188 := hts (.constantLong RX10 188 (lN 200)) (by decide +kernel)
  have k_168 := hts (.constantLong RX10 168 (lN 100)) (by decide +kernel)
  have i_X10 : ∀ w ∈ u_ws RX10 TX10 13, w ∈ wsX10_ready := by decide +kernel
  have k_19 := hts (.fieldLink RX10 19 "TradeWordsModel" "stands" "[I") (by decide +kernel)
  have k_16 := hts (.fieldLink RX10 16 "TradeWordsModel" "l" "[I") (by decide +kernel)
  rw [D_X10_ready] at h
  refine lv_iload_n hx hb dX10_ready_0 rfl (lv_at hl 1 rfl) ?_
  obtain ⟨r_1, hg_2, h⟩ := bd1_el h
  refine kx_Si (As := [.int p1]) (rest := []) (wr := [(q_this, .inr (8, [.ref q_text, .int v_size, .int v_at, .ref q_read, .ref q_l, .ref q_stands, .ref q_kept, .int v_keptMany, .ref q_one, .ref q_two, .ref q_ways, .ref q_now, .ref q_then])), (q_l, .inl (ca 0, 336, .inl v_l)), (q_stands, .inl (ca 0, 16, .inl v_stands)), (q_one, .inl (ca 0, 7, .inl v_one)), (q_two, .inl (ca 0, 7, .inl v_two)), (q_ways, .inl (ca 0, 49, .inl v_ways)), (q_now, .inl (ca 1, 81, .inr (.inl v_now))), (q_then, .inl (ca 1, 81, .inr (.inl v_then)))]) (w1 := []) (wn := [(q_this, .inr (8, [.ref q_text, .int v_size, .int v_at, .ref q_read, .ref q_l, .ref q_stands, .ref q_kept, .int v_keptMany, .ref q_one, .ref q_two, .ref q_ways, .ref q_now, .ref q_then])), (q_l, .inl (ca 0, 336, .inl v_l)), (q_stands, .inl (ca 0, 16, .inl v_stands)), (q_one, .inl (ca 0, 7, .inl v_one)), (q_two, .inl (ca 0, 7, .inl v_two)), (q_ways, .inl (ca 0, 49, .inl v_ways)), (q_now, .inl (ca 1, 81, .inr (.inl v_now))), (q_then, .inl (ca 1, 81, .inr (.inl v_then)))]) ⟨hx, hb, hml, hown, hts⟩ (c_X10_isMeaning l D ca s.heap.size p1 r_1 hg_2) (va_cwS 1 hts gX10_ready_X10_isMeaning rfl rfl rfl (by decide +kernel) ⟨(Nat.le_of_ble_eq_true rfl), (Nat.le_of_ble_eq_true rfl)⟩) hK hP hD hS hA [] [0, 1, 2, 3, 4, 5, 6, 7] [0, 1, 2, 3, 4, 5, 6, 7] rfl rfl rfl rfl (by decide) rfl rfl rfl hl.1 rfl (Nat.le_of_ble_eq_true rfl) dX10_ready_1 ⟨Nat.zero_le _, Nat.zero_le _⟩ (fun H locs hP hD hS => ?_)
  refine lv_if_eq (tgt := 42) hx hb dX10_ready_4 (by decide) (fun c_3 => ?_) (fun c_3 => ?_)
  · replace h := ifp_el c_3 h
    refine lv_iconst (v := (-1 : Int32)) hx hb dX10_ready_42 (by decide) ?_
    cases h
    rw [← hQe]
    exact W.iret hx hb hr (fun t ht hW => ⟨⟨_, (), rfl, rfl, by rw [ht]; exact hP, va_K.moved hW.alike hK, hD⟩, hS.F ht⟩) hS.2.2 dX10_ready_43
  · replace h := ifn_el c_3 h
    refine lv_iload_n hx hb dX10_ready_7 rfl (lv_at hl 2 rfl) ?_
    refine lv_i2l hx hb dX10_ready_8 rfl ?_
    refine lv_lconst (v := (lN 0)) hx hb dX10_ready_9 (by decide) ?_
    refine lv_ldc2 hx hb hown k_188 dX10_ready_10 ?_
    obtain ⟨r_4, hg_5, h⟩ := bd1_el h
    refine kx_Si (As := [.long p2.toInt64, .long (lN 0), .long (lN 200)]) (rest := []) (wr := [(q_this, .inr (8, [.ref q_text, .int v_size, .int v_at, .ref q_read, .ref q_l, .ref q_stands, .ref q_kept, .int v_keptMany, .ref q_one, .ref q_two, .ref q_ways, .ref q_now, .ref q_then])), (q_l, .inl (ca 0, 336, .inl v_l)), (q_stands, .inl (ca 0, 16, .inl v_stands)), (q_one, .inl (ca 0, 7, .inl v_one)), (q_two, .inl (ca 0, 7, .inl v_two)), (q_ways, .inl (ca 0, 49, .inl v_ways)), (q_now, .inl (ca 1, 81, .inr (.inl v_now))), (q_then, .inl (ca 1, 81, .inr (.inl v_then)))]) (w1 := []) (wn := [(q_this, .inr (8, [.ref q_text, .int v_size, .int v_at, .ref q_read, .ref q_l, .ref q_stands, .ref q_kept, .int v_keptMany, .ref q_one, .ref q_two, .ref q_ways, .ref q_now, .ref q_then])), (q_l, .inl (ca 0, 336, .inl v_l)), (q_stands, .inl (ca 0, 16, .inl v_stands)), (q_one, .inl (ca 0, 7, .inl v_one)), (q_two, .inl (ca 0, 7, .inl v_two)), (q_ways, .inl (ca 0, 49, .inl v_ways)), (q_now, .inl (ca 1, 81, .inr (.inl v_now))), (q_then, .inl (ca 1, 81, .inr (.inl v_then)))]) ⟨hx, hb, hml, hown, hts⟩ (c_X10_in l D ca H.size p2.toInt64 (lN 0) (lN 200) r_4 hg_5) (va_cwS 3 hts gX10_ready_X10_in rfl rfl rfl (by decide +kernel) ⟨(Nat.le_of_ble_eq_true rfl), (Nat.le_of_ble_eq_true rfl)⟩) hK hP hD hS hA [] [0, 1, 2, 3, 4, 5, 6, 7] [0, 1, 2, 3, 4, 5, 6, 7] rfl rfl rfl rfl (by decide) rfl rfl rfl hl.1 rfl (Nat.le_of_ble_eq_true rfl) dX10_ready_13 ⟨Nat.zero_le _, Nat.zero_le _⟩ (fun H locs hP hD hS => ?_)
    refine lv_if_eq (tgt := 42) hx hb dX10_ready_16 (by decide) (fun c_6 => ?_) (fun c_6 => ?_)
    · replace h := ifp_el c_6 h
      refine lv_iconst (v := (-1 : Int32)) hx hb dX10_ready_42 (by decide) ?_
      cases h
      rw [← hQe]
      exact W.iret hx hb hr (fun t ht hW => ⟨⟨_, (), rfl, rfl, by rw [ht]; exact hP, va_K.moved hW.alike hK, hD⟩, hS.F ht⟩) hS.2.2 dX10_ready_43
    · replace h := ifn_el c_6 h
      refine lv_iload_n hx hb dX10_ready_19 rfl (lv_at hl 3 rfl) ?_
      refine lv_i2l hx hb dX10_ready_20 rfl ?_
      refine lv_lconst (v := (lN 0)) hx hb dX10_ready_21 (by decide) ?_
      refine lv_lconst (v := (lN 1)) hx hb dX10_ready_22 (by decide) ?_
      obtain ⟨r_7, hg_8, h⟩ := bd1_el h
      refine kx_Si (As := [.long p3.toInt64, .long (lN 0), .long (lN 1)]) (rest := []) (wr := [(q_this, .inr (8, [.ref q_text, .int v_size, .int v_at, .ref q_read, .ref q_l, .ref q_stands, .ref q_kept, .int v_keptMany, .ref q_one, .ref q_two, .ref q_ways, .ref q_now, .ref q_then])), (q_l, .inl (ca 0, 336, .inl v_l)), (q_stands, .inl (ca 0, 16, .inl v_stands)), (q_one, .inl (ca 0, 7, .inl v_one)), (q_two, .inl (ca 0, 7, .inl v_two)), (q_ways, .inl (ca 0, 49, .inl v_ways)), (q_now, .inl (ca 1, 81, .inr (.inl v_now))), (q_then, .inl (ca 1, 81, .inr (.inl v_then)))]) (w1 := []) (wn := [(q_this, .inr (8, [.ref q_text, .int v_size, .int v_at, .ref q_read, .ref q_l, .ref q_stands, .ref q_kept, .int v_keptMany, .ref q_one, .ref q_two, .ref q_ways, .ref q_now, .ref q_then])), (q_l, .inl (ca 0, 336, .inl v_l)), (q_stands, .inl (ca 0, 16, .inl v_stands)), (q_one, .inl (ca 0, 7, .inl v_one)), (q_two, .inl (ca 0, 7, .inl v_two)), (q_ways, .inl (ca 0, 49, .inl v_ways)), (q_now, .inl (ca 1, 81, .inr (.inl v_now))), (q_then, .inl (ca 1, 81, .inr (.inl v_then)))]) ⟨hx, hb, hml, hown, hts⟩ (c_X10_in l D ca H.size p3.toInt64 (lN 0) (lN 1) r_7 hg_8) (va_cwS 3 hts gX10_ready_X10_in rfl rfl rfl (by decide +kernel) ⟨(Nat.le_of_ble_eq_true rfl), (Nat.le_of_ble_eq_true rfl)⟩) hK hP hD hS hA [] [0, 1, 2, 3, 4, 5, 6, 7] [0, 1, 2, 3, 4, 5, 6, 7] rfl rfl rfl rfl (by decide) rfl rfl rfl hl.1 rfl (Nat.le_of_ble_eq_true rfl) dX10_ready_23 ⟨Nat.zero_le _, Nat.zero_le _⟩ (fun H locs hP hD hS => ?_)
      refine lv_if_eq (tgt := 42) hx hb dX10_ready_26 (by decide) (fun c_9 => ?_) (fun c_9 => ?_)
      · replace h := ifp_el c_9 h
        refine lv_iconst (v := (-1 : Int32)) hx hb dX10_ready_42 (by decide) ?_
        cases h
        rw [← hQe]
        exact W.iret hx hb hr (fun t ht hW => ⟨⟨_, (), rfl, rfl, by rw [ht]; exact hP, va_K.moved hW.alike hK, hD⟩, hS.F ht⟩) hS.2.2 dX10_ready_43
      · replace h := ifn_el c_9 h
        refine lv_iload hx hb dX10_ready_29 (lv_at hl 4 rfl) ?_
        refine lv_i2l hx hb dX10_ready_31 rfl ?_
        refine lv_lconst (v := (lN 1)) hx hb dX10_ready_32 (by decide) ?_
        refine lv_ldc2 hx hb hown k_168 dX10_ready_33 ?_
        obtain ⟨r_10, hg_11, h⟩ := bd1_el h
        refine kx_Si (As := [.long p4.toInt64, .long (lN 1), .long (lN 100)]) (rest := []) (wr := [(q_this, .inr (8, [.ref q_text, .int v_size, .int v_at, .ref q_read, .ref q_l, .ref q_stands, .ref q_kept, .int v_keptMany, .ref q_one, .ref q_two, .ref q_ways, .ref q_now, .ref q_then])), (q_l, .inl (ca 0, 336, .inl v_l)), (q_stands, .inl (ca 0, 16, .inl v_stands)), (q_one, .inl (ca 0, 7, .inl v_one)), (q_two, .inl (ca 0, 7, .inl v_two)), (q_ways, .inl (ca 0, 49, .inl v_ways)), (q_now, .inl (ca 1, 81, .inr (.inl v_now))), (q_then, .inl (ca 1, 81, .inr (.inl v_then)))]) (w1 := []) (wn := [(q_this, .inr (8, [.ref q_text, .int v_size, .int v_at, .ref q_read, .ref q_l, .ref q_stands, .ref q_kept, .int v_keptMany, .ref q_one, .ref q_two, .ref q_ways, .ref q_now, .ref q_then])), (q_l, .inl (ca 0, 336, .inl v_l)), (q_stands, .inl (ca 0, 16, .inl v_stands)), (q_one, .inl (ca 0, 7, .inl v_one)), (q_two, .inl (ca 0, 7, .inl v_two)), (q_ways, .inl (ca 0, 49, .inl v_ways)), (q_now, .inl (ca 1, 81, .inr (.inl v_now))), (q_then, .inl (ca 1, 81, .inr (.inl v_then)))]) ⟨hx, hb, hml, hown, hts⟩ (c_X10_in l D ca H.size p4.toInt64 (lN 1) (lN 100) r_10 hg_11) (va_cwS 3 hts gX10_ready_X10_in rfl rfl rfl (by decide +kernel) ⟨(Nat.le_of_ble_eq_true rfl), (Nat.le_of_ble_eq_true rfl)⟩) hK hP hD hS hA [] [0, 1, 2, 3, 4, 5, 6, 7] [0, 1, 2, 3, 4, 5, 6, 7] rfl rfl rfl rfl (by decide) rfl rfl rfl hl.1 rfl (Nat.le_of_ble_eq_true rfl) dX10_ready_36 ⟨Nat.zero_le _, Nat.zero_le _⟩ (fun H locs hP hD hS => ?_)
        refine lv_if_ne (tgt := 44) hx hb dX10_ready_39 (by decide) (fun c_12 => ?_) (fun c_12 => ?_)
        · replace h := ifn_el c_12 h
          refine lv_aload_n hx hb dX10_ready_44 rfl (lv_at hl 0 rfl) ?_
          refine lv_iload_n hx hb dX10_ready_45 rfl (lv_at hl 1 rfl) ?_
          obtain ⟨r_13, hg_14, h⟩ := bd1_el h
          refine kx_Vi (As := [.int p1]) (rest := []) (wr := [(q_stands, .inl (ca 0, 16, .inl v_stands)), (q_one, .inl (ca 0, 7, .inl v_one)), (q_two, .inl (ca 0, 7, .inl v_two)), (q_ways, .inl (ca 0, 49, .inl v_ways)), (q_now, .inl (ca 1, 81, .inr (.inl v_now))), (q_then, .inl (ca 1, 81, .inr (.inl v_then)))]) (w1 := [(q_this, .inr (8, [.ref q_text, .int v_size, .int v_at, .ref q_read, .ref q_l, .ref q_stands, .ref q_kept, .int v_keptMany, .ref q_one, .ref q_two, .ref q_ways, .ref q_now, .ref q_then])), (q_l, .inl (ca 0, 336, .inl v_l))]) (wn := [(q_this, .inr (8, [.ref q_text, .int v_size, .int v_at, .ref q_read, .ref q_l, .ref q_stands, .ref q_kept, .int v_keptMany, .ref q_one, .ref q_two, .ref q_ways, .ref q_now, .ref q_then])), (q_l, .inl (ca 0, 336, .inl v_l)), (q_stands, .inl (ca 0, 16, .inl v_stands)), (q_one, .inl (ca 0, 7, .inl v_one)), (q_two, .inl (ca 0, 7, .inl v_two)), (q_ways, .inl (ca 0, 49, .inl v_ways)), (q_now, .inl (ca 1, 81, .inr (.inl v_now))), (q_then, .inl (ca 1, 81, .inr (.inl v_then)))]) ⟨hx, hb, hml, hown, hts⟩ (c_X10_isTold l D ca H.size q_this q_text q_read q_l q_stands q_kept q_one q_two q_ways q_now q_then p1 v_size v_at v_keptMany v_l r_13 hg_14) (cwV 1 hts gX10_ready_X10_isTold rfl rfl rfl (by decide +kernel) ⟨(Nat.le_of_ble_eq_true rfl), (Nat.le_of_ble_eq_true rfl)⟩) hK hP hD hS hA (ci := 8) (q0 := 0) rfl rfl [0, 1] [2, 3, 4, 5, 6, 7] [6, 7, 0, 1, 2, 3, 4, 5] rfl rfl rfl rfl (by decide) rfl rfl rfl hl.1 rfl (Nat.le_of_ble_eq_true rfl) dX10_ready_46 ⟨Nat.zero_le _, Nat.zero_le _⟩ (fun H locs hP hD hS => ?_)
          refine lv_if_ne (tgt := 55) hx hb dX10_ready_49 (by decide) (fun c_15 => ?_) (fun c_15 => ?_)
          · replace h := ifn_el c_15 h
            refine lv_iconst (v := (nI 0)) hx hb dX10_ready_55 (by decide) ?_
            refine lv_istore (lv' := [(5, .int (nI 0)), (0, .ref q_this), (1, .int p1), (2, .int p2), (3, .int p3), (4, .int p4)]) hx hb dX10_ready_56 hl (by decide) rfl (fun ls hl => ?_)
            have hlp : ∀ (n : Nat) (x5_16 : Int32) (y_one_17 : Nat → Int32) (y_two_18 : Nat → Int32) (y_ways_19 : Nat → Int32) (y_now_20 : Nat → Int64) (y_then_21 : Nat → Int64) (H : Heap) (locs : List Loc) (ls : Array Slot), lpg (T := Int32 → (Nat → Int32) → (Nat → Int32) → (Nat → Int32) → (Nat → Int64) → (Nat → Int64) → Option (Int32 × (Nat → Int32) × (Nat → Int32) × (Nat → Int32) × (Nat → Int64) × (Nat → Int64))) (fun _ _ _ _ _ _ => none) (b_X10_ready_58 p1 p2 p3 p4 v_l v_stands F) n x5_16 y_one_17 y_two_18 y_ways_19 y_now_20 y_then_21 = some (r, o_one, o_two, o_ways, o_now, o_then) → va_P D vwCl [(q_this, .inr (8, [.ref q_text, .int v_size, .int v_at, .ref q_read, .ref q_l, .ref q_stands, .ref q_kept, .int v_keptMany, .ref q_one, .ref q_two, .ref q_ways, .ref q_now, .ref q_then])), (q_l, .inl (ca 0, 336, .inl v_l)), (q_stands, .inl (ca 0, 16, .inl v_stands)), (q_one, .inl (ca 0, 7, .inl y_one_17)), (q_two, .inl (ca 0, 7, .inl y_two_18)), (q_ways, .inl (ca 0, 49, .inl y_ways_19)), (q_now, .inl (ca 1, 81, .inr (.inl y_now_20))), (q_then, .inl (ca 1, 81, .inr (.inl y_then_21)))] H → va_D A [(q_this, .inr (8, [.ref q_text, .int v_size, .int v_at, .ref q_read, .ref q_l, .ref q_stands, .ref q_kept, .int v_keptMany, .ref q_one, .ref q_two, .ref q_ways, .ref q_now, .ref q_then])), (q_l, .inl (ca 0, 336, .inl v_l)), (q_stands, .inl (ca 0, 16, .inl v_stands)), (q_one, .inl (ca 0, 7, .inl y_one_17)), (q_two, .inl (ca 0, 7, .inl y_two_18)), (q_ways, .inl (ca 0, 49, .inl y_ways_19)), (q_now, .inl (ca 1, 81, .inr (.inl y_now_20))), (q_then, .inl (ca 1, 81, .inr (.inl y_then_21)))] → va_S A s.heap H locs → lv_has ls 6 [(0, .ref q_this), (1, .int p1), (2, .int p2), (3, .int p3), (4, .int p4), (5, .int x5_16)] → W p l e (headSpec wsX10_ready rm_X10_ready).room s m args below meth c H locs 0 0 Q (F0 m 58 ls []) := by
              intro n
              induction n with
              | zero => intro x5_16 y_one_17 y_two_18 y_ways_19 y_now_20 y_then_21 H locs ls h; have h : (none : Option (Int32 × (Nat → Int32) × (Nat → Int32) × (Nat → Int32) × (Nat → Int64) × (Nat → Int64))) = some _ := h; cases h
              | succ n ih =>
                intro x5_16 y_one_17 y_two_18 y_ways_19 y_now_20 y_then_21 H locs ls h hP hD hS hl
                rw [lpg_succ, b_X10_ready_58] at h
                refine lv_iload hx hb dX10_ready_58 (lv_at hl 5 rfl) ?_
                refine lv_bipush (v := (nI 10)) hx hb dX10_ready_60 (by decide) ?_
                refine lv_icmp_gt (tgt := 151) hx hb dX10_ready_62 (by decide) (fun c_22 => ?_) (fun c_22 => ?_)
                · replace h := ifp_el c_22 h
                  refine lv_bipush (v := (-4 : Int32)) hx hb dX10_ready_151 (by decide) ?_
                  cases h
                  rw [← hQe]
                  exact W.iret hx hb hr (fun t ht hW => ⟨⟨_, (), rfl, rfl, by rw [ht]; exact hP, va_K.moved hW.alike hK, hD⟩, hS.F ht⟩) hS.2.2 dX10_ready_153
                · replace h := ifn_el c_22 h
                  refine lv_aload_n hx hb dX10_ready_65 rfl (lv_at hl 0 rfl) ?_
                  refine lv_aload_n hx hb dX10_ready_66 rfl (lv_at hl 0 rfl) ?_
                  refine va_get (D := D) (ci := 8) (v := .ref q_stands) (C := RX10) (T := TX10) (N := 13) hx hb hts i_X10 hown hK hP 0 rfl rfl 5 (by decide) k_19 (fun _ h9 => h9) rfl dX10_ready_67 ?_
                  refine lv_iconst (v := (nI 2)) hx hb dX10_ready_70 (by decide) ?_
                  refine lv_iload_n hx hb dX10_ready_71 rfl (lv_at hl 1 rfl) ?_
                  refine lv_imul hx hb dX10_ready_72 ?_
                  obtain ⟨hi_23, h⟩ := ck_el h
                  refine va_iald hx hb hK hP 2 0 rfl rfl hi_23 dX10_ready_73 ?_
                  refine lv_aload_n hx hb dX10_ready_74 rfl (lv_at hl 0 rfl) ?_
                  refine va_get (D := D) (ci := 8) (v := .ref q_stands) (C := RX10) (T := TX10) (N := 13) hx hb hts i_X10 hown hK hP 0 rfl rfl 5 (by decide) k_19 (fun _ h9 => h9) rfl dX10_ready_75 ?_
                  refine lv_iconst (v := (nI 2)) hx hb dX10_ready_78 (by decide) ?_
                  refine lv_iload_n hx hb dX10_ready_79 rfl (lv_at hl 1 rfl) ?_
                  refine lv_imul hx hb dX10_ready_80 ?_
                  refine lv_iconst (v := (nI 1)) hx hb dX10_ready_81 (by decide) ?_
                  refine lv_iadd hx hb dX10_ready_82 ?_
                  obtain ⟨hi_24, h⟩ := ck_el h
                  refine va_iald hx hb hK hP 2 0 rfl rfl hi_24 dX10_ready_83 ?_
                  obtain ⟨y_now_25, hg_26, h⟩ := bd1_el h
                  refine kx_Vv (As := [.int (v_stands ((nI 2) * p1).toNatClampNeg), .int (v_stands (((nI 2) * p1) + (nI 1)).toNatClampNeg)]) (rest := []) (wr := [(q_l, .inl (ca 0, 336, .inl v_l)), (q_stands, .inl (ca 0, 16, .inl v_stands)), (q_one, .inl (ca 0, 7, .inl y_one_17)), (q_two, .inl (ca 0, 7, .inl y_two_18)), (q_ways, .inl (ca 0, 49, .inl y_ways_19)), (q_then, .inl (ca 1, 81, .inr (.inl y_then_21)))]) (w1 := [(q_this, .inr (8, [.ref q_text, .int v_size, .int v_at, .ref q_read, .ref q_l, .ref q_stands, .ref q_kept, .int v_keptMany, .ref q_one, .ref q_two, .ref q_ways, .ref q_now, .ref q_then])), (q_now, .inl (ca 1, 81, .inr (.inl y_now_25)))]) (wn := [(q_this, .inr (8, [.ref q_text, .int v_size, .int v_at, .ref q_read, .ref q_l, .ref q_stands, .ref q_kept, .int v_keptMany, .ref q_one, .ref q_two, .ref q_ways, .ref q_now, .ref q_then])), (q_l, .inl (ca 0, 336, .inl v_l)), (q_stands, .inl (ca 0, 16, .inl v_stands)), (q_one, .inl (ca 0, 7, .inl y_one_17)), (q_two, .inl (ca 0, 7, .inl y_two_18)), (q_ways, .inl (ca 0, 49, .inl y_ways_19)), (q_now, .inl (ca 1, 81, .inr (.inl y_now_25))), (q_then, .inl (ca 1, 81, .inr (.inl y_then_21)))]) ⟨hx, hb, hml, hown, hts⟩ (c_X10_beginAt l D ca F H.size q_this q_text q_read q_l q_stands q_kept q_one q_two q_ways q_now q_then (v_stands ((nI 2) * p1).toNatClampNeg) (v_stands (((nI 2) * p1) + (nI 1)).toNatClampNeg) v_size v_at v_keptMany y_now_20 y_now_25 hg_26) (cwV 2 hts gX10_ready_X10_beginAt rfl rfl rfl (by decide +kernel) ⟨(Nat.le_of_ble_eq_true rfl), (Nat.le_of_ble_eq_true rfl)⟩) hK hP hD hS hA (ci := 8) (q0 := 0) rfl rfl [0, 6] [1, 2, 3, 4, 5, 7] [6, 0, 1, 2, 3, 4, 7, 5] rfl rfl rfl rfl (by decide) rfl rfl rfl hl.1 rfl (Nat.le_of_ble_eq_true rfl) dX10_ready_84 ⟨Nat.zero_le _, Nat.zero_le _⟩ (fun H locs hP hD hS => ?_)
                  refine lv_aload_n hx hb dX10_ready_87 rfl (lv_at hl 0 rfl) ?_
                  refine lv_iload_n hx hb dX10_ready_88 rfl (lv_at hl 1 rfl) ?_
                  refine lv_iload_n hx hb dX10_ready_89 rfl (lv_at hl 2 rfl) ?_
                  refine lv_aload_n hx hb dX10_ready_90 rfl (lv_at hl 0 rfl) ?_
                  refine va_get (D := D) (ci := 8) (v := .ref q_l) (C := RX10) (T := TX10) (N := 13) hx hb hts i_X10 hown hK hP 0 rfl rfl 4 (by decide) k_16 (fun _ h9 => h9) rfl dX10_ready_91 ?_
                  refine lv_sipush (v := (nI 298)) hx hb dX10_ready_94 (by decide) ?_
                  obtain ⟨hi_27, h⟩ := ck_el h
                  refine va_iald hx hb hK hP 1 0 rfl rfl hi_27 dX10_ready_97 ?_
                  refine lv_aload_n hx hb dX10_ready_98 rfl (lv_at hl 0 rfl) ?_
                  refine va_get (D := D) (ci := 8) (v := .ref q_l) (C := RX10) (T := TX10) (N := 13) hx hb hts i_X10 hown hK hP 0 rfl rfl 4 (by decide) k_16 (fun _ h9 => h9) rfl dX10_ready_99 ?_
                  refine lv_sipush (v := (nI 299)) hx hb dX10_ready_102 (by decide) ?_
                  obtain ⟨hi_28, h⟩ := ck_el h
                  refine va_iald hx hb hK hP 1 0 rfl rfl hi_28 dX10_ready_105 ?_
                  refine lv_iload hx hb dX10_ready_106 (lv_at hl 5 rfl) ?_
                  refine lv_iload hx hb dX10_ready_108 (lv_at hl 5 rfl) ?_
                  obtain ⟨y_one_29, y_two_30, y_ways_31, y_now_32, y_then_33, hg_34, h⟩ := bd5_el h
                  refine kx_Vv (As := [.int p1, .int p2, .int (v_l (nI 298).toNatClampNeg), .int (v_l (nI 299).toNatClampNeg), .int x5_16, .int x5_16]) (rest := []) (wr := [(q_stands, .inl (ca 0, 16, .inl v_stands))]) (w1 := [(q_this, .inr (8, [.ref q_text, .int v_size, .int v_at, .ref q_read, .ref q_l, .ref q_stands, .ref q_kept, .int v_keptMany, .ref q_one, .ref q_two, .ref q_ways, .ref q_now, .ref q_then])), (q_l, .inl (ca 0, 336, .inl v_l)), (q_one, .inl (ca 0, 7, .inl y_one_29)), (q_two, .inl (ca 0, 7, .inl y_two_30)), (q_ways, .inl (ca 0, 49, .inl y_ways_31)), (q_now, .inl (ca 1, 81, .inr (.inl y_now_32))), (q_then, .inl (ca 1, 81, .inr (.inl y_then_33)))]) (wn := [(q_this, .inr (8, [.ref q_text, .int v_size, .int v_at, .ref q_read, .ref q_l, .ref q_stands, .ref q_kept, .int v_keptMany, .ref q_one, .ref q_two, .ref q_ways, .ref q_now, .ref q_then])), (q_l, .inl (ca 0, 336, .inl v_l)), (q_stands, .inl (ca 0, 16, .inl v_stands)), (q_one, .inl (ca 0, 7, .inl y_one_29)), (q_two, .inl (ca 0, 7, .inl y_two_30)), (q_ways, .inl (ca 0, 49, .inl y_ways_31)), (q_now, .inl (ca 1, 81, .inr (.inl y_now_32))), (q_then, .inl (ca 1, 81, .inr (.inl y_then_33)))]) ⟨hx, hb, hml, hown, hts⟩ (c_X10_goOn l D ca F H.size q_this q_text q_read q_l q_stands q_kept q_one q_two q_ways q_now q_then p1 p2 (v_l (nI 298).toNatClampNeg) (v_l (nI 299).toNatClampNeg) x5_16 x5_16 v_size v_at v_keptMany v_l y_one_17 y_two_18 y_ways_19 y_now_25 y_then_21 y_one_29 y_two_30 y_ways_31 y_now_32 y_then_33 hg_34) (cwV 6 hts gX10_ready_X10_goOn rfl rfl rfl (by decide +kernel) ⟨(Nat.le_of_ble_eq_true rfl), (Nat.le_of_ble_eq_true rfl)⟩) hK hP hD hS hA (ci := 8) (q0 := 0) rfl rfl [0, 1, 3, 4, 5, 6, 7] [2] [1, 2, 0, 3, 4, 5, 6, 7] rfl rfl rfl rfl (by decide) rfl rfl rfl hl.1 rfl (Nat.le_of_ble_eq_true rfl) dX10_ready_110 ⟨Nat.zero_le _, Nat.zero_le _⟩ (fun H locs hP hD hS => ?_)
                  refine lv_aload_n hx hb dX10_ready_113 rfl (lv_at hl 0 rfl) ?_
                  refine lv_iload_n hx hb dX10_ready_114 rfl (lv_at hl 3 rfl) ?_
                  refine lv_aload_n hx hb dX10_ready_115 rfl (lv_at hl 0 rfl) ?_
                  refine va_get (D := D) (ci := 8) (v := .ref q_l) (C := RX10) (T := TX10) (N := 13) hx hb hts i_X10 hown hK hP 0 rfl rfl 4 (by decide) k_16 (fun _ h9 => h9) rfl dX10_ready_116 ?_
                  refine lv_sipush (v := (nI 298)) hx hb dX10_ready_119 (by decide) ?_
                  obtain ⟨hi_35, h⟩ := ck_el h
                  refine va_iald hx hb hK hP 1 0 rfl rfl hi_35 dX10_ready_122 ?_
                  refine lv_aload_n hx hb dX10_ready_123 rfl (lv_at hl 0 rfl) ?_
                  refine va_get (D := D) (ci := 8) (v := .ref q_l) (C := RX10) (T := TX10) (N := 13) hx hb hts i_X10 hown hK hP 0 rfl rfl 4 (by decide) k_16 (fun _ h9 => h9) rfl dX10_ready_124 ?_
                  refine lv_sipush (v := (nI 299)) hx hb dX10_ready_127 (by decide) ?_
                  obtain ⟨hi_36, h⟩ := ck_el h
                  refine va_iald hx hb hK hP 1 0 rfl rfl hi_36 dX10_ready_130 ?_
                  obtain ⟨r_37, hg_38, h⟩ := bd1_el h
                  refine kx_Vl (As := [.int p3, .int (v_l (nI 298).toNatClampNeg), .int (v_l (nI 299).toNatClampNeg)]) (rest := []) (wr := [(q_l, .inl (ca 0, 336, .inl v_l)), (q_stands, .inl (ca 0, 16, .inl v_stands)), (q_one, .inl (ca 0, 7, .inl y_one_29)), (q_two, .inl (ca 0, 7, .inl y_two_30)), (q_ways, .inl (ca 0, 49, .inl y_ways_31)), (q_then, .inl (ca 1, 81, .inr (.inl y_then_33)))]) (w1 := [(q_this, .inr (8, [.ref q_text, .int v_size, .int v_at, .ref q_read, .ref q_l, .ref q_stands, .ref q_kept, .int v_keptMany, .ref q_one, .ref q_two, .ref q_ways, .ref q_now, .ref q_then])), (q_now, .inl (ca 1, 81, .inr (.inl y_now_32)))]) (wn := [(q_this, .inr (8, [.ref q_text, .int v_size, .int v_at, .ref q_read, .ref q_l, .ref q_stands, .ref q_kept, .int v_keptMany, .ref q_one, .ref q_two, .ref q_ways, .ref q_now, .ref q_then])), (q_l, .inl (ca 0, 336, .inl v_l)), (q_stands, .inl (ca 0, 16, .inl v_stands)), (q_one, .inl (ca 0, 7, .inl y_one_29)), (q_two, .inl (ca 0, 7, .inl y_two_30)), (q_ways, .inl (ca 0, 49, .inl y_ways_31)), (q_now, .inl (ca 1, 81, .inr (.inl y_now_32))), (q_then, .inl (ca 1, 81, .inr (.inl y_then_33)))]) ⟨hx, hb, hml, hown, hts⟩ (c_X10_wonBy l D ca H.size q_this q_text q_read q_l q_stands q_kept q_one q_two q_ways q_now q_then p3 (v_l (nI 298).toNatClampNeg) (v_l (nI 299).toNatClampNeg) v_size v_at v_keptMany y_now_32 r_37 hg_38) (cwV 3 hts gX10_ready_X10_wonBy rfl rfl rfl (by decide +kernel) ⟨(Nat.le_of_ble_eq_true rfl), (Nat.le_of_ble_eq_true rfl)⟩) hK hP hD hS hA (ci := 8) (q0 := 0) rfl rfl [0, 6] [1, 2, 3, 4, 5, 7] [6, 0, 1, 2, 3, 4, 7, 5] rfl rfl rfl rfl (by decide) rfl rfl rfl hl.1 rfl (Nat.le_of_ble_eq_true rfl) dX10_ready_131 ⟨Nat.zero_le _, Nat.zero_le _⟩ (fun H locs hP hD hS => ?_)
                  refine lv_iload hx hb dX10_ready_134 (lv_at hl 4 rfl) ?_
                  obtain ⟨r_39, hg_40, h⟩ := bd1_el h
                  refine kx_Si (As := [.long r_37, .int p4]) (rest := []) (wr := [(q_this, .inr (8, [.ref q_text, .int v_size, .int v_at, .ref q_read, .ref q_l, .ref q_stands, .ref q_kept, .int v_keptMany, .ref q_one, .ref q_two, .ref q_ways, .ref q_now, .ref q_then])), (q_l, .inl (ca 0, 336, .inl v_l)), (q_stands, .inl (ca 0, 16, .inl v_stands)), (q_one, .inl (ca 0, 7, .inl y_one_29)), (q_two, .inl (ca 0, 7, .inl y_two_30)), (q_ways, .inl (ca 0, 49, .inl y_ways_31)), (q_now, .inl (ca 1, 81, .inr (.inl y_now_32))), (q_then, .inl (ca 1, 81, .inr (.inl y_then_33)))]) (w1 := []) (wn := [(q_this, .inr (8, [.ref q_text, .int v_size, .int v_at, .ref q_read, .ref q_l, .ref q_stands, .ref q_kept, .int v_keptMany, .ref q_one, .ref q_two, .ref q_ways, .ref q_now, .ref q_then])), (q_l, .inl (ca 0, 336, .inl v_l)), (q_stands, .inl (ca 0, 16, .inl v_stands)), (q_one, .inl (ca 0, 7, .inl y_one_29)), (q_two, .inl (ca 0, 7, .inl y_two_30)), (q_ways, .inl (ca 0, 49, .inl y_ways_31)), (q_now, .inl (ca 1, 81, .inr (.inl y_now_32))), (q_then, .inl (ca 1, 81, .inr (.inl y_then_33)))]) ⟨hx, hb, hml, hown, hts⟩ (c_X10_isEnough l D ca H.size r_37 p4 r_39 hg_40) (va_cwS 2 hts gX10_ready_X10_isEnough rfl rfl rfl (by decide +kernel) ⟨(Nat.le_of_ble_eq_true rfl), (Nat.le_of_ble_eq_true rfl)⟩) hK hP hD hS hA [] [0, 1, 2, 3, 4, 5, 6, 7] [0, 1, 2, 3, 4, 5, 6, 7] rfl rfl rfl rfl (by decide) rfl rfl rfl hl.1 rfl (Nat.le_of_ble_eq_true rfl) dX10_ready_136 ⟨Nat.zero_le _, Nat.zero_le _⟩ (fun H locs hP hD hS => ?_)
                  refine lv_if_eq (tgt := 145) hx hb dX10_ready_139 (by decide) (fun c_41 => ?_) (fun c_41 => ?_)
                  · replace h := ifp_el c_41 h
                    obtain ⟨x5_42, e_43, h⟩ := nm_el h
                    refine lv_iinc (v := x5_42) (lv' := [(5, .int x5_42), (0, .ref q_this), (1, .int p1), (2, .int p2), (3, .int p3), (4, .int p4)]) hx hb dX10_ready_145 hl (k := 5) rfl (by rw [← e_43]; rfl) (by decide) rfl (fun ls hl => ?_)
                    refine lv_goto (tgt := 58) hx hb dX10_ready_148 (by decide) ?_
                    exact ih _ _ _ _ _ _ _ _ _ h hP hD hS (lv_sub hl [1, 2, 3, 4, 5, 0] rfl)
                  · replace h := ifn_el c_41 h
                    refine lv_iload hx hb dX10_ready_142 (lv_at hl 5 rfl) ?_
                    cases h
                    rw [← hQe]
                    exact W.iret hx hb hr (fun t ht hW => ⟨⟨_, (), rfl, rfl, by rw [ht]; exact hP, va_K.moved hW.alike hK, hD⟩, hS.F ht⟩) hS.2.2 dX10_ready_144
            exact hlp F (nI 0) v_one v_two v_ways v_now v_then H locs ls h hP hD hS (lv_sub hl [1, 2, 3, 4, 5, 0] rfl)
          · replace h := ifp_el c_15 h
            refine lv_bipush (v := (-2 : Int32)) hx hb dX10_ready_52 (by decide) ?_
            cases h
            rw [← hQe]
            exact W.iret hx hb hr (fun t ht hW => ⟨⟨_, (), rfl, rfl, by rw [ht]; exact hP, va_K.moved hW.alike hK, hD⟩, hS.F ht⟩) hS.2.2 dX10_ready_54
        · replace h := ifp_el c_12 h
          refine lv_iconst (v := (-1 : Int32)) hx hb dX10_ready_42 (by decide) ?_
          cases h
          rw [← hQe]
          exact W.iret hx hb hr (fun t ht hW => ⟨⟨_, (), rfl, rfl, by rw [ht]; exact hP, va_K.moved hW.alike hK, hD⟩, hS.F ht⟩) hS.2.2 dX10_ready_43
def D_X10_draw (p1 : Int32) (p2 : Int32) (p3 : Int32) (p4 : Int32) : Option (Int32) := nm ((((((lN 7919) * p1.toInt64) + ((lN 6151) * p3.toInt64)) + ((lN 3571) * p4.toInt64)) + ((lN 2011) * p2.toInt64)) + (lN 1)) (fun x4_1 => some (((x4_1 * x4_1) - (x4_1 * x4_1) / (lN 65521) * (lN 65521)).toInt32))
abbrev rm_X10_draw : Room := { frames := 0, cells := 0, slots := 0, locals := 0 }
set_option maxHeartbeats 4000000 in
set_option maxRecDepth 100000 in
theorem c_X10_draw (l : Launch) (D : va_G) (ca : Nat → ClassId) (sz : Nat) (p1 : Int32) (p2 : Int32) (p3 : Int32) (p4 : Int32) (r : Int32) (h : D_X10_draw p1 p2 p3 p4 = some (r)) : Met l yX10_draw wsX10_draw rm_X10_draw (va_Pc [.int p1, .int p2, .int p3, .int p4] (kPre D ca [] sz)) (kQi D ca (va_A [] sz) [] r) 0 0 (va_A [] sz) := by
  refine Met.ofW (cc := cX10_draw) (maxL := 6) (ret := (some .int)) (by decide +kernel) rfl ?_
  intro p e s m args below meth c s₁ B hml hv
  obtain ⟨rfl, hsz, hP, hK, hD0⟩ := hv
  have hx := B.exec
  have hb := B.bytes
  have hr := B.returns
  have hts := atoms_spec (ws := wsX10_draw) B.pre
  have hown : s.vm.findClass RX10 = some m.cls := findClass_of_methodNamed B.named
  have hlocks := B.notSynchronized
  clear B
  subst hsz
  have hD := hD0.self (sz := s.heap.size)
  generalize hAe : va_A [] s.heap.size = A at hD ⊢
  have hA : ∀ q : Nat, s.heap.size ≤ q → A q := fun q h => by rw [← hAe]; exact Or.inr h
  have hS : va_S A s.heap s.heap [] := va_S.rf
  have hl := lv_entry ([.int p1, .int p2, .int p3, .int p4]) (n := 6) (Nat.le_of_ble_eq_true rfl)
  rw [lg_entry_eq]
  generalize (lg_sl ([.int p1, .int p2, .int p3, .int p4]) ++ List.replicate (6 - (lg_sl ([.int p1, .int p2, .int p3, .int p4])).length) Slot.unset).toArray = ls at hl ⊢
  have hl : lv_has ls 6 [(0, .int p1), (1, .int p2), (2, .int p3), (3, .int p4)] := hl
  generalize ([.int p1, .int p2, .int p3, .int p4] : List Value).toArray = args at hts ⊢
  generalize hQe : MQ below (kQi D ca (A) [] r) args s 0 0 A = Q
  have k_203 := hts (.constantLong RX10 203 (lN 7919)) (by decide +kernel)
  have k_205 := hts (.constantLong RX10 205 (lN 6151)) (by decide +kernel)
  have k_207 := hts (.constantLong RX10 207 (lN 3571)) (by decide +kernel)
  have k_209 := hts (.constantLong RX10 209 (lN 2011)) (by decide +kernel)
  have k_211 := hts (.constantLong RX10 211 (lN 65521)) (by decide +kernel)
  rw [D_X10_draw] at h
  refine lv_ldc2 hx hb hown k_203 dX10_draw_0 ?_
  refine lv_iload_n hx hb dX10_draw_3 rfl (lv_at hl 0 rfl) ?_
  refine lv_i2l hx hb dX10_draw_4 rfl ?_
  refine lv_lmul hx hb dX10_draw_5 ?_
  refine lv_ldc2 hx hb hown k_205 dX10_draw_6 ?_
  refine lv_iload_n hx hb dX10_draw_9 rfl (lv_at hl 2 rfl) ?_
  refine lv_i2l hx hb dX10_draw_10 rfl ?_
  refine lv_lmul hx hb dX10_draw_11 ?_
  refine lv_ladd hx hb dX10_draw_12 ?_
  refine lv_ldc2 hx hb hown k_207 dX10_draw_13 ?_
  refine lv_iload_n hx hb dX10_draw_16 rfl (lv_at hl 3 rfl) ?_
  refine lv_i2l hx hb dX10_draw_17 rfl ?_
  refine lv_lmul hx hb dX10_draw_18 ?_
  refine lv_ladd hx hb dX10_draw_19 ?_
  refine lv_ldc2 hx hb hown k_209 dX10_draw_20 ?_
  refine lv_iload_n hx hb dX10_draw_23 rfl (lv_at hl 1 rfl) ?_
  refine lv_i2l hx hb dX10_draw_24 rfl ?_
  refine lv_lmul hx hb dX10_draw_25 ?_
  refine lv_ladd hx hb dX10_draw_26 ?_
  refine lv_lconst (v := (lN 1)) hx hb dX10_draw_27 (by decide) ?_
  refine lv_ladd hx hb dX10_draw_28 ?_
  refine lv_nml h (fun x4_1 h => ?_)
  refine lv_lstore (lv' := [(4, .long x4_1), (0, .int p1), (1, .int p2), (2, .int p3), (3, .int p4)]) hx hb dX10_draw_29 hl (by decide) rfl (fun ls hl => ?_)
  refine lv_lload hx hb dX10_draw_31 (lv_at hl 0 rfl) ?_
  refine lv_lload hx hb dX10_draw_33 (lv_at hl 0 rfl) ?_
  refine lv_lmul hx hb dX10_draw_35 ?_
  refine lv_ldc2 hx hb hown k_211 dX10_draw_36 ?_
  refine lv_lrem hx hb dX10_draw_39 (by decide) ?_
  refine lv_l2i hx hb dX10_draw_40 rfl ?_
  cases h
  rw [← hQe]
  exact W.iret hx hb hr (fun t ht hW => ⟨⟨_, (), rfl, rfl, by rw [ht]; exact hP, va_K.moved hW.alike hK, hD⟩, hS.F ht⟩) hS.2.2 dX10_draw_41
