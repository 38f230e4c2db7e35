/-! MAKING: rows for constructors -/
theorem kn_int {D : va_G} {ca : Nat → ClassId} {cA : ClassId} {s : State} (h : va_K D vwCl (ktys ca ++ [(cA, .int)]) s) : cA = ca 0 := by
  have h1 : va_RA s (ca 0) .int := (h.2 0 (ca 0, .int) rfl).2
  have h2 : va_RA s cA .int := (h.2 3 (cA, .int) rfl).2
  exact Option.some.inj (Eq.trans (Eq.symm h2) h1)
theorem kn_long {D : va_G} {ca : Nat → ClassId} {cA : ClassId} {s : State} (h : va_K D vwCl (ktys ca ++ [(cA, .long)]) s) : cA = ca 1 := by
  have h1 : va_RA s (ca 1) .long := (h.2 1 (ca 1, .long) rfl).2
  have h2 : va_RA s cA .long := (h.2 3 (cA, .long) rfl).2
  exact Option.some.inj (Eq.trans (Eq.symm h2) h1)
theorem kn_byte {D : va_G} {ca : Nat → ClassId} {cA : ClassId} {s : State} (h : va_K D vwCl (ktys ca ++ [(cA, .byte)]) s) : cA = ca 2 := by
  have h1 : va_RA s (ca 2) .byte := (h.2 2 (ca 2, .byte) rfl).2
  have h2 : va_RA s cA .byte := (h.2 3 (cA, .byte) rfl).2
  exact Option.some.inj (Eq.trans (Eq.symm h2) h1)
/-- what a constructor leaves: u, the new addresses -/
abbrev kQc (S : Type) (D : va_G) (ca : Nat → ClassId) (A : Nat → Prop) (w1 : S → va_W) : Array Value → State → Outcome → State → Prop := va_Qv (fun (_ : S) => True) (fun u t => kPost D ca A (w1 u) t) A
abbrev kPreX (D : va_G) (ca : Nat → ClassId) (ws : va_W) (sz : Nat) (X : State → Prop) (U : State) : Prop := kPre D ca ws sz U ∧ X U
section KI
variable {p : Program} {l : Launch} {e : Env} {R : Room} {s : State} {m : MethodId} {args : Array Value} {below : List Frame} {meth : Method} {c : Code} {H : Heap} {locs : List Loc} {cells slots : Nat} {Q : State → Prop} {pc : Nat} {ls : Array Slot} {rest : List Value}
variable {D : va_G} {ca : Nat → ClassId} {ws wc wr : va_W} {A0 : Nat → Prop} {H0 : Heap} {st0 As : List Value} {y : MethodName} {bytes cc : ByteArray} {maxL nL n index mc ms : Nat} {wsY Ts : List Cond} {rm : Room} {own host : String} {b : Addr} {S : Type} {w1 : S → va_W} {X : State → Prop}
theorem kI_blind {av : List Value} {w : va_W} {sz : Nat} (hXb : ∀ U V : State, V.vm = U.vm → X U → X V) : FrameBlind (va_Pc av (kPreX D ca w sz X)) := fun a U g mk q => ⟨q.1, ⟨q.2.1.1, q.2.1.2.1, va_K.moved (u := U) (U := U.calling g mk a) (Vm.Alike.refl U.vm) q.2.1.2.2.1, q.2.1.2.2.2⟩, hXb U _ rfl q.2.2⟩
theorem kI_pre {av : List Value} (hXs : ∀ U : State, s.WarmedH U.vm → X U) (hK : va_K D vwCl (ktys ca) s) (hP : va_P D vwCl ws H) (hD : va_D A0 ws) (isC : List Nat) (hnC : va_nd isC = true) (hC : isC.map (fun i => ws[i]?) = wc.map some) : ∀ U : State, U.heap = H → s.WarmedH U.vm → va_Pc av (kPreX D ca wc H.size X) av.toArray U := fun U hU hW => ⟨rfl, ⟨by rw [hU], by rw [hU]; exact hP.sub isC (k_map_fm _ _ _ hC), va_K.moved hW.alike hK, (hD.sub isC hnC hC).weaken (fun _ _ _ _ => trivial)⟩, hXs U hW⟩
theorem kx_I (F0' : CallFix p m c cc nL s args Ts own) (hM : Met l y wsY rm (va_Pc (.ref b :: As) (kPreX D ca wc H.size X)) (kQc S D ca (va_A wc H.size) w1) mc ms (va_A wc H.size)) (cw : CallB R s args own index y bytes maxL none wsY rm mc ms n ∧ y.name = "<init>" ∧ (Cond.instanceMethod y).before args s = true) (hXb : ∀ U V : State, V.vm = U.vm → X U → X V) (hXs : ∀ U : State, s.WarmedH U.vm → X U) (hK : va_K D vwCl (ktys ca) s) (hP : va_P D vwCl ws H) (hD : va_D A0 ws) (hS : va_S A0 H0 H locs) (hA : ∀ q, H0.size ≤ q → A0 q) (isC isR : List Nat) (hnC : va_nd isC = true) (hC : isC.map (fun i => ws[i]?) = wc.map some) (hR : isR.map (fun i => ws[i]?) = wr.map some) (hn : va_nd isR = true) (hdis : ∀ i ∈ isR, i ∉ isC)
    (hlen : As.length = n) (hsize : ls.size = nL) (hstack : st0 = As.reverse ++ .ref b :: rest) (hW : (rest.map fun v => v.category).sum ≤ 8) (hdg : decode cc pc = .ok (.invokespecial index, 3)) (hf : cells + mc ≤ R.cells ∧ slots + ms ≤ R.slots)
    (kk : ∀ (u : S) (H1 : Heap) (locs1 : List Loc), va_P D vwCl (wr ++ w1 u) H1 → va_D A0 (wr ++ w1 u) → va_S A0 H0 H1 locs1 → W p l e R s m args below meth c H1 locs1 (cells + mc) (slots + ms) Q (F0 m (pc + 3) ls rest)) : W p l e R s m args below meth c H locs cells slots Q (F0 m pc ls st0) := by
  have hFc := va_free (wc := wc) hD hS hA isC hC
  refine va_callv (va_runI (As := As) (rest := rest) F0' hM cw ⟨kI_blind hXb, kI_pre hXs hK hP hD isC hnC hC⟩ rfl hlen hsize hstack (lv_room hW) hdg hf) hS (fun q _ h => hFc q h) hFc (fun u t H1 locs1 ht hvm hpo hB hz1 hk1 hS1 => ?_)
  obtain ⟨hP1, hK1, hD1⟩ := hB
  rw [ht] at hP1
  obtain ⟨hP2, hD2⟩ := va_join (wr := wr) (w1 := w1 u) hP hD isC isR hC hR hn hdis hk1 hFc hP1 hD1
  exact kk u H1 locs1 hP2 hD2 hS1
theorem kx_IN (F0' : CallFix p m c cc nL s args Ts own) (hM : Met l y wsY rm (va_Pc (.ref b :: As) (kPreX D ca wc H.size X)) (kQc S D ca (va_A wc H.size) w1) mc ms (va_A wc H.size)) (cw : va_CN R s args own index y host bytes maxL none wsY rm mc ms n ∧ y.name = "<init>" ∧ (Cond.instanceMethod y).before args s = true) (hXb : ∀ U V : State, V.vm = U.vm → X U → X V) (hXs : ∀ U : State, s.WarmedH U.vm → X U) (hK : va_K D vwCl (ktys ca) s) (hP : va_P D vwCl ws H) (hD : va_D A0 ws) (hS : va_S A0 H0 H locs) (hA : ∀ q, H0.size ≤ q → A0 q) (isC isR : List Nat) (hnC : va_nd isC = true) (hC : isC.map (fun i => ws[i]?) = wc.map some) (hR : isR.map (fun i => ws[i]?) = wr.map some) (hn : va_nd isR = true) (hdis : ∀ i ∈ isR, i ∉ isC)
    (hlen : As.length = n) (hsize : ls.size = nL) (hstack : st0 = As.reverse ++ .ref b :: rest) (hW : (rest.map fun v => v.category).sum ≤ 8) (hdg : decode cc pc = .ok (.invokespecial index, 3)) (hf : cells + mc ≤ R.cells ∧ slots + ms ≤ R.slots)
    (kk : ∀ (u : S) (H1 : Heap) (locs1 : List Loc), va_P D vwCl (wr ++ w1 u) H1 → va_D A0 (wr ++ w1 u) → va_S A0 H0 H1 locs1 → W p l e R s m args below meth c H1 locs1 (cells + mc) (slots + ms) Q (F0 m (pc + 3) ls rest)) : W p l e R s m args below meth c H locs cells slots Q (F0 m pc ls st0) := by
  have hFc := va_free (wc := wc) hD hS hA isC hC
  refine va_callv (va_runIN (As := As) (rest := rest) F0' hM cw ⟨kI_blind hXb, kI_pre hXs hK hP hD isC hnC hC⟩ rfl hlen hsize hstack (lv_room hW) hdg hf) hS (fun q _ h => hFc q h) hFc (fun u t H1 locs1 ht hvm hpo hB hz1 hk1 hS1 => ?_)
  obtain ⟨hP1, hK1, hD1⟩ := hB
  rw [ht] at hP1
  obtain ⟨hP2, hD2⟩ := va_join (wr := wr) (w1 := w1 u) hP hD isC isR hC hR hn hdis hk1 hFc hP1 hD1
  exact kk u H1 locs1 hP2 hD2 hS1
end KI
/-- the links between nest mates -/
abbrev nX0 (U : State) : Prop := va_Nw (.methodLinkNest RX0 32 yX4_init RX9) U
abbrev nX9 (U : State) : Prop := va_Nw (.methodLinkNest RX9 9 yX7_init RX9) U ∧ va_Nw (.methodLinkNest RX9 27 yX6_init RX9) U ∧ va_Nw (.methodLinkNest RX9 34 yX1_init RX9) U ∧ va_Nw (.methodLinkNest RX9 41 yX3_init RX9) U ∧ nX0 U
theorem nX0_b : ∀ U V : State, V.vm = U.vm → nX0 U → nX0 V := fun _ _ h q => va_Nw.same rfl h.symm q
theorem nX9_b : ∀ U V : State, V.vm = U.vm → nX9 U → nX9 V := fun _ _ h q => ⟨va_Nw.same rfl h.symm q.1, va_Nw.same rfl h.symm q.2.1, va_Nw.same rfl h.symm q.2.2.1, va_Nw.same rfl h.symm q.2.2.2.1, va_Nw.same rfl h.symm q.2.2.2.2⟩
theorem nX0_w {s U : State} (hW : s.WarmedH U.vm) (q : nX0 s) : nX0 U := va_Nw.warmM hW q
theorem nX9_w {s U : State} (hW : s.WarmedH U.vm) (q : nX9 s) : nX9 U := ⟨va_Nw.warmM hW q.1, va_Nw.warmM hW q.2.1, va_Nw.warmM hW q.2.2.1, va_Nw.warmM hW q.2.2.2.1, va_Nw.warmM hW q.2.2.2.2⟩
abbrev nTr (_ : State) : Prop := True
theorem nTr_b : ∀ U V : State, V.vm = U.vm → nTr U → nTr V := fun _ _ _ _ => trivial
