/-! PURE: one item of the text as a step of the beach -/
def fu {α : Type} (f : Nat → α) (i : Nat) (v : α) : Nat → α := fun j => if j = i then v else f j
theorem fu_s {α : Type} {f : Nat → α} {i : Nat} {v : α} : fu f i v i = v := if_pos rfl
theorem fu_n {α : Type} {f : Nat → α} {i j : Nat} {v : α} (h : j ≠ i) : fu f i v j = f j := if_neg h
def setW (b : BT) (i : Nat) (w : List Nat) : BT := (fu (bW b) i w, bC b, bR b, bM b, bT b, (bS b, bG b), (bJ b, bJm b, bJa b, bJb b), (bU b, bN b))
def setC (b : BT) (p s : Nat) : BT := (bW b, fu (bC b) p s, bR b, bM b, bT b, (bS b, bG b), (bJ b, bJm b, bJa b, bJb b), (bU b, bN b))
def setR (b : BT) (x y : Nat) : BT := (bW b, bC b, fu (bR b) x (some y), bM b, bT b, (bS b, bG b), (bJ b, bJm b, bJa b, bJb b), (bU b, bN b))
def setM (b : BT) (x y : Nat) : BT := (bW b, bC b, bR b, fu (fu (bM b) 0 x) 1 y, bT b, (bS b, bG b), (bJ b, bJm b, bJa b, bJb b), (bU b, bN b))
def setT (b : BT) (x y : Nat) : BT := (bW b, bC b, bR b, bM b, fu (fu (bT b) 0 x) 1 y, (bS b, bG b), (bJ b, bJm b, bJa b, bJb b), (bU b, bN b))
def setS (b : BT) (x : Nat) : BT := (bW b, bC b, bR b, bM b, bT b, (x, bG b), (bJ b, bJm b, bJa b, bJb b), (bU b, bN b))
def setG (b : BT) (x : Nat) : BT := (bW b, bC b, bR b, bM b, bT b, (bS b, x), (bJ b, bJm b, bJa b, bJb b), (bU b, bN b))
def setJ (b : BT) (x y z : Nat) : BT := (bW b, bC b, bR b, bM b, bT b, (bS b, bG b), (bJ b + 1, fu (bJm b) (bJ b) x, fu (bJa b) (bJ b) y, fu (bJb b) (bJ b) z), (bU b, bN b))
def setU (b : BT) (s : Nat) : BT := (bW b, bC b, bR b, bM b, bT b, (bS b, bG b), (bJ b, bJm b, bJa b, bJb b), (bU b + 1, fu (bN b) (bU b) s))
def nx (S : Nat → Nat) (q : Nat) : Nat := nuP S q + 1
abbrev ok2 (S : Nat → Nat) (a m1 m2 q : Nat) : Prop := nuO S q a m1 ∧ S (nuP S q) = 44 ∧ nuO S (nx S q) a m2
abbrev okW (S : Nat → Nat) (most q : Nat) : Prop := ok2 S 0 most 7 q ∧ S (nuP S (nx S q)) = 44 ∧ wl S (nx S (nx S q)) 6 ≠ []
def eW (S : Nat → Nat) (q : Nat) : Nat := nx S (nx S q) + (wl S (nx S (nx S q)) 6).length
abbrev okSn (S : Nat → Nat) (q : Nat) : Prop := nuO S q 0 1 ∧ S (nuP S q) = 44 ∧ (rs S 97 16 16 (nx S q) 0 0).1 ≠ 0
abbrev okR (S : Nat → Nat) (q : Nat) : Prop := (wl S q 6).length = 2 ∧ (wl S q 6).getD 0 0 ≠ (wl S q 6).getD 1 0
abbrev okJ (S : Nat → Nat) (q : Nat) : Prop := ok2 S 0 7 7 q ∧ S (nuP S (nx S q)) = 44 ∧ nuO S (nx S (nx S q)) 0 7 ∧ nuV S q ≠ nuV S (nx S q) ∧ nuV S q ≠ nuV S (nx S (nx S q)) ∧ nuV S (nx S q) ≠ nuV S (nx S (nx S q))
def step (S : Nat → Nat) (b : BT) (p : Nat) : Option (Nat × BT) :=
  if S p = 101 then (if okW S 2 (p + 1) ∧ S (eW S (p + 1)) = 59 then some (eW S (p + 1) + 1, setW b (16 + (8 * nuV S (p + 1) + nuV S (nx S (p + 1)))) (wl S (nx S (nx S (p + 1))) 6)) else none)
  else if S p = 103 then (if nuO S (p + 1) 1 99 ∧ S (nuP S (p + 1)) = 59 then some (nuP S (p + 1) + 1, setG b (nuV S (p + 1))) else none)
  else if S p = 106 then (if bJ b < 8 ∧ okJ S (p + 1) ∧ S (nuP S (nx S (nx S (p + 1)))) = 59 then some (nuP S (nx S (nx S (p + 1))) + 1, setJ b (nuV S (p + 1)) (nuV S (nx S (p + 1))) (nuV S (nx S (nx S (p + 1))))) else none)
  else if S p = 107 then (if ok2 S 0 10 10 (p + 1) ∧ S (nuP S (nx S (p + 1))) = 59 then some (nuP S (nx S (p + 1)) + 1, setT b (nuV S (p + 1)) (nuV S (nx S (p + 1)))) else none)
  else if S p = 110 then (if ok2 S 1 8 8 (p + 1) ∧ S (nuP S (nx S (p + 1))) = 59 then some (nuP S (nx S (p + 1)) + 1, setM b (nuV S (p + 1)) (nuV S (nx S (p + 1)))) else none)
  else if S p = 111 then (if nuO S (p + 1) 0 10 ∧ S (nuP S (p + 1)) = 59 then some (nuP S (p + 1) + 1, setS b (nuV S (p + 1))) else none)
  else if S p = 114 then (if okR S (p + 1) ∧ S (p + 1 + (wl S (p + 1) 6).length) = 59 then some (p + 1 + (wl S (p + 1) 6).length + 1, setR b ((wl S (p + 1) 6).getD 0 0) ((wl S (p + 1) 6).getD 1 0)) else none)
  else if S p = 115 then (if okSn S (p + 1) ∧ S (rs S 97 16 16 (nx S (p + 1)) 0 0).2 = 59 then some ((rs S 97 16 16 (nx S (p + 1)) 0 0).2 + 1, setC b (nuV S (p + 1)) (rs S 97 16 16 (nx S (p + 1)) 0 0).1) else none)
  else if S p = 117 then (if bU b < 6 ∧ (rs S 48 8 8 (p + 1) 0 0).1 ≠ 0 ∧ S (rs S 48 8 8 (p + 1) 0 0).2 = 59 then some ((rs S 48 8 8 (p + 1) 0 0).2 + 1, setU b (rs S 48 8 8 (p + 1) 0 0).1) else none)
  else if S p = 119 then (if okW S 1 (p + 1) ∧ S (eW S (p + 1)) = 59 then some (eW S (p + 1) + 1, setW b (8 * nuV S (p + 1) + nuV S (nx S (p + 1))) (wl S (nx S (nx S (p + 1))) 6)) else none)
  else none
theorem nlt {a b : Nat} (h : ¬ a = b) : a ≠ b := h
theorem st101 {S : Nat → Nat} {b : BT} {p : Nat} (h : S p = 101) : step S b p = if okW S 2 (p + 1) ∧ S (eW S (p + 1)) = 59 then some (eW S (p + 1) + 1, setW b (16 + (8 * nuV S (p + 1) + nuV S (nx S (p + 1)))) (wl S (nx S (nx S (p + 1))) 6)) else none := by
  unfold step; rw [h]; rfl
theorem st103 {S : Nat → Nat} {b : BT} {p : Nat} (h : S p = 103) : step S b p = if nuO S (p + 1) 1 99 ∧ S (nuP S (p + 1)) = 59 then some (nuP S (p + 1) + 1, setG b (nuV S (p + 1))) else none := by
  unfold step; rw [h]; rfl
theorem st106 {S : Nat → Nat} {b : BT} {p : Nat} (h : S p = 106) : step S b p = if bJ b < 8 ∧ okJ S (p + 1) ∧ S (nuP S (nx S (nx S (p + 1)))) = 59 then some (nuP S (nx S (nx S (p + 1))) + 1, setJ b (nuV S (p + 1)) (nuV S (nx S (p + 1))) (nuV S (nx S (nx S (p + 1))))) else none := by
  unfold step; rw [h]; rfl
theorem st107 {S : Nat → Nat} {b : BT} {p : Nat} (h : S p = 107) : step S b p = if ok2 S 0 10 10 (p + 1) ∧ S (nuP S (nx S (p + 1))) = 59 then some (nuP S (nx S (p + 1)) + 1, setT b (nuV S (p + 1)) (nuV S (nx S (p + 1)))) else none := by
  unfold step; rw [h]; rfl
theorem st110 {S : Nat → Nat} {b : BT} {p : Nat} (h : S p = 110) : step S b p = if ok2 S 1 8 8 (p + 1) ∧ S (nuP S (nx S (p + 1))) = 59 then some (nuP S (nx S (p + 1)) + 1, setM b (nuV S (p + 1)) (nuV S (nx S (p + 1)))) else none := by
  unfold step; rw [h]; rfl
theorem st111 {S : Nat → Nat} {b : BT} {p : Nat} (h : S p = 111) : step S b p = if nuO S (p + 1) 0 10 ∧ S (nuP S (p + 1)) = 59 then some (nuP S (p + 1) + 1, setS b (nuV S (p + 1))) else none := by
  unfold step; rw [h]; rfl
theorem st114 {S : Nat → Nat} {b : BT} {p : Nat} (h : S p = 114) : step S b p = if okR S (p + 1) ∧ S (p + 1 + (wl S (p + 1) 6).length) = 59 then some (p + 1 + (wl S (p + 1) 6).length + 1, setR b ((wl S (p + 1) 6).getD 0 0) ((wl S (p + 1) 6).getD 1 0)) else none := by
  unfold step; rw [h]; rfl
theorem st115 {S : Nat → Nat} {b : BT} {p : Nat} (h : S p = 115) : step S b p = if okSn S (p + 1) ∧ S (rs S 97 16 16 (nx S (p + 1)) 0 0).2 = 59 then some ((rs S 97 16 16 (nx S (p + 1)) 0 0).2 + 1, setC b (nuV S (p + 1)) (rs S 97 16 16 (nx S (p + 1)) 0 0).1) else none := by
  unfold step; rw [h]; rfl
theorem st117 {S : Nat → Nat} {b : BT} {p : Nat} (h : S p = 117) : step S b p = if bU b < 6 ∧ (rs S 48 8 8 (p + 1) 0 0).1 ≠ 0 ∧ S (rs S 48 8 8 (p + 1) 0 0).2 = 59 then some ((rs S 48 8 8 (p + 1) 0 0).2 + 1, setU b (rs S 48 8 8 (p + 1) 0 0).1) else none := by
  unfold step; rw [h]; rfl
theorem st119 {S : Nat → Nat} {b : BT} {p : Nat} (h : S p = 119) : step S b p = if okW S 1 (p + 1) ∧ S (eW S (p + 1)) = 59 then some (eW S (p + 1) + 1, setW b (8 * nuV S (p + 1) + nuV S (nx S (p + 1))) (wl S (nx S (nx S (p + 1))) 6)) else none := by
  unfold step; rw [h]; rfl
theorem stno {S : Nat → Nat} {b : BT} {p : Nat} (h : S p ≠ 101 ∧ S p ≠ 103 ∧ S p ≠ 106 ∧ S p ≠ 107 ∧ S p ≠ 110 ∧ S p ≠ 111 ∧ S p ≠ 114 ∧ S p ≠ 115 ∧ S p ≠ 117 ∧ S p ≠ 119) : step S b p = none := by
  obtain ⟨a, b, c, d, e, f, g, h, i, j⟩ := h
  unfold step
  rw [if_neg a, if_neg b, if_neg c, if_neg d, if_neg e, if_neg f, if_neg g, if_neg h, if_neg i, if_neg j]
theorem nuP_ge (S : Nat → Nat) (p : Nat) : p ≤ nuP S p := by
  unfold nuP; split
  · split <;> omega
  · omega
theorem rs_ge {S : Nat → Nat} {first many : Nat} : ∀ (f q lo bits : Nat), q ≤ (rs S first many f q lo bits).2 := by
  intro f
  induction f with
  | zero => intro q lo bits; exact Nat.le_refl _
  | succ f ih =>
    intro q lo bits
    by_cases c : first + lo ≤ S q ∧ S q < first + many
    · rw [rs_yes c]; have := ih (q + 1) (S q - first + 1) (bits ||| 2 ^ (S q - first)); omega
    · rw [rs_no c]; exact Nat.le_refl _
theorem okw_wl (S : Nat → Nat) (q : Nat) : okw (wl S q 6) := wl_ok 6 q
theorem fin_le {S : Nat → Nat} (hb : sB S) {p e : Nat} (h : S e = 59) (hp : p < e + 1) : p < e + 1 ∧ e + 1 ≤ 500 := by
  have := sB_in hb (p := e) (by omega); omega
theorem ifs {c : Prop} [Decidable c] {α : Type} {x y : α} (h : (if c then some x else none) = some y) : c ∧ x = y := by
  by_cases q : c
  · rw [if_pos q] at h; exact ⟨q, Option.some.inj h⟩
  · rw [if_neg q] at h; cases h
theorem step_ok {S : Nat → Nat} (hb : sB S) {b : BT} (ok : okB b) {p : Nat} {p' : Nat} {b' : BT} (h : step S b p = some (p', b')) : okB b' ∧ p < p' ∧ p' ≤ 500 ∧ S (p' - 1) = 59 := by
  obtain ⟨o1, o2, o3, o4, o5, o6, o7, o8, o9⟩ := ok
  by_cases c : S p = 101
  · rw [st101 c] at h
    obtain ⟨⟨⟨⟨h1, h2, h3⟩, h4, h5⟩, h6⟩, e⟩ := ifs h
    obtain ⟨rfl, rfl⟩ := Prod.mk.inj e
    have g1 := nuP_ge S (p + 1)
    have g2 := nuP_ge S (nx S (p + 1))
    refine ⟨⟨fun i hi => ?_, o2, o3, o4, o5, o6, o7, o8, o9⟩, ?_⟩
    · show okw (fu (bW b) _ _ i)
      by_cases z : i = 16 + (8 * nuV S (p + 1) + nuV S (nx S (p + 1)))
      · rw [z, fu_s]; exact okw_wl _ _
      · rw [fu_n z]; exact o1 i hi
    · have := fin_le hb h6 (p := p) (by unfold eW nx at *; omega)
      exact ⟨this.1, this.2, h6⟩
  by_cases c1 : S p = 103
  · rw [st103 c1] at h
    obtain ⟨⟨h1, h6⟩, e⟩ := ifs h
    obtain ⟨rfl, rfl⟩ := Prod.mk.inj e
    have g1 := nuP_ge S (p + 1)
    refine ⟨⟨o1, o2, o3, o4, o5, o6, h1.2, o8, o9⟩, ?_⟩
    have := fin_le hb h6 (p := p) (by omega)
    exact ⟨this.1, this.2, h6⟩
  by_cases c2 : S p = 106
  · rw [st106 c2] at h
    obtain ⟨⟨h0, ⟨⟨h1, h2, h3⟩, h4, h5, _⟩, h6⟩, e⟩ := ifs h
    obtain ⟨rfl, rfl⟩ := Prod.mk.inj e
    have g1 := nuP_ge S (p + 1)
    have g2 := nuP_ge S (nx S (p + 1))
    have g3 := nuP_ge S (nx S (nx S (p + 1)))
    refine ⟨⟨o1, o2, o3, o4, o5, o6, o7, ⟨?_, ?_⟩, o9⟩, ?_⟩
    · show bJ b + 1 ≤ 8; omega
    · intro k hk
      have hk : k < bJ b + 1 := hk
      show fu (bJm b) _ _ k < 8 ∧ fu (bJa b) _ _ k < 8 ∧ fu (bJb b) _ _ k < 8
      by_cases z : k = bJ b
      · rw [z, fu_s, fu_s, fu_s]; exact ⟨by omega, by omega, by omega⟩
      · rw [fu_n z, fu_n z, fu_n z]; exact o8.2 k (by omega)
    · have := fin_le hb h6 (p := p) (by unfold nx at *; omega)
      exact ⟨this.1, this.2, h6⟩
  by_cases c3 : S p = 107
  · rw [st107 c3] at h
    obtain ⟨⟨⟨h1, h2, h3⟩, h6⟩, e⟩ := ifs h
    obtain ⟨rfl, rfl⟩ := Prod.mk.inj e
    have g1 := nuP_ge S (p + 1)
    have g2 := nuP_ge S (nx S (p + 1))
    refine ⟨⟨o1, o2, o3, o4, ?_, o6, o7, o8, o9⟩, ?_⟩
    · intro k hk
      show fu (fu (bT b) 0 _) 1 _ k ≤ 10
      by_cases z : k = 1
      · rw [z, fu_s]; omega
      · rw [fu_n z, show k = 0 by omega, fu_s]; omega
    · have := fin_le hb h6 (p := p) (by unfold nx at *; omega)
      exact ⟨this.1, this.2, h6⟩
  by_cases c4 : S p = 110
  · rw [st110 c4] at h
    obtain ⟨⟨⟨h1, h2, h3⟩, h6⟩, e⟩ := ifs h
    obtain ⟨rfl, rfl⟩ := Prod.mk.inj e
    have g1 := nuP_ge S (p + 1)
    have g2 := nuP_ge S (nx S (p + 1))
    refine ⟨⟨o1, o2, o3, ?_, o5, o6, o7, o8, o9⟩, ?_⟩
    · intro k hk
      show 1 ≤ fu (fu (bM b) 0 _) 1 _ k ∧ fu (fu (bM b) 0 _) 1 _ k ≤ 8
      by_cases z : k = 1
      · rw [z, fu_s]; omega
      · rw [fu_n z, show k = 0 by omega, fu_s]; omega
    · have := fin_le hb h6 (p := p) (by unfold nx at *; omega)
      exact ⟨this.1, this.2, h6⟩
  by_cases c5 : S p = 111
  · rw [st111 c5] at h
    obtain ⟨⟨h1, h6⟩, e⟩ := ifs h
    obtain ⟨rfl, rfl⟩ := Prod.mk.inj e
    have g1 := nuP_ge S (p + 1)
    refine ⟨⟨o1, o2, o3, o4, o5, h1.2.2, o7, o8, o9⟩, ?_⟩
    have := fin_le hb h6 (p := p) (by omega)
    exact ⟨this.1, this.2, h6⟩
  by_cases c6 : S p = 114
  · rw [st114 c6] at h
    obtain ⟨⟨h1, h6⟩, e⟩ := ifs h
    obtain ⟨rfl, rfl⟩ := Prod.mk.inj e
    refine ⟨⟨o1, o2, ?_, o4, o5, o6, o7, o8, o9⟩, ?_⟩
    · intro x hx y hy
      have hy : fu (bR b) _ _ x = some y := hy
      by_cases z : x = (wl S (p + 1) 6).getD 0 0
      · rw [z, fu_s] at hy
        rw [← Option.some.inj hy]
        exact (okw_wl S (p + 1)).2 _ (getD_mem (by omega))
      · rw [fu_n z] at hy; exact o3 x hx y hy
    · have := fin_le hb h6 (p := p) (by omega)
      exact ⟨this.1, this.2, h6⟩
  by_cases c7 : S p = 115
  · rw [st115 c7] at h
    obtain ⟨⟨⟨h1, h2, h3⟩, h6⟩, e⟩ := ifs h
    obtain ⟨rfl, rfl⟩ := Prod.mk.inj e
    have g1 := nuP_ge S (p + 1)
    have g4 := rs_ge (S := S) (first := 97) (many := 16) 16 (nx S (p + 1)) 0 0
    have g5 := sB_in hb (p := nuP S (p + 1)) (by omega)
    have g6 := rs_lt hb (first := 97) (many := 16) (by decide) 16 (nx S (p + 1)) 0 0 (by decide) (by unfold nx; omega)
    refine ⟨⟨o1, ?_, o3, o4, o5, o6, o7, o8, o9⟩, ?_⟩
    · intro k hk
      show fu (bC b) _ _ k < 65536
      by_cases z : k = nuV S (p + 1)
      · rw [z, fu_s]; exact g6.1
      · rw [fu_n z]; exact o2 k hk
    · have := fin_le hb h6 (p := p) (by have g7 : nx S (p + 1) = nuP S (p + 1) + 1 := rfl; omega)
      exact ⟨this.1, this.2, h6⟩
  by_cases c8 : S p = 117
  · rw [st117 c8] at h
    obtain ⟨⟨h0, h3, h6⟩, e⟩ := ifs h
    obtain ⟨rfl, rfl⟩ := Prod.mk.inj e
    have g4 := rs_ge (S := S) (first := 48) (many := 8) 8 (p + 1) 0 0
    have g5 := sB_in hb (p := p) (by omega)
    have g6 := rs_lt hb (first := 48) (many := 8) (by decide) 8 (p + 1) 0 0 (by decide) (by omega)
    refine ⟨⟨o1, o2, o3, o4, o5, o6, o7, o8, ⟨?_, ?_⟩⟩, ?_⟩
    · show bU b + 1 ≤ 6; omega
    · intro k hk
      have hk : k < bU b + 1 := hk
      show fu (bN b) _ _ k < 256
      by_cases z : k = bU b
      · rw [z, fu_s]; exact g6.1
      · rw [fu_n z]; exact o9.2 k (by omega)
    · have := fin_le hb h6 (p := p) (by omega)
      exact ⟨this.1, this.2, h6⟩
  by_cases c9 : S p = 119
  · rw [st119 c9] at h
    obtain ⟨⟨⟨⟨h1, h2, h3⟩, h4, h5⟩, h6⟩, e⟩ := ifs h
    obtain ⟨rfl, rfl⟩ := Prod.mk.inj e
    have g1 := nuP_ge S (p + 1)
    have g2 := nuP_ge S (nx S (p + 1))
    refine ⟨⟨fun i hi => ?_, o2, o3, o4, o5, o6, o7, o8, o9⟩, ?_⟩
    · show okw (fu (bW b) _ _ i)
      by_cases z : i = 8 * nuV S (p + 1) + nuV S (nx S (p + 1))
      · rw [z, fu_s]; exact okw_wl _ _
      · rw [fu_n z]; exact o1 i hi
    · have := fin_le hb h6 (p := p) (by unfold eW nx at *; omega)
      exact ⟨this.1, this.2, h6⟩
  · rw [stno ⟨c, c1, c2, c3, c4, c5, c6, c7, c8, c9⟩] at h
    cases h
