/-! Pure rows for the public methods. -/
theorem tN_nI {n : Nat} (h : n < 2 ^ 31) : tN (nI n) = n := nI_clamp h
theorem yn_no {r : Int32} {P : Prop} (h : (r = 1 ∧ P) ∨ (r = 0 ∧ ¬ P)) (hr : r = 0) : ¬ P := h.elim (fun q => absurd (hr.symm.trans q.1) i01) (fun q => q.2)
theorem yn_yes {r : Int32} {P : Prop} (h : (r = 1 ∧ P) ∨ (r = 0 ∧ ¬ P)) (hr : ¬ r = 0) : P := h.elim (fun q => q.2) (fun q => absurd q.1 hr)
def sp3 (d : Int32) : Prop := d = 1 ∨ d = 2 ∨ d = 3
/-- what isDoing asks -/
def dOK (vc : Int32) (vP : Nat → Int32) (d x a b : Int32) : Prop := ¬ d < 0 ∧ d ≤ 5 ∧ (d = 0 ∨ ((¬ x < 0 ∧ ¬ vc ≤ x) ∧ (¬ (d = 1 ∨ d = 2 ∨ d = 3) ∨ (¬ a < 0 ∧ ¬ b < 1 ∧ ¬ vP (tN x) - b < a))))
def bod (vP : Nat → Int32) (d x a b : Int32) : Int32 := if d = 0 then 0 else if d = 1 ∨ d = 2 ∨ d = 3 then lb b <<< (a &&& 31) else lb (vP (tN x))
theorem dOK_v {nv : Nat} {vP : Nat → Int32} {d x a b : Int32} (hn : nv ≤ 20) (h : dOK (nI nv) vP d x a b) (h0 : ¬ d = 0) : ∃ v, v < nv ∧ x = nI v := by
  rcases h.2.2 with h | ⟨⟨h1, h2⟩, _⟩
  · exact absurd h h0
  · rcases pk_ix x (n := nv) (by omega) with h | h | h
    · exact absurd h h1
    · exact absurd h h2
    · exact h
def cbn (y : Int32) : Prop := ¬ y < (-1) ∧ ¬ 120 ≤ y
def smI (f : Nat → Int32) : Nat → Int32
  | 0 => 0
  | n + 1 => smI f n + f n
theorem cnt_s1 {f : Nat → Bool} {i : Nat} (h : f i = true) : cnt f (i + 1) = cnt f i + 1 := by
  simp only [cnt]; rw [if_pos h]
theorem cnt_s0 {f : Nat → Bool} {i : Nat} (h : f i = false) : cnt f (i + 1) = cnt f i := by
  simp only [cnt]; rw [if_neg (by rw [h]; decide)]; rfl
theorem sw6 (x : Int32) : x = 0 ∨ x = 1 ∨ x = 2 ∨ x = 3 ∨ x = 4 ∨ x = 5 ∨ ((x.toInt < 0 ∨ 5 < x.toInt) ∧ ¬ x = 0 ∧ ¬ x = 1 ∧ ¬ x = 2 ∧ ¬ x = 3 ∧ ¬ x = 4 ∧ ¬ x = 5) := by
  by_cases h0 : x = 0
  · exact Or.inl h0
  by_cases h1 : x = 1
  · exact Or.inr (Or.inl h1)
  by_cases h2 : x = 2
  · exact Or.inr (Or.inr (Or.inl h2))
  by_cases h3 : x = 3
  · exact Or.inr (Or.inr (Or.inr (Or.inl h3)))
  by_cases h4 : x = 4
  · exact Or.inr (Or.inr (Or.inr (Or.inr (Or.inl h4))))
  by_cases h5 : x = 5
  · exact Or.inr (Or.inr (Or.inr (Or.inr (Or.inr (Or.inl h5)))))
  refine Or.inr (Or.inr (Or.inr (Or.inr (Or.inr (Or.inr ⟨?_, h0, h1, h2, h3, h4, h5⟩)))))
  have g0 : ¬ x.toInt = 0 := lv_neT h0 rfl
  have g1 : ¬ x.toInt = 1 := lv_neT h1 rfl
  have g2 : ¬ x.toInt = 2 := lv_neT h2 rfl
  have g3 : ¬ x.toInt = 3 := lv_neT h3 rfl
  have g4 : ¬ x.toInt = 4 := lv_neT h4 rfl
  have g5 : ¬ x.toInt = 5 := lv_neT h5 rfl
  omega
