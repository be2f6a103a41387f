/-! Pure rows of the class's loops and of its small steps. -/
theorem pt_in {x pn r : Int32} {np : Nat} (hp : pn = nI np) (hn : np ≤ 120) (h : (r = 1 ∧ ¬ x < 0 ∧ ¬ pn ≤ x) ∨ (r = 0 ∧ ¬ (¬ x < 0 ∧ ¬ pn ≤ x))) (hr : ¬ r = 0) : ∃ j, j < np ∧ x = nI j := by
  rcases h with ⟨_, h1, h2⟩ | ⟨h, _⟩
  · rcases pk_ix x (n := np) (by omega) with h | h | h
    · exact absurd h h1
    · exact absurd (by rw [hp]; exact h) h2
    · exact h
  · exact absurd h hr
theorem pt_out {x pn r : Int32} {np : Nat} (hp : pn = nI np) (hn : np ≤ 120) (h : (r = 1 ∧ ¬ x < 0 ∧ ¬ pn ≤ x) ∨ (r = 0 ∧ ¬ (¬ x < 0 ∧ ¬ pn ≤ x))) (hr : r = 0) : ∀ j, j < np → ¬ x = nI j := by
  intro j hj e
  rcases h with ⟨h, _, _⟩ | ⟨_, h⟩
  · exact i01 (hr.symm.trans h)
  · refine h ⟨?_, ?_⟩
    · rw [e]; exact nI_pos (by omega)
    · rw [e, hp]; exact nI_ge hj (by omega)
theorem cp_s {be : Nat → Int64} {ah : Nat → Int64} {j i : Nat} (h : ∀ w, w < i → be w = ah (j * 6 + w)) : ∀ w, w < i + 1 → vp_updL be i (ah (j * 6 + i)) w = ah (j * 6 + w) := by
  intro w hw
  by_cases e : w = i
  · rw [e, pk_uLs]
  · rw [pk_uLn e]; exact h w (by omega)
theorem pt_end {be ah : Nat → Int64} {d : Int32} {v b j a1 a2 : Nat} (h : ∀ w, w < 6 → be w = ah (j * 6 + w)) (hd : ¬ (d = 0 ∨ d = 3)) (hv : v < 20) (h1 : a1 = (if d = 1 then 3 else 0) + v / 8) (h2 : a2 = (if d = 1 then 0 else 3) + v / 8) :
    ∀ w, w < 6 → vp_updL (vp_updL be a1 (be a1 ||| mkw v b)) a2 ((vp_updL be a1 (be a1 ||| mkw v b)) a2 &&& (mkw v b ^^^ (-1))) w = Tw d v b w (ah (j * 6 + w)) := by
  intro w hw
  have hne : a1 ≠ a2 := by
    rw [h1, h2]
    split <;> omega
  have hb1 : a1 < 6 := by rw [h1]; split <;> omega
  have hb2 : a2 < 6 := by rw [h2]; split <;> omega
  unfold Tw
  rw [if_neg hd, ← h1, ← h2]
  by_cases e2 : w = a2
  · subst e2
    rw [pk_uLs, pk_uLn (Ne.symm hne), if_neg (Ne.symm hne), if_pos rfl, h _ hw]
  · rw [pk_uLn e2]
    by_cases e1 : w = a1
    · subst e1
      rw [pk_uLs, if_pos rfl, h _ hw]
    · rw [pk_uLn e1, if_neg e1, if_neg e2, h w hw]
def Jp (be ah0 : Nat → Int64) (j i : Nat) (ah : Nat → Int64) : Prop := (∀ w, w < i → ah (j * 6 + w) = ah0 (j * 6 + w) ||| be w) ∧ ∀ n, (n < j * 6 ∨ j * 6 + i ≤ n) → ah n = ah0 n
def Jc (be ah0 : Nat → Int64) (j i : Nat) (c0 ch : Int32) : Prop := (ch = 1 ∧ (c0 = 1 ∨ ∃ w, w < i ∧ ¬ ah0 (j * 6 + w) ||| be w = ah0 (j * 6 + w))) ∨ (ch = 0 ∧ c0 = 0 ∧ ∀ w, w < i → ah0 (j * 6 + w) ||| be w = ah0 (j * 6 + w))
theorem Jp_0 {be ah : Nat → Int64} {j : Nat} : Jp be ah j 0 ah := ⟨fun w h => absurd h (Nat.not_lt_zero w), fun _ _ => rfl⟩
theorem Jp_s {be ah0 ah : Nat → Int64} {j i : Nat} (h : Jp be ah0 j i ah) : Jp be ah0 j (i + 1) (vp_updL ah (j * 6 + i) (ah (j * 6 + i) ||| be i)) := by
  refine ⟨fun w hw => ?_, fun n hn => ?_⟩
  · by_cases e : w = i
    · rw [e, pk_uLs, h.2 _ (by omega)]
    · rw [pk_uLn (by omega)]; exact h.1 w (by omega)
  · rw [pk_uLn (by omega)]; exact h.2 n (by omega)
theorem Jc_0 {be ah0 : Nat → Int64} {j : Nat} {c0 : Int32} (h : c0 = 0 ∨ c0 = 1) : Jc be ah0 j 0 c0 c0 := by
  rcases h with h | h
  · exact Or.inr ⟨h, h, fun w hw => absurd hw (Nat.not_lt_zero w)⟩
  · exact Or.inl ⟨h, Or.inl h⟩
theorem Jc_1 {be ah0 : Nat → Int64} {j i : Nat} {c0 ch : Int32} (h : Jc be ah0 j i c0 ch) (hc : ¬ ch = 0) : Jc be ah0 j (i + 1) c0 1 := by
  rcases h with ⟨_, h⟩ | ⟨h, _⟩
  · refine Or.inl ⟨rfl, h.imp id (fun ⟨w, h1, h2⟩ => ⟨w, by omega, h2⟩)⟩
  · exact absurd h hc
theorem Jc_2 {be ah0 ah : Nat → Int64} {j i : Nat} {c0 ch : Int32} (hJ : Jp be ah0 j i ah) (hc : ¬ lg_cmp (ah (j * 6 + i) ||| be i) (ah (j * 6 + i)) = 0) : Jc be ah0 j (i + 1) c0 1 := by
  refine Or.inl ⟨rfl, Or.inr ⟨i, by omega, fun e => hc ((lg_cmp_eq _ _).mpr ?_)⟩⟩
  rw [hJ.2 (j * 6 + i) (by omega)]
  exact e
theorem Jc_3 {be ah0 ah : Nat → Int64} {j i : Nat} {c0 ch : Int32} (hJ : Jp be ah0 j i ah) (h : Jc be ah0 j i c0 ch) (h0 : ch = 0) (hc : lg_cmp (ah (j * 6 + i) ||| be i) (ah (j * 6 + i)) = 0) : Jc be ah0 j (i + 1) c0 0 := by
  have hc := (lg_cmp_eq _ _).mp hc
  rw [hJ.2 (j * 6 + i) (by omega)] at hc
  rcases h with ⟨h, _⟩ | ⟨_, h1, h2⟩
  · exact absurd (h0.symm.trans h) i01
  · refine Or.inr ⟨rfl, h1, fun w hw => ?_⟩
    by_cases e : w = i
    · rw [e]; exact hc
    · exact h2 w (by omega)
theorem Jp_Jn {be ah0 ah : Nat → Int64} {rc : Nat → Int32} {j : Nat} (h : Jp be ah0 j 6 ah) : Jn be rc ah0 j (upd rc j 1) ah := ⟨rfl, h.1, h.2⟩
theorem Jc_yes {be ah0 : Nat → Int64} {rc : Nat → Int32} {j : Nat} {c0 ch : Int32} (h : Jc be ah0 j 6 c0 ch) (h0 : c0 = 1 → rc j = 0) (hc : ¬ ch = 0) : Chg be rc ah0 j := by
  rcases h with ⟨_, h⟩ | ⟨h, _⟩
  · exact h.imp h0 id
  · exact absurd h hc
theorem Jc_no {be ah0 : Nat → Int64} {rc : Nat → Int32} {j : Nat} {c0 ch : Int32} (h : Jc be ah0 j 6 c0 ch) (h0 : c0 = 0 → ¬ rc j = 0) (hc : ch = 0) : ¬ Chg be rc ah0 j := by
  rcases h with ⟨h, _⟩ | ⟨_, h1, h2⟩
  · exact absurd (hc.symm.trans h) i01
  · rintro (h | ⟨w, hw, h⟩)
    · exact h0 h1 h
    · exact h (h2 w hw)
/-- the first words: what is so ahead of point 0 -/
def b0P (vP vG : Nat → Int32) (nv w t : Nat) : Prop := ∃ v, v < nv ∧ w = (if vG v = 0 then 0 else 3) + v / 8 ∧ bl (mkw v (tN (lb (vP v)))) t = true
theorem b0_s {vP vG : Nat → Int32} {be : Nat → Int64} {i a : Nat} (ha : a = (if vG i = 0 then 0 else 3) + i / 8) (h : ∀ w t, w < 6 → t < 64 → (bl (be w) t = true ↔ b0P vP vG i w t)) : ∀ w t, w < 6 → t < 64 → (bl (vp_updL be a (be a ||| mkw i (tN (lb (vP i)))) w) t = true ↔ b0P vP vG (i + 1) w t) := by
  intro w t hw ht
  have hs : b0P vP vG (i + 1) w t ↔ b0P vP vG i w t ∨ (w = a ∧ bl (mkw i (tN (lb (vP i)))) t = true) := by
    constructor
    · rintro ⟨v, h1, h2, h3⟩
      by_cases e : v = i
      · subst e
        exact Or.inr ⟨h2.trans ha.symm, h3⟩
      · exact Or.inl ⟨v, by omega, h2, h3⟩
    · rintro (⟨v, h1, h2, h3⟩ | ⟨h1, h2⟩)
      · exact ⟨v, by omega, h2, h3⟩
      · exact ⟨i, by omega, h1.trans ha, h2⟩
  rw [hs]
  by_cases e : w = a
  · subst e
    rw [pk_uLs, bl_or, Bool.or_eq_true, h w t hw ht]
    simp
  · rw [pk_uLn e, h w t hw ht]
    simp [e]
theorem b0_0 {vP vG : Nat → Int32} {be : Nat → Int64} (h : ∀ w, w < 6 → be w = 0) : ∀ w t, w < 6 → t < 64 → (bl (be w) t = true ↔ b0P vP vG 0 w t) := by
  intro w t hw ht
  rw [h w hw, bl_0]
  constructor
  · intro h; cases h
  · rintro ⟨v, h1, _⟩; exact absurd h1 (Nat.not_lt_zero v)
theorem z_s {be : Nat → Int64} {i : Nat} (h : ∀ w, w < i → be w = 0) : ∀ w, w < i + 1 → vp_updL be i 0 w = 0 := by
  intro w hw
  by_cases e : w = i
  · rw [e, pk_uLs]
  · rw [pk_uLn e]; exact h w (by omega)
theorem zi_s {f f0 : Nat → Int32} {i : Nat} (h : (∀ q, q < i → f q = 0) ∧ ∀ q, i ≤ q → f q = f0 q) : (∀ q, q < i + 1 → upd f i 0 q = 0) ∧ ∀ q, i + 1 ≤ q → upd f i 0 q = f0 q := by
  refine ⟨fun q hq => ?_, fun q hq => ?_⟩
  · by_cases e : q = i
    · rw [e, pk_us]
    · rw [pk_un e]; exact h.1 q (by omega)
  · rw [pk_un (by omega)]; exact h.2 q (by omega)
