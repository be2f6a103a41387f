/-! Pure rows of the reference: its search over points with and without, its sums. -/
noncomputable def tb (P : Prop) : Bool := @decide P (Classical.propDecidable P)
theorem tb_iff (P : Prop) : tb P = true ↔ P := @decide_eq_true_iff P (Classical.propDecidable P)
theorem tb_t {P : Prop} (h : P) : tb P = true := (tb_iff P).mpr h
theorem tb_f {P : Prop} (h : ¬ P) : tb P = false := by
  cases e : tb P with
  | false => rfl
  | true => exact absurd ((tb_iff P).mp e) h
def isR (pD mV mF mM : Nat → Int32) (x : Int32) (q p : Nat) : Prop := mV p = x ∧ ¬ nI q < mF p ∧ ¬ mF p + mM p ≤ nI q ∧ ¬ pD p = 3
def ThR (pD mV mF mM : Nat → Int32) (x : Int32) (q p w t : Nat) : Prop := (isR pD mV mF mM x q p ∧ pD p = 1 ∧ t = 1) ∨ (isR pD mV mF mM x q p ∧ ¬ pD p = 1 ∧ t = 0) ∨ (¬ isR pD mV mF mM x q p ∧ t = w)
theorem ThR_fn {pD mV mF mM : Nat → Int32} {x : Int32} {q p w t t' : Nat} (h : ThR pD mV mF mM x q p w t) (h' : ThR pD mV mF mM x q p w t') : t = t' := by
  rcases h with ⟨a, b, c⟩ | ⟨a, b, c⟩ | ⟨a, c⟩ <;> rcases h' with ⟨a', b', c'⟩ | ⟨a', b', c'⟩ | ⟨a', c'⟩ <;> first | omega | exact absurd b b' | exact absurd b' b | exact absurd a a' | exact absurd a' a
theorem ThR_lt {pD mV mF mM : Nat → Int32} {x : Int32} {q p w t : Nat} (h : ThR pD mV mF mM x q p w t) (hw : w < 2) : t < 2 := by
  rcases h with ⟨a, b, c⟩ | ⟨a, b, c⟩ | ⟨a, c⟩ <;> omega
/-- what come(x, w) does -/
def Cm (np : Nat) (x : Int32) (w : Nat) (se pl : Nat → Int32) (hN : Nat) (se' pl' : Nat → Int32) (hN' : Nat) : Prop :=
  (((∀ j, j < np → ¬ x = nI j) ∨ ∃ j, j < np ∧ x = nI j ∧ ¬ se (2 * j + w) = 0) ∧ se' = se ∧ pl' = pl ∧ hN' = hN) ∨ ∃ j, j < np ∧ x = nI j ∧ se (2 * j + w) = 0 ∧ se' = upd se (2 * j + w) 1 ∧ pl' = upd pl hN (nI (2 * j + w)) ∧ hN' = hN + 1
def cs (se : Nat → Int32) : Nat := cnt (fun i => decide (se i = 1)) 240
/-- the search: seen, pile, its height; X is exempt from being closed -/
def Rv (np : Nat) (E : Nat → Nat → Prop) (Th : Nat → Nat → Nat → Prop) (Pd : Nat → Nat → Prop) (w0 : Nat) (se pl : Nat → Int32) (hN : Nat) (X : Nat → Nat → Prop) : Prop :=
  (∀ i, i < 240 → se i = 0 ∨ se i = 1) ∧ hN ≤ cs se ∧ (∀ a, a < hN → ∃ p w, p < np ∧ w < 2 ∧ pl a = nI (2 * p + w) ∧ se (2 * p + w) = 1) ∧ (∀ p w, p < np → w < 2 → se (2 * p + w) = 1 → Pd p w) ∧ (∀ p w, p < np → w < 2 → se (2 * p + w) = 1 → ¬ X p w → (∃ a, a < hN ∧ pl a = nI (2 * p + w)) ∨ ∀ q t, E p q → Th p w t → se (2 * q + t) = 1) ∧ (0 < np → se (2 * 0 + w0) = 1)
theorem cs_le (se : Nat → Int32) : cs se ≤ 240 := cnt_le _ _
theorem Rv_room {np : Nat} {E : Nat → Nat → Prop} {Th : Nat → Nat → Nat → Prop} {Pd : Nat → Nat → Prop} {w0 : Nat} {se pl : Nat → Int32} {hN : Nat} {X : Nat → Nat → Prop} (h : hN ≤ cs se) {i : Nat} (hi : i < 240) (h0 : se i = 0) : hN < 240 := by
  have h1 := cnt_lt (f := fun i => decide (se i = 1)) (g := fun _ => true) (n := 240) (i := i) (fun _ _ _ => rfl) hi (by rw [h0]; rfl) rfl
  have h2 := cnt_le (fun _ => true) 240
  unfold cs at h
  omega
theorem Cm_step {np : Nat} {E : Nat → Nat → Prop} {Th : Nat → Nat → Nat → Prop} {Pd : Nat → Nat → Prop} {w0 : Nat} {se pl se' pl' : Nat → Int32} {hN hN' : Nat} {X : Nat → Nat → Prop} {x : Int32} {t : Nat} (hn : np ≤ 120) (ht : t < 2) (hT : ∀ p w t, p < np → w < 2 → Th p w t → t < 2) (h : Rv np E Th Pd w0 se pl hN X) (hp : ∀ j, j < np → x = nI j → Pd j t) (hc : Cm np x t se pl hN se' pl' hN') :
    Rv np E Th Pd w0 se' pl' hN' X ∧ (∀ j, j < np → x = nI j → se' (2 * j + t) = 1) ∧ (∀ i, se i = 1 → se' i = 1) ∧ 2 * (240 - cs se') + hN' ≤ 2 * (240 - cs se) + hN := by
  obtain ⟨h1, h2, h3, h4, h5, h6⟩ := h
  rcases hc with ⟨hc, e1, e2, e3⟩ | ⟨j, hj, hx, h0, e1, e2, e3⟩
  · subst e1; subst e2; subst e3
    refine ⟨⟨h1, h2, h3, h4, h5, h6⟩, fun i hi hxi => ?_, fun i hi => hi, Nat.le_refl _⟩
    rcases hc with hc | ⟨j, hj, hxj, hs⟩
    · exact absurd hxi (hc i hi)
    · have : i = j := (nI_eq (by omega) (by omega)).mp (hxi.symm.trans hxj)
      subst this
      exact (h1 (2 * i + t) (by omega)).elim (fun z => absurd z hs) id
  · have hcs : cs se' = cs se + 1 := by
      rw [e1]
      exact cnt_set (f := fun i => decide (se i = 1)) (g := fun i => decide (upd se (2 * j + t) 1 i = 1)) (n := 240) (i := 2 * j + t) (by omega) (by simp [h0]) (by simp [pk_us]) (fun i _ e => by simp only [pk_un e])
    have hm : ∀ i, se i = 1 → se' i = 1 := fun i hi => by
      rw [e1]
      by_cases e : i = 2 * j + t
      · rw [e, pk_us]
      · rw [pk_un e]; exact hi
    have hs' : ∀ i, ¬ i = 2 * j + t → se' i = se i := fun i hi => by rw [e1, pk_un hi]
    have hj1 : se' (2 * j + t) = 1 := by rw [e1, pk_us]
    have hle := cs_le se'
    refine ⟨⟨fun i hi => ?_, by omega, fun a ha => ?_, fun p w hp9 hw hs => ?_, fun p w hp9 hw hs hX => ?_, fun h0 => hm _ (h6 h0)⟩, fun i hi hxi => ?_, hm, by omega⟩
    · by_cases e : i = 2 * j + t
      · rw [e]; exact Or.inr hj1
      · rw [hs' i e]; exact h1 i hi
    · rw [e2]
      by_cases e : a = hN
      · subst e
        exact ⟨j, t, hj, ht, pk_us, hj1⟩
      · obtain ⟨p, w, g1, g2, g3, g4⟩ := h3 a (by omega)
        exact ⟨p, w, g1, g2, by rw [pk_un e]; exact g3, hm _ g4⟩
    · by_cases e : 2 * p + w = 2 * j + t
      · rw [show p = j by omega, show w = t by omega]
        exact hp j hj hx
      · rw [hs' _ e] at hs
        exact h4 p w hp9 hw hs
    · by_cases e : 2 * p + w = 2 * j + t
      · exact Or.inl ⟨hN, by omega, by rw [e2, pk_us, e]⟩
      · rw [hs' _ e] at hs
        rcases h5 p w hp9 hw hs hX with ⟨a, g1, g2⟩ | g
        · exact Or.inl ⟨a, by omega, by rw [e2, pk_un (by omega)]; exact g2⟩
        · exact Or.inr (fun q t' he hth => hm _ (g q t' he hth))
    · have : i = j := (nI_eq (by omega) (by omega)).mp (hxi.symm.trans hx)
      subst this
      exact hj1
theorem Rv_pop {np : Nat} {E : Nat → Nat → Prop} {Th : Nat → Nat → Nat → Prop} {Pd : Nat → Nat → Prop} {w0 : Nat} {se pl : Nat → Int32} {hN : Nat} (hn : np ≤ 120) (h : Rv np E Th Pd w0 se pl hN (fun _ _ => False)) (h0 : 0 < hN) :
    ∃ p w, p < np ∧ w < 2 ∧ pl (hN - 1) = nI (2 * p + w) ∧ se (2 * p + w) = 1 ∧ Rv np E Th Pd w0 se pl (hN - 1) (fun p' w' => p' = p ∧ w' = w) := by
  obtain ⟨h1, h2, h3, h4, h5, h6⟩ := h
  obtain ⟨p, w, g1, g2, g3, g4⟩ := h3 (hN - 1) (by omega)
  refine ⟨p, w, g1, g2, g3, g4, h1, by omega, fun a ha => h3 a (by omega), h4, fun p' w' hp' hw' hs hX => ?_, h6⟩
  rcases h5 p' w' hp' hw' hs (fun z => z) with ⟨a, q1, q2⟩ | g
  · refine Or.inl ⟨a, ?_, q2⟩
    have : a ≠ hN - 1 := fun e => by
      rw [e, g3] at q2
      have := (nI_eq (by omega) (by omega)).mp q2
      exact hX ⟨by omega, by omega⟩
    omega
  · exact Or.inr g
theorem Rv_it {np : Nat} {pX pY : Nat → Int32} {Th : Nat → Nat → Nat → Prop} {Pd : Nat → Nat → Prop} {w0 : Nat} {se pl se1 pl1 se2 pl2 : Nat → Int32} {hN hN1 hN2 p w t : Nat} (hn : np ≤ 120) (hp : p < np) (ht : t < 2) (hT : ∀ p w t, p < np → w < 2 → Th p w t → t < 2) (hfn : ∀ t', Th p w t' → t' = t) (hs : ∀ q, ed pX pY np p q → Pd q t)
    (h : Rv np (ed pX pY np) Th Pd w0 se pl hN (fun p' w' => p' = p ∧ w' = w)) (c1 : Cm np (pX p) t se pl hN se1 pl1 hN1) (c2 : Cm np (pY p) t se1 pl1 hN1 se2 pl2 hN2) :
    Rv np (ed pX pY np) Th Pd w0 se2 pl2 hN2 (fun _ _ => False) ∧ 2 * (240 - cs se2) + hN2 ≤ 2 * (240 - cs se) + hN := by
  obtain ⟨r1, d1, m1, u1⟩ := Cm_step hn ht hT h (fun j hj hx => hs j ⟨Or.inl hx, hj⟩) c1
  obtain ⟨r2, d2, m2, u2⟩ := Cm_step hn ht hT r1 (fun j hj hx => hs j ⟨Or.inr hx, hj⟩) c2
  obtain ⟨h1, h2, h3, h4, h5, h6⟩ := r2
  refine ⟨⟨h1, h2, h3, h4, fun p' w' hp' hw' hse _ => ?_, h6⟩, Nat.le_trans u2 u1⟩
  by_cases e : p' = p ∧ w' = w
  · obtain ⟨e1, e2⟩ := e
    subst e1; subst e2
    refine Or.inr (fun q t' he hth => ?_)
    rw [hfn t' hth]
    obtain ⟨he | he, hq⟩ := he
    · exact m2 _ (d1 q hq he)
    · exact d2 q hq he
  · exact h5 p' w' hp' hw' hse e
def gvR (nv : Nat) (vG : Nat → Int32) (x : Int32) : Prop := ∃ v, v < nv ∧ x = nI v ∧ ¬ vG v = 0
def MR1 (nv np : Nat) (vG pD mV mF mM pX pY : Nat → Int32) (x : Int32) (q p : Nat) : Prop := may (ed pX pY np) np (gvR nv vG x) (fun p => isR pD mV mF mM x q p ∧ pD p = 1) (fun p => isR pD mV mF mM x q p ∧ ¬ pD p = 1) p
def MR0 (nv np : Nat) (vG pD mV mF mM pX pY : Nat → Int32) (x : Int32) (q p : Nat) : Prop := may (ed pX pY np) np (¬ gvR nv vG x) (fun p => isR pD mV mF mM x q p ∧ ¬ pD p = 1) (fun p => isR pD mV mF mM x q p ∧ pD p = 1) p
def MR (nv np : Nat) (vG pD mV mF mM pX pY : Nat → Int32) (x : Int32) (q w p : Nat) : Prop := (w = 1 ∧ MR1 nv np vG pD mV mF mM pX pY x q p) ∨ (w = 0 ∧ MR0 nv np vG pD mV mF mM pX pY x q p)
section MRS
variable {nv np : Nat} {vG pD mV mF mM pX pY : Nat → Int32} {x : Int32} {q : Nat}
theorem MR_rch {w p : Nat} (h : MR nv np vG pD mV mF mM pX pY x q w p) : rch (ed pX pY np) np p := h.elim (fun h => may_rch h.2) (fun h => may_rch h.2)
theorem MR_st {w p t p' : Nat} (h : MR nv np vG pD mV mF mM pX pY x q w p) (he : ed pX pY np p p') (ht : ThR pD mV mF mM x q p w t) : MR nv np vG pD mV mF mM pX pY x q t p' := by
  have hr := MR_rch h
  rcases ht with ⟨a, b, c⟩ | ⟨a, b, c⟩ | ⟨a, c⟩
  · exact Or.inl ⟨c, may_g hr he ⟨a, b⟩⟩
  · exact Or.inr ⟨c, may_g hr he ⟨a, b⟩⟩
  · subst c
    rcases h with ⟨h1, h2⟩ | ⟨h1, h2⟩
    · exact Or.inl ⟨h1, may_p h2 he (fun z => a z.1)⟩
    · exact Or.inr ⟨h1, may_p h2 he (fun z => a z.1)⟩
theorem MR_0 {w0 : Nat} (hn : 0 < np) (hw : (w0 = 1 ∧ gvR nv vG x) ∨ (w0 = 0 ∧ ¬ gvR nv vG x)) : MR nv np vG pD mV mF mM pX pY x q w0 0 := by
  rcases hw with ⟨h1, h2⟩ | ⟨h1, h2⟩
  · exact Or.inl ⟨h1, may_0 hn h2⟩
  · exact Or.inr ⟨h1, may_0 hn h2⟩
end MRS
/-- what go(x, q) leaves in seen -/
def GoR (nv np : Nat) (vG pD mV mF mM pX pY : Nat → Int32) (x : Int32) (q : Nat) (se : Nat → Int32) : Prop :=
  (∀ i, i < 240 → se i = 0 ∨ se i = 1) ∧ (∀ p w, p < np → w < 2 → (se (2 * p + w) = 1 ↔ MR nv np vG pD mV mF mM pX pY x q w p)) ∧ ∀ p, p < np → (rch (ed pX pY np) np p ↔ (se (2 * p + 0) = 1 ∨ se (2 * p + 1) = 1))
abbrev RvR (nv np : Nat) (vG pD mV mF mM pX pY : Nat → Int32) (x : Int32) (q w0 : Nat) (se pl : Nat → Int32) (hN : Nat) (X : Nat → Nat → Prop) : Prop := Rv np (ed pX pY np) (ThR pD mV mF mM x q) (fun p w => MR nv np vG pD mV mF mM pX pY x q w p) w0 se pl hN X
theorem ThR_ex {pD mV mF mM : Nat → Int32} {x : Int32} {q p w : Nat} : ∃ t, ThR pD mV mF mM x q p w t := by
  by_cases a : isR pD mV mF mM x q p
  · by_cases b : pD p = 1
    · exact ⟨1, Or.inl ⟨a, b, rfl⟩⟩
    · exact ⟨0, Or.inr (Or.inl ⟨a, b, rfl⟩)⟩
  · exact ⟨w, Or.inr (Or.inr ⟨a, rfl⟩)⟩
theorem Rv_end {nv np : Nat} {vG pD mV mF mM pX pY : Nat → Int32} {x : Int32} {q w0 : Nat} {se pl : Nat → Int32} (hn : np ≤ 120) (hw : (w0 = 1 ∧ gvR nv vG x) ∨ (w0 = 0 ∧ ¬ gvR nv vG x)) (h : RvR nv np vG pD mV mF mM pX pY x q w0 se pl 0 (fun _ _ => False)) : GoR nv np vG pD mV mF mM pX pY x q se := by
  obtain ⟨h1, h2, h3, h4, h5, h6⟩ := h
  have cl : ∀ p w, p < np → w < 2 → se (2 * p + w) = 1 → ∀ q' t, ed pX pY np p q' → ThR pD mV mF mM x q p w t → se (2 * q' + t) = 1 := fun p w hp hw hs => (h5 p w hp hw hs (fun z => z)).elim (fun ⟨a, ha, _⟩ => absurd ha (Nat.not_lt_zero a)) id
  have w2 : w0 < 2 := by rcases hw with ⟨h, _⟩ | ⟨h, _⟩ <;> omega
  have X0 : 0 < np → (0 < np ∧ ∃ w, w < 2 ∧ se (2 * 0 + w) = 1) := fun h => ⟨h, w0, w2, h6 h⟩
  have XS : ∀ a b, (a < np ∧ ∃ w, w < 2 ∧ se (2 * a + w) = 1) → ed pX pY np a b → (b < np ∧ ∃ w, w < 2 ∧ se (2 * b + w) = 1) := by
    rintro a b ⟨ha, w, hw2, hs⟩ he
    obtain ⟨t, ht⟩ := ThR_ex (pD := pD) (mV := mV) (mF := mF) (mM := mM) (x := x) (q := q) (p := a) (w := w)
    exact ⟨he.2, t, ThR_lt ht hw2, cl a w ha hw2 hs b t he ht⟩
  refine ⟨h1, fun p w hp hw2 => ⟨h4 p w hp hw2, fun hm => ?_⟩, fun p hp => ⟨fun hr => ?_, fun hs => ?_⟩⟩
  · rcases hm with ⟨e, hm⟩ | ⟨e, hm⟩
    · subst e
      refine may_in (X := fun a => a < np ∧ ∃ w, w < 2 ∧ se (2 * a + w) = 1) (B := fun a => se (2 * a + 1) = 1) X0 XS (fun h0 hg => ?_) (fun a b hX he hgk => ?_) hm
      · rcases hw with ⟨e, _⟩ | ⟨_, hno⟩
        · subst e; exact h6 h0
        · exact absurd hg hno
      · obtain ⟨ha, w, hw2, hs⟩ := hX
        rcases hgk with ⟨g1, g2⟩ | ⟨g1, g2⟩
        · exact cl a w ha hw2 hs b 1 he (Or.inl ⟨g1, g2, rfl⟩)
        · by_cases hi : isR pD mV mF mM x q a
          · by_cases hd : pD a = 1
            · exact cl a 1 ha (by decide) g2 b 1 he (Or.inl ⟨hi, hd, rfl⟩)
            · exact absurd ⟨hi, hd⟩ g1
          · exact cl a 1 ha (by decide) g2 b 1 he (Or.inr (Or.inr ⟨hi, rfl⟩))
    · subst e
      refine may_in (X := fun a => a < np ∧ ∃ w, w < 2 ∧ se (2 * a + w) = 1) (B := fun a => se (2 * a + 0) = 1) X0 XS (fun h0 hg => ?_) (fun a b hX he hgk => ?_) hm
      · rcases hw with ⟨_, hyes⟩ | ⟨e, _⟩
        · exact absurd hyes hg
        · subst e; exact h6 h0
      · obtain ⟨ha, w, hw2, hs⟩ := hX
        rcases hgk with ⟨g1, g2⟩ | ⟨g1, g2⟩
        · exact cl a w ha hw2 hs b 0 he (Or.inr (Or.inl ⟨g1, g2, rfl⟩))
        · by_cases hi : isR pD mV mF mM x q a
          · by_cases hd : pD a = 1
            · exact absurd ⟨hi, hd⟩ g1
            · exact cl a 0 ha (by decide) g2 b 0 he (Or.inr (Or.inl ⟨hi, hd, rfl⟩))
          · exact cl a 0 ha (by decide) g2 b 0 he (Or.inr (Or.inr ⟨hi, rfl⟩))
  · obtain ⟨_, w, hw2, hs⟩ := rch_in X0 XS hr
    rcases (show w = 0 ∨ w = 1 by omega) with e | e
    · subst e; exact Or.inl hs
    · subst e; exact Or.inr hs
  · rcases hs with hs | hs
    · exact MR_rch (h4 p 0 hp (by decide) hs)
    · exact MR_rch (h4 p 1 hp (by decide) hs)
theorem Rv_begin {nv np : Nat} {vG pD mV mF mM pX pY : Nat → Int32} {x : Int32} {q w0 : Nat} {se pl se' pl' : Nat → Int32} {hN' : Nat} (hn : np ≤ 120) (hw : (w0 = 1 ∧ gvR nv vG x) ∨ (w0 = 0 ∧ ¬ gvR nv vG x)) (hz : ∀ i, i < 240 → se i = 0) (hc : Cm np (nI 0) w0 se pl 0 se' pl' hN') : RvR nv np vG pD mV mF mM pX pY x q w0 se' pl' hN' (fun _ _ => False) := by
  have w2 : w0 < 2 := by rcases hw with ⟨h, _⟩ | ⟨h, _⟩ <;> omega
  rcases hc with ⟨hc, e1, e2, e3⟩ | ⟨j, hj, hx, h0, e1, e2, e3⟩
  · have hnp : ¬ 0 < np := fun h => by
      rcases hc with hc | ⟨j, hj, hxj, hs⟩
      · exact hc 0 h rfl
      · exact hs (hz _ (by omega))
    subst e1; subst e2; subst e3
    exact ⟨fun i hi => Or.inl (hz i hi), Nat.zero_le _, fun a ha => absurd ha (Nat.not_lt_zero a), fun p w hp => absurd hp (by omega), fun p w hp => absurd hp (by omega), fun h => absurd h hnp⟩
  · have : j = 0 := (nI_eq (by omega) (by omega)).mp hx.symm
    subst this
    have hs : ∀ i, i < 240 → se' i = 1 → i = 2 * 0 + w0 := fun i hi h => Classical.byContradiction (fun e => by
      rw [e1, pk_un e, hz i hi] at h
      exact i01 h)
    have h1 : se' (2 * 0 + w0) = 1 := by rw [e1, pk_us]
    have hcs : cs se' = cs se + 1 := by
      rw [e1]
      exact cnt_set (f := fun i => decide (se i = 1)) (g := fun i => decide (upd se (2 * 0 + w0) 1 i = 1)) (n := 240) (i := 2 * 0 + w0) (by omega) (by simp only [h0]; rfl) (by simp only [pk_us]; rfl) (fun i _ e => by simp only [pk_un e])
    refine ⟨fun i hi => ?_, by omega, fun a ha => ⟨0, w0, hj, w2, ?_, h1⟩, fun p w hp hw2 h => ?_, fun p w hp hw2 h _ => Or.inl ⟨0, by omega, ?_⟩, fun _ => h1⟩
    · by_cases e : i = 2 * 0 + w0
      · rw [e]; exact Or.inr h1
      · rw [e1, pk_un e]; exact Or.inl (hz i hi)
    · rw [e2, show a = 0 by omega, pk_us]
    · have e := hs _ (by omega) h
      rw [show p = 0 by omega, show w = w0 by omega]
      exact MR_0 hj hw
    · have e := hs _ (by omega) h
      rw [e2, pk_us, e]
/-- bits added one by one -/
def bxr (f : Nat → Bool) : Nat → Nat
  | 0 => 0
  | n + 1 => if f n = true then bxr f n ||| 2 ^ n else bxr f n
theorem nI_or (a b : Nat) : nI a ||| nI b = nI (a ||| b) := by
  apply Int32.toBitVec_inj.mp
  rw [Int32.toBitVec_or]
  show BitVec.ofNat 32 a ||| BitVec.ofNat 32 b = BitVec.ofNat 32 (a ||| b)
  rw [BitVec.ofNat_or]
theorem bit_sh : ∀ i, i < 9 → (1 : Int32) <<< (nI i &&& 31) = nI (2 ^ i) := by decide +kernel
theorem bxr_1 {f : Nat → Bool} {n : Nat} (h : f n = true) (hn : n < 9) : nI (bxr f n) ||| (1 : Int32) <<< (nI n &&& 31) = nI (bxr f (n + 1)) := by
  rw [bit_sh n hn, nI_or]
  simp only [bxr]
  rw [if_pos h]
theorem bxr_0 {f : Nat → Bool} {n : Nat} (h : f n = false) : nI (bxr f n) = nI (bxr f (n + 1)) := by
  simp only [bxr]
  rw [if_neg (by rw [h]; decide)]
theorem bxr_bit (f : Nat → Bool) (n t : Nat) : (bxr f n).testBit t = (decide (t < n) && f t) := by
  induction n with
  | zero => simp [bxr]
  | succ n ih =>
    simp only [bxr]
    by_cases h : f n = true
    · rw [if_pos h, Nat.testBit_or, ih, Nat.testBit_two_pow]
      by_cases e : n = t
      · subst e; simp [h]
      · have : decide (t < n + 1) = decide (t < n) := by
          apply decide_eq_decide.mpr; omega
        rw [this]
        simp [e]
    · rw [if_neg h, ih]
      by_cases e : n = t
      · subst e
        simp at h
        simp [h]
      · have : decide (t < n + 1) = decide (t < n) := by
          apply decide_eq_decide.mpr; omega
        rw [this]
theorem bxr_lt (f : Nat → Bool) (n : Nat) : bxr f n < 2 ^ n := by
  induction n with
  | zero => simp [bxr]
  | succ n ih =>
    simp only [bxr]
    have h2 : 2 ^ (n + 1) = 2 ^ n * 2 := Nat.pow_succ 2 n
    by_cases h : f n = true
    · rw [if_pos h]
      exact Nat.or_lt_two_pow (by omega) (by omega)
    · rw [if_neg h]; omega
/-- what point asks, in the reference -/
def rOK (nv np : Nat) (vP : Nat → Int32) (d x a b : Int32) : Prop := ¬ d < 0 ∧ ¬ 5 < d ∧ np < 120 ∧ (d = 0 ∨ ((¬ x < 0 ∧ ¬ nI nv ≤ x) ∧ (d < 1 ∨ 3 < d ∨ (¬ a < 0 ∧ ¬ b < 1 ∧ ¬ 8 ≤ a ∧ ¬ 8 < b ∧ ¬ vP (tN x) < a + b))))
theorem i32_lt {x y : Int32} : x < y ↔ x.toInt < y.toInt := Int32.lt_iff_toInt_lt
theorem i32_le {x y : Int32} : x ≤ y ↔ x.toInt ≤ y.toInt := Int32.le_iff_toInt_le
theorem lt1_of {d : Int32} (h : ¬ d < 0) (h0 : ¬ d = 0) : ¬ d < 1 := by
  rw [i32_lt] at h ⊢
  have g0 : ¬ d.toInt = 0 := lv_neT h0 rfl
  have e0 : (0 : Int32).toInt = 0 := rfl
  have e1 : (1 : Int32).toInt = 1 := rfl
  omega
theorem ge4_of {d : Int32} (h : 3 < d) : 4 ≤ d := by
  rw [i32_lt] at h
  rw [i32_le]
  have e0 : (3 : Int32).toInt = 3 := rfl
  have e1 : (4 : Int32).toInt = 4 := rfl
  omega
theorem nge4_of {d : Int32} (h : ¬ 3 < d) : ¬ 4 ≤ d := by
  rw [i32_lt] at h
  rw [i32_le]
  have e0 : (3 : Int32).toInt = 3 := rfl
  have e1 : (4 : Int32).toInt = 4 := rfl
  omega
theorem le_of_nlt {x y : Int32} (h : ¬ x < y) : y ≤ x := by
  rw [i32_lt] at h
  rw [i32_le]
  omega
theorem nle_of_lt {x y : Int32} (h : x < y) : ¬ y ≤ x := by
  rw [i32_lt] at h
  rw [i32_le]
  omega
theorem zz_s {se : Nat → Int32} {i : Nat} (h : ∀ k, k < i → se k = 0) : ∀ k, k < i + 1 → upd se i 0 k = 0 := by
  intro k hk
  by_cases e : k = i
  · rw [e, pk_us]
  · rw [pk_un e]; exact h k (by omega)
theorem gv_no1 {nv : Nat} {vG : Nat → Int32} {x : Int32} (h : ∀ v, v < nv → ¬ x = nI v) : ¬ gvR nv vG x := fun ⟨v, h1, h2, _⟩ => h v h1 h2
theorem gv_no2 {nv v : Nat} {vG : Nat → Int32} {x : Int32} (hn : nv ≤ 20) (hv : v < nv) (hx : x = nI v) (h : vG v = 0) : ¬ gvR nv vG x := fun ⟨v', h1, h2, h3⟩ => by
  have : v' = v := (nI_eq (by omega) (by omega)).mp (h2.symm.trans hx)
  rw [this] at h3
  exact h3 h
