/-! The reference's answers, as functions of what it keeps. -/
noncomputable def bxN (nv np : Nat) (vP vG pD mV mF mM pX pY : Nat → Int32) (w j v : Nat) : Nat := bxr (fun t => tb (MR nv np vG pD mV mF mM pX pY (nI v) t w j)) (tN (vP v))
noncomputable def frv (nv np : Nat) (vP vO vG pD mV mF mM pX pY : Nat → Int32) (j : Nat) : Int32 :=
  if pD j < 1 ∨ 3 < pD j ∨ tb (rch (ed pX pY np) np j) = false then 0
  else if pD j = 1 then (if vO (tN (mV j)) = 0 then 0 else if ¬ vP (tN (mV j)) ≤ mM j then 3 else if nI (bxN nv np vP vG pD mV mF mM pX pY 1 j (tN (mV j))) = 0 then 0 else 2)
  else (if nI (bxN nv np vP vG pD mV mF mM pX pY 0 j (tN (mV j))) &&& (lb (mM j) <<< (mF j &&& 31)) = 0 then 0 else 1)
/-- the reference's rows are in range -/
def RI (nv np : Nat) (vP pD mV : Nat → Int32) : Prop := nv ≤ 20 ∧ np ≤ 120 ∧ (∀ v, v < nv → vP v = nI (tN (vP v)) ∧ tN (vP v) ≤ 8) ∧ ∀ q, q < np → ¬ pD q < 1 → ¬ 3 < pD q → mV q = nI (tN (mV q)) ∧ tN (mV q) < nv
theorem se_no {se : Nat → Int32} {i : Nat} (h : ∀ i, i < 240 → se i = 0 ∨ se i = 1) (hi : i < 240) (hn : ¬ se i = 0) : se i = 1 := (h i hi).elim (fun z => absurd z hn) id
theorem se_z {x : Int32} (h : x = 0) : ¬ x = 1 := fun z => i01 (h.symm.trans z)
theorem m1_neg {m : Nat} (hm : m ≤ 120) : nI m + (-1) < 0 ↔ m = 0 := by
  cases m with
  | zero => exact ⟨fun _ => rfl, fun _ => by decide⟩
  | succ m =>
    rw [pk_m1]
    exact ⟨fun h => absurd h (nI_pos (by omega)), fun h => by omega⟩
theorem cnt_mle (f : Nat → Bool) {a b : Nat} (h : a ≤ b) : cnt f a ≤ cnt f b := by
  induction b with
  | zero => rw [show a = 0 by omega]; exact Nat.le_refl _
  | succ b ih =>
    by_cases e : a = b + 1
    · rw [e]; exact Nat.le_refl _
    · have := ih (by omega)
      simp only [cnt]
      omega
theorem cd_1 {f : Nat → Bool} {p n s : Nat} (hp : p < n) (h : f p = true) (hs : s = cnt f n - cnt f (p + 1)) : s + 1 = cnt f n - cnt f p := by
  have h1 := cnt_s1 h
  have h2 := cnt_mle f (show p + 1 ≤ n from hp)
  omega
theorem cd_0 {f : Nat → Bool} {p n s : Nat} (h : f p = false) (hs : s = cnt f n - cnt f (p + 1)) : s = cnt f n - cnt f p := by
  rw [hs, cnt_s0 h]
/-- the first of the points from m on -/
def fst9 (f : Nat → Bool) (n m : Nat) (r : Int32) : Prop := (r = -1 ∧ ∀ q, m ≤ q → q < n → f q = false) ∨ ∃ j, m ≤ j ∧ j < n ∧ r = nI j ∧ f j = true ∧ ∀ q, m ≤ q → q < j → f q = false
theorem fst_1 {f : Nat → Bool} {n p : Nat} (hp : p < n) (h : f p = true) : fst9 f n p (nI p) := Or.inr ⟨p, Nat.le_refl _, hp, rfl, h, fun q h1 h2 => by omega⟩
theorem fst_0 {f : Nat → Bool} {n p : Nat} {r : Int32} (h : f p = false) (hr : fst9 f n (p + 1) r) : fst9 f n p r := by
  have hq : ∀ q, p ≤ q → ¬ p + 1 ≤ q → f q = false := fun q h1 h2 => by rw [show q = p by omega]; exact h
  rcases hr with ⟨h1, h2⟩ | ⟨j, h1, h2, h3, h4, h5⟩
  · refine Or.inl ⟨h1, fun q hq1 hq2 => ?_⟩
    by_cases e : p + 1 ≤ q
    · exact h2 q e hq2
    · exact hq q hq1 e
  · refine Or.inr ⟨j, by omega, h2, h3, h4, fun q hq1 hq2 => ?_⟩
    by_cases e : p + 1 ≤ q
    · exact h5 q e hq2
    · exact hq q hq1 e
theorem fst_e {f : Nat → Bool} {n : Nat} : fst9 f n n (-1) := Or.inl ⟨rfl, fun q h1 h2 => by omega⟩
theorem gt1_of {x : Int32} (h : ¬ x ≤ 1) : 1 < x := by
  rw [i32_le] at h
  rw [i32_lt]
  omega
theorem nlt_of_le {x y : Int32} (h : x ≤ y) : ¬ y < x := by
  rw [i32_le] at h
  rw [i32_lt]
  omega
theorem lt_of_nle {x y : Int32} (h : ¬ x ≤ y) : y < x := by
  rw [i32_le] at h
  rw [i32_lt]
  omega
theorem ex_of {a b c : Prop} (h : a ∨ b ∨ c) (ha : ¬ a) (hb : ¬ b) : c := h.elim (fun z => absurd z ha) (fun z => z.elim (fun z => absurd z hb) id)
theorem pt_un {np j : Nat} {r : Int32} {P : Nat → Int32 → Prop} {r0 : Int32} (hn : np ≤ 120) (hj : j < np) (h : ((∀ j', j' < np → ¬ nI j = nI j') ∧ r = r0) ∨ ∃ j', j' < np ∧ nI j = nI j' ∧ P j' r) : P j r := by
  rcases h with ⟨h, _⟩ | ⟨j', h1, h2, h3⟩
  · exact absurd rfl (h j hj)
  · have : j = j' := (nI_eq (by omega) (by omega)).mp h2
    subst this
    exact h3
theorem pv_un {np nv j v : Nat} {r : Int32} {f : Nat → Nat → Int32} (hn : np ≤ 120) (hnv : nv ≤ 20) (hj : j < np) (hv : v < nv) (h : ((((∀ j', j' < np → ¬ nI j = nI j') ∨ ∀ v', v' < nv → ¬ nI v = nI v') ∧ r = 0) ∨ ∃ j' v', j' < np ∧ v' < nv ∧ nI j = nI j' ∧ nI v = nI v' ∧ r = f j' v')) : r = f j v := by
  rcases h with ⟨h | h, _⟩ | ⟨j', v', h1, h2, h3, h4, h5⟩
  · exact absurd rfl (h j hj)
  · exact absurd rfl (h v hv)
  · have e1 : j = j' := (nI_eq (by omega) (by omega)).mp h3
    have e2 : v = v' := (nI_eq (by omega) (by omega)).mp h4
    rw [e1, e2]; exact h5
