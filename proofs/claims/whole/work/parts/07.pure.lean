/-! Pure rows: counting, sums, bits of longs, ways over a graph, the ring of waiting points, one step of the solver. -/
def cnt (f : Nat → Bool) : Nat → Nat
  | 0 => 0
  | n + 1 => cnt f n + (if f n = true then 1 else 0)
theorem cnt_le (f : Nat → Bool) (n : Nat) : cnt f n ≤ n := by
  induction n with
  | zero => exact Nat.le_refl 0
  | succ n ih =>
    simp only [cnt]
    split <;> omega
theorem cnt_mono {f g : Nat → Bool} {n : Nat} (h : ∀ i, i < n → f i = true → g i = true) : cnt f n ≤ cnt g n := by
  induction n with
  | zero => exact Nat.le_refl 0
  | succ n ih =>
    have h1 := ih (fun i hi => h i (Nat.lt_succ_of_lt hi))
    have h2 := h n (Nat.lt_succ_self n)
    simp only [cnt]
    by_cases hf : f n = true
    · rw [if_pos hf, if_pos (h2 hf)]; omega
    · rw [if_neg hf]; split <;> omega
theorem cnt_lt {f g : Nat → Bool} {n i : Nat} (h : ∀ i, i < n → f i = true → g i = true) (hi : i < n) (hf : f i = false) (hg : g i = true) : cnt f n + 1 ≤ cnt g n := by
  induction n with
  | zero => exact absurd hi (Nat.not_lt_zero i)
  | succ n ih =>
    simp only [cnt]
    by_cases e : i = n
    · subst e
      have h1 := cnt_mono (f := f) (g := g) (n := i) (fun j hj => h j (Nat.lt_succ_of_lt hj))
      rw [if_neg (by rw [hf]; decide), if_pos hg]; omega
    · have h1 := ih (fun j hj => h j (Nat.lt_succ_of_lt hj)) (by omega)
      have h2 := h n (Nat.lt_succ_self n)
      by_cases hfn : f n = true
      · rw [if_pos hfn, if_pos (h2 hfn)]; omega
      · rw [if_neg hfn]; split <;> omega
theorem cnt_congr {f g : Nat → Bool} {n : Nat} (h : ∀ i, i < n → f i = g i) : cnt f n = cnt g n := by
  induction n with
  | zero => rfl
  | succ n ih =>
    simp only [cnt]
    rw [ih (fun i hi => h i (Nat.lt_succ_of_lt hi)), h n (Nat.lt_succ_self n)]
theorem cnt_set {f g : Nat → Bool} {n i : Nat} (hi : i < n) (hf : f i = false) (hg : g i = true) (ho : ∀ j, j < n → j ≠ i → g j = f j) : cnt g n = cnt f n + 1 := by
  induction n with
  | zero => exact absurd hi (Nat.not_lt_zero i)
  | succ n ih =>
    simp only [cnt]
    by_cases e : i = n
    · subst e
      rw [cnt_congr (f := g) (g := f) (n := i) (fun j hj => ho j (Nat.lt_succ_of_lt hj) (Nat.ne_of_lt hj)), if_pos hg, if_neg (by rw [hf]; decide)]
    · rw [ih (by omega) (fun j hj => ho j (Nat.lt_succ_of_lt hj)), ho n (Nat.lt_succ_self n) (fun h => e h.symm)]
      omega
theorem cnt_zero {f : Nat → Bool} {n : Nat} (h : cnt f n = 0) : ∀ i, i < n → f i = false := by
  induction n with
  | zero => exact fun i hi => absurd hi (Nat.not_lt_zero i)
  | succ n ih =>
    simp only [cnt] at h
    intro i hi
    by_cases e : i = n
    · subst e
      cases hf : f i with
      | false => rfl
      | true => rw [if_pos hf] at h; omega
    · exact ih (by omega) i (by omega)
theorem cnt_none {f : Nat → Bool} {n : Nat} (h : ∀ i, i < n → f i = false) : cnt f n = 0 := by
  induction n with
  | zero => rfl
  | succ n ih =>
    simp only [cnt]
    rw [ih (fun i hi => h i (Nat.lt_succ_of_lt hi)), if_neg (by rw [h n (Nat.lt_succ_self n)]; decide)]
def smN (f : Nat → Nat) : Nat → Nat
  | 0 => 0
  | n + 1 => smN f n + f n
theorem smN_le {f : Nat → Nat} {b : Nat} (h : ∀ i, f i ≤ b) (n : Nat) : smN f n ≤ n * b := by
  induction n with
  | zero => exact Nat.zero_le _
  | succ n ih =>
    simp only [smN]
    have := h n
    rw [Nat.succ_mul]
    omega
theorem smN_mono {f g : Nat → Nat} {n : Nat} (h : ∀ i, i < n → f i ≤ g i) : smN f n ≤ smN g n := by
  induction n with
  | zero => exact Nat.le_refl 0
  | succ n ih =>
    simp only [smN]
    have h1 := ih (fun i hi => h i (Nat.lt_succ_of_lt hi))
    have h2 := h n (Nat.lt_succ_self n)
    omega
theorem smN_lt {f g : Nat → Nat} {n i : Nat} (h : ∀ i, i < n → f i ≤ g i) (hi : i < n) (hl : f i + 1 ≤ g i) : smN f n + 1 ≤ smN g n := by
  induction n with
  | zero => exact absurd hi (Nat.not_lt_zero i)
  | succ n ih =>
    simp only [smN]
    by_cases e : i = n
    · subst e
      have h1 := smN_mono (f := f) (g := g) (n := i) (fun j hj => h j (Nat.lt_succ_of_lt hj))
      omega
    · have h1 := ih (fun j hj => h j (Nat.lt_succ_of_lt hj)) (by omega)
      have h2 := h n (Nat.lt_succ_self n)
      omega
/-- bit i of a long -/
def bl (x : Int64) (i : Nat) : Bool := x.toBitVec.getLsbD i
theorem bl_or (x y : Int64) (i : Nat) : bl (x ||| y) i = (bl x i || bl y i) := by
  unfold bl
  rw [Int64.toBitVec_or, BitVec.getLsbD_or]
theorem bl_and (x y : Int64) (i : Nat) : bl (x &&& y) i = (bl x i && bl y i) := by
  unfold bl
  rw [Int64.toBitVec_and, BitVec.getLsbD_and]
theorem bl_not (x : Int64) {i : Nat} (hi : i < 64) : bl (x ^^^ (-1)) i = !bl x i := by
  unfold bl
  rw [Int64.toBitVec_xor, BitVec.getLsbD_xor, show ((-1 : Int64).toBitVec) = BitVec.allOnes 64 from rfl, BitVec.getLsbD_allOnes]
  simp [hi]
theorem bl_0 (i : Nat) : bl 0 i = false := by
  unfold bl
  rw [show ((0 : Int64).toBitVec) = 0#64 from rfl]
  simp
theorem bl_ext {x y : Int64} (h : ∀ i, i < 64 → bl x i = bl y i) : x = y := by
  have hb : x.toBitVec = y.toBitVec := BitVec.eq_of_getLsbD_eq (fun i hi => h i hi)
  exact Int64.toBitVec_inj.mp hb
def pop (x : Int64) : Nat := cnt (bl x) 64
theorem pop_le (x : Int64) : pop x ≤ 64 := cnt_le _ _
theorem pop_or (x y : Int64) : pop x ≤ pop (x ||| y) := cnt_mono (fun i _ h => by rw [bl_or, h]; rfl)
theorem pop_or_lt {x y : Int64} (h : ¬ x ||| y = x) : pop x + 1 ≤ pop (x ||| y) := by
  have : ∃ i, i < 64 ∧ bl x i = false ∧ bl (x ||| y) i = true := by
    refine Classical.byContradiction (fun hn => h (bl_ext (fun i hi => ?_)))
    cases h1 : bl x i with
    | true => rw [bl_or, h1]; rfl
    | false =>
      cases h2 : bl (x ||| y) i with
      | false => rfl
      | true => exact absurd ⟨i, hi, h1, h2⟩ hn
  obtain ⟨i, hi, h1, h2⟩ := this
  exact cnt_lt (fun j _ hj => by rw [bl_or, hj]; rfl) hi h1 h2
/-! ways -/
def ed (pX pY : Nat → Int32) (np q p : Nat) : Prop := (pX q = nI p ∨ pY q = nI p) ∧ p < np
def wy (E : Nat → Nat → Prop) (np : Nat) : Nat → Nat → Prop
  | 0, p => p = 0 ∧ 0 < np
  | k + 1, p => ∃ q, wy E np k q ∧ E q p
def fk (E : Nat → Nat → Prop) (np : Nat) (b0 : Prop) (gn kl : Nat → Prop) : Nat → Nat → Prop
  | 0, p => p = 0 ∧ 0 < np ∧ b0
  | k + 1, p => ∃ q, E q p ∧ wy E np k q ∧ (gn q ∨ (¬ kl q ∧ fk E np b0 gn kl k q))
def rch (E : Nat → Nat → Prop) (np p : Nat) : Prop := ∃ k, wy E np k p
def may (E : Nat → Nat → Prop) (np : Nat) (b0 : Prop) (gn kl : Nat → Prop) (p : Nat) : Prop := ∃ k, fk E np b0 gn kl k p
section WAYS
variable {E : Nat → Nat → Prop} {np : Nat} {b0 : Prop} {gn kl : Nat → Prop} {p q : Nat}
theorem fk_wy {k : Nat} (h : fk E np b0 gn kl k p) : wy E np k p := by
  cases k with
  | zero => exact ⟨h.1, h.2.1⟩
  | succ k =>
    obtain ⟨q, h1, h2, _⟩ := h
    exact ⟨q, h2, h1⟩
theorem rch_0 (h : 0 < np) : rch E np 0 := ⟨0, rfl, h⟩
theorem rch_s (h : rch E np q) (he : E q p) : rch E np p := by
  obtain ⟨k, h⟩ := h
  exact ⟨k + 1, q, h, he⟩
theorem may_rch (h : may E np b0 gn kl p) : rch E np p := by
  obtain ⟨k, h⟩ := h
  exact ⟨k, fk_wy h⟩
theorem may_0 (h : 0 < np) (hb : b0) : may E np b0 gn kl 0 := ⟨0, rfl, h, hb⟩
theorem may_g (h : rch E np q) (he : E q p) (hg : gn q) : may E np b0 gn kl p := by
  obtain ⟨k, h⟩ := h
  exact ⟨k + 1, q, he, h, Or.inl hg⟩
theorem may_p (h : may E np b0 gn kl q) (he : E q p) (hk : ¬ kl q) : may E np b0 gn kl p := by
  obtain ⟨k, h⟩ := h
  exact ⟨k + 1, q, he, fk_wy h, Or.inr ⟨hk, h⟩⟩
theorem rch_in {X : Nat → Prop} (h0 : 0 < np → X 0) (hs : ∀ q p, X q → E q p → X p) (h : rch E np p) : X p := by
  obtain ⟨k, h⟩ := h
  induction k generalizing p with
  | zero => obtain ⟨rfl, h⟩ := h; exact h0 h
  | succ k ih =>
    obtain ⟨q, h1, h2⟩ := h
    exact hs q p (ih h1) h2
theorem may_in {X B : Nat → Prop} (h0 : 0 < np → X 0) (hs : ∀ q p, X q → E q p → X p) (hb : 0 < np → b0 → B 0) (hB : ∀ q p, X q → E q p → (gn q ∨ (¬ kl q ∧ B q)) → B p) (h : may E np b0 gn kl p) : B p := by
  obtain ⟨k, h⟩ := h
  induction k generalizing p with
  | zero => obtain ⟨rfl, h1, h2⟩ := h; exact hb h1 h2
  | succ k ih =>
    obtain ⟨q, h1, h2, h3⟩ := h
    refine hB q p (rch_in h0 hs ⟨k, h2⟩) h1 ?_
    rcases h3 with h3 | ⟨h3, h4⟩
    · exact Or.inl h3
    · exact Or.inr ⟨h3, ih h4⟩
theorem wy_congr {E' : Nat → Nat → Prop} (he : ∀ q p, q < np → (E q p ↔ E' q p)) (hn : ∀ q p, E q p → p < np) {k : Nat} : wy E np k p ↔ wy E' np k p := by
  have lt : ∀ (k p : Nat), wy E np k p → p < np := by
    intro k p h
    cases k with
    | zero => obtain ⟨rfl, h⟩ := h; exact h
    | succ k => obtain ⟨q, _, h2⟩ := h; exact hn q p h2
  induction k generalizing p with
  | zero => exact Iff.rfl
  | succ k ih =>
    constructor
    · intro h
      obtain ⟨q, h1, h2⟩ := h
      exact ⟨q, ih.mp h1, (he q p (lt k q h1)).mp h2⟩
    · intro h
      obtain ⟨q, h1, h2⟩ := h
      have h1' := ih.mpr h1
      exact ⟨q, h1', (he q p (lt k q h1')).mpr h2⟩
theorem rch_lt (hn : ∀ q p, E q p → p < np) (h : rch E np p) : p < np := by
  obtain ⟨k, h⟩ := h
  cases k with
  | zero => obtain ⟨rfl, h⟩ := h; exact h
  | succ k => obtain ⟨q, _, h2⟩ := h; exact hn q p h2
end WAYS
/-! the ring -/
def Rg (np : Nat) (iw wt : Nat → Int32) (hd wn : Nat) : Prop :=
  hd < 120 ∧ wn ≤ 120 ∧ (∀ i, i < 120 → iw i = 0 ∨ iw i = 1) ∧ cnt (fun i => decide (iw i = 1)) 120 = wn ∧ (∀ a, a < wn → ∃ j, j < np ∧ wt ((hd + a) % 120) = nI j ∧ iw j = 1) ∧ ∀ a b, a < wn → b < wn → wt ((hd + a) % 120) = wt ((hd + b) % 120) → a = b
theorem i01 : ¬ (0 : Int32) = 1 := by decide
theorem Rg_room {np : Nat} {iw wt : Nat → Int32} {hd wn j : Nat} (h : Rg np iw wt hd wn) (hj : j < 120) (h0 : iw j = 0) : wn < 120 := by
  obtain ⟨_, _, _, hc, _⟩ := h
  have h1 := cnt_lt (f := fun i => decide (iw i = 1)) (g := fun _ => true) (n := 120) (i := j) (fun _ _ _ => rfl) hj (by rw [h0]; rfl) rfl
  have h2 := cnt_le (fun _ => true) 120
  omega
theorem Rg_add {np : Nat} {iw wt : Nat → Int32} {hd wn j : Nat} (h : Rg np iw wt hd wn) (hn : np ≤ 120) (hj : j < np) (h0 : iw j = 0) : Rg np (upd iw j 1) (upd wt ((hd + wn) % 120) (nI j)) hd (wn + 1) := by
  have hr := Rg_room h (Nat.lt_of_lt_of_le hj hn) h0
  obtain ⟨hh, hw, hb, hc, hm, hd1⟩ := h
  have hne : ∀ a, a < wn → (hd + a) % 120 ≠ (hd + wn) % 120 := fun a ha => by omega
  have hold : ∀ a, a < wn → ∃ i, i < np ∧ wt ((hd + a) % 120) = nI i ∧ iw i = 1 ∧ i ≠ j := fun a ha => by
    obtain ⟨i, h1, h2, h3⟩ := hm a ha
    exact ⟨i, h1, h2, h3, fun e => i01 (by rw [← h0, ← e]; exact h3)⟩
  refine ⟨hh, by omega, fun i hi => ?_, ?_, fun a ha => ?_, fun a b ha hb2 hab => ?_⟩
  · by_cases e : i = j
    · rw [e, pk_us]; exact Or.inr rfl
    · rw [pk_un e]; exact hb i hi
  · rw [cnt_set (f := fun i => decide (iw i = 1)) (g := fun i => decide (upd iw j 1 i = 1)) (n := 120) (i := j) (by omega) (by simp [h0]) (by simp [pk_us]) (fun i _ e => by simp only [pk_un e]), hc]
  · by_cases e : a = wn
    · subst e
      exact ⟨j, hj, pk_us, pk_us⟩
    · obtain ⟨i, h1, h2, h3, h4⟩ := hold a (by omega)
      exact ⟨i, h1, by rw [pk_un (hne a (by omega))]; exact h2, by rw [pk_un h4]; exact h3⟩
  · by_cases ea : a = wn
    · by_cases eb : b = wn
      · omega
      · subst ea
        obtain ⟨i, h1, h2, h3, h4⟩ := hold b (by omega)
        rw [pk_us, pk_un (hne b (by omega)), h2] at hab
        exact absurd ((nI_eq (by omega) (by omega)).mp hab).symm h4
    · by_cases eb : b = wn
      · subst eb
        obtain ⟨i, h1, h2, h3, h4⟩ := hold a (by omega)
        rw [pk_us, pk_un (hne a (by omega)), h2] at hab
        exact absurd ((nI_eq (by omega) (by omega)).mp hab) h4
      · rw [pk_un (hne a (by omega)), pk_un (hne b (by omega))] at hab
        exact hd1 a b (by omega) (by omega) hab
theorem Rg_take {np : Nat} {iw wt : Nat → Int32} {hd wn : Nat} (h : Rg np iw wt hd wn) (hn : np ≤ 120) (h0 : 0 < wn) : ∃ j, j < np ∧ wt hd = nI j ∧ iw j = 1 ∧ Rg np (upd iw j 0) wt ((hd + 1) % 120) (wn - 1) := by
  obtain ⟨hh, hw, hb, hc, hm, hd1⟩ := h
  obtain ⟨j, h1, h2, h3⟩ := hm 0 h0
  have e0 : (hd + 0) % 120 = hd := by omega
  have em : ∀ a, a < wn - 1 → ((hd + 1) % 120 + a) % 120 = (hd + (a + 1)) % 120 := fun a _ => by omega
  rw [e0] at h2
  refine ⟨j, h1, h2, h3, by omega, by omega, fun i hi => ?_, ?_, fun a ha => ?_, fun a b ha hb2 hab => ?_⟩
  · by_cases e : i = j
    · rw [e, pk_us]; exact Or.inl rfl
    · rw [pk_un e]; exact hb i hi
  · have := cnt_set (f := fun i => decide (upd iw j 0 i = 1)) (g := fun i => decide (iw i = 1)) (n := 120) (i := j) (by omega) (by simp [pk_us]) (by simp [h3]) (fun i _ e => by simp only [pk_un e])
    omega
  · obtain ⟨i, g1, g2, g3⟩ := hm (a + 1) (by omega)
    have hij : i ≠ j := fun e => by
      have := hd1 0 (a + 1) h0 (by omega) (by rw [e0, h2, g2, e])
      omega
    exact ⟨i, g1, by rw [em a ha]; exact g2, by rw [pk_un hij]; exact g3⟩
  · rw [em a ha, em b hb2] at hab
    have := hd1 (a + 1) (b + 1) (by omega) (by omega) hab
    omega
/-! the solver's state: sound, closed but for X, begun, measured -/
def Sd (np : Nat) (E : Nat → Nat → Prop) (gn kl : Nat → Nat → Nat → Prop) (b0 : Nat → Nat → Prop) (rc : Nat → Int32) (ah : Nat → Int64) : Prop :=
  (∀ p, p < np → rc p = 1 → rch E np p) ∧ ∀ p w i, p < np → w < 6 → i < 64 → bl (ah (p * 6 + w)) i = true → may E np (b0 w i) (fun q => gn q w i) (fun q => kl q w i) p
def Cl (np : Nat) (E : Nat → Nat → Prop) (gn kl : Nat → Nat → Nat → Prop) (rc iw : Nat → Int32) (ah : Nat → Int64) (X : Nat → Prop) : Prop :=
  ∀ p q, p < np → ¬ X p → rc p = 1 → iw p = 0 → E p q → rc q = 1 ∧ ∀ w i, w < 6 → i < 64 → (gn p w i ∨ (¬ kl p w i ∧ bl (ah (p * 6 + w)) i = true)) → bl (ah (q * 6 + w)) i = true
def Bg (np : Nat) (b0 : Nat → Nat → Prop) (rc : Nat → Int32) (ah : Nat → Int64) : Prop := 0 < np → rc 0 = 1 ∧ ∀ w i, w < 6 → i < 64 → b0 w i → bl (ah (0 * 6 + w)) i = true
def gs (rc : Nat → Int32) (ah : Nat → Int64) : Nat := cnt (fun i => decide (rc i = 1)) 120 + smN (fun w => pop (ah w)) 720
theorem gs_le (rc : Nat → Int32) (ah : Nat → Int64) : gs rc ah ≤ 46200 := by
  have h1 := cnt_le (fun i => decide (rc i = 1)) 120
  have h2 := smN_le (f := fun w => pop (ah w)) (b := 64) (fun w => pop_le _) 720
  unfold gs
  omega
theorem solve_done {np : Nat} {E : Nat → Nat → Prop} {gn kl : Nat → Nat → Nat → Prop} {b0 : Nat → Nat → Prop} {rc iw : Nat → Int32} {ah : Nat → Int64} (hn : np ≤ 120) (hE : ∀ q p, E q p → p < np) (hs : Sd np E gn kl b0 rc ah) (hc : Cl np E gn kl rc iw ah (fun _ => False)) (hb : Bg np b0 rc ah) (hw : ∀ i, i < 120 → iw i = 0) :
    (∀ p, p < np → (rc p = 1 ↔ rch E np p)) ∧ ∀ p w i, p < np → w < 6 → i < 64 → (bl (ah (p * 6 + w)) i = true ↔ may E np (b0 w i) (fun q => gn q w i) (fun q => kl q w i) p) := by
  have hX : ∀ q p, (q < np ∧ rc q = 1) → E q p → (p < np ∧ rc p = 1) := fun q p h1 h2 => ⟨hE q p h2, (hc q p h1.1 (fun h => h) h1.2 (hw q (by omega)) h2).1⟩
  refine ⟨fun p hp => ⟨hs.1 p hp, fun h => ?_⟩, fun p w i hp hw6 hi => ⟨hs.2 p w i hp hw6 hi, fun h => ?_⟩⟩
  · exact (rch_in (X := fun p => p < np ∧ rc p = 1) (fun h0 => ⟨h0, (hb h0).1⟩) hX h).2
  · exact may_in (X := fun p => p < np ∧ rc p = 1) (B := fun p => bl (ah (p * 6 + w)) i = true) (fun h0 => ⟨h0, (hb h0).1⟩) hX (fun h0 hb0 => (hb h0).2 w i hw6 hi hb0) (fun q p h1 h2 h3 => (hc q p h1.1 (fun h => h) h1.2 (hw q (by omega)) h2).2 w i hw6 hi h3) h
/-- what goOnTo(j) does to reached and ahead -/
def Jn (be : Nat → Int64) (rc : Nat → Int32) (ah : Nat → Int64) (j : Nat) (rc' : Nat → Int32) (ah' : Nat → Int64) : Prop :=
  rc' = upd rc j 1 ∧ (∀ w, w < 6 → ah' (j * 6 + w) = ah (j * 6 + w) ||| be w) ∧ ∀ n, (n < j * 6 ∨ j * 6 + 6 ≤ n) → ah' n = ah n
def Chg (be : Nat → Int64) (rc : Nat → Int32) (ah : Nat → Int64) (j : Nat) : Prop := rc j = 0 ∨ ∃ w, w < 6 ∧ ¬ ah (j * 6 + w) ||| be w = ah (j * 6 + w)
section JN
variable {be : Nat → Int64} {rc rc' : Nat → Int32} {ah ah' : Nat → Int64} {j np : Nat}
theorem Jn_oth (h : Jn be rc ah j rc' ah') {p w : Nat} (hw : w < 6) (hp : p ≠ j) : ah' (p * 6 + w) = ah (p * 6 + w) := h.2.2 _ (by omega)
theorem Jn_ge (h : Jn be rc ah j rc' ah') {p w i : Nat} (hw : w < 6) (hb : bl (ah (p * 6 + w)) i = true) : bl (ah' (p * 6 + w)) i = true := by
  by_cases e : p = j
  · subst e
    rw [h.2.1 w hw, bl_or, hb]; rfl
  · rw [Jn_oth h hw e]; exact hb
theorem Jn_rc (h : Jn be rc ah j rc' ah') {p : Nat} (hp : rc p = 1) : rc' p = 1 := by
  rw [h.1]
  by_cases e : p = j
  · rw [e, pk_us]
  · rw [pk_un e]; exact hp
theorem Jn_be (h : Jn be rc ah j rc' ah') {w i : Nat} (hw : w < 6) (hb : bl (be w) i = true) : bl (ah' (j * 6 + w)) i = true := by
  rw [h.2.1 w hw, bl_or, hb, Bool.or_true]
theorem Jn_all (h : Jn be rc ah j rc' ah') (n : Nat) : pop (ah n) ≤ pop (ah' n) := by
  by_cases e : n < j * 6 ∨ j * 6 + 6 ≤ n
  · rw [h.2.2 n e]; exact Nat.le_refl _
  · obtain ⟨w, hw, rfl⟩ : ∃ w, w < 6 ∧ n = j * 6 + w := ⟨n - j * 6, by omega, by omega⟩
    rw [h.2.1 w hw]
    exact pop_or _ _
theorem Jn_cnt (h : Jn be rc ah j rc' ah') : cnt (fun i => decide (rc i = 1)) 120 ≤ cnt (fun i => decide (rc' i = 1)) 120 := cnt_mono (fun i _ hi => by
  have := Jn_rc h (of_decide_eq_true hi)
  exact decide_eq_true this)
theorem Jn_gs (h : Jn be rc ah j rc' ah') : gs rc ah ≤ gs rc' ah' := Nat.add_le_add (Jn_cnt h) (smN_mono (fun n _ => Jn_all h n))
theorem Jn_gsl (h : Jn be rc ah j rc' ah') (hj : j < 120) (hc : Chg be rc ah j) : gs rc ah + 1 ≤ gs rc' ah' := by
  rcases hc with hc | ⟨w, hw, hc⟩
  · have h1 := cnt_lt (f := fun i => decide (rc i = 1)) (g := fun i => decide (rc' i = 1)) (n := 120) (i := j) (fun i _ hi => decide_eq_true (Jn_rc h (of_decide_eq_true hi))) hj (by simp [hc]) (by simp [h.1, pk_us])
    have h2 := smN_mono (f := fun w => pop (ah w)) (g := fun w => pop (ah' w)) (n := 720) (fun n _ => Jn_all h n)
    unfold gs
    omega
  · have h1 := Jn_cnt h
    have h2 := smN_lt (f := fun w => pop (ah w)) (g := fun w => pop (ah' w)) (n := 720) (i := j * 6 + w) (fun n _ => Jn_all h n) (by omega) (by
      show pop (ah (j * 6 + w)) + 1 ≤ pop (ah' (j * 6 + w))
      rw [h.2.1 w hw]
      exact pop_or_lt hc)
    unfold gs
    omega
theorem Jn_same (h : Jn be rc ah j rc' ah') (hj : rc j = 0 ∨ rc j = 1) (hc : ¬ Chg be rc ah j) : rc' = rc ∧ ∀ n, ah' n = ah n := by
  have h1 : rc j = 1 := hj.elim (fun e => absurd (Or.inl e) hc) id
  refine ⟨?_, fun n => ?_⟩
  · rw [h.1]
    funext i
    by_cases e : i = j
    · rw [e, pk_us, h1]
    · rw [pk_un e]
  · by_cases e : n < j * 6 ∨ j * 6 + 6 ≤ n
    · exact h.2.2 n e
    · obtain ⟨w, hw, rfl⟩ : ∃ w, w < 6 ∧ n = j * 6 + w := ⟨n - j * 6, by omega, by omega⟩
      rw [h.2.1 w hw]
      exact Classical.byContradiction (fun e => hc (Or.inr ⟨w, hw, e⟩))
end JN
/-- what addWaiting(j) does to the ring -/
def Aw (iw wt : Nat → Int32) (hd wn j : Nat) (iw' wt' : Nat → Int32) (wn' : Nat) : Prop :=
  ((iw j ≠ 0 ∨ 120 ≤ wn) ∧ iw' = iw ∧ wt' = wt ∧ wn' = wn) ∨ (iw j = 0 ∧ wn < 120 ∧ iw' = upd iw j 1 ∧ wt' = upd wt ((hd + wn) % 120) (nI j) ∧ wn' = wn + 1)
/-- what goOnTo(j) does, for a point j -/
def Go (be : Nat → Int64) (rc iw wt : Nat → Int32) (ah : Nat → Int64) (hd wn j : Nat) (rc' iw' wt' : Nat → Int32) (ah' : Nat → Int64) (wn' : Nat) : Prop :=
  Jn be rc ah j rc' ah' ∧ ((¬ Chg be rc ah j ∧ iw' = iw ∧ wt' = wt ∧ wn' = wn) ∨ (Chg be rc ah j ∧ Aw iw wt hd wn j iw' wt' wn'))
/-- the solver's state -/
def Sv (np : Nat) (E : Nat → Nat → Prop) (gn kl : Nat → Nat → Nat → Prop) (b0 : Nat → Nat → Prop) (rc iw wt : Nat → Int32) (ah : Nat → Int64) (hd wn tn : Nat) (X : Nat → Prop) : Prop :=
  (∀ i, i < 120 → rc i = 0 ∨ rc i = 1) ∧ Rg np iw wt hd wn ∧ Sd np E gn kl b0 rc ah ∧ Cl np E gn kl rc iw ah X ∧ tn + wn ≤ gs rc ah ∧ ∀ i, i < np → iw i = 1 → rc i = 1
theorem Go_step {np : Nat} {E : Nat → Nat → Prop} {gn kl : Nat → Nat → Nat → Prop} {b0 : Nat → Nat → Prop} {rc iw wt rc' iw' wt' : Nat → Int32} {ah ah' be : Nat → Int64} {hd wn tn wn' j : Nat} {X : Nat → Prop} (hn : np ≤ 120) (hE : ∀ q p, E q p → p < np) (hj : j < np)
    (h : Sv np E gn kl b0 rc iw wt ah hd wn tn X) (hg : Go be rc iw wt ah hd wn j rc' iw' wt' ah' wn') (hr : rch E np j) (hbe : ∀ w i, w < 6 → i < 64 → bl (be w) i = true → may E np (b0 w i) (fun q => gn q w i) (fun q => kl q w i) j) :
    Sv np E gn kl b0 rc' iw' wt' ah' hd wn' tn X ∧ rc' j = 1 ∧ (∀ w i, w < 6 → bl (be w) i = true → bl (ah' (j * 6 + w)) i = true) ∧ (∀ p, rc p = 1 → rc' p = 1) ∧ (∀ p w i, w < 6 → bl (ah (p * 6 + w)) i = true → bl (ah' (p * 6 + w)) i = true) ∧ (∀ p, p < np → iw' p = 0 → iw p = 0 ∧ ∀ w, w < 6 → ah' (p * 6 + w) = ah (p * 6 + w)) := by
  obtain ⟨hb, hR, hS, hC, hm, hq⟩ := h
  obtain ⟨hJ, hg⟩ := hg
  have hj120 : j < 120 := Nat.lt_of_lt_of_le hj hn
  have hb' : ∀ i, i < 120 → rc' i = 0 ∨ rc' i = 1 := fun i hi => by
    rw [hJ.1]
    by_cases e : i = j
    · rw [e, pk_us]; exact Or.inr rfl
    · rw [pk_un e]; exact hb i hi
  have hS' : Sd np E gn kl b0 rc' ah' := by
    refine ⟨fun p hp h1 => ?_, fun p w i hp hw hi h1 => ?_⟩
    · by_cases e : p = j
      · rw [e]; exact hr
      · rw [hJ.1, pk_un e] at h1; exact hS.1 p hp h1
    · by_cases e : p = j
      · subst e
        rw [hJ.2.1 w hw, bl_or, Bool.or_eq_true] at h1
        exact h1.elim (hS.2 p w i hp hw hi) (hbe w i hw hi)
      · rw [Jn_oth hJ hw e] at h1; exact hS.2 p w i hp hw hi h1
  have hj1 : rc' j = 1 := by rw [hJ.1, pk_us]
  have hkeep : ∀ p, p < np → iw' p = 0 → iw p = 0 ∧ (p = j → rc j = 1) ∧ ∀ w, w < 6 → ah' (p * 6 + w) = ah (p * 6 + w) := by
    intro p hp h0
    rcases hg with ⟨hc, h1, h2, h3⟩ | ⟨hc, hA⟩
    · obtain ⟨e1, e2⟩ := Jn_same hJ (hb j hj120) hc
      refine ⟨by rw [← h1]; exact h0, fun _ => ?_, fun w _ => e2 _⟩
      rw [← e1]; exact hj1
    · rcases hA with ⟨ha, h1, h2, h3⟩ | ⟨ha, _, h1, h2, h3⟩
      · have hpj : p ≠ j := fun e => by
          rcases ha with ha | ha
          · exact ha (by rw [← e, ← h1]; exact h0)
          · have := Rg_room hR hj120 (by rw [← e, ← h1]; exact h0)
            omega
        exact ⟨by rw [← h1]; exact h0, fun e => absurd e hpj, fun w hw => Jn_oth hJ hw hpj⟩
      · have hpj : p ≠ j := fun e => by
          rw [h1, e, pk_us] at h0
          exact i01 h0.symm
        exact ⟨by rw [h1, pk_un hpj] at h0; exact h0, fun e => absurd e hpj, fun w hw => Jn_oth hJ hw hpj⟩
  have hC' : Cl np E gn kl rc' iw' ah' X := by
    intro p q hp hx h1 h2 he
    obtain ⟨k1, k2, k3⟩ := hkeep p hp h2
    have hp1 : rc p = 1 := by
      by_cases e : p = j
      · rw [e]; exact k2 e
      · rw [hJ.1, pk_un e] at h1; exact h1
    obtain ⟨c1, c2⟩ := hC p q hp hx hp1 k1 he
    exact ⟨Jn_rc hJ c1, fun w i hw hi hgk => Jn_ge hJ hw (c2 w i hw hi (by rw [k3 w hw] at hgk; exact hgk))⟩
  have hq' : ∀ i, i < np → iw' i = 1 → rc' i = 1 := by
    intro i hi h1
    by_cases e : i = j
    · rw [e]; exact hj1
    · refine Jn_rc hJ (hq i hi ?_)
      rcases hg with ⟨_, h2, _⟩ | ⟨_, hA⟩
      · rw [← h2]; exact h1
      · rcases hA with ⟨_, h2, _⟩ | ⟨_, _, h2, _⟩
        · rw [← h2]; exact h1
        · rw [h2, pk_un e] at h1; exact h1
  refine ⟨⟨hb', ?_, hS', hC', ?_, hq'⟩, hj1, fun w i hw hbw => Jn_be hJ hw hbw, fun p hp => Jn_rc hJ hp, fun p w i hw hbw => Jn_ge hJ hw hbw, fun p hp h0 => ⟨(hkeep p hp h0).1, (hkeep p hp h0).2.2⟩⟩
  · rcases hg with ⟨_, h1, h2, h3⟩ | ⟨hc, hA⟩
    · rw [h1, h2, h3]; exact hR
    · rcases hA with ⟨_, h1, h2, h3⟩ | ⟨ha, _, h1, h2, h3⟩
      · rw [h1, h2, h3]; exact hR
      · rw [h1, h2, h3]; exact Rg_add hR hn hj ha
  · rcases hg with ⟨_, h1, h2, h3⟩ | ⟨hc, hA⟩
    · have := Jn_gs hJ
      omega
    · have := Jn_gsl hJ hj120 hc
      rcases hA with ⟨_, h1, h2, h3⟩ | ⟨ha, _, h1, h2, h3⟩ <;> omega
