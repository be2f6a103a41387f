/-! Each call: the two answers are one, and what is kept agrees again. -/
section OPS
variable {nv np : Nat} {vP vO vG pD pV pB mV mF mM pX pY rc iw : Nat → Int32} {ah : Nat → Int64} {sv : Int32}
theorem op_variable {x o gv r1 r2 sv1 : Int32} {n1 n2 : Nat} {vP1 vO1 vG1 vP2 vO2 vG2 : Nat → Int32} (hJ : JI nv np vP pD pV pB mV mF mM) (hZ : ZI nv np vP vG pD pV pB pX pY sv rc iw ah)
    (hp : (r1 = -1 ∧ (x < 1 ∨ 8 < x ∨ ¬ nv < 20) ∧ (n1, vP1, vO1, vG1, sv1) = (nv, vP, vO, vG, sv)) ∨ (r1 = nI nv ∧ ¬ x < 1 ∧ ¬ 8 < x ∧ nv < 20 ∧ (n1, vP1, vO1, vG1, sv1) = (nv + 1, upd vP nv x, upd vO nv o, upd vG nv gv, 0)))
    (hq : (r2 = -1 ∧ (x < 1 ∨ 8 < x ∨ ¬ nv < 20) ∧ (n2, vP2, vO2, vG2) = (nv, vP, vO, vG)) ∨ (r2 = nI nv ∧ ¬ x < 1 ∧ ¬ 8 < x ∧ nv < 20 ∧ (n2, vP2, vO2, vG2) = (nv + 1, upd vP nv x, upd vO nv o, upd vG nv gv))) :
    r1 = r2 ∧ n2 = n1 ∧ vP2 = vP1 ∧ vO2 = vO1 ∧ vG2 = vG1 ∧ JI n1 np vP1 pD pV pB mV mF mM ∧ ZI n1 np vP1 vG1 pD pV pB pX pY sv1 rc iw ah := by
  simp only [Prod.mk.injEq] at hp hq
  rcases hp with ⟨a1, a2, rfl, rfl, rfl, rfl, rfl⟩ | ⟨a1, a2, a3, a4, rfl, rfl, rfl, rfl, rfl⟩ <;> rcases hq with ⟨b1, b2, rfl, rfl, rfl, rfl⟩ | ⟨b1, b2, b3, b4, rfl, rfl, rfl, rfl⟩
  · exact ⟨a1.trans b1.symm, rfl, rfl, rfl, rfl, hJ, hZ⟩
  · exact (a2.elim b2 (fun z => z.elim b3 (fun z => z b4))).elim
  · exact (b2.elim a2 (fun z => z.elim a3 (fun z => z a4))).elim
  · refine ⟨a1.trans b1.symm, rfl, rfl, rfl, rfl, ?_, hZ.1, hZ.2.1, Or.inl rfl⟩
    obtain ⟨h1, h2, h3, h4⟩ := hJ
    have hx0 : ¬ x < 0 := fun z => a2 (by
      rw [i32_lt] at z ⊢
      have e0 : (0 : Int32).toInt = 0 := rfl
      have e1 : (1 : Int32).toInt = 1 := rfl
      omega)
    obtain ⟨n, hn, rfl⟩ := nI_of hx0
    have g1 : ¬ n < 1 := fun z => a2 ((nI_ltI (b := 1) (by omega) (by decide)).mpr z)
    have g8 : ¬ 8 < n := fun z => a3 ((nI_ltI (a := 8) (by decide) (by omega)).mpr z)
    have hold : ∀ v, v < nv → upd vP nv (nI n) v = vP v := fun v hv => pk_un (by omega)
    refine ⟨a4, h2, fun v hv => ?_, fun q hq => ?_⟩
    · by_cases e : v = nv
      · rw [e, pk_us, tN_nI (by omega)]
        exact ⟨rfl, by omega, by omega⟩
      · rw [hold v (by omega)]; exact h3 v (by omega)
    · rcases h4 q hq with h | ⟨d, v, a, m, g1, g2, g3, g4, g5, g6, g7, g8, g9, g10, g11, g12⟩
      · exact Or.inl h
      · exact Or.inr ⟨d, v, a, m, g1, g2, g3, by omega, g5, g6, g7, g8, g9, by rw [hold v g4]; exact g10, g11, by rw [hold v g4]; exact g12⟩
theorem sub_ti {a b : Nat} (ha : a < 2 ^ 31) (hb : b < 2 ^ 31) : (nI a - nI b).toInt = (a : Int) - b := by
  rw [Int32.toInt_sub, nI_toInt ha, nI_toInt hb]
  exact Int.bmod_eq_of_le (by omega) (by omega)
theorem part_iff {pt : Nat} {a b : Int32} (hp : pt ≤ 8) : (¬ a < 0 ∧ ¬ b < 1 ∧ ¬ nI pt - b < a) ↔ (¬ a < 0 ∧ ¬ b < 1 ∧ ¬ 8 ≤ a ∧ ¬ 8 < b ∧ ¬ nI pt < a + b) := by
  have conv : ∀ {c : Int32}, ¬ c < 1 → ¬ c < 0 := fun {c} h z => h (by
    rw [i32_lt] at z ⊢
    have e0 : (0 : Int32).toInt = 0 := rfl
    have e1 : (1 : Int32).toInt = 1 := rfl
    omega)
  constructor
  · rintro ⟨h1, h2, h3⟩
    obtain ⟨A, hA, rfl⟩ := nI_of h1
    obtain ⟨B, hB, rfl⟩ := nI_of (conv h2)
    have h2' : ¬ B < 1 := fun z => h2 ((nI_ltI (b := 1) (by omega) (by decide)).mpr z)
    rw [i32_lt, sub_ti (by omega) (by omega), nI_toInt (by omega)] at h3
    refine ⟨h1, h2, fun z => ?_, fun z => ?_, fun z => ?_⟩
    · have : 8 ≤ A := (nI_leI (a := 8) (by decide) (by omega)).mp z
      omega
    · have : 8 < B := (nI_ltI (a := 8) (by decide) (by omega)).mp z
      omega
    · rw [nI_add] at z
      have := (nI_ltI (by omega) (by omega)).mp z
      omega
  · rintro ⟨h1, h2, h3, h4, h5⟩
    obtain ⟨A, hA, rfl⟩ := nI_of h1
    obtain ⟨B, hB, rfl⟩ := nI_of (conv h2)
    have h3' : ¬ 8 ≤ A := fun z => h3 ((nI_leI (a := 8) (by decide) (by omega)).mpr z)
    have h4' : ¬ 8 < B := fun z => h4 ((nI_ltI (a := 8) (by decide) (by omega)).mpr z)
    rw [nI_add, nI_ltI (by omega) (by omega)] at h5
    refine ⟨h1, h2, fun z => ?_⟩
    rw [i32_lt, sub_ti (by omega) (by omega), nI_toInt (by omega)] at z
    omega
theorem ok_iff {d x a b : Int32} (hJ : JI nv np vP pD pV pB mV mF mM) : (np < 120 ∧ dOK (nI nv) vP d x a b) ↔ rOK nv np vP d x a b := by
  have hd5 : d ≤ 5 ↔ ¬ 5 < d := by rw [i32_le, i32_lt]; omega
  have hsp : ¬ d < 0 → ¬ d = 0 → (¬ (d = 1 ∨ d = 2 ∨ d = 3) ↔ (d < 1 ∨ 3 < d)) := by
    intro h h0
    have g0 : ¬ d.toInt = 0 := lv_neT h0 rfl
    rw [i32_lt] at h
    have e0 : (0 : Int32).toInt = 0 := rfl
    have e1 : (1 : Int32).toInt = 1 := rfl
    have e3 : (3 : Int32).toInt = 3 := rfl
    rw [i32_lt, i32_lt]
    constructor
    · intro z
      have z1 : ¬ d.toInt = 1 := lv_neT (fun q => z (Or.inl q)) rfl
      have z2 : ¬ d.toInt = 2 := lv_neT (fun q => z (Or.inr (Or.inl q))) rfl
      have z3 : ¬ d.toInt = 3 := lv_neT (fun q => z (Or.inr (Or.inr q))) rfl
      omega
    · rintro z (q | q | q) <;> rw [q] at z <;> revert z <;> decide
  have hpt : ¬ d = 0 → (¬ x < 0 ∧ ¬ nI nv ≤ x) → ∃ pt, pt ≤ 8 ∧ vP (tN x) = nI pt := by
    intro _ hx
    rcases pk_ix x (n := nv) (by have := hJ.1; omega) with h | h | ⟨v, hv, rfl⟩
    · exact absurd h hx.1
    · exact absurd h hx.2
    · rw [tN_nI (by have := hJ.1; omega)]
      exact ⟨tN (vP v), (hJ.2.2.1 v hv).2.2, (hJ.2.2.1 v hv).1⟩
  unfold dOK rOK
  rw [hd5]
  by_cases h0 : d = 0
  · simp [h0]
  · by_cases hn0 : ¬ d < 0
    · have hs := hsp hn0 h0
      constructor
      · rintro ⟨h1, h2, h3, h4⟩
        refine ⟨h2, h3, h1, Or.inr ?_⟩
        rcases h4 with h4 | ⟨h5, h6⟩
        · exact absurd h4 h0
        · refine ⟨h5, ?_⟩
          obtain ⟨pt, g1, g2⟩ := hpt h0 h5
          rcases h6 with h6 | h6
          · exact (hs.mp h6).elim Or.inl (fun z => Or.inr (Or.inl z))
          · rw [g2] at h6 ⊢
            exact Or.inr (Or.inr ((part_iff g1).mp h6))
      · rintro ⟨h1, h2, h3, h4⟩
        refine ⟨h3, h1, h2, Or.inr ?_⟩
        rcases h4 with h4 | ⟨h5, h6⟩
        · exact absurd h4 h0
        · refine ⟨h5, ?_⟩
          obtain ⟨pt, g1, g2⟩ := hpt h0 h5
          rcases h6 with h6 | h6 | h6
          · exact Or.inl (hs.mpr (Or.inl h6))
          · exact Or.inl (hs.mpr (Or.inr h6))
          · rw [g2] at h6 ⊢
            exact Or.inr ((part_iff g1).mpr h6)
    · exact ⟨fun z => absurd z.2.1 hn0, fun z => absurd z.1 hn0⟩
theorem rel_new {d x a b : Int32} (hJ : JI nv np vP pD pV pB mV mF mM) (hok : dOK (nI nv) vP d x a b) : Rel1 nv vP (upd pD np d) (upd pV np (if d = 0 then 0 else x)) (upd pB np (bod vP d x a b)) (upd mV np (if d = 0 then -1 else x)) (upd mF np (if 4 ≤ d then 0 else a)) (upd mM np (if d = 0 then 0 else if 4 ≤ d then vP (tN x) else b)) np := by
  unfold Rel1
  simp only [pk_us]
  by_cases h0 : d = 0
  · refine Or.inl ⟨h0, if_pos h0, ?_, if_pos h0⟩
    unfold bod
    rw [if_pos h0]
  · obtain ⟨h1, h2, h3⟩ := hok
    obtain ⟨hx, hp⟩ := h3.elim (fun z => absurd z h0) id
    obtain ⟨D, hD, rfl⟩ := nI_of h1
    have hD5 : D ≤ 5 := (nI_leI (b := 5) (by omega) (by decide)).mp h2
    have hD0 : ¬ D = 0 := fun z => h0 (by rw [z]; rfl)
    have h20 := hJ.1
    rcases pk_ix x (n := nv) (by omega) with h | h | ⟨v, hv, rfl⟩
    · exact absurd h hx.1
    · exact absurd h hx.2
    · obtain ⟨e1, e2, e3⟩ := hJ.2.2.1 v hv
      have etn : tN (nI v) = v := tN_nI (by omega)
      rw [if_neg h0, if_neg h0, if_neg h0, etn]
      by_cases h4 : 4 ≤ nI D
      · have g4 : 4 ≤ D := (nI_leI (a := 4) (by decide) (by omega)).mp h4
        have hns : ¬ (nI D = 1 ∨ nI D = 2 ∨ nI D = 3) := by
          rintro (z | z | z)
          · have := (nI_eq (b := 1) (by omega) (by decide)).mp z; omega
          · have := (nI_eq (b := 2) (by omega) (by decide)).mp z; omega
          · have := (nI_eq (b := 3) (by omega) (by decide)).mp z; omega
        refine Or.inr ⟨D, v, 0, tN (vP v), by omega, hD5, rfl, hv, rfl, rfl, ?_, ?_, e2, by omega, ?_, fun _ => ⟨rfl, rfl⟩⟩
        · rw [if_pos h4]; rfl
        · rw [if_pos h4]; exact e1
        · unfold bod
          rw [if_neg h0, if_neg hns, etn, lb_pt e1 e3]
          simp
      · have g4 : ¬ 4 ≤ D := fun z => h4 ((nI_leI (a := 4) (by decide) (by omega)).mpr z)
        have hs : nI D = 1 ∨ nI D = 2 ∨ nI D = 3 := by
          rcases (show D = 1 ∨ D = 2 ∨ D = 3 by omega) with z | z | z <;> rw [z]
          · exact Or.inl rfl
          · exact Or.inr (Or.inl rfl)
          · exact Or.inr (Or.inr rfl)
        have hq := hp.elim (fun z => absurd hs z) id
        rw [etn, e1] at hq
        have hq2 := (part_iff e3).mp hq
        obtain ⟨A, hA, rfl⟩ := nI_of hq2.1
        have hb0 : ¬ b < 0 := fun z => hq2.2.1 (by
          rw [i32_lt] at z ⊢
          have q0 : (0 : Int32).toInt = 0 := rfl
          have q1 : (1 : Int32).toInt = 1 := rfl
          omega)
        obtain ⟨B, hB, rfl⟩ := nI_of hb0
        have k1 : ¬ B < 1 := fun z => hq2.2.1 ((nI_ltI (b := 1) (by omega) (by decide)).mpr z)
        have k2 : ¬ 8 ≤ A := fun z => hq2.2.2.1 ((nI_leI (a := 8) (by decide) (by omega)).mpr z)
        have k3 : ¬ 8 < B := fun z => hq2.2.2.2.1 ((nI_ltI (a := 8) (by decide) (by omega)).mpr z)
        have k4 : ¬ tN (vP v) < A + B := fun z => hq2.2.2.2.2 (by rw [nI_add]; exact (nI_ltI (by omega) (by omega)).mpr z)
        refine Or.inr ⟨D, v, A, B, by omega, hD5, rfl, hv, rfl, rfl, ?_, ?_, by omega, by omega, ?_, fun z => absurd z g4⟩
        · rw [if_neg h4]
        · rw [if_neg h4]
        · unfold bod
          rw [if_neg h0, if_pos hs, lb_sh B (by omega) A (by omega)]
theorem op_point {d x a b r1 r2 sv1 : Int32} {n1 n2 : Nat} {pD1 pV1 pB1 pX1 pY1 pD2 mV2 mF2 mM2 pX2 pY2 : Nat → Int32} (hJ : JI nv np vP pD pV pB mV mF mM) (hZ : ZI nv np vP vG pD pV pB pX pY sv rc iw ah)
    (hp : (r1 = -1 ∧ (120 ≤ np ∨ ¬ dOK (nI nv) vP d x a b) ∧ (n1, pD1, pV1, pB1, pX1, pY1, sv1) = (np, pD, pV, pB, pX, pY, sv)) ∨ (r1 = nI np ∧ np < 120 ∧ dOK (nI nv) vP d x a b ∧ (n1, pD1, pV1, pB1, pX1, pY1, sv1) = (np + 1, upd pD np d, upd pV np (if d = 0 then 0 else x), upd pB np (bod vP d x a b), upd pX np (nI (np + 1)), upd pY np (-1), 0)))
    (hq : (r2 = -1 ∧ ¬ rOK nv np vP d x a b ∧ (n2, pD2, mV2, mF2, mM2, pX2, pY2) = (np, pD, mV, mF, mM, pX, pY)) ∨ (r2 = nI np ∧ rOK nv np vP d x a b ∧ (n2, pD2, mV2, mF2, mM2, pX2, pY2) = (np + 1, upd pD np d, upd mV np (if d = 0 then -1 else x), upd mF np (if 4 ≤ d then 0 else a), upd mM np (if d = 0 then 0 else if 4 ≤ d then vP (tN x) else b), upd pX np (nI (np + 1)), upd pY np (-1)))) :
    r1 = r2 ∧ n2 = n1 ∧ pD2 = pD1 ∧ pX2 = pX1 ∧ pY2 = pY1 ∧ JI nv n1 vP pD1 pV1 pB1 mV2 mF2 mM2 ∧ ZI nv n1 vP vG pD1 pV1 pB1 pX1 pY1 sv1 rc iw ah := by
  have hok := ok_iff (d := d) (x := x) (a := a) (b := b) hJ
  simp only [Prod.mk.injEq] at hp hq
  rcases hp with ⟨a1, a2, rfl, rfl, rfl, rfl, rfl, rfl, rfl⟩ | ⟨a1, a2, a3, rfl, rfl, rfl, rfl, rfl, rfl, rfl⟩ <;> rcases hq with ⟨b1, b2, rfl, rfl, rfl, rfl, rfl, rfl, rfl⟩ | ⟨b1, b2, rfl, rfl, rfl, rfl, rfl, rfl, rfl⟩
  · exact ⟨a1.trans b1.symm, rfl, rfl, rfl, rfl, hJ, hZ⟩
  · have := hok.mpr b2
    exact (a2.elim (fun z => by omega) (fun z => z this.2)).elim
  · exact absurd (hok.mp ⟨a2, a3⟩) b2
  · refine ⟨a1.trans b1.symm, rfl, rfl, rfl, rfl, ⟨hJ.1, a2, hJ.2.2.1, fun q hq => ?_⟩, hZ.1, hZ.2.1, Or.inl rfl⟩
    by_cases e : q = np
    · rw [e]
      exact rel_new hJ a3
    · have := hJ.2.2.2 q (by omega)
      unfold Rel1 at this ⊢
      simp only [pk_un e]
      exact this
theorem op_next {x y z r1 r2 sv1 : Int32} {pX1 pY1 pX2 pY2 : Nat → Int32} (hJ : JI nv np vP pD pV pB mV mF mM) (hZ : ZI nv np vP vG pD pV pB pX pY sv rc iw ah)
    (hp : (r1 = 0 ∧ ((∀ j, j < np → ¬ x = nI j) ∨ ¬ cbn y ∨ ¬ cbn z) ∧ (pX1, pY1, sv1) = (pX, pY, sv)) ∨ (r1 = 1 ∧ ∃ j, j < np ∧ x = nI j ∧ cbn y ∧ cbn z ∧ (pX1, pY1, sv1) = (upd pX j y, upd pY j z, 0)))
    (hq : (r2 = 0 ∧ ((∀ j, j < np → ¬ x = nI j) ∨ ¬ cbn y ∨ ¬ cbn z) ∧ (pX2, pY2) = (pX, pY)) ∨ (r2 = 1 ∧ ∃ j, j < np ∧ x = nI j ∧ cbn y ∧ cbn z ∧ (pX2, pY2) = (upd pX j y, upd pY j z))) :
    r1 = r2 ∧ pX2 = pX1 ∧ pY2 = pY1 ∧ ZI nv np vP vG pD pV pB pX1 pY1 sv1 rc iw ah := by
  simp only [Prod.mk.injEq] at hp hq
  have hn := hJ.2.1
  rcases hp with ⟨a1, a2, rfl, rfl, rfl⟩ | ⟨a1, j, a2, a3, a4, a5, rfl, rfl, rfl⟩ <;> rcases hq with ⟨b1, b2, rfl, rfl⟩ | ⟨b1, i, b2, b3, b4, b5, rfl, rfl⟩
  · exact ⟨a1.trans b1.symm, rfl, rfl, hZ⟩
  · exact (a2.elim (fun z => z i b2 b3) (fun z => z.elim (fun z => z b4) (fun z => z b5))).elim
  · exact (b2.elim (fun z => z j a2 a3) (fun z => z.elim (fun z => z a4) (fun z => z a5))).elim
  · have : i = j := (nI_eq (by omega) (by omega)).mp (b3.symm.trans a3)
    subst this
    exact ⟨a1.trans b1.symm, rfl, rfl, hZ.1, hZ.2.1, Or.inl rfl⟩
theorem op_reached {x r1 r2 : Int32} {rc1 : Nat → Int32} {ah1 : Nat → Int64} (hJ : JI nv np vP pD pV pB mV mF mM)
    (hp : ((∀ j, j < np → ¬ x = nI j) ∧ r1 = 0) ∨ ∃ j, j < np ∧ x = nI j ∧ DnG nv np vP vG pD pV pB pX pY rc1 ah1 ∧ r1 = rc1 j)
    (hq : ((∀ j, j < np → ¬ x = nI j) ∧ r2 = 0) ∨ ∃ j, j < np ∧ x = nI j ∧ ((r2 = 1 ∧ rch (ed pX pY np) np j) ∨ (r2 = 0 ∧ ¬ rch (ed pX pY np) np j))) : r1 = r2 := by
  have hn := hJ.2.1
  rcases hp with ⟨a1, a2⟩ | ⟨j, a1, a2, a3, a4⟩ <;> rcases hq with ⟨b1, b2⟩ | ⟨i, b1, b2, b3⟩
  · exact a2.trans b2.symm
  · exact absurd b2 (a1 i b1)
  · exact absurd a2 (b1 j a1)
  · have : i = j := (nI_eq (by omega) (by omega)).mp (b2.symm.trans a2)
    subst this
    obtain ⟨c1, c2⟩ := a3.1 i a1
    rw [a4]
    rcases b3 with ⟨d1, d2⟩ | ⟨d1, d2⟩
    · rw [d1, c2.mpr d2]
    · rw [d1]
      exact c1.elim id (fun z => absurd (c2.mp z) d2)
theorem op_bits {x y r1 r2 : Int32} {rc1 : Nat → Int32} {ah1 : Nat → Int64} {kd w : Nat} (hJ : JI nv np vP pD pV pB mV mF mM) (hw : (w = 0 ∧ kd = 0) ∨ (w = 1 ∧ kd = 3))
    (hp : (((∀ j, j < np → ¬ x = nI j) ∨ ∀ v, v < nv → ¬ y = nI v) ∧ r1 = 0) ∨ ∃ j v, j < np ∧ v < nv ∧ x = nI j ∧ y = nI v ∧ DnG nv np vP vG pD pV pB pX pY rc1 ah1 ∧ r1 = sb (ah1 (j * 6 + kd + v / 8)) v)
    (hq : (((∀ j, j < np → ¬ x = nI j) ∨ ∀ v, v < nv → ¬ y = nI v) ∧ r2 = 0) ∨ ∃ j v, j < np ∧ v < nv ∧ x = nI j ∧ y = nI v ∧ r2 = nI (bxN nv np vP vG pD mV mF mM pX pY w j v)) : r1 = r2 := by
  have hn := hJ.2.1
  have hv := hJ.1
  rcases hp with ⟨a1, a2⟩ | ⟨j, v, a1, a2, a3, a4, a5, a6⟩ <;> rcases hq with ⟨b1, b2⟩ | ⟨i, u, b1, b2, b3, b4, b5⟩
  · exact a2.trans b2.symm
  · exact (a1.elim (fun z => z i b1 b3) (fun z => z u b2 b4)).elim
  · exact (b1.elim (fun z => z j a1 a3) (fun z => z v a2 a4)).elim
  · have e1 : i = j := (nI_eq (by omega) (by omega)).mp (b3.symm.trans a3)
    have e2 : u = v := (nI_eq (by omega) (by omega)).mp (b4.symm.trans a4)
    subst e1; subst e2
    rw [a6, b5]
    rcases hw with ⟨h1, h2⟩ | ⟨h1, h2⟩ <;> subst h1 <;> subst h2
    · have := sb_eq hJ a5 a1 a2 (w := 0) (by decide)
      rw [if_neg (by decide), show i * 6 + (0 + u / 8) = i * 6 + 0 + u / 8 by omega] at this
      exact this
    · have := sb_eq hJ a5 a1 a2 (w := 1) (by decide)
      rw [if_pos rfl, show i * 6 + (3 + u / 8) = i * 6 + 3 + u / 8 by omega] at this
      exact this
theorem op_fault {x r1 r2 : Int32} {rc1 : Nat → Int32} {ah1 : Nat → Int64} (hJ : JI nv np vP pD pV pB mV mF mM)
    (hp : ((∀ j, j < np → ¬ x = nI j) ∧ r1 = -1) ∨ ∃ j, j < np ∧ x = nI j ∧ DnG nv np vP vG pD pV pB pX pY rc1 ah1 ∧ r1 = fop vP vO pD pV pB rc1 ah1 j)
    (hq : ((∀ j, j < np → ¬ x = nI j) ∧ r2 = -1) ∨ ∃ j, j < np ∧ x = nI j ∧ r2 = frv nv np vP vO vG pD mV mF mM pX pY j) : r1 = r2 := by
  have hn := hJ.2.1
  rcases hp with ⟨a1, a2⟩ | ⟨j, a1, a2, a3, a4⟩ <;> rcases hq with ⟨b1, b2⟩ | ⟨i, b1, b2, b3⟩
  · exact a2.trans b2.symm
  · exact absurd b2 (a1 i b1)
  · exact absurd a2 (b1 j a1)
  · have : i = j := (nI_eq (by omega) (by omega)).mp (b2.symm.trans a2)
    subst this
    rw [a4, b3, fop_eq hJ a3 a1]
theorem op_count {x r1 r2 : Int32} {rc1 : Nat → Int32} {ah1 : Nat → Int64} (hJ : JI nv np vP pD pV pB mV mF mM)
    (hp : (x = 0 ∧ r1 = nI np) ∨ (x = 1 ∧ DnG nv np vP vG pD pV pB pX pY rc1 ah1 ∧ r1 = nI (cnt (fun q => decide (¬ rc1 q = 0)) np)) ∨ (x = 2 ∧ DnG nv np vP vG pD pV pB pX pY rc1 ah1 ∧ r1 = nI (cnt (fun q => decide (¬ fop vP vO pD pV pB rc1 ah1 q = 0)) np)) ∨ (x = 3 ∧ DnG nv np vP vG pD pV pB pX pY rc1 ah1 ∧ ((r1 = -1 ∧ ∀ q, q < np → fop vP vO pD pV pB rc1 ah1 q = 0) ∨ ∃ j, j < np ∧ r1 = nI j ∧ ¬ fop vP vO pD pV pB rc1 ah1 j = 0 ∧ ∀ q, q < j → fop vP vO pD pV pB rc1 ah1 q = 0)) ∨ (x = 4 ∧ r1 = nI nv) ∨ (x = 5 ∧ r1 = smI vP nv) ∨ ((¬ x = 0 ∧ ¬ x = 1 ∧ ¬ x = 2 ∧ ¬ x = 3 ∧ ¬ x = 4 ∧ ¬ x = 5) ∧ r1 = -1))
    (hq : (x = 0 ∧ r2 = nI np) ∨ (x = 1 ∧ r2 = nI (cnt (fun q => tb (rch (ed pX pY np) np q)) np)) ∨ (x = 2 ∧ r2 = nI (cnt (fun q => tb (0 < frv nv np vP vO vG pD mV mF mM pX pY q)) np)) ∨ (x = 3 ∧ fst9 (fun q => tb (0 < frv nv np vP vO vG pD mV mF mM pX pY q)) np 0 r2) ∨ (x = 4 ∧ r2 = nI nv) ∨ (x = 5 ∧ r2 = smI vP nv) ∨ ((¬ x = 0 ∧ ¬ x = 1 ∧ ¬ x = 2 ∧ ¬ x = 3 ∧ ¬ x = 4 ∧ ¬ x = 5) ∧ r2 = -1)) : r1 = r2 := by
  have hn := hJ.2.1
  have d10 : ¬ (1 : Int32) = 0 := by decide
  rcases hp with ⟨rfl, h⟩ | ⟨rfl, hD, h⟩ | ⟨rfl, hD, h⟩ | ⟨rfl, hD, h⟩ | ⟨rfl, h⟩ | ⟨rfl, h⟩ | ⟨hne, h⟩
  · rcases hq with ⟨_, g⟩ | ⟨e, _⟩ | ⟨e, _⟩ | ⟨e, _⟩ | ⟨e, _⟩ | ⟨e, _⟩ | ⟨e, _⟩
    · exact h.trans g.symm
    all_goals first | exact absurd e (by decide) | exact absurd rfl e.1
  · rcases hq with ⟨e, _⟩ | ⟨_, g⟩ | ⟨e, _⟩ | ⟨e, _⟩ | ⟨e, _⟩ | ⟨e, _⟩ | ⟨e, _⟩
    · exact absurd e (by decide)
    · rw [h, g]
      congr 1
      refine cnt_congr (fun q hq => ?_)
      obtain ⟨c1, c2⟩ := hD.1 q hq
      by_cases hr : rch (ed pX pY np) np q
      · rw [tb_t hr, c2.mpr hr]; rfl
      · rw [tb_f hr, c1.elim id (fun z => absurd (c2.mp z) hr)]; rfl
    all_goals first | exact absurd e (by decide) | exact absurd rfl e.2.1
  · rcases hq with ⟨e, _⟩ | ⟨e, _⟩ | ⟨_, g⟩ | ⟨e, _⟩ | ⟨e, _⟩ | ⟨e, _⟩ | ⟨e, _⟩
    · exact absurd e (by decide)
    · exact absurd e (by decide)
    · rw [h, g]
      congr 1
      refine cnt_congr (fun q hq => ?_)
      rw [Bool.eq_iff_iff, decide_eq_true_eq, tb_iff, fop_eq hJ hD hq]
      exact frv_pos.symm
    all_goals first | exact absurd e (by decide) | exact absurd rfl e.2.2.1
  · rcases hq with ⟨e, _⟩ | ⟨e, _⟩ | ⟨e, _⟩ | ⟨_, g⟩ | ⟨e, _⟩ | ⟨e, _⟩ | ⟨e, _⟩
    · exact absurd e (by decide)
    · exact absurd e (by decide)
    · exact absurd e (by decide)
    · have hz : ∀ q, q < np → (fop vP vO pD pV pB rc1 ah1 q = 0 ↔ (fun q => tb (0 < frv nv np vP vO vG pD mV mF mM pX pY q)) q = false) := by
        intro q hq
        rw [fop_eq hJ hD hq]
        constructor
        · intro z
          exact tb_f (fun z2 => frv_pos.mp z2 z)
        · intro z
          refine Classical.byContradiction (fun z2 => ?_)
          have := tb_t (frv_pos.mpr z2)
          simp only [this] at z
          cases z
      rcases h with ⟨h1, h2⟩ | ⟨j, h1, h2, h3, h4⟩ <;> rcases g with ⟨g1, g2⟩ | ⟨i, _, g2, g3, g4, g5⟩
      · exact h1.trans g1.symm
      · have := (hz i g2).mp (h2 i g2)
        rw [this] at g4
        cases g4
      · exact absurd ((hz j h1).mpr (g2 j (Nat.zero_le _) h1)) h3
      · have : i = j := by
          rcases Nat.lt_trichotomy i j with e | e | e
          · have := (hz i g2).mp (h4 i e)
            rw [this] at g4
            cases g4
          · exact e
          · exact absurd ((hz j h1).mpr (g5 j (Nat.zero_le _) e)) h3
        rw [h2, g3, this]
    all_goals first | exact absurd e (by decide) | exact absurd rfl e.2.2.2.1
  · rcases hq with ⟨e, _⟩ | ⟨e, _⟩ | ⟨e, _⟩ | ⟨e, _⟩ | ⟨_, g⟩ | ⟨e, _⟩ | ⟨e, _⟩
    · exact absurd e (by decide)
    · exact absurd e (by decide)
    · exact absurd e (by decide)
    · exact absurd e (by decide)
    · exact h.trans g.symm
    all_goals first | exact absurd e (by decide) | exact absurd rfl e.2.2.2.2.1
  · rcases hq with ⟨e, _⟩ | ⟨e, _⟩ | ⟨e, _⟩ | ⟨e, _⟩ | ⟨e, _⟩ | ⟨_, g⟩ | ⟨e, _⟩
    · exact absurd e (by decide)
    · exact absurd e (by decide)
    · exact absurd e (by decide)
    · exact absurd e (by decide)
    · exact absurd e (by decide)
    · exact h.trans g.symm
    · exact absurd rfl e.2.2.2.2.2
  · rcases hq with ⟨e, _⟩ | ⟨e, _⟩ | ⟨e, _⟩ | ⟨e, _⟩ | ⟨e, _⟩ | ⟨e, _⟩ | ⟨_, g⟩
    · exact absurd e hne.1
    · exact absurd e hne.2.1
    · exact absurd e hne.2.2.1
    · exact absurd e hne.2.2.2.1
    · exact absurd e hne.2.2.2.2.1
    · exact absurd e hne.2.2.2.2.2
    · exact h.trans g.symm
end OPS
