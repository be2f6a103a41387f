/-! The class and the reference beside each other: what they keep agrees, so their answers do. -/
theorem fk_congr {E : Nat → Nat → Prop} {np : Nat} {b0 b0' : Prop} {gn gn' kl kl' : Nat → Prop} (hE : ∀ q p, E q p → p < np) (hb : b0 ↔ b0') (hg : ∀ q, q < np → (gn q ↔ gn' q)) (hk : ∀ q, q < np → (kl q ↔ kl' q)) {k p : Nat} : fk E np b0 gn kl k p ↔ fk E np b0' gn' kl' k p := by
  induction k generalizing p with
  | zero => exact ⟨fun h => ⟨h.1, h.2.1, hb.mp h.2.2⟩, fun h => ⟨h.1, h.2.1, hb.mpr h.2.2⟩⟩
  | succ k ih =>
    constructor
    · rintro ⟨q, h1, h2, h3⟩
      have hq := rch_lt hE ⟨k, h2⟩
      exact ⟨q, h1, h2, h3.imp (hg q hq).mp (fun h => ⟨fun z => h.1 ((hk q hq).mpr z), ih.mp h.2⟩)⟩
    · rintro ⟨q, h1, h2, h3⟩
      have hq := rch_lt hE ⟨k, h2⟩
      exact ⟨q, h1, h2, h3.imp (hg q hq).mpr (fun h => ⟨fun z => h.1 ((hk q hq).mp z), ih.mpr h.2⟩)⟩
theorem may_congr {E : Nat → Nat → Prop} {np : Nat} {b0 b0' : Prop} {gn gn' kl kl' : Nat → Prop} (hE : ∀ q p, E q p → p < np) (hb : b0 ↔ b0') (hg : ∀ q, q < np → (gn q ↔ gn' q)) (hk : ∀ q, q < np → (kl q ↔ kl' q)) {p : Nat} : may E np b0 gn kl p ↔ may E np b0' gn' kl' p :=
  ⟨fun ⟨k, h⟩ => ⟨k, (fk_congr hE hb hg hk).mp h⟩, fun ⟨k, h⟩ => ⟨k, (fk_congr hE hb hg hk).mpr h⟩⟩
theorem may_no {E : Nat → Nat → Prop} {np : Nat} {b0 : Prop} {gn kl : Nat → Prop} (hE : ∀ q p, E q p → p < np) (hb : ¬ b0) (hg : ∀ q, q < np → ¬ gn q) {p : Nat} : ¬ may E np b0 gn kl p := fun h =>
  may_in (X := fun q => q < np) (B := fun _ => False) (fun h => h) (fun q p _ he => hE q p he) (fun _ h => hb h) (fun q p hq _ hgk => hgk.elim (hg q hq) (fun z => z.2)) h
/-- a point, as the one keeps it and as the other -/
def Rel1 (nv : Nat) (vP pD pV pB mV mF mM : Nat → Int32) (q : Nat) : Prop := (pD q = 0 ∧ pV q = 0 ∧ pB q = 0 ∧ mV q = -1) ∨ ∃ d v a m, 1 ≤ d ∧ d ≤ 5 ∧ pD q = nI d ∧ v < nv ∧ pV q = nI v ∧ mV q = nI v ∧ mF q = nI a ∧ mM q = nI m ∧ 1 ≤ m ∧ a + m ≤ tN (vP v) ∧ pB q = nI ((2 ^ m - 1) * 2 ^ a) ∧ (4 ≤ d → a = 0 ∧ m = tN (vP v))
def JI (nv np : Nat) (vP pD pV pB mV mF mM : Nat → Int32) : Prop := nv ≤ 20 ∧ np ≤ 120 ∧ (∀ v, v < nv → vP v = nI (tN (vP v)) ∧ 1 ≤ tN (vP v) ∧ tN (vP v) ≤ 8) ∧ ∀ q, q < np → Rel1 nv vP pD pV pB mV mF mM q
theorem pw8 {m a : Nat} (h : a + m ≤ 8) : (2 ^ m - 1) * 2 ^ a < 256 := by
  have h1 : 2 ^ (a + m) ≤ 2 ^ 8 := Nat.pow_le_pow_right (by decide) h
  have h2 : 2 ^ (a + m) = 2 ^ m * 2 ^ a := by rw [Nat.add_comm, Nat.pow_add]
  have h3 : 0 < 2 ^ a := Nat.two_pow_pos a
  have h4 : 0 < 2 ^ m := Nat.two_pow_pos m
  rw [Nat.sub_mul]
  omega
theorem pw_bit (m a t : Nat) : ((2 ^ m - 1) * 2 ^ a).testBit t = true ↔ a ≤ t ∧ t < a + m := by
  rw [← Nat.shiftLeft_eq, Nat.testBit_shiftLeft, Nat.testBit_two_pow_sub_one]
  simp
  omega
theorem lb_pt {x : Int32} (h : x = nI (tN x)) (h8 : tN x ≤ 8) : lb x = nI (2 ^ tN x - 1) := by
  rw [h, tN_nI (by omega)]
  exact lb_n _ (by omega)
theorem pw_lt8 {n : Nat} (h : n ≤ 8) : 2 ^ n - 1 < 256 := by
  have h1 : 2 ^ n ≤ 2 ^ 8 := Nat.pow_le_pow_right (by decide) h
  omega
section JOI
variable {nv np : Nat} {vP vO vG pD pV pB mV mF mM pX pY rc : Nat → Int32} {ah : Nat → Int64}
theorem JI_GI (h : JI nv np vP pD pV pB mV mF mM) : GI nv np vP pV pB := by
  obtain ⟨h1, h2, h3, h4⟩ := h
  refine ⟨h1, h2, fun v hv => ?_, fun q hq => ?_⟩
  · obtain ⟨e, g1, g2⟩ := h3 v hv
    have e2 := lb_pt e g2
    have h5 := pw_lt8 g2
    rw [e2, tN_nI (by omega)]
    exact ⟨rfl, h5⟩
  · rcases h4 q hq with ⟨g1, g2, g3, g4⟩ | ⟨d, v, a, m, g1, g2, g3, g4, g5, g6, g7, g8, g9, g10, g11, g12⟩
    · rw [g2, g3]
      exact ⟨rfl, by decide, rfl, by decide⟩
    · have h5 := pw8 (Nat.le_trans g10 (h3 v g4).2.2)
      rw [g5, g11, tN_nI (by omega), tN_nI (by omega)]
      exact ⟨rfl, by omega, rfl, h5⟩
theorem JI_RI (h : JI nv np vP pD pV pB mV mF mM) : RI nv np vP pD mV := by
  obtain ⟨h1, h2, h3, h4⟩ := h
  refine ⟨h1, h2, fun v hv => ⟨(h3 v hv).1, (h3 v hv).2.2⟩, fun q hq hd _ => ?_⟩
  rcases h4 q hq with ⟨g1, g2, g3, g4⟩ | ⟨d, v, a, m, g1, g2, g3, g4, g5, g6, g7, g8, g9, g10, g11, g12⟩
  · exact absurd (by rw [g1]; decide) hd
  · rw [g6, tN_nI (by omega)]
    exact ⟨rfl, g4⟩
theorem mk_bit {vq bq v t : Nat} (hb : bq < 256) (ht : t < 8) : bl (mkw vq bq) (v % 8 * 8 + t) = true ↔ (vq % 8 = v % 8 ∧ bq.testBit t = true) := by
  rw [bl_mkw _ _ (by omega), Bool.and_eq_true, decide_eq_true_eq]
  by_cases e : vq % 8 = v % 8
  · rw [e, Nat.add_sub_cancel_left]
    exact ⟨fun h => ⟨rfl, h.2⟩, fun h => ⟨Nat.le_add_right _ _, h.2⟩⟩
  · refine ⟨fun h => ?_, fun h => absurd h.1 e⟩
    have p8 : 256 ≤ 2 ^ (v % 8 * 8 + t - vq % 8 * 8) := Nat.pow_le_pow_right (show 0 < 2 by decide) (show 8 ≤ v % 8 * 8 + t - vq % 8 * 8 by omega)
    rw [Nat.testBit_lt_two_pow (Nat.lt_of_lt_of_le hb p8)] at h
    exact absurd h.2 (by decide)
theorem ni_m1 {v : Nat} (hv : v < 20) : ¬ (-1 : Int32) = nI v := fun h => nI_pos (n := v) (by omega) (by rw [← h]; decide)
theorem nI1 {d : Nat} (hd : d ≤ 5) : nI d = 1 ↔ d = 1 := nI_eq (b := 1) (by omega) (by decide)
theorem nI3 {d : Nat} (hd : d ≤ 5) : nI d = 3 ↔ d = 3 := nI_eq (b := 3) (by omega) (by decide)
theorem nI0 {d : Nat} (hd : d ≤ 5) : nI d = 0 ↔ d = 0 := nI_eq (b := 0) (by omega) (by decide)
theorem is_iff (hnv : nv ≤ 20) (h8 : ∀ v, v < nv → tN (vP v) ≤ 8) {q v t : Nat} (hv : v < nv) (ht : t < 8) (h : Rel1 nv vP pD pV pB mV mF mM q) : isR pD mV mF mM (nI v) t q ↔ (¬ (pD q = 0 ∨ pD q = 3) ∧ tN (pV q) = v ∧ (tN (pB q)).testBit t = true) := by
  rcases h with ⟨g1, g2, g3, g4⟩ | ⟨d, v', a, m, g1, g2, g3, g4, g5, g6, g7, g8, g9, g10, g11, g12⟩
  · constructor
    · intro h
      have := h.1
      rw [g4] at this
      exact absurd this (ni_m1 (by omega))
    · intro h
      exact absurd (Or.inl g1) h.1
  · have h5 := h8 v' g4
    have hb := pw8 (Nat.le_trans g10 h5)
    unfold isR
    rw [g6, g7, g8, g3, g5, g11, tN_nI (by omega), tN_nI (by omega), nI_add, nI_eq (by omega) (by omega), nI_ltI (by omega) (by omega), nI_leI (by omega) (by omega), nI3 g2, nI0 g2, pw_bit]
    omega
theorem rel_v {q : Nat} (h : Rel1 nv vP pD pV pB mV mF mM q) (hnv : nv ≤ 20) : tN (pV q) < 20 := by
  rcases h with ⟨g1, g2, g3, g4⟩ | ⟨d, v', a, m, g1, g2, g3, g4, g5, g6, g7, g8, g9, g10, g11, g12⟩
  · rw [g2]; decide
  · rw [g5, tN_nI (by omega)]; omega
theorem rel_b {q : Nat} (h8 : ∀ v, v < nv → tN (vP v) ≤ 8) (h : Rel1 nv vP pD pV pB mV mF mM q) : tN (pB q) < 256 := by
  rcases h with ⟨g1, g2, g3, g4⟩ | ⟨d, v', a, m, g1, g2, g3, g4, g5, g6, g7, g8, g9, g10, g11, g12⟩
  · rw [g3]; decide
  · have hb := pw8 (Nat.le_trans g10 (h8 v' g4))
    rw [g11, tN_nI (by omega)]; exact hb
theorem gn_iff (h : JI nv np vP pD pV pB mV mF mM) {q v t w : Nat} (hq : q < np) (hv : v < nv) (ht : t < 8) (hw : w < 2) :
    (gnP pD pV pB q ((if w = 1 then 3 else 0) + v / 8) (v % 8 * 8 + t) ↔ (isR pD mV mF mM (nI v) t q ∧ (pD q = 1 ↔ w = 1))) ∧ (klP pD pV pB q ((if w = 1 then 3 else 0) + v / 8) (v % 8 * 8 + t) ↔ (isR pD mV mF mM (nI v) t q ∧ (pD q = 1 ↔ ¬ w = 1))) := by
  obtain ⟨h1, h2, h3, h4⟩ := h
  have hr := h4 q hq
  have h8 : ∀ v, v < nv → tN (vP v) ≤ 8 := fun v hv => (h3 v hv).2.2
  have hvq := rel_v hr h1
  unfold gnP klP
  rw [is_iff h1 h8 hv ht hr, mk_bit (rel_b h8 hr) ht]
  have hv20 : v < 20 := Nat.lt_of_lt_of_le hv h1
  refine ⟨⟨?_, ?_⟩, ⟨?_, ?_⟩⟩
  · rintro ⟨a, b, c, d⟩
    by_cases hw1 : w = 1 <;> by_cases hd : pD q = 1 <;> simp only [hw1, hd, if_true, if_false] at b <;> first | omega | (exact ⟨⟨a, by omega, d⟩, by simp [hw1, hd]⟩)
  · rintro ⟨⟨a, b, c⟩, d⟩
    refine ⟨a, ?_, by rw [b], c⟩
    by_cases hw1 : w = 1
    · rw [if_pos hw1, if_pos (d.mpr hw1), b]
    · rw [if_neg hw1, if_neg (fun z => hw1 (d.mp z)), b]
  · rintro ⟨a, b, c, d⟩
    by_cases hw1 : w = 1 <;> by_cases hd : pD q = 1 <;> simp only [hw1, hd, if_true, if_false] at b <;> first | omega | (exact ⟨⟨a, by omega, d⟩, by simp [hw1, hd]⟩)
  · rintro ⟨⟨a, b, c⟩, d⟩
    refine ⟨a, ?_, by rw [b], c⟩
    by_cases hw1 : w = 1
    · rw [if_pos hw1, if_neg (fun z => d.mp z hw1), b]
    · rw [if_neg hw1, if_pos (d.mpr hw1), b]
theorem gv_iff (h : JI nv np vP pD pV pB mV mF mM) {v t w : Nat} (hv : v < nv) (ht : t < 8) (hw : w < 2) (hpt : t < tN (vP v)) :
    b0P vP vG nv ((if w = 1 then 3 else 0) + v / 8) (v % 8 * 8 + t) ↔ (gvR nv vG (nI v) ↔ w = 1) := by
  obtain ⟨h1, h2, h3, h4⟩ := h
  have hg : gvR nv vG (nI v) ↔ ¬ vG v = 0 := ⟨fun ⟨v', a, b, c⟩ => by rw [(nI_eq (a := v) (b := v') (by omega) (by omega)).mp b]; exact c, fun z => ⟨v, hv, rfl, z⟩⟩
  rw [hg]
  have hlb : ∀ v', v' < nv → tN (lb (vP v')) = 2 ^ tN (vP v') - 1 := fun v' hv' => by
    have := pw_lt8 (h3 v' hv').2.2
    rw [lb_pt (h3 v' hv').1 (h3 v' hv').2.2, tN_nI (by omega)]
  constructor
  · rintro ⟨v', a, b, c⟩
    rw [hlb v' a, mk_bit (pw_lt8 (h3 v' a).2.2) ht] at c
    by_cases hw1 : w = 1
    · rw [if_pos hw1] at b
      by_cases hz : vG v' = 0
      · rw [if_pos hz] at b
        omega
      · rw [if_neg hz] at b
        rw [show v = v' by omega]
        exact ⟨fun _ => hw1, fun _ => hz⟩
    · rw [if_neg hw1] at b
      by_cases hz : vG v' = 0
      · rw [if_pos hz] at b
        rw [show v = v' by omega]
        exact ⟨fun z => absurd hz z, fun z => absurd z hw1⟩
      · rw [if_neg hz] at b
        omega
  · intro hiff
    refine ⟨v, hv, ?_, ?_⟩
    · by_cases hw1 : w = 1
      · rw [if_pos hw1, if_neg (hiff.mpr hw1)]
      · rw [if_neg hw1, if_pos (Classical.byContradiction (fun z => hw1 (hiff.mp z)))]
    · rw [hlb v hv, mk_bit (pw_lt8 (h3 v hv).2.2) ht, Nat.testBit_two_pow_sub_one]
      exact ⟨rfl, decide_eq_true hpt⟩
theorem b0_no (h : JI nv np vP pD pV pB mV mF mM) {v t w : Nat} (hv : v < nv) (ht : t < 8) (hw : w < 2) (hpt : ¬ t < tN (vP v)) : ¬ b0P vP vG nv ((if w = 1 then 3 else 0) + v / 8) (v % 8 * 8 + t) := by
  obtain ⟨h1, h2, h3, h4⟩ := h
  rintro ⟨v', a, b, c⟩
  have := pw_lt8 (h3 v' a).2.2
  rw [lb_pt (h3 v' a).1 (h3 v' a).2.2, tN_nI (by omega), mk_bit this ht, Nat.testBit_two_pow_sub_one] at c
  have e : v' = v := by
    by_cases hw1 : w = 1 <;> by_cases hz : vG v' = 0 <;> simp only [hw1, hz, if_true, if_false] at b <;> omega
  rw [e] at c
  exact hpt (of_decide_eq_true c.2)
theorem bit_eq (h : JI nv np vP pD pV pB mV mF mM) (hd : DnG nv np vP vG pD pV pB pX pY rc ah) {j v t w : Nat} (hj : j < np) (hv : v < nv) (ht : t < 8) (hw : w < 2) :
    bl (ah (j * 6 + ((if w = 1 then 3 else 0) + v / 8))) (v % 8 * 8 + t) = true ↔ (t < tN (vP v) ∧ MR nv np vG pD mV mF mM pX pY (nI v) t w j) := by
  have hE : ∀ q p, ed pX pY np q p → p < np := fun q p h => h.2
  have h8 : ∀ v, v < nv → tN (vP v) ≤ 8 := fun v hv => (h.2.2.1 v hv).2.2
  have hv20 : v < 20 := Nat.lt_of_lt_of_le hv h.1
  have hnv20 : nv ≤ 20 := h.1
  rw [hd.2 j _ _ hj (by split <;> omega) (by omega)]
  by_cases hpt : t < tN (vP v)
  · have hb := gv_iff (vG := vG) h hv ht hw hpt
    have hg : ∀ q, q < np → _ := fun q hq => (gn_iff h hq hv ht hw).1
    have hk : ∀ q, q < np → _ := fun q hq => (gn_iff h hq hv ht hw).2
    rw [may_congr hE hb hg hk]
    unfold MR MR1 MR0
    rcases (show w = 0 ∨ w = 1 by omega) with e | e
    · subst e
      simp [hpt]
    · subst e
      simp [hpt]
  · refine ⟨fun z => absurd z (may_no hE (b0_no h hv ht hw hpt) (fun q hq z => ?_)), fun z => absurd z.1 hpt⟩
    have z := ((gn_iff h hq hv ht hw).1.mp z).1
    rcases h.2.2.2 q hq with ⟨g1, g2, g3, g4⟩ | ⟨d, v', a, m, g1, g2, g3, g4, g5, g6, g7, g8, g9, g10, g11, g12⟩
    · rw [is_iff h.1 h8 hv ht (Or.inl ⟨g1, g2, g3, g4⟩)] at z
      exact z.1 (Or.inl g1)
    · have z2 := z
      rw [is_iff h.1 h8 hv ht (Or.inr ⟨d, v', a, m, g1, g2, g3, g4, g5, g6, g7, g8, g9, g10, g11, g12⟩), g5, g11, tN_nI (by omega), tN_nI (by have := pw8 (Nat.le_trans g10 (h8 v' g4)); omega), pw_bit] at z2
      obtain ⟨_, e, _, e2⟩ := z2
      subst e
      omega
theorem sb_eq (h : JI nv np vP pD pV pB mV mF mM) (hd : DnG nv np vP vG pD pV pB pX pY rc ah) {j v w : Nat} (hj : j < np) (hv : v < nv) (hw : w < 2) : sb (ah (j * 6 + ((if w = 1 then 3 else 0) + v / 8))) v = nI (bxN nv np vP vG pD mV mF mM pX pY w j v) := by
  obtain ⟨X, hX, e, hb⟩ := sb_bits (ah (j * 6 + ((if w = 1 then 3 else 0) + v / 8))) v
  rw [e]
  have h8 := (h.2.2.1 v hv).2.2
  have hY : bxN nv np vP vG pD mV mF mM pX pY w j v < 256 := Nat.lt_of_lt_of_le (bxr_lt _ _) (Nat.pow_le_pow_right (show 0 < 2 by decide) h8)
  congr 1
  refine nat8 hX hY (fun t ht => ?_)
  rw [hb t ht]
  unfold bxN
  rw [bxr_bit, Bool.eq_iff_iff, bit_eq h hd hj hv ht hw, Bool.and_eq_true, decide_eq_true_eq, tb_iff]
theorem nz3 {a b c : Prop} (h1 : ¬ a) (h2 : ¬ b) (h3 : ¬ c) : ¬ (a ∨ b ∨ c) := fun z => z.elim h1 (fun z => z.elim h2 h3)
theorem pow_unF : ∀ pt m a : Fin 9, 1 ≤ m.val → a.val + m.val ≤ pt.val → (2 ^ m.val - 1) * 2 ^ a.val = 2 ^ pt.val - 1 → m.val = pt.val := by decide +kernel
theorem pow_un (pt : Nat) (h1 : pt < 9) (m : Nat) (h2 : m < 9) (a : Nat) (h3 : a < 9) (h4 : 1 ≤ m) (h5 : a + m ≤ pt) (h6 : (2 ^ m - 1) * 2 ^ a = 2 ^ pt - 1) : m = pt := pow_unF ⟨pt, h1⟩ ⟨m, h2⟩ ⟨a, h3⟩ h4 h5 h6
theorem fop_eq (h : JI nv np vP pD pV pB mV mF mM) (hd : DnG nv np vP vG pD pV pB pX pY rc ah) {j : Nat} (hj : j < np) : fop vP vO pD pV pB rc ah j = frv nv np vP vO vG pD mV mF mM pX pY j := by
  have hr := (hd.1 j hj).2
  have h01 := (hd.1 j hj).1
  have hrc : rc j = 0 ↔ ¬ rch (ed pX pY np) np j := by
    rw [← hr]
    exact ⟨fun a b => i01 (a.symm.trans b), fun a => h01.elim id (fun b => absurd b a)⟩
  have h8 : ∀ v, v < nv → tN (vP v) ≤ 8 := fun v hv => (h.2.2.1 v hv).2.2
  unfold fop frv
  rcases h.2.2.2 j hj with ⟨g1, g2, g3, g4⟩ | ⟨d, v, a, m, g1, g2, g3, g4, g5, g6, g7, g8, g9, g10, g11, g12⟩
  · rw [if_pos (show pD j < 1 ∨ _ from Or.inl (by rw [g1]; decide)), if_neg (show ¬ (pD j = 2 ∨ pD j = 3) by rw [g1]; decide), if_pos (show ¬ pD j = 1 ∨ _ from Or.inl (by rw [g1]; decide))]
    split <;> rfl
  · have hv20 : v < 20 := Nat.lt_of_lt_of_le g4 h.1
    have hpt := h.2.2.1 v g4
    have hpv : tN (pV j) = v := by rw [g5, tN_nI (by omega)]
    have hmv : tN (mV j) = v := by rw [g6, tN_nI (by omega)]
    have hb8 := pw8 (Nat.le_trans g10 hpt.2.2)
    have hs0 := sb_eq h hd hj g4 (w := 0) (by decide)
    have hs1 := sb_eq h hd hj g4 (w := 1) (by decide)
    rw [if_neg (by decide), show j * 6 + (0 + v / 8) = j * 6 + 0 + v / 8 by omega] at hs0
    rw [if_pos rfl, show j * 6 + (3 + v / 8) = j * 6 + 3 + v / 8 by omega] at hs1
    rw [hpv, hmv, hs0, hs1]
    by_cases hre : rch (ed pX pY np) np j
    · rw [if_neg (fun z => (hrc.mp z) hre)]
      have hnt : ¬ tb (rch (ed pX pY np) np j) = false := by rw [tb_t hre]; decide
      rcases (show d = 1 ∨ d = 2 ∨ d = 3 ∨ d = 4 ∨ d = 5 by omega) with e | e | e | e | e <;> subst e
      · have e1 : pD j = 1 := g3
        have hm : vP v ≤ mM j ↔ pB j = lb (vP v) := by
          have hl : lb (vP v) = nI (2 ^ tN (vP v) - 1) := lb_pt hpt.1 hpt.2.2
          have hl8 := pw_lt8 hpt.2.2
          rw [hl, g11, g8, hpt.1, tN_nI (by omega), nI_leI (by omega) (by omega), nI_eq (by omega) (by omega)]
          constructor
          · intro z
            have ea : a = 0 := by omega
            have em : m = tN (vP v) := by omega
            subst ea
            rw [em]; simp
          · intro z
            have := pow_un (tN (vP v)) (by omega) m (by omega) a (by omega) g9 g10 z
            omega
        rw [if_neg (show ¬ (pD j = 2 ∨ pD j = 3) by rw [e1]; decide), if_neg (nz3 (by rw [e1]; decide) (by rw [e1]; decide) hnt), if_pos e1]
        by_cases ho : vO v = 0
        · rw [if_pos (Or.inr ho), if_pos ho]
        · rw [if_neg (fun z => z.elim (fun z => z e1) ho), if_neg ho]
          by_cases hb : pB j = lb (vP v)
          · rw [if_neg (show ¬ ¬ pB j = lb (vP v) from fun z => z hb), if_neg (show ¬ ¬ vP v ≤ mM j from fun z => z (hm.mpr hb))]
          · rw [if_pos hb, if_pos (show ¬ vP v ≤ mM j from fun z => hb (hm.mp z))]
      · have e1 : pD j = 2 := g3
        have hl : lb (mM j) <<< (mF j &&& 31) = pB j := by rw [g7, g8, g11, lb_sh m (by omega) a (by omega)]
        rw [if_pos (Or.inl e1), if_neg (nz3 (by rw [e1]; decide) (by rw [e1]; decide) hnt), if_neg (show ¬ pD j = 1 by rw [e1]; decide), hl]
      · have e1 : pD j = 3 := g3
        have hl : lb (mM j) <<< (mF j &&& 31) = pB j := by rw [g7, g8, g11, lb_sh m (by omega) a (by omega)]
        rw [if_pos (Or.inr e1), if_neg (nz3 (by rw [e1]; decide) (by rw [e1]; decide) hnt), if_neg (show ¬ pD j = 1 by rw [e1]; decide), hl]
      · have e1 : pD j = 4 := g3
        rw [if_neg (show ¬ (pD j = 2 ∨ pD j = 3) by rw [e1]; decide), if_pos (show ¬ pD j = 1 ∨ _ from Or.inl (by rw [e1]; decide)), if_pos (Or.inr (Or.inl (show 3 < pD j by rw [e1]; decide)))]
      · have e1 : pD j = 5 := g3
        rw [if_neg (show ¬ (pD j = 2 ∨ pD j = 3) by rw [e1]; decide), if_pos (show ¬ pD j = 1 ∨ _ from Or.inl (by rw [e1]; decide)), if_pos (Or.inr (Or.inl (show 3 < pD j by rw [e1]; decide)))]
    · rw [if_pos (hrc.mpr hre), if_pos (Or.inr (Or.inr (tb_f hre)))]
theorem frv_pos {j : Nat} : 0 < frv nv np vP vO vG pD mV mF mM pX pY j ↔ ¬ frv nv np vP vO vG pD mV mF mM pX pY j = 0 := by
  unfold frv
  repeat' split
  all_goals decide
end JOI
