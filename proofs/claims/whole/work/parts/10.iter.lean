/-! One turn of the solver, its beginning, its end: pure. -/
def GoX (np : Nat) (be : Nat → Int64) (x : Int32) (rc iw wt : Nat → Int32) (ah : Nat → Int64) (hd wn : Nat) (rc' iw' wt' : Nat → Int32) (ah' : Nat → Int64) (wn' : Nat) : Prop :=
  (∃ t, t < np ∧ x = nI t ∧ Go be rc iw wt ah hd wn t rc' iw' wt' ah' wn') ∨ ((∀ t, t < np → ¬ x = nI t) ∧ rc' = rc ∧ iw' = iw ∧ wt' = wt ∧ ah' = ah ∧ wn' = wn)
def Md (np : Nat) (E : Nat → Nat → Prop) (gn kl : Nat → Nat → Nat → Prop) (b0 : Nat → Nat → Prop) (j : Nat) (a0 : Nat → Int64) (rc iw wt : Nat → Int32) (ah : Nat → Int64) (hd wn tn : Nat) : Prop :=
  Sv np E gn kl b0 rc iw wt ah hd wn tn (fun p => p = j) ∧ rc j = 1 ∧ (iw j = 0 → ∀ w, w < 6 → ah (j * 6 + w) = a0 w) ∧ Bg np b0 rc ah
def Dt (be : Nat → Int64) (rc : Nat → Int32) (ah : Nat → Int64) (t : Nat) : Prop := rc t = 1 ∧ ∀ w i, w < 6 → bl (be w) i = true → bl (ah (t * 6 + w)) i = true
theorem it_go {np : Nat} {E : Nat → Nat → Prop} {gn kl : Nat → Nat → Nat → Prop} {b0 : Nat → Nat → Prop} {j : Nat} {a0 be : Nat → Int64} {x : Int32} {rc iw wt rc' iw' wt' : Nat → Int32} {ah ah' : Nat → Int64} {hd wn tn wn' : Nat} (hn : np ≤ 120) (hE : ∀ q p, E q p → p < np) (hj : j < np)
    (h : Md np E gn kl b0 j a0 rc iw wt ah hd wn tn) (hx : ∀ t, t < np → x = nI t → E j t) (hr : rch E np j) (ha : ∀ w i, w < 6 → i < 64 → bl (a0 w) i = true → may E np (b0 w i) (fun q => gn q w i) (fun q => kl q w i) j)
    (hbe : ∀ w i, w < 6 → i < 64 → (bl (be w) i = true ↔ (gn j w i ∨ (¬ kl j w i ∧ bl (a0 w) i = true)))) (hg : GoX np be x rc iw wt ah hd wn rc' iw' wt' ah' wn') :
    Md np E gn kl b0 j a0 rc' iw' wt' ah' hd wn' tn ∧ (∀ t, t < np → x = nI t → Dt be rc' ah' t) ∧ ∀ t, Dt be rc ah t → Dt be rc' ah' t := by
  obtain ⟨hS, h1, h2, hB⟩ := h
  rcases hg with ⟨t, ht, hxt, hG⟩ | ⟨hno, e1, e2, e3, e4, e5⟩
  · have he := hx t ht hxt
    obtain ⟨k1, k2, k3, k4, k5, k6⟩ := Go_step hn hE ht hS hG (rch_s hr he) (fun w i hw hi hb => ((hbe w i hw hi).mp hb).elim (fun hg => may_g hr he hg) (fun hp => may_p (ha w i hw hi hp.2) he hp.1))
    refine ⟨⟨k1, k4 j h1, fun h0 w hw => ?_, fun h0 => ⟨k4 0 (hB h0).1, fun w i hw hi hb => k5 0 w i hw ((hB h0).2 w i hw hi hb)⟩⟩, fun t' ht' hxt' => ?_, fun t' hD => ⟨k4 t' hD.1, fun w i hw hb => k5 t' w i hw (hD.2 w i hw hb)⟩⟩
    · obtain ⟨q1, q2⟩ := k6 j hj h0
      rw [q2 w hw]; exact h2 q1 w hw
    · have : t' = t := (nI_eq (by omega) (by omega)).mp (hxt'.symm.trans hxt)
      subst this
      exact ⟨k2, k3⟩
  · subst e1; subst e2; subst e3; subst e4; subst e5
    exact ⟨⟨hS, h1, h2, hB⟩, fun t ht hxt => absurd hxt (hno t ht), fun t hD => hD⟩
theorem it_all {np : Nat} {pX pY : Nat → Int32} {gn kl : Nat → Nat → Nat → Prop} {b0 : Nat → Nat → Prop} {j : Nat} {be : Nat → Int64} {rc iw wt rc1 iw1 wt1 rc2 iw2 wt2 : Nat → Int32} {ah ah1 ah2 : Nat → Int64} {hd wn tn wn1 wn2 : Nat} (hn : np ≤ 120) (hj : j < np)
    (h : Sv np (ed pX pY np) gn kl b0 rc iw wt ah hd wn tn (fun _ => False)) (hB : Bg np b0 rc ah) (hi : iw j = 1) (hw : 0 < wn) (hR : Rg np (upd iw j 0) wt ((hd + 1) % 120) (wn - 1))
    (hbe : ∀ w i, w < 6 → i < 64 → (bl (be w) i = true ↔ (gn j w i ∨ (¬ kl j w i ∧ bl (ah (j * 6 + w)) i = true))))
    (g1 : GoX np be (pX j) rc (upd iw j 0) wt ah ((hd + 1) % 120) (wn - 1) rc1 iw1 wt1 ah1 wn1) (g2 : GoX np be (pY j) rc1 iw1 wt1 ah1 ((hd + 1) % 120) wn1 rc2 iw2 wt2 ah2 wn2) :
    Sv np (ed pX pY np) gn kl b0 rc2 iw2 wt2 ah2 ((hd + 1) % 120) wn2 (tn + 1) (fun _ => False) ∧ Bg np b0 rc2 ah2 := by
  have hE : ∀ q p, ed pX pY np q p → p < np := fun q p h => h.2
  obtain ⟨hb, _, hS, hC, hm, hq⟩ := h
  have hj1 := hq j hj hi
  have M0 : Md np (ed pX pY np) gn kl b0 j (fun w => ah (j * 6 + w)) rc (upd iw j 0) wt ah ((hd + 1) % 120) (wn - 1) (tn + 1) := by
    refine ⟨⟨hb, hR, hS, fun p q hp hx h1 h2 he => hC p q hp (fun h => h) h1 (by rw [pk_un hx] at h2; exact h2) he, by omega, fun i hi2 h1 => ?_⟩, hj1, fun _ w _ => rfl, hB⟩
    by_cases e : i = j
    · rw [e]; exact hj1
    · rw [pk_un e] at h1; exact hq i hi2 h1
  have hr := hS.1 j hj hj1
  have ha : ∀ w i, w < 6 → i < 64 → bl ((fun w => ah (j * 6 + w)) w) i = true → may (ed pX pY np) np (b0 w i) (fun q => gn q w i) (fun q => kl q w i) j := fun w i hw hi hb => hS.2 j w i hj hw hi hb
  obtain ⟨M1, d1, _⟩ := it_go hn hE hj M0 (fun t ht hx => ⟨Or.inl hx, ht⟩) hr ha hbe g1
  obtain ⟨M2, d2, d3⟩ := it_go hn hE hj M1 (fun t ht hx => ⟨Or.inr hx, ht⟩) hr ha hbe g2
  obtain ⟨⟨hb2, hR2, hS2, hC2, hm2, hq2⟩, hj2, ha2, hB2⟩ := M2
  refine ⟨⟨hb2, hR2, hS2, fun p q hp _ h1 h2 he => ?_, hm2, hq2⟩, hB2⟩
  by_cases e : p = j
  · subst e
    have hD : Dt be rc2 ah2 q := by
      obtain ⟨he | he, hq9⟩ := he
      · exact d3 q (d1 q hq9 he)
      · exact d2 q hq9 he
    refine ⟨hD.1, fun w i hw hi hgk => hD.2 w i hw ((hbe w i hw hi).mpr ?_)⟩
    rw [ha2 h2 w hw] at hgk
    exact hgk
  · exact hC2 p q hp e h1 h2 he
theorem it_begin {np : Nat} {pX pY : Nat → Int32} {gn kl : Nat → Nat → Nat → Prop} {b0 : Nat → Nat → Prop} {be : Nat → Int64} {rc iw wt rc1 iw1 wt1 : Nat → Int32} {ah ah1 : Nat → Int64} {wn1 : Nat} (hn : np ≤ 120)
    (hrc : ∀ i, i < 120 → rc i = 0 ∨ rc i = 1) (hr0 : ∀ i, i < np → rc i = 0) (hiw : ∀ i, i < 120 → iw i = 0) (hah : ∀ w, w < np * 6 → ah w = 0) (hbe : ∀ w t, w < 6 → t < 64 → (bl (be w) t = true ↔ b0 w t)) (g : GoX np be 0 rc iw wt ah 0 0 rc1 iw1 wt1 ah1 wn1) :
    Sv np (ed pX pY np) gn kl b0 rc1 iw1 wt1 ah1 0 wn1 0 (fun _ => False) ∧ Bg np b0 rc1 ah1 := by
  have hE : ∀ q p, ed pX pY np q p → p < np := fun q p h => h.2
  have S0 : Sv np (ed pX pY np) gn kl b0 rc iw wt ah 0 0 0 (fun _ => False) := by
    refine ⟨hrc, ⟨by omega, by omega, fun i hi => Or.inl (hiw i hi), cnt_none (fun i hi => by rw [hiw i hi]; rfl), fun a ha => absurd ha (Nat.not_lt_zero a), fun a b ha => absurd ha (Nat.not_lt_zero a)⟩, ⟨fun p hp h => absurd ((hr0 p hp).symm.trans h) i01, fun p w i hp hw hi h => ?_⟩, fun p q hp _ h => absurd ((hr0 p hp).symm.trans h) i01, by omega, fun i hi h => absurd ((hiw i (by omega)).symm.trans h) i01⟩
    rw [hah _ (by omega), bl_0] at h
    cases h
  rcases g with ⟨t, ht, hxt, hG⟩ | ⟨hno, e1, e2, e3, e4, e5⟩
  · have : t = 0 := (nI_eq (by omega) (by omega)).mp (hxt.symm.trans nI_0.symm)
    subst this
    obtain ⟨k1, k2, k3, k4, k5, k6⟩ := Go_step hn hE ht S0 hG (rch_0 ht) (fun w i hw hi hb => may_0 ht ((hbe w i hw hi).mp hb))
    exact ⟨k1, fun _ => ⟨k2, fun w i hw hi hb => k3 w i hw ((hbe w i hw hi).mpr hb)⟩⟩
  · subst e1; subst e2; subst e3; subst e4; subst e5
    exact ⟨S0, fun h0 => absurd nI_0.symm (hno 0 h0)⟩
/-- solved: reached and ahead are what the ways say -/
def Dn (np : Nat) (E : Nat → Nat → Prop) (gn kl : Nat → Nat → Nat → Prop) (b0 : Nat → Nat → Prop) (rc : Nat → Int32) (ah : Nat → Int64) : Prop :=
  (∀ p, p < np → (rc p = 0 ∨ rc p = 1) ∧ (rc p = 1 ↔ rch E np p)) ∧ ∀ p w i, p < np → w < 6 → i < 64 → (bl (ah (p * 6 + w)) i = true ↔ may E np (b0 w i) (fun q => gn q w i) (fun q => kl q w i) p)
theorem it_end {np : Nat} {pX pY : Nat → Int32} {gn kl : Nat → Nat → Nat → Prop} {b0 : Nat → Nat → Prop} {rc iw wt : Nat → Int32} {ah : Nat → Int64} {hd wn tn : Nat} (hn : np ≤ 120) (h : Sv np (ed pX pY np) gn kl b0 rc iw wt ah hd wn tn (fun _ => False)) (hB : Bg np b0 rc ah) (he : 46200 ≤ tn ∨ wn = 0) :
    Dn np (ed pX pY np) gn kl b0 rc ah ∧ (∀ i, i < 120 → iw i = 0) ∧ wn = 0 := by
  obtain ⟨hb, hR, hS, hC, hm, hq⟩ := h
  have hl := gs_le rc ah
  have h0 : wn = 0 := by omega
  subst h0
  have hiw : ∀ i, i < 120 → iw i = 0 := fun i hi => by
    have := cnt_zero hR.2.2.2.1 i hi
    exact (hR.2.2.1 i hi).elim id (fun e => absurd e (of_decide_eq_false this))
  obtain ⟨d1, d2⟩ := solve_done hn (fun q p h => h.2) hS hC hB hiw
  exact ⟨⟨fun p hp => ⟨hb p (by omega), d1 p hp⟩, d2⟩, hiw, rfl⟩
theorem GoX_le {np : Nat} {be : Nat → Int64} {x : Int32} {rc iw wt rc' iw' wt' : Nat → Int32} {ah ah' : Nat → Int64} {hd wn wn' j : Nat} (hn : np ≤ 120) (hR : Rg np iw wt hd wn) (h : GoX np be x rc iw wt ah hd wn rc' iw' wt' ah' wn') (hj : j < np) : wn' ≤ 120 := by
  have h1 := hR.2.1
  rcases h with ⟨t, ht, _, _, hg⟩ | ⟨_, _, _, _, _, h⟩
  · rcases hg with ⟨_, _, _, h⟩ | ⟨_, hA⟩
    · omega
    · rcases hA with ⟨_, _, _, h⟩ | ⟨ha, _, _, _, h⟩
      · omega
      · have := Rg_room hR (by omega) ha
        omega
  · omega
theorem rz_01 {f f0 : Nat → Int32} {np : Nat} (h : (∀ q, q < np → f q = 0) ∧ ∀ q, np ≤ q → f q = f0 q) (h0 : ∀ i, i < 120 → f0 i = 0 ∨ f0 i = 1) : ∀ i, i < 120 → f i = 0 ∨ f i = 1 := by
  intro i hi
  rcases Nat.lt_or_ge i np with q | q
  · exact Or.inl (h.1 i q)
  · rw [h.2 i q]; exact h0 i hi
theorem iz_0 {f f0 : Nat → Int32} {np : Nat} (h : (∀ q, q < np → f q = 0) ∧ ∀ q, np ≤ q → f q = f0 q) (h0 : ∀ i, i < 120 → f0 i = 0) : ∀ i, i < 120 → f i = 0 := by
  intro i hi
  rcases Nat.lt_or_ge i np with q | q
  · exact h.1 i q
  · rw [h.2 i q]; exact h0 i hi
theorem sv1 {sv : Int32} {X : Prop} (h : sv = 0 ∨ (sv = 1 ∧ X)) (hc : ¬ sv = 0) : sv = 1 := h.elim (fun e => absurd e hc) (fun e => e.1)
theorem sv2 {sv : Int32} {X : Prop} (h : sv = 0 ∨ (sv = 1 ∧ X)) (hc : ¬ sv = 0) : X := h.elim (fun e => absurd e hc) (fun e => e.2)
/-- the graph as the class keeps it: its numbers are in range -/
def GI (nv np : Nat) (vP pV pB : Nat → Int32) : Prop := nv ≤ 20 ∧ np ≤ 120 ∧ (∀ v, v < nv → lb (vP v) = nI (tN (lb (vP v))) ∧ tN (lb (vP v)) < 256) ∧ ∀ q, q < np → pV q = nI (tN (pV q)) ∧ tN (pV q) < 20 ∧ pB q = nI (tN (pB q)) ∧ tN (pB q) < 256
def DnG (nv np : Nat) (vP vG pD pV pB pX pY rc : Nat → Int32) (ah : Nat → Int64) : Prop := Dn np (ed pX pY np) (gnP pD pV pB) (klP pD pV pB) (b0P vP vG nv) rc ah
/-- the solver's part between calls -/
def ZI (nv np : Nat) (vP vG pD pV pB pX pY : Nat → Int32) (sv : Int32) (rc iw : Nat → Int32) (ah : Nat → Int64) : Prop := (∀ i, i < 120 → iw i = 0) ∧ (∀ i, i < 120 → rc i = 0 ∨ rc i = 1) ∧ (sv = 0 ∨ (sv = 1 ∧ DnG nv np vP vG pD pV pB pX pY rc ah))
def SP (nv np : Nat) (vP vG pD pV pB pX pY : Nat → Int32) (sv : Int32) (rc iw : Nat → Int32) (ah : Nat → Int64) : Prop := sv = 1 ∧ DnG nv np vP vG pD pV pB pX pY rc ah ∧ (∀ i, i < 120 → iw i = 0) ∧ (∀ i, i < 120 → rc i = 0 ∨ rc i = 1)
theorem SP_ZI {nv np : Nat} {vP vG pD pV pB pX pY rc iw : Nat → Int32} {sv : Int32} {ah : Nat → Int64} (h : SP nv np vP vG pD pV pB pX pY sv rc iw ah) : ZI nv np vP vG pD pV pB pX pY sv rc iw ah := ⟨h.2.2.1, h.2.2.2, Or.inr ⟨h.1, h.2.1⟩⟩
/-- solved, or as before and not asked -/
def fop (vP vO pD pV pB rc : Nat → Int32) (ah : Nat → Int64) (p : Nat) : Int32 :=
  if rc p = 0 then 0 else if pD p = 2 ∨ pD p = 3 then (if sb (ah (p * 6 + 0 + tN (pV p) / 8)) (tN (pV p)) &&& pB p = 0 then 0 else 1) else if ¬ pD p = 1 ∨ vO (tN (pV p)) = 0 then 0 else if ¬ pB p = lb (vP (tN (pV p))) then 3 else if sb (ah (p * 6 + 3 + tN (pV p) / 8)) (tN (pV p)) = 0 then 0 else 2
