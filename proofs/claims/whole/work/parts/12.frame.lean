/-! Two worlds side by side: a call of a method of the one leaves the other. -/
theorem wd_l {D : va_G} {cl : List vw_C} {w1 w2 : va_W} {H : Heap} (hP : va_P D cl (w1 ++ w2) H) : va_P D cl w1 H := fun k q hk => hP k q (by
  rw [List.getElem?_append_left (List.getElem?_eq_some_iff.mp hk).1]; exact hk)
theorem wd_r {D : va_G} {cl : List vw_C} {w1 w2 : va_W} {H : Heap} (hP : va_P D cl (w1 ++ w2) H) : va_P D cl w2 H := fun k q hk => hP (w1.length + k) q (by
  rw [List.getElem?_append_right (Nat.le_add_right _ _), Nat.add_sub_cancel_left]; exact hk)
theorem wd_Dl {A : Nat → Prop} {w1 w2 : va_W} (hD : va_D A (w1 ++ w2)) : va_D A w1 := by
  have e : ∀ (k : Nat) (q : Nat × va_E), w1[k]? = some q → (w1 ++ w2)[k]? = some q := fun k q hk => by
    rw [List.getElem?_append_left (List.getElem?_eq_some_iff.mp hk).1]; exact hk
  exact ⟨fun i j p q hi hj h => hD.1 i j p q (e i p hi) (e j q hj) h, fun k q hk => hD.2 k q (e k q hk)⟩
theorem wd_Dr {A : Nat → Prop} {w1 w2 : va_W} (hD : va_D A (w1 ++ w2)) : va_D A w2 := by
  have e : ∀ (k : Nat) (q : Nat × va_E), w2[k]? = some q → (w1 ++ w2)[w1.length + k]? = some q := fun k q hk => by
    rw [List.getElem?_append_right (Nat.le_add_right _ _), Nat.add_sub_cancel_left]; exact hk
  exact ⟨fun i j p q hi hj h => by have := hD.1 _ _ p q (e i p hi) (e j q hj) h; omega, fun k q hk => hD.2 _ q (e k q hk)⟩
theorem wd_Dx {A : Nat → Prop} {w1 w2 : va_W} (hD : va_D A (w1 ++ w2)) : ∀ (i j : Nat) (p q : Nat × va_E), w1[i]? = some p → w2[j]? = some q → p.1 ≠ q.1 := by
  intro i j p q hi hj h
  have hl := (List.getElem?_eq_some_iff.mp hi).1
  have h1 : (w1 ++ w2)[i]? = some p := by rw [List.getElem?_append_left hl]; exact hi
  have h2 : (w1 ++ w2)[w1.length + j]? = some q := by rw [List.getElem?_append_right (Nat.le_add_right _ _), Nat.add_sub_cancel_left]; exact hj
  have := hD.1 _ _ p q h1 h2 h
  omega
theorem wd_sw {D : va_G} {cl : List vw_C} {A : Nat → Prop} {w1 w2 : va_W} {H : Heap} (hP : va_P D cl (w1 ++ w2) H) (hD : va_D A (w1 ++ w2)) : va_P D cl (w2 ++ w1) H ∧ va_D A (w2 ++ w1) :=
  ⟨va_P.app (wd_r hP) (wd_l hP), va_D.app (wd_Dr hD) (wd_Dl hD) (fun i j p q hi hj h => wd_Dx hD j i q p hj hi h.symm)⟩
theorem wd_frame {D : va_G} {cl : List vw_C} {A : Nat → Prop} {Wd Wr W1 : va_W} {H H1 : Heap} (hP : va_P D cl (Wd ++ Wr) H) (hD : va_D A (Wd ++ Wr)) (hk : ∀ q : Nat, q < H.size → ¬ va_A Wd H.size q → H1[q]? = H[q]?) (hF : ∀ q, va_A Wd H.size q → A q) (hP1 : va_P D cl W1 H1) (hD1 : va_D (va_A Wd H.size) W1) : va_P D cl (W1 ++ Wr) H1 ∧ va_D A (W1 ++ Wr) := by
  have hx := wd_Dx hD
  have out : ∀ (k : Nat) (q : Nat × va_E), Wr[k]? = some q → q.1 < H.size ∧ ¬ va_A Wd H.size q.1 := by
    intro k q hq
    have hl := (wd_r hP k q hq).lt
    refine ⟨hl, fun h => ?_⟩
    rcases h with ⟨k2, e, h⟩ | h
    · exact hx k2 k (q.1, e) q h hq rfl
    · omega
  refine ⟨va_P.app hP1 (fun k q hq => (wd_r hP k q hq).kept (hk q.1 (out k q hq).1 (out k q hq).2)), va_D.app (hD1.weaken (fun k q _ h => hF q.1 h)) (wd_Dr hD) (fun i j p q hi hj h => ?_)⟩
  exact (out j q hj).2 (h ▸ hD1.2 i p hi)
section PKF
variable {p : Program} {l : Launch} {e : Env} {R : Room} {s : State} {m : MethodId} {args : Array Value} {below : List Frame} {meth : Method} {c : Code} {H : Heap} {locs : List Loc} {cells slots : Nat} {Q : State → Prop}
variable {cc : ByteArray} {pc : Nat} {ls : Array Slot} {rest st0 : List Value} {D : va_G} {cl : List vw_C} {A : Nat → Prop} {tys : List (ClassId × FieldType)}
variable {y : MethodName} {bytes : ByteArray} {maxL nL n index ci mc ms : Nat} {ret : Option FieldType} {wsC Ts : List Cond} {rm : Room} {own C : String} {b : Addr} {As : List Value} {H0 : Heap} {Wd Wr : va_W} {fs : List Value} {cq : vw_C}
/-- a virtual call on the first of two worlds -/
theorem callF_vi {S : Type} {post : Int32 → S → Prop} {W' : S → va_W} (F : CallFix p m c cc nL s args Ts own) (hM : ct l y wsC rm D cl tys (.ref b :: As) Wd (qI D cl tys post W') mc ms) (cp : cpV Ts own index C y wsC bytes maxL ret n)
    (hz : rm.cells = mc ∧ rm.slots = ms) (hR : rm.frames + 1 ≤ R.frames ∧ 8 + (maxL + 11) + rm.locals ≤ R.locals) (hc : cl[ci]? = some cq) (hq : cq.1 = C) (q0 : Nat) (he : Wd[q0]? = some (b, .inr (ci, fs)))
    (hn : As.length = n) (hsize : ls.size = nL) (hst : st0 = As.reverse ++ .ref b :: rest) (hroom : (rest.map fun v => v.category).sum ≤ 8) (hdg : decode cc pc = .ok (.invokevirtual index, 3)) (hcs : cells + mc ≤ R.cells ∧ slots + ms ≤ R.slots)
    (hK : va_K D cl tys s) (hP : va_P D cl (Wd ++ Wr) H) (hD : va_D A (Wd ++ Wr)) (hS : va_S A H0 H locs) (hA : ∀ q : Nat, H0.size ≤ q → A q)
    (kk : ∀ (r : Int32) (u : S) (H1 : Heap) (locs1 : List Loc), post r u → va_P D cl (W' u ++ Wr) H1 → va_D A (W' u ++ Wr) → va_S A H0 H1 locs1 → W p l e R s m args below meth c H1 locs1 (cells + mc) (slots + ms) Q (F0 m (pc + 3) ls (.int r :: rest))) :
    W p l e R s m args below meth c H locs cells slots Q (F0 m pc ls st0) := by
  subst hq
  obtain ⟨hG, ⟨wsC', hw⟩, hd⟩ := cp
  have hF := wd_free (wd_Dl hD) hS hA
  refine va_calli (va_runV (As := As) (rest := rest) F (hM H.size) (cwV n F.2.2.2.2 hG hw hz.1 hz.2 hd hR) ⟨ct_P_blind, va_recv hK (wd_l hP) hc he, fun U hU hW => ⟨rfl, by rw [hU], by rw [hU]; exact wd_l hP, va_K.moved hW.alike hK, (wd_Dl hD).weaken (fun _ _ _ _ => trivial)⟩⟩ rfl hn hsize hst (lv_room hroom) hdg hcs) hS (fun q _ h => hF q h) hF (fun r u t H1 locs1 ht hvm hp hB hz1 hk1 hS1 => ?_)
  obtain ⟨hP1, hK1, hD1⟩ := hB
  rw [ht] at hP1
  obtain ⟨hP2, hD2⟩ := wd_frame hP hD hk1 hF hP1 hD1
  exact kk r u H1 locs1 hp hP2 hD2 hS1
/-- a virtual call on the second of two worlds -/
theorem callG_vi {S : Type} {post : Int32 → S → Prop} {W' : S → va_W} (F : CallFix p m c cc nL s args Ts own) (hM : ct l y wsC rm D cl tys (.ref b :: As) Wd (qI D cl tys post W') mc ms) (cp : cpV Ts own index C y wsC bytes maxL ret n)
    (hz : rm.cells = mc ∧ rm.slots = ms) (hR : rm.frames + 1 ≤ R.frames ∧ 8 + (maxL + 11) + rm.locals ≤ R.locals) (hc : cl[ci]? = some cq) (hq : cq.1 = C) (q0 : Nat) (he : Wd[q0]? = some (b, .inr (ci, fs)))
    (hn : As.length = n) (hsize : ls.size = nL) (hst : st0 = As.reverse ++ .ref b :: rest) (hroom : (rest.map fun v => v.category).sum ≤ 8) (hdg : decode cc pc = .ok (.invokevirtual index, 3)) (hcs : cells + mc ≤ R.cells ∧ slots + ms ≤ R.slots)
    (hK : va_K D cl tys s) (hP : va_P D cl (Wr ++ Wd) H) (hD : va_D A (Wr ++ Wd)) (hS : va_S A H0 H locs) (hA : ∀ q : Nat, H0.size ≤ q → A q)
    (kk : ∀ (r : Int32) (u : S) (H1 : Heap) (locs1 : List Loc), post r u → va_P D cl (Wr ++ W' u) H1 → va_D A (Wr ++ W' u) → va_S A H0 H1 locs1 → W p l e R s m args below meth c H1 locs1 (cells + mc) (slots + ms) Q (F0 m (pc + 3) ls (.int r :: rest))) :
    W p l e R s m args below meth c H locs cells slots Q (F0 m pc ls st0) := by
  obtain ⟨hP2, hD2⟩ := wd_sw hP hD
  refine callF_vi F hM cp hz hR hc hq q0 he hn hsize hst hroom hdg hcs hK hP2 hD2 hS hA (fun r u H1 locs1 hp hP3 hD3 hS3 => ?_)
  obtain ⟨hP4, hD4⟩ := wd_sw hP3 hD3
  exact kk r u H1 locs1 hp hP4 hD4 hS3
end PKF
