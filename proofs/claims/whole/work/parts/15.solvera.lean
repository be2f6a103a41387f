abbrev rm_addWaiting : Room := { frames := 0, cells := 0, slots := 0, locals := 0 }
theorem in_addWaiting : ∀ w ∈ u_ws RX0 TX0 18, w ∈ wsX0_addWaiting := by decide +kernel
set_option maxHeartbeats 4000000 in
set_option maxRecDepth 100000 in
theorem c_addWaiting {l : Launch} {D : va_G} {h : Nat → Nat} {k : Nat → ClassId} {vc pn sv : Int32} {vP vO vG pD pV pB pX pY rc wt iw : Nat → Int32} {ah be : Nat → Int64} (j hN wN : Nat) (hj : j < 120) (hh : hN < 120) (hw : wN ≤ 120) : ct l yX0_addWaiting wsX0_addWaiting rm_addWaiting D vwCl (pfT k) [.ref (h 0), .int (nI j)] (pfW h k vc vP vO vG pn pD pV pB pX pY sv rc ah be wt iw (nI hN) (nI wN)) (qV D vwCl (pfT k) (fun (u : (Nat → Int32) × (Nat → Int32) × Nat) => Aw iw wt hN wN j u.1 u.2.1 u.2.2) (fun u => pfW h k vc vP vO vG pn pD pV pB pX pY sv rc ah be u.2.1 u.1 (nI hN) (nI u.2.2))) 0 0 := by
  refine ct_of (cc := cX0_addWaiting) (maxL := 2) (ret := none) (by decide) rfl (Nat.le_of_ble_eq_true rfl) ?_
  intro p e s m below meth c A ls hx hb hr hml hlocks hown hnm hts hA hK hP hD hS hl
  have hown : s.vm.findClass RX0 = some m.cls := hown
  have hin := in_addWaiting
  have hl : lv_has ls 2 [(0, .ref (h 0)), (1, .int (nI j))] := hl
  refine lv_aload_n hx hb dX0_addWaiting_0 rfl (lv_at hl 0 rfl) ?_
  refine pf_g_iw hx hb hts hin hown hK hP (by decide +kernel) dX0_addWaiting_1 ?_
  refine lv_iload_n hx hb dX0_addWaiting_4 rfl (lv_at hl 1 rfl) ?_
  refine pf_l_iw (n := j) hx hb hK hP (hj) dX0_addWaiting_5 ?_
  refine lv_if_ne (tgt := 18) hx hb dX0_addWaiting_6 (by decide) (fun c6 => ?_) (fun c6 => ?_)
  · -- 6 t ne 
    exact ret_v hx hb hr hlocks hK hP hD hS dX0_addWaiting_18 (iw, wt, wN) rfl (Or.inl ⟨Or.inl c6, rfl, rfl, rfl⟩)
  · -- 6 f ne 
    refine lv_aload_n hx hb dX0_addWaiting_9 rfl (lv_at hl 0 rfl) ?_
    refine pf_g_wn hx hb hts hin hown hK hP (by decide +kernel) dX0_addWaiting_10 ?_
    refine lv_bipush (v := 120) hx hb dX0_addWaiting_13 (by decide) ?_
    refine lv_icmp_lt (tgt := 19) hx hb dX0_addWaiting_15 (by decide) (fun c15 => ?_) (fun c15 => ?_)
    · -- 15 t lt 
      have n15 : wN < 120 := (nI_ltI (by omega) (by decide)).mp c15
      refine lv_aload_n hx hb dX0_addWaiting_19 rfl (lv_at hl 0 rfl) ?_
      refine pf_g_iw hx hb hts hin hown hK hP (by decide +kernel) dX0_addWaiting_20 ?_
      refine lv_iload_n hx hb dX0_addWaiting_23 rfl (lv_at hl 1 rfl) ?_
      refine lv_iconst (v := 1) hx hb dX0_addWaiting_24 (by decide) ?_
      refine pf_s_iw (n := j) (x := 1) hx hb hK hP hD hS (hj) dX0_addWaiting_25 (by decide) (fun H locs hP hD hS => ?_)
      refine lv_aload_n hx hb dX0_addWaiting_26 rfl (lv_at hl 0 rfl) ?_
      refine pf_g_wt hx hb hts hin hown hK hP (by decide +kernel) dX0_addWaiting_27 ?_
      refine lv_aload_n hx hb dX0_addWaiting_30 rfl (lv_at hl 0 rfl) ?_
      refine pf_g_hd hx hb hts hin hown hK hP (by decide +kernel) dX0_addWaiting_31 ?_
      refine lv_aload_n hx hb dX0_addWaiting_34 rfl (lv_at hl 0 rfl) ?_
      refine pf_g_wn hx hb hts hin hown hK hP (by decide +kernel) dX0_addWaiting_35 ?_
      refine lv_iadd hx hb dX0_addWaiting_38 ?_
      refine lv_topi (fun x_1 ex_1 => ?_)
      obtain rfl : x_1 = nI (hN + wN) := ex_1.trans (nI_add hN wN)
      refine lv_bipush (v := 120) hx hb dX0_addWaiting_39 (by decide) ?_
      refine lv_irem hx hb dX0_addWaiting_41 (by decide) ?_
      refine lv_topi (fun x_2 ex_2 => ?_)
      obtain rfl : x_2 = nI ((hN + wN) % 120) := ex_2.trans (pk_rem (by omega) (by decide) (by decide))
      refine lv_iload_n hx hb dX0_addWaiting_42 rfl (lv_at hl 1 rfl) ?_
      refine pf_s_wt (n := ((hN + wN) % 120)) (x := nI j) hx hb hK hP hD hS (Nat.mod_lt _ (by decide)) dX0_addWaiting_43 (fun H locs hP hD hS => ?_)
      refine lv_aload_n hx hb dX0_addWaiting_44 rfl (lv_at hl 0 rfl) ?_
      refine lv_dup hx hb dX0_addWaiting_45 rfl ?_
      refine pf_g_wn hx hb hts hin hown hK hP (by decide +kernel) dX0_addWaiting_46 ?_
      refine lv_iconst (v := 1) hx hb dX0_addWaiting_49 (by decide) ?_
      refine lv_iadd hx hb dX0_addWaiting_50 ?_
      refine lv_topi (fun x_3 ex_3 => ?_)
      obtain rfl : x_3 = nI (wN + 1) := ex_3.trans (nI_add wN 1)
      refine pf_p_wn hx hb hts hin hown hK hP hD hS (by decide +kernel) dX0_addWaiting_51 (fun H locs hP hD hS => ?_)
      exact ret_v hx hb hr hlocks hK hP hD hS dX0_addWaiting_54 (upd iw j 1, upd wt ((hN + wN) % 120) (nI j), wN + 1) rfl (Or.inr ⟨c6, n15, rfl, rfl, rfl⟩)
    · -- 15 f lt 
      have n15 : ¬ wN < 120 := fun q => c15 ((nI_ltI (by omega) (by decide)).mpr q)
      exact ret_v hx hb hr hlocks hK hP hD hS dX0_addWaiting_18 (iw, wt, wN) rfl (Or.inl ⟨Or.inr (by omega), rfl, rfl, rfl⟩)

abbrev rm_takeWaiting : Room := { frames := 0, cells := 0, slots := 0, locals := 0 }
theorem in_takeWaiting : ∀ w ∈ u_ws RX0 TX0 18, w ∈ wsX0_takeWaiting := by decide +kernel
set_option maxHeartbeats 4000000 in
set_option maxRecDepth 100000 in
theorem c_takeWaiting {l : Launch} {D : va_G} {h : Nat → Nat} {k : Nat → ClassId} {vc pn sv : Int32} {vP vO vG pD pV pB pX pY rc wt iw : Nat → Int32} {ah be : Nat → Int64} (j hN wN : Nat) (hj : j < 120) (hh : hN < 120) (hw : 0 < wN) (hw2 : wN ≤ 120) (hwt : wt hN = nI j) : ct l yX0_takeWaiting wsX0_takeWaiting rm_takeWaiting D vwCl (pfT k) [.ref (h 0)] (pfW h k vc vP vO vG pn pD pV pB pX pY sv rc ah be wt iw (nI hN) (nI wN)) (qI D vwCl (pfT k) (fun (r : Int32) (u : (Nat → Int32) × Nat × Nat) => r = nI j ∧ u.1 = upd iw j 0 ∧ u.2.1 = (hN + 1) % 120 ∧ u.2.2 = wN - 1) (fun u => pfW h k vc vP vO vG pn pD pV pB pX pY sv rc ah be wt u.1 (nI u.2.1) (nI u.2.2))) 0 0 := by
  refine ct_of (cc := cX0_takeWaiting) (maxL := 2) (ret := some .int) (by decide) rfl (Nat.le_of_ble_eq_true rfl) ?_
  intro p e s m below meth c A ls hx hb hr hml hlocks hown hnm hts hA hK hP hD hS hl
  have hown : s.vm.findClass RX0 = some m.cls := hown
  have hin := in_takeWaiting
  have hl : lv_has ls 2 [(0, .ref (h 0))] := hl
  refine lv_aload_n hx hb dX0_takeWaiting_0 rfl (lv_at hl 0 rfl) ?_
  refine pf_g_wt hx hb hts hin hown hK hP (by decide +kernel) dX0_takeWaiting_1 ?_
  refine lv_aload_n hx hb dX0_takeWaiting_4 rfl (lv_at hl 0 rfl) ?_
  refine pf_g_hd hx hb hts hin hown hK hP (by decide +kernel) dX0_takeWaiting_5 ?_
  refine pf_l_wt (n := hN) hx hb hK hP (hh) dX0_takeWaiting_8 ?_
  refine lv_topi (fun x_1 ex_1 => ?_)
  obtain rfl : x_1 = nI j := ex_1.trans (hwt)
  refine lv_istore_n (lv' := [(1, .int (nI j)), (0, .ref (h 0))]) hx hb dX0_takeWaiting_9 rfl hl (by decide) rfl (fun ls hl => ?_)
  refine lv_aload_n hx hb dX0_takeWaiting_10 rfl (lv_at hl 1 rfl) ?_
  refine lv_aload_n hx hb dX0_takeWaiting_11 rfl (lv_at hl 1 rfl) ?_
  refine pf_g_hd hx hb hts hin hown hK hP (by decide +kernel) dX0_takeWaiting_12 ?_
  refine lv_iconst (v := 1) hx hb dX0_takeWaiting_15 (by decide) ?_
  refine lv_iadd hx hb dX0_takeWaiting_16 ?_
  refine lv_topi (fun x_2 ex_2 => ?_)
  obtain rfl : x_2 = nI (hN + 1) := ex_2.trans (nI_add hN 1)
  refine lv_bipush (v := 120) hx hb dX0_takeWaiting_17 (by decide) ?_
  refine lv_irem hx hb dX0_takeWaiting_19 (by decide) ?_
  refine lv_topi (fun x_3 ex_3 => ?_)
  obtain rfl : x_3 = nI ((hN + 1) % 120) := ex_3.trans (pk_rem (by omega) (by decide) (by decide))
  refine pf_p_hd hx hb hts hin hown hK hP hD hS (by decide +kernel) dX0_takeWaiting_20 (fun H locs hP hD hS => ?_)
  refine lv_aload_n hx hb dX0_takeWaiting_23 rfl (lv_at hl 1 rfl) ?_
  refine lv_dup hx hb dX0_takeWaiting_24 rfl ?_
  refine pf_g_wn hx hb hts hin hown hK hP (by decide +kernel) dX0_takeWaiting_25 ?_
  refine lv_iconst (v := 1) hx hb dX0_takeWaiting_28 (by decide) ?_
  refine lv_isub hx hb dX0_takeWaiting_29 ?_
  refine lv_topi (fun x_4 ex_4 => ?_)
  obtain rfl : x_4 = nI (wN - 1) := ex_4.trans (pk_sub (a := wN) (b := 1) (by omega))
  refine pf_p_wn hx hb hts hin hown hK hP hD hS (by decide +kernel) dX0_takeWaiting_30 (fun H locs hP hD hS => ?_)
  refine lv_aload_n hx hb dX0_takeWaiting_33 rfl (lv_at hl 1 rfl) ?_
  refine pf_g_iw hx hb hts hin hown hK hP (by decide +kernel) dX0_takeWaiting_34 ?_
  refine lv_iload_n hx hb dX0_takeWaiting_37 rfl (lv_at hl 0 rfl) ?_
  refine lv_iconst (v := 0) hx hb dX0_takeWaiting_38 (by decide) ?_
  refine pf_s_iw (n := j) (x := 0) hx hb hK hP hD hS (hj) dX0_takeWaiting_39 (by decide) (fun H locs hP hD hS => ?_)
  refine lv_iload_n hx hb dX0_takeWaiting_40 rfl (lv_at hl 0 rfl) ?_
  exact ret_i hx hb hr hlocks hK hP hD hS dX0_takeWaiting_41 (upd iw j 0, (hN + 1) % 120, wN - 1) rfl (⟨rfl, rfl, rfl, rfl⟩)

abbrev rm_passThrough : Room := { frames := 2, cells := 0, slots := 0, locals := 41 }
theorem in_passThrough : ∀ w ∈ u_ws RX0 TX0 18, w ∈ wsX0_passThrough := by decide +kernel
set_option maxHeartbeats 4000000 in
set_option maxRecDepth 100000 in
theorem lp_pass {p : Program} {l : Launch} {e : Env} {s : State} {m : MethodId} {args : Array Value} {below : List Frame} {meth : Method} {c : Code} {A : Nat → Prop} {Q : State → Prop} {D : va_G} {h : Nat → Nat} {k : Nat → ClassId} {vc pn sv hd wn : Int32} {vP vO vG pD pV pB pX pY rc wt iw : Nat → Int32} {ah : Nat → Int64} {j : Nat} (hx : p.tables.exec = Jvm.exec) (hb : c.code = cX0_passThrough) (hml : c.maxLocals = 10) (hown : s.vm.findClass RX0 = some m.cls) (hts : ∀ w ∈ wsX0_passThrough, w.before args s = true) (hA : ∀ q : Nat, s.heap.size ≤ q → A q) (hK : va_K D vwCl (pfT k) s) (hj : j < 120)
    (kk : ∀ (i : Nat) (be : Nat → Int64) (H : Heap) (locs : List Loc) (ls : Array Slot), (∀ w, w < 6 → be w = ah (j * 6 + w)) → va_P D vwCl (pfW h k vc vP vO vG pn pD pV pB pX pY sv rc ah be wt iw hd wn) H → va_D A (pfW h k vc vP vO vG pn pD pV pB pX pY sv rc ah be wt iw hd wn) → va_S A s.heap H locs → lv_has ls 10 [(0, .ref (h 0)), (1, .int (nI j)), (2, .int (nI (j * 6))), (3, .int (nI i))] → W p l e rm_passThrough s m args below meth c H locs 0 0 Q (F0 m 33 ls [])) :
    ∀ (n : Nat) (i : Nat) (be : Nat → Int64) (H : Heap) (locs : List Loc) (ls : Array Slot), (i ≤ 6) → (∀ w, w < i → be w = ah (j * 6 + w)) → 6 - i < n → va_P D vwCl (pfW h k vc vP vO vG pn pD pV pB pX pY sv rc ah be wt iw hd wn) H → va_D A (pfW h k vc vP vO vG pn pD pV pB pX pY sv rc ah be wt iw hd wn) → va_S A s.heap H locs → lv_has ls 10 [(0, .ref (h 0)), (1, .int (nI j)), (2, .int (nI (j * 6))), (3, .int (nI i))] → W p l e rm_passThrough s m args below meth c H locs 0 0 Q (F0 m 7 ls []) := by
  have hin := in_passThrough
  intro n
  induction n with
  | zero =>
    intro i be H locs ls hi hbe hmz
    exact absurd hmz (Nat.not_lt_zero _)
  | succ n ih =>
    intro i be H locs ls hi hbe hmz hP hD hS hl
    refine lv_iload_n hx hb dX0_passThrough_7 rfl (lv_at hl 3 rfl) ?_
    refine lv_bipush (v := 6) hx hb dX0_passThrough_8 (by decide) ?_
    refine lv_icmp_ge (tgt := 33) hx hb dX0_passThrough_10 (by decide) (fun c10 => ?_) (fun c10 => ?_)
    · -- 10 t ge 
      have n10 : 6 ≤ i := (nI_leI (by decide) (by omega)).mp c10
      exact kk i be H locs ls (fun w hw => hbe w (by omega)) hP hD hS (lv_sub hl [0, 1, 2, 3] rfl)
    · -- 10 f ge 
      have n10 : ¬ 6 ≤ i := fun q => c10 ((nI_leI (by decide) (by omega)).mpr q)
      refine lv_aload_n hx hb dX0_passThrough_13 rfl (lv_at hl 0 rfl) ?_
      refine pf_g_be hx hb hts hin hown hK hP (by decide +kernel) dX0_passThrough_14 ?_
      refine lv_iload_n hx hb dX0_passThrough_17 rfl (lv_at hl 3 rfl) ?_
      refine lv_aload_n hx hb dX0_passThrough_18 rfl (lv_at hl 0 rfl) ?_
      refine pf_g_ah hx hb hts hin hown hK hP (by decide +kernel) dX0_passThrough_19 ?_
      refine lv_iload_n hx hb dX0_passThrough_22 rfl (lv_at hl 2 rfl) ?_
      refine lv_iload_n hx hb dX0_passThrough_23 rfl (lv_at hl 3 rfl) ?_
      refine lv_iadd hx hb dX0_passThrough_24 ?_
      refine lv_topi (fun x_1 ex_1 => ?_)
      obtain rfl : x_1 = nI ((j * 6) + i) := ex_1.trans (nI_add (j * 6) i)
      refine pf_l_ah (n := ((j * 6) + i)) hx hb hK hP (by omega) dX0_passThrough_25 ?_
      refine pf_s_be (n := i) (x := ah ((j * 6) + i)) hx hb hK hP hD hS (by omega) dX0_passThrough_26 (fun H locs hP hD hS => ?_)
      refine lv_iinc (v := nI (i + 1)) (lv' := [(3, .int (nI (i + 1))), (0, .ref (h 0)), (1, .int (nI j)), (2, .int (nI (j * 6)))]) hx hb dX0_passThrough_27 hl (k := 3) rfl (nI_add i 1) (by decide) rfl (fun ls hl => ?_)
      refine lv_goto (tgt := 7) hx hb dX0_passThrough_30 (by decide) ?_
      exact ih (i + 1) (vp_updL be i (ah ((j * 6) + i))) H locs ls (by omega) (cp_s hbe) (by omega) hP hD hS (lv_sub hl [1, 2, 3, 0] rfl)

theorem cp_passThrough_inWord : cpS wsX0_passThrough RX0 145 yX0_inWord wsX0_inWord cX0_inWord 2 (some .long) 2 := ⟨gX0_passThrough_X0_inWord, ⟨_, rfl⟩, by decide +kernel⟩
theorem cp_passThrough_wordOf : cpS wsX0_passThrough RX0 119 yX0_wordOf wsX0_wordOf cX0_wordOf 1 (some .int) 1 := ⟨gX0_passThrough_X0_wordOf, ⟨_, rfl⟩, by decide +kernel⟩
set_option maxHeartbeats 4000000 in
set_option maxRecDepth 100000 in
theorem c_passThrough {l : Launch} {D : va_G} {h : Nat → Nat} {k : Nat → ClassId} {vc pn sv hd wn : Int32} {vP vO vG pD pV pB pX pY rc wt iw : Nat → Int32} {ah be : Nat → Int64} (j : Nat) (hj : j < 120) (hv : pV j = nI (tN (pV j))) (hv2 : tN (pV j) < 20) (hbt : pB j = nI (tN (pB j))) (hbt2 : tN (pB j) < 256) : ct l yX0_passThrough wsX0_passThrough rm_passThrough D vwCl (pfT k) [.ref (h 0), .int (nI j)] (pfW h k vc vP vO vG pn pD pV pB pX pY sv rc ah be wt iw hd wn) (qV D vwCl (pfT k) (fun (u : Nat → Int64) => ∀ w, w < 6 → u w = Tw (pD j) (tN (pV j)) (tN (pB j)) w (ah (j * 6 + w))) (fun u => pfW h k vc vP vO vG pn pD pV pB pX pY sv rc ah u wt iw hd wn)) 0 0 := by
  refine ct_of (cc := cX0_passThrough) (maxL := 10) (ret := none) (by decide) rfl (Nat.le_of_ble_eq_true rfl) ?_
  intro p e s m below meth c A ls hx hb hr hml hlocks hown hnm hts hA hK hP hD hS hl
  have hown : s.vm.findClass RX0 = some m.cls := hown
  have hin := in_passThrough
  have hl : lv_has ls 10 [(0, .ref (h 0)), (1, .int (nI j))] := hl
  refine lv_iload_n hx hb dX0_passThrough_0 rfl (lv_at hl 1 rfl) ?_
  refine lv_bipush (v := 6) hx hb dX0_passThrough_1 (by decide) ?_
  refine lv_imul hx hb dX0_passThrough_3 ?_
  refine lv_topi (fun x_1 ex_1 => ?_)
  obtain rfl : x_1 = nI (j * 6) := ex_1.trans (pk_mul j 6)
  refine lv_istore_n (lv' := [(2, .int (nI (j * 6))), (0, .ref (h 0)), (1, .int (nI j))]) hx hb dX0_passThrough_4 rfl hl (by decide) rfl (fun ls hl => ?_)
  refine lv_iconst (v := nI 0) hx hb dX0_passThrough_5 (by decide) ?_
  refine lv_istore_n (lv' := [(3, .int (nI 0)), (2, .int (nI (j * 6))), (0, .ref (h 0)), (1, .int (nI j))]) hx hb dX0_passThrough_6 rfl hl (by decide) rfl (fun ls hl => ?_)
  refine lp_pass hx hb hml hown hts hA hK hj ?_ _ 0 be _ _ ls (Nat.zero_le _) (fun w hw => absurd hw (Nat.not_lt_zero w)) (Nat.lt_succ_self _) hP hD hS (lv_sub hl [2, 3, 1, 0] rfl)
  intro i be H locs ls hbe hP hD hS hl
  refine lv_aload_n hx hb dX0_passThrough_33 rfl (lv_at hl 0 rfl) ?_
  refine pf_g_pD hx hb hts hin hown hK hP (by decide +kernel) dX0_passThrough_34 ?_
  refine lv_iload_n hx hb dX0_passThrough_37 rfl (lv_at hl 1 rfl) ?_
  refine pf_l_pD (n := j) hx hb hK hP (hj) dX0_passThrough_38 ?_
  refine lv_istore_n (lv' := [(3, .int (pD j)), (0, .ref (h 0)), (1, .int (nI j)), (2, .int (nI (j * 6)))]) hx hb dX0_passThrough_39 rfl hl (by decide) rfl (fun ls hl => ?_)
  refine lv_iload_n hx hb dX0_passThrough_40 rfl (lv_at hl 0 rfl) ?_
  refine lv_if_eq (tgt := 49) hx hb dX0_passThrough_41 (by decide) (fun c41 => ?_) (fun c41 => ?_)
  · -- 41 t eq 
    exact ret_v hx hb hr hlocks hK hP hD hS dX0_passThrough_49 be rfl (fun w hw => by rw [hbe w hw]; unfold Tw; rw [if_pos (Or.inl c41)])
  · -- 41 f eq 
    refine lv_iload_n hx hb dX0_passThrough_44 rfl (lv_at hl 0 rfl) ?_
    refine lv_iconst (v := 3) hx hb dX0_passThrough_45 (by decide) ?_
    refine lv_icmp_ne (tgt := 50) hx hb dX0_passThrough_46 (by decide) (fun c46 => ?_) (fun c46 => ?_)
    · -- 46 t ne 
      refine lv_aload_n hx hb dX0_passThrough_50 rfl (lv_at hl 1 rfl) ?_
      refine pf_g_pV hx hb hts hin hown hK hP (by decide +kernel) dX0_passThrough_51 ?_
      refine lv_iload_n hx hb dX0_passThrough_54 rfl (lv_at hl 2 rfl) ?_
      refine pf_l_pV (n := j) hx hb hK hP (hj) dX0_passThrough_55 ?_
      refine lv_topi (fun x_2 ex_2 => ?_)
      obtain rfl : x_2 = nI (tN (pV j)) := ex_2.trans (hv)
      refine lv_istore (lv' := [(4, .int (nI (tN (pV j)))), (3, .int (pD j)), (0, .ref (h 0)), (1, .int (nI j)), (2, .int (nI (j * 6)))]) hx hb dX0_passThrough_56 hl (by decide) rfl (fun ls hl => ?_)
      refine lv_iload hx hb dX0_passThrough_58 (lv_at hl 0 rfl) ?_
      refine lv_aload_n hx hb dX0_passThrough_60 rfl (lv_at hl 2 rfl) ?_
      refine pf_g_pB hx hb hts hin hown hK hP (by decide +kernel) dX0_passThrough_61 ?_
      refine lv_iload_n hx hb dX0_passThrough_64 rfl (lv_at hl 3 rfl) ?_
      refine pf_l_pB (n := j) hx hb hK hP (hj) dX0_passThrough_65 ?_
      refine lv_topi (fun x_3 ex_3 => ?_)
      obtain rfl : x_3 = nI (tN (pB j)) := ex_3.trans (hbt)
      refine call_sl (As := [.int (nI (tN (pV j))), .int (nI (tN (pB j)))]) (rest := []) ⟨hx, hb, hml, hown, hts⟩ (c_inWord (tN (pV j)) (tN (pB j)) (by omega) (by omega)) cp_passThrough_inWord ⟨rfl, rfl⟩ ⟨Nat.le_of_ble_eq_true rfl, Nat.le_of_ble_eq_true rfl⟩ rfl hl.1 rfl (Nat.le_of_ble_eq_true rfl) dX0_passThrough_66 ⟨Nat.zero_le _, Nat.zero_le _⟩ hK hP hS hA (fun r66 u H locs p66 hP hS => ?_)
      try dsimp only at p66
      obtain rfl := p66
      refine lv_lstore (lv' := [(5, .long (mkw (tN (pV j)) (tN (pB j)))), (4, .int (nI (tN (pV j)))), (3, .int (pD j)), (0, .ref (h 0)), (1, .int (nI j)), (2, .int (nI (j * 6)))]) hx hb dX0_passThrough_69 hl (by decide) rfl (fun ls hl => ?_)
      refine lv_iload hx hb dX0_passThrough_71 (lv_at hl 1 rfl) ?_
      refine call_si (As := [.int (nI (tN (pV j)))]) (rest := []) ⟨hx, hb, hml, hown, hts⟩ (c_wordOf (tN (pV j)) (by omega)) cp_passThrough_wordOf ⟨rfl, rfl⟩ ⟨Nat.le_of_ble_eq_true rfl, Nat.le_of_ble_eq_true rfl⟩ rfl hl.1 rfl (Nat.le_of_ble_eq_true rfl) dX0_passThrough_73 ⟨Nat.zero_le _, Nat.zero_le _⟩ hK hP hS hA (fun r73 u H locs p73 hP hS => ?_)
      try dsimp only at p73
      obtain rfl := p73
      refine lv_istore (lv' := [(7, .int (nI (tN (pV j) / 8))), (5, .long (mkw (tN (pV j)) (tN (pB j)))), (4, .int (nI (tN (pV j)))), (3, .int (pD j)), (0, .ref (h 0)), (1, .int (nI j)), (2, .int (nI (j * 6)))]) hx hb dX0_passThrough_76 hl (by decide) rfl (fun ls hl => ?_)
      refine lv_iload_n hx hb dX0_passThrough_78 rfl (lv_at hl 3 rfl) ?_
      refine lv_iconst (v := 1) hx hb dX0_passThrough_79 (by decide) ?_
      refine lv_icmp_ne (tgt := 87) hx hb dX0_passThrough_80 (by decide) (fun c80 => ?_) (fun c80 => ?_)
      · -- 80 t ne 
        refine lv_iconst (v := nI 0) hx hb dX0_passThrough_87 (by decide) ?_
        refine lv_istore (lv' := [(8, .int (nI 0)), (7, .int (nI (tN (pV j) / 8))), (5, .long (mkw (tN (pV j)) (tN (pB j)))), (4, .int (nI (tN (pV j)))), (3, .int (pD j)), (0, .ref (h 0)), (1, .int (nI j)), (2, .int (nI (j * 6)))]) hx hb dX0_passThrough_88 hl (by decide) rfl (fun ls hl => ?_)
        refine lv_iload_n hx hb dX0_passThrough_90 rfl (lv_at hl 4 rfl) ?_
        refine lv_iconst (v := 1) hx hb dX0_passThrough_91 (by decide) ?_
        refine lv_icmp_ne (tgt := 99) hx hb dX0_passThrough_92 (by decide) (fun c92 => ?_) (fun c92 => ?_)
        · -- 92 t ne 
          refine lv_iconst (v := nI 3) hx hb dX0_passThrough_99 (by decide) ?_
          refine lv_istore (lv' := [(9, .int (nI 3)), (8, .int (nI 0)), (7, .int (nI (tN (pV j) / 8))), (5, .long (mkw (tN (pV j)) (tN (pB j)))), (4, .int (nI (tN (pV j)))), (3, .int (pD j)), (0, .ref (h 0)), (1, .int (nI j)), (2, .int (nI (j * 6)))]) hx hb dX0_passThrough_100 hl (by decide) rfl (fun ls hl => ?_)
          refine lv_aload_n hx hb dX0_passThrough_102 rfl (lv_at hl 6 rfl) ?_
          refine pf_g_be hx hb hts hin hown hK hP (by decide +kernel) dX0_passThrough_103 ?_
          refine lv_iload hx hb dX0_passThrough_106 (lv_at hl 1 rfl) ?_
          refine lv_iload hx hb dX0_passThrough_108 (lv_at hl 2 rfl) ?_
          refine lv_iadd hx hb dX0_passThrough_110 ?_
          refine lv_topi (fun x_4 ex_4 => ?_)
          obtain rfl : x_4 = nI (0 + (tN (pV j) / 8)) := ex_4.trans (nI_add 0 (tN (pV j) / 8))
          refine lv_dup2_11 hx hb dX0_passThrough_111 rfl rfl ?_
          refine pf_l_be (n := (0 + (tN (pV j) / 8))) hx hb hK hP (by omega) dX0_passThrough_112 ?_
          refine lv_lload hx hb dX0_passThrough_113 (lv_at hl 3 rfl) ?_
          refine lv_lor hx hb dX0_passThrough_115 ?_
          refine pf_s_be (n := (0 + (tN (pV j) / 8))) (x := (be (0 + (tN (pV j) / 8))) ||| (mkw (tN (pV j)) (tN (pB j)))) hx hb hK hP hD hS (by omega) dX0_passThrough_116 (fun H locs hP hD hS => ?_)
          refine lv_aload_n hx hb dX0_passThrough_117 rfl (lv_at hl 6 rfl) ?_
          refine pf_g_be hx hb hts hin hown hK hP (by decide +kernel) dX0_passThrough_118 ?_
          refine lv_iload hx hb dX0_passThrough_121 (lv_at hl 0 rfl) ?_
          refine lv_iload hx hb dX0_passThrough_123 (lv_at hl 2 rfl) ?_
          refine lv_iadd hx hb dX0_passThrough_125 ?_
          refine lv_topi (fun x_5 ex_5 => ?_)
          obtain rfl : x_5 = nI (3 + (tN (pV j) / 8)) := ex_5.trans (nI_add 3 (tN (pV j) / 8))
          refine lv_dup2_11 hx hb dX0_passThrough_126 rfl rfl ?_
          refine pf_l_be (n := (3 + (tN (pV j) / 8))) hx hb hK hP (by omega) dX0_passThrough_127 ?_
          refine lv_lload hx hb dX0_passThrough_128 (lv_at hl 3 rfl) ?_
          refine lv_ldc2 (v := (-1)) hx hb hown (hts (.constantLong RX0 149 (-1)) (by decide +kernel)) dX0_passThrough_130 ?_
          refine lv_lxor hx hb dX0_passThrough_133 ?_
          refine lv_land hx hb dX0_passThrough_134 ?_
          refine pf_s_be (n := (3 + (tN (pV j) / 8))) (x := ((vp_updL be (0 + (tN (pV j) / 8)) ((be (0 + (tN (pV j) / 8))) ||| (mkw (tN (pV j)) (tN (pB j))))) (3 + (tN (pV j) / 8))) &&& ((mkw (tN (pV j)) (tN (pB j))) ^^^ (-1))) hx hb hK hP hD hS (by omega) dX0_passThrough_135 (fun H locs hP hD hS => ?_)
          exact ret_v hx hb hr hlocks hK hP hD hS dX0_passThrough_136 (vp_updL (vp_updL be (0 + (tN (pV j) / 8)) ((be (0 + (tN (pV j) / 8))) ||| (mkw (tN (pV j)) (tN (pB j))))) (3 + (tN (pV j) / 8)) (((vp_updL be (0 + (tN (pV j) / 8)) ((be (0 + (tN (pV j) / 8))) ||| (mkw (tN (pV j)) (tN (pB j))))) (3 + (tN (pV j) / 8))) &&& ((mkw (tN (pV j)) (tN (pB j))) ^^^ (-1)))) rfl (pt_end hbe (fun q => q.elim c41 c46) hv2 (by rw [if_neg c80]) (by rw [if_neg c80]))
        · -- 92 f ne 
          exact absurd c92 c80
      · -- 80 f ne 
        refine lv_iconst (v := nI 3) hx hb dX0_passThrough_83 (by decide) ?_
        refine lv_goto (tgt := 88) hx hb dX0_passThrough_84 (by decide) ?_
        refine lv_istore (lv' := [(8, .int (nI 3)), (7, .int (nI (tN (pV j) / 8))), (5, .long (mkw (tN (pV j)) (tN (pB j)))), (4, .int (nI (tN (pV j)))), (3, .int (pD j)), (0, .ref (h 0)), (1, .int (nI j)), (2, .int (nI (j * 6)))]) hx hb dX0_passThrough_88 hl (by decide) rfl (fun ls hl => ?_)
        refine lv_iload_n hx hb dX0_passThrough_90 rfl (lv_at hl 4 rfl) ?_
        refine lv_iconst (v := 1) hx hb dX0_passThrough_91 (by decide) ?_
        refine lv_icmp_ne (tgt := 99) hx hb dX0_passThrough_92 (by decide) (fun c92 => ?_) (fun c92 => ?_)
        · -- 92 t ne 
          exact absurd c80 c92
        · -- 92 f ne 
          refine lv_iconst (v := nI 0) hx hb dX0_passThrough_95 (by decide) ?_
          refine lv_goto (tgt := 100) hx hb dX0_passThrough_96 (by decide) ?_
          refine lv_istore (lv' := [(9, .int (nI 0)), (8, .int (nI 3)), (7, .int (nI (tN (pV j) / 8))), (5, .long (mkw (tN (pV j)) (tN (pB j)))), (4, .int (nI (tN (pV j)))), (3, .int (pD j)), (0, .ref (h 0)), (1, .int (nI j)), (2, .int (nI (j * 6)))]) hx hb dX0_passThrough_100 hl (by decide) rfl (fun ls hl => ?_)
          refine lv_aload_n hx hb dX0_passThrough_102 rfl (lv_at hl 6 rfl) ?_
          refine pf_g_be hx hb hts hin hown hK hP (by decide +kernel) dX0_passThrough_103 ?_
          refine lv_iload hx hb dX0_passThrough_106 (lv_at hl 1 rfl) ?_
          refine lv_iload hx hb dX0_passThrough_108 (lv_at hl 2 rfl) ?_
          refine lv_iadd hx hb dX0_passThrough_110 ?_
          refine lv_topi (fun x_6 ex_6 => ?_)
          obtain rfl : x_6 = nI (3 + (tN (pV j) / 8)) := ex_6.trans (nI_add 3 (tN (pV j) / 8))
          refine lv_dup2_11 hx hb dX0_passThrough_111 rfl rfl ?_
          refine pf_l_be (n := (3 + (tN (pV j) / 8))) hx hb hK hP (by omega) dX0_passThrough_112 ?_
          refine lv_lload hx hb dX0_passThrough_113 (lv_at hl 3 rfl) ?_
          refine lv_lor hx hb dX0_passThrough_115 ?_
          refine pf_s_be (n := (3 + (tN (pV j) / 8))) (x := (be (3 + (tN (pV j) / 8))) ||| (mkw (tN (pV j)) (tN (pB j)))) hx hb hK hP hD hS (by omega) dX0_passThrough_116 (fun H locs hP hD hS => ?_)
          refine lv_aload_n hx hb dX0_passThrough_117 rfl (lv_at hl 6 rfl) ?_
          refine pf_g_be hx hb hts hin hown hK hP (by decide +kernel) dX0_passThrough_118 ?_
          refine lv_iload hx hb dX0_passThrough_121 (lv_at hl 0 rfl) ?_
          refine lv_iload hx hb dX0_passThrough_123 (lv_at hl 2 rfl) ?_
          refine lv_iadd hx hb dX0_passThrough_125 ?_
          refine lv_topi (fun x_7 ex_7 => ?_)
          obtain rfl : x_7 = nI (0 + (tN (pV j) / 8)) := ex_7.trans (nI_add 0 (tN (pV j) / 8))
          refine lv_dup2_11 hx hb dX0_passThrough_126 rfl rfl ?_
          refine pf_l_be (n := (0 + (tN (pV j) / 8))) hx hb hK hP (by omega) dX0_passThrough_127 ?_
          refine lv_lload hx hb dX0_passThrough_128 (lv_at hl 3 rfl) ?_
          refine lv_ldc2 (v := (-1)) hx hb hown (hts (.constantLong RX0 149 (-1)) (by decide +kernel)) dX0_passThrough_130 ?_
          refine lv_lxor hx hb dX0_passThrough_133 ?_
          refine lv_land hx hb dX0_passThrough_134 ?_
          refine pf_s_be (n := (0 + (tN (pV j) / 8))) (x := ((vp_updL be (3 + (tN (pV j) / 8)) ((be (3 + (tN (pV j) / 8))) ||| (mkw (tN (pV j)) (tN (pB j))))) (0 + (tN (pV j) / 8))) &&& ((mkw (tN (pV j)) (tN (pB j))) ^^^ (-1))) hx hb hK hP hD hS (by omega) dX0_passThrough_135 (fun H locs hP hD hS => ?_)
          exact ret_v hx hb hr hlocks hK hP hD hS dX0_passThrough_136 (vp_updL (vp_updL be (3 + (tN (pV j) / 8)) ((be (3 + (tN (pV j) / 8))) ||| (mkw (tN (pV j)) (tN (pB j))))) (0 + (tN (pV j) / 8)) (((vp_updL be (3 + (tN (pV j) / 8)) ((be (3 + (tN (pV j) / 8))) ||| (mkw (tN (pV j)) (tN (pB j))))) (0 + (tN (pV j) / 8))) &&& ((mkw (tN (pV j)) (tN (pB j))) ^^^ (-1)))) rfl (pt_end hbe (fun q => q.elim c41 c46) hv2 (by rw [if_pos c80]) (by rw [if_pos c80]))
    · -- 46 f ne 
      exact ret_v hx hb hr hlocks hK hP hD hS dX0_passThrough_49 be rfl (fun w hw => by rw [hbe w hw]; unfold Tw; rw [if_pos (Or.inr c46)])

abbrev rm_goOnTo : Room := { frames := 1, cells := 0, slots := 0, locals := 21 }
theorem in_goOnTo : ∀ w ∈ u_ws RX0 TX0 18, w ∈ wsX0_goOnTo := by decide +kernel
set_option maxHeartbeats 4000000 in
set_option maxRecDepth 100000 in
theorem lp_go {p : Program} {l : Launch} {e : Env} {s : State} {m : MethodId} {args : Array Value} {below : List Frame} {meth : Method} {c : Code} {A : Nat → Prop} {Q : State → Prop} {D : va_G} {h : Nat → Nat} {k : Nat → ClassId} {vc pn sv hd wn : Int32} {vP vO vG pD pV pB pX pY rc wt iw : Nat → Int32} {be : Nat → Int64} {j : Nat} {ah0 : Nat → Int64} {c0 : Int32} (hx : p.tables.exec = Jvm.exec) (hb : c.code = cX0_goOnTo) (hml : c.maxLocals = 7) (hown : s.vm.findClass RX0 = some m.cls) (hts : ∀ w ∈ wsX0_goOnTo, w.before args s = true) (hA : ∀ q : Nat, s.heap.size ≤ q → A q) (hK : va_K D vwCl (pfT k) s) (hj : j < 120)
    (kk : ∀ (i : Nat) (ch : Int32) (ah : Nat → Int64) (H : Heap) (locs : List Loc) (ls : Array Slot), (Jp be ah0 j 6 ah) → (Jc be ah0 j 6 c0 ch) → va_P D vwCl (pfW h k vc vP vO vG pn pD pV pB pX pY sv rc ah be wt iw hd wn) H → va_D A (pfW h k vc vP vO vG pn pD pV pB pX pY sv rc ah be wt iw hd wn) → va_S A s.heap H locs → lv_has ls 7 [(0, .ref (h 0)), (1, .int (nI j)), (2, .int ch), (3, .int (nI (j * 6))), (4, .int (nI i))] → W p l e rm_goOnTo s m args below meth c H locs 0 0 Q (F0 m 107 ls [])) :
    ∀ (n : Nat) (i : Nat) (ch : Int32) (ah : Nat → Int64) (H : Heap) (locs : List Loc) (ls : Array Slot), (i ≤ 6) → (Jp be ah0 j i ah) → (Jc be ah0 j i c0 ch) → 6 - i < n → va_P D vwCl (pfW h k vc vP vO vG pn pD pV pB pX pY sv rc ah be wt iw hd wn) H → va_D A (pfW h k vc vP vO vG pn pD pV pB pX pY sv rc ah be wt iw hd wn) → va_S A s.heap H locs → lv_has ls 7 [(0, .ref (h 0)), (1, .int (nI j)), (2, .int ch), (3, .int (nI (j * 6))), (4, .int (nI i))] → W p l e rm_goOnTo s m args below meth c H locs 0 0 Q (F0 m 39 ls []) := by
  have hin := in_goOnTo
  intro n
  induction n with
  | zero =>
    intro i ch ah H locs ls hi hJ hC hmz
    exact absurd hmz (Nat.not_lt_zero _)
  | succ n ih =>
    intro i ch ah H locs ls hi hJ hC hmz hP hD hS hl
    refine lv_iload hx hb dX0_goOnTo_39 (lv_at hl 4 rfl) ?_
    refine lv_bipush (v := 6) hx hb dX0_goOnTo_41 (by decide) ?_
    refine lv_icmp_ge (tgt := 107) hx hb dX0_goOnTo_43 (by decide) (fun c43 => ?_) (fun c43 => ?_)
    · -- 43 t ge 
      have n43 : i = 6 := by
        have h6 : 6 ≤ i := (nI_leI (by decide) (by omega)).mp c43
        omega
      exact kk i ch ah H locs ls (n43 ▸ hJ) (n43 ▸ hC) hP hD hS (lv_sub hl [0, 1, 2, 3, 4] rfl)
    · -- 43 f ge 
      have n43 : ¬ 6 ≤ i := fun q => c43 ((nI_leI (by decide) (by omega)).mpr q)
      refine lv_aload_n hx hb dX0_goOnTo_46 rfl (lv_at hl 0 rfl) ?_
      refine pf_g_ah hx hb hts hin hown hK hP (by decide +kernel) dX0_goOnTo_47 ?_
      refine lv_iload_n hx hb dX0_goOnTo_50 rfl (lv_at hl 3 rfl) ?_
      refine lv_iload hx hb dX0_goOnTo_51 (lv_at hl 4 rfl) ?_
      refine lv_iadd hx hb dX0_goOnTo_53 ?_
      refine lv_topi (fun x_1 ex_1 => ?_)
      obtain rfl : x_1 = nI ((j * 6) + i) := ex_1.trans (nI_add (j * 6) i)
      refine pf_l_ah (n := ((j * 6) + i)) hx hb hK hP (by omega) dX0_goOnTo_54 ?_
      refine lv_aload_n hx hb dX0_goOnTo_55 rfl (lv_at hl 0 rfl) ?_
      refine pf_g_be hx hb hts hin hown hK hP (by decide +kernel) dX0_goOnTo_56 ?_
      refine lv_iload hx hb dX0_goOnTo_59 (lv_at hl 4 rfl) ?_
      refine pf_l_be (n := i) hx hb hK hP (by omega) dX0_goOnTo_61 ?_
      refine lv_lor hx hb dX0_goOnTo_62 ?_
      refine lv_lstore (lv' := [(5, .long ((ah ((j * 6) + i)) ||| (be i))), (0, .ref (h 0)), (1, .int (nI j)), (2, .int ch), (3, .int (nI (j * 6))), (4, .int (nI i))]) hx hb dX0_goOnTo_63 hl (by decide) rfl (fun ls hl => ?_)
      refine lv_iload_n hx hb dX0_goOnTo_65 rfl (lv_at hl 3 rfl) ?_
      refine lv_if_ne (tgt := 84) hx hb dX0_goOnTo_66 (by decide) (fun c66 => ?_) (fun c66 => ?_)
      · -- 66 t ne 
        refine lv_iconst (v := 1) hx hb dX0_goOnTo_84 (by decide) ?_
        refine lv_goto (tgt := 89) hx hb dX0_goOnTo_85 (by decide) ?_
        refine lv_istore_n (lv' := [(2, .int 1), (5, .long ((ah ((j * 6) + i)) ||| (be i))), (0, .ref (h 0)), (1, .int (nI j)), (3, .int (nI (j * 6))), (4, .int (nI i))]) hx hb dX0_goOnTo_89 rfl hl (by decide) rfl (fun ls hl => ?_)
        refine lv_aload_n hx hb dX0_goOnTo_90 rfl (lv_at hl 2 rfl) ?_
        refine pf_g_ah hx hb hts hin hown hK hP (by decide +kernel) dX0_goOnTo_91 ?_
        refine lv_iload_n hx hb dX0_goOnTo_94 rfl (lv_at hl 4 rfl) ?_
        refine lv_iload hx hb dX0_goOnTo_95 (lv_at hl 5 rfl) ?_
        refine lv_iadd hx hb dX0_goOnTo_97 ?_
        refine lv_topi (fun x_2 ex_2 => ?_)
        obtain rfl : x_2 = nI ((j * 6) + i) := ex_2.trans (nI_add (j * 6) i)
        refine lv_lload hx hb dX0_goOnTo_98 (lv_at hl 1 rfl) ?_
        refine pf_s_ah (n := ((j * 6) + i)) (x := (ah ((j * 6) + i)) ||| (be i)) hx hb hK hP hD hS (by omega) dX0_goOnTo_100 (fun H locs hP hD hS => ?_)
        refine lv_iinc (v := nI (i + 1)) (lv' := [(4, .int (nI (i + 1))), (2, .int 1), (5, .long ((ah ((j * 6) + i)) ||| (be i))), (0, .ref (h 0)), (1, .int (nI j)), (3, .int (nI (j * 6)))]) hx hb dX0_goOnTo_101 hl (k := 5) rfl (nI_add i 1) (by decide) rfl (fun ls hl => ?_)
        refine lv_goto (tgt := 39) hx hb dX0_goOnTo_104 (by decide) ?_
        exact ih (i + 1) 1 (vp_updL ah ((j * 6) + i) ((ah ((j * 6) + i)) ||| (be i))) H locs ls (by omega) (Jp_s hJ) (Jc_1 hC c66) (by omega) hP hD hS (lv_sub hl [3, 4, 1, 5, 0] rfl)
      · -- 66 f ne 
        refine lv_lload hx hb dX0_goOnTo_69 (lv_at hl 0 rfl) ?_
        refine lv_aload_n hx hb dX0_goOnTo_71 rfl (lv_at hl 1 rfl) ?_
        refine pf_g_ah hx hb hts hin hown hK hP (by decide +kernel) dX0_goOnTo_72 ?_
        refine lv_iload_n hx hb dX0_goOnTo_75 rfl (lv_at hl 4 rfl) ?_
        refine lv_iload hx hb dX0_goOnTo_76 (lv_at hl 5 rfl) ?_
        refine lv_iadd hx hb dX0_goOnTo_78 ?_
        refine lv_topi (fun x_3 ex_3 => ?_)
        obtain rfl : x_3 = nI ((j * 6) + i) := ex_3.trans (nI_add (j * 6) i)
        refine pf_l_ah (n := ((j * 6) + i)) hx hb hK hP (by omega) dX0_goOnTo_79 ?_
        refine W.lcmp hx hb dX0_goOnTo_80 ?_
        refine lv_if_eq (tgt := 88) hx hb dX0_goOnTo_81 (by decide) (fun c81 => ?_) (fun c81 => ?_)
        · -- 81 t eq 
          refine lv_iconst (v := 0) hx hb dX0_goOnTo_88 (by decide) ?_
          refine lv_istore_n (lv' := [(2, .int 0), (5, .long ((ah ((j * 6) + i)) ||| (be i))), (0, .ref (h 0)), (1, .int (nI j)), (3, .int (nI (j * 6))), (4, .int (nI i))]) hx hb dX0_goOnTo_89 rfl hl (by decide) rfl (fun ls hl => ?_)
          refine lv_aload_n hx hb dX0_goOnTo_90 rfl (lv_at hl 2 rfl) ?_
          refine pf_g_ah hx hb hts hin hown hK hP (by decide +kernel) dX0_goOnTo_91 ?_
          refine lv_iload_n hx hb dX0_goOnTo_94 rfl (lv_at hl 4 rfl) ?_
          refine lv_iload hx hb dX0_goOnTo_95 (lv_at hl 5 rfl) ?_
          refine lv_iadd hx hb dX0_goOnTo_97 ?_
          refine lv_topi (fun x_4 ex_4 => ?_)
          obtain rfl : x_4 = nI ((j * 6) + i) := ex_4.trans (nI_add (j * 6) i)
          refine lv_lload hx hb dX0_goOnTo_98 (lv_at hl 1 rfl) ?_
          refine pf_s_ah (n := ((j * 6) + i)) (x := (ah ((j * 6) + i)) ||| (be i)) hx hb hK hP hD hS (by omega) dX0_goOnTo_100 (fun H locs hP hD hS => ?_)
          refine lv_iinc (v := nI (i + 1)) (lv' := [(4, .int (nI (i + 1))), (2, .int 0), (5, .long ((ah ((j * 6) + i)) ||| (be i))), (0, .ref (h 0)), (1, .int (nI j)), (3, .int (nI (j * 6)))]) hx hb dX0_goOnTo_101 hl (k := 5) rfl (nI_add i 1) (by decide) rfl (fun ls hl => ?_)
          refine lv_goto (tgt := 39) hx hb dX0_goOnTo_104 (by decide) ?_
          exact ih (i + 1) 0 (vp_updL ah ((j * 6) + i) ((ah ((j * 6) + i)) ||| (be i))) H locs ls (by omega) (Jp_s hJ) (Jc_3 hJ hC c66 c81) (by omega) hP hD hS (lv_sub hl [3, 4, 1, 5, 0] rfl)
        · -- 81 f eq 
          refine lv_iconst (v := 1) hx hb dX0_goOnTo_84 (by decide) ?_
          refine lv_goto (tgt := 89) hx hb dX0_goOnTo_85 (by decide) ?_
          refine lv_istore_n (lv' := [(2, .int 1), (5, .long ((ah ((j * 6) + i)) ||| (be i))), (0, .ref (h 0)), (1, .int (nI j)), (3, .int (nI (j * 6))), (4, .int (nI i))]) hx hb dX0_goOnTo_89 rfl hl (by decide) rfl (fun ls hl => ?_)
          refine lv_aload_n hx hb dX0_goOnTo_90 rfl (lv_at hl 2 rfl) ?_
          refine pf_g_ah hx hb hts hin hown hK hP (by decide +kernel) dX0_goOnTo_91 ?_
          refine lv_iload_n hx hb dX0_goOnTo_94 rfl (lv_at hl 4 rfl) ?_
          refine lv_iload hx hb dX0_goOnTo_95 (lv_at hl 5 rfl) ?_
          refine lv_iadd hx hb dX0_goOnTo_97 ?_
          refine lv_topi (fun x_5 ex_5 => ?_)
          obtain rfl : x_5 = nI ((j * 6) + i) := ex_5.trans (nI_add (j * 6) i)
          refine lv_lload hx hb dX0_goOnTo_98 (lv_at hl 1 rfl) ?_
          refine pf_s_ah (n := ((j * 6) + i)) (x := (ah ((j * 6) + i)) ||| (be i)) hx hb hK hP hD hS (by omega) dX0_goOnTo_100 (fun H locs hP hD hS => ?_)
          refine lv_iinc (v := nI (i + 1)) (lv' := [(4, .int (nI (i + 1))), (2, .int 1), (5, .long ((ah ((j * 6) + i)) ||| (be i))), (0, .ref (h 0)), (1, .int (nI j)), (3, .int (nI (j * 6)))]) hx hb dX0_goOnTo_101 hl (k := 5) rfl (nI_add i 1) (by decide) rfl (fun ls hl => ?_)
          refine lv_goto (tgt := 39) hx hb dX0_goOnTo_104 (by decide) ?_
          exact ih (i + 1) 1 (vp_updL ah ((j * 6) + i) ((ah ((j * 6) + i)) ||| (be i))) H locs ls (by omega) (Jp_s hJ) (Jc_2 hJ c81 (ch := ch)) (by omega) hP hD hS (lv_sub hl [3, 4, 1, 5, 0] rfl)

theorem cp_goOnTo_addWaiting : cpV wsX0_goOnTo RX0 151 RX0 yX0_addWaiting wsX0_addWaiting cX0_addWaiting 2 none 1 := ⟨gX0_goOnTo_X0_addWaiting, ⟨_, rfl⟩, by decide +kernel⟩
theorem cp_goOnTo_isPoint : cpV wsX0_goOnTo RX0 70 RX0 yX0_isPoint wsX0_isPoint cX0_isPoint 2 (some .boolean) 1 := ⟨gX0_goOnTo_X0_isPoint, ⟨_, rfl⟩, by decide +kernel⟩
set_option maxHeartbeats 4000000 in
set_option maxRecDepth 100000 in
theorem c_goOnTo {l : Launch} {D : va_G} {h : Nat → Nat} {k : Nat → ClassId} {vc sv : Int32} {vP vO vG pD pV pB pX pY rc wt iw : Nat → Int32} {ah be : Nat → Int64} (x : Int32) (np hN wN : Nat) (hn : np ≤ 120) (hh : hN < 120) (hw : wN ≤ 120) : ct l yX0_goOnTo wsX0_goOnTo rm_goOnTo D vwCl (pfT k) [.ref (h 0), .int x] (pfW h k vc vP vO vG (nI np) pD pV pB pX pY sv rc ah be wt iw (nI hN) (nI wN)) (qV D vwCl (pfT k) (fun (u : (Nat → Int32) × (Nat → Int32) × (Nat → Int32) × (Nat → Int64) × Nat) => GoX np be x rc iw wt ah hN wN u.1 u.2.1 u.2.2.1 u.2.2.2.1 u.2.2.2.2) (fun u => pfW h k vc vP vO vG (nI np) pD pV pB pX pY sv u.1 u.2.2.2.1 be u.2.2.1 u.2.1 (nI hN) (nI u.2.2.2.2))) 0 0 := by
  refine ct_of (cc := cX0_goOnTo) (maxL := 7) (ret := none) (by decide) rfl (Nat.le_of_ble_eq_true rfl) ?_
  intro p e s m below meth c A ls hx hb hr hml hlocks hown hnm hts hA hK hP hD hS hl
  have hown : s.vm.findClass RX0 = some m.cls := hown
  have hin := in_goOnTo
  have hl : lv_has ls 7 [(0, .ref (h 0)), (1, .int x)] := hl
  refine lv_aload_n hx hb dX0_goOnTo_0 rfl (lv_at hl 0 rfl) ?_
  refine lv_iload_n hx hb dX0_goOnTo_1 rfl (lv_at hl 1 rfl) ?_
  refine call_vi (As := [.int x]) (rest := []) ⟨hx, hb, hml, hown, hts⟩ (c_isPoint x) cp_goOnTo_isPoint ⟨rfl, rfl⟩ ⟨Nat.le_of_ble_eq_true rfl, Nat.le_of_ble_eq_true rfl⟩ rfl rfl 0 rfl rfl hl.1 rfl (Nat.le_of_ble_eq_true rfl) dX0_goOnTo_2 ⟨Nat.zero_le _, Nat.zero_le _⟩ hK hP hD hS hA (fun r2 u H locs p2 hP hD hS => ?_)
  try dsimp only at p2
  refine lv_if_ne (tgt := 9) hx hb dX0_goOnTo_5 (by decide) (fun c5 => ?_) (fun c5 => ?_)
  · -- 5 t ne 
    obtain ⟨j, hj, rfl⟩ := pt_in rfl hn p2 c5
    refine lv_aload_n hx hb dX0_goOnTo_9 rfl (lv_at hl 0 rfl) ?_
    refine pf_g_rc hx hb hts hin hown hK hP (by decide +kernel) dX0_goOnTo_10 ?_
    refine lv_iload_n hx hb dX0_goOnTo_13 rfl (lv_at hl 1 rfl) ?_
    refine pf_l_rc (n := j) hx hb hK hP (by omega) dX0_goOnTo_14 ?_
    refine lv_if_ne (tgt := 22) hx hb dX0_goOnTo_15 (by decide) (fun c15 => ?_) (fun c15 => ?_)
    · -- 15 t ne 
      refine lv_iconst (v := 0) hx hb dX0_goOnTo_22 (by decide) ?_
      refine lv_istore_n (lv' := [(2, .int 0), (0, .ref (h 0)), (1, .int (nI j))]) hx hb dX0_goOnTo_23 rfl hl (by decide) rfl (fun ls hl => ?_)
      refine lv_aload_n hx hb dX0_goOnTo_24 rfl (lv_at hl 1 rfl) ?_
      refine pf_g_rc hx hb hts hin hown hK hP (by decide +kernel) dX0_goOnTo_25 ?_
      refine lv_iload_n hx hb dX0_goOnTo_28 rfl (lv_at hl 2 rfl) ?_
      refine lv_iconst (v := 1) hx hb dX0_goOnTo_29 (by decide) ?_
      refine pf_s_rc (n := j) (x := 1) hx hb hK hP hD hS (by omega) dX0_goOnTo_30 (by decide) (fun H locs hP hD hS => ?_)
      refine lv_iload_n hx hb dX0_goOnTo_31 rfl (lv_at hl 2 rfl) ?_
      refine lv_bipush (v := 6) hx hb dX0_goOnTo_32 (by decide) ?_
      refine lv_imul hx hb dX0_goOnTo_34 ?_
      refine lv_topi (fun x_1 ex_1 => ?_)
      obtain rfl : x_1 = nI (j * 6) := ex_1.trans (pk_mul j 6)
      refine lv_istore_n (lv' := [(3, .int (nI (j * 6))), (2, .int 0), (0, .ref (h 0)), (1, .int (nI j))]) hx hb dX0_goOnTo_35 rfl hl (by decide) rfl (fun ls hl => ?_)
      refine lv_iconst (v := nI 0) hx hb dX0_goOnTo_36 (by decide) ?_
      refine lv_istore (lv' := [(4, .int (nI 0)), (3, .int (nI (j * 6))), (2, .int 0), (0, .ref (h 0)), (1, .int (nI j))]) hx hb dX0_goOnTo_37 hl (by decide) rfl (fun ls hl => ?_)
      refine lp_go hx hb hml hown hts hA hK (j := j) (ah0 := ah) (c0 := 0) (by omega) ?_ _ 0 0 ah _ _ ls (Nat.zero_le _) (Jp_0) (Jc_0 (by decide)) (Nat.lt_succ_self _) hP hD hS (lv_sub hl [3, 4, 2, 1, 0] rfl)
      intro i1 ch1 ah1 H locs ls hJ hC hP hD hS hl
      refine lv_iload_n hx hb dX0_goOnTo_107 rfl (lv_at hl 2 rfl) ?_
      refine lv_if_eq (tgt := 116) hx hb dX0_goOnTo_108 (by decide) (fun c108 => ?_) (fun c108 => ?_)
      · -- 108 t eq 
        exact ret_v hx hb hr hlocks hK hP hD hS dX0_goOnTo_116 (upd rc j 1, iw, wt, ah1, wN) rfl (Or.inl ⟨j, hj, rfl, Jp_Jn hJ, Or.inl ⟨Jc_no hC (fun _ => c15) c108, rfl, rfl, rfl⟩⟩)
      · -- 108 f eq 
        refine lv_aload_n hx hb dX0_goOnTo_111 rfl (lv_at hl 0 rfl) ?_
        refine lv_iload_n hx hb dX0_goOnTo_112 rfl (lv_at hl 1 rfl) ?_
        refine call_vv (As := [.int (nI j)]) (rest := []) ⟨hx, hb, hml, hown, hts⟩ (c_addWaiting j hN wN (by omega) hh hw) cp_goOnTo_addWaiting ⟨rfl, rfl⟩ ⟨Nat.le_of_ble_eq_true rfl, Nat.le_of_ble_eq_true rfl⟩ rfl rfl 0 rfl rfl hl.1 rfl (Nat.le_of_ble_eq_true rfl) dX0_goOnTo_113 ⟨Nat.zero_le _, Nat.zero_le _⟩ hK hP hD hS hA (fun u H locs p113 hP hD hS => ?_)
        obtain ⟨iw_113, wt_113, wn_113⟩ := u
        have hP : va_P D vwCl (pfW h k vc vP vO vG (nI np) pD pV pB pX pY sv (upd rc j 1) ah1 be wt_113 iw_113 (nI hN) (nI wn_113)) H := hP
        have hD : va_D A (pfW h k vc vP vO vG (nI np) pD pV pB pX pY sv (upd rc j 1) ah1 be wt_113 iw_113 (nI hN) (nI wn_113)) := hD
        try dsimp only at p113
        exact ret_v hx hb hr hlocks hK hP hD hS dX0_goOnTo_116 (upd rc j 1, iw_113, wt_113, ah1, wn_113) rfl (Or.inl ⟨j, hj, rfl, Jp_Jn hJ, Or.inr ⟨Jc_yes hC (fun z => absurd z (by decide)) c108, p113⟩⟩)
    · -- 15 f ne 
      refine lv_iconst (v := 1) hx hb dX0_goOnTo_18 (by decide) ?_
      refine lv_goto (tgt := 23) hx hb dX0_goOnTo_19 (by decide) ?_
      refine lv_istore_n (lv' := [(2, .int 1), (0, .ref (h 0)), (1, .int (nI j))]) hx hb dX0_goOnTo_23 rfl hl (by decide) rfl (fun ls hl => ?_)
      refine lv_aload_n hx hb dX0_goOnTo_24 rfl (lv_at hl 1 rfl) ?_
      refine pf_g_rc hx hb hts hin hown hK hP (by decide +kernel) dX0_goOnTo_25 ?_
      refine lv_iload_n hx hb dX0_goOnTo_28 rfl (lv_at hl 2 rfl) ?_
      refine lv_iconst (v := 1) hx hb dX0_goOnTo_29 (by decide) ?_
      refine pf_s_rc (n := j) (x := 1) hx hb hK hP hD hS (by omega) dX0_goOnTo_30 (by decide) (fun H locs hP hD hS => ?_)
      refine lv_iload_n hx hb dX0_goOnTo_31 rfl (lv_at hl 2 rfl) ?_
      refine lv_bipush (v := 6) hx hb dX0_goOnTo_32 (by decide) ?_
      refine lv_imul hx hb dX0_goOnTo_34 ?_
      refine lv_topi (fun x_2 ex_2 => ?_)
      obtain rfl : x_2 = nI (j * 6) := ex_2.trans (pk_mul j 6)
      refine lv_istore_n (lv' := [(3, .int (nI (j * 6))), (2, .int 1), (0, .ref (h 0)), (1, .int (nI j))]) hx hb dX0_goOnTo_35 rfl hl (by decide) rfl (fun ls hl => ?_)
      refine lv_iconst (v := nI 0) hx hb dX0_goOnTo_36 (by decide) ?_
      refine lv_istore (lv' := [(4, .int (nI 0)), (3, .int (nI (j * 6))), (2, .int 1), (0, .ref (h 0)), (1, .int (nI j))]) hx hb dX0_goOnTo_37 hl (by decide) rfl (fun ls hl => ?_)
      refine lp_go hx hb hml hown hts hA hK (j := j) (ah0 := ah) (c0 := 1) (by omega) ?_ _ 0 1 ah _ _ ls (Nat.zero_le _) (Jp_0) (Jc_0 (by decide)) (Nat.lt_succ_self _) hP hD hS (lv_sub hl [3, 4, 2, 1, 0] rfl)
      intro i1 ch1 ah1 H locs ls hJ hC hP hD hS hl
      refine lv_iload_n hx hb dX0_goOnTo_107 rfl (lv_at hl 2 rfl) ?_
      refine lv_if_eq (tgt := 116) hx hb dX0_goOnTo_108 (by decide) (fun c108 => ?_) (fun c108 => ?_)
      · -- 108 t eq 
        exact ret_v hx hb hr hlocks hK hP hD hS dX0_goOnTo_116 (upd rc j 1, iw, wt, ah1, wN) rfl (Or.inl ⟨j, hj, rfl, Jp_Jn hJ, Or.inl ⟨Jc_no hC (fun z => absurd z (by decide)) c108, rfl, rfl, rfl⟩⟩)
      · -- 108 f eq 
        refine lv_aload_n hx hb dX0_goOnTo_111 rfl (lv_at hl 0 rfl) ?_
        refine lv_iload_n hx hb dX0_goOnTo_112 rfl (lv_at hl 1 rfl) ?_
        refine call_vv (As := [.int (nI j)]) (rest := []) ⟨hx, hb, hml, hown, hts⟩ (c_addWaiting j hN wN (by omega) hh hw) cp_goOnTo_addWaiting ⟨rfl, rfl⟩ ⟨Nat.le_of_ble_eq_true rfl, Nat.le_of_ble_eq_true rfl⟩ rfl rfl 0 rfl rfl hl.1 rfl (Nat.le_of_ble_eq_true rfl) dX0_goOnTo_113 ⟨Nat.zero_le _, Nat.zero_le _⟩ hK hP hD hS hA (fun u H locs p113 hP hD hS => ?_)
        obtain ⟨iw_113, wt_113, wn_113⟩ := u
        have hP : va_P D vwCl (pfW h k vc vP vO vG (nI np) pD pV pB pX pY sv (upd rc j 1) ah1 be wt_113 iw_113 (nI hN) (nI wn_113)) H := hP
        have hD : va_D A (pfW h k vc vP vO vG (nI np) pD pV pB pX pY sv (upd rc j 1) ah1 be wt_113 iw_113 (nI hN) (nI wn_113)) := hD
        try dsimp only at p113
        exact ret_v hx hb hr hlocks hK hP hD hS dX0_goOnTo_116 (upd rc j 1, iw_113, wt_113, ah1, wn_113) rfl (Or.inl ⟨j, hj, rfl, Jp_Jn hJ, Or.inr ⟨Jc_yes hC (fun _ => c15) c108, p113⟩⟩)
  · -- 5 f ne 
    exact ret_v hx hb hr hlocks hK hP hD hS dX0_goOnTo_8 (rc, iw, wt, ah, wN) rfl (Or.inr ⟨pt_out rfl hn p2 c5, rfl, rfl, rfl, rfl, rfl⟩)

