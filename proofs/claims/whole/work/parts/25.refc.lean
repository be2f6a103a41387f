abbrev rr_isReached : Room := { frames := 3, cells := 0, slots := 0, locals := 69 }
theorem ri_isReached : ∀ w ∈ u_ws RX1 TX1 14, w ∈ wsX1_isReached := by decide +kernel
theorem rp_isReached_go : cpV wsX1_isReached RX1 65 RX1 yX1_go wsX1_go cX1_go 7 none 2 := ⟨gX1_isReached_X1_go, ⟨_, rfl⟩, by decide +kernel⟩
theorem rp_isReached_isPoint : cpV wsX1_isReached RX1 55 RX1 yX1_isPoint wsX1_isPoint cX1_isPoint 2 (some .boolean) 1 := ⟨gX1_isReached_X1_isPoint, ⟨_, rfl⟩, by decide +kernel⟩
set_option maxHeartbeats 4000000 in
set_option maxRecDepth 100000 in
theorem r_isReached {l : Launch} {D : va_G} {h : Nat → Nat} {k : Nat → ClassId} {vP vO vG pD mV mF mM pX pY se pl : Nat → Int32} (nv np hN : Nat) (x : Int32) (hi : RI nv np vP pD mV) : ct l yX1_isReached wsX1_isReached rr_isReached D vwCl (rfT k) [.ref (h 0), .int x] (rfW h k (nI nv) vP vO vG (nI np) pD mV mF mM pX pY se pl (nI hN)) (qI D vwCl (rfT k) (fun (r : Int32) (u : (Nat → Int32) × (Nat → Int32) × Nat) => ((∀ j, j < np → ¬ x = nI j) ∧ r = 0) ∨ ∃ j, j < np ∧ x = nI j ∧ ((r = 1 ∧ rch (ed pX pY np) np j) ∨ (r = 0 ∧ ¬ rch (ed pX pY np) np j))) (fun u => rfW h k (nI nv) vP vO vG (nI np) pD mV mF mM pX pY u.1 u.2.1 (nI u.2.2))) 0 0 := by
  refine ct_of (cc := cX1_isReached) (maxL := 2) (ret := some .boolean) (by decide) rfl (Nat.le_of_ble_eq_true rfl) ?_
  intro p e s m below meth c A ls hx hb hr hml hlocks hown hnm hts hA hK hP hD hS hl
  have hown : s.vm.findClass RX1 = some m.cls := hown
  have hin := ri_isReached
  have hl : lv_has ls 2 [(0, .ref (h 0)), (1, .int x)] := hl
  have hnv : nv ≤ 20 := hi.1
  have hn : np ≤ 120 := hi.2.1
  refine lv_aload_n hx hb dX1_isReached_0 rfl (lv_at hl 0 rfl) ?_
  refine lv_bipush (v := (-2)) hx hb dX1_isReached_1 (by decide) ?_
  refine lv_iconst (v := nI 0) hx hb dX1_isReached_3 (by decide) ?_
  refine call_vv (As := [.int (-2), .int (nI 0)]) (rest := []) ⟨hx, hb, hml, hown, hts⟩ (r_go (-2) nv np 0 hN hnv hn) rp_isReached_go ⟨rfl, rfl⟩ ⟨Nat.le_of_ble_eq_true rfl, Nat.le_of_ble_eq_true rfl⟩ rfl rfl 0 rfl rfl hl.1 rfl (Nat.le_of_ble_eq_true rfl) dX1_isReached_4 ⟨Nat.zero_le _, Nat.zero_le _⟩ hK hP hD hS hA (fun u H locs p4 hP hD hS => ?_)
  obtain ⟨se_4, pl_4, hg_4⟩ := u
  have hP : va_P D vwCl (rfW h k (nI nv) vP vO vG (nI np) pD mV mF mM pX pY se_4 pl_4 (nI hg_4)) H := hP
  have hD : va_D A (rfW h k (nI nv) vP vO vG (nI np) pD mV mF mM pX pY se_4 pl_4 (nI hg_4)) := hD
  try dsimp only at p4
  refine lv_aload_n hx hb dX1_isReached_7 rfl (lv_at hl 0 rfl) ?_
  refine lv_iload_n hx hb dX1_isReached_8 rfl (lv_at hl 1 rfl) ?_
  refine call_vi (As := [.int x]) (rest := []) ⟨hx, hb, hml, hown, hts⟩ (r_isPoint x) rp_isReached_isPoint ⟨rfl, rfl⟩ ⟨Nat.le_of_ble_eq_true rfl, Nat.le_of_ble_eq_true rfl⟩ rfl rfl 0 rfl rfl hl.1 rfl (Nat.le_of_ble_eq_true rfl) dX1_isReached_9 ⟨Nat.zero_le _, Nat.zero_le _⟩ hK hP hD hS hA (fun r9 u H locs p9 hP hD hS => ?_)
  try dsimp only at p9
  refine lv_if_eq (tgt := 43) hx hb dX1_isReached_12 (by decide) (fun c12 => ?_) (fun c12 => ?_)
  · -- 12 t eq 
    refine lv_iconst (v := 0) hx hb dX1_isReached_43 (by decide) ?_
    exact ret_z hx hb hr hlocks hK hP hD hS dX1_isReached_44 (se_4, pl_4, hg_4) rfl (by decide) (Or.inl ⟨pt_out rfl hn p9 c12, rfl⟩)
  · -- 12 f eq 
    obtain ⟨j, hj, rfl⟩ := pt_in rfl hn p9 c12
    refine lv_aload_n hx hb dX1_isReached_15 rfl (lv_at hl 0 rfl) ?_
    refine rf_g_se hx hb hts hin hown hK hP (by decide +kernel) dX1_isReached_16 ?_
    refine lv_iconst (v := 2) hx hb dX1_isReached_19 (by decide) ?_
    refine lv_iload_n hx hb dX1_isReached_20 rfl (lv_at hl 1 rfl) ?_
    refine lv_imul hx hb dX1_isReached_21 ?_
    refine lv_topi (fun x_1 ex_1 => ?_)
    obtain rfl : x_1 = nI (2 * j) := ex_1.trans (pk_mul 2 j)
    refine rf_l_se (n := (2 * j)) hx hb hK hP (by omega) dX1_isReached_22 ?_
    refine lv_if_ne (tgt := 39) hx hb dX1_isReached_23 (by decide) (fun c23 => ?_) (fun c23 => ?_)
    · -- 23 t ne 
      refine lv_iconst (v := 1) hx hb dX1_isReached_39 (by decide) ?_
      refine lv_goto (tgt := 44) hx hb dX1_isReached_40 (by decide) ?_
      exact ret_z hx hb hr hlocks hK hP hD hS dX1_isReached_44 (se_4, pl_4, hg_4) rfl (by decide) (Or.inr ⟨j, hj, rfl, Or.inl ⟨rfl, (p4.2.2 j hj).mpr (Or.inl (se_no p4.1 (by omega) c23))⟩⟩)
    · -- 23 f ne 
      refine lv_aload_n hx hb dX1_isReached_26 rfl (lv_at hl 0 rfl) ?_
      refine rf_g_se hx hb hts hin hown hK hP (by decide +kernel) dX1_isReached_27 ?_
      refine lv_iconst (v := 2) hx hb dX1_isReached_30 (by decide) ?_
      refine lv_iload_n hx hb dX1_isReached_31 rfl (lv_at hl 1 rfl) ?_
      refine lv_imul hx hb dX1_isReached_32 ?_
      refine lv_topi (fun x_2 ex_2 => ?_)
      obtain rfl : x_2 = nI (2 * j) := ex_2.trans (pk_mul 2 j)
      refine lv_iconst (v := 1) hx hb dX1_isReached_33 (by decide) ?_
      refine lv_iadd hx hb dX1_isReached_34 ?_
      refine lv_topi (fun x_3 ex_3 => ?_)
      obtain rfl : x_3 = nI ((2 * j) + 1) := ex_3.trans (nI_add (2 * j) 1)
      refine rf_l_se (n := ((2 * j) + 1)) hx hb hK hP (by omega) dX1_isReached_35 ?_
      refine lv_if_eq (tgt := 43) hx hb dX1_isReached_36 (by decide) (fun c36 => ?_) (fun c36 => ?_)
      · -- 36 t eq 
        refine lv_iconst (v := 0) hx hb dX1_isReached_43 (by decide) ?_
        exact ret_z hx hb hr hlocks hK hP hD hS dX1_isReached_44 (se_4, pl_4, hg_4) rfl (by decide) (Or.inr ⟨j, hj, rfl, Or.inr ⟨rfl, fun z => ((p4.2.2 j hj).mp z).elim (se_z c23) (se_z c36)⟩⟩)
      · -- 36 f eq 
        refine lv_iconst (v := 1) hx hb dX1_isReached_39 (by decide) ?_
        refine lv_goto (tgt := 44) hx hb dX1_isReached_40 (by decide) ?_
        exact ret_z hx hb hr hlocks hK hP hD hS dX1_isReached_44 (se_4, pl_4, hg_4) rfl (by decide) (Or.inr ⟨j, hj, rfl, Or.inl ⟨rfl, (p4.2.2 j hj).mpr (Or.inr (se_no p4.1 (by omega) c36))⟩⟩)

abbrev rr_bits : Room := { frames := 3, cells := 0, slots := 0, locals := 69 }
theorem ri_bits : ∀ w ∈ u_ws RX1 TX1 14, w ∈ wsX1_bits := by decide +kernel
theorem rp_bits_go : cpV wsX1_bits RX1 65 RX1 yX1_go wsX1_go cX1_go 7 none 2 := ⟨gX1_bits_X1_go, ⟨_, rfl⟩, by decide +kernel⟩
theorem rp_bits_isPoint : cpV wsX1_bits RX1 55 RX1 yX1_isPoint wsX1_isPoint cX1_isPoint 2 (some .boolean) 1 := ⟨gX1_bits_X1_isPoint, ⟨_, rfl⟩, by decide +kernel⟩
theorem rp_bits_isVariable : cpV wsX1_bits RX1 51 RX1 yX1_isVariable wsX1_isVariable cX1_isVariable 2 (some .boolean) 1 := ⟨gX1_bits_X1_isVariable, ⟨_, rfl⟩, by decide +kernel⟩
set_option maxHeartbeats 4000000 in
set_option maxRecDepth 100000 in
theorem lq_bt {p : Program} {l : Launch} {e : Env} {s : State} {m : MethodId} {args : Array Value} {below : List Frame} {meth : Method} {c : Code} {A : Nat → Prop} {Q : State → Prop} {D : va_G} {h : Nat → Nat} {k : Nat → ClassId} {vP vO vG pD mV mF mM pX pY : Nat → Int32} {nv np j v w : Nat} (hx : p.tables.exec = Jvm.exec) (hb : c.code = cX1_bits) (hml : c.maxLocals = 6) (hown : s.vm.findClass RX1 = some m.cls) (hts : ∀ w ∈ wsX1_bits, w.before args s = true) (hA : ∀ q : Nat, s.heap.size ≤ q → A q) (hK : va_K D vwCl (rfT k) s) (hnv : nv ≤ 20) (hn : np ≤ 120) (hj : j < np) (hv : v < nv) (hw : w < 2) (hvp : vP v = nI (tN (vP v))) (hvp8 : tN (vP v) ≤ 8)
    (kk : ∀ (i : Nat) (se : Nat → Int32) (pl : Nat → Int32) (hN : Nat) (H : Heap) (locs : List Loc) (ls : Array Slot), (i = tN (vP v)) → va_P D vwCl (rfW h k (nI nv) vP vO vG (nI np) pD mV mF mM pX pY se pl (nI hN)) H → va_D A (rfW h k (nI nv) vP vO vG (nI np) pD mV mF mM pX pY se pl (nI hN)) → va_S A s.heap H locs → lv_has ls 6 [(0, .ref (h 0)), (1, .int (nI j)), (2, .int (nI v)), (3, .int (nI w)), (4, .int (nI (bxr (fun t => tb (MR nv np vG pD mV mF mM pX pY (nI v) t w j)) i))), (5, .int (nI i))] → W p l e rr_bits s m args below meth c H locs 0 0 Q (F0 m 73 ls [])) :
    ∀ (n : Nat) (i : Nat) (se : Nat → Int32) (pl : Nat → Int32) (hN : Nat) (H : Heap) (locs : List Loc) (ls : Array Slot), (i ≤ tN (vP v)) → tN (vP v) - i < n → va_P D vwCl (rfW h k (nI nv) vP vO vG (nI np) pD mV mF mM pX pY se pl (nI hN)) H → va_D A (rfW h k (nI nv) vP vO vG (nI np) pD mV mF mM pX pY se pl (nI hN)) → va_S A s.heap H locs → lv_has ls 6 [(0, .ref (h 0)), (1, .int (nI j)), (2, .int (nI v)), (3, .int (nI w)), (4, .int (nI (bxr (fun t => tb (MR nv np vG pD mV mF mM pX pY (nI v) t w j)) i))), (5, .int (nI i))] → W p l e rr_bits s m args below meth c H locs 0 0 Q (F0 m 6 ls []) := by
  have hin := ri_bits
  intro n
  induction n with
  | zero =>
    intro i se pl hN H locs ls hi hmz
    exact absurd hmz (Nat.not_lt_zero _)
  | succ n ih =>
    intro i se pl hN H locs ls hi hmz hP hD hS hl
    refine lv_aload_n hx hb dX1_bits_6 rfl (lv_at hl 0 rfl) ?_
    refine lv_iload_n hx hb dX1_bits_7 rfl (lv_at hl 1 rfl) ?_
    refine call_vi (As := [.int (nI j)]) (rest := []) ⟨hx, hb, hml, hown, hts⟩ (r_isPoint (nI j)) rp_bits_isPoint ⟨rfl, rfl⟩ ⟨Nat.le_of_ble_eq_true rfl, Nat.le_of_ble_eq_true rfl⟩ rfl rfl 0 rfl rfl hl.1 rfl (Nat.le_of_ble_eq_true rfl) dX1_bits_8 ⟨Nat.zero_le _, Nat.zero_le _⟩ hK hP hD hS hA (fun r8 u H locs p8 hP hD hS => ?_)
    try dsimp only at p8
    refine lv_if_eq (tgt := 73) hx hb dX1_bits_11 (by decide) (fun c11 => ?_) (fun c11 => ?_)
    · -- 11 t eq 
      exact absurd rfl (pt_out rfl hn p8 c11 j hj)
    · -- 11 f eq 
      refine lv_aload_n hx hb dX1_bits_14 rfl (lv_at hl 0 rfl) ?_
      refine lv_iload_n hx hb dX1_bits_15 rfl (lv_at hl 2 rfl) ?_
      refine call_vi (As := [.int (nI v)]) (rest := []) ⟨hx, hb, hml, hown, hts⟩ (r_isVariable (nI v)) rp_bits_isVariable ⟨rfl, rfl⟩ ⟨Nat.le_of_ble_eq_true rfl, Nat.le_of_ble_eq_true rfl⟩ rfl rfl 0 rfl rfl hl.1 rfl (Nat.le_of_ble_eq_true rfl) dX1_bits_16 ⟨Nat.zero_le _, Nat.zero_le _⟩ hK hP hD hS hA (fun r16 u H locs p16 hP hD hS => ?_)
      try dsimp only at p16
      refine lv_if_eq (tgt := 73) hx hb dX1_bits_19 (by decide) (fun c19 => ?_) (fun c19 => ?_)
      · -- 19 t eq 
        exact absurd rfl (pt_out rfl (by omega) p16 c19 v hv)
      · -- 19 f eq 
        refine lv_iload hx hb dX1_bits_22 (lv_at hl 5 rfl) ?_
        refine lv_aload_n hx hb dX1_bits_24 rfl (lv_at hl 0 rfl) ?_
        refine rf_g_vP hx hb hts hin hown hK hP (by decide +kernel) dX1_bits_25 ?_
        refine lv_iload_n hx hb dX1_bits_28 rfl (lv_at hl 2 rfl) ?_
        refine rf_l_vP (n := v) hx hb hK hP (by omega) dX1_bits_29 ?_
        refine lv_topi (fun x_1 ex_1 => ?_)
        obtain rfl : x_1 = nI (tN (vP v)) := ex_1.trans (hvp)
        refine lv_icmp_ge (tgt := 73) hx hb dX1_bits_30 (by decide) (fun c30 => ?_) (fun c30 => ?_)
        · -- 30 t ge 
          have n30 : tN (vP v) ≤ i := (nI_leI (by omega) (by omega)).mp c30
          exact kk i se pl hN H locs ls (by omega) hP hD hS (lv_sub hl [0, 1, 2, 3, 4, 5] rfl)
        · -- 30 f ge 
          have n30 : ¬ tN (vP v) ≤ i := fun z => c30 ((nI_leI (by omega) (by omega)).mpr z)
          refine lv_aload_n hx hb dX1_bits_33 rfl (lv_at hl 0 rfl) ?_
          refine lv_iload_n hx hb dX1_bits_34 rfl (lv_at hl 2 rfl) ?_
          refine lv_iload hx hb dX1_bits_35 (lv_at hl 5 rfl) ?_
          refine call_vv (As := [.int (nI v), .int (nI i)]) (rest := []) ⟨hx, hb, hml, hown, hts⟩ (r_go (nI v) nv np i hN hnv hn) rp_bits_go ⟨rfl, rfl⟩ ⟨Nat.le_of_ble_eq_true rfl, Nat.le_of_ble_eq_true rfl⟩ rfl rfl 0 rfl rfl hl.1 rfl (Nat.le_of_ble_eq_true rfl) dX1_bits_37 ⟨Nat.zero_le _, Nat.zero_le _⟩ hK hP hD hS hA (fun u H locs p37 hP hD hS => ?_)
          obtain ⟨se_37, pl_37, hg_37⟩ := u
          have hP : va_P D vwCl (rfW h k (nI nv) vP vO vG (nI np) pD mV mF mM pX pY se_37 pl_37 (nI hg_37)) H := hP
          have hD : va_D A (rfW h k (nI nv) vP vO vG (nI np) pD mV mF mM pX pY se_37 pl_37 (nI hg_37)) := hD
          try dsimp only at p37
          refine lv_aload_n hx hb dX1_bits_40 rfl (lv_at hl 0 rfl) ?_
          refine rf_g_se hx hb hts hin hown hK hP (by decide +kernel) dX1_bits_41 ?_
          refine lv_iconst (v := 2) hx hb dX1_bits_44 (by decide) ?_
          refine lv_iload_n hx hb dX1_bits_45 rfl (lv_at hl 1 rfl) ?_
          refine lv_imul hx hb dX1_bits_46 ?_
          refine lv_topi (fun x_2 ex_2 => ?_)
          obtain rfl : x_2 = nI (2 * j) := ex_2.trans (pk_mul 2 j)
          refine lv_iload_n hx hb dX1_bits_47 rfl (lv_at hl 3 rfl) ?_
          refine lv_iadd hx hb dX1_bits_48 ?_
          refine lv_topi (fun x_3 ex_3 => ?_)
          obtain rfl : x_3 = nI ((2 * j) + w) := ex_3.trans (nI_add (2 * j) w)
          refine rf_l_se (n := ((2 * j) + w)) hx hb hK hP (by omega) dX1_bits_49 ?_
          refine lv_if_eq (tgt := 63) hx hb dX1_bits_50 (by decide) (fun c50 => ?_) (fun c50 => ?_)
          · -- 50 t eq 
            have hf : (fun t => tb (MR nv np vG pD mV mF mM pX pY (nI v) t w j)) i = false := tb_f (fun z => se_z c50 ((p37.2.1 j w hj hw).mpr z))
            refine lv_iload hx hb dX1_bits_63 (lv_at hl 4 rfl) ?_
            refine lv_topi (fun x_4 ex_4 => ?_)
            obtain rfl : x_4 = nI (bxr (fun t => tb (MR nv np vG pD mV mF mM pX pY (nI v) t w j)) (i + 1)) := ex_4.trans (bxr_0 hf)
            refine lv_istore (lv' := [(4, .int (nI (bxr (fun t => tb (MR nv np vG pD mV mF mM pX pY (nI v) t w j)) (i + 1)))), (0, .ref (h 0)), (1, .int (nI j)), (2, .int (nI v)), (3, .int (nI w)), (5, .int (nI i))]) hx hb dX1_bits_65 hl (by decide) rfl (fun ls hl => ?_)
            refine lv_iinc (v := nI (i + 1)) (lv' := [(5, .int (nI (i + 1))), (4, .int (nI (bxr (fun t => tb (MR nv np vG pD mV mF mM pX pY (nI v) t w j)) (i + 1)))), (0, .ref (h 0)), (1, .int (nI j)), (2, .int (nI v)), (3, .int (nI w))]) hx hb dX1_bits_67 hl (k := 5) rfl (nI_add i 1) (by decide) rfl (fun ls hl => ?_)
            refine lv_goto (tgt := 6) hx hb dX1_bits_70 (by decide) ?_
            exact ih (i + 1) se_37 pl_37 hg_37 H locs ls (by omega) (by omega) hP hD hS (lv_sub hl [2, 3, 4, 5, 1, 0] rfl)
          · -- 50 f eq 
            have hf : (fun t => tb (MR nv np vG pD mV mF mM pX pY (nI v) t w j)) i = true := tb_t ((p37.2.1 j w hj hw).mp (se_no p37.1 (by omega) c50))
            refine lv_iload hx hb dX1_bits_53 (lv_at hl 4 rfl) ?_
            refine lv_iconst (v := 1) hx hb dX1_bits_55 (by decide) ?_
            refine lv_iload hx hb dX1_bits_56 (lv_at hl 5 rfl) ?_
            refine lv_ishl hx hb dX1_bits_58 ?_
            refine lv_ior hx hb dX1_bits_59 ?_
            refine lv_topi (fun x_5 ex_5 => ?_)
            obtain rfl : x_5 = nI (bxr (fun t => tb (MR nv np vG pD mV mF mM pX pY (nI v) t w j)) (i + 1)) := ex_5.trans (bxr_1 hf (by omega))
            refine lv_goto (tgt := 65) hx hb dX1_bits_60 (by decide) ?_
            refine lv_istore (lv' := [(4, .int (nI (bxr (fun t => tb (MR nv np vG pD mV mF mM pX pY (nI v) t w j)) (i + 1)))), (0, .ref (h 0)), (1, .int (nI j)), (2, .int (nI v)), (3, .int (nI w)), (5, .int (nI i))]) hx hb dX1_bits_65 hl (by decide) rfl (fun ls hl => ?_)
            refine lv_iinc (v := nI (i + 1)) (lv' := [(5, .int (nI (i + 1))), (4, .int (nI (bxr (fun t => tb (MR nv np vG pD mV mF mM pX pY (nI v) t w j)) (i + 1)))), (0, .ref (h 0)), (1, .int (nI j)), (2, .int (nI v)), (3, .int (nI w))]) hx hb dX1_bits_67 hl (k := 5) rfl (nI_add i 1) (by decide) rfl (fun ls hl => ?_)
            refine lv_goto (tgt := 6) hx hb dX1_bits_70 (by decide) ?_
            exact ih (i + 1) se_37 pl_37 hg_37 H locs ls (by omega) (by omega) hP hD hS (lv_sub hl [2, 3, 4, 5, 1, 0] rfl)

set_option maxHeartbeats 4000000 in
set_option maxRecDepth 100000 in
theorem r_bits {l : Launch} {D : va_G} {h : Nat → Nat} {k : Nat → ClassId} {vP vO vG pD mV mF mM pX pY se pl : Nat → Int32} (nv np hN : Nat) (x y : Int32) (w : Nat) (hi : RI nv np vP pD mV) (hw : w < 2) : ct l yX1_bits wsX1_bits rr_bits D vwCl (rfT k) [.ref (h 0), .int x, .int y, .int (nI w)] (rfW h k (nI nv) vP vO vG (nI np) pD mV mF mM pX pY se pl (nI hN)) (qI D vwCl (rfT k) (fun (r : Int32) (u : (Nat → Int32) × (Nat → Int32) × Nat) => (((∀ j, j < np → ¬ x = nI j) ∨ ∀ v, v < nv → ¬ y = nI v) ∧ r = 0) ∨ ∃ j v, j < np ∧ v < nv ∧ x = nI j ∧ y = nI v ∧ r = nI (bxN nv np vP vG pD mV mF mM pX pY w j v)) (fun u => rfW h k (nI nv) vP vO vG (nI np) pD mV mF mM pX pY u.1 u.2.1 (nI u.2.2))) 0 0 := by
  refine ct_of (cc := cX1_bits) (maxL := 6) (ret := some .int) (by decide) rfl (Nat.le_of_ble_eq_true rfl) ?_
  intro p e s m below meth c A ls hx hb hr hml hlocks hown hnm hts hA hK hP hD hS hl
  have hown : s.vm.findClass RX1 = some m.cls := hown
  have hin := ri_bits
  have hl : lv_has ls 6 [(0, .ref (h 0)), (1, .int x), (2, .int y), (3, .int (nI w))] := hl
  have hnv : nv ≤ 20 := hi.1
  have hn : np ≤ 120 := hi.2.1
  refine lv_iconst (v := nI 0) hx hb dX1_bits_0 (by decide) ?_
  refine lv_istore (lv' := [(4, .int (nI 0)), (0, .ref (h 0)), (1, .int x), (2, .int y), (3, .int (nI w))]) hx hb dX1_bits_1 hl (by decide) rfl (fun ls hl => ?_)
  refine lv_iconst (v := nI 0) hx hb dX1_bits_3 (by decide) ?_
  refine lv_istore (lv' := [(5, .int (nI 0)), (4, .int (nI 0)), (0, .ref (h 0)), (1, .int x), (2, .int y), (3, .int (nI w))]) hx hb dX1_bits_4 hl (by decide) rfl (fun ls hl => ?_)
  by_cases hc : (∃ j, j < np ∧ x = nI j) ∧ ∃ v, v < nv ∧ y = nI v
  · obtain ⟨⟨j, hj, rfl⟩, v, hv, rfl⟩ := hc
    refine lq_bt hx hb hml hown hts hA hK hnv hn hj hv hw (hi.2.2.1 v hv).1 (hi.2.2.1 v hv).2 ?_ _ 0 se pl hN _ _ ls (Nat.zero_le _) (Nat.lt_succ_self _) hP hD hS (lv_sub hl [2, 3, 4, 5, 1, 0] rfl)
    intro i1 se9 pl9 hN9 H locs ls hie hP hD hS hl
    subst hie
    refine lv_iload hx hb dX1_bits_73 (lv_at hl 4 rfl) ?_
    exact ret_i hx hb hr hlocks hK hP hD hS dX1_bits_75 (se9, pl9, hN9) rfl (Or.inr ⟨j, v, hj, hv, rfl, rfl, rfl⟩)
  · skip
    refine lv_aload_n hx hb dX1_bits_6 rfl (lv_at hl 2 rfl) ?_
    refine lv_iload_n hx hb dX1_bits_7 rfl (lv_at hl 3 rfl) ?_
    refine call_vi (As := [.int x]) (rest := []) ⟨hx, hb, hml, hown, hts⟩ (r_isPoint x) rp_bits_isPoint ⟨rfl, rfl⟩ ⟨Nat.le_of_ble_eq_true rfl, Nat.le_of_ble_eq_true rfl⟩ rfl rfl 0 rfl rfl hl.1 rfl (Nat.le_of_ble_eq_true rfl) dX1_bits_8 ⟨Nat.zero_le _, Nat.zero_le _⟩ hK hP hD hS hA (fun r8 u H locs p8 hP hD hS => ?_)
    try dsimp only at p8
    refine lv_if_eq (tgt := 73) hx hb dX1_bits_11 (by decide) (fun c11 => ?_) (fun c11 => ?_)
    · -- 11 t eq 
      refine lv_iload hx hb dX1_bits_73 (lv_at hl 1 rfl) ?_
      exact ret_i hx hb hr hlocks hK hP hD hS dX1_bits_75 (se, pl, hN) rfl (Or.inl ⟨Or.inl (pt_out rfl hn p8 c11), rfl⟩)
    · -- 11 f eq 
      obtain ⟨j, hj, hxj⟩ := pt_in rfl hn p8 c11
      refine lv_aload_n hx hb dX1_bits_14 rfl (lv_at hl 2 rfl) ?_
      refine lv_iload_n hx hb dX1_bits_15 rfl (lv_at hl 4 rfl) ?_
      refine call_vi (As := [.int y]) (rest := []) ⟨hx, hb, hml, hown, hts⟩ (r_isVariable y) rp_bits_isVariable ⟨rfl, rfl⟩ ⟨Nat.le_of_ble_eq_true rfl, Nat.le_of_ble_eq_true rfl⟩ rfl rfl 0 rfl rfl hl.1 rfl (Nat.le_of_ble_eq_true rfl) dX1_bits_16 ⟨Nat.zero_le _, Nat.zero_le _⟩ hK hP hD hS hA (fun r16 u H locs p16 hP hD hS => ?_)
      try dsimp only at p16
      refine lv_if_eq (tgt := 73) hx hb dX1_bits_19 (by decide) (fun c19 => ?_) (fun c19 => ?_)
      · -- 19 t eq 
        refine lv_iload hx hb dX1_bits_73 (lv_at hl 1 rfl) ?_
        exact ret_i hx hb hr hlocks hK hP hD hS dX1_bits_75 (se, pl, hN) rfl (Or.inl ⟨Or.inr (pt_out rfl (by omega) p16 c19), rfl⟩)
      · -- 19 f eq 
        exact absurd ⟨⟨j, hj, hxj⟩, pt_in rfl (by omega) p16 c19⟩ hc

abbrev rr_without : Room := { frames := 4, cells := 0, slots := 0, locals := 94 }
theorem ri_without : ∀ w ∈ u_ws RX1 TX1 14, w ∈ wsX1_without := by decide +kernel
theorem rp_without_bits : cpV wsX1_without RX1 68 RX1 yX1_bits wsX1_bits cX1_bits 6 (some .int) 3 := ⟨gX1_without_X1_bits, ⟨_, rfl⟩, by decide +kernel⟩
set_option maxHeartbeats 4000000 in
set_option maxRecDepth 100000 in
theorem r_without {l : Launch} {D : va_G} {h : Nat → Nat} {k : Nat → ClassId} {vP vO vG pD mV mF mM pX pY se pl : Nat → Int32} (nv np hN : Nat) (x y : Int32) (hi : RI nv np vP pD mV) : ct l yX1_without wsX1_without rr_without D vwCl (rfT k) [.ref (h 0), .int x, .int y] (rfW h k (nI nv) vP vO vG (nI np) pD mV mF mM pX pY se pl (nI hN)) (qI D vwCl (rfT k) (fun (r : Int32) (u : (Nat → Int32) × (Nat → Int32) × Nat) => (((∀ j, j < np → ¬ x = nI j) ∨ ∀ v, v < nv → ¬ y = nI v) ∧ r = 0) ∨ ∃ j v, j < np ∧ v < nv ∧ x = nI j ∧ y = nI v ∧ r = nI (bxN nv np vP vG pD mV mF mM pX pY 0 j v)) (fun u => rfW h k (nI nv) vP vO vG (nI np) pD mV mF mM pX pY u.1 u.2.1 (nI u.2.2))) 0 0 := by
  refine ct_of (cc := cX1_without) (maxL := 3) (ret := some .int) (by decide) rfl (Nat.le_of_ble_eq_true rfl) ?_
  intro p e s m below meth c A ls hx hb hr hml hlocks hown hnm hts hA hK hP hD hS hl
  have hown : s.vm.findClass RX1 = some m.cls := hown
  have hin := ri_without
  have hl : lv_has ls 3 [(0, .ref (h 0)), (1, .int x), (2, .int y)] := hl
  refine lv_aload_n hx hb dX1_without_0 rfl (lv_at hl 0 rfl) ?_
  refine lv_iload_n hx hb dX1_without_1 rfl (lv_at hl 1 rfl) ?_
  refine lv_iload_n hx hb dX1_without_2 rfl (lv_at hl 2 rfl) ?_
  refine lv_iconst (v := nI 0) hx hb dX1_without_3 (by decide) ?_
  refine call_vi (As := [.int x, .int y, .int (nI 0)]) (rest := []) ⟨hx, hb, hml, hown, hts⟩ (r_bits nv np hN x y 0 hi (by decide)) rp_without_bits ⟨rfl, rfl⟩ ⟨Nat.le_of_ble_eq_true rfl, Nat.le_of_ble_eq_true rfl⟩ rfl rfl 0 rfl rfl hl.1 rfl (Nat.le_of_ble_eq_true rfl) dX1_without_4 ⟨Nat.zero_le _, Nat.zero_le _⟩ hK hP hD hS hA (fun r4 u H locs p4 hP hD hS => ?_)
  obtain ⟨se_4, pl_4, hg_4⟩ := u
  have hP : va_P D vwCl (rfW h k (nI nv) vP vO vG (nI np) pD mV mF mM pX pY se_4 pl_4 (nI hg_4)) H := hP
  have hD : va_D A (rfW h k (nI nv) vP vO vG (nI np) pD mV mF mM pX pY se_4 pl_4 (nI hg_4)) := hD
  try dsimp only at p4
  exact ret_i hx hb hr hlocks hK hP hD hS dX1_without_7 (se_4, pl_4, hg_4) rfl (p4)

abbrev rr_having : Room := { frames := 4, cells := 0, slots := 0, locals := 94 }
theorem ri_having : ∀ w ∈ u_ws RX1 TX1 14, w ∈ wsX1_having := by decide +kernel
theorem rp_having_bits : cpV wsX1_having RX1 68 RX1 yX1_bits wsX1_bits cX1_bits 6 (some .int) 3 := ⟨gX1_having_X1_bits, ⟨_, rfl⟩, by decide +kernel⟩
set_option maxHeartbeats 4000000 in
set_option maxRecDepth 100000 in
theorem r_having {l : Launch} {D : va_G} {h : Nat → Nat} {k : Nat → ClassId} {vP vO vG pD mV mF mM pX pY se pl : Nat → Int32} (nv np hN : Nat) (x y : Int32) (hi : RI nv np vP pD mV) : ct l yX1_having wsX1_having rr_having D vwCl (rfT k) [.ref (h 0), .int x, .int y] (rfW h k (nI nv) vP vO vG (nI np) pD mV mF mM pX pY se pl (nI hN)) (qI D vwCl (rfT k) (fun (r : Int32) (u : (Nat → Int32) × (Nat → Int32) × Nat) => (((∀ j, j < np → ¬ x = nI j) ∨ ∀ v, v < nv → ¬ y = nI v) ∧ r = 0) ∨ ∃ j v, j < np ∧ v < nv ∧ x = nI j ∧ y = nI v ∧ r = nI (bxN nv np vP vG pD mV mF mM pX pY 1 j v)) (fun u => rfW h k (nI nv) vP vO vG (nI np) pD mV mF mM pX pY u.1 u.2.1 (nI u.2.2))) 0 0 := by
  refine ct_of (cc := cX1_having) (maxL := 3) (ret := some .int) (by decide) rfl (Nat.le_of_ble_eq_true rfl) ?_
  intro p e s m below meth c A ls hx hb hr hml hlocks hown hnm hts hA hK hP hD hS hl
  have hown : s.vm.findClass RX1 = some m.cls := hown
  have hin := ri_having
  have hl : lv_has ls 3 [(0, .ref (h 0)), (1, .int x), (2, .int y)] := hl
  refine lv_aload_n hx hb dX1_having_0 rfl (lv_at hl 0 rfl) ?_
  refine lv_iload_n hx hb dX1_having_1 rfl (lv_at hl 1 rfl) ?_
  refine lv_iload_n hx hb dX1_having_2 rfl (lv_at hl 2 rfl) ?_
  refine lv_iconst (v := nI 1) hx hb dX1_having_3 (by decide) ?_
  refine call_vi (As := [.int x, .int y, .int (nI 1)]) (rest := []) ⟨hx, hb, hml, hown, hts⟩ (r_bits nv np hN x y 1 hi (by decide)) rp_having_bits ⟨rfl, rfl⟩ ⟨Nat.le_of_ble_eq_true rfl, Nat.le_of_ble_eq_true rfl⟩ rfl rfl 0 rfl rfl hl.1 rfl (Nat.le_of_ble_eq_true rfl) dX1_having_4 ⟨Nat.zero_le _, Nat.zero_le _⟩ hK hP hD hS hA (fun r4 u H locs p4 hP hD hS => ?_)
  obtain ⟨se_4, pl_4, hg_4⟩ := u
  have hP : va_P D vwCl (rfW h k (nI nv) vP vO vG (nI np) pD mV mF mM pX pY se_4 pl_4 (nI hg_4)) H := hP
  have hD : va_D A (rfW h k (nI nv) vP vO vG (nI np) pD mV mF mM pX pY se_4 pl_4 (nI hg_4)) := hD
  try dsimp only at p4
  exact ret_i hx hb hr hlocks hK hP hD hS dX1_having_7 (se_4, pl_4, hg_4) rfl (p4)

abbrev rr_fault : Room := { frames := 5, cells := 0, slots := 0, locals := 116 }
theorem ri_fault : ∀ w ∈ u_ws RX1 TX1 14, w ∈ wsX1_fault := by decide +kernel
theorem rp_fault_having : cpV wsX1_fault RX1 79 RX1 yX1_having wsX1_having cX1_having 3 (some .int) 2 := ⟨gX1_fault_X1_having, ⟨_, rfl⟩, by decide +kernel⟩
theorem rp_fault_isPoint : cpV wsX1_fault RX1 55 RX1 yX1_isPoint wsX1_isPoint cX1_isPoint 2 (some .boolean) 1 := ⟨gX1_fault_X1_isPoint, ⟨_, rfl⟩, by decide +kernel⟩
theorem rp_fault_isReached : cpV wsX1_fault RX1 72 RX1 yX1_isReached wsX1_isReached cX1_isReached 2 (some .boolean) 1 := ⟨gX1_fault_X1_isReached, ⟨_, rfl⟩, by decide +kernel⟩
theorem rp_fault_without : cpV wsX1_fault RX1 75 RX1 yX1_without wsX1_without cX1_without 3 (some .int) 2 := ⟨gX1_fault_X1_without, ⟨_, rfl⟩, by decide +kernel⟩
set_option maxHeartbeats 4000000 in
set_option maxRecDepth 100000 in
theorem r_fault {l : Launch} {D : va_G} {h : Nat → Nat} {k : Nat → ClassId} {vP vO vG pD mV mF mM pX pY se pl : Nat → Int32} (nv np hN : Nat) (x : Int32) (hi : RI nv np vP pD mV) : ct l yX1_fault wsX1_fault rr_fault D vwCl (rfT k) [.ref (h 0), .int x] (rfW h k (nI nv) vP vO vG (nI np) pD mV mF mM pX pY se pl (nI hN)) (qI D vwCl (rfT k) (fun (r : Int32) (u : (Nat → Int32) × (Nat → Int32) × Nat) => ((∀ j, j < np → ¬ x = nI j) ∧ r = -1) ∨ ∃ j, j < np ∧ x = nI j ∧ r = frv nv np vP vO vG pD mV mF mM pX pY j) (fun u => rfW h k (nI nv) vP vO vG (nI np) pD mV mF mM pX pY u.1 u.2.1 (nI u.2.2))) 0 0 := by
  refine ct_of (cc := cX1_fault) (maxL := 5) (ret := some .int) (by decide) rfl (Nat.le_of_ble_eq_true rfl) ?_
  intro p e s m below meth c A ls hx hb hr hml hlocks hown hnm hts hA hK hP hD hS hl
  have hown : s.vm.findClass RX1 = some m.cls := hown
  have hin := ri_fault
  have hl : lv_has ls 5 [(0, .ref (h 0)), (1, .int x)] := hl
  have hnv : nv ≤ 20 := hi.1
  have hn : np ≤ 120 := hi.2.1
  refine lv_aload_n hx hb dX1_fault_0 rfl (lv_at hl 0 rfl) ?_
  refine lv_iload_n hx hb dX1_fault_1 rfl (lv_at hl 1 rfl) ?_
  refine call_vi (As := [.int x]) (rest := []) ⟨hx, hb, hml, hown, hts⟩ (r_isPoint x) rp_fault_isPoint ⟨rfl, rfl⟩ ⟨Nat.le_of_ble_eq_true rfl, Nat.le_of_ble_eq_true rfl⟩ rfl rfl 0 rfl rfl hl.1 rfl (Nat.le_of_ble_eq_true rfl) dX1_fault_2 ⟨Nat.zero_le _, Nat.zero_le _⟩ hK hP hD hS hA (fun r2 u H locs p2 hP hD hS => ?_)
  try dsimp only at p2
  refine lv_if_ne (tgt := 10) hx hb dX1_fault_5 (by decide) (fun c5 => ?_) (fun c5 => ?_)
  · -- 5 t ne 
    obtain ⟨j, hj, rfl⟩ := pt_in rfl hn p2 c5
    refine lv_aload_n hx hb dX1_fault_10 rfl (lv_at hl 0 rfl) ?_
    refine rf_g_pD hx hb hts hin hown hK hP (by decide +kernel) dX1_fault_11 ?_
    refine lv_iload_n hx hb dX1_fault_14 rfl (lv_at hl 1 rfl) ?_
    refine rf_l_pD (n := j) hx hb hK hP (by omega) dX1_fault_15 ?_
    refine lv_istore_n (lv' := [(2, .int (pD j)), (0, .ref (h 0)), (1, .int (nI j))]) hx hb dX1_fault_16 rfl hl (by decide) rfl (fun ls hl => ?_)
    refine lv_iload_n hx hb dX1_fault_17 rfl (lv_at hl 0 rfl) ?_
    refine lv_iconst (v := 1) hx hb dX1_fault_18 (by decide) ?_
    refine lv_icmp_lt (tgt := 35) hx hb dX1_fault_19 (by decide) (fun c19 => ?_) (fun c19 => ?_)
    · -- 19 t lt 
      refine lv_iconst (v := 0) hx hb dX1_fault_35 (by decide) ?_
      exact ret_i hx hb hr hlocks hK hP hD hS dX1_fault_36 (se, pl, hN) rfl (Or.inr ⟨j, hj, rfl, by unfold frv; rw [if_pos (Or.inl c19)]⟩)
    · -- 19 f lt 
      refine lv_iload_n hx hb dX1_fault_22 rfl (lv_at hl 0 rfl) ?_
      refine lv_iconst (v := 3) hx hb dX1_fault_23 (by decide) ?_
      refine lv_icmp_gt (tgt := 35) hx hb dX1_fault_24 (by decide) (fun c24 => ?_) (fun c24 => ?_)
      · -- 24 t gt 
        refine lv_iconst (v := 0) hx hb dX1_fault_35 (by decide) ?_
        exact ret_i hx hb hr hlocks hK hP hD hS dX1_fault_36 (se, pl, hN) rfl (Or.inr ⟨j, hj, rfl, by unfold frv; rw [if_pos (Or.inr (Or.inl c24))]⟩)
      · -- 24 f gt 
        refine lv_aload_n hx hb dX1_fault_27 rfl (lv_at hl 1 rfl) ?_
        refine lv_iload_n hx hb dX1_fault_28 rfl (lv_at hl 2 rfl) ?_
        refine call_vi (As := [.int (nI j)]) (rest := []) ⟨hx, hb, hml, hown, hts⟩ (r_isReached nv np hN (nI j) hi) rp_fault_isReached ⟨rfl, rfl⟩ ⟨Nat.le_of_ble_eq_true rfl, Nat.le_of_ble_eq_true rfl⟩ rfl rfl 0 rfl rfl hl.1 rfl (Nat.le_of_ble_eq_true rfl) dX1_fault_29 ⟨Nat.zero_le _, Nat.zero_le _⟩ hK hP hD hS hA (fun r29 u H locs p29 hP hD hS => ?_)
        obtain ⟨se_29, pl_29, hg_29⟩ := u
        have hP : va_P D vwCl (rfW h k (nI nv) vP vO vG (nI np) pD mV mF mM pX pY se_29 pl_29 (nI hg_29)) H := hP
        have hD : va_D A (rfW h k (nI nv) vP vO vG (nI np) pD mV mF mM pX pY se_29 pl_29 (nI hg_29)) := hD
        try dsimp only at p29
        have q29 := pt_un (P := fun j r => (r = 1 ∧ rch (ed pX pY np) np j) ∨ (r = 0 ∧ ¬ rch (ed pX pY np) np j)) hn hj p29
        refine lv_if_ne (tgt := 37) hx hb dX1_fault_32 (by decide) (fun c32 => ?_) (fun c32 => ?_)
        · -- 32 t ne 
          have hnz : ¬ (pD j < 1 ∨ 3 < pD j ∨ tb (rch (ed pX pY np) np j) = false) := fun z => z.elim c19 (fun z => z.elim c24 (fun z => by rw [tb_t (yn_yes q29 c32)] at z; cases z))
          refine lv_aload_n hx hb dX1_fault_37 rfl (lv_at hl 1 rfl) ?_
          refine rf_g_mV hx hb hts hin hown hK hP (by decide +kernel) dX1_fault_38 ?_
          refine lv_iload_n hx hb dX1_fault_41 rfl (lv_at hl 2 rfl) ?_
          refine rf_l_mV (n := j) hx hb hK hP (by omega) dX1_fault_42 ?_
          refine lv_topi (fun x_1 ex_1 => ?_)
          obtain rfl : x_1 = nI (tN (mV j)) := ex_1.trans ((hi.2.2.2 j hj c19 c24).1)
          refine lv_istore_n (lv' := [(3, .int (nI (tN (mV j)))), (2, .int (pD j)), (0, .ref (h 0)), (1, .int (nI j))]) hx hb dX1_fault_43 rfl hl (by decide) rfl (fun ls hl => ?_)
          refine lv_iload_n hx hb dX1_fault_44 rfl (lv_at hl 1 rfl) ?_
          refine lv_iconst (v := 1) hx hb dX1_fault_45 (by decide) ?_
          refine lv_icmp_eq (tgt := 86) hx hb dX1_fault_46 (by decide) (fun c46 => ?_) (fun c46 => ?_)
          · -- 46 t eq 
            refine lv_aload_n hx hb dX1_fault_86 rfl (lv_at hl 2 rfl) ?_
            refine rf_g_vO hx hb hts hin hown hK hP (by decide +kernel) dX1_fault_87 ?_
            refine lv_iload_n hx hb dX1_fault_90 rfl (lv_at hl 0 rfl) ?_
            refine rf_l_vO (n := (tN (mV j))) hx hb hK hP (Nat.lt_of_lt_of_le (hi.2.2.2 j hj c19 c24).2 hnv) dX1_fault_91 ?_
            refine lv_if_ne (tgt := 97) hx hb dX1_fault_92 (by decide) (fun c92 => ?_) (fun c92 => ?_)
            · -- 92 t ne 
              refine lv_aload_n hx hb dX1_fault_97 rfl (lv_at hl 2 rfl) ?_
              refine rf_g_mM hx hb hts hin hown hK hP (by decide +kernel) dX1_fault_98 ?_
              refine lv_iload_n hx hb dX1_fault_101 rfl (lv_at hl 3 rfl) ?_
              refine rf_l_mM (n := j) hx hb hK hP (by omega) dX1_fault_102 ?_
              refine lv_aload_n hx hb dX1_fault_103 rfl (lv_at hl 2 rfl) ?_
              refine rf_g_vP hx hb hts hin hown hK hP (by decide +kernel) dX1_fault_104 ?_
              refine lv_iload_n hx hb dX1_fault_107 rfl (lv_at hl 0 rfl) ?_
              refine rf_l_vP (n := (tN (mV j))) hx hb hK hP (Nat.lt_of_lt_of_le (hi.2.2.2 j hj c19 c24).2 hnv) dX1_fault_108 ?_
              refine lv_icmp_ge (tgt := 116) hx hb dX1_fault_109 (by decide) (fun c109 => ?_) (fun c109 => ?_)
              · -- 109 t ge 
                refine lv_aload_n hx hb dX1_fault_116 rfl (lv_at hl 2 rfl) ?_
                refine lv_iload_n hx hb dX1_fault_117 rfl (lv_at hl 3 rfl) ?_
                refine lv_iload_n hx hb dX1_fault_118 rfl (lv_at hl 0 rfl) ?_
                refine call_vi (As := [.int (nI j), .int (nI (tN (mV j)))]) (rest := []) ⟨hx, hb, hml, hown, hts⟩ (r_having nv np hg_29 (nI j) (nI (tN (mV j))) hi) rp_fault_having ⟨rfl, rfl⟩ ⟨Nat.le_of_ble_eq_true rfl, Nat.le_of_ble_eq_true rfl⟩ rfl rfl 0 rfl rfl hl.1 rfl (Nat.le_of_ble_eq_true rfl) dX1_fault_119 ⟨Nat.zero_le _, Nat.zero_le _⟩ hK hP hD hS hA (fun r119 u H locs p119 hP hD hS => ?_)
                obtain ⟨se_119, pl_119, hg_119⟩ := u
                have hP : va_P D vwCl (rfW h k (nI nv) vP vO vG (nI np) pD mV mF mM pX pY se_119 pl_119 (nI hg_119)) H := hP
                have hD : va_D A (rfW h k (nI nv) vP vO vG (nI np) pD mV mF mM pX pY se_119 pl_119 (nI hg_119)) := hD
                try dsimp only at p119
                obtain rfl := pv_un (f := fun a b => nI (bxN nv np vP vG pD mV mF mM pX pY 1 a b)) hn hnv hj (hi.2.2.2 j hj c19 c24).2 p119
                refine lv_if_eq (tgt := 129) hx hb dX1_fault_122 (by decide) (fun c122 => ?_) (fun c122 => ?_)
                · -- 122 t eq 
                  refine lv_iconst (v := 0) hx hb dX1_fault_129 (by decide) ?_
                  exact ret_i hx hb hr hlocks hK hP hD hS dX1_fault_130 (se_119, pl_119, hg_119) rfl (Or.inr ⟨j, hj, rfl, by unfold frv; rw [if_neg hnz, if_pos c46, if_neg c92, if_neg (fun z => z c109), if_pos c122]⟩)
                · -- 122 f eq 
                  refine lv_iconst (v := 2) hx hb dX1_fault_125 (by decide) ?_
                  refine lv_goto (tgt := 130) hx hb dX1_fault_126 (by decide) ?_
                  exact ret_i hx hb hr hlocks hK hP hD hS dX1_fault_130 (se_119, pl_119, hg_119) rfl (Or.inr ⟨j, hj, rfl, by unfold frv; rw [if_neg hnz, if_pos c46, if_neg c92, if_neg (fun z => z c109), if_neg c122]⟩)
              · -- 109 f ge 
                refine lv_iconst (v := 3) hx hb dX1_fault_112 (by decide) ?_
                refine lv_goto (tgt := 130) hx hb dX1_fault_113 (by decide) ?_
                exact ret_i hx hb hr hlocks hK hP hD hS dX1_fault_130 (se_29, pl_29, hg_29) rfl (Or.inr ⟨j, hj, rfl, by unfold frv; rw [if_neg hnz, if_pos c46, if_neg c92, if_pos c109]⟩)
            · -- 92 f ne 
              refine lv_iconst (v := 0) hx hb dX1_fault_95 (by decide) ?_
              exact ret_i hx hb hr hlocks hK hP hD hS dX1_fault_96 (se_29, pl_29, hg_29) rfl (Or.inr ⟨j, hj, rfl, by unfold frv; rw [if_neg hnz, if_pos c46, if_pos c92]⟩)
          · -- 46 f eq 
            refine lv_iconst (v := 1) hx hb dX1_fault_49 (by decide) ?_
            refine lv_aload_n hx hb dX1_fault_50 rfl (lv_at hl 2 rfl) ?_
            refine rf_g_mM hx hb hts hin hown hK hP (by decide +kernel) dX1_fault_51 ?_
            refine lv_iload_n hx hb dX1_fault_54 rfl (lv_at hl 3 rfl) ?_
            refine rf_l_mM (n := j) hx hb hK hP (by omega) dX1_fault_55 ?_
            refine lv_ishl hx hb dX1_fault_56 ?_
            refine lv_iconst (v := 1) hx hb dX1_fault_57 (by decide) ?_
            refine lv_isub hx hb dX1_fault_58 ?_
            refine lv_aload_n hx hb dX1_fault_59 rfl (lv_at hl 2 rfl) ?_
            refine rf_g_mF hx hb hts hin hown hK hP (by decide +kernel) dX1_fault_60 ?_
            refine lv_iload_n hx hb dX1_fault_63 rfl (lv_at hl 3 rfl) ?_
            refine rf_l_mF (n := j) hx hb hK hP (by omega) dX1_fault_64 ?_
            refine lv_ishl hx hb dX1_fault_65 ?_
            refine lv_topi (fun x_2 ex_2 => ?_)
            obtain rfl : x_2 = lb (mM j) <<< (mF j &&& 31) := ex_2.trans (rfl)
            refine lv_istore (lv' := [(4, .int (lb (mM j) <<< (mF j &&& 31))), (3, .int (nI (tN (mV j)))), (2, .int (pD j)), (0, .ref (h 0)), (1, .int (nI j))]) hx hb dX1_fault_66 hl (by decide) rfl (fun ls hl => ?_)
            refine lv_aload_n hx hb dX1_fault_68 rfl (lv_at hl 3 rfl) ?_
            refine lv_iload_n hx hb dX1_fault_69 rfl (lv_at hl 4 rfl) ?_
            refine lv_iload_n hx hb dX1_fault_70 rfl (lv_at hl 1 rfl) ?_
            refine call_vi (As := [.int (nI j), .int (nI (tN (mV j)))]) (rest := []) ⟨hx, hb, hml, hown, hts⟩ (r_without nv np hg_29 (nI j) (nI (tN (mV j))) hi) rp_fault_without ⟨rfl, rfl⟩ ⟨Nat.le_of_ble_eq_true rfl, Nat.le_of_ble_eq_true rfl⟩ rfl rfl 0 rfl rfl hl.1 rfl (Nat.le_of_ble_eq_true rfl) dX1_fault_71 ⟨Nat.zero_le _, Nat.zero_le _⟩ hK hP hD hS hA (fun r71 u H locs p71 hP hD hS => ?_)
            obtain ⟨se_71, pl_71, hg_71⟩ := u
            have hP : va_P D vwCl (rfW h k (nI nv) vP vO vG (nI np) pD mV mF mM pX pY se_71 pl_71 (nI hg_71)) H := hP
            have hD : va_D A (rfW h k (nI nv) vP vO vG (nI np) pD mV mF mM pX pY se_71 pl_71 (nI hg_71)) := hD
            try dsimp only at p71
            obtain rfl := pv_un (f := fun a b => nI (bxN nv np vP vG pD mV mF mM pX pY 0 a b)) hn hnv hj (hi.2.2.2 j hj c19 c24).2 p71
            refine lv_iload hx hb dX1_fault_74 (lv_at hl 0 rfl) ?_
            refine lv_iand hx hb dX1_fault_76 ?_
            refine lv_if_eq (tgt := 84) hx hb dX1_fault_77 (by decide) (fun c77 => ?_) (fun c77 => ?_)
            · -- 77 t eq 
              refine lv_iconst (v := 0) hx hb dX1_fault_84 (by decide) ?_
              exact ret_i hx hb hr hlocks hK hP hD hS dX1_fault_85 (se_71, pl_71, hg_71) rfl (Or.inr ⟨j, hj, rfl, by unfold frv; rw [if_neg hnz, if_neg c46, if_pos c77]⟩)
            · -- 77 f eq 
              refine lv_iconst (v := 1) hx hb dX1_fault_80 (by decide) ?_
              refine lv_goto (tgt := 85) hx hb dX1_fault_81 (by decide) ?_
              exact ret_i hx hb hr hlocks hK hP hD hS dX1_fault_85 (se_71, pl_71, hg_71) rfl (Or.inr ⟨j, hj, rfl, by unfold frv; rw [if_neg hnz, if_neg c46, if_neg c77]⟩)
        · -- 32 f ne 
          refine lv_iconst (v := 0) hx hb dX1_fault_35 (by decide) ?_
          exact ret_i hx hb hr hlocks hK hP hD hS dX1_fault_36 (se_29, pl_29, hg_29) rfl (Or.inr ⟨j, hj, rfl, by unfold frv; rw [if_pos (Or.inr (Or.inr (tb_f (yn_no q29 c32))))]⟩)
  · -- 5 f ne 
    refine lv_iconst (v := (-1)) hx hb dX1_fault_8 (by decide) ?_
    exact ret_i hx hb hr hlocks hK hP hD hS dX1_fault_9 (se, pl, hN) rfl (Or.inl ⟨pt_out rfl hn p2 c5, rfl⟩)

abbrev rr_count : Room := { frames := 6, cells := 0, slots := 0, locals := 140 }
theorem ri_count : ∀ w ∈ u_ws RX1 TX1 14, w ∈ wsX1_count := by decide +kernel
theorem rp_count_fault : cpV wsX1_count RX1 82 RX1 yX1_fault wsX1_fault cX1_fault 5 (some .int) 1 := ⟨gX1_count_X1_fault, ⟨_, rfl⟩, by decide +kernel⟩
theorem rp_count_isReached : cpV wsX1_count RX1 72 RX1 yX1_isReached wsX1_isReached cX1_isReached 2 (some .boolean) 1 := ⟨gX1_count_X1_isReached, ⟨_, rfl⟩, by decide +kernel⟩
set_option maxHeartbeats 4000000 in
set_option maxRecDepth 100000 in
theorem lq_ct {p : Program} {l : Launch} {e : Env} {s : State} {m : MethodId} {args : Array Value} {below : List Frame} {meth : Method} {c : Code} {A : Nat → Prop} {Q : State → Prop} {D : va_G} {h : Nat → Nat} {k : Nat → ClassId} {vP vO vG pD mV mF mM pX pY : Nat → Int32} {x : Int32} {nv np : Nat} (hx : p.tables.exec = Jvm.exec) (hb : c.code = cX1_count) (hml : c.maxLocals = 8) (hown : s.vm.findClass RX1 = some m.cls) (hts : ∀ w ∈ wsX1_count, w.before args s = true) (hA : ∀ q : Nat, s.heap.size ≤ q → A q) (hK : va_K D vwCl (rfT k) s) (hi : RI nv np vP pD mV)
    (kk : ∀ (mk : Nat) (rs : Nat) (fl : Nat) (fs : Int32) (se : Nat → Int32) (pl : Nat → Int32) (hN : Nat) (H : Heap) (locs : List Loc) (ls : Array Slot), (x ≤ 0 ∨ 4 ≤ x ∨ (rs = cnt (fun q => tb (rch (ed pX pY np) np q)) np ∧ (1 < x → fl = cnt (fun q => tb (0 < frv nv np vP vO vG pD mV mF mM pX pY q)) np ∧ fst9 (fun q => tb (0 < frv nv np vP vO vG pD mV mF mM pX pY q)) np 0 fs))) → va_P D vwCl (rfW h k (nI nv) vP vO vG (nI np) pD mV mF mM pX pY se pl (nI hN)) H → va_D A (rfW h k (nI nv) vP vO vG (nI np) pD mV mF mM pX pY se pl (nI hN)) → va_S A s.heap H locs → lv_has ls 8 [(0, .ref (h 0)), (1, .int x), (2, .int (nI rs)), (3, .int (nI fl)), (4, .int fs), (5, .int 0)] → W p l e rr_count s m args below meth c H locs 0 0 Q (F0 m 103 ls [])) :
    ∀ (n : Nat) (mk : Nat) (rs : Nat) (fl : Nat) (fs : Int32) (se : Nat → Int32) (pl : Nat → Int32) (hN : Nat) (H : Heap) (locs : List Loc) (ls : Array Slot), (mk ≤ np) → (rs = cnt (fun q => tb (rch (ed pX pY np) np q)) np - cnt (fun q => tb (rch (ed pX pY np) np q)) mk) → (1 < x → fl = cnt (fun q => tb (0 < frv nv np vP vO vG pD mV mF mM pX pY q)) np - cnt (fun q => tb (0 < frv nv np vP vO vG pD mV mF mM pX pY q)) mk ∧ fst9 (fun q => tb (0 < frv nv np vP vO vG pD mV mF mM pX pY q)) np mk fs) → mk < n → va_P D vwCl (rfW h k (nI nv) vP vO vG (nI np) pD mV mF mM pX pY se pl (nI hN)) H → va_D A (rfW h k (nI nv) vP vO vG (nI np) pD mV mF mM pX pY se pl (nI hN)) → va_S A s.heap H locs → lv_has ls 8 [(0, .ref (h 0)), (1, .int x), (2, .int (nI rs)), (3, .int (nI fl)), (4, .int fs), (5, .int 0), (6, .int (nI mk + (-1)))] → W p l e rr_count s m args below meth c H locs 0 0 Q (F0 m 18 ls []) := by
  have hin := ri_count
  intro n
  induction n with
  | zero =>
    intro mk rs fl fs se pl hN H locs ls hm hrs hfl hmz
    exact absurd hmz (Nat.not_lt_zero _)
  | succ n ih =>
    intro mk rs fl fs se pl hN H locs ls hm hrs hfl hmz hP hD hS hl
    have hnv : nv ≤ 20 := hi.1
    have hn : np ≤ 120 := hi.2.1
    refine lv_iload hx hb dX1_count_18 (lv_at hl 6 rfl) ?_
    refine lv_if_lt (tgt := 103) hx hb dX1_count_20 (by decide) (fun c20 => ?_) (fun c20 => ?_)
    · -- 20 t lt 
      have n20 : mk = 0 := (m1_neg (by omega)).mp c20
      exact kk mk rs fl fs se pl hN H locs ls (Or.inr (Or.inr ⟨by rw [hrs, n20]; simp [cnt], fun z => ⟨by rw [(hfl z).1, n20]; simp [cnt], n20 ▸ (hfl z).2⟩⟩)) hP hD hS (lv_sub hl [0, 1, 2, 3, 4, 5] rfl)
    · -- 20 f lt 
      have n20 : ¬ mk = 0 := fun z => c20 ((m1_neg (by omega)).mpr z)
      obtain ⟨p, rfl⟩ : ∃ p, mk = p + 1 := ⟨mk - 1, by omega⟩
      rw [pk_m1] at hl
      have hp : p < np := by omega
      refine lv_iload_n hx hb dX1_count_23 rfl (lv_at hl 1 rfl) ?_
      refine lv_if_le (tgt := 103) hx hb dX1_count_24 (by decide) (fun c24 => ?_) (fun c24 => ?_)
      · -- 24 t le 
        exact kk (p + 1) rs fl fs se pl hN H locs ls (Or.inl c24) hP hD hS (lv_sub hl [0, 1, 2, 3, 4, 5] rfl)
      · -- 24 f le 
        refine lv_iload_n hx hb dX1_count_27 rfl (lv_at hl 1 rfl) ?_
        refine lv_iconst (v := 4) hx hb dX1_count_28 (by decide) ?_
        refine lv_icmp_ge (tgt := 103) hx hb dX1_count_29 (by decide) (fun c29 => ?_) (fun c29 => ?_)
        · -- 29 t ge 
          exact kk (p + 1) rs fl fs se pl hN H locs ls (Or.inr (Or.inl c29)) hP hD hS (lv_sub hl [0, 1, 2, 3, 4, 5] rfl)
        · -- 29 f ge 
          refine lv_aload_n hx hb dX1_count_32 rfl (lv_at hl 0 rfl) ?_
          refine lv_iload hx hb dX1_count_33 (lv_at hl 6 rfl) ?_
          refine call_vi (As := [.int (nI p)]) (rest := []) ⟨hx, hb, hml, hown, hts⟩ (r_isReached nv np hN (nI p) hi) rp_count_isReached ⟨rfl, rfl⟩ ⟨Nat.le_of_ble_eq_true rfl, Nat.le_of_ble_eq_true rfl⟩ rfl rfl 0 rfl rfl hl.1 rfl (Nat.le_of_ble_eq_true rfl) dX1_count_35 ⟨Nat.zero_le _, Nat.zero_le _⟩ hK hP hD hS hA (fun r35 u H locs p35 hP hD hS => ?_)
          obtain ⟨se_35, pl_35, hg_35⟩ := u
          have hP : va_P D vwCl (rfW h k (nI nv) vP vO vG (nI np) pD mV mF mM pX pY se_35 pl_35 (nI hg_35)) H := hP
          have hD : va_D A (rfW h k (nI nv) vP vO vG (nI np) pD mV mF mM pX pY se_35 pl_35 (nI hg_35)) := hD
          try dsimp only at p35
          have q35 := pt_un (P := fun j r => (r = 1 ∧ rch (ed pX pY np) np j) ∨ (r = 0 ∧ ¬ rch (ed pX pY np) np j)) hn hp p35
          refine lv_if_eq (tgt := 47) hx hb dX1_count_38 (by decide) (fun c38 => ?_) (fun c38 => ?_)
          · -- 38 t eq 
            have hfr : (fun q => tb (rch (ed pX pY np) np q)) p = false := tb_f (yn_no q35 c38)
            refine lv_iload_n hx hb dX1_count_47 rfl (lv_at hl 2 rfl) ?_
            refine lv_istore_n (lv' := [(2, .int (nI rs)), (0, .ref (h 0)), (1, .int x), (3, .int (nI fl)), (4, .int fs), (5, .int 0), (6, .int (nI p))]) hx hb dX1_count_48 rfl hl (by decide) rfl (fun ls hl => ?_)
            refine lv_iload_n hx hb dX1_count_49 rfl (lv_at hl 2 rfl) ?_
            refine lv_iconst (v := 1) hx hb dX1_count_50 (by decide) ?_
            refine lv_icmp_le (tgt := 67) hx hb dX1_count_51 (by decide) (fun c51 => ?_) (fun c51 => ?_)
            · -- 51 t le 
              refine lv_iconst (v := 0) hx hb dX1_count_67 (by decide) ?_
              refine lv_istore (lv' := [(7, .int 0), (2, .int (nI rs)), (0, .ref (h 0)), (1, .int x), (3, .int (nI fl)), (4, .int fs), (5, .int 0), (6, .int (nI p))]) hx hb dX1_count_68 hl (by decide) rfl (fun ls hl => ?_)
              refine lv_iload hx hb dX1_count_70 (lv_at hl 0 rfl) ?_
              refine lv_if_eq (tgt := 81) hx hb dX1_count_72 (by decide) (fun c72 => ?_) (fun c72 => ?_)
              · -- 72 t eq 
                refine lv_iload_n hx hb dX1_count_81 rfl (lv_at hl 4 rfl) ?_
                refine lv_istore_n (lv' := [(3, .int (nI fl)), (7, .int 0), (2, .int (nI rs)), (0, .ref (h 0)), (1, .int x), (4, .int fs), (5, .int 0), (6, .int (nI p))]) hx hb dX1_count_82 rfl hl (by decide) rfl (fun ls hl => ?_)
                refine lv_iload hx hb dX1_count_83 (lv_at hl 1 rfl) ?_
                refine lv_if_eq (tgt := 93) hx hb dX1_count_85 (by decide) (fun c85 => ?_) (fun c85 => ?_)
                · -- 85 t eq 
                  refine lv_iload hx hb dX1_count_93 (lv_at hl 5 rfl) ?_
                  refine lv_istore (lv' := [(4, .int fs), (3, .int (nI fl)), (7, .int 0), (2, .int (nI rs)), (0, .ref (h 0)), (1, .int x), (5, .int 0), (6, .int (nI p))]) hx hb dX1_count_95 hl (by decide) rfl (fun ls hl => ?_)
                  refine lv_iinc (v := (nI p) + (-1)) (lv' := [(6, .int ((nI p) + (-1))), (4, .int fs), (3, .int (nI fl)), (7, .int 0), (2, .int (nI rs)), (0, .ref (h 0)), (1, .int x), (5, .int 0)]) hx hb dX1_count_97 hl (k := 7) rfl (rfl) (by decide) rfl (fun ls hl => ?_)
                  refine lv_goto (tgt := 18) hx hb dX1_count_100 (by decide) ?_
                  exact ih p rs fl fs se_35 pl_35 hg_35 H locs ls (by omega) (cd_0 hfr hrs) (fun z => absurd z (nlt_of_le c51)) (by omega) hP hD hS (lv_sub hl [5, 6, 4, 2, 1, 7, 0] rfl)
                · -- 85 f eq 
                  exact absurd (by decide) c85
              · -- 72 f eq 
                exact absurd (by decide) c72
            · -- 51 f le 
              refine lv_aload_n hx hb dX1_count_54 rfl (lv_at hl 1 rfl) ?_
              refine lv_iload hx hb dX1_count_55 (lv_at hl 6 rfl) ?_
              refine call_vi (As := [.int (nI p)]) (rest := []) ⟨hx, hb, hml, hown, hts⟩ (r_fault nv np hg_35 (nI p) hi) rp_count_fault ⟨rfl, rfl⟩ ⟨Nat.le_of_ble_eq_true rfl, Nat.le_of_ble_eq_true rfl⟩ rfl rfl 0 rfl rfl hl.1 rfl (Nat.le_of_ble_eq_true rfl) dX1_count_57 ⟨Nat.zero_le _, Nat.zero_le _⟩ hK hP hD hS hA (fun r57 u H locs p57 hP hD hS => ?_)
              obtain ⟨se_57, pl_57, hg_57⟩ := u
              have hP : va_P D vwCl (rfW h k (nI nv) vP vO vG (nI np) pD mV mF mM pX pY se_57 pl_57 (nI hg_57)) H := hP
              have hD : va_D A (rfW h k (nI nv) vP vO vG (nI np) pD mV mF mM pX pY se_57 pl_57 (nI hg_57)) := hD
              try dsimp only at p57
              obtain rfl := pt_un (P := fun j r => r = frv nv np vP vO vG pD mV mF mM pX pY j) hn hp p57
              refine lv_if_le (tgt := 67) hx hb dX1_count_60 (by decide) (fun c60 => ?_) (fun c60 => ?_)
              · -- 60 t le 
                have hff : (fun q => tb (0 < frv nv np vP vO vG pD mV mF mM pX pY q)) p = false := tb_f (nlt_of_le c60)
                refine lv_iconst (v := 0) hx hb dX1_count_67 (by decide) ?_
                refine lv_istore (lv' := [(7, .int 0), (2, .int (nI rs)), (0, .ref (h 0)), (1, .int x), (3, .int (nI fl)), (4, .int fs), (5, .int 0), (6, .int (nI p))]) hx hb dX1_count_68 hl (by decide) rfl (fun ls hl => ?_)
                refine lv_iload hx hb dX1_count_70 (lv_at hl 0 rfl) ?_
                refine lv_if_eq (tgt := 81) hx hb dX1_count_72 (by decide) (fun c72 => ?_) (fun c72 => ?_)
                · -- 72 t eq 
                  refine lv_iload_n hx hb dX1_count_81 rfl (lv_at hl 4 rfl) ?_
                  refine lv_istore_n (lv' := [(3, .int (nI fl)), (7, .int 0), (2, .int (nI rs)), (0, .ref (h 0)), (1, .int x), (4, .int fs), (5, .int 0), (6, .int (nI p))]) hx hb dX1_count_82 rfl hl (by decide) rfl (fun ls hl => ?_)
                  refine lv_iload hx hb dX1_count_83 (lv_at hl 1 rfl) ?_
                  refine lv_if_eq (tgt := 93) hx hb dX1_count_85 (by decide) (fun c85 => ?_) (fun c85 => ?_)
                  · -- 85 t eq 
                    refine lv_iload hx hb dX1_count_93 (lv_at hl 5 rfl) ?_
                    refine lv_istore (lv' := [(4, .int fs), (3, .int (nI fl)), (7, .int 0), (2, .int (nI rs)), (0, .ref (h 0)), (1, .int x), (5, .int 0), (6, .int (nI p))]) hx hb dX1_count_95 hl (by decide) rfl (fun ls hl => ?_)
                    refine lv_iinc (v := (nI p) + (-1)) (lv' := [(6, .int ((nI p) + (-1))), (4, .int fs), (3, .int (nI fl)), (7, .int 0), (2, .int (nI rs)), (0, .ref (h 0)), (1, .int x), (5, .int 0)]) hx hb dX1_count_97 hl (k := 7) rfl (rfl) (by decide) rfl (fun ls hl => ?_)
                    refine lv_goto (tgt := 18) hx hb dX1_count_100 (by decide) ?_
                    exact ih p rs fl fs se_57 pl_57 hg_57 H locs ls (by omega) (cd_0 hfr hrs) (fun z => ⟨cd_0 hff (hfl z).1, fst_0 hff (hfl z).2⟩) (by omega) hP hD hS (lv_sub hl [5, 6, 4, 2, 1, 7, 0] rfl)
                  · -- 85 f eq 
                    exact absurd (by decide) c85
                · -- 72 f eq 
                  exact absurd (by decide) c72
              · -- 60 f le 
                have hff : (fun q => tb (0 < frv nv np vP vO vG pD mV mF mM pX pY q)) p = true := tb_t (lt_of_nle c60)
                refine lv_iconst (v := 1) hx hb dX1_count_63 (by decide) ?_
                refine lv_goto (tgt := 68) hx hb dX1_count_64 (by decide) ?_
                refine lv_istore (lv' := [(7, .int 1), (2, .int (nI rs)), (0, .ref (h 0)), (1, .int x), (3, .int (nI fl)), (4, .int fs), (5, .int 0), (6, .int (nI p))]) hx hb dX1_count_68 hl (by decide) rfl (fun ls hl => ?_)
                refine lv_iload hx hb dX1_count_70 (lv_at hl 0 rfl) ?_
                refine lv_if_eq (tgt := 81) hx hb dX1_count_72 (by decide) (fun c72 => ?_) (fun c72 => ?_)
                · -- 72 t eq 
                  exact absurd c72 (by decide)
                · -- 72 f eq 
                  refine lv_iload_n hx hb dX1_count_75 rfl (lv_at hl 4 rfl) ?_
                  refine lv_iconst (v := 1) hx hb dX1_count_76 (by decide) ?_
                  refine lv_iadd hx hb dX1_count_77 ?_
                  refine lv_topi (fun x_1 ex_1 => ?_)
                  obtain rfl : x_1 = nI (fl + 1) := ex_1.trans (nI_add fl 1)
                  refine lv_goto (tgt := 82) hx hb dX1_count_78 (by decide) ?_
                  refine lv_istore_n (lv' := [(3, .int (nI (fl + 1))), (7, .int 1), (2, .int (nI rs)), (0, .ref (h 0)), (1, .int x), (4, .int fs), (5, .int 0), (6, .int (nI p))]) hx hb dX1_count_82 rfl hl (by decide) rfl (fun ls hl => ?_)
                  refine lv_iload hx hb dX1_count_83 (lv_at hl 1 rfl) ?_
                  refine lv_if_eq (tgt := 93) hx hb dX1_count_85 (by decide) (fun c85 => ?_) (fun c85 => ?_)
                  · -- 85 t eq 
                    exact absurd c85 (by decide)
                  · -- 85 f eq 
                    refine lv_iload hx hb dX1_count_88 (lv_at hl 7 rfl) ?_
                    refine lv_goto (tgt := 95) hx hb dX1_count_90 (by decide) ?_
                    refine lv_istore (lv' := [(4, .int (nI p)), (3, .int (nI (fl + 1))), (7, .int 1), (2, .int (nI rs)), (0, .ref (h 0)), (1, .int x), (5, .int 0), (6, .int (nI p))]) hx hb dX1_count_95 hl (by decide) rfl (fun ls hl => ?_)
                    refine lv_iinc (v := (nI p) + (-1)) (lv' := [(6, .int ((nI p) + (-1))), (4, .int (nI p)), (3, .int (nI (fl + 1))), (7, .int 1), (2, .int (nI rs)), (0, .ref (h 0)), (1, .int x), (5, .int 0)]) hx hb dX1_count_97 hl (k := 7) rfl (rfl) (by decide) rfl (fun ls hl => ?_)
                    refine lv_goto (tgt := 18) hx hb dX1_count_100 (by decide) ?_
                    exact ih p rs (fl + 1) (nI p) se_57 pl_57 hg_57 H locs ls (by omega) (cd_0 hfr hrs) (fun z => ⟨cd_1 (by omega) hff (hfl z).1, fst_1 (by omega) hff⟩) (by omega) hP hD hS (lv_sub hl [5, 6, 4, 2, 1, 7, 0] rfl)
          · -- 38 f eq 
            have hfr : (fun q => tb (rch (ed pX pY np) np q)) p = true := tb_t (yn_yes q35 c38)
            refine lv_iload_n hx hb dX1_count_41 rfl (lv_at hl 2 rfl) ?_
            refine lv_iconst (v := 1) hx hb dX1_count_42 (by decide) ?_
            refine lv_iadd hx hb dX1_count_43 ?_
            refine lv_topi (fun x_2 ex_2 => ?_)
            obtain rfl : x_2 = nI (rs + 1) := ex_2.trans (nI_add rs 1)
            refine lv_goto (tgt := 48) hx hb dX1_count_44 (by decide) ?_
            refine lv_istore_n (lv' := [(2, .int (nI (rs + 1))), (0, .ref (h 0)), (1, .int x), (3, .int (nI fl)), (4, .int fs), (5, .int 0), (6, .int (nI p))]) hx hb dX1_count_48 rfl hl (by decide) rfl (fun ls hl => ?_)
            refine lv_iload_n hx hb dX1_count_49 rfl (lv_at hl 2 rfl) ?_
            refine lv_iconst (v := 1) hx hb dX1_count_50 (by decide) ?_
            refine lv_icmp_le (tgt := 67) hx hb dX1_count_51 (by decide) (fun c51 => ?_) (fun c51 => ?_)
            · -- 51 t le 
              refine lv_iconst (v := 0) hx hb dX1_count_67 (by decide) ?_
              refine lv_istore (lv' := [(7, .int 0), (2, .int (nI (rs + 1))), (0, .ref (h 0)), (1, .int x), (3, .int (nI fl)), (4, .int fs), (5, .int 0), (6, .int (nI p))]) hx hb dX1_count_68 hl (by decide) rfl (fun ls hl => ?_)
              refine lv_iload hx hb dX1_count_70 (lv_at hl 0 rfl) ?_
              refine lv_if_eq (tgt := 81) hx hb dX1_count_72 (by decide) (fun c72 => ?_) (fun c72 => ?_)
              · -- 72 t eq 
                refine lv_iload_n hx hb dX1_count_81 rfl (lv_at hl 4 rfl) ?_
                refine lv_istore_n (lv' := [(3, .int (nI fl)), (7, .int 0), (2, .int (nI (rs + 1))), (0, .ref (h 0)), (1, .int x), (4, .int fs), (5, .int 0), (6, .int (nI p))]) hx hb dX1_count_82 rfl hl (by decide) rfl (fun ls hl => ?_)
                refine lv_iload hx hb dX1_count_83 (lv_at hl 1 rfl) ?_
                refine lv_if_eq (tgt := 93) hx hb dX1_count_85 (by decide) (fun c85 => ?_) (fun c85 => ?_)
                · -- 85 t eq 
                  refine lv_iload hx hb dX1_count_93 (lv_at hl 5 rfl) ?_
                  refine lv_istore (lv' := [(4, .int fs), (3, .int (nI fl)), (7, .int 0), (2, .int (nI (rs + 1))), (0, .ref (h 0)), (1, .int x), (5, .int 0), (6, .int (nI p))]) hx hb dX1_count_95 hl (by decide) rfl (fun ls hl => ?_)
                  refine lv_iinc (v := (nI p) + (-1)) (lv' := [(6, .int ((nI p) + (-1))), (4, .int fs), (3, .int (nI fl)), (7, .int 0), (2, .int (nI (rs + 1))), (0, .ref (h 0)), (1, .int x), (5, .int 0)]) hx hb dX1_count_97 hl (k := 7) rfl (rfl) (by decide) rfl (fun ls hl => ?_)
                  refine lv_goto (tgt := 18) hx hb dX1_count_100 (by decide) ?_
                  exact ih p (rs + 1) fl fs se_35 pl_35 hg_35 H locs ls (by omega) (cd_1 (by omega) hfr hrs) (fun z => absurd z (nlt_of_le c51)) (by omega) hP hD hS (lv_sub hl [5, 6, 4, 2, 1, 7, 0] rfl)
                · -- 85 f eq 
                  exact absurd (by decide) c85
              · -- 72 f eq 
                exact absurd (by decide) c72
            · -- 51 f le 
              refine lv_aload_n hx hb dX1_count_54 rfl (lv_at hl 1 rfl) ?_
              refine lv_iload hx hb dX1_count_55 (lv_at hl 6 rfl) ?_
              refine call_vi (As := [.int (nI p)]) (rest := []) ⟨hx, hb, hml, hown, hts⟩ (r_fault nv np hg_35 (nI p) hi) rp_count_fault ⟨rfl, rfl⟩ ⟨Nat.le_of_ble_eq_true rfl, Nat.le_of_ble_eq_true rfl⟩ rfl rfl 0 rfl rfl hl.1 rfl (Nat.le_of_ble_eq_true rfl) dX1_count_57 ⟨Nat.zero_le _, Nat.zero_le _⟩ hK hP hD hS hA (fun r57 u H locs p57 hP hD hS => ?_)
              obtain ⟨se_57, pl_57, hg_57⟩ := u
              have hP : va_P D vwCl (rfW h k (nI nv) vP vO vG (nI np) pD mV mF mM pX pY se_57 pl_57 (nI hg_57)) H := hP
              have hD : va_D A (rfW h k (nI nv) vP vO vG (nI np) pD mV mF mM pX pY se_57 pl_57 (nI hg_57)) := hD
              try dsimp only at p57
              obtain rfl := pt_un (P := fun j r => r = frv nv np vP vO vG pD mV mF mM pX pY j) hn hp p57
              refine lv_if_le (tgt := 67) hx hb dX1_count_60 (by decide) (fun c60 => ?_) (fun c60 => ?_)
              · -- 60 t le 
                have hff : (fun q => tb (0 < frv nv np vP vO vG pD mV mF mM pX pY q)) p = false := tb_f (nlt_of_le c60)
                refine lv_iconst (v := 0) hx hb dX1_count_67 (by decide) ?_
                refine lv_istore (lv' := [(7, .int 0), (2, .int (nI (rs + 1))), (0, .ref (h 0)), (1, .int x), (3, .int (nI fl)), (4, .int fs), (5, .int 0), (6, .int (nI p))]) hx hb dX1_count_68 hl (by decide) rfl (fun ls hl => ?_)
                refine lv_iload hx hb dX1_count_70 (lv_at hl 0 rfl) ?_
                refine lv_if_eq (tgt := 81) hx hb dX1_count_72 (by decide) (fun c72 => ?_) (fun c72 => ?_)
                · -- 72 t eq 
                  refine lv_iload_n hx hb dX1_count_81 rfl (lv_at hl 4 rfl) ?_
                  refine lv_istore_n (lv' := [(3, .int (nI fl)), (7, .int 0), (2, .int (nI (rs + 1))), (0, .ref (h 0)), (1, .int x), (4, .int fs), (5, .int 0), (6, .int (nI p))]) hx hb dX1_count_82 rfl hl (by decide) rfl (fun ls hl => ?_)
                  refine lv_iload hx hb dX1_count_83 (lv_at hl 1 rfl) ?_
                  refine lv_if_eq (tgt := 93) hx hb dX1_count_85 (by decide) (fun c85 => ?_) (fun c85 => ?_)
                  · -- 85 t eq 
                    refine lv_iload hx hb dX1_count_93 (lv_at hl 5 rfl) ?_
                    refine lv_istore (lv' := [(4, .int fs), (3, .int (nI fl)), (7, .int 0), (2, .int (nI (rs + 1))), (0, .ref (h 0)), (1, .int x), (5, .int 0), (6, .int (nI p))]) hx hb dX1_count_95 hl (by decide) rfl (fun ls hl => ?_)
                    refine lv_iinc (v := (nI p) + (-1)) (lv' := [(6, .int ((nI p) + (-1))), (4, .int fs), (3, .int (nI fl)), (7, .int 0), (2, .int (nI (rs + 1))), (0, .ref (h 0)), (1, .int x), (5, .int 0)]) hx hb dX1_count_97 hl (k := 7) rfl (rfl) (by decide) rfl (fun ls hl => ?_)
                    refine lv_goto (tgt := 18) hx hb dX1_count_100 (by decide) ?_
                    exact ih p (rs + 1) fl fs se_57 pl_57 hg_57 H locs ls (by omega) (cd_1 (by omega) hfr hrs) (fun z => ⟨cd_0 hff (hfl z).1, fst_0 hff (hfl z).2⟩) (by omega) hP hD hS (lv_sub hl [5, 6, 4, 2, 1, 7, 0] rfl)
                  · -- 85 f eq 
                    exact absurd (by decide) c85
                · -- 72 f eq 
                  exact absurd (by decide) c72
              · -- 60 f le 
                have hff : (fun q => tb (0 < frv nv np vP vO vG pD mV mF mM pX pY q)) p = true := tb_t (lt_of_nle c60)
                refine lv_iconst (v := 1) hx hb dX1_count_63 (by decide) ?_
                refine lv_goto (tgt := 68) hx hb dX1_count_64 (by decide) ?_
                refine lv_istore (lv' := [(7, .int 1), (2, .int (nI (rs + 1))), (0, .ref (h 0)), (1, .int x), (3, .int (nI fl)), (4, .int fs), (5, .int 0), (6, .int (nI p))]) hx hb dX1_count_68 hl (by decide) rfl (fun ls hl => ?_)
                refine lv_iload hx hb dX1_count_70 (lv_at hl 0 rfl) ?_
                refine lv_if_eq (tgt := 81) hx hb dX1_count_72 (by decide) (fun c72 => ?_) (fun c72 => ?_)
                · -- 72 t eq 
                  exact absurd c72 (by decide)
                · -- 72 f eq 
                  refine lv_iload_n hx hb dX1_count_75 rfl (lv_at hl 4 rfl) ?_
                  refine lv_iconst (v := 1) hx hb dX1_count_76 (by decide) ?_
                  refine lv_iadd hx hb dX1_count_77 ?_
                  refine lv_topi (fun x_3 ex_3 => ?_)
                  obtain rfl : x_3 = nI (fl + 1) := ex_3.trans (nI_add fl 1)
                  refine lv_goto (tgt := 82) hx hb dX1_count_78 (by decide) ?_
                  refine lv_istore_n (lv' := [(3, .int (nI (fl + 1))), (7, .int 1), (2, .int (nI (rs + 1))), (0, .ref (h 0)), (1, .int x), (4, .int fs), (5, .int 0), (6, .int (nI p))]) hx hb dX1_count_82 rfl hl (by decide) rfl (fun ls hl => ?_)
                  refine lv_iload hx hb dX1_count_83 (lv_at hl 1 rfl) ?_
                  refine lv_if_eq (tgt := 93) hx hb dX1_count_85 (by decide) (fun c85 => ?_) (fun c85 => ?_)
                  · -- 85 t eq 
                    exact absurd c85 (by decide)
                  · -- 85 f eq 
                    refine lv_iload hx hb dX1_count_88 (lv_at hl 7 rfl) ?_
                    refine lv_goto (tgt := 95) hx hb dX1_count_90 (by decide) ?_
                    refine lv_istore (lv' := [(4, .int (nI p)), (3, .int (nI (fl + 1))), (7, .int 1), (2, .int (nI (rs + 1))), (0, .ref (h 0)), (1, .int x), (5, .int 0), (6, .int (nI p))]) hx hb dX1_count_95 hl (by decide) rfl (fun ls hl => ?_)
                    refine lv_iinc (v := (nI p) + (-1)) (lv' := [(6, .int ((nI p) + (-1))), (4, .int (nI p)), (3, .int (nI (fl + 1))), (7, .int 1), (2, .int (nI (rs + 1))), (0, .ref (h 0)), (1, .int x), (5, .int 0)]) hx hb dX1_count_97 hl (k := 7) rfl (rfl) (by decide) rfl (fun ls hl => ?_)
                    refine lv_goto (tgt := 18) hx hb dX1_count_100 (by decide) ?_
                    exact ih p (rs + 1) (fl + 1) (nI p) se_57 pl_57 hg_57 H locs ls (by omega) (cd_1 (by omega) hfr hrs) (fun z => ⟨cd_1 (by omega) hff (hfl z).1, fst_1 (by omega) hff⟩) (by omega) hP hD hS (lv_sub hl [5, 6, 4, 2, 1, 7, 0] rfl)

set_option maxHeartbeats 4000000 in
set_option maxRecDepth 100000 in
theorem lq_cs {p : Program} {l : Launch} {e : Env} {s : State} {m : MethodId} {args : Array Value} {below : List Frame} {meth : Method} {c : Code} {A : Nat → Prop} {Q : State → Prop} {D : va_G} {h : Nat → Nat} {k : Nat → ClassId} {pn hg : Int32} {vP vO vG pD mV mF mM pX pY se pl : Nat → Int32} {x fs : Int32} {nv rs fl : Nat} (hx : p.tables.exec = Jvm.exec) (hb : c.code = cX1_count) (hml : c.maxLocals = 8) (hown : s.vm.findClass RX1 = some m.cls) (hts : ∀ w ∈ wsX1_count, w.before args s = true) (hA : ∀ q : Nat, s.heap.size ≤ q → A q) (hK : va_K D vwCl (rfT k) s) (hnv : nv ≤ 20)
    (kk : ∀ (i : Nat) (sm : Int32) (H : Heap) (locs : List Loc) (ls : Array Slot), (sm = smI vP nv) → va_P D vwCl (rfW h k (nI nv) vP vO vG pn pD mV mF mM pX pY se pl hg) H → va_D A (rfW h k (nI nv) vP vO vG pn pD mV mF mM pX pY se pl hg) → va_S A s.heap H locs → lv_has ls 8 [(0, .ref (h 0)), (1, .int x), (2, .int (nI rs)), (3, .int (nI fl)), (4, .int fs), (5, .int sm), (6, .int (nI i))] → W p l e rr_count s m args below meth c H locs 0 0 Q (F0 m 133 ls [])) :
    ∀ (n : Nat) (i : Nat) (sm : Int32) (H : Heap) (locs : List Loc) (ls : Array Slot), (i ≤ nv) → (sm = smI vP i) → nv - i < n → va_P D vwCl (rfW h k (nI nv) vP vO vG pn pD mV mF mM pX pY se pl hg) H → va_D A (rfW h k (nI nv) vP vO vG pn pD mV mF mM pX pY se pl hg) → va_S A s.heap H locs → lv_has ls 8 [(0, .ref (h 0)), (1, .int x), (2, .int (nI rs)), (3, .int (nI fl)), (4, .int fs), (5, .int sm), (6, .int (nI i))] → W p l e rr_count s m args below meth c H locs 0 0 Q (F0 m 106 ls []) := by
  have hin := ri_count
  intro n
  induction n with
  | zero =>
    intro i sm H locs ls hi9 hsm hmz
    exact absurd hmz (Nat.not_lt_zero _)
  | succ n ih =>
    intro i sm H locs ls hi9 hsm hmz hP hD hS hl
    refine lv_iload hx hb dX1_count_106 (lv_at hl 6 rfl) ?_
    refine lv_aload_n hx hb dX1_count_108 rfl (lv_at hl 0 rfl) ?_
    refine rf_g_vc hx hb hts hin hown hK hP (by decide +kernel) dX1_count_109 ?_
    refine lv_icmp_ge (tgt := 133) hx hb dX1_count_112 (by decide) (fun c112 => ?_) (fun c112 => ?_)
    · -- 112 t ge 
      have n112 : nv ≤ i := (nI_leI (a := nv) (b := i) (by omega) (by omega)).mp c112
      exact kk i sm H locs ls ((show i = nv by omega) ▸ hsm) hP hD hS (lv_sub hl [0, 1, 2, 3, 4, 5, 6] rfl)
    · -- 112 f ge 
      have n112 : ¬ nv ≤ i := fun z => c112 ((nI_leI (a := nv) (b := i) (by omega) (by omega)).mpr z)
      refine lv_iload hx hb dX1_count_115 (lv_at hl 5 rfl) ?_
      refine lv_aload_n hx hb dX1_count_117 rfl (lv_at hl 0 rfl) ?_
      refine rf_g_vP hx hb hts hin hown hK hP (by decide +kernel) dX1_count_118 ?_
      refine lv_iload hx hb dX1_count_121 (lv_at hl 6 rfl) ?_
      refine rf_l_vP (n := i) hx hb hK hP (by omega) dX1_count_123 ?_
      refine lv_iadd hx hb dX1_count_124 ?_
      refine lv_istore (lv' := [(5, .int (sm + (vP i))), (0, .ref (h 0)), (1, .int x), (2, .int (nI rs)), (3, .int (nI fl)), (4, .int fs), (6, .int (nI i))]) hx hb dX1_count_125 hl (by decide) rfl (fun ls hl => ?_)
      refine lv_iinc (v := nI (i + 1)) (lv' := [(6, .int (nI (i + 1))), (5, .int (sm + (vP i))), (0, .ref (h 0)), (1, .int x), (2, .int (nI rs)), (3, .int (nI fl)), (4, .int fs)]) hx hb dX1_count_127 hl (k := 6) rfl (nI_add i 1) (by decide) rfl (fun ls hl => ?_)
      refine lv_goto (tgt := 106) hx hb dX1_count_130 (by decide) ?_
      exact ih (i + 1) (sm + (vP i)) H locs ls (by omega) (by rw [hsm]; rfl) (by omega) hP hD hS (lv_sub hl [2, 3, 4, 5, 6, 1, 0] rfl)

set_option maxHeartbeats 4000000 in
set_option maxRecDepth 100000 in
theorem r_count {l : Launch} {D : va_G} {h : Nat → Nat} {k : Nat → ClassId} {vP vO vG pD mV mF mM pX pY se pl : Nat → Int32} (nv np hN : Nat) (x : Int32) (hi : RI nv np vP pD mV) : ct l yX1_count wsX1_count rr_count D vwCl (rfT k) [.ref (h 0), .int x] (rfW h k (nI nv) vP vO vG (nI np) pD mV mF mM pX pY se pl (nI hN)) (qI D vwCl (rfT k) (fun (r : Int32) (u : (Nat → Int32) × (Nat → Int32) × Nat) => (x = 0 ∧ r = nI np) ∨ (x = 1 ∧ r = nI (cnt (fun q => tb (rch (ed pX pY np) np q)) np)) ∨ (x = 2 ∧ r = nI (cnt (fun q => tb (0 < frv nv np vP vO vG pD mV mF mM pX pY q)) np)) ∨ (x = 3 ∧ fst9 (fun q => tb (0 < frv nv np vP vO vG pD mV mF mM pX pY q)) np 0 r) ∨ (x = 4 ∧ r = nI nv) ∨ (x = 5 ∧ r = smI vP nv) ∨ ((¬ x = 0 ∧ ¬ x = 1 ∧ ¬ x = 2 ∧ ¬ x = 3 ∧ ¬ x = 4 ∧ ¬ x = 5) ∧ r = -1)) (fun u => rfW h k (nI nv) vP vO vG (nI np) pD mV mF mM pX pY u.1 u.2.1 (nI u.2.2))) 0 0 := by
  refine ct_of (cc := cX1_count) (maxL := 8) (ret := some .int) (by decide) rfl (Nat.le_of_ble_eq_true rfl) ?_
  intro p e s m below meth c A ls hx hb hr hml hlocks hown hnm hts hA hK hP hD hS hl
  have hown : s.vm.findClass RX1 = some m.cls := hown
  have hin := ri_count
  have hl : lv_has ls 8 [(0, .ref (h 0)), (1, .int x)] := hl
  have hnv : nv ≤ 20 := hi.1
  have hn : np ≤ 120 := hi.2.1
  refine lv_iconst (v := nI 0) hx hb dX1_count_0 (by decide) ?_
  refine lv_istore_n (lv' := [(2, .int (nI 0)), (0, .ref (h 0)), (1, .int x)]) hx hb dX1_count_1 rfl hl (by decide) rfl (fun ls hl => ?_)
  refine lv_iconst (v := nI 0) hx hb dX1_count_2 (by decide) ?_
  refine lv_istore_n (lv' := [(3, .int (nI 0)), (2, .int (nI 0)), (0, .ref (h 0)), (1, .int x)]) hx hb dX1_count_3 rfl hl (by decide) rfl (fun ls hl => ?_)
  refine lv_iconst (v := (-1)) hx hb dX1_count_4 (by decide) ?_
  refine lv_istore (lv' := [(4, .int (-1)), (3, .int (nI 0)), (2, .int (nI 0)), (0, .ref (h 0)), (1, .int x)]) hx hb dX1_count_5 hl (by decide) rfl (fun ls hl => ?_)
  refine lv_iconst (v := 0) hx hb dX1_count_7 (by decide) ?_
  refine lv_istore (lv' := [(5, .int 0), (4, .int (-1)), (3, .int (nI 0)), (2, .int (nI 0)), (0, .ref (h 0)), (1, .int x)]) hx hb dX1_count_8 hl (by decide) rfl (fun ls hl => ?_)
  refine lv_aload_n hx hb dX1_count_10 rfl (lv_at hl 4 rfl) ?_
  refine rf_g_pn hx hb hts hin hown hK hP (by decide +kernel) dX1_count_11 ?_
  refine lv_iconst (v := 1) hx hb dX1_count_14 (by decide) ?_
  refine lv_isub hx hb dX1_count_15 ?_
  refine lv_topi (fun x_1 ex_1 => ?_)
  obtain rfl : x_1 = nI np + (-1) := ex_1.trans (Int32.sub_eq_add_neg _ _)
  refine lv_istore (lv' := [(6, .int (nI np + (-1))), (5, .int 0), (4, .int (-1)), (3, .int (nI 0)), (2, .int (nI 0)), (0, .ref (h 0)), (1, .int x)]) hx hb dX1_count_16 hl (by decide) rfl (fun ls hl => ?_)
  refine lq_ct hx hb hml hown hts hA hK hi ?_ _ np 0 0 (-1) se pl hN _ _ ls (Nat.le_refl _) ((Nat.sub_self _).symm) (fun _ => ⟨(Nat.sub_self _).symm, fst_e⟩) (Nat.lt_succ_self _) hP hD hS (lv_sub hl [5, 6, 4, 3, 2, 1, 0] rfl)
  intro m9 rs9 fl9 fs9 se9 pl9 hN9 H locs ls hex hP hD hS hl
  refine lv_iconst (v := nI 0) hx hb dX1_count_103 (by decide) ?_
  refine lv_istore (lv' := [(6, .int (nI 0)), (0, .ref (h 0)), (1, .int x), (2, .int (nI rs9)), (3, .int (nI fl9)), (4, .int fs9), (5, .int 0)]) hx hb dX1_count_104 hl (by decide) rfl (fun ls hl => ?_)
  refine lq_cs hx hb hml hown hts hA hK (x := x) (fs := fs9) (rs := rs9) (fl := fl9) hnv ?_ _ 0 0 _ _ ls (Nat.zero_le _) (rfl) (Nat.lt_succ_self _) hP hD hS (lv_sub hl [1, 2, 3, 4, 5, 6, 0] rfl)
  intro i9 sm H locs ls hsm hP hD hS hl
  refine lv_iload_n hx hb dX1_count_133 rfl (lv_at hl 1 rfl) ?_
  refine lv_if_ne (tgt := 144) hx hb dX1_count_134 (by decide) (fun c134 => ?_) (fun c134 => ?_)
  · -- 134 t ne 
    refine lv_iload_n hx hb dX1_count_144 rfl (lv_at hl 1 rfl) ?_
    refine lv_iconst (v := 1) hx hb dX1_count_145 (by decide) ?_
    refine lv_icmp_ne (tgt := 153) hx hb dX1_count_146 (by decide) (fun c146 => ?_) (fun c146 => ?_)
    · -- 146 t ne 
      refine lv_iload_n hx hb dX1_count_153 rfl (lv_at hl 1 rfl) ?_
      refine lv_iconst (v := 2) hx hb dX1_count_154 (by decide) ?_
      refine lv_icmp_ne (tgt := 162) hx hb dX1_count_155 (by decide) (fun c155 => ?_) (fun c155 => ?_)
      · -- 155 t ne 
        refine lv_iload_n hx hb dX1_count_162 rfl (lv_at hl 1 rfl) ?_
        refine lv_iconst (v := 3) hx hb dX1_count_163 (by decide) ?_
        refine lv_icmp_ne (tgt := 172) hx hb dX1_count_164 (by decide) (fun c164 => ?_) (fun c164 => ?_)
        · -- 164 t ne 
          refine lv_iload_n hx hb dX1_count_172 rfl (lv_at hl 1 rfl) ?_
          refine lv_iconst (v := 4) hx hb dX1_count_173 (by decide) ?_
          refine lv_icmp_ne (tgt := 184) hx hb dX1_count_174 (by decide) (fun c174 => ?_) (fun c174 => ?_)
          · -- 174 t ne 
            refine lv_iload_n hx hb dX1_count_184 rfl (lv_at hl 1 rfl) ?_
            refine lv_iconst (v := 5) hx hb dX1_count_185 (by decide) ?_
            refine lv_icmp_ne (tgt := 194) hx hb dX1_count_186 (by decide) (fun c186 => ?_) (fun c186 => ?_)
            · -- 186 t ne 
              refine lv_iconst (v := (-1)) hx hb dX1_count_194 (by decide) ?_
              exact ret_i hx hb hr hlocks hK hP hD hS dX1_count_195 (se9, pl9, hN9) rfl (Or.inr (Or.inr (Or.inr (Or.inr (Or.inr (Or.inr (⟨⟨c134, c146, c155, c164, c174, c186⟩, rfl⟩)))))))
            · -- 186 f ne 
              refine lv_iload hx hb dX1_count_189 (lv_at hl 5 rfl) ?_
              refine lv_goto (tgt := 195) hx hb dX1_count_191 (by decide) ?_
              exact ret_i hx hb hr hlocks hK hP hD hS dX1_count_195 (se9, pl9, hN9) rfl (Or.inr (Or.inr (Or.inr (Or.inr (Or.inr (Or.inl ⟨c186, hsm⟩))))))
          · -- 174 f ne 
            refine lv_aload_n hx hb dX1_count_177 rfl (lv_at hl 0 rfl) ?_
            refine rf_g_vc hx hb hts hin hown hK hP (by decide +kernel) dX1_count_178 ?_
            refine lv_goto (tgt := 195) hx hb dX1_count_181 (by decide) ?_
            exact ret_i hx hb hr hlocks hK hP hD hS dX1_count_195 (se9, pl9, hN9) rfl (Or.inr (Or.inr (Or.inr (Or.inr (Or.inl ⟨c174, rfl⟩)))))
        · -- 164 f ne 
          refine lv_iload hx hb dX1_count_167 (lv_at hl 4 rfl) ?_
          refine lv_goto (tgt := 195) hx hb dX1_count_169 (by decide) ?_
          exact ret_i hx hb hr hlocks hK hP hD hS dX1_count_195 (se9, pl9, hN9) rfl (Or.inr (Or.inr (Or.inr (Or.inl ⟨c164, ((ex_of hex (by rw [c164]; decide) (by rw [c164]; decide)).2 (by rw [c164]; decide)).2⟩))))
      · -- 155 f ne 
        refine lv_iload_n hx hb dX1_count_158 rfl (lv_at hl 3 rfl) ?_
        refine lv_goto (tgt := 195) hx hb dX1_count_159 (by decide) ?_
        exact ret_i hx hb hr hlocks hK hP hD hS dX1_count_195 (se9, pl9, hN9) rfl (Or.inr (Or.inr (Or.inl ⟨c155, by rw [((ex_of hex (by rw [c155]; decide) (by rw [c155]; decide)).2 (by rw [c155]; decide)).1]⟩)))
    · -- 146 f ne 
      refine lv_iload_n hx hb dX1_count_149 rfl (lv_at hl 2 rfl) ?_
      refine lv_goto (tgt := 195) hx hb dX1_count_150 (by decide) ?_
      exact ret_i hx hb hr hlocks hK hP hD hS dX1_count_195 (se9, pl9, hN9) rfl (Or.inr (Or.inl ⟨c146, by rw [(ex_of hex (by rw [c146]; decide) (by rw [c146]; decide)).1]⟩))
  · -- 134 f ne 
    refine lv_aload_n hx hb dX1_count_137 rfl (lv_at hl 0 rfl) ?_
    refine rf_g_pn hx hb hts hin hown hK hP (by decide +kernel) dX1_count_138 ?_
    refine lv_goto (tgt := 195) hx hb dX1_count_141 (by decide) ?_
    exact ret_i hx hb hr hlocks hK hP hD hS dX1_count_195 (se9, pl9, hN9) rfl (Or.inl ⟨c134, rfl⟩)

