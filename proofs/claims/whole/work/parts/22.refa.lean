abbrev rr_isPoint : Room := { frames := 0, cells := 0, slots := 0, locals := 0 }
theorem ri_isPoint : ∀ w ∈ u_ws RX1 TX1 14, w ∈ wsX1_isPoint := by decide +kernel
set_option maxHeartbeats 4000000 in
set_option maxRecDepth 100000 in
theorem r_isPoint {l : Launch} {D : va_G} {h : Nat → Nat} {k : Nat → ClassId} {vc pn hg : Int32} {vP vO vG pD mV mF mM pX pY se pl : Nat → Int32} (x : Int32)  : ct l yX1_isPoint wsX1_isPoint rr_isPoint D vwCl (rfT k) [.ref (h 0), .int x] (rfW h k vc vP vO vG pn pD mV mF mM pX pY se pl hg) (qI D vwCl (rfT k) (fun (r : Int32) (u : Unit) => (r = 1 ∧ ¬ x < 0 ∧ ¬ pn ≤ x) ∨ (r = 0 ∧ ¬ (¬ x < 0 ∧ ¬ pn ≤ x))) (fun _ => rfW h k vc vP vO vG pn pD mV mF mM pX pY se pl hg)) 0 0 := by
  refine ct_of (cc := cX1_isPoint) (maxL := 2) (ret := some .boolean) (by decide) rfl (Nat.le_of_ble_eq_true rfl) ?_
  intro p e s m below meth c A ls hx hb hr hml hlocks hown hnm hts hA hK hP hD hS hl
  have hown : s.vm.findClass RX1 = some m.cls := hown
  have hin := ri_isPoint
  have hl : lv_has ls 2 [(0, .ref (h 0)), (1, .int x)] := hl
  refine lv_iload_n hx hb dX1_isPoint_0 rfl (lv_at hl 1 rfl) ?_
  refine lv_if_lt (tgt := 16) hx hb dX1_isPoint_1 (by decide) (fun c1 => ?_) (fun c1 => ?_)
  · -- 1 t lt 
    refine lv_iconst (v := 0) hx hb dX1_isPoint_16 (by decide) ?_
    exact ret_z hx hb hr hlocks hK hP hD hS dX1_isPoint_17 () rfl (by decide) (Or.inr ⟨rfl, fun q => q.1 c1⟩)
  · -- 1 f lt 
    refine lv_iload_n hx hb dX1_isPoint_4 rfl (lv_at hl 1 rfl) ?_
    refine lv_aload_n hx hb dX1_isPoint_5 rfl (lv_at hl 0 rfl) ?_
    refine rf_g_pn hx hb hts hin hown hK hP (by decide +kernel) dX1_isPoint_6 ?_
    refine lv_icmp_ge (tgt := 16) hx hb dX1_isPoint_9 (by decide) (fun c9 => ?_) (fun c9 => ?_)
    · -- 9 t ge 
      refine lv_iconst (v := 0) hx hb dX1_isPoint_16 (by decide) ?_
      exact ret_z hx hb hr hlocks hK hP hD hS dX1_isPoint_17 () rfl (by decide) (Or.inr ⟨rfl, fun q => q.2 c9⟩)
    · -- 9 f ge 
      refine lv_iconst (v := 1) hx hb dX1_isPoint_12 (by decide) ?_
      refine lv_goto (tgt := 17) hx hb dX1_isPoint_13 (by decide) ?_
      exact ret_z hx hb hr hlocks hK hP hD hS dX1_isPoint_17 () rfl (by decide) (Or.inl ⟨rfl, c1, c9⟩)

abbrev rr_isVariable : Room := { frames := 0, cells := 0, slots := 0, locals := 0 }
theorem ri_isVariable : ∀ w ∈ u_ws RX1 TX1 14, w ∈ wsX1_isVariable := by decide +kernel
set_option maxHeartbeats 4000000 in
set_option maxRecDepth 100000 in
theorem r_isVariable {l : Launch} {D : va_G} {h : Nat → Nat} {k : Nat → ClassId} {vc pn hg : Int32} {vP vO vG pD mV mF mM pX pY se pl : Nat → Int32} (x : Int32)  : ct l yX1_isVariable wsX1_isVariable rr_isVariable D vwCl (rfT k) [.ref (h 0), .int x] (rfW h k vc vP vO vG pn pD mV mF mM pX pY se pl hg) (qI D vwCl (rfT k) (fun (r : Int32) (u : Unit) => (r = 1 ∧ ¬ x < 0 ∧ ¬ vc ≤ x) ∨ (r = 0 ∧ ¬ (¬ x < 0 ∧ ¬ vc ≤ x))) (fun _ => rfW h k vc vP vO vG pn pD mV mF mM pX pY se pl hg)) 0 0 := by
  refine ct_of (cc := cX1_isVariable) (maxL := 2) (ret := some .boolean) (by decide) rfl (Nat.le_of_ble_eq_true rfl) ?_
  intro p e s m below meth c A ls hx hb hr hml hlocks hown hnm hts hA hK hP hD hS hl
  have hown : s.vm.findClass RX1 = some m.cls := hown
  have hin := ri_isVariable
  have hl : lv_has ls 2 [(0, .ref (h 0)), (1, .int x)] := hl
  refine lv_iload_n hx hb dX1_isVariable_0 rfl (lv_at hl 1 rfl) ?_
  refine lv_if_lt (tgt := 16) hx hb dX1_isVariable_1 (by decide) (fun c1 => ?_) (fun c1 => ?_)
  · -- 1 t lt 
    refine lv_iconst (v := 0) hx hb dX1_isVariable_16 (by decide) ?_
    exact ret_z hx hb hr hlocks hK hP hD hS dX1_isVariable_17 () rfl (by decide) (Or.inr ⟨rfl, fun q => q.1 c1⟩)
  · -- 1 f lt 
    refine lv_iload_n hx hb dX1_isVariable_4 rfl (lv_at hl 1 rfl) ?_
    refine lv_aload_n hx hb dX1_isVariable_5 rfl (lv_at hl 0 rfl) ?_
    refine rf_g_vc hx hb hts hin hown hK hP (by decide +kernel) dX1_isVariable_6 ?_
    refine lv_icmp_ge (tgt := 16) hx hb dX1_isVariable_9 (by decide) (fun c9 => ?_) (fun c9 => ?_)
    · -- 9 t ge 
      refine lv_iconst (v := 0) hx hb dX1_isVariable_16 (by decide) ?_
      exact ret_z hx hb hr hlocks hK hP hD hS dX1_isVariable_17 () rfl (by decide) (Or.inr ⟨rfl, fun q => q.2 c9⟩)
    · -- 9 f ge 
      refine lv_iconst (v := 1) hx hb dX1_isVariable_12 (by decide) ?_
      refine lv_goto (tgt := 17) hx hb dX1_isVariable_13 (by decide) ?_
      exact ret_z hx hb hr hlocks hK hP hD hS dX1_isVariable_17 () rfl (by decide) (Or.inl ⟨rfl, c1, c9⟩)

abbrev rr_variable : Room := { frames := 0, cells := 0, slots := 0, locals := 0 }
theorem ri_variable : ∀ w ∈ u_ws RX1 TX1 14, w ∈ wsX1_variable := by decide +kernel
set_option maxHeartbeats 4000000 in
set_option maxRecDepth 100000 in
theorem r_variable {l : Launch} {D : va_G} {h : Nat → Nat} {k : Nat → ClassId} {pn hg : Int32} {vP vO vG pD mV mF mM pX pY se pl : Nat → Int32} (nv : Nat) (x o gv : Int32) (hnv : nv ≤ 20) (ho : o = 0 ∨ o = 1) (hgv : gv = 0 ∨ gv = 1) : ct l yX1_variable wsX1_variable rr_variable D vwCl (rfT k) [.ref (h 0), .int x, .int o, .int gv] (rfW h k (nI nv) vP vO vG pn pD mV mF mM pX pY se pl hg) (qI D vwCl (rfT k) (fun (r : Int32) (u : Nat × (Nat → Int32) × (Nat → Int32) × (Nat → Int32)) => (r = -1 ∧ (x < 1 ∨ 8 < x ∨ ¬ nv < 20) ∧ u = (nv, vP, vO, vG)) ∨ (r = nI nv ∧ ¬ x < 1 ∧ ¬ 8 < x ∧ nv < 20 ∧ u = (nv + 1, upd vP nv x, upd vO nv o, upd vG nv gv))) (fun u => rfW h k (nI u.1) u.2.1 u.2.2.1 u.2.2.2 pn pD mV mF mM pX pY se pl hg)) 0 0 := by
  refine ct_of (cc := cX1_variable) (maxL := 4) (ret := some .int) (by decide) rfl (Nat.le_of_ble_eq_true rfl) ?_
  intro p e s m below meth c A ls hx hb hr hml hlocks hown hnm hts hA hK hP hD hS hl
  have hown : s.vm.findClass RX1 = some m.cls := hown
  have hin := ri_variable
  have hl : lv_has ls 4 [(0, .ref (h 0)), (1, .int x), (2, .int o), (3, .int gv)] := hl
  refine lv_iload_n hx hb dX1_variable_0 rfl (lv_at hl 1 rfl) ?_
  refine lv_iconst (v := 1) hx hb dX1_variable_1 (by decide) ?_
  refine lv_icmp_lt (tgt := 20) hx hb dX1_variable_2 (by decide) (fun c2 => ?_) (fun c2 => ?_)
  · -- 2 t lt 
    refine lv_iconst (v := (-1)) hx hb dX1_variable_20 (by decide) ?_
    exact ret_i hx hb hr hlocks hK hP hD hS dX1_variable_21 (nv, vP, vO, vG) rfl (Or.inl ⟨rfl, Or.inl c2, rfl⟩)
  · -- 2 f lt 
    refine lv_iload_n hx hb dX1_variable_5 rfl (lv_at hl 1 rfl) ?_
    refine lv_bipush (v := 8) hx hb dX1_variable_6 (by decide) ?_
    refine lv_icmp_gt (tgt := 20) hx hb dX1_variable_8 (by decide) (fun c8 => ?_) (fun c8 => ?_)
    · -- 8 t gt 
      refine lv_iconst (v := (-1)) hx hb dX1_variable_20 (by decide) ?_
      exact ret_i hx hb hr hlocks hK hP hD hS dX1_variable_21 (nv, vP, vO, vG) rfl (Or.inl ⟨rfl, Or.inr (Or.inl c8), rfl⟩)
    · -- 8 f gt 
      refine lv_aload_n hx hb dX1_variable_11 rfl (lv_at hl 0 rfl) ?_
      refine rf_g_vc hx hb hts hin hown hK hP (by decide +kernel) dX1_variable_12 ?_
      refine lv_bipush (v := 20) hx hb dX1_variable_15 (by decide) ?_
      refine lv_icmp_ne (tgt := 22) hx hb dX1_variable_17 (by decide) (fun c17 => ?_) (fun c17 => ?_)
      · -- 17 t ne 
        have n17 : nv < 20 := by
          have h17 : ¬ nv = 20 := fun q => c17 (by rw [q]; rfl)
          omega
        refine lv_aload_n hx hb dX1_variable_22 rfl (lv_at hl 0 rfl) ?_
        refine rf_g_vP hx hb hts hin hown hK hP (by decide +kernel) dX1_variable_23 ?_
        refine lv_aload_n hx hb dX1_variable_26 rfl (lv_at hl 0 rfl) ?_
        refine rf_g_vc hx hb hts hin hown hK hP (by decide +kernel) dX1_variable_27 ?_
        refine lv_iload_n hx hb dX1_variable_30 rfl (lv_at hl 1 rfl) ?_
        refine rf_s_vP (n := nv) (x := x) hx hb hK hP hD hS (by omega) dX1_variable_31 (fun H locs hP hD hS => ?_)
        refine lv_aload_n hx hb dX1_variable_32 rfl (lv_at hl 0 rfl) ?_
        refine rf_g_vO hx hb hts hin hown hK hP (by decide +kernel) dX1_variable_33 ?_
        refine lv_aload_n hx hb dX1_variable_36 rfl (lv_at hl 0 rfl) ?_
        refine rf_g_vc hx hb hts hin hown hK hP (by decide +kernel) dX1_variable_37 ?_
        refine lv_iload_n hx hb dX1_variable_40 rfl (lv_at hl 2 rfl) ?_
        refine rf_s_vO (n := nv) (x := o) hx hb hK hP hD hS (by omega) dX1_variable_41 (by rcases ho with z | z <;> rw [z] <;> decide) (fun H locs hP hD hS => ?_)
        refine lv_aload_n hx hb dX1_variable_42 rfl (lv_at hl 0 rfl) ?_
        refine rf_g_vG hx hb hts hin hown hK hP (by decide +kernel) dX1_variable_43 ?_
        refine lv_aload_n hx hb dX1_variable_46 rfl (lv_at hl 0 rfl) ?_
        refine rf_g_vc hx hb hts hin hown hK hP (by decide +kernel) dX1_variable_47 ?_
        refine lv_iload_n hx hb dX1_variable_50 rfl (lv_at hl 3 rfl) ?_
        refine rf_s_vG (n := nv) (x := gv) hx hb hK hP hD hS (by omega) dX1_variable_51 (by rcases hgv with z | z <;> rw [z] <;> decide) (fun H locs hP hD hS => ?_)
        refine lv_aload_n hx hb dX1_variable_52 rfl (lv_at hl 0 rfl) ?_
        refine lv_dup hx hb dX1_variable_53 rfl ?_
        refine rf_g_vc hx hb hts hin hown hK hP (by decide +kernel) dX1_variable_54 ?_
        refine lv_iconst (v := 1) hx hb dX1_variable_57 (by decide) ?_
        refine lv_iadd hx hb dX1_variable_58 ?_
        refine lv_topi (fun x_1 ex_1 => ?_)
        obtain rfl : x_1 = nI (nv + 1) := ex_1.trans (nI_add nv 1)
        refine rf_p_vc hx hb hts hin hown hK hP hD hS (by decide +kernel) dX1_variable_59 (fun H locs hP hD hS => ?_)
        refine lv_aload_n hx hb dX1_variable_62 rfl (lv_at hl 0 rfl) ?_
        refine rf_g_vc hx hb hts hin hown hK hP (by decide +kernel) dX1_variable_63 ?_
        refine lv_iconst (v := 1) hx hb dX1_variable_66 (by decide) ?_
        refine lv_isub hx hb dX1_variable_67 ?_
        refine lv_topi (fun x_2 ex_2 => ?_)
        obtain rfl : x_2 = nI nv := ex_2.trans (nI_pred nv)
        exact ret_i hx hb hr hlocks hK hP hD hS dX1_variable_68 (nv + 1, upd vP nv x, upd vO nv o, upd vG nv gv) rfl (Or.inr ⟨rfl, c2, c8, n17, rfl⟩)
      · -- 17 f ne 
        have n17 : ¬ nv < 20 := by
          have h17 : nv = 20 := (nI_eq (b := 20) (by omega) (by decide)).mp c17
          omega
        refine lv_iconst (v := (-1)) hx hb dX1_variable_20 (by decide) ?_
        exact ret_i hx hb hr hlocks hK hP hD hS dX1_variable_21 (nv, vP, vO, vG) rfl (Or.inl ⟨rfl, Or.inr (Or.inr n17), rfl⟩)

abbrev rr_point : Room := { frames := 1, cells := 0, slots := 0, locals := 21 }
theorem ri_point : ∀ w ∈ u_ws RX1 TX1 14, w ∈ wsX1_point := by decide +kernel
theorem rp_point_isVariable : cpV wsX1_point RX1 51 RX1 yX1_isVariable wsX1_isVariable cX1_isVariable 2 (some .boolean) 1 := ⟨gX1_point_X1_isVariable, ⟨_, rfl⟩, by decide +kernel⟩
set_option maxHeartbeats 4000000 in
set_option maxRecDepth 100000 in
theorem r_point {l : Launch} {D : va_G} {h : Nat → Nat} {k : Nat → ClassId} {hg : Int32} {vP vO vG pD mV mF mM pX pY se pl : Nat → Int32} (nv np : Nat) (d x a b : Int32) (hnv : nv ≤ 20) (hn : np ≤ 120) : ct l yX1_point wsX1_point rr_point D vwCl (rfT k) [.ref (h 0), .int d, .int x, .int a, .int b] (rfW h k (nI nv) vP vO vG (nI np) pD mV mF mM pX pY se pl hg) (qI D vwCl (rfT k) (fun (r : Int32) (u : Nat × (Nat → Int32) × (Nat → Int32) × (Nat → Int32) × (Nat → Int32) × (Nat → Int32) × (Nat → Int32)) => (r = -1 ∧ ¬ rOK nv np vP d x a b ∧ u = (np, pD, mV, mF, mM, pX, pY)) ∨ (r = nI np ∧ rOK nv np vP d x a b ∧ u = (np + 1, upd pD np d, upd mV np (if d = 0 then -1 else x), upd mF np (if 4 ≤ d then 0 else a), upd mM np (if d = 0 then 0 else if 4 ≤ d then vP (tN x) else b), upd pX np (nI (np + 1)), upd pY np (-1)))) (fun u => rfW h k (nI nv) vP vO vG (nI u.1) u.2.1 u.2.2.1 u.2.2.2.1 u.2.2.2.2.1 u.2.2.2.2.2.1 u.2.2.2.2.2.2 se pl hg)) 0 0 := by
  refine ct_of (cc := cX1_point) (maxL := 6) (ret := some .int) (by decide) rfl (Nat.le_of_ble_eq_true rfl) ?_
  intro p e s m below meth c A ls hx hb hr hml hlocks hown hnm hts hA hK hP hD hS hl
  have hown : s.vm.findClass RX1 = some m.cls := hown
  have hin := ri_point
  have hl : lv_has ls 6 [(0, .ref (h 0)), (1, .int d), (2, .int x), (3, .int a), (4, .int b)] := hl
  refine lv_iload_n hx hb dX1_point_0 rfl (lv_at hl 1 rfl) ?_
  refine lv_if_lt (tgt := 34) hx hb dX1_point_1 (by decide) (fun c1 => ?_) (fun c1 => ?_)
  · -- 1 t lt 
    refine lv_iconst (v := 0) hx hb dX1_point_34 (by decide) ?_
    refine lv_istore (lv' := [(5, .int 0), (0, .ref (h 0)), (1, .int d), (2, .int x), (3, .int a), (4, .int b)]) hx hb dX1_point_35 hl (by decide) rfl (fun ls hl => ?_)
    refine lv_iload hx hb dX1_point_37 (lv_at hl 0 rfl) ?_
    refine lv_if_eq (tgt := 92) hx hb dX1_point_39 (by decide) (fun c39 => ?_) (fun c39 => ?_)
    · -- 39 t eq 
      refine lv_iconst (v := 0) hx hb dX1_point_92 (by decide) ?_
      refine lv_istore (lv' := [(5, .int 0), (0, .ref (h 0)), (1, .int d), (2, .int x), (3, .int a), (4, .int b)]) hx hb dX1_point_93 hl (by decide) rfl (fun ls hl => ?_)
      refine lv_iload hx hb dX1_point_95 (lv_at hl 0 rfl) ?_
      refine lv_if_ne (tgt := 102) hx hb dX1_point_97 (by decide) (fun c97 => ?_) (fun c97 => ?_)
      · -- 97 t ne 
        exact absurd (by decide) c97
      · -- 97 f ne 
        refine lv_iconst (v := (-1)) hx hb dX1_point_100 (by decide) ?_
        exact ret_i hx hb hr hlocks hK hP hD hS dX1_point_101 (np, pD, mV, mF, mM, pX, pY) rfl (Or.inl ⟨rfl, fun q => q.1 c1, rfl⟩)
    · -- 39 f eq 
      exact absurd (by decide) c39
  · -- 1 f lt 
    refine lv_iload_n hx hb dX1_point_4 rfl (lv_at hl 1 rfl) ?_
    refine lv_iconst (v := 5) hx hb dX1_point_5 (by decide) ?_
    refine lv_icmp_gt (tgt := 34) hx hb dX1_point_6 (by decide) (fun c6 => ?_) (fun c6 => ?_)
    · -- 6 t gt 
      refine lv_iconst (v := 0) hx hb dX1_point_34 (by decide) ?_
      refine lv_istore (lv' := [(5, .int 0), (0, .ref (h 0)), (1, .int d), (2, .int x), (3, .int a), (4, .int b)]) hx hb dX1_point_35 hl (by decide) rfl (fun ls hl => ?_)
      refine lv_iload hx hb dX1_point_37 (lv_at hl 0 rfl) ?_
      refine lv_if_eq (tgt := 92) hx hb dX1_point_39 (by decide) (fun c39 => ?_) (fun c39 => ?_)
      · -- 39 t eq 
        refine lv_iconst (v := 0) hx hb dX1_point_92 (by decide) ?_
        refine lv_istore (lv' := [(5, .int 0), (0, .ref (h 0)), (1, .int d), (2, .int x), (3, .int a), (4, .int b)]) hx hb dX1_point_93 hl (by decide) rfl (fun ls hl => ?_)
        refine lv_iload hx hb dX1_point_95 (lv_at hl 0 rfl) ?_
        refine lv_if_ne (tgt := 102) hx hb dX1_point_97 (by decide) (fun c97 => ?_) (fun c97 => ?_)
        · -- 97 t ne 
          exact absurd (by decide) c97
        · -- 97 f ne 
          refine lv_iconst (v := (-1)) hx hb dX1_point_100 (by decide) ?_
          exact ret_i hx hb hr hlocks hK hP hD hS dX1_point_101 (np, pD, mV, mF, mM, pX, pY) rfl (Or.inl ⟨rfl, fun q => q.2.1 c6, rfl⟩)
      · -- 39 f eq 
        exact absurd (by decide) c39
    · -- 6 f gt 
      refine lv_aload_n hx hb dX1_point_9 rfl (lv_at hl 0 rfl) ?_
      refine rf_g_pn hx hb hts hin hown hK hP (by decide +kernel) dX1_point_10 ?_
      refine lv_bipush (v := 120) hx hb dX1_point_13 (by decide) ?_
      refine lv_icmp_ge (tgt := 34) hx hb dX1_point_15 (by decide) (fun c15 => ?_) (fun c15 => ?_)
      · -- 15 t ge 
        have n15 : ¬ np < 120 := by
          have h15 : 120 ≤ np := (nI_leI (a := 120) (by decide) (by omega)).mp c15
          omega
        refine lv_iconst (v := 0) hx hb dX1_point_34 (by decide) ?_
        refine lv_istore (lv' := [(5, .int 0), (0, .ref (h 0)), (1, .int d), (2, .int x), (3, .int a), (4, .int b)]) hx hb dX1_point_35 hl (by decide) rfl (fun ls hl => ?_)
        refine lv_iload hx hb dX1_point_37 (lv_at hl 0 rfl) ?_
        refine lv_if_eq (tgt := 92) hx hb dX1_point_39 (by decide) (fun c39 => ?_) (fun c39 => ?_)
        · -- 39 t eq 
          refine lv_iconst (v := 0) hx hb dX1_point_92 (by decide) ?_
          refine lv_istore (lv' := [(5, .int 0), (0, .ref (h 0)), (1, .int d), (2, .int x), (3, .int a), (4, .int b)]) hx hb dX1_point_93 hl (by decide) rfl (fun ls hl => ?_)
          refine lv_iload hx hb dX1_point_95 (lv_at hl 0 rfl) ?_
          refine lv_if_ne (tgt := 102) hx hb dX1_point_97 (by decide) (fun c97 => ?_) (fun c97 => ?_)
          · -- 97 t ne 
            exact absurd (by decide) c97
          · -- 97 f ne 
            refine lv_iconst (v := (-1)) hx hb dX1_point_100 (by decide) ?_
            exact ret_i hx hb hr hlocks hK hP hD hS dX1_point_101 (np, pD, mV, mF, mM, pX, pY) rfl (Or.inl ⟨rfl, fun q => n15 q.2.2.1, rfl⟩)
        · -- 39 f eq 
          exact absurd (by decide) c39
      · -- 15 f ge 
        have n15 : np < 120 := by
          have h15 : ¬ 120 ≤ np := fun q => c15 ((nI_leI (a := 120) (by decide) (by omega)).mpr q)
          omega
        refine lv_iload_n hx hb dX1_point_18 rfl (lv_at hl 1 rfl) ?_
        refine lv_if_eq (tgt := 30) hx hb dX1_point_19 (by decide) (fun c19 => ?_) (fun c19 => ?_)
        · -- 19 t eq 
          subst c19
          refine lv_iconst (v := 1) hx hb dX1_point_30 (by decide) ?_
          refine lv_goto (tgt := 35) hx hb dX1_point_31 (by decide) ?_
          refine lv_istore (lv' := [(5, .int 1), (0, .ref (h 0)), (1, .int 0), (2, .int x), (3, .int a), (4, .int b)]) hx hb dX1_point_35 hl (by decide) rfl (fun ls hl => ?_)
          refine lv_iload hx hb dX1_point_37 (lv_at hl 0 rfl) ?_
          refine lv_if_eq (tgt := 92) hx hb dX1_point_39 (by decide) (fun c39 => ?_) (fun c39 => ?_)
          · -- 39 t eq 
            exact absurd c39 (by decide)
          · -- 39 f eq 
            refine lv_iload_n hx hb dX1_point_42 rfl (lv_at hl 2 rfl) ?_
            refine lv_iconst (v := 1) hx hb dX1_point_43 (by decide) ?_
            refine lv_icmp_lt (tgt := 88) hx hb dX1_point_44 (by decide) (fun c44 => ?_) (fun c44 => ?_)
            · -- 44 t lt 
              refine lv_iconst (v := 1) hx hb dX1_point_88 (by decide) ?_
              refine lv_goto (tgt := 93) hx hb dX1_point_89 (by decide) ?_
              refine lv_istore (lv' := [(5, .int 1), (0, .ref (h 0)), (1, .int 0), (2, .int x), (3, .int a), (4, .int b)]) hx hb dX1_point_93 hl (by decide) rfl (fun ls hl => ?_)
              refine lv_iload hx hb dX1_point_95 (lv_at hl 0 rfl) ?_
              refine lv_if_ne (tgt := 102) hx hb dX1_point_97 (by decide) (fun c97 => ?_) (fun c97 => ?_)
              · -- 97 t ne 
                have hok : rOK nv np vP 0 x a b := ⟨c1, c6, n15, Or.inl rfl⟩
                refine lv_aload_n hx hb dX1_point_102 rfl (lv_at hl 1 rfl) ?_
                refine rf_g_pD hx hb hts hin hown hK hP (by decide +kernel) dX1_point_103 ?_
                refine lv_aload_n hx hb dX1_point_106 rfl (lv_at hl 1 rfl) ?_
                refine rf_g_pn hx hb hts hin hown hK hP (by decide +kernel) dX1_point_107 ?_
                refine lv_iload_n hx hb dX1_point_110 rfl (lv_at hl 2 rfl) ?_
                refine rf_s_pD (n := np) (x := 0) hx hb hK hP hD hS (by omega) dX1_point_111 (fun H locs hP hD hS => ?_)
                refine lv_aload_n hx hb dX1_point_112 rfl (lv_at hl 1 rfl) ?_
                refine rf_g_mV hx hb hts hin hown hK hP (by decide +kernel) dX1_point_113 ?_
                refine lv_aload_n hx hb dX1_point_116 rfl (lv_at hl 1 rfl) ?_
                refine rf_g_pn hx hb hts hin hown hK hP (by decide +kernel) dX1_point_117 ?_
                refine lv_iload_n hx hb dX1_point_120 rfl (lv_at hl 2 rfl) ?_
                refine lv_if_ne (tgt := 128) hx hb dX1_point_121 (by decide) (fun c121 => ?_) (fun c121 => ?_)
                · -- 121 t ne 
                  exact absurd (by decide) c121
                · -- 121 f ne 
                  refine lv_iconst (v := (-1)) hx hb dX1_point_124 (by decide) ?_
                  refine lv_goto (tgt := 129) hx hb dX1_point_125 (by decide) ?_
                  refine rf_s_mV (n := np) (x := (-1)) hx hb hK hP hD hS (by omega) dX1_point_129 (fun H locs hP hD hS => ?_)
                  refine lv_aload_n hx hb dX1_point_130 rfl (lv_at hl 1 rfl) ?_
                  refine rf_g_mF hx hb hts hin hown hK hP (by decide +kernel) dX1_point_131 ?_
                  refine lv_aload_n hx hb dX1_point_134 rfl (lv_at hl 1 rfl) ?_
                  refine rf_g_pn hx hb hts hin hown hK hP (by decide +kernel) dX1_point_135 ?_
                  refine lv_iload_n hx hb dX1_point_138 rfl (lv_at hl 2 rfl) ?_
                  refine lv_iconst (v := 4) hx hb dX1_point_139 (by decide) ?_
                  refine lv_icmp_ge (tgt := 147) hx hb dX1_point_140 (by decide) (fun c140 => ?_) (fun c140 => ?_)
                  · -- 140 t ge 
                    exact absurd c140 (by decide)
                  · -- 140 f ge 
                    refine lv_iload_n hx hb dX1_point_143 rfl (lv_at hl 4 rfl) ?_
                    refine lv_goto (tgt := 148) hx hb dX1_point_144 (by decide) ?_
                    refine rf_s_mF (n := np) (x := a) hx hb hK hP hD hS (by omega) dX1_point_148 (fun H locs hP hD hS => ?_)
                    refine lv_aload_n hx hb dX1_point_149 rfl (lv_at hl 1 rfl) ?_
                    refine rf_g_mM hx hb hts hin hown hK hP (by decide +kernel) dX1_point_150 ?_
                    refine lv_aload_n hx hb dX1_point_153 rfl (lv_at hl 1 rfl) ?_
                    refine rf_g_pn hx hb hts hin hown hK hP (by decide +kernel) dX1_point_154 ?_
                    refine lv_iload_n hx hb dX1_point_157 rfl (lv_at hl 2 rfl) ?_
                    refine lv_if_ne (tgt := 165) hx hb dX1_point_158 (by decide) (fun c158 => ?_) (fun c158 => ?_)
                    · -- 158 t ne 
                      exact absurd (by decide) c158
                    · -- 158 f ne 
                      refine lv_iconst (v := 0) hx hb dX1_point_161 (by decide) ?_
                      refine lv_goto (tgt := 181) hx hb dX1_point_162 (by decide) ?_
                      refine rf_s_mM (n := np) (x := 0) hx hb hK hP hD hS (by omega) dX1_point_181 (fun H locs hP hD hS => ?_)
                      refine lv_aload_n hx hb dX1_point_182 rfl (lv_at hl 1 rfl) ?_
                      refine rf_g_pX hx hb hts hin hown hK hP (by decide +kernel) dX1_point_183 ?_
                      refine lv_aload_n hx hb dX1_point_186 rfl (lv_at hl 1 rfl) ?_
                      refine rf_g_pn hx hb hts hin hown hK hP (by decide +kernel) dX1_point_187 ?_
                      refine lv_aload_n hx hb dX1_point_190 rfl (lv_at hl 1 rfl) ?_
                      refine rf_g_pn hx hb hts hin hown hK hP (by decide +kernel) dX1_point_191 ?_
                      refine lv_iconst (v := 1) hx hb dX1_point_194 (by decide) ?_
                      refine lv_iadd hx hb dX1_point_195 ?_
                      refine lv_topi (fun x_1 ex_1 => ?_)
                      obtain rfl : x_1 = nI (np + 1) := ex_1.trans (nI_add np 1)
                      refine rf_s_pX (n := np) (x := nI (np + 1)) hx hb hK hP hD hS (by omega) dX1_point_196 (fun H locs hP hD hS => ?_)
                      refine lv_aload_n hx hb dX1_point_197 rfl (lv_at hl 1 rfl) ?_
                      refine rf_g_pY hx hb hts hin hown hK hP (by decide +kernel) dX1_point_198 ?_
                      refine lv_aload_n hx hb dX1_point_201 rfl (lv_at hl 1 rfl) ?_
                      refine rf_g_pn hx hb hts hin hown hK hP (by decide +kernel) dX1_point_202 ?_
                      refine lv_iconst (v := (-1)) hx hb dX1_point_205 (by decide) ?_
                      refine rf_s_pY (n := np) (x := (-1)) hx hb hK hP hD hS (by omega) dX1_point_206 (fun H locs hP hD hS => ?_)
                      refine lv_aload_n hx hb dX1_point_207 rfl (lv_at hl 1 rfl) ?_
                      refine lv_dup hx hb dX1_point_208 rfl ?_
                      refine rf_g_pn hx hb hts hin hown hK hP (by decide +kernel) dX1_point_209 ?_
                      refine lv_iconst (v := 1) hx hb dX1_point_212 (by decide) ?_
                      refine lv_iadd hx hb dX1_point_213 ?_
                      refine lv_topi (fun x_2 ex_2 => ?_)
                      obtain rfl : x_2 = nI (np + 1) := ex_2.trans (nI_add np 1)
                      refine rf_p_pn hx hb hts hin hown hK hP hD hS (by decide +kernel) dX1_point_214 (fun H locs hP hD hS => ?_)
                      refine lv_aload_n hx hb dX1_point_217 rfl (lv_at hl 1 rfl) ?_
                      refine rf_g_pn hx hb hts hin hown hK hP (by decide +kernel) dX1_point_218 ?_
                      refine lv_iconst (v := 1) hx hb dX1_point_221 (by decide) ?_
                      refine lv_isub hx hb dX1_point_222 ?_
                      refine lv_topi (fun x_3 ex_3 => ?_)
                      obtain rfl : x_3 = nI np := ex_3.trans (nI_pred np)
                      exact ret_i hx hb hr hlocks hK hP hD hS dX1_point_223 (np + 1, upd pD np 0, upd mV np (-1), upd mF np a, upd mM np 0, upd pX np (nI (np + 1)), upd pY np (-1)) rfl (Or.inr ⟨rfl, hok, by simp []⟩)
              · -- 97 f ne 
                exact absurd c97 (by decide)
            · -- 44 f lt 
              exact absurd (by decide) c44
        · -- 19 f eq 
          refine lv_aload_n hx hb dX1_point_22 rfl (lv_at hl 0 rfl) ?_
          refine lv_iload_n hx hb dX1_point_23 rfl (lv_at hl 2 rfl) ?_
          refine call_vi (As := [.int x]) (rest := []) ⟨hx, hb, hml, hown, hts⟩ (r_isVariable x) rp_point_isVariable ⟨rfl, rfl⟩ ⟨Nat.le_of_ble_eq_true rfl, Nat.le_of_ble_eq_true rfl⟩ rfl rfl 0 rfl rfl hl.1 rfl (Nat.le_of_ble_eq_true rfl) dX1_point_24 ⟨Nat.zero_le _, Nat.zero_le _⟩ hK hP hD hS hA (fun r24 u H locs p24 hP hD hS => ?_)
          try dsimp only at p24
          refine lv_if_eq (tgt := 34) hx hb dX1_point_27 (by decide) (fun c27 => ?_) (fun c27 => ?_)
          · -- 27 t eq 
            refine lv_iconst (v := 0) hx hb dX1_point_34 (by decide) ?_
            refine lv_istore (lv' := [(5, .int 0), (0, .ref (h 0)), (1, .int d), (2, .int x), (3, .int a), (4, .int b)]) hx hb dX1_point_35 hl (by decide) rfl (fun ls hl => ?_)
            refine lv_iload hx hb dX1_point_37 (lv_at hl 0 rfl) ?_
            refine lv_if_eq (tgt := 92) hx hb dX1_point_39 (by decide) (fun c39 => ?_) (fun c39 => ?_)
            · -- 39 t eq 
              refine lv_iconst (v := 0) hx hb dX1_point_92 (by decide) ?_
              refine lv_istore (lv' := [(5, .int 0), (0, .ref (h 0)), (1, .int d), (2, .int x), (3, .int a), (4, .int b)]) hx hb dX1_point_93 hl (by decide) rfl (fun ls hl => ?_)
              refine lv_iload hx hb dX1_point_95 (lv_at hl 0 rfl) ?_
              refine lv_if_ne (tgt := 102) hx hb dX1_point_97 (by decide) (fun c97 => ?_) (fun c97 => ?_)
              · -- 97 t ne 
                exact absurd (by decide) c97
              · -- 97 f ne 
                refine lv_iconst (v := (-1)) hx hb dX1_point_100 (by decide) ?_
                exact ret_i hx hb hr hlocks hK hP hD hS dX1_point_101 (np, pD, mV, mF, mM, pX, pY) rfl (Or.inl ⟨rfl, fun q => q.2.2.2.elim c19 (fun z => yn_no p24 c27 z.1), rfl⟩)
            · -- 39 f eq 
              exact absurd (by decide) c39
          · -- 27 f eq 
            obtain ⟨v, hv, rfl⟩ := pt_in rfl (by omega) p24 c27
            have hv31 : v < 2 ^ 31 := by omega
            refine lv_iconst (v := 1) hx hb dX1_point_30 (by decide) ?_
            refine lv_goto (tgt := 35) hx hb dX1_point_31 (by decide) ?_
            refine lv_istore (lv' := [(5, .int 1), (0, .ref (h 0)), (1, .int d), (2, .int (nI v)), (3, .int a), (4, .int b)]) hx hb dX1_point_35 hl (by decide) rfl (fun ls hl => ?_)
            refine lv_iload hx hb dX1_point_37 (lv_at hl 0 rfl) ?_
            refine lv_if_eq (tgt := 92) hx hb dX1_point_39 (by decide) (fun c39 => ?_) (fun c39 => ?_)
            · -- 39 t eq 
              exact absurd c39 (by decide)
            · -- 39 f eq 
              refine lv_iload_n hx hb dX1_point_42 rfl (lv_at hl 2 rfl) ?_
              refine lv_iconst (v := 1) hx hb dX1_point_43 (by decide) ?_
              refine lv_icmp_lt (tgt := 88) hx hb dX1_point_44 (by decide) (fun c44 => ?_) (fun c44 => ?_)
              · -- 44 t lt 
                exact absurd c44 (lt1_of c1 c19)
              · -- 44 f lt 
                refine lv_iload_n hx hb dX1_point_47 rfl (lv_at hl 2 rfl) ?_
                refine lv_iconst (v := 3) hx hb dX1_point_48 (by decide) ?_
                refine lv_icmp_gt (tgt := 88) hx hb dX1_point_49 (by decide) (fun c49 => ?_) (fun c49 => ?_)
                · -- 49 t gt 
                  refine lv_iconst (v := 1) hx hb dX1_point_88 (by decide) ?_
                  refine lv_goto (tgt := 93) hx hb dX1_point_89 (by decide) ?_
                  refine lv_istore (lv' := [(5, .int 1), (0, .ref (h 0)), (1, .int d), (2, .int (nI v)), (3, .int a), (4, .int b)]) hx hb dX1_point_93 hl (by decide) rfl (fun ls hl => ?_)
                  refine lv_iload hx hb dX1_point_95 (lv_at hl 0 rfl) ?_
                  refine lv_if_ne (tgt := 102) hx hb dX1_point_97 (by decide) (fun c97 => ?_) (fun c97 => ?_)
                  · -- 97 t ne 
                    have hok : rOK nv np vP d (nI v) a b := ⟨c1, c6, n15, Or.inr ⟨yn_yes p24 c27, Or.inr (Or.inl c49)⟩⟩
                    have hd0 : ¬ d = 0 := c19
                    have hd4 : 4 ≤ d := ge4_of c49
                    refine lv_aload_n hx hb dX1_point_102 rfl (lv_at hl 1 rfl) ?_
                    refine rf_g_pD hx hb hts hin hown hK hP (by decide +kernel) dX1_point_103 ?_
                    refine lv_aload_n hx hb dX1_point_106 rfl (lv_at hl 1 rfl) ?_
                    refine rf_g_pn hx hb hts hin hown hK hP (by decide +kernel) dX1_point_107 ?_
                    refine lv_iload_n hx hb dX1_point_110 rfl (lv_at hl 2 rfl) ?_
                    refine rf_s_pD (n := np) (x := d) hx hb hK hP hD hS (by omega) dX1_point_111 (fun H locs hP hD hS => ?_)
                    refine lv_aload_n hx hb dX1_point_112 rfl (lv_at hl 1 rfl) ?_
                    refine rf_g_mV hx hb hts hin hown hK hP (by decide +kernel) dX1_point_113 ?_
                    refine lv_aload_n hx hb dX1_point_116 rfl (lv_at hl 1 rfl) ?_
                    refine rf_g_pn hx hb hts hin hown hK hP (by decide +kernel) dX1_point_117 ?_
                    refine lv_iload_n hx hb dX1_point_120 rfl (lv_at hl 2 rfl) ?_
                    refine lv_if_ne (tgt := 128) hx hb dX1_point_121 (by decide) (fun c121 => ?_) (fun c121 => ?_)
                    · -- 121 t ne 
                      refine lv_iload_n hx hb dX1_point_128 rfl (lv_at hl 3 rfl) ?_
                      refine rf_s_mV (n := np) (x := nI v) hx hb hK hP hD hS (by omega) dX1_point_129 (fun H locs hP hD hS => ?_)
                      refine lv_aload_n hx hb dX1_point_130 rfl (lv_at hl 1 rfl) ?_
                      refine rf_g_mF hx hb hts hin hown hK hP (by decide +kernel) dX1_point_131 ?_
                      refine lv_aload_n hx hb dX1_point_134 rfl (lv_at hl 1 rfl) ?_
                      refine rf_g_pn hx hb hts hin hown hK hP (by decide +kernel) dX1_point_135 ?_
                      refine lv_iload_n hx hb dX1_point_138 rfl (lv_at hl 2 rfl) ?_
                      refine lv_iconst (v := 4) hx hb dX1_point_139 (by decide) ?_
                      refine lv_icmp_ge (tgt := 147) hx hb dX1_point_140 (by decide) (fun c140 => ?_) (fun c140 => ?_)
                      · -- 140 t ge 
                        refine lv_iconst (v := 0) hx hb dX1_point_147 (by decide) ?_
                        refine rf_s_mF (n := np) (x := 0) hx hb hK hP hD hS (by omega) dX1_point_148 (fun H locs hP hD hS => ?_)
                        refine lv_aload_n hx hb dX1_point_149 rfl (lv_at hl 1 rfl) ?_
                        refine rf_g_mM hx hb hts hin hown hK hP (by decide +kernel) dX1_point_150 ?_
                        refine lv_aload_n hx hb dX1_point_153 rfl (lv_at hl 1 rfl) ?_
                        refine rf_g_pn hx hb hts hin hown hK hP (by decide +kernel) dX1_point_154 ?_
                        refine lv_iload_n hx hb dX1_point_157 rfl (lv_at hl 2 rfl) ?_
                        refine lv_if_ne (tgt := 165) hx hb dX1_point_158 (by decide) (fun c158 => ?_) (fun c158 => ?_)
                        · -- 158 t ne 
                          refine lv_iload_n hx hb dX1_point_165 rfl (lv_at hl 2 rfl) ?_
                          refine lv_iconst (v := 4) hx hb dX1_point_166 (by decide) ?_
                          refine lv_icmp_ge (tgt := 175) hx hb dX1_point_167 (by decide) (fun c167 => ?_) (fun c167 => ?_)
                          · -- 167 t ge 
                            refine lv_aload_n hx hb dX1_point_175 rfl (lv_at hl 1 rfl) ?_
                            refine rf_g_vP hx hb hts hin hown hK hP (by decide +kernel) dX1_point_176 ?_
                            refine lv_iload_n hx hb dX1_point_179 rfl (lv_at hl 3 rfl) ?_
                            refine rf_l_vP (n := v) hx hb hK hP (by omega) dX1_point_180 ?_
                            refine rf_s_mM (n := np) (x := vP v) hx hb hK hP hD hS (by omega) dX1_point_181 (fun H locs hP hD hS => ?_)
                            refine lv_aload_n hx hb dX1_point_182 rfl (lv_at hl 1 rfl) ?_
                            refine rf_g_pX hx hb hts hin hown hK hP (by decide +kernel) dX1_point_183 ?_
                            refine lv_aload_n hx hb dX1_point_186 rfl (lv_at hl 1 rfl) ?_
                            refine rf_g_pn hx hb hts hin hown hK hP (by decide +kernel) dX1_point_187 ?_
                            refine lv_aload_n hx hb dX1_point_190 rfl (lv_at hl 1 rfl) ?_
                            refine rf_g_pn hx hb hts hin hown hK hP (by decide +kernel) dX1_point_191 ?_
                            refine lv_iconst (v := 1) hx hb dX1_point_194 (by decide) ?_
                            refine lv_iadd hx hb dX1_point_195 ?_
                            refine lv_topi (fun x_4 ex_4 => ?_)
                            obtain rfl : x_4 = nI (np + 1) := ex_4.trans (nI_add np 1)
                            refine rf_s_pX (n := np) (x := nI (np + 1)) hx hb hK hP hD hS (by omega) dX1_point_196 (fun H locs hP hD hS => ?_)
                            refine lv_aload_n hx hb dX1_point_197 rfl (lv_at hl 1 rfl) ?_
                            refine rf_g_pY hx hb hts hin hown hK hP (by decide +kernel) dX1_point_198 ?_
                            refine lv_aload_n hx hb dX1_point_201 rfl (lv_at hl 1 rfl) ?_
                            refine rf_g_pn hx hb hts hin hown hK hP (by decide +kernel) dX1_point_202 ?_
                            refine lv_iconst (v := (-1)) hx hb dX1_point_205 (by decide) ?_
                            refine rf_s_pY (n := np) (x := (-1)) hx hb hK hP hD hS (by omega) dX1_point_206 (fun H locs hP hD hS => ?_)
                            refine lv_aload_n hx hb dX1_point_207 rfl (lv_at hl 1 rfl) ?_
                            refine lv_dup hx hb dX1_point_208 rfl ?_
                            refine rf_g_pn hx hb hts hin hown hK hP (by decide +kernel) dX1_point_209 ?_
                            refine lv_iconst (v := 1) hx hb dX1_point_212 (by decide) ?_
                            refine lv_iadd hx hb dX1_point_213 ?_
                            refine lv_topi (fun x_5 ex_5 => ?_)
                            obtain rfl : x_5 = nI (np + 1) := ex_5.trans (nI_add np 1)
                            refine rf_p_pn hx hb hts hin hown hK hP hD hS (by decide +kernel) dX1_point_214 (fun H locs hP hD hS => ?_)
                            refine lv_aload_n hx hb dX1_point_217 rfl (lv_at hl 1 rfl) ?_
                            refine rf_g_pn hx hb hts hin hown hK hP (by decide +kernel) dX1_point_218 ?_
                            refine lv_iconst (v := 1) hx hb dX1_point_221 (by decide) ?_
                            refine lv_isub hx hb dX1_point_222 ?_
                            refine lv_topi (fun x_6 ex_6 => ?_)
                            obtain rfl : x_6 = nI np := ex_6.trans (nI_pred np)
                            exact ret_i hx hb hr hlocks hK hP hD hS dX1_point_223 (np + 1, upd pD np d, upd mV np (nI v), upd mF np 0, upd mM np (vP v), upd pX np (nI (np + 1)), upd pY np (-1)) rfl (Or.inr ⟨rfl, hok, by simp [hd0, hd4, tN_nI hv31]⟩)
                          · -- 167 f ge 
                            exact absurd hd4 c167
                        · -- 158 f ne 
                          exact absurd c158 hd0
                      · -- 140 f ge 
                        exact absurd hd4 c140
                    · -- 121 f ne 
                      exact absurd c121 hd0
                  · -- 97 f ne 
                    exact absurd c97 (by decide)
                · -- 49 f gt 
                  refine lv_iload_n hx hb dX1_point_52 rfl (lv_at hl 4 rfl) ?_
                  refine lv_if_lt (tgt := 92) hx hb dX1_point_53 (by decide) (fun c53 => ?_) (fun c53 => ?_)
                  · -- 53 t lt 
                    refine lv_iconst (v := 0) hx hb dX1_point_92 (by decide) ?_
                    refine lv_istore (lv' := [(5, .int 0), (0, .ref (h 0)), (1, .int d), (2, .int (nI v)), (3, .int a), (4, .int b)]) hx hb dX1_point_93 hl (by decide) rfl (fun ls hl => ?_)
                    refine lv_iload hx hb dX1_point_95 (lv_at hl 0 rfl) ?_
                    refine lv_if_ne (tgt := 102) hx hb dX1_point_97 (by decide) (fun c97 => ?_) (fun c97 => ?_)
                    · -- 97 t ne 
                      exact absurd (by decide) c97
                    · -- 97 f ne 
                      refine lv_iconst (v := (-1)) hx hb dX1_point_100 (by decide) ?_
                      exact ret_i hx hb hr hlocks hK hP hD hS dX1_point_101 (np, pD, mV, mF, mM, pX, pY) rfl (Or.inl ⟨rfl, fun q => q.2.2.2.elim c19 (fun z => z.2.elim c44 (fun z => z.elim c49 (fun z => z.1 c53))), rfl⟩)
                  · -- 53 f lt 
                    refine lv_iload hx hb dX1_point_56 (lv_at hl 5 rfl) ?_
                    refine lv_iconst (v := 1) hx hb dX1_point_58 (by decide) ?_
                    refine lv_icmp_lt (tgt := 92) hx hb dX1_point_59 (by decide) (fun c59 => ?_) (fun c59 => ?_)
                    · -- 59 t lt 
                      refine lv_iconst (v := 0) hx hb dX1_point_92 (by decide) ?_
                      refine lv_istore (lv' := [(5, .int 0), (0, .ref (h 0)), (1, .int d), (2, .int (nI v)), (3, .int a), (4, .int b)]) hx hb dX1_point_93 hl (by decide) rfl (fun ls hl => ?_)
                      refine lv_iload hx hb dX1_point_95 (lv_at hl 0 rfl) ?_
                      refine lv_if_ne (tgt := 102) hx hb dX1_point_97 (by decide) (fun c97 => ?_) (fun c97 => ?_)
                      · -- 97 t ne 
                        exact absurd (by decide) c97
                      · -- 97 f ne 
                        refine lv_iconst (v := (-1)) hx hb dX1_point_100 (by decide) ?_
                        exact ret_i hx hb hr hlocks hK hP hD hS dX1_point_101 (np, pD, mV, mF, mM, pX, pY) rfl (Or.inl ⟨rfl, fun q => q.2.2.2.elim c19 (fun z => z.2.elim c44 (fun z => z.elim c49 (fun z => z.2.1 c59))), rfl⟩)
                    · -- 59 f lt 
                      refine lv_iload_n hx hb dX1_point_62 rfl (lv_at hl 4 rfl) ?_
                      refine lv_bipush (v := 8) hx hb dX1_point_63 (by decide) ?_
                      refine lv_icmp_ge (tgt := 92) hx hb dX1_point_65 (by decide) (fun c65 => ?_) (fun c65 => ?_)
                      · -- 65 t ge 
                        refine lv_iconst (v := 0) hx hb dX1_point_92 (by decide) ?_
                        refine lv_istore (lv' := [(5, .int 0), (0, .ref (h 0)), (1, .int d), (2, .int (nI v)), (3, .int a), (4, .int b)]) hx hb dX1_point_93 hl (by decide) rfl (fun ls hl => ?_)
                        refine lv_iload hx hb dX1_point_95 (lv_at hl 0 rfl) ?_
                        refine lv_if_ne (tgt := 102) hx hb dX1_point_97 (by decide) (fun c97 => ?_) (fun c97 => ?_)
                        · -- 97 t ne 
                          exact absurd (by decide) c97
                        · -- 97 f ne 
                          refine lv_iconst (v := (-1)) hx hb dX1_point_100 (by decide) ?_
                          exact ret_i hx hb hr hlocks hK hP hD hS dX1_point_101 (np, pD, mV, mF, mM, pX, pY) rfl (Or.inl ⟨rfl, fun q => q.2.2.2.elim c19 (fun z => z.2.elim c44 (fun z => z.elim c49 (fun z => z.2.2.1 c65))), rfl⟩)
                      · -- 65 f ge 
                        refine lv_iload hx hb dX1_point_68 (lv_at hl 5 rfl) ?_
                        refine lv_bipush (v := 8) hx hb dX1_point_70 (by decide) ?_
                        refine lv_icmp_gt (tgt := 92) hx hb dX1_point_72 (by decide) (fun c72 => ?_) (fun c72 => ?_)
                        · -- 72 t gt 
                          refine lv_iconst (v := 0) hx hb dX1_point_92 (by decide) ?_
                          refine lv_istore (lv' := [(5, .int 0), (0, .ref (h 0)), (1, .int d), (2, .int (nI v)), (3, .int a), (4, .int b)]) hx hb dX1_point_93 hl (by decide) rfl (fun ls hl => ?_)
                          refine lv_iload hx hb dX1_point_95 (lv_at hl 0 rfl) ?_
                          refine lv_if_ne (tgt := 102) hx hb dX1_point_97 (by decide) (fun c97 => ?_) (fun c97 => ?_)
                          · -- 97 t ne 
                            exact absurd (by decide) c97
                          · -- 97 f ne 
                            refine lv_iconst (v := (-1)) hx hb dX1_point_100 (by decide) ?_
                            exact ret_i hx hb hr hlocks hK hP hD hS dX1_point_101 (np, pD, mV, mF, mM, pX, pY) rfl (Or.inl ⟨rfl, fun q => q.2.2.2.elim c19 (fun z => z.2.elim c44 (fun z => z.elim c49 (fun z => z.2.2.2.1 c72))), rfl⟩)
                        · -- 72 f gt 
                          refine lv_iload_n hx hb dX1_point_75 rfl (lv_at hl 4 rfl) ?_
                          refine lv_iload hx hb dX1_point_76 (lv_at hl 5 rfl) ?_
                          refine lv_iadd hx hb dX1_point_78 ?_
                          refine lv_aload_n hx hb dX1_point_79 rfl (lv_at hl 1 rfl) ?_
                          refine rf_g_vP hx hb hts hin hown hK hP (by decide +kernel) dX1_point_80 ?_
                          refine lv_iload_n hx hb dX1_point_83 rfl (lv_at hl 3 rfl) ?_
                          refine rf_l_vP (n := v) hx hb hK hP (by omega) dX1_point_84 ?_
                          refine lv_icmp_gt (tgt := 92) hx hb dX1_point_85 (by decide) (fun c85 => ?_) (fun c85 => ?_)
                          · -- 85 t gt 
                            refine lv_iconst (v := 0) hx hb dX1_point_92 (by decide) ?_
                            refine lv_istore (lv' := [(5, .int 0), (0, .ref (h 0)), (1, .int d), (2, .int (nI v)), (3, .int a), (4, .int b)]) hx hb dX1_point_93 hl (by decide) rfl (fun ls hl => ?_)
                            refine lv_iload hx hb dX1_point_95 (lv_at hl 0 rfl) ?_
                            refine lv_if_ne (tgt := 102) hx hb dX1_point_97 (by decide) (fun c97 => ?_) (fun c97 => ?_)
                            · -- 97 t ne 
                              exact absurd (by decide) c97
                            · -- 97 f ne 
                              refine lv_iconst (v := (-1)) hx hb dX1_point_100 (by decide) ?_
                              exact ret_i hx hb hr hlocks hK hP hD hS dX1_point_101 (np, pD, mV, mF, mM, pX, pY) rfl (Or.inl ⟨rfl, fun q => q.2.2.2.elim c19 (fun z => z.2.elim c44 (fun z => z.elim c49 (fun z => z.2.2.2.2 (by rw [tN_nI hv31]; exact c85)))), rfl⟩)
                          · -- 85 f gt 
                            refine lv_iconst (v := 1) hx hb dX1_point_88 (by decide) ?_
                            refine lv_goto (tgt := 93) hx hb dX1_point_89 (by decide) ?_
                            refine lv_istore (lv' := [(5, .int 1), (0, .ref (h 0)), (1, .int d), (2, .int (nI v)), (3, .int a), (4, .int b)]) hx hb dX1_point_93 hl (by decide) rfl (fun ls hl => ?_)
                            refine lv_iload hx hb dX1_point_95 (lv_at hl 0 rfl) ?_
                            refine lv_if_ne (tgt := 102) hx hb dX1_point_97 (by decide) (fun c97 => ?_) (fun c97 => ?_)
                            · -- 97 t ne 
                              have hok : rOK nv np vP d (nI v) a b := ⟨c1, c6, n15, Or.inr ⟨yn_yes p24 c27, Or.inr (Or.inr ⟨c53, c59, c65, c72, by rw [tN_nI hv31]; exact c85⟩)⟩⟩
                              have hd0 : ¬ d = 0 := c19
                              have hd4 : ¬ 4 ≤ d := nge4_of c49
                              refine lv_aload_n hx hb dX1_point_102 rfl (lv_at hl 1 rfl) ?_
                              refine rf_g_pD hx hb hts hin hown hK hP (by decide +kernel) dX1_point_103 ?_
                              refine lv_aload_n hx hb dX1_point_106 rfl (lv_at hl 1 rfl) ?_
                              refine rf_g_pn hx hb hts hin hown hK hP (by decide +kernel) dX1_point_107 ?_
                              refine lv_iload_n hx hb dX1_point_110 rfl (lv_at hl 2 rfl) ?_
                              refine rf_s_pD (n := np) (x := d) hx hb hK hP hD hS (by omega) dX1_point_111 (fun H locs hP hD hS => ?_)
                              refine lv_aload_n hx hb dX1_point_112 rfl (lv_at hl 1 rfl) ?_
                              refine rf_g_mV hx hb hts hin hown hK hP (by decide +kernel) dX1_point_113 ?_
                              refine lv_aload_n hx hb dX1_point_116 rfl (lv_at hl 1 rfl) ?_
                              refine rf_g_pn hx hb hts hin hown hK hP (by decide +kernel) dX1_point_117 ?_
                              refine lv_iload_n hx hb dX1_point_120 rfl (lv_at hl 2 rfl) ?_
                              refine lv_if_ne (tgt := 128) hx hb dX1_point_121 (by decide) (fun c121 => ?_) (fun c121 => ?_)
                              · -- 121 t ne 
                                refine lv_iload_n hx hb dX1_point_128 rfl (lv_at hl 3 rfl) ?_
                                refine rf_s_mV (n := np) (x := nI v) hx hb hK hP hD hS (by omega) dX1_point_129 (fun H locs hP hD hS => ?_)
                                refine lv_aload_n hx hb dX1_point_130 rfl (lv_at hl 1 rfl) ?_
                                refine rf_g_mF hx hb hts hin hown hK hP (by decide +kernel) dX1_point_131 ?_
                                refine lv_aload_n hx hb dX1_point_134 rfl (lv_at hl 1 rfl) ?_
                                refine rf_g_pn hx hb hts hin hown hK hP (by decide +kernel) dX1_point_135 ?_
                                refine lv_iload_n hx hb dX1_point_138 rfl (lv_at hl 2 rfl) ?_
                                refine lv_iconst (v := 4) hx hb dX1_point_139 (by decide) ?_
                                refine lv_icmp_ge (tgt := 147) hx hb dX1_point_140 (by decide) (fun c140 => ?_) (fun c140 => ?_)
                                · -- 140 t ge 
                                  exact absurd c140 hd4
                                · -- 140 f ge 
                                  refine lv_iload_n hx hb dX1_point_143 rfl (lv_at hl 4 rfl) ?_
                                  refine lv_goto (tgt := 148) hx hb dX1_point_144 (by decide) ?_
                                  refine rf_s_mF (n := np) (x := a) hx hb hK hP hD hS (by omega) dX1_point_148 (fun H locs hP hD hS => ?_)
                                  refine lv_aload_n hx hb dX1_point_149 rfl (lv_at hl 1 rfl) ?_
                                  refine rf_g_mM hx hb hts hin hown hK hP (by decide +kernel) dX1_point_150 ?_
                                  refine lv_aload_n hx hb dX1_point_153 rfl (lv_at hl 1 rfl) ?_
                                  refine rf_g_pn hx hb hts hin hown hK hP (by decide +kernel) dX1_point_154 ?_
                                  refine lv_iload_n hx hb dX1_point_157 rfl (lv_at hl 2 rfl) ?_
                                  refine lv_if_ne (tgt := 165) hx hb dX1_point_158 (by decide) (fun c158 => ?_) (fun c158 => ?_)
                                  · -- 158 t ne 
                                    refine lv_iload_n hx hb dX1_point_165 rfl (lv_at hl 2 rfl) ?_
                                    refine lv_iconst (v := 4) hx hb dX1_point_166 (by decide) ?_
                                    refine lv_icmp_ge (tgt := 175) hx hb dX1_point_167 (by decide) (fun c167 => ?_) (fun c167 => ?_)
                                    · -- 167 t ge 
                                      exact absurd c167 hd4
                                    · -- 167 f ge 
                                      refine lv_iload hx hb dX1_point_170 (lv_at hl 5 rfl) ?_
                                      refine lv_goto (tgt := 181) hx hb dX1_point_172 (by decide) ?_
                                      refine rf_s_mM (n := np) (x := b) hx hb hK hP hD hS (by omega) dX1_point_181 (fun H locs hP hD hS => ?_)
                                      refine lv_aload_n hx hb dX1_point_182 rfl (lv_at hl 1 rfl) ?_
                                      refine rf_g_pX hx hb hts hin hown hK hP (by decide +kernel) dX1_point_183 ?_
                                      refine lv_aload_n hx hb dX1_point_186 rfl (lv_at hl 1 rfl) ?_
                                      refine rf_g_pn hx hb hts hin hown hK hP (by decide +kernel) dX1_point_187 ?_
                                      refine lv_aload_n hx hb dX1_point_190 rfl (lv_at hl 1 rfl) ?_
                                      refine rf_g_pn hx hb hts hin hown hK hP (by decide +kernel) dX1_point_191 ?_
                                      refine lv_iconst (v := 1) hx hb dX1_point_194 (by decide) ?_
                                      refine lv_iadd hx hb dX1_point_195 ?_
                                      refine lv_topi (fun x_7 ex_7 => ?_)
                                      obtain rfl : x_7 = nI (np + 1) := ex_7.trans (nI_add np 1)
                                      refine rf_s_pX (n := np) (x := nI (np + 1)) hx hb hK hP hD hS (by omega) dX1_point_196 (fun H locs hP hD hS => ?_)
                                      refine lv_aload_n hx hb dX1_point_197 rfl (lv_at hl 1 rfl) ?_
                                      refine rf_g_pY hx hb hts hin hown hK hP (by decide +kernel) dX1_point_198 ?_
                                      refine lv_aload_n hx hb dX1_point_201 rfl (lv_at hl 1 rfl) ?_
                                      refine rf_g_pn hx hb hts hin hown hK hP (by decide +kernel) dX1_point_202 ?_
                                      refine lv_iconst (v := (-1)) hx hb dX1_point_205 (by decide) ?_
                                      refine rf_s_pY (n := np) (x := (-1)) hx hb hK hP hD hS (by omega) dX1_point_206 (fun H locs hP hD hS => ?_)
                                      refine lv_aload_n hx hb dX1_point_207 rfl (lv_at hl 1 rfl) ?_
                                      refine lv_dup hx hb dX1_point_208 rfl ?_
                                      refine rf_g_pn hx hb hts hin hown hK hP (by decide +kernel) dX1_point_209 ?_
                                      refine lv_iconst (v := 1) hx hb dX1_point_212 (by decide) ?_
                                      refine lv_iadd hx hb dX1_point_213 ?_
                                      refine lv_topi (fun x_8 ex_8 => ?_)
                                      obtain rfl : x_8 = nI (np + 1) := ex_8.trans (nI_add np 1)
                                      refine rf_p_pn hx hb hts hin hown hK hP hD hS (by decide +kernel) dX1_point_214 (fun H locs hP hD hS => ?_)
                                      refine lv_aload_n hx hb dX1_point_217 rfl (lv_at hl 1 rfl) ?_
                                      refine rf_g_pn hx hb hts hin hown hK hP (by decide +kernel) dX1_point_218 ?_
                                      refine lv_iconst (v := 1) hx hb dX1_point_221 (by decide) ?_
                                      refine lv_isub hx hb dX1_point_222 ?_
                                      refine lv_topi (fun x_9 ex_9 => ?_)
                                      obtain rfl : x_9 = nI np := ex_9.trans (nI_pred np)
                                      exact ret_i hx hb hr hlocks hK hP hD hS dX1_point_223 (np + 1, upd pD np d, upd mV np (nI v), upd mF np a, upd mM np b, upd pX np (nI (np + 1)), upd pY np (-1)) rfl (Or.inr ⟨rfl, hok, by simp [hd0, hd4, tN_nI hv31]⟩)
                                  · -- 158 f ne 
                                    exact absurd c158 hd0
                              · -- 121 f ne 
                                exact absurd c121 hd0
                            · -- 97 f ne 
                              exact absurd c97 (by decide)

abbrev rr_next : Room := { frames := 1, cells := 0, slots := 0, locals := 21 }
theorem ri_next : ∀ w ∈ u_ws RX1 TX1 14, w ∈ wsX1_next := by decide +kernel
theorem rp_next_isPoint : cpV wsX1_next RX1 55 RX1 yX1_isPoint wsX1_isPoint cX1_isPoint 2 (some .boolean) 1 := ⟨gX1_next_X1_isPoint, ⟨_, rfl⟩, by decide +kernel⟩
set_option maxHeartbeats 4000000 in
set_option maxRecDepth 100000 in
theorem r_next {l : Launch} {D : va_G} {h : Nat → Nat} {k : Nat → ClassId} {vc hg : Int32} {vP vO vG pD mV mF mM pX pY se pl : Nat → Int32} (np : Nat) (x y z : Int32) (hn : np ≤ 120) : ct l yX1_next wsX1_next rr_next D vwCl (rfT k) [.ref (h 0), .int x, .int y, .int z] (rfW h k vc vP vO vG (nI np) pD mV mF mM pX pY se pl hg) (qI D vwCl (rfT k) (fun (r : Int32) (u : (Nat → Int32) × (Nat → Int32)) => (r = 0 ∧ ((∀ j, j < np → ¬ x = nI j) ∨ ¬ cbn y ∨ ¬ cbn z) ∧ u = (pX, pY)) ∨ (r = 1 ∧ ∃ j, j < np ∧ x = nI j ∧ cbn y ∧ cbn z ∧ u = (upd pX j y, upd pY j z))) (fun u => rfW h k vc vP vO vG (nI np) pD mV mF mM u.1 u.2 se pl hg)) 0 0 := by
  refine ct_of (cc := cX1_next) (maxL := 4) (ret := some .boolean) (by decide) rfl (Nat.le_of_ble_eq_true rfl) ?_
  intro p e s m below meth c A ls hx hb hr hml hlocks hown hnm hts hA hK hP hD hS hl
  have hown : s.vm.findClass RX1 = some m.cls := hown
  have hin := ri_next
  have hl : lv_has ls 4 [(0, .ref (h 0)), (1, .int x), (2, .int y), (3, .int z)] := hl
  refine lv_aload_n hx hb dX1_next_0 rfl (lv_at hl 0 rfl) ?_
  refine lv_iload_n hx hb dX1_next_1 rfl (lv_at hl 1 rfl) ?_
  refine call_vi (As := [.int x]) (rest := []) ⟨hx, hb, hml, hown, hts⟩ (r_isPoint x) rp_next_isPoint ⟨rfl, rfl⟩ ⟨Nat.le_of_ble_eq_true rfl, Nat.le_of_ble_eq_true rfl⟩ rfl rfl 0 rfl rfl hl.1 rfl (Nat.le_of_ble_eq_true rfl) dX1_next_2 ⟨Nat.zero_le _, Nat.zero_le _⟩ hK hP hD hS hA (fun r2 u H locs p2 hP hD hS => ?_)
  try dsimp only at p2
  refine lv_if_eq (tgt := 30) hx hb dX1_next_5 (by decide) (fun c5 => ?_) (fun c5 => ?_)
  · -- 5 t eq 
    refine lv_iconst (v := 0) hx hb dX1_next_30 (by decide) ?_
    exact ret_z hx hb hr hlocks hK hP hD hS dX1_next_31 (pX, pY) rfl (by decide) (Or.inl ⟨rfl, Or.inl (pt_out rfl hn p2 c5), rfl⟩)
  · -- 5 f eq 
    obtain ⟨j, hj, rfl⟩ := pt_in rfl hn p2 c5
    refine lv_iload_n hx hb dX1_next_8 rfl (lv_at hl 2 rfl) ?_
    refine lv_iconst (v := (-1)) hx hb dX1_next_9 (by decide) ?_
    refine lv_icmp_lt (tgt := 30) hx hb dX1_next_10 (by decide) (fun c10 => ?_) (fun c10 => ?_)
    · -- 10 t lt 
      refine lv_iconst (v := 0) hx hb dX1_next_30 (by decide) ?_
      exact ret_z hx hb hr hlocks hK hP hD hS dX1_next_31 (pX, pY) rfl (by decide) (Or.inl ⟨rfl, Or.inr (Or.inl (fun q => q.1 c10)), rfl⟩)
    · -- 10 f lt 
      refine lv_iload_n hx hb dX1_next_13 rfl (lv_at hl 2 rfl) ?_
      refine lv_bipush (v := 120) hx hb dX1_next_14 (by decide) ?_
      refine lv_icmp_ge (tgt := 30) hx hb dX1_next_16 (by decide) (fun c16 => ?_) (fun c16 => ?_)
      · -- 16 t ge 
        refine lv_iconst (v := 0) hx hb dX1_next_30 (by decide) ?_
        exact ret_z hx hb hr hlocks hK hP hD hS dX1_next_31 (pX, pY) rfl (by decide) (Or.inl ⟨rfl, Or.inr (Or.inl (fun q => q.2 c16)), rfl⟩)
      · -- 16 f ge 
        refine lv_iload_n hx hb dX1_next_19 rfl (lv_at hl 3 rfl) ?_
        refine lv_iconst (v := (-1)) hx hb dX1_next_20 (by decide) ?_
        refine lv_icmp_lt (tgt := 30) hx hb dX1_next_21 (by decide) (fun c21 => ?_) (fun c21 => ?_)
        · -- 21 t lt 
          refine lv_iconst (v := 0) hx hb dX1_next_30 (by decide) ?_
          exact ret_z hx hb hr hlocks hK hP hD hS dX1_next_31 (pX, pY) rfl (by decide) (Or.inl ⟨rfl, Or.inr (Or.inr (fun q => q.1 c21)), rfl⟩)
        · -- 21 f lt 
          refine lv_iload_n hx hb dX1_next_24 rfl (lv_at hl 3 rfl) ?_
          refine lv_bipush (v := 120) hx hb dX1_next_25 (by decide) ?_
          refine lv_icmp_lt (tgt := 32) hx hb dX1_next_27 (by decide) (fun c27 => ?_) (fun c27 => ?_)
          · -- 27 t lt 
            refine lv_aload_n hx hb dX1_next_32 rfl (lv_at hl 0 rfl) ?_
            refine rf_g_pX hx hb hts hin hown hK hP (by decide +kernel) dX1_next_33 ?_
            refine lv_iload_n hx hb dX1_next_36 rfl (lv_at hl 1 rfl) ?_
            refine lv_iload_n hx hb dX1_next_37 rfl (lv_at hl 2 rfl) ?_
            refine rf_s_pX (n := j) (x := y) hx hb hK hP hD hS (by omega) dX1_next_38 (fun H locs hP hD hS => ?_)
            refine lv_aload_n hx hb dX1_next_39 rfl (lv_at hl 0 rfl) ?_
            refine rf_g_pY hx hb hts hin hown hK hP (by decide +kernel) dX1_next_40 ?_
            refine lv_iload_n hx hb dX1_next_43 rfl (lv_at hl 1 rfl) ?_
            refine lv_iload_n hx hb dX1_next_44 rfl (lv_at hl 3 rfl) ?_
            refine rf_s_pY (n := j) (x := z) hx hb hK hP hD hS (by omega) dX1_next_45 (fun H locs hP hD hS => ?_)
            refine lv_iconst (v := 1) hx hb dX1_next_46 (by decide) ?_
            exact ret_z hx hb hr hlocks hK hP hD hS dX1_next_47 (upd pX j y, upd pY j z) rfl (by decide) (Or.inr ⟨rfl, j, hj, rfl, ⟨c10, c16⟩, ⟨c21, nle_of_lt c27⟩, rfl⟩)
          · -- 27 f lt 
            refine lv_iconst (v := 0) hx hb dX1_next_30 (by decide) ?_
            exact ret_z hx hb hr hlocks hK hP hD hS dX1_next_31 (pX, pY) rfl (by decide) (Or.inl ⟨rfl, Or.inr (Or.inr (fun q => q.2 (le_of_nlt c27))), rfl⟩)

abbrev rr_clear : Room := { frames := 0, cells := 0, slots := 0, locals := 0 }
theorem ri_clear : ∀ w ∈ u_ws RX1 TX1 14, w ∈ wsX1_clear := by decide +kernel
set_option maxHeartbeats 4000000 in
set_option maxRecDepth 100000 in
theorem r_clear {l : Launch} {D : va_G} {h : Nat → Nat} {k : Nat → ClassId} {vc hg : Int32} {vP vO vG pD mV mF mM pX pY se pl : Nat → Int32} (np : Nat)  : ct l yX1_clear wsX1_clear rr_clear D vwCl (rfT k) [.ref (h 0)] (rfW h k vc vP vO vG (nI np) pD mV mF mM pX pY se pl hg) (qI D vwCl (rfT k) (fun (r : Int32) (u : Unit) => r = nI np) (fun u => rfW h k vc vP vO vG (nI 0) pD mV mF mM pX pY se pl hg)) 0 0 := by
  refine ct_of (cc := cX1_clear) (maxL := 2) (ret := some .int) (by decide) rfl (Nat.le_of_ble_eq_true rfl) ?_
  intro p e s m below meth c A ls hx hb hr hml hlocks hown hnm hts hA hK hP hD hS hl
  have hown : s.vm.findClass RX1 = some m.cls := hown
  have hin := ri_clear
  have hl : lv_has ls 2 [(0, .ref (h 0))] := hl
  refine lv_aload_n hx hb dX1_clear_0 rfl (lv_at hl 0 rfl) ?_
  refine rf_g_pn hx hb hts hin hown hK hP (by decide +kernel) dX1_clear_1 ?_
  refine lv_istore_n (lv' := [(1, .int (nI np)), (0, .ref (h 0))]) hx hb dX1_clear_4 rfl hl (by decide) rfl (fun ls hl => ?_)
  refine lv_aload_n hx hb dX1_clear_5 rfl (lv_at hl 1 rfl) ?_
  refine lv_iconst (v := nI 0) hx hb dX1_clear_6 (by decide) ?_
  refine rf_p_pn hx hb hts hin hown hK hP hD hS (by decide +kernel) dX1_clear_7 (fun H locs hP hD hS => ?_)
  refine lv_iload_n hx hb dX1_clear_10 rfl (lv_at hl 0 rfl) ?_
  exact ret_i hx hb hr hlocks hK hP hD hS dX1_clear_11 () rfl (rfl)

