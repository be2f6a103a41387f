abbrev rm_lowBits : Room := { frames := 0, cells := 0, slots := 0, locals := 0 }
set_option maxHeartbeats 4000000 in
set_option maxRecDepth 100000 in
theorem c_lowBits {l : Launch} {D : va_G} {tys : List (ClassId × FieldType)} (x : Int32)  : ct l yX0_lowBits wsX0_lowBits rm_lowBits D vwCl tys [.int x] ([]) (qI D vwCl tys (fun (r : Int32) (u : Unit) => r = lb x) (fun _ => [])) 0 0 := by
  refine ct_of (cc := cX0_lowBits) (maxL := 1) (ret := some .int) (by decide) rfl (Nat.le_of_ble_eq_true rfl) ?_
  intro p e s m below meth c A ls hx hb hr hml hlocks hown hnm hts hA hK hP hD hS hl
  have hown : s.vm.findClass RX0 = some m.cls := hown
  have hl : lv_has ls 1 [(0, .int x)] := hl
  refine lv_iconst (v := 1) hx hb dX0_lowBits_0 (by decide) ?_
  refine lv_iload_n hx hb dX0_lowBits_1 rfl (lv_at hl 0 rfl) ?_
  refine lv_ishl hx hb dX0_lowBits_2 ?_
  refine lv_iconst (v := 1) hx hb dX0_lowBits_3 (by decide) ?_
  refine lv_isub hx hb dX0_lowBits_4 ?_
  exact ret_i hx hb hr hlocks hK hP hD hS dX0_lowBits_5 () rfl (rfl)

abbrev rm_canBeNext : Room := { frames := 0, cells := 0, slots := 0, locals := 0 }
set_option maxHeartbeats 4000000 in
set_option maxRecDepth 100000 in
theorem c_canBeNext {l : Launch} {D : va_G} {tys : List (ClassId × FieldType)} (x : Int32)  : ct l yX0_canBeNext wsX0_canBeNext rm_canBeNext D vwCl tys [.int x] ([]) (qI D vwCl tys (fun (r : Int32) (u : Unit) => (r = 1 ∧ ¬ x < (-1) ∧ ¬ 120 ≤ x) ∨ (r = 0 ∧ ¬ (¬ x < (-1) ∧ ¬ 120 ≤ x))) (fun _ => [])) 0 0 := by
  refine ct_of (cc := cX0_canBeNext) (maxL := 1) (ret := some .boolean) (by decide) rfl (Nat.le_of_ble_eq_true rfl) ?_
  intro p e s m below meth c A ls hx hb hr hml hlocks hown hnm hts hA hK hP hD hS hl
  have hown : s.vm.findClass RX0 = some m.cls := hown
  have hl : lv_has ls 1 [(0, .int x)] := hl
  refine lv_iload_n hx hb dX0_canBeNext_0 rfl (lv_at hl 0 rfl) ?_
  refine lv_iconst (v := (-1)) hx hb dX0_canBeNext_1 (by decide) ?_
  refine lv_icmp_lt (tgt := 15) hx hb dX0_canBeNext_2 (by decide) (fun c2 => ?_) (fun c2 => ?_)
  · -- 2 t lt 
    refine lv_iconst (v := 0) hx hb dX0_canBeNext_15 (by decide) ?_
    exact ret_z hx hb hr hlocks hK hP hD hS dX0_canBeNext_16 () rfl (by decide) (Or.inr ⟨rfl, fun q => q.1 c2⟩)
  · -- 2 f lt 
    refine lv_iload_n hx hb dX0_canBeNext_5 rfl (lv_at hl 0 rfl) ?_
    refine lv_bipush (v := 120) hx hb dX0_canBeNext_6 (by decide) ?_
    refine lv_icmp_ge (tgt := 15) hx hb dX0_canBeNext_8 (by decide) (fun c8 => ?_) (fun c8 => ?_)
    · -- 8 t ge 
      refine lv_iconst (v := 0) hx hb dX0_canBeNext_15 (by decide) ?_
      exact ret_z hx hb hr hlocks hK hP hD hS dX0_canBeNext_16 () rfl (by decide) (Or.inr ⟨rfl, fun q => q.2 c8⟩)
    · -- 8 f ge 
      refine lv_iconst (v := 1) hx hb dX0_canBeNext_11 (by decide) ?_
      refine lv_goto (tgt := 16) hx hb dX0_canBeNext_12 (by decide) ?_
      exact ret_z hx hb hr hlocks hK hP hD hS dX0_canBeNext_16 () rfl (by decide) (Or.inl ⟨rfl, c2, c8⟩)

abbrev rm_isOfSomeParts : Room := { frames := 0, cells := 0, slots := 0, locals := 0 }
set_option maxHeartbeats 4000000 in
set_option maxRecDepth 100000 in
theorem c_isOfSomeParts {l : Launch} {D : va_G} {tys : List (ClassId × FieldType)} (x : Int32)  : ct l yX0_isOfSomeParts wsX0_isOfSomeParts rm_isOfSomeParts D vwCl tys [.int x] ([]) (qI D vwCl tys (fun (r : Int32) (u : Unit) => (r = 1 ∧ (x = 1 ∨ x = 2 ∨ x = 3)) ∨ (r = 0 ∧ ¬ (x = 1 ∨ x = 2 ∨ x = 3))) (fun _ => [])) 0 0 := by
  refine ct_of (cc := cX0_isOfSomeParts) (maxL := 1) (ret := some .boolean) (by decide) rfl (Nat.le_of_ble_eq_true rfl) ?_
  intro p e s m below meth c A ls hx hb hr hml hlocks hown hnm hts hA hK hP hD hS hl
  have hown : s.vm.findClass RX0 = some m.cls := hown
  have hl : lv_has ls 1 [(0, .int x)] := hl
  refine lv_iload_n hx hb dX0_isOfSomeParts_0 rfl (lv_at hl 0 rfl) ?_
  refine lv_iconst (v := 1) hx hb dX0_isOfSomeParts_1 (by decide) ?_
  refine lv_icmp_eq (tgt := 15) hx hb dX0_isOfSomeParts_2 (by decide) (fun c2 => ?_) (fun c2 => ?_)
  · -- 2 t eq 
    refine lv_iconst (v := 1) hx hb dX0_isOfSomeParts_15 (by decide) ?_
    refine lv_goto (tgt := 20) hx hb dX0_isOfSomeParts_16 (by decide) ?_
    exact ret_z hx hb hr hlocks hK hP hD hS dX0_isOfSomeParts_20 () rfl (by decide) (Or.inl ⟨rfl, Or.inl c2⟩)
  · -- 2 f eq 
    refine lv_iload_n hx hb dX0_isOfSomeParts_5 rfl (lv_at hl 0 rfl) ?_
    refine lv_iconst (v := 2) hx hb dX0_isOfSomeParts_6 (by decide) ?_
    refine lv_icmp_eq (tgt := 15) hx hb dX0_isOfSomeParts_7 (by decide) (fun c7 => ?_) (fun c7 => ?_)
    · -- 7 t eq 
      refine lv_iconst (v := 1) hx hb dX0_isOfSomeParts_15 (by decide) ?_
      refine lv_goto (tgt := 20) hx hb dX0_isOfSomeParts_16 (by decide) ?_
      exact ret_z hx hb hr hlocks hK hP hD hS dX0_isOfSomeParts_20 () rfl (by decide) (Or.inl ⟨rfl, Or.inr (Or.inl c7)⟩)
    · -- 7 f eq 
      refine lv_iload_n hx hb dX0_isOfSomeParts_10 rfl (lv_at hl 0 rfl) ?_
      refine lv_iconst (v := 3) hx hb dX0_isOfSomeParts_11 (by decide) ?_
      refine lv_icmp_ne (tgt := 19) hx hb dX0_isOfSomeParts_12 (by decide) (fun c12 => ?_) (fun c12 => ?_)
      · -- 12 t ne 
        refine lv_iconst (v := 0) hx hb dX0_isOfSomeParts_19 (by decide) ?_
        exact ret_z hx hb hr hlocks hK hP hD hS dX0_isOfSomeParts_20 () rfl (by decide) (Or.inr ⟨rfl, fun q => q.elim c2 (fun q => q.elim c7 c12)⟩)
      · -- 12 f ne 
        refine lv_iconst (v := 1) hx hb dX0_isOfSomeParts_15 (by decide) ?_
        refine lv_goto (tgt := 20) hx hb dX0_isOfSomeParts_16 (by decide) ?_
        exact ret_z hx hb hr hlocks hK hP hD hS dX0_isOfSomeParts_20 () rfl (by decide) (Or.inl ⟨rfl, Or.inr (Or.inr c12)⟩)

abbrev rm_wordOf : Room := { frames := 0, cells := 0, slots := 0, locals := 0 }
set_option maxHeartbeats 4000000 in
set_option maxRecDepth 100000 in
theorem c_wordOf {l : Launch} {D : va_G} {tys : List (ClassId × FieldType)} (n : Nat) (hn : n < 2 ^ 31) : ct l yX0_wordOf wsX0_wordOf rm_wordOf D vwCl tys [.int (nI n)] ([]) (qI D vwCl tys (fun (r : Int32) (u : Unit) => r = nI (n / 8)) (fun _ => [])) 0 0 := by
  refine ct_of (cc := cX0_wordOf) (maxL := 1) (ret := some .int) (by decide) rfl (Nat.le_of_ble_eq_true rfl) ?_
  intro p e s m below meth c A ls hx hb hr hml hlocks hown hnm hts hA hK hP hD hS hl
  have hown : s.vm.findClass RX0 = some m.cls := hown
  have hl : lv_has ls 1 [(0, .int (nI n))] := hl
  refine lv_iload_n hx hb dX0_wordOf_0 rfl (lv_at hl 0 rfl) ?_
  refine lv_bipush (v := 8) hx hb dX0_wordOf_1 (by decide) ?_
  refine lv_idiv hx hb dX0_wordOf_3 (by decide) ?_
  exact ret_i hx hb hr hlocks hK hP hD hS dX0_wordOf_4 () rfl (pk_div hn (by decide) (by decide))

abbrev rm_shiftOf : Room := { frames := 0, cells := 0, slots := 0, locals := 0 }
set_option maxHeartbeats 4000000 in
set_option maxRecDepth 100000 in
theorem c_shiftOf {l : Launch} {D : va_G} {tys : List (ClassId × FieldType)} (n : Nat) (hn : n < 2 ^ 31) : ct l yX0_shiftOf wsX0_shiftOf rm_shiftOf D vwCl tys [.int (nI n)] ([]) (qI D vwCl tys (fun (r : Int32) (u : Unit) => r = nI (n % 8 * 8)) (fun _ => [])) 0 0 := by
  refine ct_of (cc := cX0_shiftOf) (maxL := 1) (ret := some .int) (by decide) rfl (Nat.le_of_ble_eq_true rfl) ?_
  intro p e s m below meth c A ls hx hb hr hml hlocks hown hnm hts hA hK hP hD hS hl
  have hown : s.vm.findClass RX0 = some m.cls := hown
  have hl : lv_has ls 1 [(0, .int (nI n))] := hl
  refine lv_iload_n hx hb dX0_shiftOf_0 rfl (lv_at hl 0 rfl) ?_
  refine lv_bipush (v := 8) hx hb dX0_shiftOf_1 (by decide) ?_
  refine lv_irem hx hb dX0_shiftOf_3 (by decide) ?_
  refine lv_topi (fun x_1 ex_1 => ?_)
  obtain rfl : x_1 = nI (n % 8) := ex_1.trans (pk_rem hn (by decide) (by decide))
  refine lv_bipush (v := 8) hx hb dX0_shiftOf_4 (by decide) ?_
  refine lv_imul hx hb dX0_shiftOf_6 ?_
  refine lv_topi (fun x_2 ex_2 => ?_)
  obtain rfl : x_2 = nI ((n % 8) * 8) := ex_2.trans (pk_mul (n % 8) 8)
  exact ret_i hx hb hr hlocks hK hP hD hS dX0_shiftOf_7 () rfl (rfl)

abbrev rm_inWord : Room := { frames := 1, cells := 0, slots := 0, locals := 20 }
theorem cp_inWord_shiftOf : cpS wsX0_inWord RX0 113 yX0_shiftOf wsX0_shiftOf cX0_shiftOf 1 (some .int) 1 := ⟨gX0_inWord_X0_shiftOf, ⟨_, rfl⟩, by decide +kernel⟩
set_option maxHeartbeats 4000000 in
set_option maxRecDepth 100000 in
theorem c_inWord {l : Launch} {D : va_G} {tys : List (ClassId × FieldType)} (n b : Nat) (hn : n < 2 ^ 31) (hb9 : b < 2 ^ 31) : ct l yX0_inWord wsX0_inWord rm_inWord D vwCl tys [.int (nI n), .int (nI b)] ([]) (qL D vwCl tys (fun (r : Int64) (u : Unit) => r = mkw n b) (fun _ => [])) 0 0 := by
  refine ct_of (cc := cX0_inWord) (maxL := 2) (ret := some .long) (by decide) rfl (Nat.le_of_ble_eq_true rfl) ?_
  intro p e s m below meth c A ls hx hb hr hml hlocks hown hnm hts hA hK hP hD hS hl
  have hown : s.vm.findClass RX0 = some m.cls := hown
  have hl : lv_has ls 2 [(0, .int (nI n)), (1, .int (nI b))] := hl
  refine lv_iload_n hx hb dX0_inWord_0 rfl (lv_at hl 1 rfl) ?_
  refine lv_i2l (v := (nI b).toInt64) hx hb dX0_inWord_1 rfl ?_
  refine lv_iload_n hx hb dX0_inWord_2 rfl (lv_at hl 0 rfl) ?_
  refine call_si (As := [.int (nI n)]) (rest := [.long ((nI b).toInt64)]) ⟨hx, hb, hml, hown, hts⟩ (c_shiftOf n hn) cp_inWord_shiftOf ⟨rfl, rfl⟩ ⟨Nat.le_of_ble_eq_true rfl, Nat.le_of_ble_eq_true rfl⟩ rfl hl.1 rfl (Nat.le_of_ble_eq_true rfl) dX0_inWord_3 ⟨Nat.zero_le _, Nat.zero_le _⟩ hK hP hS hA (fun r3 u H locs p3 hP hS => ?_)
  try dsimp only at p3
  obtain rfl := p3
  refine lv_lshl (v := ((nI b).toInt64) <<< ((nI (n % 8 * 8)).toInt64 &&& 63)) hx hb dX0_inWord_6 rfl ?_
  exact ret_l hx hb hr hlocks hK hP hD hS dX0_inWord_7 () rfl (mkw_of hb9)

abbrev rm_isPoint : Room := { frames := 0, cells := 0, slots := 0, locals := 0 }
theorem in_isPoint : ∀ w ∈ u_ws RX0 TX0 18, w ∈ wsX0_isPoint := by decide +kernel
set_option maxHeartbeats 4000000 in
set_option maxRecDepth 100000 in
theorem c_isPoint {l : Launch} {D : va_G} {h : Nat → Nat} {k : Nat → ClassId} {vc pn sv hd wn : Int32} {vP vO vG pD pV pB pX pY rc wt iw : Nat → Int32} {ah be : Nat → Int64} (x : Int32)  : ct l yX0_isPoint wsX0_isPoint rm_isPoint D vwCl (pfT k) [.ref (h 0), .int x] (pfW h k vc vP vO vG pn pD pV pB pX pY sv rc ah be wt iw hd wn) (qI D vwCl (pfT k) (fun (r : Int32) (u : Unit) => (r = 1 ∧ ¬ x < 0 ∧ ¬ pn ≤ x) ∨ (r = 0 ∧ ¬ (¬ x < 0 ∧ ¬ pn ≤ x))) (fun _ => pfW h k vc vP vO vG pn pD pV pB pX pY sv rc ah be wt iw hd wn)) 0 0 := by
  refine ct_of (cc := cX0_isPoint) (maxL := 2) (ret := some .boolean) (by decide) rfl (Nat.le_of_ble_eq_true rfl) ?_
  intro p e s m below meth c A ls hx hb hr hml hlocks hown hnm hts hA hK hP hD hS hl
  have hown : s.vm.findClass RX0 = some m.cls := hown
  have hin := in_isPoint
  have hl : lv_has ls 2 [(0, .ref (h 0)), (1, .int x)] := hl
  refine lv_iload_n hx hb dX0_isPoint_0 rfl (lv_at hl 1 rfl) ?_
  refine lv_if_lt (tgt := 16) hx hb dX0_isPoint_1 (by decide) (fun c1 => ?_) (fun c1 => ?_)
  · -- 1 t lt 
    refine lv_iconst (v := 0) hx hb dX0_isPoint_16 (by decide) ?_
    exact ret_z hx hb hr hlocks hK hP hD hS dX0_isPoint_17 () rfl (by decide) (Or.inr ⟨rfl, fun q => q.1 c1⟩)
  · -- 1 f lt 
    refine lv_iload_n hx hb dX0_isPoint_4 rfl (lv_at hl 1 rfl) ?_
    refine lv_aload_n hx hb dX0_isPoint_5 rfl (lv_at hl 0 rfl) ?_
    refine pf_g_pn hx hb hts hin hown hK hP (by decide +kernel) dX0_isPoint_6 ?_
    refine lv_icmp_ge (tgt := 16) hx hb dX0_isPoint_9 (by decide) (fun c9 => ?_) (fun c9 => ?_)
    · -- 9 t ge 
      refine lv_iconst (v := 0) hx hb dX0_isPoint_16 (by decide) ?_
      exact ret_z hx hb hr hlocks hK hP hD hS dX0_isPoint_17 () rfl (by decide) (Or.inr ⟨rfl, fun q => q.2 c9⟩)
    · -- 9 f ge 
      refine lv_iconst (v := 1) hx hb dX0_isPoint_12 (by decide) ?_
      refine lv_goto (tgt := 17) hx hb dX0_isPoint_13 (by decide) ?_
      exact ret_z hx hb hr hlocks hK hP hD hS dX0_isPoint_17 () rfl (by decide) (Or.inl ⟨rfl, c1, c9⟩)

abbrev rm_isVariable : Room := { frames := 0, cells := 0, slots := 0, locals := 0 }
theorem in_isVariable : ∀ w ∈ u_ws RX0 TX0 18, w ∈ wsX0_isVariable := by decide +kernel
set_option maxHeartbeats 4000000 in
set_option maxRecDepth 100000 in
theorem c_isVariable {l : Launch} {D : va_G} {h : Nat → Nat} {k : Nat → ClassId} {vc pn sv hd wn : Int32} {vP vO vG pD pV pB pX pY rc wt iw : Nat → Int32} {ah be : Nat → Int64} (x : Int32)  : ct l yX0_isVariable wsX0_isVariable rm_isVariable D vwCl (pfT k) [.ref (h 0), .int x] (pfW h k vc vP vO vG pn pD pV pB pX pY sv rc ah be wt iw hd wn) (qI D vwCl (pfT k) (fun (r : Int32) (u : Unit) => (r = 1 ∧ ¬ x < 0 ∧ ¬ vc ≤ x) ∨ (r = 0 ∧ ¬ (¬ x < 0 ∧ ¬ vc ≤ x))) (fun _ => pfW h k vc vP vO vG pn pD pV pB pX pY sv rc ah be wt iw hd wn)) 0 0 := by
  refine ct_of (cc := cX0_isVariable) (maxL := 2) (ret := some .boolean) (by decide) rfl (Nat.le_of_ble_eq_true rfl) ?_
  intro p e s m below meth c A ls hx hb hr hml hlocks hown hnm hts hA hK hP hD hS hl
  have hown : s.vm.findClass RX0 = some m.cls := hown
  have hin := in_isVariable
  have hl : lv_has ls 2 [(0, .ref (h 0)), (1, .int x)] := hl
  refine lv_iload_n hx hb dX0_isVariable_0 rfl (lv_at hl 1 rfl) ?_
  refine lv_if_lt (tgt := 16) hx hb dX0_isVariable_1 (by decide) (fun c1 => ?_) (fun c1 => ?_)
  · -- 1 t lt 
    refine lv_iconst (v := 0) hx hb dX0_isVariable_16 (by decide) ?_
    exact ret_z hx hb hr hlocks hK hP hD hS dX0_isVariable_17 () rfl (by decide) (Or.inr ⟨rfl, fun q => q.1 c1⟩)
  · -- 1 f lt 
    refine lv_iload_n hx hb dX0_isVariable_4 rfl (lv_at hl 1 rfl) ?_
    refine lv_aload_n hx hb dX0_isVariable_5 rfl (lv_at hl 0 rfl) ?_
    refine pf_g_vc hx hb hts hin hown hK hP (by decide +kernel) dX0_isVariable_6 ?_
    refine lv_icmp_ge (tgt := 16) hx hb dX0_isVariable_9 (by decide) (fun c9 => ?_) (fun c9 => ?_)
    · -- 9 t ge 
      refine lv_iconst (v := 0) hx hb dX0_isVariable_16 (by decide) ?_
      exact ret_z hx hb hr hlocks hK hP hD hS dX0_isVariable_17 () rfl (by decide) (Or.inr ⟨rfl, fun q => q.2 c9⟩)
    · -- 9 f ge 
      refine lv_iconst (v := 1) hx hb dX0_isVariable_12 (by decide) ?_
      refine lv_goto (tgt := 17) hx hb dX0_isVariable_13 (by decide) ?_
      exact ret_z hx hb hr hlocks hK hP hD hS dX0_isVariable_17 () rfl (by decide) (Or.inl ⟨rfl, c1, c9⟩)

abbrev rm_allParts : Room := { frames := 1, cells := 0, slots := 0, locals := 20 }
theorem in_allParts : ∀ w ∈ u_ws RX0 TX0 18, w ∈ wsX0_allParts := by decide +kernel
theorem cp_allParts_lowBits : cpS wsX0_allParts RX0 107 yX0_lowBits wsX0_lowBits cX0_lowBits 1 (some .int) 1 := ⟨gX0_allParts_X0_lowBits, ⟨_, rfl⟩, by decide +kernel⟩
set_option maxHeartbeats 4000000 in
set_option maxRecDepth 100000 in
theorem c_allParts {l : Launch} {D : va_G} {h : Nat → Nat} {k : Nat → ClassId} {vc pn sv hd wn : Int32} {vP vO vG pD pV pB pX pY rc wt iw : Nat → Int32} {ah be : Nat → Int64} (n : Nat) (hn : n < 20) : ct l yX0_allParts wsX0_allParts rm_allParts D vwCl (pfT k) [.ref (h 0), .int (nI n)] (pfW h k vc vP vO vG pn pD pV pB pX pY sv rc ah be wt iw hd wn) (qI D vwCl (pfT k) (fun (r : Int32) (u : Unit) => r = lb (vP n)) (fun _ => pfW h k vc vP vO vG pn pD pV pB pX pY sv rc ah be wt iw hd wn)) 0 0 := by
  refine ct_of (cc := cX0_allParts) (maxL := 2) (ret := some .int) (by decide) rfl (Nat.le_of_ble_eq_true rfl) ?_
  intro p e s m below meth c A ls hx hb hr hml hlocks hown hnm hts hA hK hP hD hS hl
  have hown : s.vm.findClass RX0 = some m.cls := hown
  have hin := in_allParts
  have hl : lv_has ls 2 [(0, .ref (h 0)), (1, .int (nI n))] := hl
  refine lv_aload_n hx hb dX0_allParts_0 rfl (lv_at hl 0 rfl) ?_
  refine pf_g_vP hx hb hts hin hown hK hP (by decide +kernel) dX0_allParts_1 ?_
  refine lv_iload_n hx hb dX0_allParts_4 rfl (lv_at hl 1 rfl) ?_
  refine pf_l_vP (n := n) hx hb hK hP (by omega) dX0_allParts_5 ?_
  refine call_si (As := [.int (vP n)]) (rest := []) ⟨hx, hb, hml, hown, hts⟩ (c_lowBits (vP n)) cp_allParts_lowBits ⟨rfl, rfl⟩ ⟨Nat.le_of_ble_eq_true rfl, Nat.le_of_ble_eq_true rfl⟩ rfl hl.1 rfl (Nat.le_of_ble_eq_true rfl) dX0_allParts_6 ⟨Nat.zero_le _, Nat.zero_le _⟩ hK hP hS hA (fun r6 u H locs p6 hP hS => ?_)
  try dsimp only at p6
  exact ret_i hx hb hr hlocks hK hP hD hS dX0_allParts_9 () rfl (p6)

