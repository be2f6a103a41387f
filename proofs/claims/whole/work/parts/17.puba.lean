abbrev rm_isDoing : Room := { frames := 1, cells := 0, slots := 0, locals := 21 }
theorem in_isDoing : ∀ w ∈ u_ws RX0 TX0 18, w ∈ wsX0_isDoing := by decide +kernel
theorem cp_isDoing_isOfSomeParts : cpS wsX0_isDoing RX0 104 yX0_isOfSomeParts wsX0_isOfSomeParts cX0_isOfSomeParts 1 (some .boolean) 1 := ⟨gX0_isDoing_X0_isOfSomeParts, ⟨_, rfl⟩, by decide +kernel⟩
theorem cp_isDoing_isVariable : cpV wsX0_isDoing RX0 101 RX0 yX0_isVariable wsX0_isVariable cX0_isVariable 2 (some .boolean) 1 := ⟨gX0_isDoing_X0_isVariable, ⟨_, rfl⟩, by decide +kernel⟩
set_option maxHeartbeats 4000000 in
set_option maxRecDepth 100000 in
theorem c_isDoing {l : Launch} {D : va_G} {h : Nat → Nat} {k : Nat → ClassId} {pn sv hd wn : Int32} {vP vO vG pD pV pB pX pY rc wt iw : Nat → Int32} {ah be : Nat → Int64} (nv : Nat) (d x a b : Int32) (hnv : nv ≤ 20) : ct l yX0_isDoing wsX0_isDoing rm_isDoing D vwCl (pfT k) [.ref (h 0), .int d, .int x, .int a, .int b] (pfW h k (nI nv) vP vO vG pn pD pV pB pX pY sv rc ah be wt iw hd wn) (qI D vwCl (pfT k) (fun (r : Int32) (u : Unit) => (r = 1 ∧ dOK (nI nv) vP d x a b) ∨ (r = 0 ∧ ¬ dOK (nI nv) vP d x a b)) (fun _ => pfW h k (nI nv) vP vO vG pn pD pV pB pX pY sv rc ah be wt iw hd wn)) 0 0 := by
  refine ct_of (cc := cX0_isDoing) (maxL := 5) (ret := some .boolean) (by decide) rfl (Nat.le_of_ble_eq_true rfl) ?_
  intro p e s m below meth c A ls hx hb hr hml hlocks hown hnm hts hA hK hP hD hS hl
  have hown : s.vm.findClass RX0 = some m.cls := hown
  have hin := in_isDoing
  have hl : lv_has ls 5 [(0, .ref (h 0)), (1, .int d), (2, .int x), (3, .int a), (4, .int b)] := hl
  refine lv_iload_n hx hb dX0_isDoing_0 rfl (lv_at hl 1 rfl) ?_
  refine lv_if_lt (tgt := 9) hx hb dX0_isDoing_1 (by decide) (fun c1 => ?_) (fun c1 => ?_)
  · -- 1 t lt 
    refine lv_iconst (v := 0) hx hb dX0_isDoing_9 (by decide) ?_
    exact ret_z hx hb hr hlocks hK hP hD hS dX0_isDoing_10 () rfl (by decide) (Or.inr ⟨rfl, fun q => q.1 c1⟩)
  · -- 1 f lt 
    refine lv_iload_n hx hb dX0_isDoing_4 rfl (lv_at hl 1 rfl) ?_
    refine lv_iconst (v := 5) hx hb dX0_isDoing_5 (by decide) ?_
    refine lv_icmp_le (tgt := 11) hx hb dX0_isDoing_6 (by decide) (fun c6 => ?_) (fun c6 => ?_)
    · -- 6 t le 
      refine lv_iload_n hx hb dX0_isDoing_11 rfl (lv_at hl 1 rfl) ?_
      refine lv_if_ne (tgt := 17) hx hb dX0_isDoing_12 (by decide) (fun c12 => ?_) (fun c12 => ?_)
      · -- 12 t ne 
        refine lv_aload_n hx hb dX0_isDoing_17 rfl (lv_at hl 0 rfl) ?_
        refine lv_iload_n hx hb dX0_isDoing_18 rfl (lv_at hl 2 rfl) ?_
        refine call_vi (As := [.int x]) (rest := []) ⟨hx, hb, hml, hown, hts⟩ (c_isVariable x) cp_isDoing_isVariable ⟨rfl, rfl⟩ ⟨Nat.le_of_ble_eq_true rfl, Nat.le_of_ble_eq_true rfl⟩ rfl rfl 0 rfl rfl hl.1 rfl (Nat.le_of_ble_eq_true rfl) dX0_isDoing_19 ⟨Nat.zero_le _, Nat.zero_le _⟩ hK hP hD hS hA (fun r19 u H locs p19 hP hD hS => ?_)
        try dsimp only at p19
        refine lv_if_ne (tgt := 27) hx hb dX0_isDoing_22 (by decide) (fun c22 => ?_) (fun c22 => ?_)
        · -- 22 t ne 
          obtain ⟨v, hv, rfl⟩ := pt_in rfl (by omega) p19 c22
          refine lv_iload_n hx hb dX0_isDoing_27 rfl (lv_at hl 1 rfl) ?_
          refine call_si (As := [.int d]) (rest := []) ⟨hx, hb, hml, hown, hts⟩ (c_isOfSomeParts d) cp_isDoing_isOfSomeParts ⟨rfl, rfl⟩ ⟨Nat.le_of_ble_eq_true rfl, Nat.le_of_ble_eq_true rfl⟩ rfl hl.1 rfl (Nat.le_of_ble_eq_true rfl) dX0_isDoing_28 ⟨Nat.zero_le _, Nat.zero_le _⟩ hK hP hS hA (fun r28 u H locs p28 hP hS => ?_)
          try dsimp only at p28
          refine lv_if_eq (tgt := 57) hx hb dX0_isDoing_31 (by decide) (fun c31 => ?_) (fun c31 => ?_)
          · -- 31 t eq 
            refine lv_iconst (v := 1) hx hb dX0_isDoing_57 (by decide) ?_
            refine lv_goto (tgt := 62) hx hb dX0_isDoing_58 (by decide) ?_
            exact ret_z hx hb hr hlocks hK hP hD hS dX0_isDoing_62 () rfl (by decide) (Or.inl ⟨rfl, c1, c6, Or.inr ⟨yn_yes p19 c22, Or.inl (yn_no p28 c31)⟩⟩)
          · -- 31 f eq 
            refine lv_iload_n hx hb dX0_isDoing_34 rfl (lv_at hl 3 rfl) ?_
            refine lv_if_lt (tgt := 61) hx hb dX0_isDoing_35 (by decide) (fun c35 => ?_) (fun c35 => ?_)
            · -- 35 t lt 
              refine lv_iconst (v := 0) hx hb dX0_isDoing_61 (by decide) ?_
              exact ret_z hx hb hr hlocks hK hP hD hS dX0_isDoing_62 () rfl (by decide) (Or.inr ⟨rfl, fun q => q.2.2.elim c12 (fun z => z.2.elim (fun n => n (yn_yes p28 c31)) (fun z => z.1 c35))⟩)
            · -- 35 f lt 
              refine lv_iload hx hb dX0_isDoing_38 (lv_at hl 4 rfl) ?_
              refine lv_iconst (v := 1) hx hb dX0_isDoing_40 (by decide) ?_
              refine lv_icmp_lt (tgt := 61) hx hb dX0_isDoing_41 (by decide) (fun c41 => ?_) (fun c41 => ?_)
              · -- 41 t lt 
                refine lv_iconst (v := 0) hx hb dX0_isDoing_61 (by decide) ?_
                exact ret_z hx hb hr hlocks hK hP hD hS dX0_isDoing_62 () rfl (by decide) (Or.inr ⟨rfl, fun q => q.2.2.elim c12 (fun z => z.2.elim (fun n => n (yn_yes p28 c31)) (fun z => z.2.1 c41))⟩)
              · -- 41 f lt 
                refine lv_iload_n hx hb dX0_isDoing_44 rfl (lv_at hl 3 rfl) ?_
                refine lv_aload_n hx hb dX0_isDoing_45 rfl (lv_at hl 0 rfl) ?_
                refine pf_g_vP hx hb hts hin hown hK hP (by decide +kernel) dX0_isDoing_46 ?_
                refine lv_iload_n hx hb dX0_isDoing_49 rfl (lv_at hl 2 rfl) ?_
                refine pf_l_vP (n := v) hx hb hK hP (by omega) dX0_isDoing_50 ?_
                refine lv_iload hx hb dX0_isDoing_51 (lv_at hl 4 rfl) ?_
                refine lv_isub hx hb dX0_isDoing_53 ?_
                refine lv_icmp_gt (tgt := 61) hx hb dX0_isDoing_54 (by decide) (fun c54 => ?_) (fun c54 => ?_)
                · -- 54 t gt 
                  refine lv_iconst (v := 0) hx hb dX0_isDoing_61 (by decide) ?_
                  exact ret_z hx hb hr hlocks hK hP hD hS dX0_isDoing_62 () rfl (by decide) (Or.inr ⟨rfl, fun q => q.2.2.elim c12 (fun z => z.2.elim (fun n => n (yn_yes p28 c31)) (fun z => z.2.2 (by rw [tN_nI (by omega)]; exact c54)))⟩)
                · -- 54 f gt 
                  refine lv_iconst (v := 1) hx hb dX0_isDoing_57 (by decide) ?_
                  refine lv_goto (tgt := 62) hx hb dX0_isDoing_58 (by decide) ?_
                  exact ret_z hx hb hr hlocks hK hP hD hS dX0_isDoing_62 () rfl (by decide) (Or.inl ⟨rfl, c1, c6, Or.inr ⟨yn_yes p19 c22, Or.inr ⟨c35, c41, by rw [tN_nI (by omega)]; exact c54⟩⟩⟩)
        · -- 22 f ne 
          refine lv_iconst (v := 0) hx hb dX0_isDoing_25 (by decide) ?_
          exact ret_z hx hb hr hlocks hK hP hD hS dX0_isDoing_26 () rfl (by decide) (Or.inr ⟨rfl, fun q => q.2.2.elim c12 (fun z => yn_no p19 c22 z.1)⟩)
      · -- 12 f ne 
        refine lv_iconst (v := 1) hx hb dX0_isDoing_15 (by decide) ?_
        exact ret_z hx hb hr hlocks hK hP hD hS dX0_isDoing_16 () rfl (by decide) (Or.inl ⟨rfl, c1, c6, Or.inl c12⟩)
    · -- 6 f le 
      refine lv_iconst (v := 0) hx hb dX0_isDoing_9 (by decide) ?_
      exact ret_z hx hb hr hlocks hK hP hD hS dX0_isDoing_10 () rfl (by decide) (Or.inr ⟨rfl, fun q => c6 q.2.1⟩)

abbrev rm_bitsOfDoing : Room := { frames := 2, cells := 0, slots := 0, locals := 41 }
theorem in_bitsOfDoing : ∀ w ∈ u_ws RX0 TX0 18, w ∈ wsX0_bitsOfDoing := by decide +kernel
theorem cp_bitsOfDoing_allParts : cpV wsX0_bitsOfDoing RX0 110 RX0 yX0_allParts wsX0_allParts cX0_allParts 2 (some .int) 1 := ⟨gX0_bitsOfDoing_X0_allParts, ⟨_, rfl⟩, by decide +kernel⟩
theorem cp_bitsOfDoing_isOfSomeParts : cpS wsX0_bitsOfDoing RX0 104 yX0_isOfSomeParts wsX0_isOfSomeParts cX0_isOfSomeParts 1 (some .boolean) 1 := ⟨gX0_bitsOfDoing_X0_isOfSomeParts, ⟨_, rfl⟩, by decide +kernel⟩
theorem cp_bitsOfDoing_lowBits : cpS wsX0_bitsOfDoing RX0 107 yX0_lowBits wsX0_lowBits cX0_lowBits 1 (some .int) 1 := ⟨gX0_bitsOfDoing_X0_lowBits, ⟨_, rfl⟩, by decide +kernel⟩
set_option maxHeartbeats 4000000 in
set_option maxRecDepth 100000 in
theorem c_bitsOfDoing {l : Launch} {D : va_G} {h : Nat → Nat} {k : Nat → ClassId} {vc pn sv hd wn : Int32} {vP vO vG pD pV pB pX pY rc wt iw : Nat → Int32} {ah be : Nat → Int64} (d x a b : Int32) (hx4 : ¬ d = 0 → ∃ v, v < 20 ∧ x = nI v) : ct l yX0_bitsOfDoing wsX0_bitsOfDoing rm_bitsOfDoing D vwCl (pfT k) [.ref (h 0), .int d, .int x, .int a, .int b] (pfW h k vc vP vO vG pn pD pV pB pX pY sv rc ah be wt iw hd wn) (qI D vwCl (pfT k) (fun (r : Int32) (u : Unit) => r = bod vP d x a b) (fun _ => pfW h k vc vP vO vG pn pD pV pB pX pY sv rc ah be wt iw hd wn)) 0 0 := by
  refine ct_of (cc := cX0_bitsOfDoing) (maxL := 5) (ret := some .int) (by decide) rfl (Nat.le_of_ble_eq_true rfl) ?_
  intro p e s m below meth c A ls hx hb hr hml hlocks hown hnm hts hA hK hP hD hS hl
  have hown : s.vm.findClass RX0 = some m.cls := hown
  have hin := in_bitsOfDoing
  have hl : lv_has ls 5 [(0, .ref (h 0)), (1, .int d), (2, .int x), (3, .int a), (4, .int b)] := hl
  refine lv_iload_n hx hb dX0_bitsOfDoing_0 rfl (lv_at hl 1 rfl) ?_
  refine lv_if_ne (tgt := 6) hx hb dX0_bitsOfDoing_1 (by decide) (fun c1 => ?_) (fun c1 => ?_)
  · -- 1 t ne 
    refine lv_iload_n hx hb dX0_bitsOfDoing_6 rfl (lv_at hl 1 rfl) ?_
    refine call_si (As := [.int d]) (rest := []) ⟨hx, hb, hml, hown, hts⟩ (c_isOfSomeParts d) cp_bitsOfDoing_isOfSomeParts ⟨rfl, rfl⟩ ⟨Nat.le_of_ble_eq_true rfl, Nat.le_of_ble_eq_true rfl⟩ rfl hl.1 rfl (Nat.le_of_ble_eq_true rfl) dX0_bitsOfDoing_7 ⟨Nat.zero_le _, Nat.zero_le _⟩ hK hP hS hA (fun r7 u H locs p7 hP hS => ?_)
    try dsimp only at p7
    refine lv_if_eq (tgt := 23) hx hb dX0_bitsOfDoing_10 (by decide) (fun c10 => ?_) (fun c10 => ?_)
    · -- 10 t eq 
      obtain ⟨v, hv, rfl⟩ := hx4 c1
      refine lv_aload_n hx hb dX0_bitsOfDoing_23 rfl (lv_at hl 0 rfl) ?_
      refine lv_iload_n hx hb dX0_bitsOfDoing_24 rfl (lv_at hl 2 rfl) ?_
      refine call_vi (As := [.int (nI v)]) (rest := []) ⟨hx, hb, hml, hown, hts⟩ (c_allParts v hv) cp_bitsOfDoing_allParts ⟨rfl, rfl⟩ ⟨Nat.le_of_ble_eq_true rfl, Nat.le_of_ble_eq_true rfl⟩ rfl rfl 0 rfl rfl hl.1 rfl (Nat.le_of_ble_eq_true rfl) dX0_bitsOfDoing_25 ⟨Nat.zero_le _, Nat.zero_le _⟩ hK hP hD hS hA (fun r25 u H locs p25 hP hD hS => ?_)
      try dsimp only at p25
      exact ret_i hx hb hr hlocks hK hP hD hS dX0_bitsOfDoing_28 () rfl (by unfold bod; rw [if_neg c1, if_neg (yn_no p7 c10), tN_nI (by omega)]; exact p25)
    · -- 10 f eq 
      refine lv_iload hx hb dX0_bitsOfDoing_13 (lv_at hl 4 rfl) ?_
      refine call_si (As := [.int b]) (rest := []) ⟨hx, hb, hml, hown, hts⟩ (c_lowBits b) cp_bitsOfDoing_lowBits ⟨rfl, rfl⟩ ⟨Nat.le_of_ble_eq_true rfl, Nat.le_of_ble_eq_true rfl⟩ rfl hl.1 rfl (Nat.le_of_ble_eq_true rfl) dX0_bitsOfDoing_15 ⟨Nat.zero_le _, Nat.zero_le _⟩ hK hP hS hA (fun r15 u H locs p15 hP hS => ?_)
      try dsimp only at p15
      obtain rfl := p15
      refine lv_iload_n hx hb dX0_bitsOfDoing_18 rfl (lv_at hl 3 rfl) ?_
      refine lv_ishl hx hb dX0_bitsOfDoing_19 ?_
      refine lv_goto (tgt := 28) hx hb dX0_bitsOfDoing_20 (by decide) ?_
      exact ret_i hx hb hr hlocks hK hP hD hS dX0_bitsOfDoing_28 () rfl (by unfold bod; rw [if_neg c1, if_pos (yn_yes p7 c10)])
  · -- 1 f ne 
    refine lv_iconst (v := 0) hx hb dX0_bitsOfDoing_4 (by decide) ?_
    exact ret_i hx hb hr hlocks hK hP hD hS dX0_bitsOfDoing_5 () rfl (by unfold bod; rw [if_pos c1])

abbrev rm_solvedBits : Room := { frames := 1, cells := 0, slots := 0, locals := 20 }
theorem in_solvedBits : ∀ w ∈ u_ws RX0 TX0 18, w ∈ wsX0_solvedBits := by decide +kernel
theorem cp_solvedBits_lowBits : cpS wsX0_solvedBits RX0 107 yX0_lowBits wsX0_lowBits cX0_lowBits 1 (some .int) 1 := ⟨gX0_solvedBits_X0_lowBits, ⟨_, rfl⟩, by decide +kernel⟩
theorem cp_solvedBits_shiftOf : cpS wsX0_solvedBits RX0 113 yX0_shiftOf wsX0_shiftOf cX0_shiftOf 1 (some .int) 1 := ⟨gX0_solvedBits_X0_shiftOf, ⟨_, rfl⟩, by decide +kernel⟩
theorem cp_solvedBits_wordOf : cpS wsX0_solvedBits RX0 119 yX0_wordOf wsX0_wordOf cX0_wordOf 1 (some .int) 1 := ⟨gX0_solvedBits_X0_wordOf, ⟨_, rfl⟩, by decide +kernel⟩
set_option maxHeartbeats 4000000 in
set_option maxRecDepth 100000 in
theorem c_solvedBits {l : Launch} {D : va_G} {h : Nat → Nat} {k : Nat → ClassId} {vc pn sv hd wn : Int32} {vP vO vG pD pV pB pX pY rc wt iw : Nat → Int32} {ah be : Nat → Int64} (n v kd : Nat) (hn : n < 120) (hv : v < 20) (hk : kd ≤ 3) : ct l yX0_solvedBits wsX0_solvedBits rm_solvedBits D vwCl (pfT k) [.ref (h 0), .int (nI n), .int (nI v), .int (nI kd)] (pfW h k vc vP vO vG pn pD pV pB pX pY sv rc ah be wt iw hd wn) (qI D vwCl (pfT k) (fun (r : Int32) (u : Unit) => r = sb (ah (n * 6 + kd + v / 8)) v) (fun _ => pfW h k vc vP vO vG pn pD pV pB pX pY sv rc ah be wt iw hd wn)) 0 0 := by
  refine ct_of (cc := cX0_solvedBits) (maxL := 6) (ret := some .int) (by decide) rfl (Nat.le_of_ble_eq_true rfl) ?_
  intro p e s m below meth c A ls hx hb hr hml hlocks hown hnm hts hA hK hP hD hS hl
  have hown : s.vm.findClass RX0 = some m.cls := hown
  have hin := in_solvedBits
  have hl : lv_has ls 6 [(0, .ref (h 0)), (1, .int (nI n)), (2, .int (nI v)), (3, .int (nI kd))] := hl
  refine lv_aload_n hx hb dX0_solvedBits_0 rfl (lv_at hl 0 rfl) ?_
  refine pf_g_ah hx hb hts hin hown hK hP (by decide +kernel) dX0_solvedBits_1 ?_
  refine lv_iload_n hx hb dX0_solvedBits_4 rfl (lv_at hl 1 rfl) ?_
  refine lv_bipush (v := 6) hx hb dX0_solvedBits_5 (by decide) ?_
  refine lv_imul hx hb dX0_solvedBits_7 ?_
  refine lv_topi (fun x_1 ex_1 => ?_)
  obtain rfl : x_1 = nI (n * 6) := ex_1.trans (pk_mul n 6)
  refine lv_iload_n hx hb dX0_solvedBits_8 rfl (lv_at hl 3 rfl) ?_
  refine lv_iadd hx hb dX0_solvedBits_9 ?_
  refine lv_topi (fun x_2 ex_2 => ?_)
  obtain rfl : x_2 = nI ((n * 6) + kd) := ex_2.trans (nI_add (n * 6) kd)
  refine lv_iload_n hx hb dX0_solvedBits_10 rfl (lv_at hl 2 rfl) ?_
  refine call_si (As := [.int (nI v)]) (rest := [.int (nI ((n * 6) + kd)), .ref (h 10)]) ⟨hx, hb, hml, hown, hts⟩ (c_wordOf v (by omega)) cp_solvedBits_wordOf ⟨rfl, rfl⟩ ⟨Nat.le_of_ble_eq_true rfl, Nat.le_of_ble_eq_true rfl⟩ rfl hl.1 rfl (Nat.le_of_ble_eq_true rfl) dX0_solvedBits_11 ⟨Nat.zero_le _, Nat.zero_le _⟩ hK hP hS hA (fun r11 u H locs p11 hP hS => ?_)
  try dsimp only at p11
  obtain rfl := p11
  refine lv_iadd hx hb dX0_solvedBits_14 ?_
  refine lv_topi (fun x_3 ex_3 => ?_)
  obtain rfl : x_3 = nI (((n * 6) + kd) + (v / 8)) := ex_3.trans (nI_add ((n * 6) + kd) (v / 8))
  refine pf_l_ah (n := (((n * 6) + kd) + (v / 8))) hx hb hK hP (by omega) dX0_solvedBits_15 ?_
  refine lv_lstore (lv' := [(4, .long (ah (((n * 6) + kd) + (v / 8)))), (0, .ref (h 0)), (1, .int (nI n)), (2, .int (nI v)), (3, .int (nI kd))]) hx hb dX0_solvedBits_16 hl (by decide) rfl (fun ls hl => ?_)
  refine lv_lload hx hb dX0_solvedBits_18 (lv_at hl 0 rfl) ?_
  refine lv_iload_n hx hb dX0_solvedBits_20 rfl (lv_at hl 3 rfl) ?_
  refine call_si (As := [.int (nI v)]) (rest := [.long (ah (((n * 6) + kd) + (v / 8)))]) ⟨hx, hb, hml, hown, hts⟩ (c_shiftOf v (by omega)) cp_solvedBits_shiftOf ⟨rfl, rfl⟩ ⟨Nat.le_of_ble_eq_true rfl, Nat.le_of_ble_eq_true rfl⟩ rfl hl.1 rfl (Nat.le_of_ble_eq_true rfl) dX0_solvedBits_21 ⟨Nat.zero_le _, Nat.zero_le _⟩ hK hP hS hA (fun r21 u H locs p21 hP hS => ?_)
  try dsimp only at p21
  obtain rfl := p21
  refine lv_lushr (v := ((ah (((n * 6) + kd) + (v / 8))).toUInt64 >>> ((nI (v % 8 * 8)).toInt64.toUInt64 &&& Int64.toUInt64 63)).toInt64) hx hb dX0_solvedBits_24 rfl ?_
  refine lv_l2i (v := (((ah (((n * 6) + kd) + (v / 8))).toUInt64 >>> ((nI (v % 8 * 8)).toInt64.toUInt64 &&& Int64.toUInt64 63)).toInt64).toInt32) hx hb dX0_solvedBits_25 rfl ?_
  refine lv_bipush (v := 8) hx hb dX0_solvedBits_26 (by decide) ?_
  refine call_si (As := [.int 8]) (rest := [.int ((((ah (((n * 6) + kd) + (v / 8))).toUInt64 >>> ((nI (v % 8 * 8)).toInt64.toUInt64 &&& Int64.toUInt64 63)).toInt64).toInt32)]) ⟨hx, hb, hml, hown, hts⟩ (c_lowBits 8) cp_solvedBits_lowBits ⟨rfl, rfl⟩ ⟨Nat.le_of_ble_eq_true rfl, Nat.le_of_ble_eq_true rfl⟩ rfl hl.1 rfl (Nat.le_of_ble_eq_true rfl) dX0_solvedBits_28 ⟨Nat.zero_le _, Nat.zero_le _⟩ hK hP hS hA (fun r28 u H locs p28 hP hS => ?_)
  try dsimp only at p28
  obtain rfl := p28
  refine lv_iand hx hb dX0_solvedBits_31 ?_
  exact ret_i hx hb hr hlocks hK hP hD hS dX0_solvedBits_32 () rfl (rfl)

abbrev rm_faultOfPoint : Room := { frames := 2, cells := 0, slots := 0, locals := 45 }
theorem in_faultOfPoint : ∀ w ∈ u_ws RX0 TX0 18, w ∈ wsX0_faultOfPoint := by decide +kernel
theorem cp_faultOfPoint_allParts : cpV wsX0_faultOfPoint RX0 110 RX0 yX0_allParts wsX0_allParts cX0_allParts 2 (some .int) 1 := ⟨gX0_faultOfPoint_X0_allParts, ⟨_, rfl⟩, by decide +kernel⟩
theorem cp_faultOfPoint_solvedBits : cpV wsX0_faultOfPoint RX0 116 RX0 yX0_solvedBits wsX0_solvedBits cX0_solvedBits 6 (some .int) 3 := ⟨gX0_faultOfPoint_X0_solvedBits, ⟨_, rfl⟩, by decide +kernel⟩
set_option maxHeartbeats 4000000 in
set_option maxRecDepth 100000 in
theorem c_faultOfPoint {l : Launch} {D : va_G} {h : Nat → Nat} {k : Nat → ClassId} {vc pn sv hd wn : Int32} {vP vO vG pD pV pB pX pY rc wt iw : Nat → Int32} {ah be : Nat → Int64} (j : Nat) (hj : j < 120) (hv1 : pV j = nI (tN (pV j))) (hv2 : tN (pV j) < 20) : ct l yX0_faultOfPoint wsX0_faultOfPoint rm_faultOfPoint D vwCl (pfT k) [.ref (h 0), .int (nI j)] (pfW h k vc vP vO vG pn pD pV pB pX pY sv rc ah be wt iw hd wn) (qI D vwCl (pfT k) (fun (r : Int32) (u : Unit) => r = fop vP vO pD pV pB rc ah j) (fun _ => pfW h k vc vP vO vG pn pD pV pB pX pY sv rc ah be wt iw hd wn)) 0 0 := by
  refine ct_of (cc := cX0_faultOfPoint) (maxL := 5) (ret := some .int) (by decide) rfl (Nat.le_of_ble_eq_true rfl) ?_
  intro p e s m below meth c A ls hx hb hr hml hlocks hown hnm hts hA hK hP hD hS hl
  have hown : s.vm.findClass RX0 = some m.cls := hown
  have hin := in_faultOfPoint
  have hl : lv_has ls 5 [(0, .ref (h 0)), (1, .int (nI j))] := hl
  refine lv_aload_n hx hb dX0_faultOfPoint_0 rfl (lv_at hl 0 rfl) ?_
  refine pf_g_rc hx hb hts hin hown hK hP (by decide +kernel) dX0_faultOfPoint_1 ?_
  refine lv_iload_n hx hb dX0_faultOfPoint_4 rfl (lv_at hl 1 rfl) ?_
  refine pf_l_rc (n := j) hx hb hK hP (by omega) dX0_faultOfPoint_5 ?_
  refine lv_if_ne (tgt := 11) hx hb dX0_faultOfPoint_6 (by decide) (fun c6 => ?_) (fun c6 => ?_)
  · -- 6 t ne 
    refine lv_aload_n hx hb dX0_faultOfPoint_11 rfl (lv_at hl 0 rfl) ?_
    refine pf_g_pD hx hb hts hin hown hK hP (by decide +kernel) dX0_faultOfPoint_12 ?_
    refine lv_iload_n hx hb dX0_faultOfPoint_15 rfl (lv_at hl 1 rfl) ?_
    refine pf_l_pD (n := j) hx hb hK hP (by omega) dX0_faultOfPoint_16 ?_
    refine lv_istore_n (lv' := [(2, .int (pD j)), (0, .ref (h 0)), (1, .int (nI j))]) hx hb dX0_faultOfPoint_17 rfl hl (by decide) rfl (fun ls hl => ?_)
    refine lv_aload_n hx hb dX0_faultOfPoint_18 rfl (lv_at hl 1 rfl) ?_
    refine pf_g_pV hx hb hts hin hown hK hP (by decide +kernel) dX0_faultOfPoint_19 ?_
    refine lv_iload_n hx hb dX0_faultOfPoint_22 rfl (lv_at hl 2 rfl) ?_
    refine pf_l_pV (n := j) hx hb hK hP (by omega) dX0_faultOfPoint_23 ?_
    refine lv_topi (fun x_1 ex_1 => ?_)
    obtain rfl : x_1 = nI (tN (pV j)) := ex_1.trans (hv1)
    refine lv_istore_n (lv' := [(3, .int (nI (tN (pV j)))), (2, .int (pD j)), (0, .ref (h 0)), (1, .int (nI j))]) hx hb dX0_faultOfPoint_24 rfl hl (by decide) rfl (fun ls hl => ?_)
    refine lv_iload_n hx hb dX0_faultOfPoint_25 rfl (lv_at hl 1 rfl) ?_
    refine lv_iconst (v := 2) hx hb dX0_faultOfPoint_26 (by decide) ?_
    refine lv_icmp_eq (tgt := 35) hx hb dX0_faultOfPoint_27 (by decide) (fun c27 => ?_) (fun c27 => ?_)
    · -- 27 t eq 
      refine lv_aload_n hx hb dX0_faultOfPoint_35 rfl (lv_at hl 2 rfl) ?_
      refine lv_iload_n hx hb dX0_faultOfPoint_36 rfl (lv_at hl 3 rfl) ?_
      refine lv_iload_n hx hb dX0_faultOfPoint_37 rfl (lv_at hl 0 rfl) ?_
      refine lv_iconst (v := nI 0) hx hb dX0_faultOfPoint_38 (by decide) ?_
      refine call_vi (As := [.int (nI j), .int (nI (tN (pV j))), .int (nI 0)]) (rest := []) ⟨hx, hb, hml, hown, hts⟩ (c_solvedBits j (tN (pV j)) 0 hj hv2 (by decide)) cp_faultOfPoint_solvedBits ⟨rfl, rfl⟩ ⟨Nat.le_of_ble_eq_true rfl, Nat.le_of_ble_eq_true rfl⟩ rfl rfl 0 rfl rfl hl.1 rfl (Nat.le_of_ble_eq_true rfl) dX0_faultOfPoint_39 ⟨Nat.zero_le _, Nat.zero_le _⟩ hK hP hD hS hA (fun r39 u H locs p39 hP hD hS => ?_)
      try dsimp only at p39
      obtain rfl := p39
      refine lv_aload_n hx hb dX0_faultOfPoint_42 rfl (lv_at hl 2 rfl) ?_
      refine pf_g_pB hx hb hts hin hown hK hP (by decide +kernel) dX0_faultOfPoint_43 ?_
      refine lv_iload_n hx hb dX0_faultOfPoint_46 rfl (lv_at hl 3 rfl) ?_
      refine pf_l_pB (n := j) hx hb hK hP (by omega) dX0_faultOfPoint_47 ?_
      refine lv_iand hx hb dX0_faultOfPoint_48 ?_
      refine lv_istore (lv' := [(4, .int ((sb (ah (j * 6 + 0 + tN (pV j) / 8)) (tN (pV j))) &&& (pB j))), (3, .int (nI (tN (pV j)))), (2, .int (pD j)), (0, .ref (h 0)), (1, .int (nI j))]) hx hb dX0_faultOfPoint_49 hl (by decide) rfl (fun ls hl => ?_)
      refine lv_iload hx hb dX0_faultOfPoint_51 (lv_at hl 0 rfl) ?_
      refine lv_if_eq (tgt := 60) hx hb dX0_faultOfPoint_53 (by decide) (fun c53 => ?_) (fun c53 => ?_)
      · -- 53 t eq 
        refine lv_iconst (v := 0) hx hb dX0_faultOfPoint_60 (by decide) ?_
        exact ret_i hx hb hr hlocks hK hP hD hS dX0_faultOfPoint_61 () rfl (by unfold fop; rw [if_neg c6, if_pos (Or.inl c27), if_pos c53])
      · -- 53 f eq 
        refine lv_iconst (v := 1) hx hb dX0_faultOfPoint_56 (by decide) ?_
        refine lv_goto (tgt := 61) hx hb dX0_faultOfPoint_57 (by decide) ?_
        exact ret_i hx hb hr hlocks hK hP hD hS dX0_faultOfPoint_61 () rfl (by unfold fop; rw [if_neg c6, if_pos (Or.inl c27), if_neg c53])
    · -- 27 f eq 
      refine lv_iload_n hx hb dX0_faultOfPoint_30 rfl (lv_at hl 1 rfl) ?_
      refine lv_iconst (v := 3) hx hb dX0_faultOfPoint_31 (by decide) ?_
      refine lv_icmp_ne (tgt := 62) hx hb dX0_faultOfPoint_32 (by decide) (fun c32 => ?_) (fun c32 => ?_)
      · -- 32 t ne 
        refine lv_iload_n hx hb dX0_faultOfPoint_62 rfl (lv_at hl 1 rfl) ?_
        refine lv_iconst (v := 1) hx hb dX0_faultOfPoint_63 (by decide) ?_
        refine lv_icmp_ne (tgt := 76) hx hb dX0_faultOfPoint_64 (by decide) (fun c64 => ?_) (fun c64 => ?_)
        · -- 64 t ne 
          refine lv_iconst (v := 0) hx hb dX0_faultOfPoint_76 (by decide) ?_
          exact ret_i hx hb hr hlocks hK hP hD hS dX0_faultOfPoint_77 () rfl (by unfold fop; rw [if_neg c6, if_neg (fun q => q.elim c27 c32), if_pos (Or.inl c64)])
        · -- 64 f ne 
          refine lv_aload_n hx hb dX0_faultOfPoint_67 rfl (lv_at hl 2 rfl) ?_
          refine pf_g_vO hx hb hts hin hown hK hP (by decide +kernel) dX0_faultOfPoint_68 ?_
          refine lv_iload_n hx hb dX0_faultOfPoint_71 rfl (lv_at hl 0 rfl) ?_
          refine pf_l_vO (n := (tN (pV j))) hx hb hK hP (by omega) dX0_faultOfPoint_72 ?_
          refine lv_if_ne (tgt := 78) hx hb dX0_faultOfPoint_73 (by decide) (fun c73 => ?_) (fun c73 => ?_)
          · -- 73 t ne 
            refine lv_aload_n hx hb dX0_faultOfPoint_78 rfl (lv_at hl 2 rfl) ?_
            refine pf_g_pB hx hb hts hin hown hK hP (by decide +kernel) dX0_faultOfPoint_79 ?_
            refine lv_iload_n hx hb dX0_faultOfPoint_82 rfl (lv_at hl 3 rfl) ?_
            refine pf_l_pB (n := j) hx hb hK hP (by omega) dX0_faultOfPoint_83 ?_
            refine lv_aload_n hx hb dX0_faultOfPoint_84 rfl (lv_at hl 2 rfl) ?_
            refine lv_iload_n hx hb dX0_faultOfPoint_85 rfl (lv_at hl 0 rfl) ?_
            refine call_vi (As := [.int (nI (tN (pV j)))]) (rest := [.int (pB j)]) ⟨hx, hb, hml, hown, hts⟩ (c_allParts (tN (pV j)) hv2) cp_faultOfPoint_allParts ⟨rfl, rfl⟩ ⟨Nat.le_of_ble_eq_true rfl, Nat.le_of_ble_eq_true rfl⟩ rfl rfl 0 rfl rfl hl.1 rfl (Nat.le_of_ble_eq_true rfl) dX0_faultOfPoint_86 ⟨Nat.zero_le _, Nat.zero_le _⟩ hK hP hD hS hA (fun r86 u H locs p86 hP hD hS => ?_)
            try dsimp only at p86
            obtain rfl := p86
            refine lv_icmp_eq (tgt := 94) hx hb dX0_faultOfPoint_89 (by decide) (fun c89 => ?_) (fun c89 => ?_)
            · -- 89 t eq 
              refine lv_aload_n hx hb dX0_faultOfPoint_94 rfl (lv_at hl 2 rfl) ?_
              refine lv_iload_n hx hb dX0_faultOfPoint_95 rfl (lv_at hl 3 rfl) ?_
              refine lv_iload_n hx hb dX0_faultOfPoint_96 rfl (lv_at hl 0 rfl) ?_
              refine lv_iconst (v := nI 3) hx hb dX0_faultOfPoint_97 (by decide) ?_
              refine call_vi (As := [.int (nI j), .int (nI (tN (pV j))), .int (nI 3)]) (rest := []) ⟨hx, hb, hml, hown, hts⟩ (c_solvedBits j (tN (pV j)) 3 hj hv2 (by decide)) cp_faultOfPoint_solvedBits ⟨rfl, rfl⟩ ⟨Nat.le_of_ble_eq_true rfl, Nat.le_of_ble_eq_true rfl⟩ rfl rfl 0 rfl rfl hl.1 rfl (Nat.le_of_ble_eq_true rfl) dX0_faultOfPoint_98 ⟨Nat.zero_le _, Nat.zero_le _⟩ hK hP hD hS hA (fun r98 u H locs p98 hP hD hS => ?_)
              try dsimp only at p98
              obtain rfl := p98
              refine lv_if_eq (tgt := 108) hx hb dX0_faultOfPoint_101 (by decide) (fun c101 => ?_) (fun c101 => ?_)
              · -- 101 t eq 
                refine lv_iconst (v := 0) hx hb dX0_faultOfPoint_108 (by decide) ?_
                exact ret_i hx hb hr hlocks hK hP hD hS dX0_faultOfPoint_109 () rfl (by unfold fop; rw [if_neg c6, if_neg (fun q => q.elim c27 c32), if_neg (fun q => q.elim (fun z => z c64) c73), if_neg (fun q => q c89), if_pos c101])
              · -- 101 f eq 
                refine lv_iconst (v := 2) hx hb dX0_faultOfPoint_104 (by decide) ?_
                refine lv_goto (tgt := 109) hx hb dX0_faultOfPoint_105 (by decide) ?_
                exact ret_i hx hb hr hlocks hK hP hD hS dX0_faultOfPoint_109 () rfl (by unfold fop; rw [if_neg c6, if_neg (fun q => q.elim c27 c32), if_neg (fun q => q.elim (fun z => z c64) c73), if_neg (fun q => q c89), if_neg c101])
            · -- 89 f eq 
              refine lv_iconst (v := 3) hx hb dX0_faultOfPoint_92 (by decide) ?_
              exact ret_i hx hb hr hlocks hK hP hD hS dX0_faultOfPoint_93 () rfl (by unfold fop; rw [if_neg c6, if_neg (fun q => q.elim c27 c32), if_neg (fun q => q.elim (fun z => z c64) c73), if_pos c89])
          · -- 73 f ne 
            refine lv_iconst (v := 0) hx hb dX0_faultOfPoint_76 (by decide) ?_
            exact ret_i hx hb hr hlocks hK hP hD hS dX0_faultOfPoint_77 () rfl (by unfold fop; rw [if_neg c6, if_neg (fun q => q.elim c27 c32), if_pos (Or.inr c73)])
      · -- 32 f ne 
        refine lv_aload_n hx hb dX0_faultOfPoint_35 rfl (lv_at hl 2 rfl) ?_
        refine lv_iload_n hx hb dX0_faultOfPoint_36 rfl (lv_at hl 3 rfl) ?_
        refine lv_iload_n hx hb dX0_faultOfPoint_37 rfl (lv_at hl 0 rfl) ?_
        refine lv_iconst (v := nI 0) hx hb dX0_faultOfPoint_38 (by decide) ?_
        refine call_vi (As := [.int (nI j), .int (nI (tN (pV j))), .int (nI 0)]) (rest := []) ⟨hx, hb, hml, hown, hts⟩ (c_solvedBits j (tN (pV j)) 0 hj hv2 (by decide)) cp_faultOfPoint_solvedBits ⟨rfl, rfl⟩ ⟨Nat.le_of_ble_eq_true rfl, Nat.le_of_ble_eq_true rfl⟩ rfl rfl 0 rfl rfl hl.1 rfl (Nat.le_of_ble_eq_true rfl) dX0_faultOfPoint_39 ⟨Nat.zero_le _, Nat.zero_le _⟩ hK hP hD hS hA (fun r39 u H locs p39 hP hD hS => ?_)
        try dsimp only at p39
        obtain rfl := p39
        refine lv_aload_n hx hb dX0_faultOfPoint_42 rfl (lv_at hl 2 rfl) ?_
        refine pf_g_pB hx hb hts hin hown hK hP (by decide +kernel) dX0_faultOfPoint_43 ?_
        refine lv_iload_n hx hb dX0_faultOfPoint_46 rfl (lv_at hl 3 rfl) ?_
        refine pf_l_pB (n := j) hx hb hK hP (by omega) dX0_faultOfPoint_47 ?_
        refine lv_iand hx hb dX0_faultOfPoint_48 ?_
        refine lv_istore (lv' := [(4, .int ((sb (ah (j * 6 + 0 + tN (pV j) / 8)) (tN (pV j))) &&& (pB j))), (3, .int (nI (tN (pV j)))), (2, .int (pD j)), (0, .ref (h 0)), (1, .int (nI j))]) hx hb dX0_faultOfPoint_49 hl (by decide) rfl (fun ls hl => ?_)
        refine lv_iload hx hb dX0_faultOfPoint_51 (lv_at hl 0 rfl) ?_
        refine lv_if_eq (tgt := 60) hx hb dX0_faultOfPoint_53 (by decide) (fun c53 => ?_) (fun c53 => ?_)
        · -- 53 t eq 
          refine lv_iconst (v := 0) hx hb dX0_faultOfPoint_60 (by decide) ?_
          exact ret_i hx hb hr hlocks hK hP hD hS dX0_faultOfPoint_61 () rfl (by unfold fop; rw [if_neg c6, if_pos (Or.inr c32), if_pos c53])
        · -- 53 f eq 
          refine lv_iconst (v := 1) hx hb dX0_faultOfPoint_56 (by decide) ?_
          refine lv_goto (tgt := 61) hx hb dX0_faultOfPoint_57 (by decide) ?_
          exact ret_i hx hb hr hlocks hK hP hD hS dX0_faultOfPoint_61 () rfl (by unfold fop; rw [if_neg c6, if_pos (Or.inr c32), if_neg c53])
  · -- 6 f ne 
    refine lv_iconst (v := 0) hx hb dX0_faultOfPoint_9 (by decide) ?_
    exact ret_i hx hb hr hlocks hK hP hD hS dX0_faultOfPoint_10 () rfl (by unfold fop; rw [if_pos c6])

