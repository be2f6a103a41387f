abbrev rm_bitsAhead : Room := { frames := 4, cells := 0, slots := 0, locals := 92 }
theorem in_bitsAhead : ∀ w ∈ u_ws RX0 TX0 18, w ∈ wsX0_bitsAhead := by decide +kernel
theorem cp_bitsAhead_isPoint : cpV wsX0_bitsAhead RX0 70 RX0 yX0_isPoint wsX0_isPoint cX0_isPoint 2 (some .boolean) 1 := ⟨gX0_bitsAhead_X0_isPoint, ⟨_, rfl⟩, by decide +kernel⟩
theorem cp_bitsAhead_isVariable : cpV wsX0_bitsAhead RX0 101 RX0 yX0_isVariable wsX0_isVariable cX0_isVariable 2 (some .boolean) 1 := ⟨gX0_bitsAhead_X0_isVariable, ⟨_, rfl⟩, by decide +kernel⟩
theorem cp_bitsAhead_solve : cpV wsX0_bitsAhead RX0 77 RX0 yX0_solve wsX0_solve cX0_solve 3 none 0 := ⟨gX0_bitsAhead_X0_solve, ⟨_, rfl⟩, by decide +kernel⟩
theorem cp_bitsAhead_solvedBits : cpV wsX0_bitsAhead RX0 116 RX0 yX0_solvedBits wsX0_solvedBits cX0_solvedBits 6 (some .int) 3 := ⟨gX0_bitsAhead_X0_solvedBits, ⟨_, rfl⟩, by decide +kernel⟩
set_option maxHeartbeats 4000000 in
set_option maxRecDepth 100000 in
theorem c_bitsAhead {l : Launch} {D : va_G} {h : Nat → Nat} {k : Nat → ClassId} {sv : Int32} {vP vO vG pD pV pB pX pY rc wt iw : Nat → Int32} {ah be : Nat → Int64} (nv np hN wN : Nat) (x y : Int32) (kd : Nat) (hg : GI nv np vP pV pB) (hz : ZI nv np vP vG pD pV pB pX pY sv rc iw ah) (hk : kd ≤ 3) : ct l yX0_bitsAhead wsX0_bitsAhead rm_bitsAhead D vwCl (pfT k) [.ref (h 0), .int x, .int y, .int (nI kd)] (pfW h k (nI nv) vP vO vG (nI np) pD pV pB pX pY sv rc ah be wt iw (nI hN) (nI wN)) (qI D vwCl (pfT k) (fun (r : Int32) (u : Int32 × (Nat → Int32) × (Nat → Int32) × (Nat → Int32) × (Nat → Int64) × (Nat → Int64) × Nat × Nat) => ZI nv np vP vG pD pV pB pX pY u.1 u.2.1 u.2.2.1 u.2.2.2.2.1 ∧ ((((∀ j, j < np → ¬ x = nI j) ∨ ∀ v, v < nv → ¬ y = nI v) ∧ r = 0) ∨ ∃ j v, j < np ∧ v < nv ∧ x = nI j ∧ y = nI v ∧ DnG nv np vP vG pD pV pB pX pY u.2.1 u.2.2.2.2.1 ∧ r = sb (u.2.2.2.2.1 (j * 6 + kd + v / 8)) v)) (fun u => pfW h k (nI nv) vP vO vG (nI np) pD pV pB pX pY u.1 u.2.1 u.2.2.2.2.1 u.2.2.2.2.2.1 u.2.2.2.1 u.2.2.1 (nI u.2.2.2.2.2.2.1) (nI u.2.2.2.2.2.2.2))) 0 0 := by
  refine ct_of (cc := cX0_bitsAhead) (maxL := 4) (ret := some .int) (by decide) rfl (Nat.le_of_ble_eq_true rfl) ?_
  intro p e s m below meth c A ls hx hb hr hml hlocks hown hnm hts hA hK hP hD hS hl
  have hown : s.vm.findClass RX0 = some m.cls := hown
  have hin := in_bitsAhead
  have hl : lv_has ls 4 [(0, .ref (h 0)), (1, .int x), (2, .int y), (3, .int (nI kd))] := hl
  have hnv : nv ≤ 20 := hg.1
  have hn : np ≤ 120 := hg.2.1
  refine lv_aload_n hx hb dX0_bitsAhead_0 rfl (lv_at hl 0 rfl) ?_
  refine lv_iload_n hx hb dX0_bitsAhead_1 rfl (lv_at hl 1 rfl) ?_
  refine call_vi (As := [.int x]) (rest := []) ⟨hx, hb, hml, hown, hts⟩ (c_isPoint x) cp_bitsAhead_isPoint ⟨rfl, rfl⟩ ⟨Nat.le_of_ble_eq_true rfl, Nat.le_of_ble_eq_true rfl⟩ rfl rfl 0 rfl rfl hl.1 rfl (Nat.le_of_ble_eq_true rfl) dX0_bitsAhead_2 ⟨Nat.zero_le _, Nat.zero_le _⟩ hK hP hD hS hA (fun r2 u H locs p2 hP hD hS => ?_)
  try dsimp only at p2
  refine lv_if_eq (tgt := 16) hx hb dX0_bitsAhead_5 (by decide) (fun c5 => ?_) (fun c5 => ?_)
  · -- 5 t eq 
    refine lv_iconst (v := 0) hx hb dX0_bitsAhead_16 (by decide) ?_
    exact ret_i hx hb hr hlocks hK hP hD hS dX0_bitsAhead_17 (sv, rc, iw, wt, ah, be, hN, wN) rfl (⟨hz, Or.inl ⟨Or.inl (pt_out rfl hn p2 c5), rfl⟩⟩)
  · -- 5 f eq 
    obtain ⟨j, hj, rfl⟩ := pt_in rfl hn p2 c5
    refine lv_aload_n hx hb dX0_bitsAhead_8 rfl (lv_at hl 0 rfl) ?_
    refine lv_iload_n hx hb dX0_bitsAhead_9 rfl (lv_at hl 2 rfl) ?_
    refine call_vi (As := [.int y]) (rest := []) ⟨hx, hb, hml, hown, hts⟩ (c_isVariable y) cp_bitsAhead_isVariable ⟨rfl, rfl⟩ ⟨Nat.le_of_ble_eq_true rfl, Nat.le_of_ble_eq_true rfl⟩ rfl rfl 0 rfl rfl hl.1 rfl (Nat.le_of_ble_eq_true rfl) dX0_bitsAhead_10 ⟨Nat.zero_le _, Nat.zero_le _⟩ hK hP hD hS hA (fun r10 u H locs p10 hP hD hS => ?_)
    try dsimp only at p10
    refine lv_if_ne (tgt := 18) hx hb dX0_bitsAhead_13 (by decide) (fun c13 => ?_) (fun c13 => ?_)
    · -- 13 t ne 
      obtain ⟨v, hv, rfl⟩ := pt_in rfl (by omega) p10 c13
      refine lv_aload_n hx hb dX0_bitsAhead_18 rfl (lv_at hl 0 rfl) ?_
      refine call_vv (As := []) (rest := []) ⟨hx, hb, hml, hown, hts⟩ (c_solve nv np hN wN hg hz) cp_bitsAhead_solve ⟨rfl, rfl⟩ ⟨Nat.le_of_ble_eq_true rfl, Nat.le_of_ble_eq_true rfl⟩ rfl rfl 0 rfl rfl hl.1 rfl (Nat.le_of_ble_eq_true rfl) dX0_bitsAhead_19 ⟨Nat.zero_le _, Nat.zero_le _⟩ hK hP hD hS hA (fun u H locs p19 hP hD hS => ?_)
      obtain ⟨sv_19, rc_19, iw_19, wt_19, ah_19, be_19, hd_19, wn_19⟩ := u
      have hP : va_P D vwCl (pfW h k (nI nv) vP vO vG (nI np) pD pV pB pX pY sv_19 rc_19 ah_19 be_19 wt_19 iw_19 (nI hd_19) (nI wn_19)) H := hP
      have hD : va_D A (pfW h k (nI nv) vP vO vG (nI np) pD pV pB pX pY sv_19 rc_19 ah_19 be_19 wt_19 iw_19 (nI hd_19) (nI wn_19)) := hD
      try dsimp only at p19
      refine lv_aload_n hx hb dX0_bitsAhead_22 rfl (lv_at hl 0 rfl) ?_
      refine lv_iload_n hx hb dX0_bitsAhead_23 rfl (lv_at hl 1 rfl) ?_
      refine lv_iload_n hx hb dX0_bitsAhead_24 rfl (lv_at hl 2 rfl) ?_
      refine lv_iload_n hx hb dX0_bitsAhead_25 rfl (lv_at hl 3 rfl) ?_
      refine call_vi (As := [.int (nI j), .int (nI v), .int (nI kd)]) (rest := []) ⟨hx, hb, hml, hown, hts⟩ (c_solvedBits j v kd (by omega) (by omega) hk) cp_bitsAhead_solvedBits ⟨rfl, rfl⟩ ⟨Nat.le_of_ble_eq_true rfl, Nat.le_of_ble_eq_true rfl⟩ rfl rfl 0 rfl rfl hl.1 rfl (Nat.le_of_ble_eq_true rfl) dX0_bitsAhead_26 ⟨Nat.zero_le _, Nat.zero_le _⟩ hK hP hD hS hA (fun r26 u H locs p26 hP hD hS => ?_)
      try dsimp only at p26
      exact ret_i hx hb hr hlocks hK hP hD hS dX0_bitsAhead_29 (sv_19, rc_19, iw_19, wt_19, ah_19, be_19, hd_19, wn_19) rfl (⟨SP_ZI p19, Or.inr ⟨j, v, hj, hv, rfl, rfl, p19.2.1, p26⟩⟩)
    · -- 13 f ne 
      refine lv_iconst (v := 0) hx hb dX0_bitsAhead_16 (by decide) ?_
      exact ret_i hx hb hr hlocks hK hP hD hS dX0_bitsAhead_17 (sv, rc, iw, wt, ah, be, hN, wN) rfl (⟨hz, Or.inl ⟨Or.inr (pt_out rfl (by omega) p10 c13), rfl⟩⟩)

abbrev rm_without : Room := { frames := 5, cells := 0, slots := 0, locals := 115 }
theorem in_without : ∀ w ∈ u_ws RX0 TX0 18, w ∈ wsX0_without := by decide +kernel
theorem cp_without_bitsAhead : cpV wsX0_without RX0 80 RX0 yX0_bitsAhead wsX0_bitsAhead cX0_bitsAhead 4 (some .int) 3 := ⟨gX0_without_X0_bitsAhead, ⟨_, rfl⟩, by decide +kernel⟩
set_option maxHeartbeats 4000000 in
set_option maxRecDepth 100000 in
theorem c_without {l : Launch} {D : va_G} {h : Nat → Nat} {k : Nat → ClassId} {sv : Int32} {vP vO vG pD pV pB pX pY rc wt iw : Nat → Int32} {ah be : Nat → Int64} (nv np hN wN : Nat) (x y : Int32) (hg : GI nv np vP pV pB) (hz : ZI nv np vP vG pD pV pB pX pY sv rc iw ah) : ct l yX0_without wsX0_without rm_without D vwCl (pfT k) [.ref (h 0), .int x, .int y] (pfW h k (nI nv) vP vO vG (nI np) pD pV pB pX pY sv rc ah be wt iw (nI hN) (nI wN)) (qI D vwCl (pfT k) (fun (r : Int32) (u : Int32 × (Nat → Int32) × (Nat → Int32) × (Nat → Int32) × (Nat → Int64) × (Nat → Int64) × Nat × Nat) => ZI nv np vP vG pD pV pB pX pY u.1 u.2.1 u.2.2.1 u.2.2.2.2.1 ∧ ((((∀ j, j < np → ¬ x = nI j) ∨ ∀ v, v < nv → ¬ y = nI v) ∧ r = 0) ∨ ∃ j v, j < np ∧ v < nv ∧ x = nI j ∧ y = nI v ∧ DnG nv np vP vG pD pV pB pX pY u.2.1 u.2.2.2.2.1 ∧ r = sb (u.2.2.2.2.1 (j * 6 + 0 + v / 8)) v)) (fun u => pfW h k (nI nv) vP vO vG (nI np) pD pV pB pX pY u.1 u.2.1 u.2.2.2.2.1 u.2.2.2.2.2.1 u.2.2.2.1 u.2.2.1 (nI u.2.2.2.2.2.2.1) (nI u.2.2.2.2.2.2.2))) 0 0 := by
  refine ct_of (cc := cX0_without) (maxL := 3) (ret := some .int) (by decide) rfl (Nat.le_of_ble_eq_true rfl) ?_
  intro p e s m below meth c A ls hx hb hr hml hlocks hown hnm hts hA hK hP hD hS hl
  have hown : s.vm.findClass RX0 = some m.cls := hown
  have hin := in_without
  have hl : lv_has ls 3 [(0, .ref (h 0)), (1, .int x), (2, .int y)] := hl
  refine lv_aload_n hx hb dX0_without_0 rfl (lv_at hl 0 rfl) ?_
  refine lv_iload_n hx hb dX0_without_1 rfl (lv_at hl 1 rfl) ?_
  refine lv_iload_n hx hb dX0_without_2 rfl (lv_at hl 2 rfl) ?_
  refine lv_iconst (v := nI 0) hx hb dX0_without_3 (by decide) ?_
  refine call_vi (As := [.int x, .int y, .int (nI 0)]) (rest := []) ⟨hx, hb, hml, hown, hts⟩ (c_bitsAhead nv np hN wN x y 0 hg hz (by decide)) cp_without_bitsAhead ⟨rfl, rfl⟩ ⟨Nat.le_of_ble_eq_true rfl, Nat.le_of_ble_eq_true rfl⟩ rfl rfl 0 rfl rfl hl.1 rfl (Nat.le_of_ble_eq_true rfl) dX0_without_4 ⟨Nat.zero_le _, Nat.zero_le _⟩ hK hP hD hS hA (fun r4 u H locs p4 hP hD hS => ?_)
  obtain ⟨sv_4, rc_4, iw_4, wt_4, ah_4, be_4, hd_4, wn_4⟩ := u
  have hP : va_P D vwCl (pfW h k (nI nv) vP vO vG (nI np) pD pV pB pX pY sv_4 rc_4 ah_4 be_4 wt_4 iw_4 (nI hd_4) (nI wn_4)) H := hP
  have hD : va_D A (pfW h k (nI nv) vP vO vG (nI np) pD pV pB pX pY sv_4 rc_4 ah_4 be_4 wt_4 iw_4 (nI hd_4) (nI wn_4)) := hD
  try dsimp only at p4
  exact ret_i hx hb hr hlocks hK hP hD hS dX0_without_7 (sv_4, rc_4, iw_4, wt_4, ah_4, be_4, hd_4, wn_4) rfl (p4)

abbrev rm_having : Room := { frames := 5, cells := 0, slots := 0, locals := 115 }
theorem in_having : ∀ w ∈ u_ws RX0 TX0 18, w ∈ wsX0_having := by decide +kernel
theorem cp_having_bitsAhead : cpV wsX0_having RX0 80 RX0 yX0_bitsAhead wsX0_bitsAhead cX0_bitsAhead 4 (some .int) 3 := ⟨gX0_having_X0_bitsAhead, ⟨_, rfl⟩, by decide +kernel⟩
set_option maxHeartbeats 4000000 in
set_option maxRecDepth 100000 in
theorem c_having {l : Launch} {D : va_G} {h : Nat → Nat} {k : Nat → ClassId} {sv : Int32} {vP vO vG pD pV pB pX pY rc wt iw : Nat → Int32} {ah be : Nat → Int64} (nv np hN wN : Nat) (x y : Int32) (hg : GI nv np vP pV pB) (hz : ZI nv np vP vG pD pV pB pX pY sv rc iw ah) : ct l yX0_having wsX0_having rm_having D vwCl (pfT k) [.ref (h 0), .int x, .int y] (pfW h k (nI nv) vP vO vG (nI np) pD pV pB pX pY sv rc ah be wt iw (nI hN) (nI wN)) (qI D vwCl (pfT k) (fun (r : Int32) (u : Int32 × (Nat → Int32) × (Nat → Int32) × (Nat → Int32) × (Nat → Int64) × (Nat → Int64) × Nat × Nat) => ZI nv np vP vG pD pV pB pX pY u.1 u.2.1 u.2.2.1 u.2.2.2.2.1 ∧ ((((∀ j, j < np → ¬ x = nI j) ∨ ∀ v, v < nv → ¬ y = nI v) ∧ r = 0) ∨ ∃ j v, j < np ∧ v < nv ∧ x = nI j ∧ y = nI v ∧ DnG nv np vP vG pD pV pB pX pY u.2.1 u.2.2.2.2.1 ∧ r = sb (u.2.2.2.2.1 (j * 6 + 3 + v / 8)) v)) (fun u => pfW h k (nI nv) vP vO vG (nI np) pD pV pB pX pY u.1 u.2.1 u.2.2.2.2.1 u.2.2.2.2.2.1 u.2.2.2.1 u.2.2.1 (nI u.2.2.2.2.2.2.1) (nI u.2.2.2.2.2.2.2))) 0 0 := by
  refine ct_of (cc := cX0_having) (maxL := 3) (ret := some .int) (by decide) rfl (Nat.le_of_ble_eq_true rfl) ?_
  intro p e s m below meth c A ls hx hb hr hml hlocks hown hnm hts hA hK hP hD hS hl
  have hown : s.vm.findClass RX0 = some m.cls := hown
  have hin := in_having
  have hl : lv_has ls 3 [(0, .ref (h 0)), (1, .int x), (2, .int y)] := hl
  refine lv_aload_n hx hb dX0_having_0 rfl (lv_at hl 0 rfl) ?_
  refine lv_iload_n hx hb dX0_having_1 rfl (lv_at hl 1 rfl) ?_
  refine lv_iload_n hx hb dX0_having_2 rfl (lv_at hl 2 rfl) ?_
  refine lv_iconst (v := nI 3) hx hb dX0_having_3 (by decide) ?_
  refine call_vi (As := [.int x, .int y, .int (nI 3)]) (rest := []) ⟨hx, hb, hml, hown, hts⟩ (c_bitsAhead nv np hN wN x y 3 hg hz (by decide)) cp_having_bitsAhead ⟨rfl, rfl⟩ ⟨Nat.le_of_ble_eq_true rfl, Nat.le_of_ble_eq_true rfl⟩ rfl rfl 0 rfl rfl hl.1 rfl (Nat.le_of_ble_eq_true rfl) dX0_having_4 ⟨Nat.zero_le _, Nat.zero_le _⟩ hK hP hD hS hA (fun r4 u H locs p4 hP hD hS => ?_)
  obtain ⟨sv_4, rc_4, iw_4, wt_4, ah_4, be_4, hd_4, wn_4⟩ := u
  have hP : va_P D vwCl (pfW h k (nI nv) vP vO vG (nI np) pD pV pB pX pY sv_4 rc_4 ah_4 be_4 wt_4 iw_4 (nI hd_4) (nI wn_4)) H := hP
  have hD : va_D A (pfW h k (nI nv) vP vO vG (nI np) pD pV pB pX pY sv_4 rc_4 ah_4 be_4 wt_4 iw_4 (nI hd_4) (nI wn_4)) := hD
  try dsimp only at p4
  exact ret_i hx hb hr hlocks hK hP hD hS dX0_having_7 (sv_4, rc_4, iw_4, wt_4, ah_4, be_4, hd_4, wn_4) rfl (p4)

abbrev rm_isReached : Room := { frames := 4, cells := 0, slots := 0, locals := 92 }
theorem in_isReached : ∀ w ∈ u_ws RX0 TX0 18, w ∈ wsX0_isReached := by decide +kernel
theorem cp_isReached_isPoint : cpV wsX0_isReached RX0 70 RX0 yX0_isPoint wsX0_isPoint cX0_isPoint 2 (some .boolean) 1 := ⟨gX0_isReached_X0_isPoint, ⟨_, rfl⟩, by decide +kernel⟩
theorem cp_isReached_solve : cpV wsX0_isReached RX0 77 RX0 yX0_solve wsX0_solve cX0_solve 3 none 0 := ⟨gX0_isReached_X0_solve, ⟨_, rfl⟩, by decide +kernel⟩
set_option maxHeartbeats 4000000 in
set_option maxRecDepth 100000 in
theorem c_isReached {l : Launch} {D : va_G} {h : Nat → Nat} {k : Nat → ClassId} {sv : Int32} {vP vO vG pD pV pB pX pY rc wt iw : Nat → Int32} {ah be : Nat → Int64} (nv np hN wN : Nat) (x : Int32) (hg : GI nv np vP pV pB) (hz : ZI nv np vP vG pD pV pB pX pY sv rc iw ah) : ct l yX0_isReached wsX0_isReached rm_isReached D vwCl (pfT k) [.ref (h 0), .int x] (pfW h k (nI nv) vP vO vG (nI np) pD pV pB pX pY sv rc ah be wt iw (nI hN) (nI wN)) (qI D vwCl (pfT k) (fun (r : Int32) (u : Int32 × (Nat → Int32) × (Nat → Int32) × (Nat → Int32) × (Nat → Int64) × (Nat → Int64) × Nat × Nat) => ZI nv np vP vG pD pV pB pX pY u.1 u.2.1 u.2.2.1 u.2.2.2.2.1 ∧ (((∀ j, j < np → ¬ x = nI j) ∧ r = 0) ∨ ∃ j, j < np ∧ x = nI j ∧ DnG nv np vP vG pD pV pB pX pY u.2.1 u.2.2.2.2.1 ∧ r = u.2.1 j)) (fun u => pfW h k (nI nv) vP vO vG (nI np) pD pV pB pX pY u.1 u.2.1 u.2.2.2.2.1 u.2.2.2.2.2.1 u.2.2.2.1 u.2.2.1 (nI u.2.2.2.2.2.2.1) (nI u.2.2.2.2.2.2.2))) 0 0 := by
  refine ct_of (cc := cX0_isReached) (maxL := 2) (ret := some .boolean) (by decide) rfl (Nat.le_of_ble_eq_true rfl) ?_
  intro p e s m below meth c A ls hx hb hr hml hlocks hown hnm hts hA hK hP hD hS hl
  have hown : s.vm.findClass RX0 = some m.cls := hown
  have hin := in_isReached
  have hl : lv_has ls 2 [(0, .ref (h 0)), (1, .int x)] := hl
  have hn : np ≤ 120 := hg.2.1
  refine lv_aload_n hx hb dX0_isReached_0 rfl (lv_at hl 0 rfl) ?_
  refine lv_iload_n hx hb dX0_isReached_1 rfl (lv_at hl 1 rfl) ?_
  refine call_vi (As := [.int x]) (rest := []) ⟨hx, hb, hml, hown, hts⟩ (c_isPoint x) cp_isReached_isPoint ⟨rfl, rfl⟩ ⟨Nat.le_of_ble_eq_true rfl, Nat.le_of_ble_eq_true rfl⟩ rfl rfl 0 rfl rfl hl.1 rfl (Nat.le_of_ble_eq_true rfl) dX0_isReached_2 ⟨Nat.zero_le _, Nat.zero_le _⟩ hK hP hD hS hA (fun r2 u H locs p2 hP hD hS => ?_)
  try dsimp only at p2
  refine lv_if_ne (tgt := 10) hx hb dX0_isReached_5 (by decide) (fun c5 => ?_) (fun c5 => ?_)
  · -- 5 t ne 
    obtain ⟨j, hj, rfl⟩ := pt_in rfl hn p2 c5
    refine lv_aload_n hx hb dX0_isReached_10 rfl (lv_at hl 0 rfl) ?_
    refine call_vv (As := []) (rest := []) ⟨hx, hb, hml, hown, hts⟩ (c_solve nv np hN wN hg hz) cp_isReached_solve ⟨rfl, rfl⟩ ⟨Nat.le_of_ble_eq_true rfl, Nat.le_of_ble_eq_true rfl⟩ rfl rfl 0 rfl rfl hl.1 rfl (Nat.le_of_ble_eq_true rfl) dX0_isReached_11 ⟨Nat.zero_le _, Nat.zero_le _⟩ hK hP hD hS hA (fun u H locs p11 hP hD hS => ?_)
    obtain ⟨sv_11, rc_11, iw_11, wt_11, ah_11, be_11, hd_11, wn_11⟩ := u
    have hP : va_P D vwCl (pfW h k (nI nv) vP vO vG (nI np) pD pV pB pX pY sv_11 rc_11 ah_11 be_11 wt_11 iw_11 (nI hd_11) (nI wn_11)) H := hP
    have hD : va_D A (pfW h k (nI nv) vP vO vG (nI np) pD pV pB pX pY sv_11 rc_11 ah_11 be_11 wt_11 iw_11 (nI hd_11) (nI wn_11)) := hD
    try dsimp only at p11
    refine lv_aload_n hx hb dX0_isReached_14 rfl (lv_at hl 0 rfl) ?_
    refine pf_g_rc hx hb hts hin hown hK hP (by decide +kernel) dX0_isReached_15 ?_
    refine lv_iload_n hx hb dX0_isReached_18 rfl (lv_at hl 1 rfl) ?_
    refine pf_l_rc (n := j) hx hb hK hP (by omega) dX0_isReached_19 ?_
    exact ret_z hx hb hr hlocks hK hP hD hS dX0_isReached_20 (sv_11, rc_11, iw_11, wt_11, ah_11, be_11, hd_11, wn_11) rfl (by rcases p11.2.2.2 j (by omega) with q | q <;> rw [q] <;> rfl) (⟨SP_ZI p11, Or.inr ⟨j, hj, rfl, p11.2.1, rfl⟩⟩)
  · -- 5 f ne 
    refine lv_iconst (v := 0) hx hb dX0_isReached_8 (by decide) ?_
    exact ret_z hx hb hr hlocks hK hP hD hS dX0_isReached_9 (sv, rc, iw, wt, ah, be, hN, wN) rfl (by decide) (⟨hz, Or.inl ⟨pt_out rfl hn p2 c5, rfl⟩⟩)

abbrev rm_fault : Room := { frames := 4, cells := 0, slots := 0, locals := 92 }
theorem in_fault : ∀ w ∈ u_ws RX0 TX0 18, w ∈ wsX0_fault := by decide +kernel
theorem cp_fault_faultOfPoint : cpV wsX0_fault RX0 84 RX0 yX0_faultOfPoint wsX0_faultOfPoint cX0_faultOfPoint 5 (some .int) 1 := ⟨gX0_fault_X0_faultOfPoint, ⟨_, rfl⟩, by decide +kernel⟩
theorem cp_fault_isPoint : cpV wsX0_fault RX0 70 RX0 yX0_isPoint wsX0_isPoint cX0_isPoint 2 (some .boolean) 1 := ⟨gX0_fault_X0_isPoint, ⟨_, rfl⟩, by decide +kernel⟩
theorem cp_fault_solve : cpV wsX0_fault RX0 77 RX0 yX0_solve wsX0_solve cX0_solve 3 none 0 := ⟨gX0_fault_X0_solve, ⟨_, rfl⟩, by decide +kernel⟩
set_option maxHeartbeats 4000000 in
set_option maxRecDepth 100000 in
theorem c_fault {l : Launch} {D : va_G} {h : Nat → Nat} {k : Nat → ClassId} {sv : Int32} {vP vO vG pD pV pB pX pY rc wt iw : Nat → Int32} {ah be : Nat → Int64} (nv np hN wN : Nat) (x : Int32) (hg : GI nv np vP pV pB) (hz : ZI nv np vP vG pD pV pB pX pY sv rc iw ah) : ct l yX0_fault wsX0_fault rm_fault D vwCl (pfT k) [.ref (h 0), .int x] (pfW h k (nI nv) vP vO vG (nI np) pD pV pB pX pY sv rc ah be wt iw (nI hN) (nI wN)) (qI D vwCl (pfT k) (fun (r : Int32) (u : Int32 × (Nat → Int32) × (Nat → Int32) × (Nat → Int32) × (Nat → Int64) × (Nat → Int64) × Nat × Nat) => ZI nv np vP vG pD pV pB pX pY u.1 u.2.1 u.2.2.1 u.2.2.2.2.1 ∧ (((∀ j, j < np → ¬ x = nI j) ∧ r = -1) ∨ ∃ j, j < np ∧ x = nI j ∧ DnG nv np vP vG pD pV pB pX pY u.2.1 u.2.2.2.2.1 ∧ r = fop vP vO pD pV pB u.2.1 u.2.2.2.2.1 j)) (fun u => pfW h k (nI nv) vP vO vG (nI np) pD pV pB pX pY u.1 u.2.1 u.2.2.2.2.1 u.2.2.2.2.2.1 u.2.2.2.1 u.2.2.1 (nI u.2.2.2.2.2.2.1) (nI u.2.2.2.2.2.2.2))) 0 0 := by
  refine ct_of (cc := cX0_fault) (maxL := 2) (ret := some .int) (by decide) rfl (Nat.le_of_ble_eq_true rfl) ?_
  intro p e s m below meth c A ls hx hb hr hml hlocks hown hnm hts hA hK hP hD hS hl
  have hown : s.vm.findClass RX0 = some m.cls := hown
  have hin := in_fault
  have hl : lv_has ls 2 [(0, .ref (h 0)), (1, .int x)] := hl
  have hn : np ≤ 120 := hg.2.1
  refine lv_aload_n hx hb dX0_fault_0 rfl (lv_at hl 0 rfl) ?_
  refine lv_iload_n hx hb dX0_fault_1 rfl (lv_at hl 1 rfl) ?_
  refine call_vi (As := [.int x]) (rest := []) ⟨hx, hb, hml, hown, hts⟩ (c_isPoint x) cp_fault_isPoint ⟨rfl, rfl⟩ ⟨Nat.le_of_ble_eq_true rfl, Nat.le_of_ble_eq_true rfl⟩ rfl rfl 0 rfl rfl hl.1 rfl (Nat.le_of_ble_eq_true rfl) dX0_fault_2 ⟨Nat.zero_le _, Nat.zero_le _⟩ hK hP hD hS hA (fun r2 u H locs p2 hP hD hS => ?_)
  try dsimp only at p2
  refine lv_if_ne (tgt := 10) hx hb dX0_fault_5 (by decide) (fun c5 => ?_) (fun c5 => ?_)
  · -- 5 t ne 
    obtain ⟨j, hj, rfl⟩ := pt_in rfl hn p2 c5
    refine lv_aload_n hx hb dX0_fault_10 rfl (lv_at hl 0 rfl) ?_
    refine call_vv (As := []) (rest := []) ⟨hx, hb, hml, hown, hts⟩ (c_solve nv np hN wN hg hz) cp_fault_solve ⟨rfl, rfl⟩ ⟨Nat.le_of_ble_eq_true rfl, Nat.le_of_ble_eq_true rfl⟩ rfl rfl 0 rfl rfl hl.1 rfl (Nat.le_of_ble_eq_true rfl) dX0_fault_11 ⟨Nat.zero_le _, Nat.zero_le _⟩ hK hP hD hS hA (fun u H locs p11 hP hD hS => ?_)
    obtain ⟨sv_11, rc_11, iw_11, wt_11, ah_11, be_11, hd_11, wn_11⟩ := u
    have hP : va_P D vwCl (pfW h k (nI nv) vP vO vG (nI np) pD pV pB pX pY sv_11 rc_11 ah_11 be_11 wt_11 iw_11 (nI hd_11) (nI wn_11)) H := hP
    have hD : va_D A (pfW h k (nI nv) vP vO vG (nI np) pD pV pB pX pY sv_11 rc_11 ah_11 be_11 wt_11 iw_11 (nI hd_11) (nI wn_11)) := hD
    try dsimp only at p11
    refine lv_aload_n hx hb dX0_fault_14 rfl (lv_at hl 0 rfl) ?_
    refine lv_iload_n hx hb dX0_fault_15 rfl (lv_at hl 1 rfl) ?_
    refine call_vi (As := [.int (nI j)]) (rest := []) ⟨hx, hb, hml, hown, hts⟩ (c_faultOfPoint j (by omega) (hg.2.2.2 j hj).1 (hg.2.2.2 j hj).2.1) cp_fault_faultOfPoint ⟨rfl, rfl⟩ ⟨Nat.le_of_ble_eq_true rfl, Nat.le_of_ble_eq_true rfl⟩ rfl rfl 0 rfl rfl hl.1 rfl (Nat.le_of_ble_eq_true rfl) dX0_fault_16 ⟨Nat.zero_le _, Nat.zero_le _⟩ hK hP hD hS hA (fun r16 u H locs p16 hP hD hS => ?_)
    try dsimp only at p16
    exact ret_i hx hb hr hlocks hK hP hD hS dX0_fault_19 (sv_11, rc_11, iw_11, wt_11, ah_11, be_11, hd_11, wn_11) rfl (⟨SP_ZI p11, Or.inr ⟨j, hj, rfl, p11.2.1, p16⟩⟩)
  · -- 5 f ne 
    refine lv_iconst (v := (-1)) hx hb dX0_fault_8 (by decide) ?_
    exact ret_i hx hb hr hlocks hK hP hD hS dX0_fault_9 (sv, rc, iw, wt, ah, be, hN, wN) rfl (⟨hz, Or.inl ⟨pt_out rfl hn p2 c5, rfl⟩⟩)

abbrev rm_countReached : Room := { frames := 4, cells := 0, slots := 0, locals := 92 }
theorem in_countReached : ∀ w ∈ u_ws RX0 TX0 18, w ∈ wsX0_countReached := by decide +kernel
set_option maxHeartbeats 4000000 in
set_option maxRecDepth 100000 in
theorem lp_cr {p : Program} {l : Launch} {e : Env} {s : State} {m : MethodId} {args : Array Value} {below : List Frame} {meth : Method} {c : Code} {A : Nat → Prop} {Q : State → Prop} {D : va_G} {h : Nat → Nat} {k : Nat → ClassId} {vc sv hd wn : Int32} {vP vO vG pD pV pB pX pY rc wt iw : Nat → Int32} {ah be : Nat → Int64} {np : Nat} (hx : p.tables.exec = Jvm.exec) (hb : c.code = cX0_countReached) (hml : c.maxLocals = 3) (hown : s.vm.findClass RX0 = some m.cls) (hts : ∀ w ∈ wsX0_countReached, w.before args s = true) (hA : ∀ q : Nat, s.heap.size ≤ q → A q) (hK : va_K D vwCl (pfT k) s) (hn : np ≤ 120)
    (kk : ∀ (i : Nat) (sm : Nat) (H : Heap) (locs : List Loc) (ls : Array Slot), (sm = cnt (fun q => decide (¬ rc q = 0)) np) → va_P D vwCl (pfW h k vc vP vO vG (nI np) pD pV pB pX pY sv rc ah be wt iw hd wn) H → va_D A (pfW h k vc vP vO vG (nI np) pD pV pB pX pY sv rc ah be wt iw hd wn) → va_S A s.heap H locs → lv_has ls 3 [(0, .ref (h 0)), (1, .int (nI sm)), (2, .int (nI i))] → W p l e rm_countReached s m args below meth c H locs 0 0 Q (F0 m 34 ls [])) :
    ∀ (n : Nat) (i : Nat) (sm : Nat) (H : Heap) (locs : List Loc) (ls : Array Slot), (i ≤ np) → (sm = cnt (fun q => decide (¬ rc q = 0)) i) → np - i < n → va_P D vwCl (pfW h k vc vP vO vG (nI np) pD pV pB pX pY sv rc ah be wt iw hd wn) H → va_D A (pfW h k vc vP vO vG (nI np) pD pV pB pX pY sv rc ah be wt iw hd wn) → va_S A s.heap H locs → lv_has ls 3 [(0, .ref (h 0)), (1, .int (nI sm)), (2, .int (nI i))] → W p l e rm_countReached s m args below meth c H locs 0 0 Q (F0 m 8 ls []) := by
  have hin := in_countReached
  intro n
  induction n with
  | zero =>
    intro i sm H locs ls hi hsm hmz
    exact absurd hmz (Nat.not_lt_zero _)
  | succ n ih =>
    intro i sm H locs ls hi hsm hmz hP hD hS hl
    refine lv_iload_n hx hb dX0_countReached_8 rfl (lv_at hl 2 rfl) ?_
    refine lv_aload_n hx hb dX0_countReached_9 rfl (lv_at hl 0 rfl) ?_
    refine pf_g_pn hx hb hts hin hown hK hP (by decide +kernel) dX0_countReached_10 ?_
    refine lv_icmp_ge (tgt := 34) hx hb dX0_countReached_13 (by decide) (fun c13 => ?_) (fun c13 => ?_)
    · -- 13 t ge 
      have n13 : np ≤ i := (nI_leI (by omega) (by omega)).mp c13
      exact kk i sm H locs ls ((show i = np by omega) ▸ hsm) hP hD hS (lv_sub hl [0, 1, 2] rfl)
    · -- 13 f ge 
      have n13 : ¬ np ≤ i := fun q => c13 ((nI_leI (by omega) (by omega)).mpr q)
      refine lv_aload_n hx hb dX0_countReached_16 rfl (lv_at hl 0 rfl) ?_
      refine pf_g_rc hx hb hts hin hown hK hP (by decide +kernel) dX0_countReached_17 ?_
      refine lv_iload_n hx hb dX0_countReached_20 rfl (lv_at hl 2 rfl) ?_
      refine pf_l_rc (n := i) hx hb hK hP (by omega) dX0_countReached_21 ?_
      refine lv_if_eq (tgt := 28) hx hb dX0_countReached_22 (by decide) (fun c22 => ?_) (fun c22 => ?_)
      · -- 22 t eq 
        refine lv_iinc (v := nI (i + 1)) (lv' := [(2, .int (nI (i + 1))), (0, .ref (h 0)), (1, .int (nI sm))]) hx hb dX0_countReached_28 hl (k := 2) rfl (nI_add i 1) (by decide) rfl (fun ls hl => ?_)
        refine lv_goto (tgt := 8) hx hb dX0_countReached_31 (by decide) ?_
        exact ih (i + 1) sm H locs ls (by omega) (by rw [hsm, cnt_s0 (f := (fun q => decide (¬ rc q = 0))) (i := i) (decide_eq_false (fun z => z c22))]) (by omega) hP hD hS (lv_sub hl [1, 2, 0] rfl)
      · -- 22 f eq 
        refine lv_iinc (v := nI (sm + 1)) (lv' := [(1, .int (nI (sm + 1))), (0, .ref (h 0)), (2, .int (nI i))]) hx hb dX0_countReached_25 hl (k := 1) rfl (nI_add sm 1) (by decide) rfl (fun ls hl => ?_)
        refine lv_iinc (v := nI (i + 1)) (lv' := [(2, .int (nI (i + 1))), (1, .int (nI (sm + 1))), (0, .ref (h 0))]) hx hb dX0_countReached_28 hl (k := 2) rfl (nI_add i 1) (by decide) rfl (fun ls hl => ?_)
        refine lv_goto (tgt := 8) hx hb dX0_countReached_31 (by decide) ?_
        exact ih (i + 1) (sm + 1) H locs ls (by omega) (by rw [hsm, cnt_s1 (f := (fun q => decide (¬ rc q = 0))) (i := i) (decide_eq_true c22)]) (by omega) hP hD hS (lv_sub hl [2, 1, 0] rfl)

theorem cp_countReached_solve : cpV wsX0_countReached RX0 77 RX0 yX0_solve wsX0_solve cX0_solve 3 none 0 := ⟨gX0_countReached_X0_solve, ⟨_, rfl⟩, by decide +kernel⟩
set_option maxHeartbeats 4000000 in
set_option maxRecDepth 100000 in
theorem c_countReached {l : Launch} {D : va_G} {h : Nat → Nat} {k : Nat → ClassId} {sv : Int32} {vP vO vG pD pV pB pX pY rc wt iw : Nat → Int32} {ah be : Nat → Int64} (nv np hN wN : Nat) (hg : GI nv np vP pV pB) (hz : ZI nv np vP vG pD pV pB pX pY sv rc iw ah) : ct l yX0_countReached wsX0_countReached rm_countReached D vwCl (pfT k) [.ref (h 0)] (pfW h k (nI nv) vP vO vG (nI np) pD pV pB pX pY sv rc ah be wt iw (nI hN) (nI wN)) (qI D vwCl (pfT k) (fun (r : Int32) (u : Int32 × (Nat → Int32) × (Nat → Int32) × (Nat → Int32) × (Nat → Int64) × (Nat → Int64) × Nat × Nat) => SP nv np vP vG pD pV pB pX pY u.1 u.2.1 u.2.2.1 u.2.2.2.2.1 ∧ r = nI (cnt (fun q => decide (¬ u.2.1 q = 0)) np)) (fun u => pfW h k (nI nv) vP vO vG (nI np) pD pV pB pX pY u.1 u.2.1 u.2.2.2.2.1 u.2.2.2.2.2.1 u.2.2.2.1 u.2.2.1 (nI u.2.2.2.2.2.2.1) (nI u.2.2.2.2.2.2.2))) 0 0 := by
  refine ct_of (cc := cX0_countReached) (maxL := 3) (ret := some .int) (by decide) rfl (Nat.le_of_ble_eq_true rfl) ?_
  intro p e s m below meth c A ls hx hb hr hml hlocks hown hnm hts hA hK hP hD hS hl
  have hown : s.vm.findClass RX0 = some m.cls := hown
  have hin := in_countReached
  have hl : lv_has ls 3 [(0, .ref (h 0))] := hl
  have hn : np ≤ 120 := hg.2.1
  refine lv_aload_n hx hb dX0_countReached_0 rfl (lv_at hl 0 rfl) ?_
  refine call_vv (As := []) (rest := []) ⟨hx, hb, hml, hown, hts⟩ (c_solve nv np hN wN hg hz) cp_countReached_solve ⟨rfl, rfl⟩ ⟨Nat.le_of_ble_eq_true rfl, Nat.le_of_ble_eq_true rfl⟩ rfl rfl 0 rfl rfl hl.1 rfl (Nat.le_of_ble_eq_true rfl) dX0_countReached_1 ⟨Nat.zero_le _, Nat.zero_le _⟩ hK hP hD hS hA (fun u H locs p1 hP hD hS => ?_)
  obtain ⟨sv_1, rc_1, iw_1, wt_1, ah_1, be_1, hd_1, wn_1⟩ := u
  have hP : va_P D vwCl (pfW h k (nI nv) vP vO vG (nI np) pD pV pB pX pY sv_1 rc_1 ah_1 be_1 wt_1 iw_1 (nI hd_1) (nI wn_1)) H := hP
  have hD : va_D A (pfW h k (nI nv) vP vO vG (nI np) pD pV pB pX pY sv_1 rc_1 ah_1 be_1 wt_1 iw_1 (nI hd_1) (nI wn_1)) := hD
  try dsimp only at p1
  refine lv_iconst (v := nI 0) hx hb dX0_countReached_4 (by decide) ?_
  refine lv_istore_n (lv' := [(1, .int (nI 0)), (0, .ref (h 0))]) hx hb dX0_countReached_5 rfl hl (by decide) rfl (fun ls hl => ?_)
  refine lv_iconst (v := nI 0) hx hb dX0_countReached_6 (by decide) ?_
  refine lv_istore_n (lv' := [(2, .int (nI 0)), (1, .int (nI 0)), (0, .ref (h 0))]) hx hb dX0_countReached_7 rfl hl (by decide) rfl (fun ls hl => ?_)
  refine lp_cr hx hb hml hown hts hA hK hn ?_ _ 0 0 _ _ ls (Nat.zero_le _) (rfl) (Nat.lt_succ_self _) hP hD hS (lv_sub hl [2, 1, 0] rfl)
  intro i sm H locs ls hsm hP hD hS hl
  refine lv_iload_n hx hb dX0_countReached_34 rfl (lv_at hl 1 rfl) ?_
  exact ret_i hx hb hr hlocks hK hP hD hS dX0_countReached_35 (sv_1, rc_1, iw_1, wt_1, ah_1, be_1, hd_1, wn_1) rfl (⟨p1, by rw [hsm]⟩)

abbrev rm_countFaults : Room := { frames := 4, cells := 0, slots := 0, locals := 92 }
theorem in_countFaults : ∀ w ∈ u_ws RX0 TX0 18, w ∈ wsX0_countFaults := by decide +kernel
theorem cp_countFaults_faultOfPoint : cpV wsX0_countFaults RX0 84 RX0 yX0_faultOfPoint wsX0_faultOfPoint cX0_faultOfPoint 5 (some .int) 1 := ⟨gX0_countFaults_X0_faultOfPoint, ⟨_, rfl⟩, by decide +kernel⟩
set_option maxHeartbeats 4000000 in
set_option maxRecDepth 100000 in
theorem lp_cf {p : Program} {l : Launch} {e : Env} {s : State} {m : MethodId} {args : Array Value} {below : List Frame} {meth : Method} {c : Code} {A : Nat → Prop} {Q : State → Prop} {D : va_G} {h : Nat → Nat} {k : Nat → ClassId} {vc sv hd wn : Int32} {vP vO vG pD pV pB pX pY rc wt iw : Nat → Int32} {ah be : Nat → Int64} {np : Nat} (hx : p.tables.exec = Jvm.exec) (hb : c.code = cX0_countFaults) (hml : c.maxLocals = 3) (hown : s.vm.findClass RX0 = some m.cls) (hts : ∀ w ∈ wsX0_countFaults, w.before args s = true) (hA : ∀ q : Nat, s.heap.size ≤ q → A q) (hK : va_K D vwCl (pfT k) s) (hn : np ≤ 120) (hpt : ∀ q, q < np → pV q = nI (tN (pV q)) ∧ tN (pV q) < 20)
    (kk : ∀ (i : Nat) (sm : Nat) (H : Heap) (locs : List Loc) (ls : Array Slot), (sm = cnt (fun q => decide (¬ fop vP vO pD pV pB rc ah q = 0)) np) → va_P D vwCl (pfW h k vc vP vO vG (nI np) pD pV pB pX pY sv rc ah be wt iw hd wn) H → va_D A (pfW h k vc vP vO vG (nI np) pD pV pB pX pY sv rc ah be wt iw hd wn) → va_S A s.heap H locs → lv_has ls 3 [(0, .ref (h 0)), (1, .int (nI sm)), (2, .int (nI i))] → W p l e rm_countFaults s m args below meth c H locs 0 0 Q (F0 m 33 ls [])) :
    ∀ (n : Nat) (i : Nat) (sm : Nat) (H : Heap) (locs : List Loc) (ls : Array Slot), (i ≤ np) → (sm = cnt (fun q => decide (¬ fop vP vO pD pV pB rc ah q = 0)) i) → np - i < n → va_P D vwCl (pfW h k vc vP vO vG (nI np) pD pV pB pX pY sv rc ah be wt iw hd wn) H → va_D A (pfW h k vc vP vO vG (nI np) pD pV pB pX pY sv rc ah be wt iw hd wn) → va_S A s.heap H locs → lv_has ls 3 [(0, .ref (h 0)), (1, .int (nI sm)), (2, .int (nI i))] → W p l e rm_countFaults s m args below meth c H locs 0 0 Q (F0 m 8 ls []) := by
  have hin := in_countFaults
  intro n
  induction n with
  | zero =>
    intro i sm H locs ls hi hsm hmz
    exact absurd hmz (Nat.not_lt_zero _)
  | succ n ih =>
    intro i sm H locs ls hi hsm hmz hP hD hS hl
    refine lv_iload_n hx hb dX0_countFaults_8 rfl (lv_at hl 2 rfl) ?_
    refine lv_aload_n hx hb dX0_countFaults_9 rfl (lv_at hl 0 rfl) ?_
    refine pf_g_pn hx hb hts hin hown hK hP (by decide +kernel) dX0_countFaults_10 ?_
    refine lv_icmp_ge (tgt := 33) hx hb dX0_countFaults_13 (by decide) (fun c13 => ?_) (fun c13 => ?_)
    · -- 13 t ge 
      have n13 : np ≤ i := (nI_leI (by omega) (by omega)).mp c13
      exact kk i sm H locs ls ((show i = np by omega) ▸ hsm) hP hD hS (lv_sub hl [0, 1, 2] rfl)
    · -- 13 f ge 
      have n13 : ¬ np ≤ i := fun q => c13 ((nI_leI (by omega) (by omega)).mpr q)
      refine lv_aload_n hx hb dX0_countFaults_16 rfl (lv_at hl 0 rfl) ?_
      refine lv_iload_n hx hb dX0_countFaults_17 rfl (lv_at hl 2 rfl) ?_
      refine call_vi (As := [.int (nI i)]) (rest := []) ⟨hx, hb, hml, hown, hts⟩ (c_faultOfPoint i (by omega) (hpt i (by omega)).1 (hpt i (by omega)).2) cp_countFaults_faultOfPoint ⟨rfl, rfl⟩ ⟨Nat.le_of_ble_eq_true rfl, Nat.le_of_ble_eq_true rfl⟩ rfl rfl 0 rfl rfl hl.1 rfl (Nat.le_of_ble_eq_true rfl) dX0_countFaults_18 ⟨Nat.zero_le _, Nat.zero_le _⟩ hK hP hD hS hA (fun r18 u H locs p18 hP hD hS => ?_)
      try dsimp only at p18
      obtain rfl := p18
      refine lv_if_eq (tgt := 27) hx hb dX0_countFaults_21 (by decide) (fun c21 => ?_) (fun c21 => ?_)
      · -- 21 t eq 
        refine lv_iinc (v := nI (i + 1)) (lv' := [(2, .int (nI (i + 1))), (0, .ref (h 0)), (1, .int (nI sm))]) hx hb dX0_countFaults_27 hl (k := 2) rfl (nI_add i 1) (by decide) rfl (fun ls hl => ?_)
        refine lv_goto (tgt := 8) hx hb dX0_countFaults_30 (by decide) ?_
        exact ih (i + 1) sm H locs ls (by omega) (by rw [hsm, cnt_s0 (f := (fun q => decide (¬ fop vP vO pD pV pB rc ah q = 0))) (i := i) (decide_eq_false (fun z => z c21))]) (by omega) hP hD hS (lv_sub hl [1, 2, 0] rfl)
      · -- 21 f eq 
        refine lv_iinc (v := nI (sm + 1)) (lv' := [(1, .int (nI (sm + 1))), (0, .ref (h 0)), (2, .int (nI i))]) hx hb dX0_countFaults_24 hl (k := 1) rfl (nI_add sm 1) (by decide) rfl (fun ls hl => ?_)
        refine lv_iinc (v := nI (i + 1)) (lv' := [(2, .int (nI (i + 1))), (1, .int (nI (sm + 1))), (0, .ref (h 0))]) hx hb dX0_countFaults_27 hl (k := 2) rfl (nI_add i 1) (by decide) rfl (fun ls hl => ?_)
        refine lv_goto (tgt := 8) hx hb dX0_countFaults_30 (by decide) ?_
        exact ih (i + 1) (sm + 1) H locs ls (by omega) (by rw [hsm, cnt_s1 (f := (fun q => decide (¬ fop vP vO pD pV pB rc ah q = 0))) (i := i) (decide_eq_true c21)]) (by omega) hP hD hS (lv_sub hl [2, 1, 0] rfl)

theorem cp_countFaults_solve : cpV wsX0_countFaults RX0 77 RX0 yX0_solve wsX0_solve cX0_solve 3 none 0 := ⟨gX0_countFaults_X0_solve, ⟨_, rfl⟩, by decide +kernel⟩
set_option maxHeartbeats 4000000 in
set_option maxRecDepth 100000 in
theorem c_countFaults {l : Launch} {D : va_G} {h : Nat → Nat} {k : Nat → ClassId} {sv : Int32} {vP vO vG pD pV pB pX pY rc wt iw : Nat → Int32} {ah be : Nat → Int64} (nv np hN wN : Nat) (hg : GI nv np vP pV pB) (hz : ZI nv np vP vG pD pV pB pX pY sv rc iw ah) : ct l yX0_countFaults wsX0_countFaults rm_countFaults D vwCl (pfT k) [.ref (h 0)] (pfW h k (nI nv) vP vO vG (nI np) pD pV pB pX pY sv rc ah be wt iw (nI hN) (nI wN)) (qI D vwCl (pfT k) (fun (r : Int32) (u : Int32 × (Nat → Int32) × (Nat → Int32) × (Nat → Int32) × (Nat → Int64) × (Nat → Int64) × Nat × Nat) => SP nv np vP vG pD pV pB pX pY u.1 u.2.1 u.2.2.1 u.2.2.2.2.1 ∧ r = nI (cnt (fun q => decide (¬ fop vP vO pD pV pB u.2.1 u.2.2.2.2.1 q = 0)) np)) (fun u => pfW h k (nI nv) vP vO vG (nI np) pD pV pB pX pY u.1 u.2.1 u.2.2.2.2.1 u.2.2.2.2.2.1 u.2.2.2.1 u.2.2.1 (nI u.2.2.2.2.2.2.1) (nI u.2.2.2.2.2.2.2))) 0 0 := by
  refine ct_of (cc := cX0_countFaults) (maxL := 3) (ret := some .int) (by decide) rfl (Nat.le_of_ble_eq_true rfl) ?_
  intro p e s m below meth c A ls hx hb hr hml hlocks hown hnm hts hA hK hP hD hS hl
  have hown : s.vm.findClass RX0 = some m.cls := hown
  have hin := in_countFaults
  have hl : lv_has ls 3 [(0, .ref (h 0))] := hl
  have hn : np ≤ 120 := hg.2.1
  refine lv_aload_n hx hb dX0_countFaults_0 rfl (lv_at hl 0 rfl) ?_
  refine call_vv (As := []) (rest := []) ⟨hx, hb, hml, hown, hts⟩ (c_solve nv np hN wN hg hz) cp_countFaults_solve ⟨rfl, rfl⟩ ⟨Nat.le_of_ble_eq_true rfl, Nat.le_of_ble_eq_true rfl⟩ rfl rfl 0 rfl rfl hl.1 rfl (Nat.le_of_ble_eq_true rfl) dX0_countFaults_1 ⟨Nat.zero_le _, Nat.zero_le _⟩ hK hP hD hS hA (fun u H locs p1 hP hD hS => ?_)
  obtain ⟨sv_1, rc_1, iw_1, wt_1, ah_1, be_1, hd_1, wn_1⟩ := u
  have hP : va_P D vwCl (pfW h k (nI nv) vP vO vG (nI np) pD pV pB pX pY sv_1 rc_1 ah_1 be_1 wt_1 iw_1 (nI hd_1) (nI wn_1)) H := hP
  have hD : va_D A (pfW h k (nI nv) vP vO vG (nI np) pD pV pB pX pY sv_1 rc_1 ah_1 be_1 wt_1 iw_1 (nI hd_1) (nI wn_1)) := hD
  try dsimp only at p1
  refine lv_iconst (v := nI 0) hx hb dX0_countFaults_4 (by decide) ?_
  refine lv_istore_n (lv' := [(1, .int (nI 0)), (0, .ref (h 0))]) hx hb dX0_countFaults_5 rfl hl (by decide) rfl (fun ls hl => ?_)
  refine lv_iconst (v := nI 0) hx hb dX0_countFaults_6 (by decide) ?_
  refine lv_istore_n (lv' := [(2, .int (nI 0)), (1, .int (nI 0)), (0, .ref (h 0))]) hx hb dX0_countFaults_7 rfl hl (by decide) rfl (fun ls hl => ?_)
  refine lp_cf hx hb hml hown hts hA hK hn (fun q hq => ⟨(hg.2.2.2 q hq).1, (hg.2.2.2 q hq).2.1⟩) ?_ _ 0 0 _ _ ls (Nat.zero_le _) (rfl) (Nat.lt_succ_self _) hP hD hS (lv_sub hl [2, 1, 0] rfl)
  intro i sm H locs ls hsm hP hD hS hl
  refine lv_iload_n hx hb dX0_countFaults_33 rfl (lv_at hl 1 rfl) ?_
  exact ret_i hx hb hr hlocks hK hP hD hS dX0_countFaults_34 (sv_1, rc_1, iw_1, wt_1, ah_1, be_1, hd_1, wn_1) rfl (⟨p1, by rw [hsm]⟩)

abbrev rm_firstFault : Room := { frames := 4, cells := 0, slots := 0, locals := 92 }
theorem in_firstFault : ∀ w ∈ u_ws RX0 TX0 18, w ∈ wsX0_firstFault := by decide +kernel
theorem cp_firstFault_faultOfPoint : cpV wsX0_firstFault RX0 84 RX0 yX0_faultOfPoint wsX0_faultOfPoint cX0_faultOfPoint 5 (some .int) 1 := ⟨gX0_firstFault_X0_faultOfPoint, ⟨_, rfl⟩, by decide +kernel⟩
set_option maxHeartbeats 4000000 in
set_option maxRecDepth 100000 in
theorem lp_ff {p : Program} {l : Launch} {e : Env} {s : State} {m : MethodId} {args : Array Value} {below : List Frame} {meth : Method} {c : Code} {A : Nat → Prop} {Q : State → Prop} {D : va_G} {h : Nat → Nat} {k : Nat → ClassId} {vc sv hd wn : Int32} {vP vO vG pD pV pB pX pY rc wt iw : Nat → Int32} {ah be : Nat → Int64} {np : Nat} (hx : p.tables.exec = Jvm.exec) (hb : c.code = cX0_firstFault) (hml : c.maxLocals = 2) (hown : s.vm.findClass RX0 = some m.cls) (hts : ∀ w ∈ wsX0_firstFault, w.before args s = true) (hA : ∀ q : Nat, s.heap.size ≤ q → A q) (hK : va_K D vwCl (pfT k) s) (hn : np ≤ 120) (hpt : ∀ q, q < np → pV q = nI (tN (pV q)) ∧ tN (pV q) < 20) (kk2 : ∀ (i : Nat) (H : Heap) (locs : List Loc) (ls : Array Slot), i < np → ¬ fop vP vO pD pV pB rc ah i = 0 → (∀ q, q < i → fop vP vO pD pV pB rc ah q = 0) → va_P D vwCl (pfW h k vc vP vO vG (nI np) pD pV pB pX pY sv rc ah be wt iw hd wn) H → va_D A (pfW h k vc vP vO vG (nI np) pD pV pB pX pY sv rc ah be wt iw hd wn) → va_S A s.heap H locs → lv_has ls 2 [(0, .ref (h 0)), (1, .int (nI i))] → W p l e rm_firstFault s m args below meth c H locs 0 0 Q (F0 m 22 ls []))
    (kk : ∀ (i : Nat) (H : Heap) (locs : List Loc) (ls : Array Slot), (∀ q, q < np → fop vP vO pD pV pB rc ah q = 0) → va_P D vwCl (pfW h k vc vP vO vG (nI np) pD pV pB pX pY sv rc ah be wt iw hd wn) H → va_D A (pfW h k vc vP vO vG (nI np) pD pV pB pX pY sv rc ah be wt iw hd wn) → va_S A s.heap H locs → lv_has ls 2 [(0, .ref (h 0)), (1, .int (nI i))] → W p l e rm_firstFault s m args below meth c H locs 0 0 Q (F0 m 30 ls [])) :
    ∀ (n : Nat) (i : Nat) (H : Heap) (locs : List Loc) (ls : Array Slot), (i ≤ np) → (∀ q, q < i → fop vP vO pD pV pB rc ah q = 0) → np - i < n → va_P D vwCl (pfW h k vc vP vO vG (nI np) pD pV pB pX pY sv rc ah be wt iw hd wn) H → va_D A (pfW h k vc vP vO vG (nI np) pD pV pB pX pY sv rc ah be wt iw hd wn) → va_S A s.heap H locs → lv_has ls 2 [(0, .ref (h 0)), (1, .int (nI i))] → W p l e rm_firstFault s m args below meth c H locs 0 0 Q (F0 m 6 ls []) := by
  have hin := in_firstFault
  intro n
  induction n with
  | zero =>
    intro i H locs ls hi hno hmz
    exact absurd hmz (Nat.not_lt_zero _)
  | succ n ih =>
    intro i H locs ls hi hno hmz hP hD hS hl
    refine lv_iload_n hx hb dX0_firstFault_6 rfl (lv_at hl 1 rfl) ?_
    refine lv_aload_n hx hb dX0_firstFault_7 rfl (lv_at hl 0 rfl) ?_
    refine pf_g_pn hx hb hts hin hown hK hP (by decide +kernel) dX0_firstFault_8 ?_
    refine lv_icmp_ge (tgt := 30) hx hb dX0_firstFault_11 (by decide) (fun c11 => ?_) (fun c11 => ?_)
    · -- 11 t ge 
      have n11 : np ≤ i := (nI_leI (by omega) (by omega)).mp c11
      exact kk i H locs ls ((show i = np by omega) ▸ hno) hP hD hS (lv_sub hl [0, 1] rfl)
    · -- 11 f ge 
      have n11 : ¬ np ≤ i := fun q => c11 ((nI_leI (by omega) (by omega)).mpr q)
      refine lv_aload_n hx hb dX0_firstFault_14 rfl (lv_at hl 0 rfl) ?_
      refine lv_iload_n hx hb dX0_firstFault_15 rfl (lv_at hl 1 rfl) ?_
      refine call_vi (As := [.int (nI i)]) (rest := []) ⟨hx, hb, hml, hown, hts⟩ (c_faultOfPoint i (by omega) (hpt i (by omega)).1 (hpt i (by omega)).2) cp_firstFault_faultOfPoint ⟨rfl, rfl⟩ ⟨Nat.le_of_ble_eq_true rfl, Nat.le_of_ble_eq_true rfl⟩ rfl rfl 0 rfl rfl hl.1 rfl (Nat.le_of_ble_eq_true rfl) dX0_firstFault_16 ⟨Nat.zero_le _, Nat.zero_le _⟩ hK hP hD hS hA (fun r16 u H locs p16 hP hD hS => ?_)
      try dsimp only at p16
      obtain rfl := p16
      refine lv_if_eq (tgt := 24) hx hb dX0_firstFault_19 (by decide) (fun c19 => ?_) (fun c19 => ?_)
      · -- 19 t eq 
        refine lv_iinc (v := nI (i + 1)) (lv' := [(1, .int (nI (i + 1))), (0, .ref (h 0))]) hx hb dX0_firstFault_24 hl (k := 1) rfl (nI_add i 1) (by decide) rfl (fun ls hl => ?_)
        refine lv_goto (tgt := 6) hx hb dX0_firstFault_27 (by decide) ?_
        exact ih (i + 1) H locs ls (by omega) (lt_s hno c19) (by omega) hP hD hS (lv_sub hl [1, 0] rfl)
      · -- 19 f eq 
        exact kk2 i H locs ls (by omega) c19 hno hP hD hS (lv_sub hl [0, 1] rfl)

theorem cp_firstFault_solve : cpV wsX0_firstFault RX0 77 RX0 yX0_solve wsX0_solve cX0_solve 3 none 0 := ⟨gX0_firstFault_X0_solve, ⟨_, rfl⟩, by decide +kernel⟩
set_option maxHeartbeats 4000000 in
set_option maxRecDepth 100000 in
theorem c_firstFault {l : Launch} {D : va_G} {h : Nat → Nat} {k : Nat → ClassId} {sv : Int32} {vP vO vG pD pV pB pX pY rc wt iw : Nat → Int32} {ah be : Nat → Int64} (nv np hN wN : Nat) (hg : GI nv np vP pV pB) (hz : ZI nv np vP vG pD pV pB pX pY sv rc iw ah) : ct l yX0_firstFault wsX0_firstFault rm_firstFault D vwCl (pfT k) [.ref (h 0)] (pfW h k (nI nv) vP vO vG (nI np) pD pV pB pX pY sv rc ah be wt iw (nI hN) (nI wN)) (qI D vwCl (pfT k) (fun (r : Int32) (u : Int32 × (Nat → Int32) × (Nat → Int32) × (Nat → Int32) × (Nat → Int64) × (Nat → Int64) × Nat × Nat) => SP nv np vP vG pD pV pB pX pY u.1 u.2.1 u.2.2.1 u.2.2.2.2.1 ∧ ((r = -1 ∧ ∀ q, q < np → fop vP vO pD pV pB u.2.1 u.2.2.2.2.1 q = 0) ∨ ∃ j, j < np ∧ r = nI j ∧ ¬ fop vP vO pD pV pB u.2.1 u.2.2.2.2.1 j = 0 ∧ ∀ q, q < j → fop vP vO pD pV pB u.2.1 u.2.2.2.2.1 q = 0)) (fun u => pfW h k (nI nv) vP vO vG (nI np) pD pV pB pX pY u.1 u.2.1 u.2.2.2.2.1 u.2.2.2.2.2.1 u.2.2.2.1 u.2.2.1 (nI u.2.2.2.2.2.2.1) (nI u.2.2.2.2.2.2.2))) 0 0 := by
  refine ct_of (cc := cX0_firstFault) (maxL := 2) (ret := some .int) (by decide) rfl (Nat.le_of_ble_eq_true rfl) ?_
  intro p e s m below meth c A ls hx hb hr hml hlocks hown hnm hts hA hK hP hD hS hl
  have hown : s.vm.findClass RX0 = some m.cls := hown
  have hin := in_firstFault
  have hl : lv_has ls 2 [(0, .ref (h 0))] := hl
  have hn : np ≤ 120 := hg.2.1
  refine lv_aload_n hx hb dX0_firstFault_0 rfl (lv_at hl 0 rfl) ?_
  refine call_vv (As := []) (rest := []) ⟨hx, hb, hml, hown, hts⟩ (c_solve nv np hN wN hg hz) cp_firstFault_solve ⟨rfl, rfl⟩ ⟨Nat.le_of_ble_eq_true rfl, Nat.le_of_ble_eq_true rfl⟩ rfl rfl 0 rfl rfl hl.1 rfl (Nat.le_of_ble_eq_true rfl) dX0_firstFault_1 ⟨Nat.zero_le _, Nat.zero_le _⟩ hK hP hD hS hA (fun u H locs p1 hP hD hS => ?_)
  obtain ⟨sv_1, rc_1, iw_1, wt_1, ah_1, be_1, hd_1, wn_1⟩ := u
  have hP : va_P D vwCl (pfW h k (nI nv) vP vO vG (nI np) pD pV pB pX pY sv_1 rc_1 ah_1 be_1 wt_1 iw_1 (nI hd_1) (nI wn_1)) H := hP
  have hD : va_D A (pfW h k (nI nv) vP vO vG (nI np) pD pV pB pX pY sv_1 rc_1 ah_1 be_1 wt_1 iw_1 (nI hd_1) (nI wn_1)) := hD
  try dsimp only at p1
  refine lv_iconst (v := nI 0) hx hb dX0_firstFault_4 (by decide) ?_
  refine lv_istore_n (lv' := [(1, .int (nI 0)), (0, .ref (h 0))]) hx hb dX0_firstFault_5 rfl hl (by decide) rfl (fun ls hl => ?_)
  refine lp_ff hx hb hml hown hts hA hK hn (fun q hq => ⟨(hg.2.2.2 q hq).1, (hg.2.2.2 q hq).2.1⟩) ?_ ?_ _ 0 _ _ ls (Nat.zero_le _) (fun q hq => absurd hq (Nat.not_lt_zero q)) (Nat.lt_succ_self _) hP hD hS (lv_sub hl [1, 0] rfl)
  · intro i H locs ls hi hf hno hP hD hS hl
    refine lv_iload_n hx hb dX0_firstFault_22 rfl (lv_at hl 1 rfl) ?_
    exact ret_i hx hb hr hlocks hK hP hD hS dX0_firstFault_23 (sv_1, rc_1, iw_1, wt_1, ah_1, be_1, hd_1, wn_1) rfl (⟨p1, Or.inr ⟨i, hi, rfl, hf, hno⟩⟩)
  · intro i H locs ls hno hP hD hS hl
    refine lv_iconst (v := (-1)) hx hb dX0_firstFault_30 (by decide) ?_
    exact ret_i hx hb hr hlocks hK hP hD hS dX0_firstFault_31 (sv_1, rc_1, iw_1, wt_1, ah_1, be_1, hd_1, wn_1) rfl (⟨p1, Or.inl ⟨rfl, hno⟩⟩)

abbrev rm_countParts : Room := { frames := 0, cells := 0, slots := 0, locals := 0 }
theorem in_countParts : ∀ w ∈ u_ws RX0 TX0 18, w ∈ wsX0_countParts := by decide +kernel
set_option maxHeartbeats 4000000 in
set_option maxRecDepth 100000 in
theorem lp_cp {p : Program} {l : Launch} {e : Env} {s : State} {m : MethodId} {args : Array Value} {below : List Frame} {meth : Method} {c : Code} {A : Nat → Prop} {Q : State → Prop} {D : va_G} {h : Nat → Nat} {k : Nat → ClassId} {pn sv hd wn : Int32} {vP vO vG pD pV pB pX pY rc wt iw : Nat → Int32} {ah be : Nat → Int64} {nv : Nat} (hx : p.tables.exec = Jvm.exec) (hb : c.code = cX0_countParts) (hml : c.maxLocals = 3) (hown : s.vm.findClass RX0 = some m.cls) (hts : ∀ w ∈ wsX0_countParts, w.before args s = true) (hA : ∀ q : Nat, s.heap.size ≤ q → A q) (hK : va_K D vwCl (pfT k) s) (hnv : nv ≤ 20)
    (kk : ∀ (i : Nat) (sm : Int32) (H : Heap) (locs : List Loc) (ls : Array Slot), (sm = smI vP nv) → va_P D vwCl (pfW h k (nI nv) vP vO vG pn pD pV pB pX pY sv rc ah be wt iw hd wn) H → va_D A (pfW h k (nI nv) vP vO vG pn pD pV pB pX pY sv rc ah be wt iw hd wn) → va_S A s.heap H locs → lv_has ls 3 [(0, .ref (h 0)), (1, .int sm), (2, .int (nI i))] → W p l e rm_countParts s m args below meth c H locs 0 0 Q (F0 m 27 ls [])) :
    ∀ (n : Nat) (i : Nat) (sm : Int32) (H : Heap) (locs : List Loc) (ls : Array Slot), (i ≤ nv) → (sm = smI vP i) → nv - i < n → va_P D vwCl (pfW h k (nI nv) vP vO vG pn pD pV pB pX pY sv rc ah be wt iw hd wn) H → va_D A (pfW h k (nI nv) vP vO vG pn pD pV pB pX pY sv rc ah be wt iw hd wn) → va_S A s.heap H locs → lv_has ls 3 [(0, .ref (h 0)), (1, .int sm), (2, .int (nI i))] → W p l e rm_countParts s m args below meth c H locs 0 0 Q (F0 m 4 ls []) := by
  have hin := in_countParts
  intro n
  induction n with
  | zero =>
    intro i sm H locs ls hi hsm hmz
    exact absurd hmz (Nat.not_lt_zero _)
  | succ n ih =>
    intro i sm H locs ls hi hsm hmz hP hD hS hl
    refine lv_iload_n hx hb dX0_countParts_4 rfl (lv_at hl 2 rfl) ?_
    refine lv_aload_n hx hb dX0_countParts_5 rfl (lv_at hl 0 rfl) ?_
    refine pf_g_vc hx hb hts hin hown hK hP (by decide +kernel) dX0_countParts_6 ?_
    refine lv_icmp_ge (tgt := 27) hx hb dX0_countParts_9 (by decide) (fun c9 => ?_) (fun c9 => ?_)
    · -- 9 t ge 
      have n9 : nv ≤ i := (nI_leI (by omega) (by omega)).mp c9
      exact kk i sm H locs ls ((show i = nv by omega) ▸ hsm) hP hD hS (lv_sub hl [0, 1, 2] rfl)
    · -- 9 f ge 
      have n9 : ¬ nv ≤ i := fun q => c9 ((nI_leI (by omega) (by omega)).mpr q)
      refine lv_iload_n hx hb dX0_countParts_12 rfl (lv_at hl 1 rfl) ?_
      refine lv_aload_n hx hb dX0_countParts_13 rfl (lv_at hl 0 rfl) ?_
      refine pf_g_vP hx hb hts hin hown hK hP (by decide +kernel) dX0_countParts_14 ?_
      refine lv_iload_n hx hb dX0_countParts_17 rfl (lv_at hl 2 rfl) ?_
      refine pf_l_vP (n := i) hx hb hK hP (by omega) dX0_countParts_18 ?_
      refine lv_iadd hx hb dX0_countParts_19 ?_
      refine lv_istore_n (lv' := [(1, .int (sm + (vP i))), (0, .ref (h 0)), (2, .int (nI i))]) hx hb dX0_countParts_20 rfl hl (by decide) rfl (fun ls hl => ?_)
      refine lv_iinc (v := nI (i + 1)) (lv' := [(2, .int (nI (i + 1))), (1, .int (sm + (vP i))), (0, .ref (h 0))]) hx hb dX0_countParts_21 hl (k := 2) rfl (nI_add i 1) (by decide) rfl (fun ls hl => ?_)
      refine lv_goto (tgt := 4) hx hb dX0_countParts_24 (by decide) ?_
      exact ih (i + 1) (sm + (vP i)) H locs ls (by omega) (by rw [hsm]; rfl) (by omega) hP hD hS (lv_sub hl [2, 1, 0] rfl)

set_option maxHeartbeats 4000000 in
set_option maxRecDepth 100000 in
theorem c_countParts {l : Launch} {D : va_G} {h : Nat → Nat} {k : Nat → ClassId} {pn sv hd wn : Int32} {vP vO vG pD pV pB pX pY rc wt iw : Nat → Int32} {ah be : Nat → Int64} (nv : Nat) (hnv : nv ≤ 20) : ct l yX0_countParts wsX0_countParts rm_countParts D vwCl (pfT k) [.ref (h 0)] (pfW h k (nI nv) vP vO vG pn pD pV pB pX pY sv rc ah be wt iw hd wn) (qI D vwCl (pfT k) (fun (r : Int32) (u : Unit) => r = smI vP nv) (fun _ => pfW h k (nI nv) vP vO vG pn pD pV pB pX pY sv rc ah be wt iw hd wn)) 0 0 := by
  refine ct_of (cc := cX0_countParts) (maxL := 3) (ret := some .int) (by decide) rfl (Nat.le_of_ble_eq_true rfl) ?_
  intro p e s m below meth c A ls hx hb hr hml hlocks hown hnm hts hA hK hP hD hS hl
  have hown : s.vm.findClass RX0 = some m.cls := hown
  have hin := in_countParts
  have hl : lv_has ls 3 [(0, .ref (h 0))] := hl
  refine lv_iconst (v := 0) hx hb dX0_countParts_0 (by decide) ?_
  refine lv_istore_n (lv' := [(1, .int 0), (0, .ref (h 0))]) hx hb dX0_countParts_1 rfl hl (by decide) rfl (fun ls hl => ?_)
  refine lv_iconst (v := nI 0) hx hb dX0_countParts_2 (by decide) ?_
  refine lv_istore_n (lv' := [(2, .int (nI 0)), (1, .int 0), (0, .ref (h 0))]) hx hb dX0_countParts_3 rfl hl (by decide) rfl (fun ls hl => ?_)
  refine lp_cp hx hb hml hown hts hA hK hnv ?_ _ 0 0 _ _ ls (Nat.zero_le _) (rfl) (Nat.lt_succ_self _) hP hD hS (lv_sub hl [2, 1, 0] rfl)
  intro i sm H locs ls hsm hP hD hS hl
  refine lv_iload_n hx hb dX0_countParts_27 rfl (lv_at hl 1 rfl) ?_
  exact ret_i hx hb hr hlocks hK hP hD hS dX0_countParts_28 () rfl (hsm)

abbrev rm_count : Room := { frames := 5, cells := 0, slots := 0, locals := 114 }
theorem in_count : ∀ w ∈ u_ws RX0 TX0 18, w ∈ wsX0_count := by decide +kernel
theorem cp_count_countFaults : cpV wsX0_count RX0 92 RX0 yX0_countFaults wsX0_countFaults cX0_countFaults 3 (some .int) 0 := ⟨gX0_count_X0_countFaults, ⟨_, rfl⟩, by decide +kernel⟩
theorem cp_count_countParts : cpV wsX0_count RX0 98 RX0 yX0_countParts wsX0_countParts cX0_countParts 3 (some .int) 0 := ⟨gX0_count_X0_countParts, ⟨_, rfl⟩, by decide +kernel⟩
theorem cp_count_countReached : cpV wsX0_count RX0 88 RX0 yX0_countReached wsX0_countReached cX0_countReached 3 (some .int) 0 := ⟨gX0_count_X0_countReached, ⟨_, rfl⟩, by decide +kernel⟩
theorem cp_count_firstFault : cpV wsX0_count RX0 95 RX0 yX0_firstFault wsX0_firstFault cX0_firstFault 2 (some .int) 0 := ⟨gX0_count_X0_firstFault, ⟨_, rfl⟩, by decide +kernel⟩
set_option maxHeartbeats 4000000 in
set_option maxRecDepth 100000 in
theorem c_count {l : Launch} {D : va_G} {h : Nat → Nat} {k : Nat → ClassId} {sv : Int32} {vP vO vG pD pV pB pX pY rc wt iw : Nat → Int32} {ah be : Nat → Int64} (nv np hN wN : Nat) (x : Int32) (hg : GI nv np vP pV pB) (hz : ZI nv np vP vG pD pV pB pX pY sv rc iw ah) : ct l yX0_count wsX0_count rm_count D vwCl (pfT k) [.ref (h 0), .int x] (pfW h k (nI nv) vP vO vG (nI np) pD pV pB pX pY sv rc ah be wt iw (nI hN) (nI wN)) (qI D vwCl (pfT k) (fun (r : Int32) (u : Int32 × (Nat → Int32) × (Nat → Int32) × (Nat → Int32) × (Nat → Int64) × (Nat → Int64) × Nat × Nat) => ZI nv np vP vG pD pV pB pX pY u.1 u.2.1 u.2.2.1 u.2.2.2.2.1 ∧ ((x = 0 ∧ r = nI np) ∨ (x = 1 ∧ DnG nv np vP vG pD pV pB pX pY u.2.1 u.2.2.2.2.1 ∧ r = nI (cnt (fun q => decide (¬ u.2.1 q = 0)) np)) ∨ (x = 2 ∧ DnG nv np vP vG pD pV pB pX pY u.2.1 u.2.2.2.2.1 ∧ r = nI (cnt (fun q => decide (¬ fop vP vO pD pV pB u.2.1 u.2.2.2.2.1 q = 0)) np)) ∨ (x = 3 ∧ DnG nv np vP vG pD pV pB pX pY u.2.1 u.2.2.2.2.1 ∧ ((r = -1 ∧ ∀ q, q < np → fop vP vO pD pV pB u.2.1 u.2.2.2.2.1 q = 0) ∨ ∃ j, j < np ∧ r = nI j ∧ ¬ fop vP vO pD pV pB u.2.1 u.2.2.2.2.1 j = 0 ∧ ∀ q, q < j → fop vP vO pD pV pB u.2.1 u.2.2.2.2.1 q = 0)) ∨ (x = 4 ∧ r = nI nv) ∨ (x = 5 ∧ r = smI vP nv) ∨ ((¬ x = 0 ∧ ¬ x = 1 ∧ ¬ x = 2 ∧ ¬ x = 3 ∧ ¬ x = 4 ∧ ¬ x = 5) ∧ r = -1))) (fun u => pfW h k (nI nv) vP vO vG (nI np) pD pV pB pX pY u.1 u.2.1 u.2.2.2.2.1 u.2.2.2.2.2.1 u.2.2.2.1 u.2.2.1 (nI u.2.2.2.2.2.2.1) (nI u.2.2.2.2.2.2.2))) 0 0 := by
  refine ct_of (cc := cX0_count) (maxL := 2) (ret := some .int) (by decide) rfl (Nat.le_of_ble_eq_true rfl) ?_
  intro p e s m below meth c A ls hx hb hr hml hlocks hown hnm hts hA hK hP hD hS hl
  have hown : s.vm.findClass RX0 = some m.cls := hown
  have hin := in_count
  have hl : lv_has ls 2 [(0, .ref (h 0)), (1, .int x)] := hl
  refine lv_iload_n hx hb dX0_count_0 rfl (lv_at hl 1 rfl) ?_
  rcases sw6 x with rfl | rfl | rfl | rfl | rfl | rfl | ⟨hsw, hs0, hs1, hs2, hs3, hs4, hs5⟩
  · refine lv_tableIn (off := 39) (tgt := 40) hx hb dX0_count_1 (by decide) (by decide) rfl (by decide) ?_
    refine lv_aload_n hx hb dX0_count_40 rfl (lv_at hl 0 rfl) ?_
    refine pf_g_pn hx hb hts hin hown hK hP (by decide +kernel) dX0_count_41 ?_
    exact ret_i hx hb hr hlocks hK hP hD hS dX0_count_44 (sv, rc, iw, wt, ah, be, hN, wN) rfl (⟨hz, Or.inl ⟨rfl, rfl⟩⟩)
  · refine lv_tableIn (off := 44) (tgt := 45) hx hb dX0_count_1 (by decide) (by decide) rfl (by decide) ?_
    refine lv_aload_n hx hb dX0_count_45 rfl (lv_at hl 0 rfl) ?_
    refine call_vi (As := []) (rest := []) ⟨hx, hb, hml, hown, hts⟩ (c_countReached nv np hN wN hg hz) cp_count_countReached ⟨rfl, rfl⟩ ⟨Nat.le_of_ble_eq_true rfl, Nat.le_of_ble_eq_true rfl⟩ rfl rfl 0 rfl rfl hl.1 rfl (Nat.le_of_ble_eq_true rfl) dX0_count_46 ⟨Nat.zero_le _, Nat.zero_le _⟩ hK hP hD hS hA (fun r46 u H locs p46 hP hD hS => ?_)
    obtain ⟨sv_46, rc_46, iw_46, wt_46, ah_46, be_46, hd_46, wn_46⟩ := u
    have hP : va_P D vwCl (pfW h k (nI nv) vP vO vG (nI np) pD pV pB pX pY sv_46 rc_46 ah_46 be_46 wt_46 iw_46 (nI hd_46) (nI wn_46)) H := hP
    have hD : va_D A (pfW h k (nI nv) vP vO vG (nI np) pD pV pB pX pY sv_46 rc_46 ah_46 be_46 wt_46 iw_46 (nI hd_46) (nI wn_46)) := hD
    try dsimp only at p46
    exact ret_i hx hb hr hlocks hK hP hD hS dX0_count_49 (sv_46, rc_46, iw_46, wt_46, ah_46, be_46, hd_46, wn_46) rfl (⟨SP_ZI p46.1, Or.inr (Or.inl ⟨rfl, p46.1.2.1, p46.2⟩)⟩)
  · refine lv_tableIn (off := 49) (tgt := 50) hx hb dX0_count_1 (by decide) (by decide) rfl (by decide) ?_
    refine lv_aload_n hx hb dX0_count_50 rfl (lv_at hl 0 rfl) ?_
    refine call_vi (As := []) (rest := []) ⟨hx, hb, hml, hown, hts⟩ (c_countFaults nv np hN wN hg hz) cp_count_countFaults ⟨rfl, rfl⟩ ⟨Nat.le_of_ble_eq_true rfl, Nat.le_of_ble_eq_true rfl⟩ rfl rfl 0 rfl rfl hl.1 rfl (Nat.le_of_ble_eq_true rfl) dX0_count_51 ⟨Nat.zero_le _, Nat.zero_le _⟩ hK hP hD hS hA (fun r51 u H locs p51 hP hD hS => ?_)
    obtain ⟨sv_51, rc_51, iw_51, wt_51, ah_51, be_51, hd_51, wn_51⟩ := u
    have hP : va_P D vwCl (pfW h k (nI nv) vP vO vG (nI np) pD pV pB pX pY sv_51 rc_51 ah_51 be_51 wt_51 iw_51 (nI hd_51) (nI wn_51)) H := hP
    have hD : va_D A (pfW h k (nI nv) vP vO vG (nI np) pD pV pB pX pY sv_51 rc_51 ah_51 be_51 wt_51 iw_51 (nI hd_51) (nI wn_51)) := hD
    try dsimp only at p51
    exact ret_i hx hb hr hlocks hK hP hD hS dX0_count_54 (sv_51, rc_51, iw_51, wt_51, ah_51, be_51, hd_51, wn_51) rfl (⟨SP_ZI p51.1, Or.inr (Or.inr (Or.inl ⟨rfl, p51.1.2.1, p51.2⟩))⟩)
  · refine lv_tableIn (off := 54) (tgt := 55) hx hb dX0_count_1 (by decide) (by decide) rfl (by decide) ?_
    refine lv_aload_n hx hb dX0_count_55 rfl (lv_at hl 0 rfl) ?_
    refine call_vi (As := []) (rest := []) ⟨hx, hb, hml, hown, hts⟩ (c_firstFault nv np hN wN hg hz) cp_count_firstFault ⟨rfl, rfl⟩ ⟨Nat.le_of_ble_eq_true rfl, Nat.le_of_ble_eq_true rfl⟩ rfl rfl 0 rfl rfl hl.1 rfl (Nat.le_of_ble_eq_true rfl) dX0_count_56 ⟨Nat.zero_le _, Nat.zero_le _⟩ hK hP hD hS hA (fun r56 u H locs p56 hP hD hS => ?_)
    obtain ⟨sv_56, rc_56, iw_56, wt_56, ah_56, be_56, hd_56, wn_56⟩ := u
    have hP : va_P D vwCl (pfW h k (nI nv) vP vO vG (nI np) pD pV pB pX pY sv_56 rc_56 ah_56 be_56 wt_56 iw_56 (nI hd_56) (nI wn_56)) H := hP
    have hD : va_D A (pfW h k (nI nv) vP vO vG (nI np) pD pV pB pX pY sv_56 rc_56 ah_56 be_56 wt_56 iw_56 (nI hd_56) (nI wn_56)) := hD
    try dsimp only at p56
    exact ret_i hx hb hr hlocks hK hP hD hS dX0_count_59 (sv_56, rc_56, iw_56, wt_56, ah_56, be_56, hd_56, wn_56) rfl (⟨SP_ZI p56.1, Or.inr (Or.inr (Or.inr (Or.inl ⟨rfl, p56.1.2.1, p56.2⟩)))⟩)
  · refine lv_tableIn (off := 59) (tgt := 60) hx hb dX0_count_1 (by decide) (by decide) rfl (by decide) ?_
    refine lv_aload_n hx hb dX0_count_60 rfl (lv_at hl 0 rfl) ?_
    refine pf_g_vc hx hb hts hin hown hK hP (by decide +kernel) dX0_count_61 ?_
    exact ret_i hx hb hr hlocks hK hP hD hS dX0_count_64 (sv, rc, iw, wt, ah, be, hN, wN) rfl (⟨hz, Or.inr (Or.inr (Or.inr (Or.inr (Or.inl ⟨rfl, rfl⟩))))⟩)
  · refine lv_tableIn (off := 64) (tgt := 65) hx hb dX0_count_1 (by decide) (by decide) rfl (by decide) ?_
    refine lv_aload_n hx hb dX0_count_65 rfl (lv_at hl 0 rfl) ?_
    refine call_vi (As := []) (rest := []) ⟨hx, hb, hml, hown, hts⟩ (c_countParts nv hg.1) cp_count_countParts ⟨rfl, rfl⟩ ⟨Nat.le_of_ble_eq_true rfl, Nat.le_of_ble_eq_true rfl⟩ rfl rfl 0 rfl rfl hl.1 rfl (Nat.le_of_ble_eq_true rfl) dX0_count_66 ⟨Nat.zero_le _, Nat.zero_le _⟩ hK hP hD hS hA (fun r66 u H locs p66 hP hD hS => ?_)
    try dsimp only at p66
    exact ret_i hx hb hr hlocks hK hP hD hS dX0_count_69 (sv, rc, iw, wt, ah, be, hN, wN) rfl (⟨hz, Or.inr (Or.inr (Or.inr (Or.inr (Or.inr (Or.inl ⟨rfl, p66⟩)))))⟩)
  · refine lv_tableOut (tgt := 70) hx hb dX0_count_1 hsw (by decide) ?_
    refine lv_iconst (v := (-1)) hx hb dX0_count_70 (by decide) ?_
    exact ret_i hx hb hr hlocks hK hP hD hS dX0_count_71 (sv, rc, iw, wt, ah, be, hN, wN) rfl (⟨hz, Or.inr (Or.inr (Or.inr (Or.inr (Or.inr (Or.inr (⟨⟨hs0, hs1, hs2, hs3, hs4, hs5⟩, rfl⟩))))))⟩)

abbrev rm_variable : Room := { frames := 0, cells := 0, slots := 0, locals := 0 }
theorem in_variable : ∀ w ∈ u_ws RX0 TX0 18, w ∈ wsX0_variable := by decide +kernel
set_option maxHeartbeats 4000000 in
set_option maxRecDepth 100000 in
theorem c_variable {l : Launch} {D : va_G} {h : Nat → Nat} {k : Nat → ClassId} {pn sv hd wn : Int32} {vP vO vG pD pV pB pX pY rc wt iw : Nat → Int32} {ah be : Nat → Int64} (nv : Nat) (x o gv : Int32) (hnv : nv ≤ 20) (ho : o = 0 ∨ o = 1) (hgv : gv = 0 ∨ gv = 1) : ct l yX0_variable wsX0_variable rm_variable D vwCl (pfT k) [.ref (h 0), .int x, .int o, .int gv] (pfW h k (nI nv) vP vO vG pn pD pV pB pX pY sv rc ah be wt iw hd wn) (qI D vwCl (pfT k) (fun (r : Int32) (u : Nat × (Nat → Int32) × (Nat → Int32) × (Nat → Int32) × Int32) => (r = -1 ∧ (x < 1 ∨ 8 < x ∨ ¬ nv < 20) ∧ u = (nv, vP, vO, vG, sv)) ∨ (r = nI nv ∧ ¬ x < 1 ∧ ¬ 8 < x ∧ nv < 20 ∧ u = (nv + 1, upd vP nv x, upd vO nv o, upd vG nv gv, 0))) (fun u => pfW h k (nI u.1) u.2.1 u.2.2.1 u.2.2.2.1 pn pD pV pB pX pY u.2.2.2.2 rc ah be wt iw hd wn)) 0 0 := by
  refine ct_of (cc := cX0_variable) (maxL := 5) (ret := some .int) (by decide) rfl (Nat.le_of_ble_eq_true rfl) ?_
  intro p e s m below meth c A ls hx hb hr hml hlocks hown hnm hts hA hK hP hD hS hl
  have hown : s.vm.findClass RX0 = some m.cls := hown
  have hin := in_variable
  have hl : lv_has ls 5 [(0, .ref (h 0)), (1, .int x), (2, .int o), (3, .int gv)] := hl
  refine lv_iload_n hx hb dX0_variable_0 rfl (lv_at hl 1 rfl) ?_
  refine lv_iconst (v := 1) hx hb dX0_variable_1 (by decide) ?_
  refine lv_icmp_lt (tgt := 20) hx hb dX0_variable_2 (by decide) (fun c2 => ?_) (fun c2 => ?_)
  · -- 2 t lt 
    refine lv_iconst (v := (-1)) hx hb dX0_variable_20 (by decide) ?_
    exact ret_i hx hb hr hlocks hK hP hD hS dX0_variable_21 (nv, vP, vO, vG, sv) rfl (Or.inl ⟨rfl, Or.inl c2, rfl⟩)
  · -- 2 f lt 
    refine lv_iload_n hx hb dX0_variable_5 rfl (lv_at hl 1 rfl) ?_
    refine lv_bipush (v := 8) hx hb dX0_variable_6 (by decide) ?_
    refine lv_icmp_gt (tgt := 20) hx hb dX0_variable_8 (by decide) (fun c8 => ?_) (fun c8 => ?_)
    · -- 8 t gt 
      refine lv_iconst (v := (-1)) hx hb dX0_variable_20 (by decide) ?_
      exact ret_i hx hb hr hlocks hK hP hD hS dX0_variable_21 (nv, vP, vO, vG, sv) rfl (Or.inl ⟨rfl, Or.inr (Or.inl c8), rfl⟩)
    · -- 8 f gt 
      refine lv_aload_n hx hb dX0_variable_11 rfl (lv_at hl 0 rfl) ?_
      refine pf_g_vc hx hb hts hin hown hK hP (by decide +kernel) dX0_variable_12 ?_
      refine lv_bipush (v := 20) hx hb dX0_variable_15 (by decide) ?_
      refine lv_icmp_lt (tgt := 22) hx hb dX0_variable_17 (by decide) (fun c17 => ?_) (fun c17 => ?_)
      · -- 17 t lt 
        have n17 : nv < 20 := (nI_ltI (by omega) (by decide)).mp c17
        refine lv_aload_n hx hb dX0_variable_22 rfl (lv_at hl 0 rfl) ?_
        refine pf_g_vc hx hb hts hin hown hK hP (by decide +kernel) dX0_variable_23 ?_
        refine lv_istore (lv' := [(4, .int (nI nv)), (0, .ref (h 0)), (1, .int x), (2, .int o), (3, .int gv)]) hx hb dX0_variable_26 hl (by decide) rfl (fun ls hl => ?_)
        refine lv_aload_n hx hb dX0_variable_28 rfl (lv_at hl 1 rfl) ?_
        refine pf_g_vP hx hb hts hin hown hK hP (by decide +kernel) dX0_variable_29 ?_
        refine lv_iload hx hb dX0_variable_32 (lv_at hl 0 rfl) ?_
        refine lv_iload_n hx hb dX0_variable_34 rfl (lv_at hl 2 rfl) ?_
        refine pf_s_vP (n := nv) (x := x) hx hb hK hP hD hS (by omega) dX0_variable_35 (fun H locs hP hD hS => ?_)
        refine lv_aload_n hx hb dX0_variable_36 rfl (lv_at hl 1 rfl) ?_
        refine pf_g_vO hx hb hts hin hown hK hP (by decide +kernel) dX0_variable_37 ?_
        refine lv_iload hx hb dX0_variable_40 (lv_at hl 0 rfl) ?_
        refine lv_iload_n hx hb dX0_variable_42 rfl (lv_at hl 3 rfl) ?_
        refine pf_s_vO (n := nv) (x := o) hx hb hK hP hD hS (by omega) dX0_variable_43 (by rcases ho with z | z <;> rw [z] <;> decide) (fun H locs hP hD hS => ?_)
        refine lv_aload_n hx hb dX0_variable_44 rfl (lv_at hl 1 rfl) ?_
        refine pf_g_vG hx hb hts hin hown hK hP (by decide +kernel) dX0_variable_45 ?_
        refine lv_iload hx hb dX0_variable_48 (lv_at hl 0 rfl) ?_
        refine lv_iload_n hx hb dX0_variable_50 rfl (lv_at hl 4 rfl) ?_
        refine pf_s_vG (n := nv) (x := gv) hx hb hK hP hD hS (by omega) dX0_variable_51 (by rcases hgv with z | z <;> rw [z] <;> decide) (fun H locs hP hD hS => ?_)
        refine lv_aload_n hx hb dX0_variable_52 rfl (lv_at hl 1 rfl) ?_
        refine lv_iload hx hb dX0_variable_53 (lv_at hl 0 rfl) ?_
        refine lv_iconst (v := 1) hx hb dX0_variable_55 (by decide) ?_
        refine lv_iadd hx hb dX0_variable_56 ?_
        refine lv_topi (fun x_1 ex_1 => ?_)
        obtain rfl : x_1 = nI (nv + 1) := ex_1.trans (nI_add nv 1)
        refine pf_p_vc hx hb hts hin hown hK hP hD hS (by decide +kernel) dX0_variable_57 (fun H locs hP hD hS => ?_)
        refine lv_aload_n hx hb dX0_variable_60 rfl (lv_at hl 1 rfl) ?_
        refine lv_iconst (v := 0) hx hb dX0_variable_61 (by decide) ?_
        refine pf_p_sv hx hb hts hin hown hK hP hD hS (by decide +kernel) dX0_variable_62 (by decide) (by decide) (fun H locs hP hD hS => ?_)
        refine lv_iload hx hb dX0_variable_65 (lv_at hl 0 rfl) ?_
        exact ret_i hx hb hr hlocks hK hP hD hS dX0_variable_67 (nv + 1, upd vP nv x, upd vO nv o, upd vG nv gv, 0) rfl (Or.inr ⟨rfl, c2, c8, n17, rfl⟩)
      · -- 17 f lt 
        have n17 : ¬ nv < 20 := fun q => c17 ((nI_ltI (by omega) (by decide)).mpr q)
        refine lv_iconst (v := (-1)) hx hb dX0_variable_20 (by decide) ?_
        exact ret_i hx hb hr hlocks hK hP hD hS dX0_variable_21 (nv, vP, vO, vG, sv) rfl (Or.inl ⟨rfl, Or.inr (Or.inr n17), rfl⟩)

abbrev rm_point : Room := { frames := 3, cells := 0, slots := 0, locals := 65 }
theorem in_point : ∀ w ∈ u_ws RX0 TX0 18, w ∈ wsX0_point := by decide +kernel
theorem cp_point_bitsOfDoing : cpV wsX0_point RX0 66 RX0 yX0_bitsOfDoing wsX0_bitsOfDoing cX0_bitsOfDoing 5 (some .int) 4 := ⟨gX0_point_X0_bitsOfDoing, ⟨_, rfl⟩, by decide +kernel⟩
theorem cp_point_isDoing : cpV wsX0_point RX0 62 RX0 yX0_isDoing wsX0_isDoing cX0_isDoing 5 (some .boolean) 4 := ⟨gX0_point_X0_isDoing, ⟨_, rfl⟩, by decide +kernel⟩
set_option maxHeartbeats 4000000 in
set_option maxRecDepth 100000 in
theorem c_point {l : Launch} {D : va_G} {h : Nat → Nat} {k : Nat → ClassId} {sv hd wn : Int32} {vP vO vG pD pV pB pX pY rc wt iw : Nat → Int32} {ah be : Nat → Int64} (nv np : Nat) (d x a b : Int32) (hnv : nv ≤ 20) (hn : np ≤ 120) : ct l yX0_point wsX0_point rm_point D vwCl (pfT k) [.ref (h 0), .int d, .int x, .int a, .int b] (pfW h k (nI nv) vP vO vG (nI np) pD pV pB pX pY sv rc ah be wt iw hd wn) (qI D vwCl (pfT k) (fun (r : Int32) (u : Nat × (Nat → Int32) × (Nat → Int32) × (Nat → Int32) × (Nat → Int32) × (Nat → Int32) × Int32) => (r = -1 ∧ (120 ≤ np ∨ ¬ dOK (nI nv) vP d x a b) ∧ u = (np, pD, pV, pB, pX, pY, sv)) ∨ (r = nI np ∧ np < 120 ∧ dOK (nI nv) vP d x a b ∧ u = (np + 1, upd pD np d, upd pV np (if d = 0 then 0 else x), upd pB np (bod vP d x a b), upd pX np (nI (np + 1)), upd pY np (-1), 0))) (fun u => pfW h k (nI nv) vP vO vG (nI u.1) u.2.1 u.2.2.1 u.2.2.2.1 u.2.2.2.2.1 u.2.2.2.2.2.1 u.2.2.2.2.2.2 rc ah be wt iw hd wn)) 0 0 := by
  refine ct_of (cc := cX0_point) (maxL := 6) (ret := some .int) (by decide) rfl (Nat.le_of_ble_eq_true rfl) ?_
  intro p e s m below meth c A ls hx hb hr hml hlocks hown hnm hts hA hK hP hD hS hl
  have hown : s.vm.findClass RX0 = some m.cls := hown
  have hin := in_point
  have hl : lv_has ls 6 [(0, .ref (h 0)), (1, .int d), (2, .int x), (3, .int a), (4, .int b)] := hl
  refine lv_aload_n hx hb dX0_point_0 rfl (lv_at hl 0 rfl) ?_
  refine pf_g_pn hx hb hts hin hown hK hP (by decide +kernel) dX0_point_1 ?_
  refine lv_bipush (v := 120) hx hb dX0_point_4 (by decide) ?_
  refine lv_icmp_ge (tgt := 21) hx hb dX0_point_6 (by decide) (fun c6 => ?_) (fun c6 => ?_)
  · -- 6 t ge 
    have n6 : 120 ≤ np := (nI_leI (by decide) (by omega)).mp c6
    refine lv_iconst (v := (-1)) hx hb dX0_point_21 (by decide) ?_
    exact ret_i hx hb hr hlocks hK hP hD hS dX0_point_22 (np, pD, pV, pB, pX, pY, sv) rfl (Or.inl ⟨rfl, Or.inl n6, rfl⟩)
  · -- 6 f ge 
    have n6 : ¬ 120 ≤ np := fun q => c6 ((nI_leI (by decide) (by omega)).mpr q)
    refine lv_aload_n hx hb dX0_point_9 rfl (lv_at hl 0 rfl) ?_
    refine lv_iload_n hx hb dX0_point_10 rfl (lv_at hl 1 rfl) ?_
    refine lv_iload_n hx hb dX0_point_11 rfl (lv_at hl 2 rfl) ?_
    refine lv_iload_n hx hb dX0_point_12 rfl (lv_at hl 3 rfl) ?_
    refine lv_iload hx hb dX0_point_13 (lv_at hl 4 rfl) ?_
    refine call_vi (As := [.int d, .int x, .int a, .int b]) (rest := []) ⟨hx, hb, hml, hown, hts⟩ (c_isDoing nv d x a b hnv) cp_point_isDoing ⟨rfl, rfl⟩ ⟨Nat.le_of_ble_eq_true rfl, Nat.le_of_ble_eq_true rfl⟩ rfl rfl 0 rfl rfl hl.1 rfl (Nat.le_of_ble_eq_true rfl) dX0_point_15 ⟨Nat.zero_le _, Nat.zero_le _⟩ hK hP hD hS hA (fun r15 u H locs p15 hP hD hS => ?_)
    try dsimp only at p15
    refine lv_if_ne (tgt := 23) hx hb dX0_point_18 (by decide) (fun c18 => ?_) (fun c18 => ?_)
    · -- 18 t ne 
      have hok := yn_yes p15 c18
      refine lv_aload_n hx hb dX0_point_23 rfl (lv_at hl 0 rfl) ?_
      refine pf_g_pn hx hb hts hin hown hK hP (by decide +kernel) dX0_point_24 ?_
      refine lv_istore (lv' := [(5, .int (nI np)), (0, .ref (h 0)), (1, .int d), (2, .int x), (3, .int a), (4, .int b)]) hx hb dX0_point_27 hl (by decide) rfl (fun ls hl => ?_)
      refine lv_aload_n hx hb dX0_point_29 rfl (lv_at hl 1 rfl) ?_
      refine pf_g_pD hx hb hts hin hown hK hP (by decide +kernel) dX0_point_30 ?_
      refine lv_iload hx hb dX0_point_33 (lv_at hl 0 rfl) ?_
      refine lv_iload_n hx hb dX0_point_35 rfl (lv_at hl 2 rfl) ?_
      refine pf_s_pD (n := np) (x := d) hx hb hK hP hD hS (by omega) dX0_point_36 (fun H locs hP hD hS => ?_)
      refine lv_aload_n hx hb dX0_point_37 rfl (lv_at hl 1 rfl) ?_
      refine pf_g_pV hx hb hts hin hown hK hP (by decide +kernel) dX0_point_38 ?_
      refine lv_iload hx hb dX0_point_41 (lv_at hl 0 rfl) ?_
      refine lv_iload_n hx hb dX0_point_43 rfl (lv_at hl 2 rfl) ?_
      refine lv_if_ne (tgt := 51) hx hb dX0_point_44 (by decide) (fun c44 => ?_) (fun c44 => ?_)
      · -- 44 t ne 
        refine lv_iload_n hx hb dX0_point_51 rfl (lv_at hl 3 rfl) ?_
        refine pf_s_pV (n := np) (x := x) hx hb hK hP hD hS (by omega) dX0_point_52 (fun H locs hP hD hS => ?_)
        refine lv_aload_n hx hb dX0_point_53 rfl (lv_at hl 1 rfl) ?_
        refine pf_g_pB hx hb hts hin hown hK hP (by decide +kernel) dX0_point_54 ?_
        refine lv_iload hx hb dX0_point_57 (lv_at hl 0 rfl) ?_
        refine lv_aload_n hx hb dX0_point_59 rfl (lv_at hl 1 rfl) ?_
        refine lv_iload_n hx hb dX0_point_60 rfl (lv_at hl 2 rfl) ?_
        refine lv_iload_n hx hb dX0_point_61 rfl (lv_at hl 3 rfl) ?_
        refine lv_iload_n hx hb dX0_point_62 rfl (lv_at hl 4 rfl) ?_
        refine lv_iload hx hb dX0_point_63 (lv_at hl 5 rfl) ?_
        refine call_vi (As := [.int d, .int x, .int a, .int b]) (rest := [.int (nI np), .ref (h 6)]) ⟨hx, hb, hml, hown, hts⟩ (c_bitsOfDoing d x a b (fun q => (dOK_v hnv hok q).elim (fun v z => ⟨v, by omega, z.2⟩))) cp_point_bitsOfDoing ⟨rfl, rfl⟩ ⟨Nat.le_of_ble_eq_true rfl, Nat.le_of_ble_eq_true rfl⟩ rfl rfl 0 rfl rfl hl.1 rfl (Nat.le_of_ble_eq_true rfl) dX0_point_65 ⟨Nat.zero_le _, Nat.zero_le _⟩ hK hP hD hS hA (fun r65 u H locs p65 hP hD hS => ?_)
        try dsimp only at p65
        obtain rfl := p65
        refine pf_s_pB (n := np) (x := bod vP d x a b) hx hb hK hP hD hS (by omega) dX0_point_68 (fun H locs hP hD hS => ?_)
        refine lv_aload_n hx hb dX0_point_69 rfl (lv_at hl 1 rfl) ?_
        refine pf_g_pX hx hb hts hin hown hK hP (by decide +kernel) dX0_point_70 ?_
        refine lv_iload hx hb dX0_point_73 (lv_at hl 0 rfl) ?_
        refine lv_iload hx hb dX0_point_75 (lv_at hl 0 rfl) ?_
        refine lv_iconst (v := 1) hx hb dX0_point_77 (by decide) ?_
        refine lv_iadd hx hb dX0_point_78 ?_
        refine lv_topi (fun x_1 ex_1 => ?_)
        obtain rfl : x_1 = nI (np + 1) := ex_1.trans (nI_add np 1)
        refine pf_s_pX (n := np) (x := nI (np + 1)) hx hb hK hP hD hS (by omega) dX0_point_79 (fun H locs hP hD hS => ?_)
        refine lv_aload_n hx hb dX0_point_80 rfl (lv_at hl 1 rfl) ?_
        refine pf_g_pY hx hb hts hin hown hK hP (by decide +kernel) dX0_point_81 ?_
        refine lv_iload hx hb dX0_point_84 (lv_at hl 0 rfl) ?_
        refine lv_iconst (v := (-1)) hx hb dX0_point_86 (by decide) ?_
        refine pf_s_pY (n := np) (x := (-1)) hx hb hK hP hD hS (by omega) dX0_point_87 (fun H locs hP hD hS => ?_)
        refine lv_aload_n hx hb dX0_point_88 rfl (lv_at hl 1 rfl) ?_
        refine lv_iload hx hb dX0_point_89 (lv_at hl 0 rfl) ?_
        refine lv_iconst (v := 1) hx hb dX0_point_91 (by decide) ?_
        refine lv_iadd hx hb dX0_point_92 ?_
        refine lv_topi (fun x_2 ex_2 => ?_)
        obtain rfl : x_2 = nI (np + 1) := ex_2.trans (nI_add np 1)
        refine pf_p_pn hx hb hts hin hown hK hP hD hS (by decide +kernel) dX0_point_93 (fun H locs hP hD hS => ?_)
        refine lv_aload_n hx hb dX0_point_96 rfl (lv_at hl 1 rfl) ?_
        refine lv_iconst (v := 0) hx hb dX0_point_97 (by decide) ?_
        refine pf_p_sv hx hb hts hin hown hK hP hD hS (by decide +kernel) dX0_point_98 (by decide) (by decide) (fun H locs hP hD hS => ?_)
        refine lv_iload hx hb dX0_point_101 (lv_at hl 0 rfl) ?_
        exact ret_i hx hb hr hlocks hK hP hD hS dX0_point_103 (np + 1, upd pD np d, upd pV np x, upd pB np (bod vP d x a b), upd pX np (nI (np + 1)), upd pY np (-1), 0) rfl (Or.inr ⟨rfl, by omega, hok, by rw [if_neg c44]⟩)
      · -- 44 f ne 
        refine lv_iconst (v := 0) hx hb dX0_point_47 (by decide) ?_
        refine lv_goto (tgt := 52) hx hb dX0_point_48 (by decide) ?_
        refine pf_s_pV (n := np) (x := 0) hx hb hK hP hD hS (by omega) dX0_point_52 (fun H locs hP hD hS => ?_)
        refine lv_aload_n hx hb dX0_point_53 rfl (lv_at hl 1 rfl) ?_
        refine pf_g_pB hx hb hts hin hown hK hP (by decide +kernel) dX0_point_54 ?_
        refine lv_iload hx hb dX0_point_57 (lv_at hl 0 rfl) ?_
        refine lv_aload_n hx hb dX0_point_59 rfl (lv_at hl 1 rfl) ?_
        refine lv_iload_n hx hb dX0_point_60 rfl (lv_at hl 2 rfl) ?_
        refine lv_iload_n hx hb dX0_point_61 rfl (lv_at hl 3 rfl) ?_
        refine lv_iload_n hx hb dX0_point_62 rfl (lv_at hl 4 rfl) ?_
        refine lv_iload hx hb dX0_point_63 (lv_at hl 5 rfl) ?_
        refine call_vi (As := [.int d, .int x, .int a, .int b]) (rest := [.int (nI np), .ref (h 6)]) ⟨hx, hb, hml, hown, hts⟩ (c_bitsOfDoing d x a b (fun q => (dOK_v hnv hok q).elim (fun v z => ⟨v, by omega, z.2⟩))) cp_point_bitsOfDoing ⟨rfl, rfl⟩ ⟨Nat.le_of_ble_eq_true rfl, Nat.le_of_ble_eq_true rfl⟩ rfl rfl 0 rfl rfl hl.1 rfl (Nat.le_of_ble_eq_true rfl) dX0_point_65 ⟨Nat.zero_le _, Nat.zero_le _⟩ hK hP hD hS hA (fun r65 u H locs p65 hP hD hS => ?_)
        try dsimp only at p65
        obtain rfl := p65
        refine pf_s_pB (n := np) (x := bod vP d x a b) hx hb hK hP hD hS (by omega) dX0_point_68 (fun H locs hP hD hS => ?_)
        refine lv_aload_n hx hb dX0_point_69 rfl (lv_at hl 1 rfl) ?_
        refine pf_g_pX hx hb hts hin hown hK hP (by decide +kernel) dX0_point_70 ?_
        refine lv_iload hx hb dX0_point_73 (lv_at hl 0 rfl) ?_
        refine lv_iload hx hb dX0_point_75 (lv_at hl 0 rfl) ?_
        refine lv_iconst (v := 1) hx hb dX0_point_77 (by decide) ?_
        refine lv_iadd hx hb dX0_point_78 ?_
        refine lv_topi (fun x_3 ex_3 => ?_)
        obtain rfl : x_3 = nI (np + 1) := ex_3.trans (nI_add np 1)
        refine pf_s_pX (n := np) (x := nI (np + 1)) hx hb hK hP hD hS (by omega) dX0_point_79 (fun H locs hP hD hS => ?_)
        refine lv_aload_n hx hb dX0_point_80 rfl (lv_at hl 1 rfl) ?_
        refine pf_g_pY hx hb hts hin hown hK hP (by decide +kernel) dX0_point_81 ?_
        refine lv_iload hx hb dX0_point_84 (lv_at hl 0 rfl) ?_
        refine lv_iconst (v := (-1)) hx hb dX0_point_86 (by decide) ?_
        refine pf_s_pY (n := np) (x := (-1)) hx hb hK hP hD hS (by omega) dX0_point_87 (fun H locs hP hD hS => ?_)
        refine lv_aload_n hx hb dX0_point_88 rfl (lv_at hl 1 rfl) ?_
        refine lv_iload hx hb dX0_point_89 (lv_at hl 0 rfl) ?_
        refine lv_iconst (v := 1) hx hb dX0_point_91 (by decide) ?_
        refine lv_iadd hx hb dX0_point_92 ?_
        refine lv_topi (fun x_4 ex_4 => ?_)
        obtain rfl : x_4 = nI (np + 1) := ex_4.trans (nI_add np 1)
        refine pf_p_pn hx hb hts hin hown hK hP hD hS (by decide +kernel) dX0_point_93 (fun H locs hP hD hS => ?_)
        refine lv_aload_n hx hb dX0_point_96 rfl (lv_at hl 1 rfl) ?_
        refine lv_iconst (v := 0) hx hb dX0_point_97 (by decide) ?_
        refine pf_p_sv hx hb hts hin hown hK hP hD hS (by decide +kernel) dX0_point_98 (by decide) (by decide) (fun H locs hP hD hS => ?_)
        refine lv_iload hx hb dX0_point_101 (lv_at hl 0 rfl) ?_
        exact ret_i hx hb hr hlocks hK hP hD hS dX0_point_103 (np + 1, upd pD np d, upd pV np 0, upd pB np (bod vP d x a b), upd pX np (nI (np + 1)), upd pY np (-1), 0) rfl (Or.inr ⟨rfl, by omega, hok, by rw [if_pos c44]⟩)
    · -- 18 f ne 
      refine lv_iconst (v := (-1)) hx hb dX0_point_21 (by decide) ?_
      exact ret_i hx hb hr hlocks hK hP hD hS dX0_point_22 (np, pD, pV, pB, pX, pY, sv) rfl (Or.inl ⟨rfl, Or.inr (yn_no p15 c18), rfl⟩)

abbrev rm_next : Room := { frames := 1, cells := 0, slots := 0, locals := 21 }
theorem in_next : ∀ w ∈ u_ws RX0 TX0 18, w ∈ wsX0_next := by decide +kernel
theorem cp_next_canBeNext : cpS wsX0_next RX0 74 yX0_canBeNext wsX0_canBeNext cX0_canBeNext 1 (some .boolean) 1 := ⟨gX0_next_X0_canBeNext, ⟨_, rfl⟩, by decide +kernel⟩
theorem cp_next_isPoint : cpV wsX0_next RX0 70 RX0 yX0_isPoint wsX0_isPoint cX0_isPoint 2 (some .boolean) 1 := ⟨gX0_next_X0_isPoint, ⟨_, rfl⟩, by decide +kernel⟩
set_option maxHeartbeats 4000000 in
set_option maxRecDepth 100000 in
theorem c_next {l : Launch} {D : va_G} {h : Nat → Nat} {k : Nat → ClassId} {vc sv hd wn : Int32} {vP vO vG pD pV pB pX pY rc wt iw : Nat → Int32} {ah be : Nat → Int64} (np : Nat) (x y z : Int32) (hn : np ≤ 120) : ct l yX0_next wsX0_next rm_next D vwCl (pfT k) [.ref (h 0), .int x, .int y, .int z] (pfW h k vc vP vO vG (nI np) pD pV pB pX pY sv rc ah be wt iw hd wn) (qI D vwCl (pfT k) (fun (r : Int32) (u : (Nat → Int32) × (Nat → Int32) × Int32) => (r = 0 ∧ ((∀ j, j < np → ¬ x = nI j) ∨ ¬ cbn y ∨ ¬ cbn z) ∧ u = (pX, pY, sv)) ∨ (r = 1 ∧ ∃ j, j < np ∧ x = nI j ∧ cbn y ∧ cbn z ∧ u = (upd pX j y, upd pY j z, 0))) (fun u => pfW h k vc vP vO vG (nI np) pD pV pB u.1 u.2.1 u.2.2 rc ah be wt iw hd wn)) 0 0 := by
  refine ct_of (cc := cX0_next) (maxL := 4) (ret := some .boolean) (by decide) rfl (Nat.le_of_ble_eq_true rfl) ?_
  intro p e s m below meth c A ls hx hb hr hml hlocks hown hnm hts hA hK hP hD hS hl
  have hown : s.vm.findClass RX0 = some m.cls := hown
  have hin := in_next
  have hl : lv_has ls 4 [(0, .ref (h 0)), (1, .int x), (2, .int y), (3, .int z)] := hl
  refine lv_aload_n hx hb dX0_next_0 rfl (lv_at hl 0 rfl) ?_
  refine lv_iload_n hx hb dX0_next_1 rfl (lv_at hl 1 rfl) ?_
  refine call_vi (As := [.int x]) (rest := []) ⟨hx, hb, hml, hown, hts⟩ (c_isPoint x) cp_next_isPoint ⟨rfl, rfl⟩ ⟨Nat.le_of_ble_eq_true rfl, Nat.le_of_ble_eq_true rfl⟩ rfl rfl 0 rfl rfl hl.1 rfl (Nat.le_of_ble_eq_true rfl) dX0_next_2 ⟨Nat.zero_le _, Nat.zero_le _⟩ hK hP hD hS hA (fun r2 u H locs p2 hP hD hS => ?_)
  try dsimp only at p2
  refine lv_if_eq (tgt := 22) hx hb dX0_next_5 (by decide) (fun c5 => ?_) (fun c5 => ?_)
  · -- 5 t eq 
    refine lv_iconst (v := 0) hx hb dX0_next_22 (by decide) ?_
    exact ret_z hx hb hr hlocks hK hP hD hS dX0_next_23 (pX, pY, sv) rfl (by decide) (Or.inl ⟨rfl, Or.inl (pt_out rfl hn p2 c5), rfl⟩)
  · -- 5 f eq 
    obtain ⟨j, hj, rfl⟩ := pt_in rfl hn p2 c5
    refine lv_iload_n hx hb dX0_next_8 rfl (lv_at hl 2 rfl) ?_
    refine call_si (As := [.int y]) (rest := []) ⟨hx, hb, hml, hown, hts⟩ (c_canBeNext y) cp_next_canBeNext ⟨rfl, rfl⟩ ⟨Nat.le_of_ble_eq_true rfl, Nat.le_of_ble_eq_true rfl⟩ rfl hl.1 rfl (Nat.le_of_ble_eq_true rfl) dX0_next_9 ⟨Nat.zero_le _, Nat.zero_le _⟩ hK hP hS hA (fun r9 u H locs p9 hP hS => ?_)
    try dsimp only at p9
    refine lv_if_eq (tgt := 22) hx hb dX0_next_12 (by decide) (fun c12 => ?_) (fun c12 => ?_)
    · -- 12 t eq 
      refine lv_iconst (v := 0) hx hb dX0_next_22 (by decide) ?_
      exact ret_z hx hb hr hlocks hK hP hD hS dX0_next_23 (pX, pY, sv) rfl (by decide) (Or.inl ⟨rfl, Or.inr (Or.inl (yn_no p9 c12)), rfl⟩)
    · -- 12 f eq 
      refine lv_iload_n hx hb dX0_next_15 rfl (lv_at hl 3 rfl) ?_
      refine call_si (As := [.int z]) (rest := []) ⟨hx, hb, hml, hown, hts⟩ (c_canBeNext z) cp_next_canBeNext ⟨rfl, rfl⟩ ⟨Nat.le_of_ble_eq_true rfl, Nat.le_of_ble_eq_true rfl⟩ rfl hl.1 rfl (Nat.le_of_ble_eq_true rfl) dX0_next_16 ⟨Nat.zero_le _, Nat.zero_le _⟩ hK hP hS hA (fun r16 u H locs p16 hP hS => ?_)
      try dsimp only at p16
      refine lv_if_ne (tgt := 24) hx hb dX0_next_19 (by decide) (fun c19 => ?_) (fun c19 => ?_)
      · -- 19 t ne 
        refine lv_aload_n hx hb dX0_next_24 rfl (lv_at hl 0 rfl) ?_
        refine pf_g_pX hx hb hts hin hown hK hP (by decide +kernel) dX0_next_25 ?_
        refine lv_iload_n hx hb dX0_next_28 rfl (lv_at hl 1 rfl) ?_
        refine lv_iload_n hx hb dX0_next_29 rfl (lv_at hl 2 rfl) ?_
        refine pf_s_pX (n := j) (x := y) hx hb hK hP hD hS (by omega) dX0_next_30 (fun H locs hP hD hS => ?_)
        refine lv_aload_n hx hb dX0_next_31 rfl (lv_at hl 0 rfl) ?_
        refine pf_g_pY hx hb hts hin hown hK hP (by decide +kernel) dX0_next_32 ?_
        refine lv_iload_n hx hb dX0_next_35 rfl (lv_at hl 1 rfl) ?_
        refine lv_iload_n hx hb dX0_next_36 rfl (lv_at hl 3 rfl) ?_
        refine pf_s_pY (n := j) (x := z) hx hb hK hP hD hS (by omega) dX0_next_37 (fun H locs hP hD hS => ?_)
        refine lv_aload_n hx hb dX0_next_38 rfl (lv_at hl 0 rfl) ?_
        refine lv_iconst (v := 0) hx hb dX0_next_39 (by decide) ?_
        refine pf_p_sv hx hb hts hin hown hK hP hD hS (by decide +kernel) dX0_next_40 (by decide) (by decide) (fun H locs hP hD hS => ?_)
        refine lv_iconst (v := 1) hx hb dX0_next_43 (by decide) ?_
        exact ret_z hx hb hr hlocks hK hP hD hS dX0_next_44 (upd pX j y, upd pY j z, 0) rfl (by decide) (Or.inr ⟨rfl, j, hj, rfl, yn_yes p9 c12, yn_yes p16 c19, rfl⟩)
      · -- 19 f ne 
        refine lv_iconst (v := 0) hx hb dX0_next_22 (by decide) ?_
        exact ret_z hx hb hr hlocks hK hP hD hS dX0_next_23 (pX, pY, sv) rfl (by decide) (Or.inl ⟨rfl, Or.inr (Or.inr (yn_no p16 c19)), rfl⟩)

abbrev rm_clear : Room := { frames := 0, cells := 0, slots := 0, locals := 0 }
theorem in_clear : ∀ w ∈ u_ws RX0 TX0 18, w ∈ wsX0_clear := by decide +kernel
set_option maxHeartbeats 4000000 in
set_option maxRecDepth 100000 in
theorem c_clear {l : Launch} {D : va_G} {h : Nat → Nat} {k : Nat → ClassId} {vc sv hd wn : Int32} {vP vO vG pD pV pB pX pY rc wt iw : Nat → Int32} {ah be : Nat → Int64} (np : Nat)  : ct l yX0_clear wsX0_clear rm_clear D vwCl (pfT k) [.ref (h 0)] (pfW h k vc vP vO vG (nI np) pD pV pB pX pY sv rc ah be wt iw hd wn) (qI D vwCl (pfT k) (fun (r : Int32) (u : Unit) => r = nI np) (fun u => pfW h k vc vP vO vG (nI 0) pD pV pB pX pY 0 rc ah be wt iw hd wn)) 0 0 := by
  refine ct_of (cc := cX0_clear) (maxL := 2) (ret := some .int) (by decide) rfl (Nat.le_of_ble_eq_true rfl) ?_
  intro p e s m below meth c A ls hx hb hr hml hlocks hown hnm hts hA hK hP hD hS hl
  have hown : s.vm.findClass RX0 = some m.cls := hown
  have hin := in_clear
  have hl : lv_has ls 2 [(0, .ref (h 0))] := hl
  refine lv_aload_n hx hb dX0_clear_0 rfl (lv_at hl 0 rfl) ?_
  refine pf_g_pn hx hb hts hin hown hK hP (by decide +kernel) dX0_clear_1 ?_
  refine lv_istore_n (lv' := [(1, .int (nI np)), (0, .ref (h 0))]) hx hb dX0_clear_4 rfl hl (by decide) rfl (fun ls hl => ?_)
  refine lv_aload_n hx hb dX0_clear_5 rfl (lv_at hl 1 rfl) ?_
  refine lv_iconst (v := nI 0) hx hb dX0_clear_6 (by decide) ?_
  refine pf_p_pn hx hb hts hin hown hK hP hD hS (by decide +kernel) dX0_clear_7 (fun H locs hP hD hS => ?_)
  refine lv_aload_n hx hb dX0_clear_10 rfl (lv_at hl 1 rfl) ?_
  refine lv_iconst (v := 0) hx hb dX0_clear_11 (by decide) ?_
  refine pf_p_sv hx hb hts hin hown hK hP hD hS (by decide +kernel) dX0_clear_12 (by decide) (by decide) (fun H locs hP hD hS => ?_)
  refine lv_iload_n hx hb dX0_clear_15 rfl (lv_at hl 0 rfl) ?_
  exact ret_i hx hb hr hlocks hK hP hD hS dX0_clear_16 () rfl (rfl)

