abbrev rr_come : Room := { frames := 1, cells := 0, slots := 0, locals := 21 }
theorem ri_come : ∀ w ∈ u_ws RX1 TX1 14, w ∈ wsX1_come := by decide +kernel
theorem rp_come_isPoint : cpV wsX1_come RX1 55 RX1 yX1_isPoint wsX1_isPoint cX1_isPoint 2 (some .boolean) 1 := ⟨gX1_come_X1_isPoint, ⟨_, rfl⟩, by decide +kernel⟩
set_option maxHeartbeats 4000000 in
set_option maxRecDepth 100000 in
theorem r_come {l : Launch} {D : va_G} {h : Nat → Nat} {k : Nat → ClassId} {vc : Int32} {vP vO vG pD mV mF mM pX pY se pl : Nat → Int32} (x : Int32) (np hN w : Nat) (hn : np ≤ 120) (hw : w < 2) (hroom : ∀ j, j < np → x = nI j → se (2 * j + w) = 0 → hN < 240) : ct l yX1_come wsX1_come rr_come D vwCl (rfT k) [.ref (h 0), .int x, .int (nI w)] (rfW h k vc vP vO vG (nI np) pD mV mF mM pX pY se pl (nI hN)) (qV D vwCl (rfT k) (fun (u : (Nat → Int32) × (Nat → Int32) × Nat) => Cm np x w se pl hN u.1 u.2.1 u.2.2) (fun u => rfW h k vc vP vO vG (nI np) pD mV mF mM pX pY u.1 u.2.1 (nI u.2.2))) 0 0 := by
  refine ct_of (cc := cX1_come) (maxL := 3) (ret := none) (by decide) rfl (Nat.le_of_ble_eq_true rfl) ?_
  intro p e s m below meth c A ls hx hb hr hml hlocks hown hnm hts hA hK hP hD hS hl
  have hown : s.vm.findClass RX1 = some m.cls := hown
  have hin := ri_come
  have hl : lv_has ls 3 [(0, .ref (h 0)), (1, .int x), (2, .int (nI w))] := hl
  refine lv_aload_n hx hb dX1_come_0 rfl (lv_at hl 0 rfl) ?_
  refine lv_iload_n hx hb dX1_come_1 rfl (lv_at hl 1 rfl) ?_
  refine call_vi (As := [.int x]) (rest := []) ⟨hx, hb, hml, hown, hts⟩ (r_isPoint x) rp_come_isPoint ⟨rfl, rfl⟩ ⟨Nat.le_of_ble_eq_true rfl, Nat.le_of_ble_eq_true rfl⟩ rfl rfl 0 rfl rfl hl.1 rfl (Nat.le_of_ble_eq_true rfl) dX1_come_2 ⟨Nat.zero_le _, Nat.zero_le _⟩ hK hP hD hS hA (fun r2 u H locs p2 hP hD hS => ?_)
  try dsimp only at p2
  refine lv_if_eq (tgt := 21) hx hb dX1_come_5 (by decide) (fun c5 => ?_) (fun c5 => ?_)
  · -- 5 t eq 
    exact ret_v hx hb hr hlocks hK hP hD hS dX1_come_21 (se, pl, hN) rfl (Or.inl ⟨Or.inl (pt_out rfl hn p2 c5), rfl, rfl, rfl⟩)
  · -- 5 f eq 
    obtain ⟨j, hj, rfl⟩ := pt_in rfl hn p2 c5
    refine lv_aload_n hx hb dX1_come_8 rfl (lv_at hl 0 rfl) ?_
    refine rf_g_se hx hb hts hin hown hK hP (by decide +kernel) dX1_come_9 ?_
    refine lv_iconst (v := 2) hx hb dX1_come_12 (by decide) ?_
    refine lv_iload_n hx hb dX1_come_13 rfl (lv_at hl 1 rfl) ?_
    refine lv_imul hx hb dX1_come_14 ?_
    refine lv_topi (fun x_1 ex_1 => ?_)
    obtain rfl : x_1 = nI (2 * j) := ex_1.trans (pk_mul 2 j)
    refine lv_iload_n hx hb dX1_come_15 rfl (lv_at hl 2 rfl) ?_
    refine lv_iadd hx hb dX1_come_16 ?_
    refine lv_topi (fun x_2 ex_2 => ?_)
    obtain rfl : x_2 = nI ((2 * j) + w) := ex_2.trans (nI_add (2 * j) w)
    refine rf_l_se (n := ((2 * j) + w)) hx hb hK hP (by omega) dX1_come_17 ?_
    refine lv_if_eq (tgt := 22) hx hb dX1_come_18 (by decide) (fun c18 => ?_) (fun c18 => ?_)
    · -- 18 t eq 
      have hh9 := hroom j hj rfl c18
      refine lv_aload_n hx hb dX1_come_22 rfl (lv_at hl 0 rfl) ?_
      refine rf_g_se hx hb hts hin hown hK hP (by decide +kernel) dX1_come_23 ?_
      refine lv_iconst (v := 2) hx hb dX1_come_26 (by decide) ?_
      refine lv_iload_n hx hb dX1_come_27 rfl (lv_at hl 1 rfl) ?_
      refine lv_imul hx hb dX1_come_28 ?_
      refine lv_topi (fun x_3 ex_3 => ?_)
      obtain rfl : x_3 = nI (2 * j) := ex_3.trans (pk_mul 2 j)
      refine lv_iload_n hx hb dX1_come_29 rfl (lv_at hl 2 rfl) ?_
      refine lv_iadd hx hb dX1_come_30 ?_
      refine lv_topi (fun x_4 ex_4 => ?_)
      obtain rfl : x_4 = nI ((2 * j) + w) := ex_4.trans (nI_add (2 * j) w)
      refine lv_iconst (v := 1) hx hb dX1_come_31 (by decide) ?_
      refine rf_s_se (n := ((2 * j) + w)) (x := 1) hx hb hK hP hD hS (by omega) dX1_come_32 (by decide) (fun H locs hP hD hS => ?_)
      refine lv_aload_n hx hb dX1_come_33 rfl (lv_at hl 0 rfl) ?_
      refine rf_g_pl hx hb hts hin hown hK hP (by decide +kernel) dX1_come_34 ?_
      refine lv_aload_n hx hb dX1_come_37 rfl (lv_at hl 0 rfl) ?_
      refine rf_g_hg hx hb hts hin hown hK hP (by decide +kernel) dX1_come_38 ?_
      refine lv_iconst (v := 2) hx hb dX1_come_41 (by decide) ?_
      refine lv_iload_n hx hb dX1_come_42 rfl (lv_at hl 1 rfl) ?_
      refine lv_imul hx hb dX1_come_43 ?_
      refine lv_topi (fun x_5 ex_5 => ?_)
      obtain rfl : x_5 = nI (2 * j) := ex_5.trans (pk_mul 2 j)
      refine lv_iload_n hx hb dX1_come_44 rfl (lv_at hl 2 rfl) ?_
      refine lv_iadd hx hb dX1_come_45 ?_
      refine lv_topi (fun x_6 ex_6 => ?_)
      obtain rfl : x_6 = nI ((2 * j) + w) := ex_6.trans (nI_add (2 * j) w)
      refine rf_s_pl (n := hN) (x := nI ((2 * j) + w)) hx hb hK hP hD hS (by omega) dX1_come_46 (fun H locs hP hD hS => ?_)
      refine lv_aload_n hx hb dX1_come_47 rfl (lv_at hl 0 rfl) ?_
      refine lv_dup hx hb dX1_come_48 rfl ?_
      refine rf_g_hg hx hb hts hin hown hK hP (by decide +kernel) dX1_come_49 ?_
      refine lv_iconst (v := 1) hx hb dX1_come_52 (by decide) ?_
      refine lv_iadd hx hb dX1_come_53 ?_
      refine lv_topi (fun x_7 ex_7 => ?_)
      obtain rfl : x_7 = nI (hN + 1) := ex_7.trans (nI_add hN 1)
      refine rf_p_hg hx hb hts hin hown hK hP hD hS (by decide +kernel) dX1_come_54 (fun H locs hP hD hS => ?_)
      exact ret_v hx hb hr hlocks hK hP hD hS dX1_come_57 (upd se (2 * j + w) 1, upd pl hN (nI (2 * j + w)), hN + 1) rfl (Or.inr ⟨j, hj, rfl, c18, rfl, rfl, rfl⟩)
    · -- 18 f eq 
      exact ret_v hx hb hr hlocks hK hP hD hS dX1_come_21 (se, pl, hN) rfl (Or.inl ⟨Or.inr ⟨j, hj, rfl, c18⟩, rfl, rfl, rfl⟩)

abbrev rr_go : Room := { frames := 2, cells := 0, slots := 0, locals := 43 }
theorem ri_go : ∀ w ∈ u_ws RX1 TX1 14, w ∈ wsX1_go := by decide +kernel
set_option maxHeartbeats 4000000 in
set_option maxRecDepth 100000 in
theorem lq_g1 {p : Program} {l : Launch} {e : Env} {s : State} {m : MethodId} {args : Array Value} {below : List Frame} {meth : Method} {c : Code} {A : Nat → Prop} {Q : State → Prop} {D : va_G} {h : Nat → Nat} {k : Nat → ClassId} {vc pn hg : Int32} {vP vO vG pD mV mF mM pX pY pl : Nat → Int32} {x : Int32} {q : Nat} (hx : p.tables.exec = Jvm.exec) (hb : c.code = cX1_go) (hml : c.maxLocals = 7) (hown : s.vm.findClass RX1 = some m.cls) (hts : ∀ w ∈ wsX1_go, w.before args s = true) (hA : ∀ q : Nat, s.heap.size ≤ q → A q) (hK : va_K D vwCl (rfT k) s) 
    (kk : ∀ (i : Nat) (se : Nat → Int32) (H : Heap) (locs : List Loc) (ls : Array Slot), (∀ k, k < 240 → se k = 0) → va_P D vwCl (rfW h k vc vP vO vG pn pD mV mF mM pX pY se pl hg) H → va_D A (rfW h k vc vP vO vG pn pD mV mF mM pX pY se pl hg) → va_S A s.heap H locs → lv_has ls 7 [(0, .ref (h 0)), (1, .int x), (2, .int (nI q)), (3, .int (nI i))] → W p l e rr_go s m args below meth c H locs 0 0 Q (F0 m 22 ls [])) :
    ∀ (n : Nat) (i : Nat) (se : Nat → Int32) (H : Heap) (locs : List Loc) (ls : Array Slot), (i ≤ 240) → (∀ k, k < i → se k = 0) → 240 - i < n → va_P D vwCl (rfW h k vc vP vO vG pn pD mV mF mM pX pY se pl hg) H → va_D A (rfW h k vc vP vO vG pn pD mV mF mM pX pY se pl hg) → va_S A s.heap H locs → lv_has ls 7 [(0, .ref (h 0)), (1, .int x), (2, .int (nI q)), (3, .int (nI i))] → W p l e rr_go s m args below meth c H locs 0 0 Q (F0 m 2 ls []) := by
  have hin := ri_go
  intro n
  induction n with
  | zero =>
    intro i se H locs ls hi hse hmz
    exact absurd hmz (Nat.not_lt_zero _)
  | succ n ih =>
    intro i se H locs ls hi hse hmz hP hD hS hl
    refine lv_iload_n hx hb dX1_go_2 rfl (lv_at hl 3 rfl) ?_
    refine lv_sipush (v := 240) hx hb dX1_go_3 (by decide) ?_
    refine lv_icmp_ge (tgt := 22) hx hb dX1_go_6 (by decide) (fun c6 => ?_) (fun c6 => ?_)
    · -- 6 t ge 
      have n6 : 240 ≤ i := (nI_leI (a := 240) (b := i) (by omega) (by omega)).mp c6
      exact kk i se H locs ls (fun k hk => hse k (by omega)) hP hD hS (lv_sub hl [0, 1, 2, 3] rfl)
    · -- 6 f ge 
      have n6 : ¬ 240 ≤ i := fun z => c6 ((nI_leI (a := 240) (b := i) (by omega) (by omega)).mpr z)
      refine lv_aload_n hx hb dX1_go_9 rfl (lv_at hl 0 rfl) ?_
      refine rf_g_se hx hb hts hin hown hK hP (by decide +kernel) dX1_go_10 ?_
      refine lv_iload_n hx hb dX1_go_13 rfl (lv_at hl 3 rfl) ?_
      refine lv_iconst (v := 0) hx hb dX1_go_14 (by decide) ?_
      refine rf_s_se (n := i) (x := 0) hx hb hK hP hD hS (by omega) dX1_go_15 (by decide) (fun H locs hP hD hS => ?_)
      refine lv_iinc (v := nI (i + 1)) (lv' := [(3, .int (nI (i + 1))), (0, .ref (h 0)), (1, .int x), (2, .int (nI q))]) hx hb dX1_go_16 hl (k := 3) rfl (nI_add i 1) (by decide) rfl (fun ls hl => ?_)
      refine lv_goto (tgt := 2) hx hb dX1_go_19 (by decide) ?_
      exact ih (i + 1) (upd se i 0) H locs ls (by omega) (zz_s hse) (by omega) hP hD hS (lv_sub hl [1, 2, 3, 0] rfl)

theorem rp_go_come : cpV wsX1_go RX1 61 RX1 yX1_come wsX1_come cX1_come 3 none 2 := ⟨gX1_go_X1_come, ⟨_, rfl⟩, by decide +kernel⟩
set_option maxHeartbeats 4000000 in
set_option maxRecDepth 100000 in
theorem lq_g2 {p : Program} {l : Launch} {e : Env} {s : State} {m : MethodId} {args : Array Value} {below : List Frame} {meth : Method} {c : Code} {A : Nat → Prop} {Q : State → Prop} {D : va_G} {h : Nat → Nat} {k : Nat → ClassId} {vP vO vG pD mV mF mM pX pY : Nat → Int32} {x : Int32} {q w0 nv np : Nat} (hx : p.tables.exec = Jvm.exec) (hb : c.code = cX1_go) (hml : c.maxLocals = 7) (hown : s.vm.findClass RX1 = some m.cls) (hts : ∀ w ∈ wsX1_go, w.before args s = true) (hA : ∀ q : Nat, s.heap.size ≤ q → A q) (hK : va_K D vwCl (rfT k) s) (hn : np ≤ 120)
    (kk : ∀ (hN : Nat) (se : Nat → Int32) (pl : Nat → Int32) (H : Heap) (locs : List Loc) (ls : Array Slot), (RvR nv np vG pD mV mF mM pX pY x q w0 se pl 0 (fun _ _ => False)) → va_P D vwCl (rfW h k (nI nv) vP vO vG (nI np) pD mV mF mM pX pY se pl (nI hN)) H → va_D A (rfW h k (nI nv) vP vO vG (nI np) pD mV mF mM pX pY se pl (nI hN)) → va_S A s.heap H locs → lv_has ls 7 [(0, .ref (h 0)), (1, .int x), (2, .int (nI q))] → W p l e rr_go s m args below meth c H locs 0 0 Q (F0 m 204 ls [])) :
    ∀ (n : Nat) (hN : Nat) (se : Nat → Int32) (pl : Nat → Int32) (H : Heap) (locs : List Loc) (ls : Array Slot), (RvR nv np vG pD mV mF mM pX pY x q w0 se pl hN (fun _ _ => False)) → 2 * (240 - cs se) + hN < n → va_P D vwCl (rfW h k (nI nv) vP vO vG (nI np) pD mV mF mM pX pY se pl (nI hN)) H → va_D A (rfW h k (nI nv) vP vO vG (nI np) pD mV mF mM pX pY se pl (nI hN)) → va_S A s.heap H locs → lv_has ls 7 [(0, .ref (h 0)), (1, .int x), (2, .int (nI q))] → W p l e rr_go s m args below meth c H locs 0 0 Q (F0 m 54 ls []) := by
  have hin := ri_go
  intro n
  induction n with
  | zero =>
    intro hN se pl H locs ls hRv hmz
    exact absurd hmz (Nat.not_lt_zero _)
  | succ n ih =>
    intro hN se pl H locs ls hRv hmz hP hD hS hl
    have hle240 := cs_le se
    have hNle : hN ≤ cs se := hRv.2.1
    refine lv_aload_n hx hb dX1_go_54 rfl (lv_at hl 0 rfl) ?_
    refine rf_g_hg hx hb hts hin hown hK hP (by decide +kernel) dX1_go_55 ?_
    refine lv_if_le (tgt := 204) hx hb dX1_go_58 (by decide) (fun c58 => ?_) (fun c58 => ?_)
    · -- 58 t le 
      have n58 : hN = 0 := by
        have h58 : hN ≤ 0 := (nI_leI (a := hN) (b := 0) (by omega) (by decide)).mp c58
        omega
      subst n58
      exact kk 0 se pl H locs ls (hRv) hP hD hS (lv_sub hl [0, 1, 2] rfl)
    · -- 58 f le 
      have n58 : 0 < hN := by
        rcases Nat.eq_zero_or_pos hN with z | z
        · subst z; exact absurd (Int32.le_refl 0) c58
        · exact z
      obtain ⟨p, w, hp, hw2, hpl, hsp, hRp⟩ := Rv_pop hn hRv n58
      have hMR := hRp.2.2.2.1 p w hp hw2 hsp
      refine lv_aload_n hx hb dX1_go_61 rfl (lv_at hl 0 rfl) ?_
      refine lv_dup hx hb dX1_go_62 rfl ?_
      refine rf_g_hg hx hb hts hin hown hK hP (by decide +kernel) dX1_go_63 ?_
      refine lv_iconst (v := 1) hx hb dX1_go_66 (by decide) ?_
      refine lv_isub hx hb dX1_go_67 ?_
      refine lv_topi (fun x_1 ex_1 => ?_)
      obtain rfl : x_1 = nI (hN - 1) := ex_1.trans (pk_sub (a := hN) (b := 1) (by omega))
      refine rf_p_hg hx hb hts hin hown hK hP hD hS (by decide +kernel) dX1_go_68 (fun H locs hP hD hS => ?_)
      refine lv_aload_n hx hb dX1_go_71 rfl (lv_at hl 0 rfl) ?_
      refine rf_g_pl hx hb hts hin hown hK hP (by decide +kernel) dX1_go_72 ?_
      refine lv_aload_n hx hb dX1_go_75 rfl (lv_at hl 0 rfl) ?_
      refine rf_g_hg hx hb hts hin hown hK hP (by decide +kernel) dX1_go_76 ?_
      refine rf_l_pl (n := (hN - 1)) hx hb hK hP (by omega) dX1_go_79 ?_
      refine lv_topi (fun x_2 ex_2 => ?_)
      obtain rfl : x_2 = nI (2 * p + w) := ex_2.trans (hpl)
      refine lv_iconst (v := 2) hx hb dX1_go_80 (by decide) ?_
      refine lv_idiv hx hb dX1_go_81 (by decide) ?_
      refine lv_topi (fun x_3 ex_3 => ?_)
      obtain rfl : x_3 = nI p := ex_3.trans ((pk_div (d := 2) (by omega) (by decide) (by decide)).trans (by rw [show (2 * p + w) / 2 = p by omega]))
      refine lv_istore_n (lv' := [(3, .int (nI p)), (0, .ref (h 0)), (1, .int x), (2, .int (nI q))]) hx hb dX1_go_82 rfl hl (by decide) rfl (fun ls hl => ?_)
      refine lv_aload_n hx hb dX1_go_83 rfl (lv_at hl 1 rfl) ?_
      refine rf_g_pl hx hb hts hin hown hK hP (by decide +kernel) dX1_go_84 ?_
      refine lv_aload_n hx hb dX1_go_87 rfl (lv_at hl 1 rfl) ?_
      refine rf_g_hg hx hb hts hin hown hK hP (by decide +kernel) dX1_go_88 ?_
      refine rf_l_pl (n := (hN - 1)) hx hb hK hP (by omega) dX1_go_91 ?_
      refine lv_topi (fun x_4 ex_4 => ?_)
      obtain rfl : x_4 = nI (2 * p + w) := ex_4.trans (hpl)
      refine lv_iconst (v := 2) hx hb dX1_go_92 (by decide) ?_
      refine lv_irem hx hb dX1_go_93 (by decide) ?_
      refine lv_topi (fun x_5 ex_5 => ?_)
      obtain rfl : x_5 = nI w := ex_5.trans ((pk_rem (d := 2) (by omega) (by decide) (by decide)).trans (by rw [show (2 * p + w) % 2 = w by omega]))
      refine lv_istore (lv' := [(4, .int (nI w)), (3, .int (nI p)), (0, .ref (h 0)), (1, .int x), (2, .int (nI q))]) hx hb dX1_go_94 hl (by decide) rfl (fun ls hl => ?_)
      refine lv_aload_n hx hb dX1_go_96 rfl (lv_at hl 2 rfl) ?_
      refine rf_g_mV hx hb hts hin hown hK hP (by decide +kernel) dX1_go_97 ?_
      refine lv_iload_n hx hb dX1_go_100 rfl (lv_at hl 1 rfl) ?_
      refine rf_l_mV (n := p) hx hb hK hP (by omega) dX1_go_101 ?_
      refine lv_iload_n hx hb dX1_go_102 rfl (lv_at hl 3 rfl) ?_
      refine lv_icmp_ne (tgt := 147) hx hb dX1_go_103 (by decide) (fun c103 => ?_) (fun c103 => ?_)
      · -- 103 t ne 
        refine lv_iconst (v := 0) hx hb dX1_go_147 (by decide) ?_
        refine lv_istore (lv' := [(5, .int 0), (4, .int (nI w)), (3, .int (nI p)), (0, .ref (h 0)), (1, .int x), (2, .int (nI q))]) hx hb dX1_go_148 hl (by decide) rfl (fun ls hl => ?_)
        refine lv_iload hx hb dX1_go_150 (lv_at hl 0 rfl) ?_
        refine lv_if_ne (tgt := 160) hx hb dX1_go_152 (by decide) (fun c152 => ?_) (fun c152 => ?_)
        · -- 152 t ne 
          exact absurd (by decide) c152
        · -- 152 f ne 
          refine lv_iload hx hb dX1_go_155 (lv_at hl 1 rfl) ?_
          refine lv_goto (tgt := 175) hx hb dX1_go_157 (by decide) ?_
          refine lv_istore (lv' := [(6, .int (nI w)), (5, .int 0), (4, .int (nI w)), (3, .int (nI p)), (0, .ref (h 0)), (1, .int x), (2, .int (nI q))]) hx hb dX1_go_175 hl (by decide) rfl (fun ls hl => ?_)
          have hTh : ThR pD mV mF mM x q p w w := Or.inr (Or.inr ⟨fun z => c103 z.1, rfl⟩)
          have hlt : w < 2 := ThR_lt hTh hw2
          refine lv_aload_n hx hb dX1_go_177 rfl (lv_at hl 4 rfl) ?_
          refine lv_aload_n hx hb dX1_go_178 rfl (lv_at hl 4 rfl) ?_
          refine rf_g_pX hx hb hts hin hown hK hP (by decide +kernel) dX1_go_179 ?_
          refine lv_iload_n hx hb dX1_go_182 rfl (lv_at hl 3 rfl) ?_
          refine rf_l_pX (n := p) hx hb hK hP (by omega) dX1_go_183 ?_
          refine lv_iload hx hb dX1_go_184 (lv_at hl 0 rfl) ?_
          refine call_vv (As := [.int (pX p), .int (nI w)]) (rest := []) ⟨hx, hb, hml, hown, hts⟩ (r_come (pX p) np (hN - 1) w hn hlt (fun j hj _ h0 => Rv_room (np := np) (E := ed pX pY np) (Th := ThR pD mV mF mM x q) (Pd := fun _ _ => True) (w0 := w0) (pl := pl) (X := fun _ _ => True) hRp.2.1 (i := 2 * j + w) (by omega) h0)) rp_go_come ⟨rfl, rfl⟩ ⟨Nat.le_of_ble_eq_true rfl, Nat.le_of_ble_eq_true rfl⟩ rfl rfl 0 rfl rfl hl.1 rfl (Nat.le_of_ble_eq_true rfl) dX1_go_186 ⟨Nat.zero_le _, Nat.zero_le _⟩ hK hP hD hS hA (fun u H locs p186 hP hD hS => ?_)
          obtain ⟨se_186, pl_186, hg_186⟩ := u
          have hP : va_P D vwCl (rfW h k (nI nv) vP vO vG (nI np) pD mV mF mM pX pY se_186 pl_186 (nI hg_186)) H := hP
          have hD : va_D A (rfW h k (nI nv) vP vO vG (nI np) pD mV mF mM pX pY se_186 pl_186 (nI hg_186)) := hD
          try dsimp only at p186
          have hR1 := Cm_step hn hlt (fun _ _ _ _ h1 h2 => ThR_lt h2 h1) hRp (fun j hj hxj => MR_st hMR ⟨Or.inl hxj, hj⟩ hTh) p186
          refine lv_aload_n hx hb dX1_go_189 rfl (lv_at hl 4 rfl) ?_
          refine lv_aload_n hx hb dX1_go_190 rfl (lv_at hl 4 rfl) ?_
          refine rf_g_pY hx hb hts hin hown hK hP (by decide +kernel) dX1_go_191 ?_
          refine lv_iload_n hx hb dX1_go_194 rfl (lv_at hl 3 rfl) ?_
          refine rf_l_pY (n := p) hx hb hK hP (by omega) dX1_go_195 ?_
          refine lv_iload hx hb dX1_go_196 (lv_at hl 0 rfl) ?_
          refine call_vv (As := [.int (pY p), .int (nI w)]) (rest := []) ⟨hx, hb, hml, hown, hts⟩ (r_come (pY p) np hg_186 w hn hlt (fun j hj _ h0 => Rv_room (np := np) (E := ed pX pY np) (Th := ThR pD mV mF mM x q) (Pd := fun _ _ => True) (w0 := w0) (pl := pl) (X := fun _ _ => True) hR1.1.2.1 (i := 2 * j + w) (by omega) h0)) rp_go_come ⟨rfl, rfl⟩ ⟨Nat.le_of_ble_eq_true rfl, Nat.le_of_ble_eq_true rfl⟩ rfl rfl 0 rfl rfl hl.1 rfl (Nat.le_of_ble_eq_true rfl) dX1_go_198 ⟨Nat.zero_le _, Nat.zero_le _⟩ hK hP hD hS hA (fun u H locs p198 hP hD hS => ?_)
          obtain ⟨se_198, pl_198, hg_198⟩ := u
          have hP : va_P D vwCl (rfW h k (nI nv) vP vO vG (nI np) pD mV mF mM pX pY se_198 pl_198 (nI hg_198)) H := hP
          have hD : va_D A (rfW h k (nI nv) vP vO vG (nI np) pD mV mF mM pX pY se_198 pl_198 (nI hg_198)) := hD
          try dsimp only at p198
          obtain ⟨hR9, hu9⟩ := Rv_it (Th := ThR pD mV mF mM x q) (Pd := fun p w => MR nv np vG pD mV mF mM pX pY x q w p) hn hp hlt (fun _ _ _ _ h1 h2 => ThR_lt h2 h1) (fun t h => ThR_fn h hTh) (fun j he => MR_st hMR he hTh) hRp p186 p198
          refine lv_goto (tgt := 54) hx hb dX1_go_201 (by decide) ?_
          exact ih hg_198 se_198 pl_198 H locs ls (hR9) (by omega) hP hD hS (lv_sub hl [4, 5, 6] rfl)
      · -- 103 f ne 
        refine lv_iload_n hx hb dX1_go_106 rfl (lv_at hl 4 rfl) ?_
        refine lv_aload_n hx hb dX1_go_107 rfl (lv_at hl 2 rfl) ?_
        refine rf_g_mF hx hb hts hin hown hK hP (by decide +kernel) dX1_go_108 ?_
        refine lv_iload_n hx hb dX1_go_111 rfl (lv_at hl 1 rfl) ?_
        refine rf_l_mF (n := p) hx hb hK hP (by omega) dX1_go_112 ?_
        refine lv_icmp_lt (tgt := 147) hx hb dX1_go_113 (by decide) (fun c113 => ?_) (fun c113 => ?_)
        · -- 113 t lt 
          refine lv_iconst (v := 0) hx hb dX1_go_147 (by decide) ?_
          refine lv_istore (lv' := [(5, .int 0), (4, .int (nI w)), (3, .int (nI p)), (0, .ref (h 0)), (1, .int x), (2, .int (nI q))]) hx hb dX1_go_148 hl (by decide) rfl (fun ls hl => ?_)
          refine lv_iload hx hb dX1_go_150 (lv_at hl 0 rfl) ?_
          refine lv_if_ne (tgt := 160) hx hb dX1_go_152 (by decide) (fun c152 => ?_) (fun c152 => ?_)
          · -- 152 t ne 
            exact absurd (by decide) c152
          · -- 152 f ne 
            refine lv_iload hx hb dX1_go_155 (lv_at hl 1 rfl) ?_
            refine lv_goto (tgt := 175) hx hb dX1_go_157 (by decide) ?_
            refine lv_istore (lv' := [(6, .int (nI w)), (5, .int 0), (4, .int (nI w)), (3, .int (nI p)), (0, .ref (h 0)), (1, .int x), (2, .int (nI q))]) hx hb dX1_go_175 hl (by decide) rfl (fun ls hl => ?_)
            have hTh : ThR pD mV mF mM x q p w w := Or.inr (Or.inr ⟨fun z => z.2.1 c113, rfl⟩)
            have hlt : w < 2 := ThR_lt hTh hw2
            refine lv_aload_n hx hb dX1_go_177 rfl (lv_at hl 4 rfl) ?_
            refine lv_aload_n hx hb dX1_go_178 rfl (lv_at hl 4 rfl) ?_
            refine rf_g_pX hx hb hts hin hown hK hP (by decide +kernel) dX1_go_179 ?_
            refine lv_iload_n hx hb dX1_go_182 rfl (lv_at hl 3 rfl) ?_
            refine rf_l_pX (n := p) hx hb hK hP (by omega) dX1_go_183 ?_
            refine lv_iload hx hb dX1_go_184 (lv_at hl 0 rfl) ?_
            refine call_vv (As := [.int (pX p), .int (nI w)]) (rest := []) ⟨hx, hb, hml, hown, hts⟩ (r_come (pX p) np (hN - 1) w hn hlt (fun j hj _ h0 => Rv_room (np := np) (E := ed pX pY np) (Th := ThR pD mV mF mM x q) (Pd := fun _ _ => True) (w0 := w0) (pl := pl) (X := fun _ _ => True) hRp.2.1 (i := 2 * j + w) (by omega) h0)) rp_go_come ⟨rfl, rfl⟩ ⟨Nat.le_of_ble_eq_true rfl, Nat.le_of_ble_eq_true rfl⟩ rfl rfl 0 rfl rfl hl.1 rfl (Nat.le_of_ble_eq_true rfl) dX1_go_186 ⟨Nat.zero_le _, Nat.zero_le _⟩ hK hP hD hS hA (fun u H locs p186 hP hD hS => ?_)
            obtain ⟨se_186, pl_186, hg_186⟩ := u
            have hP : va_P D vwCl (rfW h k (nI nv) vP vO vG (nI np) pD mV mF mM pX pY se_186 pl_186 (nI hg_186)) H := hP
            have hD : va_D A (rfW h k (nI nv) vP vO vG (nI np) pD mV mF mM pX pY se_186 pl_186 (nI hg_186)) := hD
            try dsimp only at p186
            have hR1 := Cm_step hn hlt (fun _ _ _ _ h1 h2 => ThR_lt h2 h1) hRp (fun j hj hxj => MR_st hMR ⟨Or.inl hxj, hj⟩ hTh) p186
            refine lv_aload_n hx hb dX1_go_189 rfl (lv_at hl 4 rfl) ?_
            refine lv_aload_n hx hb dX1_go_190 rfl (lv_at hl 4 rfl) ?_
            refine rf_g_pY hx hb hts hin hown hK hP (by decide +kernel) dX1_go_191 ?_
            refine lv_iload_n hx hb dX1_go_194 rfl (lv_at hl 3 rfl) ?_
            refine rf_l_pY (n := p) hx hb hK hP (by omega) dX1_go_195 ?_
            refine lv_iload hx hb dX1_go_196 (lv_at hl 0 rfl) ?_
            refine call_vv (As := [.int (pY p), .int (nI w)]) (rest := []) ⟨hx, hb, hml, hown, hts⟩ (r_come (pY p) np hg_186 w hn hlt (fun j hj _ h0 => Rv_room (np := np) (E := ed pX pY np) (Th := ThR pD mV mF mM x q) (Pd := fun _ _ => True) (w0 := w0) (pl := pl) (X := fun _ _ => True) hR1.1.2.1 (i := 2 * j + w) (by omega) h0)) rp_go_come ⟨rfl, rfl⟩ ⟨Nat.le_of_ble_eq_true rfl, Nat.le_of_ble_eq_true rfl⟩ rfl rfl 0 rfl rfl hl.1 rfl (Nat.le_of_ble_eq_true rfl) dX1_go_198 ⟨Nat.zero_le _, Nat.zero_le _⟩ hK hP hD hS hA (fun u H locs p198 hP hD hS => ?_)
            obtain ⟨se_198, pl_198, hg_198⟩ := u
            have hP : va_P D vwCl (rfW h k (nI nv) vP vO vG (nI np) pD mV mF mM pX pY se_198 pl_198 (nI hg_198)) H := hP
            have hD : va_D A (rfW h k (nI nv) vP vO vG (nI np) pD mV mF mM pX pY se_198 pl_198 (nI hg_198)) := hD
            try dsimp only at p198
            obtain ⟨hR9, hu9⟩ := Rv_it (Th := ThR pD mV mF mM x q) (Pd := fun p w => MR nv np vG pD mV mF mM pX pY x q w p) hn hp hlt (fun _ _ _ _ h1 h2 => ThR_lt h2 h1) (fun t h => ThR_fn h hTh) (fun j he => MR_st hMR he hTh) hRp p186 p198
            refine lv_goto (tgt := 54) hx hb dX1_go_201 (by decide) ?_
            exact ih hg_198 se_198 pl_198 H locs ls (hR9) (by omega) hP hD hS (lv_sub hl [4, 5, 6] rfl)
        · -- 113 f lt 
          refine lv_iload_n hx hb dX1_go_116 rfl (lv_at hl 4 rfl) ?_
          refine lv_aload_n hx hb dX1_go_117 rfl (lv_at hl 2 rfl) ?_
          refine rf_g_mF hx hb hts hin hown hK hP (by decide +kernel) dX1_go_118 ?_
          refine lv_iload_n hx hb dX1_go_121 rfl (lv_at hl 1 rfl) ?_
          refine rf_l_mF (n := p) hx hb hK hP (by omega) dX1_go_122 ?_
          refine lv_aload_n hx hb dX1_go_123 rfl (lv_at hl 2 rfl) ?_
          refine rf_g_mM hx hb hts hin hown hK hP (by decide +kernel) dX1_go_124 ?_
          refine lv_iload_n hx hb dX1_go_127 rfl (lv_at hl 1 rfl) ?_
          refine rf_l_mM (n := p) hx hb hK hP (by omega) dX1_go_128 ?_
          refine lv_iadd hx hb dX1_go_129 ?_
          refine lv_icmp_ge (tgt := 147) hx hb dX1_go_130 (by decide) (fun c130 => ?_) (fun c130 => ?_)
          · -- 130 t ge 
            refine lv_iconst (v := 0) hx hb dX1_go_147 (by decide) ?_
            refine lv_istore (lv' := [(5, .int 0), (4, .int (nI w)), (3, .int (nI p)), (0, .ref (h 0)), (1, .int x), (2, .int (nI q))]) hx hb dX1_go_148 hl (by decide) rfl (fun ls hl => ?_)
            refine lv_iload hx hb dX1_go_150 (lv_at hl 0 rfl) ?_
            refine lv_if_ne (tgt := 160) hx hb dX1_go_152 (by decide) (fun c152 => ?_) (fun c152 => ?_)
            · -- 152 t ne 
              exact absurd (by decide) c152
            · -- 152 f ne 
              refine lv_iload hx hb dX1_go_155 (lv_at hl 1 rfl) ?_
              refine lv_goto (tgt := 175) hx hb dX1_go_157 (by decide) ?_
              refine lv_istore (lv' := [(6, .int (nI w)), (5, .int 0), (4, .int (nI w)), (3, .int (nI p)), (0, .ref (h 0)), (1, .int x), (2, .int (nI q))]) hx hb dX1_go_175 hl (by decide) rfl (fun ls hl => ?_)
              have hTh : ThR pD mV mF mM x q p w w := Or.inr (Or.inr ⟨fun z => z.2.2.1 c130, rfl⟩)
              have hlt : w < 2 := ThR_lt hTh hw2
              refine lv_aload_n hx hb dX1_go_177 rfl (lv_at hl 4 rfl) ?_
              refine lv_aload_n hx hb dX1_go_178 rfl (lv_at hl 4 rfl) ?_
              refine rf_g_pX hx hb hts hin hown hK hP (by decide +kernel) dX1_go_179 ?_
              refine lv_iload_n hx hb dX1_go_182 rfl (lv_at hl 3 rfl) ?_
              refine rf_l_pX (n := p) hx hb hK hP (by omega) dX1_go_183 ?_
              refine lv_iload hx hb dX1_go_184 (lv_at hl 0 rfl) ?_
              refine call_vv (As := [.int (pX p), .int (nI w)]) (rest := []) ⟨hx, hb, hml, hown, hts⟩ (r_come (pX p) np (hN - 1) w hn hlt (fun j hj _ h0 => Rv_room (np := np) (E := ed pX pY np) (Th := ThR pD mV mF mM x q) (Pd := fun _ _ => True) (w0 := w0) (pl := pl) (X := fun _ _ => True) hRp.2.1 (i := 2 * j + w) (by omega) h0)) rp_go_come ⟨rfl, rfl⟩ ⟨Nat.le_of_ble_eq_true rfl, Nat.le_of_ble_eq_true rfl⟩ rfl rfl 0 rfl rfl hl.1 rfl (Nat.le_of_ble_eq_true rfl) dX1_go_186 ⟨Nat.zero_le _, Nat.zero_le _⟩ hK hP hD hS hA (fun u H locs p186 hP hD hS => ?_)
              obtain ⟨se_186, pl_186, hg_186⟩ := u
              have hP : va_P D vwCl (rfW h k (nI nv) vP vO vG (nI np) pD mV mF mM pX pY se_186 pl_186 (nI hg_186)) H := hP
              have hD : va_D A (rfW h k (nI nv) vP vO vG (nI np) pD mV mF mM pX pY se_186 pl_186 (nI hg_186)) := hD
              try dsimp only at p186
              have hR1 := Cm_step hn hlt (fun _ _ _ _ h1 h2 => ThR_lt h2 h1) hRp (fun j hj hxj => MR_st hMR ⟨Or.inl hxj, hj⟩ hTh) p186
              refine lv_aload_n hx hb dX1_go_189 rfl (lv_at hl 4 rfl) ?_
              refine lv_aload_n hx hb dX1_go_190 rfl (lv_at hl 4 rfl) ?_
              refine rf_g_pY hx hb hts hin hown hK hP (by decide +kernel) dX1_go_191 ?_
              refine lv_iload_n hx hb dX1_go_194 rfl (lv_at hl 3 rfl) ?_
              refine rf_l_pY (n := p) hx hb hK hP (by omega) dX1_go_195 ?_
              refine lv_iload hx hb dX1_go_196 (lv_at hl 0 rfl) ?_
              refine call_vv (As := [.int (pY p), .int (nI w)]) (rest := []) ⟨hx, hb, hml, hown, hts⟩ (r_come (pY p) np hg_186 w hn hlt (fun j hj _ h0 => Rv_room (np := np) (E := ed pX pY np) (Th := ThR pD mV mF mM x q) (Pd := fun _ _ => True) (w0 := w0) (pl := pl) (X := fun _ _ => True) hR1.1.2.1 (i := 2 * j + w) (by omega) h0)) rp_go_come ⟨rfl, rfl⟩ ⟨Nat.le_of_ble_eq_true rfl, Nat.le_of_ble_eq_true rfl⟩ rfl rfl 0 rfl rfl hl.1 rfl (Nat.le_of_ble_eq_true rfl) dX1_go_198 ⟨Nat.zero_le _, Nat.zero_le _⟩ hK hP hD hS hA (fun u H locs p198 hP hD hS => ?_)
              obtain ⟨se_198, pl_198, hg_198⟩ := u
              have hP : va_P D vwCl (rfW h k (nI nv) vP vO vG (nI np) pD mV mF mM pX pY se_198 pl_198 (nI hg_198)) H := hP
              have hD : va_D A (rfW h k (nI nv) vP vO vG (nI np) pD mV mF mM pX pY se_198 pl_198 (nI hg_198)) := hD
              try dsimp only at p198
              obtain ⟨hR9, hu9⟩ := Rv_it (Th := ThR pD mV mF mM x q) (Pd := fun p w => MR nv np vG pD mV mF mM pX pY x q w p) hn hp hlt (fun _ _ _ _ h1 h2 => ThR_lt h2 h1) (fun t h => ThR_fn h hTh) (fun j he => MR_st hMR he hTh) hRp p186 p198
              refine lv_goto (tgt := 54) hx hb dX1_go_201 (by decide) ?_
              exact ih hg_198 se_198 pl_198 H locs ls (hR9) (by omega) hP hD hS (lv_sub hl [4, 5, 6] rfl)
          · -- 130 f ge 
            refine lv_aload_n hx hb dX1_go_133 rfl (lv_at hl 2 rfl) ?_
            refine rf_g_pD hx hb hts hin hown hK hP (by decide +kernel) dX1_go_134 ?_
            refine lv_iload_n hx hb dX1_go_137 rfl (lv_at hl 1 rfl) ?_
            refine rf_l_pD (n := p) hx hb hK hP (by omega) dX1_go_138 ?_
            refine lv_iconst (v := 3) hx hb dX1_go_139 (by decide) ?_
            refine lv_icmp_eq (tgt := 147) hx hb dX1_go_140 (by decide) (fun c140 => ?_) (fun c140 => ?_)
            · -- 140 t eq 
              refine lv_iconst (v := 0) hx hb dX1_go_147 (by decide) ?_
              refine lv_istore (lv' := [(5, .int 0), (4, .int (nI w)), (3, .int (nI p)), (0, .ref (h 0)), (1, .int x), (2, .int (nI q))]) hx hb dX1_go_148 hl (by decide) rfl (fun ls hl => ?_)
              refine lv_iload hx hb dX1_go_150 (lv_at hl 0 rfl) ?_
              refine lv_if_ne (tgt := 160) hx hb dX1_go_152 (by decide) (fun c152 => ?_) (fun c152 => ?_)
              · -- 152 t ne 
                exact absurd (by decide) c152
              · -- 152 f ne 
                refine lv_iload hx hb dX1_go_155 (lv_at hl 1 rfl) ?_
                refine lv_goto (tgt := 175) hx hb dX1_go_157 (by decide) ?_
                refine lv_istore (lv' := [(6, .int (nI w)), (5, .int 0), (4, .int (nI w)), (3, .int (nI p)), (0, .ref (h 0)), (1, .int x), (2, .int (nI q))]) hx hb dX1_go_175 hl (by decide) rfl (fun ls hl => ?_)
                have hTh : ThR pD mV mF mM x q p w w := Or.inr (Or.inr ⟨fun z => z.2.2.2 c140, rfl⟩)
                have hlt : w < 2 := ThR_lt hTh hw2
                refine lv_aload_n hx hb dX1_go_177 rfl (lv_at hl 4 rfl) ?_
                refine lv_aload_n hx hb dX1_go_178 rfl (lv_at hl 4 rfl) ?_
                refine rf_g_pX hx hb hts hin hown hK hP (by decide +kernel) dX1_go_179 ?_
                refine lv_iload_n hx hb dX1_go_182 rfl (lv_at hl 3 rfl) ?_
                refine rf_l_pX (n := p) hx hb hK hP (by omega) dX1_go_183 ?_
                refine lv_iload hx hb dX1_go_184 (lv_at hl 0 rfl) ?_
                refine call_vv (As := [.int (pX p), .int (nI w)]) (rest := []) ⟨hx, hb, hml, hown, hts⟩ (r_come (pX p) np (hN - 1) w hn hlt (fun j hj _ h0 => Rv_room (np := np) (E := ed pX pY np) (Th := ThR pD mV mF mM x q) (Pd := fun _ _ => True) (w0 := w0) (pl := pl) (X := fun _ _ => True) hRp.2.1 (i := 2 * j + w) (by omega) h0)) rp_go_come ⟨rfl, rfl⟩ ⟨Nat.le_of_ble_eq_true rfl, Nat.le_of_ble_eq_true rfl⟩ rfl rfl 0 rfl rfl hl.1 rfl (Nat.le_of_ble_eq_true rfl) dX1_go_186 ⟨Nat.zero_le _, Nat.zero_le _⟩ hK hP hD hS hA (fun u H locs p186 hP hD hS => ?_)
                obtain ⟨se_186, pl_186, hg_186⟩ := u
                have hP : va_P D vwCl (rfW h k (nI nv) vP vO vG (nI np) pD mV mF mM pX pY se_186 pl_186 (nI hg_186)) H := hP
                have hD : va_D A (rfW h k (nI nv) vP vO vG (nI np) pD mV mF mM pX pY se_186 pl_186 (nI hg_186)) := hD
                try dsimp only at p186
                have hR1 := Cm_step hn hlt (fun _ _ _ _ h1 h2 => ThR_lt h2 h1) hRp (fun j hj hxj => MR_st hMR ⟨Or.inl hxj, hj⟩ hTh) p186
                refine lv_aload_n hx hb dX1_go_189 rfl (lv_at hl 4 rfl) ?_
                refine lv_aload_n hx hb dX1_go_190 rfl (lv_at hl 4 rfl) ?_
                refine rf_g_pY hx hb hts hin hown hK hP (by decide +kernel) dX1_go_191 ?_
                refine lv_iload_n hx hb dX1_go_194 rfl (lv_at hl 3 rfl) ?_
                refine rf_l_pY (n := p) hx hb hK hP (by omega) dX1_go_195 ?_
                refine lv_iload hx hb dX1_go_196 (lv_at hl 0 rfl) ?_
                refine call_vv (As := [.int (pY p), .int (nI w)]) (rest := []) ⟨hx, hb, hml, hown, hts⟩ (r_come (pY p) np hg_186 w hn hlt (fun j hj _ h0 => Rv_room (np := np) (E := ed pX pY np) (Th := ThR pD mV mF mM x q) (Pd := fun _ _ => True) (w0 := w0) (pl := pl) (X := fun _ _ => True) hR1.1.2.1 (i := 2 * j + w) (by omega) h0)) rp_go_come ⟨rfl, rfl⟩ ⟨Nat.le_of_ble_eq_true rfl, Nat.le_of_ble_eq_true rfl⟩ rfl rfl 0 rfl rfl hl.1 rfl (Nat.le_of_ble_eq_true rfl) dX1_go_198 ⟨Nat.zero_le _, Nat.zero_le _⟩ hK hP hD hS hA (fun u H locs p198 hP hD hS => ?_)
                obtain ⟨se_198, pl_198, hg_198⟩ := u
                have hP : va_P D vwCl (rfW h k (nI nv) vP vO vG (nI np) pD mV mF mM pX pY se_198 pl_198 (nI hg_198)) H := hP
                have hD : va_D A (rfW h k (nI nv) vP vO vG (nI np) pD mV mF mM pX pY se_198 pl_198 (nI hg_198)) := hD
                try dsimp only at p198
                obtain ⟨hR9, hu9⟩ := Rv_it (Th := ThR pD mV mF mM x q) (Pd := fun p w => MR nv np vG pD mV mF mM pX pY x q w p) hn hp hlt (fun _ _ _ _ h1 h2 => ThR_lt h2 h1) (fun t h => ThR_fn h hTh) (fun j he => MR_st hMR he hTh) hRp p186 p198
                refine lv_goto (tgt := 54) hx hb dX1_go_201 (by decide) ?_
                exact ih hg_198 se_198 pl_198 H locs ls (hR9) (by omega) hP hD hS (lv_sub hl [4, 5, 6] rfl)
            · -- 140 f eq 
              refine lv_iconst (v := 1) hx hb dX1_go_143 (by decide) ?_
              refine lv_goto (tgt := 148) hx hb dX1_go_144 (by decide) ?_
              refine lv_istore (lv' := [(5, .int 1), (4, .int (nI w)), (3, .int (nI p)), (0, .ref (h 0)), (1, .int x), (2, .int (nI q))]) hx hb dX1_go_148 hl (by decide) rfl (fun ls hl => ?_)
              refine lv_iload hx hb dX1_go_150 (lv_at hl 0 rfl) ?_
              refine lv_if_ne (tgt := 160) hx hb dX1_go_152 (by decide) (fun c152 => ?_) (fun c152 => ?_)
              · -- 152 t ne 
                refine lv_aload_n hx hb dX1_go_160 rfl (lv_at hl 3 rfl) ?_
                refine rf_g_pD hx hb hts hin hown hK hP (by decide +kernel) dX1_go_161 ?_
                refine lv_iload_n hx hb dX1_go_164 rfl (lv_at hl 2 rfl) ?_
                refine rf_l_pD (n := p) hx hb hK hP (by omega) dX1_go_165 ?_
                refine lv_iconst (v := 1) hx hb dX1_go_166 (by decide) ?_
                refine lv_icmp_ne (tgt := 174) hx hb dX1_go_167 (by decide) (fun c167 => ?_) (fun c167 => ?_)
                · -- 167 t ne 
                  refine lv_iconst (v := nI 0) hx hb dX1_go_174 (by decide) ?_
                  refine lv_istore (lv' := [(6, .int (nI 0)), (5, .int 1), (4, .int (nI w)), (3, .int (nI p)), (0, .ref (h 0)), (1, .int x), (2, .int (nI q))]) hx hb dX1_go_175 hl (by decide) rfl (fun ls hl => ?_)
                  have hTh : ThR pD mV mF mM x q p w 0 := Or.inr (Or.inl ⟨⟨c103, c113, c130, c140⟩, c167, rfl⟩)
                  have hlt : 0 < 2 := ThR_lt hTh hw2
                  refine lv_aload_n hx hb dX1_go_177 rfl (lv_at hl 4 rfl) ?_
                  refine lv_aload_n hx hb dX1_go_178 rfl (lv_at hl 4 rfl) ?_
                  refine rf_g_pX hx hb hts hin hown hK hP (by decide +kernel) dX1_go_179 ?_
                  refine lv_iload_n hx hb dX1_go_182 rfl (lv_at hl 3 rfl) ?_
                  refine rf_l_pX (n := p) hx hb hK hP (by omega) dX1_go_183 ?_
                  refine lv_iload hx hb dX1_go_184 (lv_at hl 0 rfl) ?_
                  refine call_vv (As := [.int (pX p), .int (nI 0)]) (rest := []) ⟨hx, hb, hml, hown, hts⟩ (r_come (pX p) np (hN - 1) 0 hn hlt (fun j hj _ h0 => Rv_room (np := np) (E := ed pX pY np) (Th := ThR pD mV mF mM x q) (Pd := fun _ _ => True) (w0 := w0) (pl := pl) (X := fun _ _ => True) hRp.2.1 (i := 2 * j + 0) (by omega) h0)) rp_go_come ⟨rfl, rfl⟩ ⟨Nat.le_of_ble_eq_true rfl, Nat.le_of_ble_eq_true rfl⟩ rfl rfl 0 rfl rfl hl.1 rfl (Nat.le_of_ble_eq_true rfl) dX1_go_186 ⟨Nat.zero_le _, Nat.zero_le _⟩ hK hP hD hS hA (fun u H locs p186 hP hD hS => ?_)
                  obtain ⟨se_186, pl_186, hg_186⟩ := u
                  have hP : va_P D vwCl (rfW h k (nI nv) vP vO vG (nI np) pD mV mF mM pX pY se_186 pl_186 (nI hg_186)) H := hP
                  have hD : va_D A (rfW h k (nI nv) vP vO vG (nI np) pD mV mF mM pX pY se_186 pl_186 (nI hg_186)) := hD
                  try dsimp only at p186
                  have hR1 := Cm_step hn hlt (fun _ _ _ _ h1 h2 => ThR_lt h2 h1) hRp (fun j hj hxj => MR_st hMR ⟨Or.inl hxj, hj⟩ hTh) p186
                  refine lv_aload_n hx hb dX1_go_189 rfl (lv_at hl 4 rfl) ?_
                  refine lv_aload_n hx hb dX1_go_190 rfl (lv_at hl 4 rfl) ?_
                  refine rf_g_pY hx hb hts hin hown hK hP (by decide +kernel) dX1_go_191 ?_
                  refine lv_iload_n hx hb dX1_go_194 rfl (lv_at hl 3 rfl) ?_
                  refine rf_l_pY (n := p) hx hb hK hP (by omega) dX1_go_195 ?_
                  refine lv_iload hx hb dX1_go_196 (lv_at hl 0 rfl) ?_
                  refine call_vv (As := [.int (pY p), .int (nI 0)]) (rest := []) ⟨hx, hb, hml, hown, hts⟩ (r_come (pY p) np hg_186 0 hn hlt (fun j hj _ h0 => Rv_room (np := np) (E := ed pX pY np) (Th := ThR pD mV mF mM x q) (Pd := fun _ _ => True) (w0 := w0) (pl := pl) (X := fun _ _ => True) hR1.1.2.1 (i := 2 * j + 0) (by omega) h0)) rp_go_come ⟨rfl, rfl⟩ ⟨Nat.le_of_ble_eq_true rfl, Nat.le_of_ble_eq_true rfl⟩ rfl rfl 0 rfl rfl hl.1 rfl (Nat.le_of_ble_eq_true rfl) dX1_go_198 ⟨Nat.zero_le _, Nat.zero_le _⟩ hK hP hD hS hA (fun u H locs p198 hP hD hS => ?_)
                  obtain ⟨se_198, pl_198, hg_198⟩ := u
                  have hP : va_P D vwCl (rfW h k (nI nv) vP vO vG (nI np) pD mV mF mM pX pY se_198 pl_198 (nI hg_198)) H := hP
                  have hD : va_D A (rfW h k (nI nv) vP vO vG (nI np) pD mV mF mM pX pY se_198 pl_198 (nI hg_198)) := hD
                  try dsimp only at p198
                  obtain ⟨hR9, hu9⟩ := Rv_it (Th := ThR pD mV mF mM x q) (Pd := fun p w => MR nv np vG pD mV mF mM pX pY x q w p) hn hp hlt (fun _ _ _ _ h1 h2 => ThR_lt h2 h1) (fun t h => ThR_fn h hTh) (fun j he => MR_st hMR he hTh) hRp p186 p198
                  refine lv_goto (tgt := 54) hx hb dX1_go_201 (by decide) ?_
                  exact ih hg_198 se_198 pl_198 H locs ls (hR9) (by omega) hP hD hS (lv_sub hl [4, 5, 6] rfl)
                · -- 167 f ne 
                  refine lv_iconst (v := nI 1) hx hb dX1_go_170 (by decide) ?_
                  refine lv_goto (tgt := 175) hx hb dX1_go_171 (by decide) ?_
                  refine lv_istore (lv' := [(6, .int (nI 1)), (5, .int 1), (4, .int (nI w)), (3, .int (nI p)), (0, .ref (h 0)), (1, .int x), (2, .int (nI q))]) hx hb dX1_go_175 hl (by decide) rfl (fun ls hl => ?_)
                  have hTh : ThR pD mV mF mM x q p w 1 := Or.inl ⟨⟨c103, c113, c130, c140⟩, c167, rfl⟩
                  have hlt : 1 < 2 := ThR_lt hTh hw2
                  refine lv_aload_n hx hb dX1_go_177 rfl (lv_at hl 4 rfl) ?_
                  refine lv_aload_n hx hb dX1_go_178 rfl (lv_at hl 4 rfl) ?_
                  refine rf_g_pX hx hb hts hin hown hK hP (by decide +kernel) dX1_go_179 ?_
                  refine lv_iload_n hx hb dX1_go_182 rfl (lv_at hl 3 rfl) ?_
                  refine rf_l_pX (n := p) hx hb hK hP (by omega) dX1_go_183 ?_
                  refine lv_iload hx hb dX1_go_184 (lv_at hl 0 rfl) ?_
                  refine call_vv (As := [.int (pX p), .int (nI 1)]) (rest := []) ⟨hx, hb, hml, hown, hts⟩ (r_come (pX p) np (hN - 1) 1 hn hlt (fun j hj _ h0 => Rv_room (np := np) (E := ed pX pY np) (Th := ThR pD mV mF mM x q) (Pd := fun _ _ => True) (w0 := w0) (pl := pl) (X := fun _ _ => True) hRp.2.1 (i := 2 * j + 1) (by omega) h0)) rp_go_come ⟨rfl, rfl⟩ ⟨Nat.le_of_ble_eq_true rfl, Nat.le_of_ble_eq_true rfl⟩ rfl rfl 0 rfl rfl hl.1 rfl (Nat.le_of_ble_eq_true rfl) dX1_go_186 ⟨Nat.zero_le _, Nat.zero_le _⟩ hK hP hD hS hA (fun u H locs p186 hP hD hS => ?_)
                  obtain ⟨se_186, pl_186, hg_186⟩ := u
                  have hP : va_P D vwCl (rfW h k (nI nv) vP vO vG (nI np) pD mV mF mM pX pY se_186 pl_186 (nI hg_186)) H := hP
                  have hD : va_D A (rfW h k (nI nv) vP vO vG (nI np) pD mV mF mM pX pY se_186 pl_186 (nI hg_186)) := hD
                  try dsimp only at p186
                  have hR1 := Cm_step hn hlt (fun _ _ _ _ h1 h2 => ThR_lt h2 h1) hRp (fun j hj hxj => MR_st hMR ⟨Or.inl hxj, hj⟩ hTh) p186
                  refine lv_aload_n hx hb dX1_go_189 rfl (lv_at hl 4 rfl) ?_
                  refine lv_aload_n hx hb dX1_go_190 rfl (lv_at hl 4 rfl) ?_
                  refine rf_g_pY hx hb hts hin hown hK hP (by decide +kernel) dX1_go_191 ?_
                  refine lv_iload_n hx hb dX1_go_194 rfl (lv_at hl 3 rfl) ?_
                  refine rf_l_pY (n := p) hx hb hK hP (by omega) dX1_go_195 ?_
                  refine lv_iload hx hb dX1_go_196 (lv_at hl 0 rfl) ?_
                  refine call_vv (As := [.int (pY p), .int (nI 1)]) (rest := []) ⟨hx, hb, hml, hown, hts⟩ (r_come (pY p) np hg_186 1 hn hlt (fun j hj _ h0 => Rv_room (np := np) (E := ed pX pY np) (Th := ThR pD mV mF mM x q) (Pd := fun _ _ => True) (w0 := w0) (pl := pl) (X := fun _ _ => True) hR1.1.2.1 (i := 2 * j + 1) (by omega) h0)) rp_go_come ⟨rfl, rfl⟩ ⟨Nat.le_of_ble_eq_true rfl, Nat.le_of_ble_eq_true rfl⟩ rfl rfl 0 rfl rfl hl.1 rfl (Nat.le_of_ble_eq_true rfl) dX1_go_198 ⟨Nat.zero_le _, Nat.zero_le _⟩ hK hP hD hS hA (fun u H locs p198 hP hD hS => ?_)
                  obtain ⟨se_198, pl_198, hg_198⟩ := u
                  have hP : va_P D vwCl (rfW h k (nI nv) vP vO vG (nI np) pD mV mF mM pX pY se_198 pl_198 (nI hg_198)) H := hP
                  have hD : va_D A (rfW h k (nI nv) vP vO vG (nI np) pD mV mF mM pX pY se_198 pl_198 (nI hg_198)) := hD
                  try dsimp only at p198
                  obtain ⟨hR9, hu9⟩ := Rv_it (Th := ThR pD mV mF mM x q) (Pd := fun p w => MR nv np vG pD mV mF mM pX pY x q w p) hn hp hlt (fun _ _ _ _ h1 h2 => ThR_lt h2 h1) (fun t h => ThR_fn h hTh) (fun j he => MR_st hMR he hTh) hRp p186 p198
                  refine lv_goto (tgt := 54) hx hb dX1_go_201 (by decide) ?_
                  exact ih hg_198 se_198 pl_198 H locs ls (hR9) (by omega) hP hD hS (lv_sub hl [4, 5, 6] rfl)
              · -- 152 f ne 
                exact absurd c152 (by decide)

theorem rp_go_isVariable : cpV wsX1_go RX1 51 RX1 yX1_isVariable wsX1_isVariable cX1_isVariable 2 (some .boolean) 1 := ⟨gX1_go_X1_isVariable, ⟨_, rfl⟩, by decide +kernel⟩
set_option maxHeartbeats 4000000 in
set_option maxRecDepth 100000 in
theorem r_go {l : Launch} {D : va_G} {h : Nat → Nat} {k : Nat → ClassId} {vP vO vG pD mV mF mM pX pY se pl : Nat → Int32} (x : Int32) (nv np q hN : Nat) (hnv : nv ≤ 20) (hn : np ≤ 120) : ct l yX1_go wsX1_go rr_go D vwCl (rfT k) [.ref (h 0), .int x, .int (nI q)] (rfW h k (nI nv) vP vO vG (nI np) pD mV mF mM pX pY se pl (nI hN)) (qV D vwCl (rfT k) (fun (u : (Nat → Int32) × (Nat → Int32) × Nat) => GoR nv np vG pD mV mF mM pX pY x q u.1) (fun u => rfW h k (nI nv) vP vO vG (nI np) pD mV mF mM pX pY u.1 u.2.1 (nI u.2.2))) 0 0 := by
  refine ct_of (cc := cX1_go) (maxL := 7) (ret := none) (by decide) rfl (Nat.le_of_ble_eq_true rfl) ?_
  intro p e s m below meth c A ls hx hb hr hml hlocks hown hnm hts hA hK hP hD hS hl
  have hown : s.vm.findClass RX1 = some m.cls := hown
  have hin := ri_go
  have hl : lv_has ls 7 [(0, .ref (h 0)), (1, .int x), (2, .int (nI q))] := hl
  refine lv_iconst (v := nI 0) hx hb dX1_go_0 (by decide) ?_
  refine lv_istore_n (lv' := [(3, .int (nI 0)), (0, .ref (h 0)), (1, .int x), (2, .int (nI q))]) hx hb dX1_go_1 rfl hl (by decide) rfl (fun ls hl => ?_)
  refine lq_g1 hx hb hml hown hts hA hK  ?_ _ 0 se _ _ ls (Nat.zero_le _) (fun k hk => absurd hk (Nat.not_lt_zero k)) (Nat.lt_succ_self _) hP hD hS (lv_sub hl [1, 2, 3, 0] rfl)
  intro i1 se1 H locs ls hse hP hD hS hl
  refine lv_aload_n hx hb dX1_go_22 rfl (lv_at hl 0 rfl) ?_
  refine lv_iconst (v := nI 0) hx hb dX1_go_23 (by decide) ?_
  refine rf_p_hg hx hb hts hin hown hK hP hD hS (by decide +kernel) dX1_go_24 (fun H locs hP hD hS => ?_)
  refine lv_aload_n hx hb dX1_go_27 rfl (lv_at hl 0 rfl) ?_
  refine lv_iconst (v := nI 0) hx hb dX1_go_28 (by decide) ?_
  refine lv_aload_n hx hb dX1_go_29 rfl (lv_at hl 0 rfl) ?_
  refine lv_iload_n hx hb dX1_go_30 rfl (lv_at hl 1 rfl) ?_
  refine call_vi (As := [.int x]) (rest := [.int (nI 0), .ref (h 0)]) ⟨hx, hb, hml, hown, hts⟩ (r_isVariable x) rp_go_isVariable ⟨rfl, rfl⟩ ⟨Nat.le_of_ble_eq_true rfl, Nat.le_of_ble_eq_true rfl⟩ rfl rfl 0 rfl rfl hl.1 rfl (Nat.le_of_ble_eq_true rfl) dX1_go_31 ⟨Nat.zero_le _, Nat.zero_le _⟩ hK hP hD hS hA (fun r31 u H locs p31 hP hD hS => ?_)
  try dsimp only at p31
  refine lv_if_eq (tgt := 50) hx hb dX1_go_34 (by decide) (fun c34 => ?_) (fun c34 => ?_)
  · -- 34 t eq 
    refine lv_iconst (v := nI 0) hx hb dX1_go_50 (by decide) ?_
    
    refine call_vv (As := [.int (nI 0), .int (nI 0)]) (rest := []) ⟨hx, hb, hml, hown, hts⟩ (r_come (nI 0) np 0 0 hn (by decide) (fun _ _ _ _ => by decide)) rp_go_come ⟨rfl, rfl⟩ ⟨Nat.le_of_ble_eq_true rfl, Nat.le_of_ble_eq_true rfl⟩ rfl rfl 0 rfl rfl hl.1 rfl (Nat.le_of_ble_eq_true rfl) dX1_go_51 ⟨Nat.zero_le _, Nat.zero_le _⟩ hK hP hD hS hA (fun u H locs p51 hP hD hS => ?_)
    obtain ⟨se_51, pl_51, hg_51⟩ := u
    have hP : va_P D vwCl (rfW h k (nI nv) vP vO vG (nI np) pD mV mF mM pX pY se_51 pl_51 (nI hg_51)) H := hP
    have hD : va_D A (rfW h k (nI nv) vP vO vG (nI np) pD mV mF mM pX pY se_51 pl_51 (nI hg_51)) := hD
    try dsimp only at p51
    refine lq_g2 hx hb hml hown hts hA hK (x := x) (q := q) (w0 := 0) (nv := nv) hn ?_ _ hg_51 se_51 pl_51 _ _ ls (Rv_begin hn (Or.inr ⟨rfl, gv_no1 (pt_out rfl (by omega) p31 c34)⟩) hse p51) (Nat.lt_succ_self _) hP hD hS (lv_sub hl [0, 1, 2] rfl)
    intro hN9 se9 pl9 H locs ls hR9 hP hD hS hl
    have hGo := Rv_end hn (Or.inr ⟨rfl, gv_no1 (pt_out rfl (by omega) p31 c34)⟩) hR9
    exact ret_v hx hb hr hlocks hK hP hD hS dX1_go_204 (se9, pl9, hN9) rfl (hGo)
  · -- 34 f eq 
    obtain ⟨v, hv, hxv⟩ := pt_in rfl (by omega) p31 c34
    rw [hxv] at hl
    refine lv_aload_n hx hb dX1_go_37 rfl (lv_at hl 0 rfl) ?_
    refine rf_g_vG hx hb hts hin hown hK hP (by decide +kernel) dX1_go_38 ?_
    refine lv_iload_n hx hb dX1_go_41 rfl (lv_at hl 1 rfl) ?_
    refine rf_l_vG (n := v) hx hb hK hP (by omega) dX1_go_42 ?_
    refine lv_if_eq (tgt := 50) hx hb dX1_go_43 (by decide) (fun c43 => ?_) (fun c43 => ?_)
    · -- 43 t eq 
      refine lv_iconst (v := nI 0) hx hb dX1_go_50 (by decide) ?_
      rw [← hxv] at hl
      refine call_vv (As := [.int (nI 0), .int (nI 0)]) (rest := []) ⟨hx, hb, hml, hown, hts⟩ (r_come (nI 0) np 0 0 hn (by decide) (fun _ _ _ _ => by decide)) rp_go_come ⟨rfl, rfl⟩ ⟨Nat.le_of_ble_eq_true rfl, Nat.le_of_ble_eq_true rfl⟩ rfl rfl 0 rfl rfl hl.1 rfl (Nat.le_of_ble_eq_true rfl) dX1_go_51 ⟨Nat.zero_le _, Nat.zero_le _⟩ hK hP hD hS hA (fun u H locs p51 hP hD hS => ?_)
      obtain ⟨se_51, pl_51, hg_51⟩ := u
      have hP : va_P D vwCl (rfW h k (nI nv) vP vO vG (nI np) pD mV mF mM pX pY se_51 pl_51 (nI hg_51)) H := hP
      have hD : va_D A (rfW h k (nI nv) vP vO vG (nI np) pD mV mF mM pX pY se_51 pl_51 (nI hg_51)) := hD
      try dsimp only at p51
      refine lq_g2 hx hb hml hown hts hA hK (x := x) (q := q) (w0 := 0) (nv := nv) hn ?_ _ hg_51 se_51 pl_51 _ _ ls (Rv_begin hn (Or.inr ⟨rfl, gv_no2 hnv hv hxv c43⟩) hse p51) (Nat.lt_succ_self _) hP hD hS (lv_sub hl [0, 1, 2] rfl)
      intro hN9 se9 pl9 H locs ls hR9 hP hD hS hl
      have hGo := Rv_end hn (Or.inr ⟨rfl, gv_no2 hnv hv hxv c43⟩) hR9
      exact ret_v hx hb hr hlocks hK hP hD hS dX1_go_204 (se9, pl9, hN9) rfl (hGo)
    · -- 43 f eq 
      refine lv_iconst (v := nI 1) hx hb dX1_go_46 (by decide) ?_
      refine lv_goto (tgt := 51) hx hb dX1_go_47 (by decide) ?_
      rw [← hxv] at hl
      refine call_vv (As := [.int (nI 0), .int (nI 1)]) (rest := []) ⟨hx, hb, hml, hown, hts⟩ (r_come (nI 0) np 0 1 hn (by decide) (fun _ _ _ _ => by decide)) rp_go_come ⟨rfl, rfl⟩ ⟨Nat.le_of_ble_eq_true rfl, Nat.le_of_ble_eq_true rfl⟩ rfl rfl 0 rfl rfl hl.1 rfl (Nat.le_of_ble_eq_true rfl) dX1_go_51 ⟨Nat.zero_le _, Nat.zero_le _⟩ hK hP hD hS hA (fun u H locs p51 hP hD hS => ?_)
      obtain ⟨se_51, pl_51, hg_51⟩ := u
      have hP : va_P D vwCl (rfW h k (nI nv) vP vO vG (nI np) pD mV mF mM pX pY se_51 pl_51 (nI hg_51)) H := hP
      have hD : va_D A (rfW h k (nI nv) vP vO vG (nI np) pD mV mF mM pX pY se_51 pl_51 (nI hg_51)) := hD
      try dsimp only at p51
      refine lq_g2 hx hb hml hown hts hA hK (x := x) (q := q) (w0 := 1) (nv := nv) hn ?_ _ hg_51 se_51 pl_51 _ _ ls (Rv_begin hn (Or.inl ⟨rfl, v, hv, hxv, c43⟩) hse p51) (Nat.lt_succ_self _) hP hD hS (lv_sub hl [0, 1, 2] rfl)
      intro hN9 se9 pl9 H locs ls hR9 hP hD hS hl
      have hGo := Rv_end hn (Or.inl ⟨rfl, v, hv, hxv, c43⟩) hR9
      exact ret_v hx hb hr hlocks hK hP hD hS dX1_go_204 (se9, pl9, hN9) rfl (hGo)

