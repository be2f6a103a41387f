theorem law_ld {p : Program} {l : Launch} {e : Env} {R : Room} {s : State} {m : MethodId} {args : Array Value} {below : List Frame} {meth : Method} {c : Code} {H : Heap} {locs : List Loc} {cells slots : Nat} {Q : State → Prop} {cc : ByteArray} {pc n b L : Nat} {xs : Nat → Int32} {ls : Array Slot} {rest : List Value} {A : Nat → Prop} (hx : p.tables.exec = Jvm.exec) (hb : c.code = cc) (hX : va_X b L xs s s.heap) (hbl : b < s.heap.size) (hbA : ¬ A b) (hS : va_S A s.heap H locs) (hn : n < L) (hL : L < 2 ^ 31) (hdg : decode cc pc = .ok (.iaload, 1)) (kk : W p l e R s m args below meth c H locs cells slots Q (F0 m (pc + 1) ls (.int (xs n) :: rest))) : W p l e R s m args below meth c H locs cells slots Q (F0 m pc ls (.int (nI n) :: .ref b :: rest)) := by
  refine va_sld hx hb hX hbl hbA hS (vp_in_nI hn hL) hdg ?_
  rw [nI_clamp (by omega)]
  exact kk
theorem law_in {L i : Nat} (hL : L ≤ 2560) (hi : i ≤ L) (h : ¬ nI L - 5 < nI i) : i + 5 ≤ L := by
  have h5 := pk_sub_toInt (a := L) (b := 5) (by omega) (by decide)
  rw [i32_lt, show (5 : Int32) = nI 5 from rfl, h5, nI_toInt (by omega)] at h
  omega
theorem sw9 (x : Int32) : x = 0 ∨ x = 1 ∨ x = 2 ∨ x = 3 ∨ x = 4 ∨ x = 5 ∨ x = 6 ∨ x = 7 ∨ x = 8 ∨ (x.toInt < 0 ∨ 8 < x.toInt) := by
  rcases sw6 x with h | h | h | h | h | h | ⟨h, h0, h1, h2, h3, h4, h5⟩
  · exact Or.inl h
  · exact Or.inr (Or.inl h)
  · exact Or.inr (Or.inr (Or.inl h))
  · exact Or.inr (Or.inr (Or.inr (Or.inl h)))
  · exact Or.inr (Or.inr (Or.inr (Or.inr (Or.inl h))))
  · exact Or.inr (Or.inr (Or.inr (Or.inr (Or.inr (Or.inl h)))))
  · by_cases h6 : x = 6
    · exact Or.inr (Or.inr (Or.inr (Or.inr (Or.inr (Or.inr (Or.inl h6))))))
    by_cases h7 : x = 7
    · exact Or.inr (Or.inr (Or.inr (Or.inr (Or.inr (Or.inr (Or.inr (Or.inl h7)))))))
    by_cases h8 : x = 8
    · exact Or.inr (Or.inr (Or.inr (Or.inr (Or.inr (Or.inr (Or.inr (Or.inr (Or.inl h8))))))))
    refine Or.inr (Or.inr (Or.inr (Or.inr (Or.inr (Or.inr (Or.inr (Or.inr (Or.inr ?_))))))))
    have g6 : ¬ x.toInt = 6 := lv_neT h6 rfl
    have g7 : ¬ x.toInt = 7 := lv_neT h7 rfl
    have g8 : ¬ x.toInt = 8 := lv_neT h8 rfl
    omega
theorem cpL_X0_variable : cpV lw_tbl RL 13 RX0 yX0_variable wsX0_variable cX0_variable 5 (some .int) 3 := ⟨gL_law_X0_variable, ⟨_, rfl⟩, by decide +kernel⟩
theorem cpL_X1_variable : cpV lw_tbl RL 17 RX1 yX1_variable wsX1_variable cX1_variable 4 (some .int) 3 := ⟨gL_law_X1_variable, ⟨_, rfl⟩, by decide +kernel⟩
theorem cpL_X0_point : cpV lw_tbl RL 18 RX0 yX0_point wsX0_point cX0_point 6 (some .int) 4 := ⟨gL_law_X0_point, ⟨_, rfl⟩, by decide +kernel⟩
theorem cpL_X1_point : cpV lw_tbl RL 22 RX1 yX1_point wsX1_point cX1_point 6 (some .int) 4 := ⟨gL_law_X1_point, ⟨_, rfl⟩, by decide +kernel⟩
theorem cpL_X0_next : cpV lw_tbl RL 23 RX0 yX0_next wsX0_next cX0_next 4 (some .boolean) 3 := ⟨gL_law_X0_next, ⟨_, rfl⟩, by decide +kernel⟩
theorem cpL_X1_next : cpV lw_tbl RL 27 RX1 yX1_next wsX1_next cX1_next 4 (some .boolean) 3 := ⟨gL_law_X1_next, ⟨_, rfl⟩, by decide +kernel⟩
theorem cpL_X0_isReached : cpV lw_tbl RL 28 RX0 yX0_isReached wsX0_isReached cX0_isReached 2 (some .boolean) 1 := ⟨gL_law_X0_isReached, ⟨_, rfl⟩, by decide +kernel⟩
theorem cpL_X1_isReached : cpV lw_tbl RL 32 RX1 yX1_isReached wsX1_isReached cX1_isReached 2 (some .boolean) 1 := ⟨gL_law_X1_isReached, ⟨_, rfl⟩, by decide +kernel⟩
theorem cpL_X0_without : cpV lw_tbl RL 33 RX0 yX0_without wsX0_without cX0_without 3 (some .int) 2 := ⟨gL_law_X0_without, ⟨_, rfl⟩, by decide +kernel⟩
theorem cpL_X1_without : cpV lw_tbl RL 37 RX1 yX1_without wsX1_without cX1_without 3 (some .int) 2 := ⟨gL_law_X1_without, ⟨_, rfl⟩, by decide +kernel⟩
theorem cpL_X0_having : cpV lw_tbl RL 38 RX0 yX0_having wsX0_having cX0_having 3 (some .int) 2 := ⟨gL_law_X0_having, ⟨_, rfl⟩, by decide +kernel⟩
theorem cpL_X1_having : cpV lw_tbl RL 41 RX1 yX1_having wsX1_having cX1_having 3 (some .int) 2 := ⟨gL_law_X1_having, ⟨_, rfl⟩, by decide +kernel⟩
theorem cpL_X0_fault : cpV lw_tbl RL 42 RX0 yX0_fault wsX0_fault cX0_fault 2 (some .int) 1 := ⟨gL_law_X0_fault, ⟨_, rfl⟩, by decide +kernel⟩
theorem cpL_X1_fault : cpV lw_tbl RL 46 RX1 yX1_fault wsX1_fault cX1_fault 5 (some .int) 1 := ⟨gL_law_X1_fault, ⟨_, rfl⟩, by decide +kernel⟩
theorem cpL_X0_count : cpV lw_tbl RL 47 RX0 yX0_count wsX0_count cX0_count 2 (some .int) 1 := ⟨gL_law_X0_count, ⟨_, rfl⟩, by decide +kernel⟩
theorem cpL_X1_count : cpV lw_tbl RL 50 RX1 yX1_count wsX1_count cX1_count 8 (some .int) 1 := ⟨gL_law_X1_count, ⟨_, rfl⟩, by decide +kernel⟩
theorem cpL_X0_clear : cpV lw_tbl RL 51 RX0 yX0_clear wsX0_clear cX0_clear 2 (some .int) 0 := ⟨gL_law_X0_clear, ⟨_, rfl⟩, by decide +kernel⟩
theorem cpL_X1_clear : cpV lw_tbl RL 55 RX1 yX1_clear wsX1_clear cX1_clear 2 (some .int) 0 := ⟨gL_law_X1_clear, ⟨_, rfl⟩, by decide +kernel⟩
set_option maxHeartbeats 8000000 in
set_option maxRecDepth 100000 in
/-- THE LAW'S LOOP -/
theorem law_loop {p : Program} {l : Launch} {e : Env} {s : State} {m : MethodId} {below : List Frame} {meth : Method} {c : Code} {D : va_G} {b L : Nat} {xs : Nat → Int32} {h h' : Nat → Nat} {k k' : Nat → ClassId} (hL : L ≤ 2560) (C0 : lw_At p s m meth c b L xs) (hK1 : va_K D vwCl (pfT k) s) (hK2 : va_K D vwCl (rfT k') s) :
    ∀ (n i nv np hN wN hg : Nat) (sv : Int32) (vP vO vG pD pV pB pX pY rc wt iw mV mF mM se pl : Nat → Int32) (ah be : Nat → Int64) (H : Heap) (locs : List Loc) (ls : Array Slot), i ≤ L → L + 1 ≤ i + n → JI nv np vP pD pV pB mV mF mM → ZI nv np vP vG pD pV pB pX pY sv rc iw ah → va_P D vwCl (pfW h k (nI nv) vP vO vG (nI np) pD pV pB pX pY sv rc ah be wt iw (nI hN) (nI wN) ++ rfW h' k' (nI nv) vP vO vG (nI np) pD mV mF mM pX pY se pl (nI hg)) H → va_D (fun q : Nat => s.heap.size ≤ q) (pfW h k (nI nv) vP vO vG (nI np) pD pV pB pX pY sv rc ah be wt iw (nI hN) (nI wN) ++ rfW h' k' (nI nv) vP vO vG (nI np) pD mV mF mM pX pY se pl (nI hg)) → va_S (fun q : Nat => s.heap.size ≤ q) s.heap H locs → lv_has ls 4 [(0, .ref b), (1, .ref (h 0)), (2, .ref (h' 0)), (3, .int (nI i))] → W p l e room_1 s m #[Value.ref b] below meth c H locs 26 3038 (lw_Z below #[Value.ref b] s) (F0 m 18 ls []) := by
  obtain ⟨hx, hb, hr, hml, hown, hts, hX, hbl, hlocks, hgv⟩ := C0
  have hown : s.vm.findClass RL = some m.cls := hown
  have hA : ∀ q : Nat, s.heap.size ≤ q → (fun q : Nat => s.heap.size ≤ q) q := fun _ h => h
  have hbA : ¬ (fun q : Nat => s.heap.size ≤ q) b := Nat.not_le.mpr hbl
  intro n
  induction n with
  | zero =>
    intro i nv np hN wN hg sv vP vO vG pD pV pB pX pY rc wt iw mV mF mM se pl ah be H locs ls h1 h2
    exact absurd h2 (by omega)
  | succ n ih =>
    intro i nv np hN wN hg sv vP vO vG pD pV pB pX pY rc wt iw mV mF mM se pl ah be H locs ls hi hin9 hJ hZ hP hD hS hl
    refine lv_iload_n hx hb dL_law_18 rfl (lv_at hl 3 rfl) ?_
    refine lv_aload_n hx hb dL_law_19 rfl (lv_at hl 0 rfl) ?_
    refine va_slen hx hb hX hbl hbA hS dL_law_20 ?_
    refine lv_iconst (v := 5) hx hb dL_law_21 (by decide) ?_
    refine lv_isub hx hb dL_law_22 ?_
    refine lv_icmp_gt (tgt := 409) hx hb dL_law_23 (by decide) (fun c23 => ?_) (fun c23 => ?_)
    · -- 23 t gt 
      
      refine lv_iconst (v := 1) hx hb dL_law_409 (by decide) ?_
      refine va_forget (fun q hq => hS.2.2 q hq) ?_
      exact lw_ret hx hb hr hlocks dL_law_410
    · -- 23 f gt 
      have n23 : i + 5 ≤ L := law_in hL hi c23
      refine lv_aload_n hx hb dL_law_26 rfl (lv_at hl 0 rfl) ?_
      refine lv_iload_n hx hb dL_law_27 rfl (lv_at hl 3 rfl) ?_
      refine law_ld (n := i) hx hb hX hbl hbA hS (by omega) (by omega) dL_law_28 ?_
      refine lv_bipush (v := 15) hx hb dL_law_29 (by decide) ?_
      refine lv_iand hx hb dL_law_31 ?_
      refine lv_topi (fun sx esx => ?_)
      rcases sw9 sx with rfl | rfl | rfl | rfl | rfl | rfl | rfl | rfl | rfl | hsw
      · refine lv_tableIn (off := 52) (tgt := 84) hx hb dL_law_32 (by decide) (by decide) rfl (by decide) ?_
        refine lv_aload_n hx hb dL_law_84 rfl (lv_at hl 1 rfl) ?_
        refine lv_aload_n hx hb dL_law_85 rfl (lv_at hl 0 rfl) ?_
        refine lv_iload_n hx hb dL_law_86 rfl (lv_at hl 3 rfl) ?_
        refine lv_iconst (v := 1) hx hb dL_law_87 (by decide) ?_
        refine lv_iadd hx hb dL_law_88 ?_
        refine lv_topi (fun x_1 ex_1 => ?_)
        obtain rfl : x_1 = nI (i + 1) := ex_1.trans (nI_add i 1)
        refine law_ld (n := (i + 1)) hx hb hX hbl hbA hS (by omega) (by omega) dL_law_89 ?_
        refine lv_aload_n hx hb dL_law_90 rfl (lv_at hl 0 rfl) ?_
        refine lv_iload_n hx hb dL_law_91 rfl (lv_at hl 3 rfl) ?_
        refine lv_iconst (v := 2) hx hb dL_law_92 (by decide) ?_
        refine lv_iadd hx hb dL_law_93 ?_
        refine lv_topi (fun x_2 ex_2 => ?_)
        obtain rfl : x_2 = nI (i + 2) := ex_2.trans (nI_add i 2)
        refine law_ld (n := (i + 2)) hx hb hX hbl hbA hS (by omega) (by omega) dL_law_94 ?_
        refine lv_if_eq (tgt := 102) hx hb dL_law_95 (by decide) (fun c95 => ?_) (fun c95 => ?_)
        · -- 95 t eq 
          refine lv_iconst (v := 0) hx hb dL_law_102 (by decide) ?_
          refine lv_aload_n hx hb dL_law_103 rfl (lv_at hl 0 rfl) ?_
          refine lv_iload_n hx hb dL_law_104 rfl (lv_at hl 3 rfl) ?_
          refine lv_iconst (v := 3) hx hb dL_law_105 (by decide) ?_
          refine lv_iadd hx hb dL_law_106 ?_
          refine lv_topi (fun x_3 ex_3 => ?_)
          obtain rfl : x_3 = nI (i + 3) := ex_3.trans (nI_add i 3)
          refine law_ld (n := (i + 3)) hx hb hX hbl hbA hS (by omega) (by omega) dL_law_107 ?_
          refine lv_if_eq (tgt := 115) hx hb dL_law_108 (by decide) (fun c108 => ?_) (fun c108 => ?_)
          · -- 108 t eq 
            refine lv_iconst (v := 0) hx hb dL_law_115 (by decide) ?_
            refine callF_vi (As := [.int (xs (i + 1)), .int 0, .int 0]) (rest := []) ⟨hx, hb, hml, hown, hts⟩ (c_variable nv (xs (i + 1)) 0 0 hJ.1 (by decide) (by decide)) cpL_X0_variable ⟨rfl, rfl⟩ ⟨Nat.le_of_ble_eq_true rfl, Nat.le_of_ble_eq_true rfl⟩ rfl rfl 0 rfl rfl hl.1 rfl (Nat.le_of_ble_eq_true rfl) dL_law_116 ⟨Nat.le_of_ble_eq_true rfl, Nat.le_of_ble_eq_true rfl⟩ hK1 hP hD hS hA (fun r116 u H locs p116 hP hD hS => ?_)
            obtain ⟨vc_116, vP_116, vO_116, vG_116, sv_116⟩ := u
            have hP : va_P D vwCl (pfW h k (nI vc_116) vP_116 vO_116 vG_116 (nI np) pD pV pB pX pY sv_116 rc ah be wt iw (nI hN) (nI wN) ++ rfW h' k' (nI nv) vP vO vG (nI np) pD mV mF mM pX pY se pl (nI hg)) H := hP
            have hD : va_D (fun q : Nat => s.heap.size ≤ q) (pfW h k (nI vc_116) vP_116 vO_116 vG_116 (nI np) pD pV pB pX pY sv_116 rc ah be wt iw (nI hN) (nI wN) ++ rfW h' k' (nI nv) vP vO vG (nI np) pD mV mF mM pX pY se pl (nI hg)) := hD
            try dsimp only at p116
            refine lv_aload_n hx hb dL_law_119 rfl (lv_at hl 2 rfl) ?_
            refine lv_aload_n hx hb dL_law_120 rfl (lv_at hl 0 rfl) ?_
            refine lv_iload_n hx hb dL_law_121 rfl (lv_at hl 3 rfl) ?_
            refine lv_iconst (v := 1) hx hb dL_law_122 (by decide) ?_
            refine lv_iadd hx hb dL_law_123 ?_
            refine lv_topi (fun x_4 ex_4 => ?_)
            obtain rfl : x_4 = nI (i + 1) := ex_4.trans (nI_add i 1)
            refine law_ld (n := (i + 1)) hx hb hX hbl hbA hS (by omega) (by omega) dL_law_124 ?_
            refine lv_aload_n hx hb dL_law_125 rfl (lv_at hl 0 rfl) ?_
            refine lv_iload_n hx hb dL_law_126 rfl (lv_at hl 3 rfl) ?_
            refine lv_iconst (v := 2) hx hb dL_law_127 (by decide) ?_
            refine lv_iadd hx hb dL_law_128 ?_
            refine lv_topi (fun x_5 ex_5 => ?_)
            obtain rfl : x_5 = nI (i + 2) := ex_5.trans (nI_add i 2)
            refine law_ld (n := (i + 2)) hx hb hX hbl hbA hS (by omega) (by omega) dL_law_129 ?_
            refine lv_if_eq (tgt := 137) hx hb dL_law_130 (by decide) (fun c130 => ?_) (fun c130 => ?_)
            · -- 130 t eq 
              refine lv_iconst (v := 0) hx hb dL_law_137 (by decide) ?_
              refine lv_aload_n hx hb dL_law_138 rfl (lv_at hl 0 rfl) ?_
              refine lv_iload_n hx hb dL_law_139 rfl (lv_at hl 3 rfl) ?_
              refine lv_iconst (v := 3) hx hb dL_law_140 (by decide) ?_
              refine lv_iadd hx hb dL_law_141 ?_
              refine lv_topi (fun x_6 ex_6 => ?_)
              obtain rfl : x_6 = nI (i + 3) := ex_6.trans (nI_add i 3)
              refine law_ld (n := (i + 3)) hx hb hX hbl hbA hS (by omega) (by omega) dL_law_142 ?_
              refine lv_if_eq (tgt := 150) hx hb dL_law_143 (by decide) (fun c143 => ?_) (fun c143 => ?_)
              · -- 143 t eq 
                refine lv_iconst (v := 0) hx hb dL_law_150 (by decide) ?_
                refine callG_vi (As := [.int (xs (i + 1)), .int 0, .int 0]) (rest := [.int r116]) ⟨hx, hb, hml, hown, hts⟩ (r_variable nv (xs (i + 1)) 0 0 hJ.1 (by decide) (by decide)) cpL_X1_variable ⟨rfl, rfl⟩ ⟨Nat.le_of_ble_eq_true rfl, Nat.le_of_ble_eq_true rfl⟩ rfl rfl 0 rfl rfl hl.1 rfl (Nat.le_of_ble_eq_true rfl) dL_law_151 ⟨Nat.le_of_ble_eq_true rfl, Nat.le_of_ble_eq_true rfl⟩ hK2 hP hD hS hA (fun r151 u H locs p151 hP hD hS => ?_)
                obtain ⟨vc_151, vP_151, vO_151, vG_151⟩ := u
                have hP : va_P D vwCl (pfW h k (nI vc_116) vP_116 vO_116 vG_116 (nI np) pD pV pB pX pY sv_116 rc ah be wt iw (nI hN) (nI wN) ++ rfW h' k' (nI vc_151) vP_151 vO_151 vG_151 (nI np) pD mV mF mM pX pY se pl (nI hg)) H := hP
                have hD : va_D (fun q : Nat => s.heap.size ≤ q) (pfW h k (nI vc_116) vP_116 vO_116 vG_116 (nI np) pD pV pB pX pY sv_116 rc ah be wt iw (nI hN) (nI wN) ++ rfW h' k' (nI vc_151) vP_151 vO_151 vG_151 (nI np) pD mV mF mM pX pY se pl (nI hg)) := hD
                try dsimp only at p151
                refine lv_icmp_eq (tgt := 403) hx hb dL_law_154 (by decide) (fun c154 => ?_) (fun c154 => ?_)
                · -- 154 t eq 
                  obtain ⟨hr9, rfl, rfl, rfl, rfl, hJ9, hZ9⟩ := op_variable hJ hZ p116 p151
                  refine lv_iinc (v := nI (i + 5)) (lv' := [(3, .int (nI (i + 5))), (0, .ref b), (1, .ref (h 0)), (2, .ref (h' 0))]) hx hb dL_law_403 hl (k := 3) rfl (nI_add i 5) (by decide) rfl (fun ls hl => ?_)
                  refine lv_goto (tgt := 18) hx hb dL_law_406 (by decide) ?_
                  exact ih (i + 5) _ _ _ _ _ _ _ _ _ _ _ _ _ _ _ _ _ _ _ _ _ _ _ _ _ _ ls (by omega) (by omega) hJ9 hZ9 hP hD hS (lv_sub hl [1, 2, 3, 0] rfl)
                · -- 154 f eq 
                  exact absurd (op_variable hJ hZ p116 p151).1 c154
              · -- 143 f eq 
                exact absurd c108 c143
            · -- 130 f eq 
              exact absurd c95 c130
          · -- 108 f eq 
            refine lv_iconst (v := 1) hx hb dL_law_111 (by decide) ?_
            refine lv_goto (tgt := 116) hx hb dL_law_112 (by decide) ?_
            refine callF_vi (As := [.int (xs (i + 1)), .int 0, .int 1]) (rest := []) ⟨hx, hb, hml, hown, hts⟩ (c_variable nv (xs (i + 1)) 0 1 hJ.1 (by decide) (by decide)) cpL_X0_variable ⟨rfl, rfl⟩ ⟨Nat.le_of_ble_eq_true rfl, Nat.le_of_ble_eq_true rfl⟩ rfl rfl 0 rfl rfl hl.1 rfl (Nat.le_of_ble_eq_true rfl) dL_law_116 ⟨Nat.le_of_ble_eq_true rfl, Nat.le_of_ble_eq_true rfl⟩ hK1 hP hD hS hA (fun r116 u H locs p116 hP hD hS => ?_)
            obtain ⟨vc_116, vP_116, vO_116, vG_116, sv_116⟩ := u
            have hP : va_P D vwCl (pfW h k (nI vc_116) vP_116 vO_116 vG_116 (nI np) pD pV pB pX pY sv_116 rc ah be wt iw (nI hN) (nI wN) ++ rfW h' k' (nI nv) vP vO vG (nI np) pD mV mF mM pX pY se pl (nI hg)) H := hP
            have hD : va_D (fun q : Nat => s.heap.size ≤ q) (pfW h k (nI vc_116) vP_116 vO_116 vG_116 (nI np) pD pV pB pX pY sv_116 rc ah be wt iw (nI hN) (nI wN) ++ rfW h' k' (nI nv) vP vO vG (nI np) pD mV mF mM pX pY se pl (nI hg)) := hD
            try dsimp only at p116
            refine lv_aload_n hx hb dL_law_119 rfl (lv_at hl 2 rfl) ?_
            refine lv_aload_n hx hb dL_law_120 rfl (lv_at hl 0 rfl) ?_
            refine lv_iload_n hx hb dL_law_121 rfl (lv_at hl 3 rfl) ?_
            refine lv_iconst (v := 1) hx hb dL_law_122 (by decide) ?_
            refine lv_iadd hx hb dL_law_123 ?_
            refine lv_topi (fun x_7 ex_7 => ?_)
            obtain rfl : x_7 = nI (i + 1) := ex_7.trans (nI_add i 1)
            refine law_ld (n := (i + 1)) hx hb hX hbl hbA hS (by omega) (by omega) dL_law_124 ?_
            refine lv_aload_n hx hb dL_law_125 rfl (lv_at hl 0 rfl) ?_
            refine lv_iload_n hx hb dL_law_126 rfl (lv_at hl 3 rfl) ?_
            refine lv_iconst (v := 2) hx hb dL_law_127 (by decide) ?_
            refine lv_iadd hx hb dL_law_128 ?_
            refine lv_topi (fun x_8 ex_8 => ?_)
            obtain rfl : x_8 = nI (i + 2) := ex_8.trans (nI_add i 2)
            refine law_ld (n := (i + 2)) hx hb hX hbl hbA hS (by omega) (by omega) dL_law_129 ?_
            refine lv_if_eq (tgt := 137) hx hb dL_law_130 (by decide) (fun c130 => ?_) (fun c130 => ?_)
            · -- 130 t eq 
              refine lv_iconst (v := 0) hx hb dL_law_137 (by decide) ?_
              refine lv_aload_n hx hb dL_law_138 rfl (lv_at hl 0 rfl) ?_
              refine lv_iload_n hx hb dL_law_139 rfl (lv_at hl 3 rfl) ?_
              refine lv_iconst (v := 3) hx hb dL_law_140 (by decide) ?_
              refine lv_iadd hx hb dL_law_141 ?_
              refine lv_topi (fun x_9 ex_9 => ?_)
              obtain rfl : x_9 = nI (i + 3) := ex_9.trans (nI_add i 3)
              refine law_ld (n := (i + 3)) hx hb hX hbl hbA hS (by omega) (by omega) dL_law_142 ?_
              refine lv_if_eq (tgt := 150) hx hb dL_law_143 (by decide) (fun c143 => ?_) (fun c143 => ?_)
              · -- 143 t eq 
                exact absurd c143 c108
              · -- 143 f eq 
                refine lv_iconst (v := 1) hx hb dL_law_146 (by decide) ?_
                refine lv_goto (tgt := 151) hx hb dL_law_147 (by decide) ?_
                refine callG_vi (As := [.int (xs (i + 1)), .int 0, .int 1]) (rest := [.int r116]) ⟨hx, hb, hml, hown, hts⟩ (r_variable nv (xs (i + 1)) 0 1 hJ.1 (by decide) (by decide)) cpL_X1_variable ⟨rfl, rfl⟩ ⟨Nat.le_of_ble_eq_true rfl, Nat.le_of_ble_eq_true rfl⟩ rfl rfl 0 rfl rfl hl.1 rfl (Nat.le_of_ble_eq_true rfl) dL_law_151 ⟨Nat.le_of_ble_eq_true rfl, Nat.le_of_ble_eq_true rfl⟩ hK2 hP hD hS hA (fun r151 u H locs p151 hP hD hS => ?_)
                obtain ⟨vc_151, vP_151, vO_151, vG_151⟩ := u
                have hP : va_P D vwCl (pfW h k (nI vc_116) vP_116 vO_116 vG_116 (nI np) pD pV pB pX pY sv_116 rc ah be wt iw (nI hN) (nI wN) ++ rfW h' k' (nI vc_151) vP_151 vO_151 vG_151 (nI np) pD mV mF mM pX pY se pl (nI hg)) H := hP
                have hD : va_D (fun q : Nat => s.heap.size ≤ q) (pfW h k (nI vc_116) vP_116 vO_116 vG_116 (nI np) pD pV pB pX pY sv_116 rc ah be wt iw (nI hN) (nI wN) ++ rfW h' k' (nI vc_151) vP_151 vO_151 vG_151 (nI np) pD mV mF mM pX pY se pl (nI hg)) := hD
                try dsimp only at p151
                refine lv_icmp_eq (tgt := 403) hx hb dL_law_154 (by decide) (fun c154 => ?_) (fun c154 => ?_)
                · -- 154 t eq 
                  obtain ⟨hr9, rfl, rfl, rfl, rfl, hJ9, hZ9⟩ := op_variable hJ hZ p116 p151
                  refine lv_iinc (v := nI (i + 5)) (lv' := [(3, .int (nI (i + 5))), (0, .ref b), (1, .ref (h 0)), (2, .ref (h' 0))]) hx hb dL_law_403 hl (k := 3) rfl (nI_add i 5) (by decide) rfl (fun ls hl => ?_)
                  refine lv_goto (tgt := 18) hx hb dL_law_406 (by decide) ?_
                  exact ih (i + 5) _ _ _ _ _ _ _ _ _ _ _ _ _ _ _ _ _ _ _ _ _ _ _ _ _ _ ls (by omega) (by omega) hJ9 hZ9 hP hD hS (lv_sub hl [1, 2, 3, 0] rfl)
                · -- 154 f eq 
                  exact absurd (op_variable hJ hZ p116 p151).1 c154
            · -- 130 f eq 
              exact absurd c95 c130
        · -- 95 f eq 
          refine lv_iconst (v := 1) hx hb dL_law_98 (by decide) ?_
          refine lv_goto (tgt := 103) hx hb dL_law_99 (by decide) ?_
          refine lv_aload_n hx hb dL_law_103 rfl (lv_at hl 0 rfl) ?_
          refine lv_iload_n hx hb dL_law_104 rfl (lv_at hl 3 rfl) ?_
          refine lv_iconst (v := 3) hx hb dL_law_105 (by decide) ?_
          refine lv_iadd hx hb dL_law_106 ?_
          refine lv_topi (fun x_10 ex_10 => ?_)
          obtain rfl : x_10 = nI (i + 3) := ex_10.trans (nI_add i 3)
          refine law_ld (n := (i + 3)) hx hb hX hbl hbA hS (by omega) (by omega) dL_law_107 ?_
          refine lv_if_eq (tgt := 115) hx hb dL_law_108 (by decide) (fun c108 => ?_) (fun c108 => ?_)
          · -- 108 t eq 
            refine lv_iconst (v := 0) hx hb dL_law_115 (by decide) ?_
            refine callF_vi (As := [.int (xs (i + 1)), .int 1, .int 0]) (rest := []) ⟨hx, hb, hml, hown, hts⟩ (c_variable nv (xs (i + 1)) 1 0 hJ.1 (by decide) (by decide)) cpL_X0_variable ⟨rfl, rfl⟩ ⟨Nat.le_of_ble_eq_true rfl, Nat.le_of_ble_eq_true rfl⟩ rfl rfl 0 rfl rfl hl.1 rfl (Nat.le_of_ble_eq_true rfl) dL_law_116 ⟨Nat.le_of_ble_eq_true rfl, Nat.le_of_ble_eq_true rfl⟩ hK1 hP hD hS hA (fun r116 u H locs p116 hP hD hS => ?_)
            obtain ⟨vc_116, vP_116, vO_116, vG_116, sv_116⟩ := u
            have hP : va_P D vwCl (pfW h k (nI vc_116) vP_116 vO_116 vG_116 (nI np) pD pV pB pX pY sv_116 rc ah be wt iw (nI hN) (nI wN) ++ rfW h' k' (nI nv) vP vO vG (nI np) pD mV mF mM pX pY se pl (nI hg)) H := hP
            have hD : va_D (fun q : Nat => s.heap.size ≤ q) (pfW h k (nI vc_116) vP_116 vO_116 vG_116 (nI np) pD pV pB pX pY sv_116 rc ah be wt iw (nI hN) (nI wN) ++ rfW h' k' (nI nv) vP vO vG (nI np) pD mV mF mM pX pY se pl (nI hg)) := hD
            try dsimp only at p116
            refine lv_aload_n hx hb dL_law_119 rfl (lv_at hl 2 rfl) ?_
            refine lv_aload_n hx hb dL_law_120 rfl (lv_at hl 0 rfl) ?_
            refine lv_iload_n hx hb dL_law_121 rfl (lv_at hl 3 rfl) ?_
            refine lv_iconst (v := 1) hx hb dL_law_122 (by decide) ?_
            refine lv_iadd hx hb dL_law_123 ?_
            refine lv_topi (fun x_11 ex_11 => ?_)
            obtain rfl : x_11 = nI (i + 1) := ex_11.trans (nI_add i 1)
            refine law_ld (n := (i + 1)) hx hb hX hbl hbA hS (by omega) (by omega) dL_law_124 ?_
            refine lv_aload_n hx hb dL_law_125 rfl (lv_at hl 0 rfl) ?_
            refine lv_iload_n hx hb dL_law_126 rfl (lv_at hl 3 rfl) ?_
            refine lv_iconst (v := 2) hx hb dL_law_127 (by decide) ?_
            refine lv_iadd hx hb dL_law_128 ?_
            refine lv_topi (fun x_12 ex_12 => ?_)
            obtain rfl : x_12 = nI (i + 2) := ex_12.trans (nI_add i 2)
            refine law_ld (n := (i + 2)) hx hb hX hbl hbA hS (by omega) (by omega) dL_law_129 ?_
            refine lv_if_eq (tgt := 137) hx hb dL_law_130 (by decide) (fun c130 => ?_) (fun c130 => ?_)
            · -- 130 t eq 
              exact absurd c130 c95
            · -- 130 f eq 
              refine lv_iconst (v := 1) hx hb dL_law_133 (by decide) ?_
              refine lv_goto (tgt := 138) hx hb dL_law_134 (by decide) ?_
              refine lv_aload_n hx hb dL_law_138 rfl (lv_at hl 0 rfl) ?_
              refine lv_iload_n hx hb dL_law_139 rfl (lv_at hl 3 rfl) ?_
              refine lv_iconst (v := 3) hx hb dL_law_140 (by decide) ?_
              refine lv_iadd hx hb dL_law_141 ?_
              refine lv_topi (fun x_13 ex_13 => ?_)
              obtain rfl : x_13 = nI (i + 3) := ex_13.trans (nI_add i 3)
              refine law_ld (n := (i + 3)) hx hb hX hbl hbA hS (by omega) (by omega) dL_law_142 ?_
              refine lv_if_eq (tgt := 150) hx hb dL_law_143 (by decide) (fun c143 => ?_) (fun c143 => ?_)
              · -- 143 t eq 
                refine lv_iconst (v := 0) hx hb dL_law_150 (by decide) ?_
                refine callG_vi (As := [.int (xs (i + 1)), .int 1, .int 0]) (rest := [.int r116]) ⟨hx, hb, hml, hown, hts⟩ (r_variable nv (xs (i + 1)) 1 0 hJ.1 (by decide) (by decide)) cpL_X1_variable ⟨rfl, rfl⟩ ⟨Nat.le_of_ble_eq_true rfl, Nat.le_of_ble_eq_true rfl⟩ rfl rfl 0 rfl rfl hl.1 rfl (Nat.le_of_ble_eq_true rfl) dL_law_151 ⟨Nat.le_of_ble_eq_true rfl, Nat.le_of_ble_eq_true rfl⟩ hK2 hP hD hS hA (fun r151 u H locs p151 hP hD hS => ?_)
                obtain ⟨vc_151, vP_151, vO_151, vG_151⟩ := u
                have hP : va_P D vwCl (pfW h k (nI vc_116) vP_116 vO_116 vG_116 (nI np) pD pV pB pX pY sv_116 rc ah be wt iw (nI hN) (nI wN) ++ rfW h' k' (nI vc_151) vP_151 vO_151 vG_151 (nI np) pD mV mF mM pX pY se pl (nI hg)) H := hP
                have hD : va_D (fun q : Nat => s.heap.size ≤ q) (pfW h k (nI vc_116) vP_116 vO_116 vG_116 (nI np) pD pV pB pX pY sv_116 rc ah be wt iw (nI hN) (nI wN) ++ rfW h' k' (nI vc_151) vP_151 vO_151 vG_151 (nI np) pD mV mF mM pX pY se pl (nI hg)) := hD
                try dsimp only at p151
                refine lv_icmp_eq (tgt := 403) hx hb dL_law_154 (by decide) (fun c154 => ?_) (fun c154 => ?_)
                · -- 154 t eq 
                  obtain ⟨hr9, rfl, rfl, rfl, rfl, hJ9, hZ9⟩ := op_variable hJ hZ p116 p151
                  refine lv_iinc (v := nI (i + 5)) (lv' := [(3, .int (nI (i + 5))), (0, .ref b), (1, .ref (h 0)), (2, .ref (h' 0))]) hx hb dL_law_403 hl (k := 3) rfl (nI_add i 5) (by decide) rfl (fun ls hl => ?_)
                  refine lv_goto (tgt := 18) hx hb dL_law_406 (by decide) ?_
                  exact ih (i + 5) _ _ _ _ _ _ _ _ _ _ _ _ _ _ _ _ _ _ _ _ _ _ _ _ _ _ ls (by omega) (by omega) hJ9 hZ9 hP hD hS (lv_sub hl [1, 2, 3, 0] rfl)
                · -- 154 f eq 
                  exact absurd (op_variable hJ hZ p116 p151).1 c154
              · -- 143 f eq 
                exact absurd c108 c143
          · -- 108 f eq 
            refine lv_iconst (v := 1) hx hb dL_law_111 (by decide) ?_
            refine lv_goto (tgt := 116) hx hb dL_law_112 (by decide) ?_
            refine callF_vi (As := [.int (xs (i + 1)), .int 1, .int 1]) (rest := []) ⟨hx, hb, hml, hown, hts⟩ (c_variable nv (xs (i + 1)) 1 1 hJ.1 (by decide) (by decide)) cpL_X0_variable ⟨rfl, rfl⟩ ⟨Nat.le_of_ble_eq_true rfl, Nat.le_of_ble_eq_true rfl⟩ rfl rfl 0 rfl rfl hl.1 rfl (Nat.le_of_ble_eq_true rfl) dL_law_116 ⟨Nat.le_of_ble_eq_true rfl, Nat.le_of_ble_eq_true rfl⟩ hK1 hP hD hS hA (fun r116 u H locs p116 hP hD hS => ?_)
            obtain ⟨vc_116, vP_116, vO_116, vG_116, sv_116⟩ := u
            have hP : va_P D vwCl (pfW h k (nI vc_116) vP_116 vO_116 vG_116 (nI np) pD pV pB pX pY sv_116 rc ah be wt iw (nI hN) (nI wN) ++ rfW h' k' (nI nv) vP vO vG (nI np) pD mV mF mM pX pY se pl (nI hg)) H := hP
            have hD : va_D (fun q : Nat => s.heap.size ≤ q) (pfW h k (nI vc_116) vP_116 vO_116 vG_116 (nI np) pD pV pB pX pY sv_116 rc ah be wt iw (nI hN) (nI wN) ++ rfW h' k' (nI nv) vP vO vG (nI np) pD mV mF mM pX pY se pl (nI hg)) := hD
            try dsimp only at p116
            refine lv_aload_n hx hb dL_law_119 rfl (lv_at hl 2 rfl) ?_
            refine lv_aload_n hx hb dL_law_120 rfl (lv_at hl 0 rfl) ?_
            refine lv_iload_n hx hb dL_law_121 rfl (lv_at hl 3 rfl) ?_
            refine lv_iconst (v := 1) hx hb dL_law_122 (by decide) ?_
            refine lv_iadd hx hb dL_law_123 ?_
            refine lv_topi (fun x_14 ex_14 => ?_)
            obtain rfl : x_14 = nI (i + 1) := ex_14.trans (nI_add i 1)
            refine law_ld (n := (i + 1)) hx hb hX hbl hbA hS (by omega) (by omega) dL_law_124 ?_
            refine lv_aload_n hx hb dL_law_125 rfl (lv_at hl 0 rfl) ?_
            refine lv_iload_n hx hb dL_law_126 rfl (lv_at hl 3 rfl) ?_
            refine lv_iconst (v := 2) hx hb dL_law_127 (by decide) ?_
            refine lv_iadd hx hb dL_law_128 ?_
            refine lv_topi (fun x_15 ex_15 => ?_)
            obtain rfl : x_15 = nI (i + 2) := ex_15.trans (nI_add i 2)
            refine law_ld (n := (i + 2)) hx hb hX hbl hbA hS (by omega) (by omega) dL_law_129 ?_
            refine lv_if_eq (tgt := 137) hx hb dL_law_130 (by decide) (fun c130 => ?_) (fun c130 => ?_)
            · -- 130 t eq 
              exact absurd c130 c95
            · -- 130 f eq 
              refine lv_iconst (v := 1) hx hb dL_law_133 (by decide) ?_
              refine lv_goto (tgt := 138) hx hb dL_law_134 (by decide) ?_
              refine lv_aload_n hx hb dL_law_138 rfl (lv_at hl 0 rfl) ?_
              refine lv_iload_n hx hb dL_law_139 rfl (lv_at hl 3 rfl) ?_
              refine lv_iconst (v := 3) hx hb dL_law_140 (by decide) ?_
              refine lv_iadd hx hb dL_law_141 ?_
              refine lv_topi (fun x_16 ex_16 => ?_)
              obtain rfl : x_16 = nI (i + 3) := ex_16.trans (nI_add i 3)
              refine law_ld (n := (i + 3)) hx hb hX hbl hbA hS (by omega) (by omega) dL_law_142 ?_
              refine lv_if_eq (tgt := 150) hx hb dL_law_143 (by decide) (fun c143 => ?_) (fun c143 => ?_)
              · -- 143 t eq 
                exact absurd c143 c108
              · -- 143 f eq 
                refine lv_iconst (v := 1) hx hb dL_law_146 (by decide) ?_
                refine lv_goto (tgt := 151) hx hb dL_law_147 (by decide) ?_
                refine callG_vi (As := [.int (xs (i + 1)), .int 1, .int 1]) (rest := [.int r116]) ⟨hx, hb, hml, hown, hts⟩ (r_variable nv (xs (i + 1)) 1 1 hJ.1 (by decide) (by decide)) cpL_X1_variable ⟨rfl, rfl⟩ ⟨Nat.le_of_ble_eq_true rfl, Nat.le_of_ble_eq_true rfl⟩ rfl rfl 0 rfl rfl hl.1 rfl (Nat.le_of_ble_eq_true rfl) dL_law_151 ⟨Nat.le_of_ble_eq_true rfl, Nat.le_of_ble_eq_true rfl⟩ hK2 hP hD hS hA (fun r151 u H locs p151 hP hD hS => ?_)
                obtain ⟨vc_151, vP_151, vO_151, vG_151⟩ := u
                have hP : va_P D vwCl (pfW h k (nI vc_116) vP_116 vO_116 vG_116 (nI np) pD pV pB pX pY sv_116 rc ah be wt iw (nI hN) (nI wN) ++ rfW h' k' (nI vc_151) vP_151 vO_151 vG_151 (nI np) pD mV mF mM pX pY se pl (nI hg)) H := hP
                have hD : va_D (fun q : Nat => s.heap.size ≤ q) (pfW h k (nI vc_116) vP_116 vO_116 vG_116 (nI np) pD pV pB pX pY sv_116 rc ah be wt iw (nI hN) (nI wN) ++ rfW h' k' (nI vc_151) vP_151 vO_151 vG_151 (nI np) pD mV mF mM pX pY se pl (nI hg)) := hD
                try dsimp only at p151
                refine lv_icmp_eq (tgt := 403) hx hb dL_law_154 (by decide) (fun c154 => ?_) (fun c154 => ?_)
                · -- 154 t eq 
                  obtain ⟨hr9, rfl, rfl, rfl, rfl, hJ9, hZ9⟩ := op_variable hJ hZ p116 p151
                  refine lv_iinc (v := nI (i + 5)) (lv' := [(3, .int (nI (i + 5))), (0, .ref b), (1, .ref (h 0)), (2, .ref (h' 0))]) hx hb dL_law_403 hl (k := 3) rfl (nI_add i 5) (by decide) rfl (fun ls hl => ?_)
                  refine lv_goto (tgt := 18) hx hb dL_law_406 (by decide) ?_
                  exact ih (i + 5) _ _ _ _ _ _ _ _ _ _ _ _ _ _ _ _ _ _ _ _ _ _ _ _ _ _ ls (by omega) (by omega) hJ9 hZ9 hP hD hS (lv_sub hl [1, 2, 3, 0] rfl)
                · -- 154 f eq 
                  exact absurd (op_variable hJ hZ p116 p151).1 c154
      · refine lv_tableIn (off := 127) (tgt := 159) hx hb dL_law_32 (by decide) (by decide) rfl (by decide) ?_
        refine lv_aload_n hx hb dL_law_159 rfl (lv_at hl 1 rfl) ?_
        refine lv_aload_n hx hb dL_law_160 rfl (lv_at hl 0 rfl) ?_
        refine lv_iload_n hx hb dL_law_161 rfl (lv_at hl 3 rfl) ?_
        refine lv_iconst (v := 1) hx hb dL_law_162 (by decide) ?_
        refine lv_iadd hx hb dL_law_163 ?_
        refine lv_topi (fun x_17 ex_17 => ?_)
        obtain rfl : x_17 = nI (i + 1) := ex_17.trans (nI_add i 1)
        refine law_ld (n := (i + 1)) hx hb hX hbl hbA hS (by omega) (by omega) dL_law_164 ?_
        refine lv_aload_n hx hb dL_law_165 rfl (lv_at hl 0 rfl) ?_
        refine lv_iload_n hx hb dL_law_166 rfl (lv_at hl 3 rfl) ?_
        refine lv_iconst (v := 2) hx hb dL_law_167 (by decide) ?_
        refine lv_iadd hx hb dL_law_168 ?_
        refine lv_topi (fun x_18 ex_18 => ?_)
        obtain rfl : x_18 = nI (i + 2) := ex_18.trans (nI_add i 2)
        refine law_ld (n := (i + 2)) hx hb hX hbl hbA hS (by omega) (by omega) dL_law_169 ?_
        refine lv_aload_n hx hb dL_law_170 rfl (lv_at hl 0 rfl) ?_
        refine lv_iload_n hx hb dL_law_171 rfl (lv_at hl 3 rfl) ?_
        refine lv_iconst (v := 3) hx hb dL_law_172 (by decide) ?_
        refine lv_iadd hx hb dL_law_173 ?_
        refine lv_topi (fun x_19 ex_19 => ?_)
        obtain rfl : x_19 = nI (i + 3) := ex_19.trans (nI_add i 3)
        refine law_ld (n := (i + 3)) hx hb hX hbl hbA hS (by omega) (by omega) dL_law_174 ?_
        refine lv_aload_n hx hb dL_law_175 rfl (lv_at hl 0 rfl) ?_
        refine lv_iload_n hx hb dL_law_176 rfl (lv_at hl 3 rfl) ?_
        refine lv_iconst (v := 4) hx hb dL_law_177 (by decide) ?_
        refine lv_iadd hx hb dL_law_178 ?_
        refine lv_topi (fun x_20 ex_20 => ?_)
        obtain rfl : x_20 = nI (i + 4) := ex_20.trans (nI_add i 4)
        refine law_ld (n := (i + 4)) hx hb hX hbl hbA hS (by omega) (by omega) dL_law_179 ?_
        refine callF_vi (As := [.int (xs (i + 1)), .int (xs (i + 2)), .int (xs (i + 3)), .int (xs (i + 4))]) (rest := []) ⟨hx, hb, hml, hown, hts⟩ (c_point nv np (xs (i + 1)) (xs (i + 2)) (xs (i + 3)) (xs (i + 4)) hJ.1 hJ.2.1) cpL_X0_point ⟨rfl, rfl⟩ ⟨Nat.le_of_ble_eq_true rfl, Nat.le_of_ble_eq_true rfl⟩ rfl rfl 0 rfl rfl hl.1 rfl (Nat.le_of_ble_eq_true rfl) dL_law_180 ⟨Nat.le_of_ble_eq_true rfl, Nat.le_of_ble_eq_true rfl⟩ hK1 hP hD hS hA (fun r180 u H locs p180 hP hD hS => ?_)
        obtain ⟨pn_180, pD_180, pV_180, pB_180, pX_180, pY_180, sv_180⟩ := u
        have hP : va_P D vwCl (pfW h k (nI nv) vP vO vG (nI pn_180) pD_180 pV_180 pB_180 pX_180 pY_180 sv_180 rc ah be wt iw (nI hN) (nI wN) ++ rfW h' k' (nI nv) vP vO vG (nI np) pD mV mF mM pX pY se pl (nI hg)) H := hP
        have hD : va_D (fun q : Nat => s.heap.size ≤ q) (pfW h k (nI nv) vP vO vG (nI pn_180) pD_180 pV_180 pB_180 pX_180 pY_180 sv_180 rc ah be wt iw (nI hN) (nI wN) ++ rfW h' k' (nI nv) vP vO vG (nI np) pD mV mF mM pX pY se pl (nI hg)) := hD
        try dsimp only at p180
        refine lv_aload_n hx hb dL_law_183 rfl (lv_at hl 2 rfl) ?_
        refine lv_aload_n hx hb dL_law_184 rfl (lv_at hl 0 rfl) ?_
        refine lv_iload_n hx hb dL_law_185 rfl (lv_at hl 3 rfl) ?_
        refine lv_iconst (v := 1) hx hb dL_law_186 (by decide) ?_
        refine lv_iadd hx hb dL_law_187 ?_
        refine lv_topi (fun x_21 ex_21 => ?_)
        obtain rfl : x_21 = nI (i + 1) := ex_21.trans (nI_add i 1)
        refine law_ld (n := (i + 1)) hx hb hX hbl hbA hS (by omega) (by omega) dL_law_188 ?_
        refine lv_aload_n hx hb dL_law_189 rfl (lv_at hl 0 rfl) ?_
        refine lv_iload_n hx hb dL_law_190 rfl (lv_at hl 3 rfl) ?_
        refine lv_iconst (v := 2) hx hb dL_law_191 (by decide) ?_
        refine lv_iadd hx hb dL_law_192 ?_
        refine lv_topi (fun x_22 ex_22 => ?_)
        obtain rfl : x_22 = nI (i + 2) := ex_22.trans (nI_add i 2)
        refine law_ld (n := (i + 2)) hx hb hX hbl hbA hS (by omega) (by omega) dL_law_193 ?_
        refine lv_aload_n hx hb dL_law_194 rfl (lv_at hl 0 rfl) ?_
        refine lv_iload_n hx hb dL_law_195 rfl (lv_at hl 3 rfl) ?_
        refine lv_iconst (v := 3) hx hb dL_law_196 (by decide) ?_
        refine lv_iadd hx hb dL_law_197 ?_
        refine lv_topi (fun x_23 ex_23 => ?_)
        obtain rfl : x_23 = nI (i + 3) := ex_23.trans (nI_add i 3)
        refine law_ld (n := (i + 3)) hx hb hX hbl hbA hS (by omega) (by omega) dL_law_198 ?_
        refine lv_aload_n hx hb dL_law_199 rfl (lv_at hl 0 rfl) ?_
        refine lv_iload_n hx hb dL_law_200 rfl (lv_at hl 3 rfl) ?_
        refine lv_iconst (v := 4) hx hb dL_law_201 (by decide) ?_
        refine lv_iadd hx hb dL_law_202 ?_
        refine lv_topi (fun x_24 ex_24 => ?_)
        obtain rfl : x_24 = nI (i + 4) := ex_24.trans (nI_add i 4)
        refine law_ld (n := (i + 4)) hx hb hX hbl hbA hS (by omega) (by omega) dL_law_203 ?_
        refine callG_vi (As := [.int (xs (i + 1)), .int (xs (i + 2)), .int (xs (i + 3)), .int (xs (i + 4))]) (rest := [.int r180]) ⟨hx, hb, hml, hown, hts⟩ (r_point nv np (xs (i + 1)) (xs (i + 2)) (xs (i + 3)) (xs (i + 4)) hJ.1 hJ.2.1) cpL_X1_point ⟨rfl, rfl⟩ ⟨Nat.le_of_ble_eq_true rfl, Nat.le_of_ble_eq_true rfl⟩ rfl rfl 0 rfl rfl hl.1 rfl (Nat.le_of_ble_eq_true rfl) dL_law_204 ⟨Nat.le_of_ble_eq_true rfl, Nat.le_of_ble_eq_true rfl⟩ hK2 hP hD hS hA (fun r204 u H locs p204 hP hD hS => ?_)
        obtain ⟨pn_204, pD_204, mV_204, mF_204, mM_204, pX_204, pY_204⟩ := u
        have hP : va_P D vwCl (pfW h k (nI nv) vP vO vG (nI pn_180) pD_180 pV_180 pB_180 pX_180 pY_180 sv_180 rc ah be wt iw (nI hN) (nI wN) ++ rfW h' k' (nI nv) vP vO vG (nI pn_204) pD_204 mV_204 mF_204 mM_204 pX_204 pY_204 se pl (nI hg)) H := hP
        have hD : va_D (fun q : Nat => s.heap.size ≤ q) (pfW h k (nI nv) vP vO vG (nI pn_180) pD_180 pV_180 pB_180 pX_180 pY_180 sv_180 rc ah be wt iw (nI hN) (nI wN) ++ rfW h' k' (nI nv) vP vO vG (nI pn_204) pD_204 mV_204 mF_204 mM_204 pX_204 pY_204 se pl (nI hg)) := hD
        try dsimp only at p204
        refine lv_icmp_eq (tgt := 403) hx hb dL_law_207 (by decide) (fun c207 => ?_) (fun c207 => ?_)
        · -- 207 t eq 
          obtain ⟨hr9, rfl, rfl, rfl, rfl, hJ9, hZ9⟩ := op_point hJ hZ p180 p204
          refine lv_iinc (v := nI (i + 5)) (lv' := [(3, .int (nI (i + 5))), (0, .ref b), (1, .ref (h 0)), (2, .ref (h' 0))]) hx hb dL_law_403 hl (k := 3) rfl (nI_add i 5) (by decide) rfl (fun ls hl => ?_)
          refine lv_goto (tgt := 18) hx hb dL_law_406 (by decide) ?_
          exact ih (i + 5) _ _ _ _ _ _ _ _ _ _ _ _ _ _ _ _ _ _ _ _ _ _ _ _ _ _ ls (by omega) (by omega) hJ9 hZ9 hP hD hS (lv_sub hl [1, 2, 3, 0] rfl)
        · -- 207 f eq 
          exact absurd (op_point hJ hZ p180 p204).1 c207
      · refine lv_tableIn (off := 180) (tgt := 212) hx hb dL_law_32 (by decide) (by decide) rfl (by decide) ?_
        refine lv_aload_n hx hb dL_law_212 rfl (lv_at hl 1 rfl) ?_
        refine lv_aload_n hx hb dL_law_213 rfl (lv_at hl 0 rfl) ?_
        refine lv_iload_n hx hb dL_law_214 rfl (lv_at hl 3 rfl) ?_
        refine lv_iconst (v := 1) hx hb dL_law_215 (by decide) ?_
        refine lv_iadd hx hb dL_law_216 ?_
        refine lv_topi (fun x_25 ex_25 => ?_)
        obtain rfl : x_25 = nI (i + 1) := ex_25.trans (nI_add i 1)
        refine law_ld (n := (i + 1)) hx hb hX hbl hbA hS (by omega) (by omega) dL_law_217 ?_
        refine lv_aload_n hx hb dL_law_218 rfl (lv_at hl 0 rfl) ?_
        refine lv_iload_n hx hb dL_law_219 rfl (lv_at hl 3 rfl) ?_
        refine lv_iconst (v := 2) hx hb dL_law_220 (by decide) ?_
        refine lv_iadd hx hb dL_law_221 ?_
        refine lv_topi (fun x_26 ex_26 => ?_)
        obtain rfl : x_26 = nI (i + 2) := ex_26.trans (nI_add i 2)
        refine law_ld (n := (i + 2)) hx hb hX hbl hbA hS (by omega) (by omega) dL_law_222 ?_
        refine lv_aload_n hx hb dL_law_223 rfl (lv_at hl 0 rfl) ?_
        refine lv_iload_n hx hb dL_law_224 rfl (lv_at hl 3 rfl) ?_
        refine lv_iconst (v := 3) hx hb dL_law_225 (by decide) ?_
        refine lv_iadd hx hb dL_law_226 ?_
        refine lv_topi (fun x_27 ex_27 => ?_)
        obtain rfl : x_27 = nI (i + 3) := ex_27.trans (nI_add i 3)
        refine law_ld (n := (i + 3)) hx hb hX hbl hbA hS (by omega) (by omega) dL_law_227 ?_
        refine callF_vi (As := [.int (xs (i + 1)), .int (xs (i + 2)), .int (xs (i + 3))]) (rest := []) ⟨hx, hb, hml, hown, hts⟩ (c_next np (xs (i + 1)) (xs (i + 2)) (xs (i + 3)) hJ.2.1) cpL_X0_next ⟨rfl, rfl⟩ ⟨Nat.le_of_ble_eq_true rfl, Nat.le_of_ble_eq_true rfl⟩ rfl rfl 0 rfl rfl hl.1 rfl (Nat.le_of_ble_eq_true rfl) dL_law_228 ⟨Nat.le_of_ble_eq_true rfl, Nat.le_of_ble_eq_true rfl⟩ hK1 hP hD hS hA (fun r228 u H locs p228 hP hD hS => ?_)
        obtain ⟨pX_228, pY_228, sv_228⟩ := u
        have hP : va_P D vwCl (pfW h k (nI nv) vP vO vG (nI np) pD pV pB pX_228 pY_228 sv_228 rc ah be wt iw (nI hN) (nI wN) ++ rfW h' k' (nI nv) vP vO vG (nI np) pD mV mF mM pX pY se pl (nI hg)) H := hP
        have hD : va_D (fun q : Nat => s.heap.size ≤ q) (pfW h k (nI nv) vP vO vG (nI np) pD pV pB pX_228 pY_228 sv_228 rc ah be wt iw (nI hN) (nI wN) ++ rfW h' k' (nI nv) vP vO vG (nI np) pD mV mF mM pX pY se pl (nI hg)) := hD
        try dsimp only at p228
        refine lv_aload_n hx hb dL_law_231 rfl (lv_at hl 2 rfl) ?_
        refine lv_aload_n hx hb dL_law_232 rfl (lv_at hl 0 rfl) ?_
        refine lv_iload_n hx hb dL_law_233 rfl (lv_at hl 3 rfl) ?_
        refine lv_iconst (v := 1) hx hb dL_law_234 (by decide) ?_
        refine lv_iadd hx hb dL_law_235 ?_
        refine lv_topi (fun x_28 ex_28 => ?_)
        obtain rfl : x_28 = nI (i + 1) := ex_28.trans (nI_add i 1)
        refine law_ld (n := (i + 1)) hx hb hX hbl hbA hS (by omega) (by omega) dL_law_236 ?_
        refine lv_aload_n hx hb dL_law_237 rfl (lv_at hl 0 rfl) ?_
        refine lv_iload_n hx hb dL_law_238 rfl (lv_at hl 3 rfl) ?_
        refine lv_iconst (v := 2) hx hb dL_law_239 (by decide) ?_
        refine lv_iadd hx hb dL_law_240 ?_
        refine lv_topi (fun x_29 ex_29 => ?_)
        obtain rfl : x_29 = nI (i + 2) := ex_29.trans (nI_add i 2)
        refine law_ld (n := (i + 2)) hx hb hX hbl hbA hS (by omega) (by omega) dL_law_241 ?_
        refine lv_aload_n hx hb dL_law_242 rfl (lv_at hl 0 rfl) ?_
        refine lv_iload_n hx hb dL_law_243 rfl (lv_at hl 3 rfl) ?_
        refine lv_iconst (v := 3) hx hb dL_law_244 (by decide) ?_
        refine lv_iadd hx hb dL_law_245 ?_
        refine lv_topi (fun x_30 ex_30 => ?_)
        obtain rfl : x_30 = nI (i + 3) := ex_30.trans (nI_add i 3)
        refine law_ld (n := (i + 3)) hx hb hX hbl hbA hS (by omega) (by omega) dL_law_246 ?_
        refine callG_vi (As := [.int (xs (i + 1)), .int (xs (i + 2)), .int (xs (i + 3))]) (rest := [.int r228]) ⟨hx, hb, hml, hown, hts⟩ (r_next np (xs (i + 1)) (xs (i + 2)) (xs (i + 3)) hJ.2.1) cpL_X1_next ⟨rfl, rfl⟩ ⟨Nat.le_of_ble_eq_true rfl, Nat.le_of_ble_eq_true rfl⟩ rfl rfl 0 rfl rfl hl.1 rfl (Nat.le_of_ble_eq_true rfl) dL_law_247 ⟨Nat.le_of_ble_eq_true rfl, Nat.le_of_ble_eq_true rfl⟩ hK2 hP hD hS hA (fun r247 u H locs p247 hP hD hS => ?_)
        obtain ⟨pX_247, pY_247⟩ := u
        have hP : va_P D vwCl (pfW h k (nI nv) vP vO vG (nI np) pD pV pB pX_228 pY_228 sv_228 rc ah be wt iw (nI hN) (nI wN) ++ rfW h' k' (nI nv) vP vO vG (nI np) pD mV mF mM pX_247 pY_247 se pl (nI hg)) H := hP
        have hD : va_D (fun q : Nat => s.heap.size ≤ q) (pfW h k (nI nv) vP vO vG (nI np) pD pV pB pX_228 pY_228 sv_228 rc ah be wt iw (nI hN) (nI wN) ++ rfW h' k' (nI nv) vP vO vG (nI np) pD mV mF mM pX_247 pY_247 se pl (nI hg)) := hD
        try dsimp only at p247
        refine lv_icmp_eq (tgt := 403) hx hb dL_law_250 (by decide) (fun c250 => ?_) (fun c250 => ?_)
        · -- 250 t eq 
          obtain ⟨hr9, rfl, rfl, hZ9⟩ := op_next hJ hZ p228 p247
          have hJ9 := hJ
          refine lv_iinc (v := nI (i + 5)) (lv' := [(3, .int (nI (i + 5))), (0, .ref b), (1, .ref (h 0)), (2, .ref (h' 0))]) hx hb dL_law_403 hl (k := 3) rfl (nI_add i 5) (by decide) rfl (fun ls hl => ?_)
          refine lv_goto (tgt := 18) hx hb dL_law_406 (by decide) ?_
          exact ih (i + 5) _ _ _ _ _ _ _ _ _ _ _ _ _ _ _ _ _ _ _ _ _ _ _ _ _ _ ls (by omega) (by omega) hJ9 hZ9 hP hD hS (lv_sub hl [1, 2, 3, 0] rfl)
        · -- 250 f eq 
          exact absurd (op_next hJ hZ p228 p247).1 c250
      · refine lv_tableIn (off := 223) (tgt := 255) hx hb dL_law_32 (by decide) (by decide) rfl (by decide) ?_
        refine lv_aload_n hx hb dL_law_255 rfl (lv_at hl 1 rfl) ?_
        refine lv_aload_n hx hb dL_law_256 rfl (lv_at hl 0 rfl) ?_
        refine lv_iload_n hx hb dL_law_257 rfl (lv_at hl 3 rfl) ?_
        refine lv_iconst (v := 1) hx hb dL_law_258 (by decide) ?_
        refine lv_iadd hx hb dL_law_259 ?_
        refine lv_topi (fun x_31 ex_31 => ?_)
        obtain rfl : x_31 = nI (i + 1) := ex_31.trans (nI_add i 1)
        refine law_ld (n := (i + 1)) hx hb hX hbl hbA hS (by omega) (by omega) dL_law_260 ?_
        refine callF_vi (As := [.int (xs (i + 1))]) (rest := []) ⟨hx, hb, hml, hown, hts⟩ (c_isReached nv np hN wN (xs (i + 1)) (JI_GI hJ) hZ) cpL_X0_isReached ⟨rfl, rfl⟩ ⟨Nat.le_of_ble_eq_true rfl, Nat.le_of_ble_eq_true rfl⟩ rfl rfl 0 rfl rfl hl.1 rfl (Nat.le_of_ble_eq_true rfl) dL_law_261 ⟨Nat.le_of_ble_eq_true rfl, Nat.le_of_ble_eq_true rfl⟩ hK1 hP hD hS hA (fun r261 u H locs p261 hP hD hS => ?_)
        obtain ⟨sv_261, rc_261, iw_261, wt_261, ah_261, be_261, hd_261, wn_261⟩ := u
        have hP : va_P D vwCl (pfW h k (nI nv) vP vO vG (nI np) pD pV pB pX pY sv_261 rc_261 ah_261 be_261 wt_261 iw_261 (nI hd_261) (nI wn_261) ++ rfW h' k' (nI nv) vP vO vG (nI np) pD mV mF mM pX pY se pl (nI hg)) H := hP
        have hD : va_D (fun q : Nat => s.heap.size ≤ q) (pfW h k (nI nv) vP vO vG (nI np) pD pV pB pX pY sv_261 rc_261 ah_261 be_261 wt_261 iw_261 (nI hd_261) (nI wn_261) ++ rfW h' k' (nI nv) vP vO vG (nI np) pD mV mF mM pX pY se pl (nI hg)) := hD
        try dsimp only at p261
        refine lv_aload_n hx hb dL_law_264 rfl (lv_at hl 2 rfl) ?_
        refine lv_aload_n hx hb dL_law_265 rfl (lv_at hl 0 rfl) ?_
        refine lv_iload_n hx hb dL_law_266 rfl (lv_at hl 3 rfl) ?_
        refine lv_iconst (v := 1) hx hb dL_law_267 (by decide) ?_
        refine lv_iadd hx hb dL_law_268 ?_
        refine lv_topi (fun x_32 ex_32 => ?_)
        obtain rfl : x_32 = nI (i + 1) := ex_32.trans (nI_add i 1)
        refine law_ld (n := (i + 1)) hx hb hX hbl hbA hS (by omega) (by omega) dL_law_269 ?_
        refine callG_vi (As := [.int (xs (i + 1))]) (rest := [.int r261]) ⟨hx, hb, hml, hown, hts⟩ (r_isReached nv np hg (xs (i + 1)) (JI_RI hJ)) cpL_X1_isReached ⟨rfl, rfl⟩ ⟨Nat.le_of_ble_eq_true rfl, Nat.le_of_ble_eq_true rfl⟩ rfl rfl 0 rfl rfl hl.1 rfl (Nat.le_of_ble_eq_true rfl) dL_law_270 ⟨Nat.le_of_ble_eq_true rfl, Nat.le_of_ble_eq_true rfl⟩ hK2 hP hD hS hA (fun r270 u H locs p270 hP hD hS => ?_)
        obtain ⟨se_270, pl_270, hg_270⟩ := u
        have hP : va_P D vwCl (pfW h k (nI nv) vP vO vG (nI np) pD pV pB pX pY sv_261 rc_261 ah_261 be_261 wt_261 iw_261 (nI hd_261) (nI wn_261) ++ rfW h' k' (nI nv) vP vO vG (nI np) pD mV mF mM pX pY se_270 pl_270 (nI hg_270)) H := hP
        have hD : va_D (fun q : Nat => s.heap.size ≤ q) (pfW h k (nI nv) vP vO vG (nI np) pD pV pB pX pY sv_261 rc_261 ah_261 be_261 wt_261 iw_261 (nI hd_261) (nI wn_261) ++ rfW h' k' (nI nv) vP vO vG (nI np) pD mV mF mM pX pY se_270 pl_270 (nI hg_270)) := hD
        try dsimp only at p270
        refine lv_icmp_eq (tgt := 403) hx hb dL_law_273 (by decide) (fun c273 => ?_) (fun c273 => ?_)
        · -- 273 t eq 
          have hJ9 := hJ
          have hZ9 := p261.1
          refine lv_iinc (v := nI (i + 5)) (lv' := [(3, .int (nI (i + 5))), (0, .ref b), (1, .ref (h 0)), (2, .ref (h' 0))]) hx hb dL_law_403 hl (k := 3) rfl (nI_add i 5) (by decide) rfl (fun ls hl => ?_)
          refine lv_goto (tgt := 18) hx hb dL_law_406 (by decide) ?_
          exact ih (i + 5) _ _ _ _ _ _ _ _ _ _ _ _ _ _ _ _ _ _ _ _ _ _ _ _ _ _ ls (by omega) (by omega) hJ9 hZ9 hP hD hS (lv_sub hl [1, 2, 3, 0] rfl)
        · -- 273 f eq 
          exact absurd (op_reached hJ p261.2 p270) c273
      · refine lv_tableIn (off := 246) (tgt := 278) hx hb dL_law_32 (by decide) (by decide) rfl (by decide) ?_
        refine lv_aload_n hx hb dL_law_278 rfl (lv_at hl 1 rfl) ?_
        refine lv_aload_n hx hb dL_law_279 rfl (lv_at hl 0 rfl) ?_
        refine lv_iload_n hx hb dL_law_280 rfl (lv_at hl 3 rfl) ?_
        refine lv_iconst (v := 1) hx hb dL_law_281 (by decide) ?_
        refine lv_iadd hx hb dL_law_282 ?_
        refine lv_topi (fun x_33 ex_33 => ?_)
        obtain rfl : x_33 = nI (i + 1) := ex_33.trans (nI_add i 1)
        refine law_ld (n := (i + 1)) hx hb hX hbl hbA hS (by omega) (by omega) dL_law_283 ?_
        refine lv_aload_n hx hb dL_law_284 rfl (lv_at hl 0 rfl) ?_
        refine lv_iload_n hx hb dL_law_285 rfl (lv_at hl 3 rfl) ?_
        refine lv_iconst (v := 2) hx hb dL_law_286 (by decide) ?_
        refine lv_iadd hx hb dL_law_287 ?_
        refine lv_topi (fun x_34 ex_34 => ?_)
        obtain rfl : x_34 = nI (i + 2) := ex_34.trans (nI_add i 2)
        refine law_ld (n := (i + 2)) hx hb hX hbl hbA hS (by omega) (by omega) dL_law_288 ?_
        refine callF_vi (As := [.int (xs (i + 1)), .int (xs (i + 2))]) (rest := []) ⟨hx, hb, hml, hown, hts⟩ (c_without nv np hN wN (xs (i + 1)) (xs (i + 2)) (JI_GI hJ) hZ) cpL_X0_without ⟨rfl, rfl⟩ ⟨Nat.le_of_ble_eq_true rfl, Nat.le_of_ble_eq_true rfl⟩ rfl rfl 0 rfl rfl hl.1 rfl (Nat.le_of_ble_eq_true rfl) dL_law_289 ⟨Nat.le_of_ble_eq_true rfl, Nat.le_of_ble_eq_true rfl⟩ hK1 hP hD hS hA (fun r289 u H locs p289 hP hD hS => ?_)
        obtain ⟨sv_289, rc_289, iw_289, wt_289, ah_289, be_289, hd_289, wn_289⟩ := u
        have hP : va_P D vwCl (pfW h k (nI nv) vP vO vG (nI np) pD pV pB pX pY sv_289 rc_289 ah_289 be_289 wt_289 iw_289 (nI hd_289) (nI wn_289) ++ rfW h' k' (nI nv) vP vO vG (nI np) pD mV mF mM pX pY se pl (nI hg)) H := hP
        have hD : va_D (fun q : Nat => s.heap.size ≤ q) (pfW h k (nI nv) vP vO vG (nI np) pD pV pB pX pY sv_289 rc_289 ah_289 be_289 wt_289 iw_289 (nI hd_289) (nI wn_289) ++ rfW h' k' (nI nv) vP vO vG (nI np) pD mV mF mM pX pY se pl (nI hg)) := hD
        try dsimp only at p289
        refine lv_aload_n hx hb dL_law_292 rfl (lv_at hl 2 rfl) ?_
        refine lv_aload_n hx hb dL_law_293 rfl (lv_at hl 0 rfl) ?_
        refine lv_iload_n hx hb dL_law_294 rfl (lv_at hl 3 rfl) ?_
        refine lv_iconst (v := 1) hx hb dL_law_295 (by decide) ?_
        refine lv_iadd hx hb dL_law_296 ?_
        refine lv_topi (fun x_35 ex_35 => ?_)
        obtain rfl : x_35 = nI (i + 1) := ex_35.trans (nI_add i 1)
        refine law_ld (n := (i + 1)) hx hb hX hbl hbA hS (by omega) (by omega) dL_law_297 ?_
        refine lv_aload_n hx hb dL_law_298 rfl (lv_at hl 0 rfl) ?_
        refine lv_iload_n hx hb dL_law_299 rfl (lv_at hl 3 rfl) ?_
        refine lv_iconst (v := 2) hx hb dL_law_300 (by decide) ?_
        refine lv_iadd hx hb dL_law_301 ?_
        refine lv_topi (fun x_36 ex_36 => ?_)
        obtain rfl : x_36 = nI (i + 2) := ex_36.trans (nI_add i 2)
        refine law_ld (n := (i + 2)) hx hb hX hbl hbA hS (by omega) (by omega) dL_law_302 ?_
        refine callG_vi (As := [.int (xs (i + 1)), .int (xs (i + 2))]) (rest := [.int r289]) ⟨hx, hb, hml, hown, hts⟩ (r_without nv np hg (xs (i + 1)) (xs (i + 2)) (JI_RI hJ)) cpL_X1_without ⟨rfl, rfl⟩ ⟨Nat.le_of_ble_eq_true rfl, Nat.le_of_ble_eq_true rfl⟩ rfl rfl 0 rfl rfl hl.1 rfl (Nat.le_of_ble_eq_true rfl) dL_law_303 ⟨Nat.le_of_ble_eq_true rfl, Nat.le_of_ble_eq_true rfl⟩ hK2 hP hD hS hA (fun r303 u H locs p303 hP hD hS => ?_)
        obtain ⟨se_303, pl_303, hg_303⟩ := u
        have hP : va_P D vwCl (pfW h k (nI nv) vP vO vG (nI np) pD pV pB pX pY sv_289 rc_289 ah_289 be_289 wt_289 iw_289 (nI hd_289) (nI wn_289) ++ rfW h' k' (nI nv) vP vO vG (nI np) pD mV mF mM pX pY se_303 pl_303 (nI hg_303)) H := hP
        have hD : va_D (fun q : Nat => s.heap.size ≤ q) (pfW h k (nI nv) vP vO vG (nI np) pD pV pB pX pY sv_289 rc_289 ah_289 be_289 wt_289 iw_289 (nI hd_289) (nI wn_289) ++ rfW h' k' (nI nv) vP vO vG (nI np) pD mV mF mM pX pY se_303 pl_303 (nI hg_303)) := hD
        try dsimp only at p303
        refine lv_icmp_eq (tgt := 403) hx hb dL_law_306 (by decide) (fun c306 => ?_) (fun c306 => ?_)
        · -- 306 t eq 
          have hJ9 := hJ
          have hZ9 := p289.1
          refine lv_iinc (v := nI (i + 5)) (lv' := [(3, .int (nI (i + 5))), (0, .ref b), (1, .ref (h 0)), (2, .ref (h' 0))]) hx hb dL_law_403 hl (k := 3) rfl (nI_add i 5) (by decide) rfl (fun ls hl => ?_)
          refine lv_goto (tgt := 18) hx hb dL_law_406 (by decide) ?_
          exact ih (i + 5) _ _ _ _ _ _ _ _ _ _ _ _ _ _ _ _ _ _ _ _ _ _ _ _ _ _ ls (by omega) (by omega) hJ9 hZ9 hP hD hS (lv_sub hl [1, 2, 3, 0] rfl)
        · -- 306 f eq 
          exact absurd (op_bits (w := 0) (kd := 0) hJ (Or.inl ⟨rfl, rfl⟩) p289.2 p303) c306
      · refine lv_tableIn (off := 279) (tgt := 311) hx hb dL_law_32 (by decide) (by decide) rfl (by decide) ?_
        refine lv_aload_n hx hb dL_law_311 rfl (lv_at hl 1 rfl) ?_
        refine lv_aload_n hx hb dL_law_312 rfl (lv_at hl 0 rfl) ?_
        refine lv_iload_n hx hb dL_law_313 rfl (lv_at hl 3 rfl) ?_
        refine lv_iconst (v := 1) hx hb dL_law_314 (by decide) ?_
        refine lv_iadd hx hb dL_law_315 ?_
        refine lv_topi (fun x_37 ex_37 => ?_)
        obtain rfl : x_37 = nI (i + 1) := ex_37.trans (nI_add i 1)
        refine law_ld (n := (i + 1)) hx hb hX hbl hbA hS (by omega) (by omega) dL_law_316 ?_
        refine lv_aload_n hx hb dL_law_317 rfl (lv_at hl 0 rfl) ?_
        refine lv_iload_n hx hb dL_law_318 rfl (lv_at hl 3 rfl) ?_
        refine lv_iconst (v := 2) hx hb dL_law_319 (by decide) ?_
        refine lv_iadd hx hb dL_law_320 ?_
        refine lv_topi (fun x_38 ex_38 => ?_)
        obtain rfl : x_38 = nI (i + 2) := ex_38.trans (nI_add i 2)
        refine law_ld (n := (i + 2)) hx hb hX hbl hbA hS (by omega) (by omega) dL_law_321 ?_
        refine callF_vi (As := [.int (xs (i + 1)), .int (xs (i + 2))]) (rest := []) ⟨hx, hb, hml, hown, hts⟩ (c_having nv np hN wN (xs (i + 1)) (xs (i + 2)) (JI_GI hJ) hZ) cpL_X0_having ⟨rfl, rfl⟩ ⟨Nat.le_of_ble_eq_true rfl, Nat.le_of_ble_eq_true rfl⟩ rfl rfl 0 rfl rfl hl.1 rfl (Nat.le_of_ble_eq_true rfl) dL_law_322 ⟨Nat.le_of_ble_eq_true rfl, Nat.le_of_ble_eq_true rfl⟩ hK1 hP hD hS hA (fun r322 u H locs p322 hP hD hS => ?_)
        obtain ⟨sv_322, rc_322, iw_322, wt_322, ah_322, be_322, hd_322, wn_322⟩ := u
        have hP : va_P D vwCl (pfW h k (nI nv) vP vO vG (nI np) pD pV pB pX pY sv_322 rc_322 ah_322 be_322 wt_322 iw_322 (nI hd_322) (nI wn_322) ++ rfW h' k' (nI nv) vP vO vG (nI np) pD mV mF mM pX pY se pl (nI hg)) H := hP
        have hD : va_D (fun q : Nat => s.heap.size ≤ q) (pfW h k (nI nv) vP vO vG (nI np) pD pV pB pX pY sv_322 rc_322 ah_322 be_322 wt_322 iw_322 (nI hd_322) (nI wn_322) ++ rfW h' k' (nI nv) vP vO vG (nI np) pD mV mF mM pX pY se pl (nI hg)) := hD
        try dsimp only at p322
        refine lv_aload_n hx hb dL_law_325 rfl (lv_at hl 2 rfl) ?_
        refine lv_aload_n hx hb dL_law_326 rfl (lv_at hl 0 rfl) ?_
        refine lv_iload_n hx hb dL_law_327 rfl (lv_at hl 3 rfl) ?_
        refine lv_iconst (v := 1) hx hb dL_law_328 (by decide) ?_
        refine lv_iadd hx hb dL_law_329 ?_
        refine lv_topi (fun x_39 ex_39 => ?_)
        obtain rfl : x_39 = nI (i + 1) := ex_39.trans (nI_add i 1)
        refine law_ld (n := (i + 1)) hx hb hX hbl hbA hS (by omega) (by omega) dL_law_330 ?_
        refine lv_aload_n hx hb dL_law_331 rfl (lv_at hl 0 rfl) ?_
        refine lv_iload_n hx hb dL_law_332 rfl (lv_at hl 3 rfl) ?_
        refine lv_iconst (v := 2) hx hb dL_law_333 (by decide) ?_
        refine lv_iadd hx hb dL_law_334 ?_
        refine lv_topi (fun x_40 ex_40 => ?_)
        obtain rfl : x_40 = nI (i + 2) := ex_40.trans (nI_add i 2)
        refine law_ld (n := (i + 2)) hx hb hX hbl hbA hS (by omega) (by omega) dL_law_335 ?_
        refine callG_vi (As := [.int (xs (i + 1)), .int (xs (i + 2))]) (rest := [.int r322]) ⟨hx, hb, hml, hown, hts⟩ (r_having nv np hg (xs (i + 1)) (xs (i + 2)) (JI_RI hJ)) cpL_X1_having ⟨rfl, rfl⟩ ⟨Nat.le_of_ble_eq_true rfl, Nat.le_of_ble_eq_true rfl⟩ rfl rfl 0 rfl rfl hl.1 rfl (Nat.le_of_ble_eq_true rfl) dL_law_336 ⟨Nat.le_of_ble_eq_true rfl, Nat.le_of_ble_eq_true rfl⟩ hK2 hP hD hS hA (fun r336 u H locs p336 hP hD hS => ?_)
        obtain ⟨se_336, pl_336, hg_336⟩ := u
        have hP : va_P D vwCl (pfW h k (nI nv) vP vO vG (nI np) pD pV pB pX pY sv_322 rc_322 ah_322 be_322 wt_322 iw_322 (nI hd_322) (nI wn_322) ++ rfW h' k' (nI nv) vP vO vG (nI np) pD mV mF mM pX pY se_336 pl_336 (nI hg_336)) H := hP
        have hD : va_D (fun q : Nat => s.heap.size ≤ q) (pfW h k (nI nv) vP vO vG (nI np) pD pV pB pX pY sv_322 rc_322 ah_322 be_322 wt_322 iw_322 (nI hd_322) (nI wn_322) ++ rfW h' k' (nI nv) vP vO vG (nI np) pD mV mF mM pX pY se_336 pl_336 (nI hg_336)) := hD
        try dsimp only at p336
        refine lv_icmp_eq (tgt := 403) hx hb dL_law_339 (by decide) (fun c339 => ?_) (fun c339 => ?_)
        · -- 339 t eq 
          have hJ9 := hJ
          have hZ9 := p322.1
          refine lv_iinc (v := nI (i + 5)) (lv' := [(3, .int (nI (i + 5))), (0, .ref b), (1, .ref (h 0)), (2, .ref (h' 0))]) hx hb dL_law_403 hl (k := 3) rfl (nI_add i 5) (by decide) rfl (fun ls hl => ?_)
          refine lv_goto (tgt := 18) hx hb dL_law_406 (by decide) ?_
          exact ih (i + 5) _ _ _ _ _ _ _ _ _ _ _ _ _ _ _ _ _ _ _ _ _ _ _ _ _ _ ls (by omega) (by omega) hJ9 hZ9 hP hD hS (lv_sub hl [1, 2, 3, 0] rfl)
        · -- 339 f eq 
          exact absurd (op_bits (w := 1) (kd := 3) hJ (Or.inr ⟨rfl, rfl⟩) p322.2 p336) c339
      · refine lv_tableIn (off := 312) (tgt := 344) hx hb dL_law_32 (by decide) (by decide) rfl (by decide) ?_
        refine lv_aload_n hx hb dL_law_344 rfl (lv_at hl 1 rfl) ?_
        refine lv_aload_n hx hb dL_law_345 rfl (lv_at hl 0 rfl) ?_
        refine lv_iload_n hx hb dL_law_346 rfl (lv_at hl 3 rfl) ?_
        refine lv_iconst (v := 1) hx hb dL_law_347 (by decide) ?_
        refine lv_iadd hx hb dL_law_348 ?_
        refine lv_topi (fun x_41 ex_41 => ?_)
        obtain rfl : x_41 = nI (i + 1) := ex_41.trans (nI_add i 1)
        refine law_ld (n := (i + 1)) hx hb hX hbl hbA hS (by omega) (by omega) dL_law_349 ?_
        refine callF_vi (As := [.int (xs (i + 1))]) (rest := []) ⟨hx, hb, hml, hown, hts⟩ (c_fault nv np hN wN (xs (i + 1)) (JI_GI hJ) hZ) cpL_X0_fault ⟨rfl, rfl⟩ ⟨Nat.le_of_ble_eq_true rfl, Nat.le_of_ble_eq_true rfl⟩ rfl rfl 0 rfl rfl hl.1 rfl (Nat.le_of_ble_eq_true rfl) dL_law_350 ⟨Nat.le_of_ble_eq_true rfl, Nat.le_of_ble_eq_true rfl⟩ hK1 hP hD hS hA (fun r350 u H locs p350 hP hD hS => ?_)
        obtain ⟨sv_350, rc_350, iw_350, wt_350, ah_350, be_350, hd_350, wn_350⟩ := u
        have hP : va_P D vwCl (pfW h k (nI nv) vP vO vG (nI np) pD pV pB pX pY sv_350 rc_350 ah_350 be_350 wt_350 iw_350 (nI hd_350) (nI wn_350) ++ rfW h' k' (nI nv) vP vO vG (nI np) pD mV mF mM pX pY se pl (nI hg)) H := hP
        have hD : va_D (fun q : Nat => s.heap.size ≤ q) (pfW h k (nI nv) vP vO vG (nI np) pD pV pB pX pY sv_350 rc_350 ah_350 be_350 wt_350 iw_350 (nI hd_350) (nI wn_350) ++ rfW h' k' (nI nv) vP vO vG (nI np) pD mV mF mM pX pY se pl (nI hg)) := hD
        try dsimp only at p350
        refine lv_aload_n hx hb dL_law_353 rfl (lv_at hl 2 rfl) ?_
        refine lv_aload_n hx hb dL_law_354 rfl (lv_at hl 0 rfl) ?_
        refine lv_iload_n hx hb dL_law_355 rfl (lv_at hl 3 rfl) ?_
        refine lv_iconst (v := 1) hx hb dL_law_356 (by decide) ?_
        refine lv_iadd hx hb dL_law_357 ?_
        refine lv_topi (fun x_42 ex_42 => ?_)
        obtain rfl : x_42 = nI (i + 1) := ex_42.trans (nI_add i 1)
        refine law_ld (n := (i + 1)) hx hb hX hbl hbA hS (by omega) (by omega) dL_law_358 ?_
        refine callG_vi (As := [.int (xs (i + 1))]) (rest := [.int r350]) ⟨hx, hb, hml, hown, hts⟩ (r_fault nv np hg (xs (i + 1)) (JI_RI hJ)) cpL_X1_fault ⟨rfl, rfl⟩ ⟨Nat.le_of_ble_eq_true rfl, Nat.le_of_ble_eq_true rfl⟩ rfl rfl 0 rfl rfl hl.1 rfl (Nat.le_of_ble_eq_true rfl) dL_law_359 ⟨Nat.le_of_ble_eq_true rfl, Nat.le_of_ble_eq_true rfl⟩ hK2 hP hD hS hA (fun r359 u H locs p359 hP hD hS => ?_)
        obtain ⟨se_359, pl_359, hg_359⟩ := u
        have hP : va_P D vwCl (pfW h k (nI nv) vP vO vG (nI np) pD pV pB pX pY sv_350 rc_350 ah_350 be_350 wt_350 iw_350 (nI hd_350) (nI wn_350) ++ rfW h' k' (nI nv) vP vO vG (nI np) pD mV mF mM pX pY se_359 pl_359 (nI hg_359)) H := hP
        have hD : va_D (fun q : Nat => s.heap.size ≤ q) (pfW h k (nI nv) vP vO vG (nI np) pD pV pB pX pY sv_350 rc_350 ah_350 be_350 wt_350 iw_350 (nI hd_350) (nI wn_350) ++ rfW h' k' (nI nv) vP vO vG (nI np) pD mV mF mM pX pY se_359 pl_359 (nI hg_359)) := hD
        try dsimp only at p359
        refine lv_icmp_eq (tgt := 403) hx hb dL_law_362 (by decide) (fun c362 => ?_) (fun c362 => ?_)
        · -- 362 t eq 
          have hJ9 := hJ
          have hZ9 := p350.1
          refine lv_iinc (v := nI (i + 5)) (lv' := [(3, .int (nI (i + 5))), (0, .ref b), (1, .ref (h 0)), (2, .ref (h' 0))]) hx hb dL_law_403 hl (k := 3) rfl (nI_add i 5) (by decide) rfl (fun ls hl => ?_)
          refine lv_goto (tgt := 18) hx hb dL_law_406 (by decide) ?_
          exact ih (i + 5) _ _ _ _ _ _ _ _ _ _ _ _ _ _ _ _ _ _ _ _ _ _ _ _ _ _ ls (by omega) (by omega) hJ9 hZ9 hP hD hS (lv_sub hl [1, 2, 3, 0] rfl)
        · -- 362 f eq 
          exact absurd (op_fault hJ p350.2 p359) c362
      · refine lv_tableIn (off := 335) (tgt := 367) hx hb dL_law_32 (by decide) (by decide) rfl (by decide) ?_
        refine lv_aload_n hx hb dL_law_367 rfl (lv_at hl 1 rfl) ?_
        refine lv_aload_n hx hb dL_law_368 rfl (lv_at hl 0 rfl) ?_
        refine lv_iload_n hx hb dL_law_369 rfl (lv_at hl 3 rfl) ?_
        refine lv_iconst (v := 1) hx hb dL_law_370 (by decide) ?_
        refine lv_iadd hx hb dL_law_371 ?_
        refine lv_topi (fun x_43 ex_43 => ?_)
        obtain rfl : x_43 = nI (i + 1) := ex_43.trans (nI_add i 1)
        refine law_ld (n := (i + 1)) hx hb hX hbl hbA hS (by omega) (by omega) dL_law_372 ?_
        refine callF_vi (As := [.int (xs (i + 1))]) (rest := []) ⟨hx, hb, hml, hown, hts⟩ (c_count nv np hN wN (xs (i + 1)) (JI_GI hJ) hZ) cpL_X0_count ⟨rfl, rfl⟩ ⟨Nat.le_of_ble_eq_true rfl, Nat.le_of_ble_eq_true rfl⟩ rfl rfl 0 rfl rfl hl.1 rfl (Nat.le_of_ble_eq_true rfl) dL_law_373 ⟨Nat.le_of_ble_eq_true rfl, Nat.le_of_ble_eq_true rfl⟩ hK1 hP hD hS hA (fun r373 u H locs p373 hP hD hS => ?_)
        obtain ⟨sv_373, rc_373, iw_373, wt_373, ah_373, be_373, hd_373, wn_373⟩ := u
        have hP : va_P D vwCl (pfW h k (nI nv) vP vO vG (nI np) pD pV pB pX pY sv_373 rc_373 ah_373 be_373 wt_373 iw_373 (nI hd_373) (nI wn_373) ++ rfW h' k' (nI nv) vP vO vG (nI np) pD mV mF mM pX pY se pl (nI hg)) H := hP
        have hD : va_D (fun q : Nat => s.heap.size ≤ q) (pfW h k (nI nv) vP vO vG (nI np) pD pV pB pX pY sv_373 rc_373 ah_373 be_373 wt_373 iw_373 (nI hd_373) (nI wn_373) ++ rfW h' k' (nI nv) vP vO vG (nI np) pD mV mF mM pX pY se pl (nI hg)) := hD
        try dsimp only at p373
        refine lv_aload_n hx hb dL_law_376 rfl (lv_at hl 2 rfl) ?_
        refine lv_aload_n hx hb dL_law_377 rfl (lv_at hl 0 rfl) ?_
        refine lv_iload_n hx hb dL_law_378 rfl (lv_at hl 3 rfl) ?_
        refine lv_iconst (v := 1) hx hb dL_law_379 (by decide) ?_
        refine lv_iadd hx hb dL_law_380 ?_
        refine lv_topi (fun x_44 ex_44 => ?_)
        obtain rfl : x_44 = nI (i + 1) := ex_44.trans (nI_add i 1)
        refine law_ld (n := (i + 1)) hx hb hX hbl hbA hS (by omega) (by omega) dL_law_381 ?_
        refine callG_vi (As := [.int (xs (i + 1))]) (rest := [.int r373]) ⟨hx, hb, hml, hown, hts⟩ (r_count nv np hg (xs (i + 1)) (JI_RI hJ)) cpL_X1_count ⟨rfl, rfl⟩ ⟨Nat.le_of_ble_eq_true rfl, Nat.le_of_ble_eq_true rfl⟩ rfl rfl 0 rfl rfl hl.1 rfl (Nat.le_of_ble_eq_true rfl) dL_law_382 ⟨Nat.le_of_ble_eq_true rfl, Nat.le_of_ble_eq_true rfl⟩ hK2 hP hD hS hA (fun r382 u H locs p382 hP hD hS => ?_)
        obtain ⟨se_382, pl_382, hg_382⟩ := u
        have hP : va_P D vwCl (pfW h k (nI nv) vP vO vG (nI np) pD pV pB pX pY sv_373 rc_373 ah_373 be_373 wt_373 iw_373 (nI hd_373) (nI wn_373) ++ rfW h' k' (nI nv) vP vO vG (nI np) pD mV mF mM pX pY se_382 pl_382 (nI hg_382)) H := hP
        have hD : va_D (fun q : Nat => s.heap.size ≤ q) (pfW h k (nI nv) vP vO vG (nI np) pD pV pB pX pY sv_373 rc_373 ah_373 be_373 wt_373 iw_373 (nI hd_373) (nI wn_373) ++ rfW h' k' (nI nv) vP vO vG (nI np) pD mV mF mM pX pY se_382 pl_382 (nI hg_382)) := hD
        try dsimp only at p382
        refine lv_icmp_eq (tgt := 403) hx hb dL_law_385 (by decide) (fun c385 => ?_) (fun c385 => ?_)
        · -- 385 t eq 
          have hJ9 := hJ
          have hZ9 := p373.1
          refine lv_iinc (v := nI (i + 5)) (lv' := [(3, .int (nI (i + 5))), (0, .ref b), (1, .ref (h 0)), (2, .ref (h' 0))]) hx hb dL_law_403 hl (k := 3) rfl (nI_add i 5) (by decide) rfl (fun ls hl => ?_)
          refine lv_goto (tgt := 18) hx hb dL_law_406 (by decide) ?_
          exact ih (i + 5) _ _ _ _ _ _ _ _ _ _ _ _ _ _ _ _ _ _ _ _ _ _ _ _ _ _ ls (by omega) (by omega) hJ9 hZ9 hP hD hS (lv_sub hl [1, 2, 3, 0] rfl)
        · -- 385 f eq 
          exact absurd (op_count hJ p373.2 p382) c385
      · refine lv_tableIn (off := 358) (tgt := 390) hx hb dL_law_32 (by decide) (by decide) rfl (by decide) ?_
        refine lv_aload_n hx hb dL_law_390 rfl (lv_at hl 1 rfl) ?_
        refine callF_vi (As := []) (rest := []) ⟨hx, hb, hml, hown, hts⟩ (c_clear np) cpL_X0_clear ⟨rfl, rfl⟩ ⟨Nat.le_of_ble_eq_true rfl, Nat.le_of_ble_eq_true rfl⟩ rfl rfl 0 rfl rfl hl.1 rfl (Nat.le_of_ble_eq_true rfl) dL_law_391 ⟨Nat.le_of_ble_eq_true rfl, Nat.le_of_ble_eq_true rfl⟩ hK1 hP hD hS hA (fun r391 u H locs p391 hP hD hS => ?_)
        have hP : va_P D vwCl (pfW h k (nI nv) vP vO vG (nI 0) pD pV pB pX pY 0 rc ah be wt iw (nI hN) (nI wN) ++ rfW h' k' (nI nv) vP vO vG (nI np) pD mV mF mM pX pY se pl (nI hg)) H := hP
        have hD : va_D (fun q : Nat => s.heap.size ≤ q) (pfW h k (nI nv) vP vO vG (nI 0) pD pV pB pX pY 0 rc ah be wt iw (nI hN) (nI wN) ++ rfW h' k' (nI nv) vP vO vG (nI np) pD mV mF mM pX pY se pl (nI hg)) := hD
        try dsimp only at p391
        refine lv_aload_n hx hb dL_law_394 rfl (lv_at hl 2 rfl) ?_
        refine callG_vi (As := []) (rest := [.int r391]) ⟨hx, hb, hml, hown, hts⟩ (r_clear np) cpL_X1_clear ⟨rfl, rfl⟩ ⟨Nat.le_of_ble_eq_true rfl, Nat.le_of_ble_eq_true rfl⟩ rfl rfl 0 rfl rfl hl.1 rfl (Nat.le_of_ble_eq_true rfl) dL_law_395 ⟨Nat.le_of_ble_eq_true rfl, Nat.le_of_ble_eq_true rfl⟩ hK2 hP hD hS hA (fun r395 u H locs p395 hP hD hS => ?_)
        have hP : va_P D vwCl (pfW h k (nI nv) vP vO vG (nI 0) pD pV pB pX pY 0 rc ah be wt iw (nI hN) (nI wN) ++ rfW h' k' (nI nv) vP vO vG (nI 0) pD mV mF mM pX pY se pl (nI hg)) H := hP
        have hD : va_D (fun q : Nat => s.heap.size ≤ q) (pfW h k (nI nv) vP vO vG (nI 0) pD pV pB pX pY 0 rc ah be wt iw (nI hN) (nI wN) ++ rfW h' k' (nI nv) vP vO vG (nI 0) pD mV mF mM pX pY se pl (nI hg)) := hD
        try dsimp only at p395
        refine lv_icmp_eq (tgt := 403) hx hb dL_law_398 (by decide) (fun c398 => ?_) (fun c398 => ?_)
        · -- 398 t eq 
          have hJ9 : JI nv 0 vP pD pV pB mV mF mM := ⟨hJ.1, Nat.zero_le _, hJ.2.2.1, fun q hq => absurd hq (Nat.not_lt_zero q)⟩
          have hZ9 : ZI nv 0 vP vG pD pV pB pX pY 0 rc iw ah := ⟨hZ.1, hZ.2.1, Or.inl rfl⟩
          refine lv_iinc (v := nI (i + 5)) (lv' := [(3, .int (nI (i + 5))), (0, .ref b), (1, .ref (h 0)), (2, .ref (h' 0))]) hx hb dL_law_403 hl (k := 3) rfl (nI_add i 5) (by decide) rfl (fun ls hl => ?_)
          refine lv_goto (tgt := 18) hx hb dL_law_406 (by decide) ?_
          exact ih (i + 5) _ _ _ _ _ _ _ _ _ _ _ _ _ _ _ _ _ _ _ _ _ _ _ _ _ _ ls (by omega) (by omega) hJ9 hZ9 hP hD hS (lv_sub hl [1, 2, 3, 0] rfl)
        · -- 398 f eq 
          exact absurd (p391.trans p395.symm) c398
      · refine lv_tableOut (tgt := 403) hx hb dL_law_32 hsw (by decide) ?_
        refine lv_iinc (v := nI (i + 5)) (lv' := [(3, .int (nI (i + 5))), (0, .ref b), (1, .ref (h 0)), (2, .ref (h' 0))]) hx hb dL_law_403 hl (k := 3) rfl (nI_add i 5) (by decide) rfl (fun ls hl => ?_)
        refine lv_goto (tgt := 18) hx hb dL_law_406 (by decide) ?_
        exact ih (i + 5) _ _ _ _ _ _ _ _ _ _ _ _ _ _ _ _ _ _ _ _ _ _ _ _ _ _ ls (by omega) (by omega) hJ hZ hP hD hS (lv_sub hl [1, 2, 3, 0] rfl)

