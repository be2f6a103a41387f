abbrev rm_forgetFlow : Room := { frames := 0, cells := 0, slots := 0, locals := 0 }
theorem in_forgetFlow : ∀ w ∈ u_ws RX0 TX0 18, w ∈ wsX0_forgetFlow := by decide +kernel
set_option maxHeartbeats 4000000 in
set_option maxRecDepth 100000 in
theorem lp_fo1 {p : Program} {l : Launch} {e : Env} {s : State} {m : MethodId} {args : Array Value} {below : List Frame} {meth : Method} {c : Code} {A : Nat → Prop} {Q : State → Prop} {D : va_G} {h : Nat → Nat} {k : Nat → ClassId} {vc sv hd wn : Int32} {vP vO vG pD pV pB pX pY wt : Nat → Int32} {ah be : Nat → Int64} {np : Nat} {rc0 iw0 : Nat → Int32} (hx : p.tables.exec = Jvm.exec) (hb : c.code = cX0_forgetFlow) (hml : c.maxLocals = 2) (hown : s.vm.findClass RX0 = some m.cls) (hts : ∀ w ∈ wsX0_forgetFlow, w.before args s = true) (hA : ∀ q : Nat, s.heap.size ≤ q → A q) (hK : va_K D vwCl (pfT k) s) (hn : np ≤ 120)
    (kk : ∀ (i : Nat) (rc : Nat → Int32) (iw : Nat → Int32) (H : Heap) (locs : List Loc) (ls : Array Slot), ((∀ q, q < np → rc q = 0) ∧ ∀ q, np ≤ q → rc q = rc0 q) → ((∀ q, q < np → iw q = 0) ∧ ∀ q, np ≤ q → iw q = iw0 q) → va_P D vwCl (pfW h k vc vP vO vG (nI np) pD pV pB pX pY sv rc ah be wt iw hd wn) H → va_D A (pfW h k vc vP vO vG (nI np) pD pV pB pX pY sv rc ah be wt iw hd wn) → va_S A s.heap H locs → lv_has ls 2 [(0, .ref (h 0)), (1, .int (nI i))] → W p l e rm_forgetFlow s m args below meth c H locs 0 0 Q (F0 m 40 ls [])) :
    ∀ (n : Nat) (i : Nat) (rc : Nat → Int32) (iw : Nat → Int32) (H : Heap) (locs : List Loc) (ls : Array Slot), (i ≤ np) → ((∀ q, q < i → rc q = 0) ∧ ∀ q, i ≤ q → rc q = rc0 q) → ((∀ q, q < i → iw q = 0) ∧ ∀ q, i ≤ q → iw q = iw0 q) → np - i < n → va_P D vwCl (pfW h k vc vP vO vG (nI np) pD pV pB pX pY sv rc ah be wt iw hd wn) H → va_D A (pfW h k vc vP vO vG (nI np) pD pV pB pX pY sv rc ah be wt iw hd wn) → va_S A s.heap H locs → lv_has ls 2 [(0, .ref (h 0)), (1, .int (nI i))] → W p l e rm_forgetFlow s m args below meth c H locs 0 0 Q (F0 m 12 ls []) := by
  have hin := in_forgetFlow
  intro n
  induction n with
  | zero =>
    intro i rc iw H locs ls hi hr9 hw hmz
    exact absurd hmz (Nat.not_lt_zero _)
  | succ n ih =>
    intro i rc iw H locs ls hi hr9 hw hmz hP hD hS hl
    refine lv_iload_n hx hb dX0_forgetFlow_12 rfl (lv_at hl 1 rfl) ?_
    refine lv_aload_n hx hb dX0_forgetFlow_13 rfl (lv_at hl 0 rfl) ?_
    refine pf_g_pn hx hb hts hin hown hK hP (by decide +kernel) dX0_forgetFlow_14 ?_
    refine lv_icmp_ge (tgt := 40) hx hb dX0_forgetFlow_17 (by decide) (fun c17 => ?_) (fun c17 => ?_)
    · -- 17 t ge 
      have n17 : np ≤ i := (nI_leI (a := np) (b := i) (by omega) (by omega)).mp c17
      exact kk i rc iw H locs ls ((show i = np by omega) ▸ hr9) ((show i = np by omega) ▸ hw) hP hD hS (lv_sub hl [0, 1] rfl)
    · -- 17 f ge 
      have n17 : ¬ np ≤ i := fun q => c17 ((nI_leI (a := np) (b := i) (by omega) (by omega)).mpr q)
      refine lv_aload_n hx hb dX0_forgetFlow_20 rfl (lv_at hl 0 rfl) ?_
      refine pf_g_rc hx hb hts hin hown hK hP (by decide +kernel) dX0_forgetFlow_21 ?_
      refine lv_iload_n hx hb dX0_forgetFlow_24 rfl (lv_at hl 1 rfl) ?_
      refine lv_iconst (v := 0) hx hb dX0_forgetFlow_25 (by decide) ?_
      refine pf_s_rc (n := i) (x := 0) hx hb hK hP hD hS (by omega) dX0_forgetFlow_26 (by decide) (fun H locs hP hD hS => ?_)
      refine lv_aload_n hx hb dX0_forgetFlow_27 rfl (lv_at hl 0 rfl) ?_
      refine pf_g_iw hx hb hts hin hown hK hP (by decide +kernel) dX0_forgetFlow_28 ?_
      refine lv_iload_n hx hb dX0_forgetFlow_31 rfl (lv_at hl 1 rfl) ?_
      refine lv_iconst (v := 0) hx hb dX0_forgetFlow_32 (by decide) ?_
      refine pf_s_iw (n := i) (x := 0) hx hb hK hP hD hS (by omega) dX0_forgetFlow_33 (by decide) (fun H locs hP hD hS => ?_)
      refine lv_iinc (v := nI (i + 1)) (lv' := [(1, .int (nI (i + 1))), (0, .ref (h 0))]) hx hb dX0_forgetFlow_34 hl (k := 1) rfl (nI_add i 1) (by decide) rfl (fun ls hl => ?_)
      refine lv_goto (tgt := 12) hx hb dX0_forgetFlow_37 (by decide) ?_
      exact ih (i + 1) (upd rc i 0) (upd iw i 0) H locs ls (by omega) (zi_s hr9) (zi_s hw) (by omega) hP hD hS (lv_sub hl [1, 0] rfl)

set_option maxHeartbeats 4000000 in
set_option maxRecDepth 100000 in
theorem lp_fo2 {p : Program} {l : Launch} {e : Env} {s : State} {m : MethodId} {args : Array Value} {below : List Frame} {meth : Method} {c : Code} {A : Nat → Prop} {Q : State → Prop} {D : va_G} {h : Nat → Nat} {k : Nat → ClassId} {vc sv hd wn : Int32} {vP vO vG pD pV pB pX pY rc wt iw : Nat → Int32} {be : Nat → Int64} {np : Nat} (hx : p.tables.exec = Jvm.exec) (hb : c.code = cX0_forgetFlow) (hml : c.maxLocals = 2) (hown : s.vm.findClass RX0 = some m.cls) (hts : ∀ w ∈ wsX0_forgetFlow, w.before args s = true) (hA : ∀ q : Nat, s.heap.size ≤ q → A q) (hK : va_K D vwCl (pfT k) s) (hn : np ≤ 120)
    (kk : ∀ (i : Nat) (ah : Nat → Int64) (H : Heap) (locs : List Loc) (ls : Array Slot), (∀ w, w < np * 6 → ah w = 0) → va_P D vwCl (pfW h k vc vP vO vG (nI np) pD pV pB pX pY sv rc ah be wt iw hd wn) H → va_D A (pfW h k vc vP vO vG (nI np) pD pV pB pX pY sv rc ah be wt iw hd wn) → va_S A s.heap H locs → lv_has ls 2 [(0, .ref (h 0)), (1, .int (nI i))] → W p l e rm_forgetFlow s m args below meth c H locs 0 0 Q (F0 m 66 ls [])) :
    ∀ (n : Nat) (i : Nat) (ah : Nat → Int64) (H : Heap) (locs : List Loc) (ls : Array Slot), (i ≤ np * 6) → (∀ w, w < i → ah w = 0) → np * 6 - i < n → va_P D vwCl (pfW h k vc vP vO vG (nI np) pD pV pB pX pY sv rc ah be wt iw hd wn) H → va_D A (pfW h k vc vP vO vG (nI np) pD pV pB pX pY sv rc ah be wt iw hd wn) → va_S A s.heap H locs → lv_has ls 2 [(0, .ref (h 0)), (1, .int (nI i))] → W p l e rm_forgetFlow s m args below meth c H locs 0 0 Q (F0 m 42 ls []) := by
  have hin := in_forgetFlow
  intro n
  induction n with
  | zero =>
    intro i ah H locs ls hi ha hmz
    exact absurd hmz (Nat.not_lt_zero _)
  | succ n ih =>
    intro i ah H locs ls hi ha hmz hP hD hS hl
    refine lv_iload_n hx hb dX0_forgetFlow_42 rfl (lv_at hl 1 rfl) ?_
    refine lv_aload_n hx hb dX0_forgetFlow_43 rfl (lv_at hl 0 rfl) ?_
    refine pf_g_pn hx hb hts hin hown hK hP (by decide +kernel) dX0_forgetFlow_44 ?_
    refine lv_bipush (v := 6) hx hb dX0_forgetFlow_47 (by decide) ?_
    refine lv_imul hx hb dX0_forgetFlow_49 ?_
    refine lv_topi (fun x_1 ex_1 => ?_)
    obtain rfl : x_1 = nI (np * 6) := ex_1.trans (pk_mul np 6)
    refine lv_icmp_ge (tgt := 66) hx hb dX0_forgetFlow_50 (by decide) (fun c50 => ?_) (fun c50 => ?_)
    · -- 50 t ge 
      have n50 : np * 6 ≤ i := (nI_leI (a := np * 6) (b := i) (by omega) (by omega)).mp c50
      exact kk i ah H locs ls (fun w hw => ha w (by omega)) hP hD hS (lv_sub hl [0, 1] rfl)
    · -- 50 f ge 
      have n50 : ¬ np * 6 ≤ i := fun q => c50 ((nI_leI (a := np * 6) (b := i) (by omega) (by omega)).mpr q)
      refine lv_aload_n hx hb dX0_forgetFlow_53 rfl (lv_at hl 0 rfl) ?_
      refine pf_g_ah hx hb hts hin hown hK hP (by decide +kernel) dX0_forgetFlow_54 ?_
      refine lv_iload_n hx hb dX0_forgetFlow_57 rfl (lv_at hl 1 rfl) ?_
      refine lv_lconst (v := 0) hx hb dX0_forgetFlow_58 (by decide) ?_
      refine pf_s_ah (n := i) (x := 0) hx hb hK hP hD hS (by omega) dX0_forgetFlow_59 (fun H locs hP hD hS => ?_)
      refine lv_iinc (v := nI (i + 1)) (lv' := [(1, .int (nI (i + 1))), (0, .ref (h 0))]) hx hb dX0_forgetFlow_60 hl (k := 1) rfl (nI_add i 1) (by decide) rfl (fun ls hl => ?_)
      refine lv_goto (tgt := 42) hx hb dX0_forgetFlow_63 (by decide) ?_
      exact ih (i + 1) (vp_updL ah i 0) H locs ls (by omega) (z_s ha) (by omega) hP hD hS (lv_sub hl [1, 0] rfl)

set_option maxHeartbeats 4000000 in
set_option maxRecDepth 100000 in
theorem c_forgetFlow {l : Launch} {D : va_G} {h : Nat → Nat} {k : Nat → ClassId} {vc sv hd wn : Int32} {vP vO vG pD pV pB pX pY rc wt iw : Nat → Int32} {ah be : Nat → Int64} (np : Nat) (hn : np ≤ 120) : ct l yX0_forgetFlow wsX0_forgetFlow rm_forgetFlow D vwCl (pfT k) [.ref (h 0)] (pfW h k vc vP vO vG (nI np) pD pV pB pX pY sv rc ah be wt iw hd wn) (qV D vwCl (pfT k) (fun (u : (Nat → Int32) × (Nat → Int32) × (Nat → Int64)) => ((∀ q, q < np → u.1 q = 0) ∧ ∀ q, np ≤ q → u.1 q = rc q) ∧ ((∀ q, q < np → u.2.1 q = 0) ∧ ∀ q, np ≤ q → u.2.1 q = iw q) ∧ ∀ w, w < np * 6 → u.2.2 w = 0) (fun u => pfW h k vc vP vO vG (nI np) pD pV pB pX pY sv u.1 u.2.2 be wt u.2.1 (nI 0) (nI 0))) 0 0 := by
  refine ct_of (cc := cX0_forgetFlow) (maxL := 2) (ret := none) (by decide) rfl (Nat.le_of_ble_eq_true rfl) ?_
  intro p e s m below meth c A ls hx hb hr hml hlocks hown hnm hts hA hK hP hD hS hl
  have hown : s.vm.findClass RX0 = some m.cls := hown
  have hin := in_forgetFlow
  have hl : lv_has ls 2 [(0, .ref (h 0))] := hl
  refine lv_aload_n hx hb dX0_forgetFlow_0 rfl (lv_at hl 0 rfl) ?_
  refine lv_iconst (v := nI 0) hx hb dX0_forgetFlow_1 (by decide) ?_
  refine pf_p_hd hx hb hts hin hown hK hP hD hS (by decide +kernel) dX0_forgetFlow_2 (fun H locs hP hD hS => ?_)
  refine lv_aload_n hx hb dX0_forgetFlow_5 rfl (lv_at hl 0 rfl) ?_
  refine lv_iconst (v := nI 0) hx hb dX0_forgetFlow_6 (by decide) ?_
  refine pf_p_wn hx hb hts hin hown hK hP hD hS (by decide +kernel) dX0_forgetFlow_7 (fun H locs hP hD hS => ?_)
  refine lv_iconst (v := nI 0) hx hb dX0_forgetFlow_10 (by decide) ?_
  refine lv_istore_n (lv' := [(1, .int (nI 0)), (0, .ref (h 0))]) hx hb dX0_forgetFlow_11 rfl hl (by decide) rfl (fun ls hl => ?_)
  refine lp_fo1 hx hb hml hown hts hA hK hn (rc0 := rc) (iw0 := iw) ?_ _ 0 rc iw _ _ ls (Nat.zero_le _) (⟨fun q hq => absurd hq (Nat.not_lt_zero q), fun _ _ => rfl⟩) (⟨fun q hq => absurd hq (Nat.not_lt_zero q), fun _ _ => rfl⟩) (Nat.lt_succ_self _) hP hD hS (lv_sub hl [1, 0] rfl)
  intro i1 rc1 iw1 H locs ls hr9 hw hP hD hS hl
  refine lv_iconst (v := nI 0) hx hb dX0_forgetFlow_40 (by decide) ?_
  refine lv_istore_n (lv' := [(1, .int (nI 0)), (0, .ref (h 0))]) hx hb dX0_forgetFlow_41 rfl hl (by decide) rfl (fun ls hl => ?_)
  refine lp_fo2 hx hb hml hown hts hA hK hn ?_ _ 0 ah _ _ ls (Nat.zero_le _) (fun w hw => absurd hw (Nat.not_lt_zero w)) (Nat.lt_succ_self _) hP hD hS (lv_sub hl [1, 0] rfl)
  intro i2 ah1 H locs ls ha hP hD hS hl
  exact ret_v hx hb hr hlocks hK hP hD hS dX0_forgetFlow_66 (rc1, iw1, ah1) rfl (⟨hr9, hw, ha⟩)

abbrev rm_beginWays : Room := { frames := 2, cells := 0, slots := 0, locals := 47 }
theorem in_beginWays : ∀ w ∈ u_ws RX0 TX0 18, w ∈ wsX0_beginWays := by decide +kernel
set_option maxHeartbeats 4000000 in
set_option maxRecDepth 100000 in
theorem lp_be1 {p : Program} {l : Launch} {e : Env} {s : State} {m : MethodId} {args : Array Value} {below : List Frame} {meth : Method} {c : Code} {A : Nat → Prop} {Q : State → Prop} {D : va_G} {h : Nat → Nat} {k : Nat → ClassId} {vc pn sv hd wn : Int32} {vP vO vG pD pV pB pX pY rc wt iw : Nat → Int32} {ah : Nat → Int64}  (hx : p.tables.exec = Jvm.exec) (hb : c.code = cX0_beginWays) (hml : c.maxLocals = 3) (hown : s.vm.findClass RX0 = some m.cls) (hts : ∀ w ∈ wsX0_beginWays, w.before args s = true) (hA : ∀ q : Nat, s.heap.size ≤ q → A q) (hK : va_K D vwCl (pfT k) s) 
    (kk : ∀ (i : Nat) (be : Nat → Int64) (H : Heap) (locs : List Loc) (ls : Array Slot), (∀ w, w < 6 → be w = 0) → va_P D vwCl (pfW h k vc vP vO vG pn pD pV pB pX pY sv rc ah be wt iw hd wn) H → va_D A (pfW h k vc vP vO vG pn pD pV pB pX pY sv rc ah be wt iw hd wn) → va_S A s.heap H locs → lv_has ls 3 [(0, .ref (h 0)), (1, .int (nI i))] → W p l e rm_beginWays s m args below meth c H locs 0 0 Q (F0 m 21 ls [])) :
    ∀ (n : Nat) (i : Nat) (be : Nat → Int64) (H : Heap) (locs : List Loc) (ls : Array Slot), (i ≤ 6) → (∀ w, w < i → be w = 0) → 6 - i < n → va_P D vwCl (pfW h k vc vP vO vG pn pD pV pB pX pY sv rc ah be wt iw hd wn) H → va_D A (pfW h k vc vP vO vG pn pD pV pB pX pY sv rc ah be wt iw hd wn) → va_S A s.heap H locs → lv_has ls 3 [(0, .ref (h 0)), (1, .int (nI i))] → W p l e rm_beginWays s m args below meth c H locs 0 0 Q (F0 m 2 ls []) := by
  have hin := in_beginWays
  intro n
  induction n with
  | zero =>
    intro i be H locs ls hi hb6 hmz
    exact absurd hmz (Nat.not_lt_zero _)
  | succ n ih =>
    intro i be H locs ls hi hb6 hmz hP hD hS hl
    refine lv_iload_n hx hb dX0_beginWays_2 rfl (lv_at hl 1 rfl) ?_
    refine lv_bipush (v := 6) hx hb dX0_beginWays_3 (by decide) ?_
    refine lv_icmp_ge (tgt := 21) hx hb dX0_beginWays_5 (by decide) (fun c5 => ?_) (fun c5 => ?_)
    · -- 5 t ge 
      have n5 : 6 ≤ i := (nI_leI (a := 6) (b := i) (by omega) (by omega)).mp c5
      exact kk i be H locs ls (fun w hw => hb6 w (by omega)) hP hD hS (lv_sub hl [0, 1] rfl)
    · -- 5 f ge 
      have n5 : ¬ 6 ≤ i := fun q => c5 ((nI_leI (a := 6) (b := i) (by omega) (by omega)).mpr q)
      refine lv_aload_n hx hb dX0_beginWays_8 rfl (lv_at hl 0 rfl) ?_
      refine pf_g_be hx hb hts hin hown hK hP (by decide +kernel) dX0_beginWays_9 ?_
      refine lv_iload_n hx hb dX0_beginWays_12 rfl (lv_at hl 1 rfl) ?_
      refine lv_lconst (v := 0) hx hb dX0_beginWays_13 (by decide) ?_
      refine pf_s_be (n := i) (x := 0) hx hb hK hP hD hS (by omega) dX0_beginWays_14 (fun H locs hP hD hS => ?_)
      refine lv_iinc (v := nI (i + 1)) (lv' := [(1, .int (nI (i + 1))), (0, .ref (h 0))]) hx hb dX0_beginWays_15 hl (k := 1) rfl (nI_add i 1) (by decide) rfl (fun ls hl => ?_)
      refine lv_goto (tgt := 2) hx hb dX0_beginWays_18 (by decide) ?_
      exact ih (i + 1) (vp_updL be i 0) H locs ls (by omega) (z_s hb6) (by omega) hP hD hS (lv_sub hl [1, 0] rfl)

theorem cp_beginWays_allParts : cpV wsX0_beginWays RX0 110 RX0 yX0_allParts wsX0_allParts cX0_allParts 2 (some .int) 1 := ⟨gX0_beginWays_X0_allParts, ⟨_, rfl⟩, by decide +kernel⟩
theorem cp_beginWays_inWord : cpS wsX0_beginWays RX0 145 yX0_inWord wsX0_inWord cX0_inWord 2 (some .long) 2 := ⟨gX0_beginWays_X0_inWord, ⟨_, rfl⟩, by decide +kernel⟩
theorem cp_beginWays_wordOf : cpS wsX0_beginWays RX0 119 yX0_wordOf wsX0_wordOf cX0_wordOf 1 (some .int) 1 := ⟨gX0_beginWays_X0_wordOf, ⟨_, rfl⟩, by decide +kernel⟩
set_option maxHeartbeats 4000000 in
set_option maxRecDepth 100000 in
theorem lp_be2 {p : Program} {l : Launch} {e : Env} {s : State} {m : MethodId} {args : Array Value} {below : List Frame} {meth : Method} {c : Code} {A : Nat → Prop} {Q : State → Prop} {D : va_G} {h : Nat → Nat} {k : Nat → ClassId} {pn sv hd wn : Int32} {vP vO vG pD pV pB pX pY rc wt iw : Nat → Int32} {ah : Nat → Int64} {nv : Nat} (hx : p.tables.exec = Jvm.exec) (hb : c.code = cX0_beginWays) (hml : c.maxLocals = 3) (hown : s.vm.findClass RX0 = some m.cls) (hts : ∀ w ∈ wsX0_beginWays, w.before args s = true) (hA : ∀ q : Nat, s.heap.size ≤ q → A q) (hK : va_K D vwCl (pfT k) s) (hnv : nv ≤ 20) (hvp : ∀ v, v < nv → lb (vP v) = nI (tN (lb (vP v))) ∧ tN (lb (vP v)) < 256)
    (kk : ∀ (i : Nat) (be : Nat → Int64) (H : Heap) (locs : List Loc) (ls : Array Slot), (∀ w t, w < 6 → t < 64 → (bl (be w) t = true ↔ b0P vP vG nv w t)) → va_P D vwCl (pfW h k (nI nv) vP vO vG pn pD pV pB pX pY sv rc ah be wt iw hd wn) H → va_D A (pfW h k (nI nv) vP vO vG pn pD pV pB pX pY sv rc ah be wt iw hd wn) → va_S A s.heap H locs → lv_has ls 3 [(0, .ref (h 0)), (1, .int (nI i))] → W p l e rm_beginWays s m args below meth c H locs 0 0 Q (F0 m 75 ls [])) :
    ∀ (n : Nat) (i : Nat) (be : Nat → Int64) (H : Heap) (locs : List Loc) (ls : Array Slot), (i ≤ nv) → (∀ w t, w < 6 → t < 64 → (bl (be w) t = true ↔ b0P vP vG i w t)) → nv - i < n → va_P D vwCl (pfW h k (nI nv) vP vO vG pn pD pV pB pX pY sv rc ah be wt iw hd wn) H → va_D A (pfW h k (nI nv) vP vO vG pn pD pV pB pX pY sv rc ah be wt iw hd wn) → va_S A s.heap H locs → lv_has ls 3 [(0, .ref (h 0)), (1, .int (nI i))] → W p l e rm_beginWays s m args below meth c H locs 0 0 Q (F0 m 23 ls []) := by
  have hin := in_beginWays
  intro n
  induction n with
  | zero =>
    intro i be H locs ls hi hbi hmz
    exact absurd hmz (Nat.not_lt_zero _)
  | succ n ih =>
    intro i be H locs ls hi hbi hmz hP hD hS hl
    refine lv_iload_n hx hb dX0_beginWays_23 rfl (lv_at hl 1 rfl) ?_
    refine lv_aload_n hx hb dX0_beginWays_24 rfl (lv_at hl 0 rfl) ?_
    refine pf_g_vc hx hb hts hin hown hK hP (by decide +kernel) dX0_beginWays_25 ?_
    refine lv_icmp_ge (tgt := 75) hx hb dX0_beginWays_28 (by decide) (fun c28 => ?_) (fun c28 => ?_)
    · -- 28 t ge 
      have n28 : nv ≤ i := (nI_leI (a := nv) (b := i) (by omega) (by omega)).mp c28
      exact kk i be H locs ls ((show i = nv by omega) ▸ hbi) hP hD hS (lv_sub hl [0, 1] rfl)
    · -- 28 f ge 
      have n28 : ¬ nv ≤ i := fun q => c28 ((nI_leI (a := nv) (b := i) (by omega) (by omega)).mpr q)
      refine lv_aload_n hx hb dX0_beginWays_31 rfl (lv_at hl 0 rfl) ?_
      refine pf_g_vG hx hb hts hin hown hK hP (by decide +kernel) dX0_beginWays_32 ?_
      refine lv_iload_n hx hb dX0_beginWays_35 rfl (lv_at hl 1 rfl) ?_
      refine pf_l_vG (n := i) hx hb hK hP (by omega) dX0_beginWays_36 ?_
      refine lv_if_eq (tgt := 44) hx hb dX0_beginWays_37 (by decide) (fun c37 => ?_) (fun c37 => ?_)
      · -- 37 t eq 
        refine lv_iconst (v := nI 0) hx hb dX0_beginWays_44 (by decide) ?_
        refine lv_istore_n (lv' := [(2, .int (nI 0)), (0, .ref (h 0)), (1, .int (nI i))]) hx hb dX0_beginWays_45 rfl hl (by decide) rfl (fun ls hl => ?_)
        refine lv_aload_n hx hb dX0_beginWays_46 rfl (lv_at hl 1 rfl) ?_
        refine pf_g_be hx hb hts hin hown hK hP (by decide +kernel) dX0_beginWays_47 ?_
        refine lv_iload_n hx hb dX0_beginWays_50 rfl (lv_at hl 0 rfl) ?_
        refine lv_iload_n hx hb dX0_beginWays_51 rfl (lv_at hl 2 rfl) ?_
        refine call_si (As := [.int (nI i)]) (rest := [.int (nI 0), .ref (h 11)]) ⟨hx, hb, hml, hown, hts⟩ (c_wordOf i (by omega)) cp_beginWays_wordOf ⟨rfl, rfl⟩ ⟨Nat.le_of_ble_eq_true rfl, Nat.le_of_ble_eq_true rfl⟩ rfl hl.1 rfl (Nat.le_of_ble_eq_true rfl) dX0_beginWays_52 ⟨Nat.zero_le _, Nat.zero_le _⟩ hK hP hS hA (fun r52 u H locs p52 hP hS => ?_)
        try dsimp only at p52
        obtain rfl := p52
        refine lv_iadd hx hb dX0_beginWays_55 ?_
        refine lv_topi (fun x_1 ex_1 => ?_)
        obtain rfl : x_1 = nI (0 + (i / 8)) := ex_1.trans (nI_add 0 (i / 8))
        refine lv_dup2_11 hx hb dX0_beginWays_56 rfl rfl ?_
        refine pf_l_be (n := (0 + (i / 8))) hx hb hK hP (by omega) dX0_beginWays_57 ?_
        refine lv_iload_n hx hb dX0_beginWays_58 rfl (lv_at hl 2 rfl) ?_
        refine lv_aload_n hx hb dX0_beginWays_59 rfl (lv_at hl 1 rfl) ?_
        refine lv_iload_n hx hb dX0_beginWays_60 rfl (lv_at hl 2 rfl) ?_
        refine call_vi (As := [.int (nI i)]) (rest := [.int (nI i), .long (be (0 + (i / 8))), .int (nI (0 + (i / 8))), .ref (h 11)]) ⟨hx, hb, hml, hown, hts⟩ (c_allParts i (by omega)) cp_beginWays_allParts ⟨rfl, rfl⟩ ⟨Nat.le_of_ble_eq_true rfl, Nat.le_of_ble_eq_true rfl⟩ rfl rfl 0 rfl rfl hl.1 rfl (Nat.le_of_ble_eq_true rfl) dX0_beginWays_61 ⟨Nat.zero_le _, Nat.zero_le _⟩ hK hP hD hS hA (fun r61 u H locs p61 hP hD hS => ?_)
        try dsimp only at p61
        obtain rfl := p61.trans (hvp i (by omega)).1
        refine call_sl (As := [.int (nI i), .int (nI (tN (lb (vP i))))]) (rest := [.long (be (0 + (i / 8))), .int (nI (0 + (i / 8))), .ref (h 11)]) ⟨hx, hb, hml, hown, hts⟩ (c_inWord i (tN (lb (vP i))) (by omega) (by have := (hvp i (by omega)).2; omega)) cp_beginWays_inWord ⟨rfl, rfl⟩ ⟨Nat.le_of_ble_eq_true rfl, Nat.le_of_ble_eq_true rfl⟩ rfl hl.1 rfl (Nat.le_of_ble_eq_true rfl) dX0_beginWays_64 ⟨Nat.zero_le _, Nat.zero_le _⟩ hK hP hS hA (fun r64 u H locs p64 hP hS => ?_)
        try dsimp only at p64
        obtain rfl := p64
        refine lv_lor hx hb dX0_beginWays_67 ?_
        refine pf_s_be (n := (0 + (i / 8))) (x := (be (0 + (i / 8))) ||| (mkw i (tN (lb (vP i))))) hx hb hK hP hD hS (by omega) dX0_beginWays_68 (fun H locs hP hD hS => ?_)
        refine lv_iinc (v := nI (i + 1)) (lv' := [(1, .int (nI (i + 1))), (2, .int (nI 0)), (0, .ref (h 0))]) hx hb dX0_beginWays_69 hl (k := 2) rfl (nI_add i 1) (by decide) rfl (fun ls hl => ?_)
        refine lv_goto (tgt := 23) hx hb dX0_beginWays_72 (by decide) ?_
        exact ih (i + 1) (vp_updL be (0 + (i / 8)) ((be (0 + (i / 8))) ||| (mkw i (tN (lb (vP i)))))) H locs ls (by omega) (b0_s (by rw [if_pos c37]) hbi) (by omega) hP hD hS (lv_sub hl [2, 0] rfl)
      · -- 37 f eq 
        refine lv_iconst (v := nI 3) hx hb dX0_beginWays_40 (by decide) ?_
        refine lv_goto (tgt := 45) hx hb dX0_beginWays_41 (by decide) ?_
        refine lv_istore_n (lv' := [(2, .int (nI 3)), (0, .ref (h 0)), (1, .int (nI i))]) hx hb dX0_beginWays_45 rfl hl (by decide) rfl (fun ls hl => ?_)
        refine lv_aload_n hx hb dX0_beginWays_46 rfl (lv_at hl 1 rfl) ?_
        refine pf_g_be hx hb hts hin hown hK hP (by decide +kernel) dX0_beginWays_47 ?_
        refine lv_iload_n hx hb dX0_beginWays_50 rfl (lv_at hl 0 rfl) ?_
        refine lv_iload_n hx hb dX0_beginWays_51 rfl (lv_at hl 2 rfl) ?_
        refine call_si (As := [.int (nI i)]) (rest := [.int (nI 3), .ref (h 11)]) ⟨hx, hb, hml, hown, hts⟩ (c_wordOf i (by omega)) cp_beginWays_wordOf ⟨rfl, rfl⟩ ⟨Nat.le_of_ble_eq_true rfl, Nat.le_of_ble_eq_true rfl⟩ rfl hl.1 rfl (Nat.le_of_ble_eq_true rfl) dX0_beginWays_52 ⟨Nat.zero_le _, Nat.zero_le _⟩ hK hP hS hA (fun r52 u H locs p52 hP hS => ?_)
        try dsimp only at p52
        obtain rfl := p52
        refine lv_iadd hx hb dX0_beginWays_55 ?_
        refine lv_topi (fun x_2 ex_2 => ?_)
        obtain rfl : x_2 = nI (3 + (i / 8)) := ex_2.trans (nI_add 3 (i / 8))
        refine lv_dup2_11 hx hb dX0_beginWays_56 rfl rfl ?_
        refine pf_l_be (n := (3 + (i / 8))) hx hb hK hP (by omega) dX0_beginWays_57 ?_
        refine lv_iload_n hx hb dX0_beginWays_58 rfl (lv_at hl 2 rfl) ?_
        refine lv_aload_n hx hb dX0_beginWays_59 rfl (lv_at hl 1 rfl) ?_
        refine lv_iload_n hx hb dX0_beginWays_60 rfl (lv_at hl 2 rfl) ?_
        refine call_vi (As := [.int (nI i)]) (rest := [.int (nI i), .long (be (3 + (i / 8))), .int (nI (3 + (i / 8))), .ref (h 11)]) ⟨hx, hb, hml, hown, hts⟩ (c_allParts i (by omega)) cp_beginWays_allParts ⟨rfl, rfl⟩ ⟨Nat.le_of_ble_eq_true rfl, Nat.le_of_ble_eq_true rfl⟩ rfl rfl 0 rfl rfl hl.1 rfl (Nat.le_of_ble_eq_true rfl) dX0_beginWays_61 ⟨Nat.zero_le _, Nat.zero_le _⟩ hK hP hD hS hA (fun r61 u H locs p61 hP hD hS => ?_)
        try dsimp only at p61
        obtain rfl := p61.trans (hvp i (by omega)).1
        refine call_sl (As := [.int (nI i), .int (nI (tN (lb (vP i))))]) (rest := [.long (be (3 + (i / 8))), .int (nI (3 + (i / 8))), .ref (h 11)]) ⟨hx, hb, hml, hown, hts⟩ (c_inWord i (tN (lb (vP i))) (by omega) (by have := (hvp i (by omega)).2; omega)) cp_beginWays_inWord ⟨rfl, rfl⟩ ⟨Nat.le_of_ble_eq_true rfl, Nat.le_of_ble_eq_true rfl⟩ rfl hl.1 rfl (Nat.le_of_ble_eq_true rfl) dX0_beginWays_64 ⟨Nat.zero_le _, Nat.zero_le _⟩ hK hP hS hA (fun r64 u H locs p64 hP hS => ?_)
        try dsimp only at p64
        obtain rfl := p64
        refine lv_lor hx hb dX0_beginWays_67 ?_
        refine pf_s_be (n := (3 + (i / 8))) (x := (be (3 + (i / 8))) ||| (mkw i (tN (lb (vP i))))) hx hb hK hP hD hS (by omega) dX0_beginWays_68 (fun H locs hP hD hS => ?_)
        refine lv_iinc (v := nI (i + 1)) (lv' := [(1, .int (nI (i + 1))), (2, .int (nI 3)), (0, .ref (h 0))]) hx hb dX0_beginWays_69 hl (k := 2) rfl (nI_add i 1) (by decide) rfl (fun ls hl => ?_)
        refine lv_goto (tgt := 23) hx hb dX0_beginWays_72 (by decide) ?_
        exact ih (i + 1) (vp_updL be (3 + (i / 8)) ((be (3 + (i / 8))) ||| (mkw i (tN (lb (vP i)))))) H locs ls (by omega) (b0_s (by rw [if_neg c37]) hbi) (by omega) hP hD hS (lv_sub hl [2, 0] rfl)

theorem cp_beginWays_goOnTo : cpV wsX0_beginWays RX0 139 RX0 yX0_goOnTo wsX0_goOnTo cX0_goOnTo 7 none 1 := ⟨gX0_beginWays_X0_goOnTo, ⟨_, rfl⟩, by decide +kernel⟩
set_option maxHeartbeats 4000000 in
set_option maxRecDepth 100000 in
theorem c_beginWays {l : Launch} {D : va_G} {h : Nat → Nat} {k : Nat → ClassId} {sv : Int32} {vP vO vG pD pV pB pX pY rc wt iw : Nat → Int32} {ah be : Nat → Int64} (nv np : Nat) (hnv : nv ≤ 20) (hvp : ∀ v, v < nv → lb (vP v) = nI (tN (lb (vP v))) ∧ tN (lb (vP v)) < 256) (hn : np ≤ 120) : ct l yX0_beginWays wsX0_beginWays rm_beginWays D vwCl (pfT k) [.ref (h 0)] (pfW h k (nI nv) vP vO vG (nI np) pD pV pB pX pY sv rc ah be wt iw (nI 0) (nI 0)) (qV D vwCl (pfT k) (fun (u : (Nat → Int64) × (Nat → Int32) × (Nat → Int32) × (Nat → Int32) × (Nat → Int64) × Nat) => (∀ w t, w < 6 → t < 64 → (bl (u.1 w) t = true ↔ b0P vP vG nv w t)) ∧ GoX np u.1 0 rc iw wt ah 0 0 u.2.1 u.2.2.1 u.2.2.2.1 u.2.2.2.2.1 u.2.2.2.2.2) (fun u => pfW h k (nI nv) vP vO vG (nI np) pD pV pB pX pY sv u.2.1 u.2.2.2.2.1 u.1 u.2.2.2.1 u.2.2.1 (nI 0) (nI u.2.2.2.2.2))) 0 0 := by
  refine ct_of (cc := cX0_beginWays) (maxL := 3) (ret := none) (by decide) rfl (Nat.le_of_ble_eq_true rfl) ?_
  intro p e s m below meth c A ls hx hb hr hml hlocks hown hnm hts hA hK hP hD hS hl
  have hown : s.vm.findClass RX0 = some m.cls := hown
  have hin := in_beginWays
  have hl : lv_has ls 3 [(0, .ref (h 0))] := hl
  refine lv_iconst (v := nI 0) hx hb dX0_beginWays_0 (by decide) ?_
  refine lv_istore_n (lv' := [(1, .int (nI 0)), (0, .ref (h 0))]) hx hb dX0_beginWays_1 rfl hl (by decide) rfl (fun ls hl => ?_)
  refine lp_be1 hx hb hml hown hts hA hK  ?_ _ 0 be _ _ ls (Nat.zero_le _) (fun w hw => absurd hw (Nat.not_lt_zero w)) (Nat.lt_succ_self _) hP hD hS (lv_sub hl [1, 0] rfl)
  intro i1 be1 H locs ls hb6 hP hD hS hl
  refine lv_iconst (v := nI 0) hx hb dX0_beginWays_21 (by decide) ?_
  refine lv_istore_n (lv' := [(1, .int (nI 0)), (0, .ref (h 0))]) hx hb dX0_beginWays_22 rfl hl (by decide) rfl (fun ls hl => ?_)
  refine lp_be2 hx hb hml hown hts hA hK hnv hvp ?_ _ 0 be1 _ _ ls (Nat.zero_le _) (b0_0 hb6) (Nat.lt_succ_self _) hP hD hS (lv_sub hl [1, 0] rfl)
  intro i2 be2 H locs ls hbi hP hD hS hl
  refine lv_aload_n hx hb dX0_beginWays_75 rfl (lv_at hl 0 rfl) ?_
  refine lv_iconst (v := 0) hx hb dX0_beginWays_76 (by decide) ?_
  refine call_vv (As := [.int 0]) (rest := []) ⟨hx, hb, hml, hown, hts⟩ (c_goOnTo 0 np 0 0 hn (by decide) (by decide)) cp_beginWays_goOnTo ⟨rfl, rfl⟩ ⟨Nat.le_of_ble_eq_true rfl, Nat.le_of_ble_eq_true rfl⟩ rfl rfl 0 rfl rfl hl.1 rfl (Nat.le_of_ble_eq_true rfl) dX0_beginWays_77 ⟨Nat.zero_le _, Nat.zero_le _⟩ hK hP hD hS hA (fun u H locs p77 hP hD hS => ?_)
  obtain ⟨rc_77, iw_77, wt_77, ah_77, wn_77⟩ := u
  have hP : va_P D vwCl (pfW h k (nI nv) vP vO vG (nI np) pD pV pB pX pY sv rc_77 ah_77 be2 wt_77 iw_77 (nI 0) (nI wn_77)) H := hP
  have hD : va_D A (pfW h k (nI nv) vP vO vG (nI np) pD pV pB pX pY sv rc_77 ah_77 be2 wt_77 iw_77 (nI 0) (nI wn_77)) := hD
  try dsimp only at p77
  exact ret_v hx hb hr hlocks hK hP hD hS dX0_beginWays_80 (be2, rc_77, iw_77, wt_77, ah_77, wn_77) rfl (⟨hbi, p77⟩)

abbrev rm_solve : Room := { frames := 3, cells := 0, slots := 0, locals := 70 }
theorem in_solve : ∀ w ∈ u_ws RX0 TX0 18, w ∈ wsX0_solve := by decide +kernel
theorem cp_solve_goOnTo : cpV wsX0_solve RX0 139 RX0 yX0_goOnTo wsX0_goOnTo cX0_goOnTo 7 none 1 := ⟨gX0_solve_X0_goOnTo, ⟨_, rfl⟩, by decide +kernel⟩
theorem cp_solve_passThrough : cpV wsX0_solve RX0 135 RX0 yX0_passThrough wsX0_passThrough cX0_passThrough 10 none 1 := ⟨gX0_solve_X0_passThrough, ⟨_, rfl⟩, by decide +kernel⟩
theorem cp_solve_takeWaiting : cpV wsX0_solve RX0 132 RX0 yX0_takeWaiting wsX0_takeWaiting cX0_takeWaiting 2 (some .int) 0 := ⟨gX0_solve_X0_takeWaiting, ⟨_, rfl⟩, by decide +kernel⟩
set_option maxHeartbeats 4000000 in
set_option maxRecDepth 100000 in
theorem lp_sol {p : Program} {l : Launch} {e : Env} {s : State} {m : MethodId} {args : Array Value} {below : List Frame} {meth : Method} {c : Code} {A : Nat → Prop} {Q : State → Prop} {D : va_G} {h : Nat → Nat} {k : Nat → ClassId} {vc sv : Int32} {vP vO vG pD pV pB pX pY : Nat → Int32} {nv np : Nat} (hx : p.tables.exec = Jvm.exec) (hb : c.code = cX0_solve) (hml : c.maxLocals = 3) (hown : s.vm.findClass RX0 = some m.cls) (hts : ∀ w ∈ wsX0_solve, w.before args s = true) (hA : ∀ q : Nat, s.heap.size ≤ q → A q) (hK : va_K D vwCl (pfT k) s) (hn : np ≤ 120) (hpt : ∀ q, q < np → pV q = nI (tN (pV q)) ∧ tN (pV q) < 20 ∧ pB q = nI (tN (pB q)) ∧ tN (pB q) < 256)
    (kk : ∀ (tn : Nat) (hN : Nat) (wN : Nat) (rc : Nat → Int32) (iw : Nat → Int32) (wt : Nat → Int32) (ah : Nat → Int64) (be : Nat → Int64) (H : Heap) (locs : List Loc) (ls : Array Slot), (Sv np (ed pX pY np) (gnP pD pV pB) (klP pD pV pB) (b0P vP vG nv) rc iw wt ah hN wN tn (fun _ => False)) → (Bg np (b0P vP vG nv) rc ah) → (46200 ≤ tn ∨ wN = 0) → va_P D vwCl (pfW h k vc vP vO vG (nI np) pD pV pB pX pY sv rc ah be wt iw (nI hN) (nI wN)) H → va_D A (pfW h k vc vP vO vG (nI np) pD pV pB pX pY sv rc ah be wt iw (nI hN) (nI wN)) → va_S A s.heap H locs → lv_has ls 3 [(0, .ref (h 0)), (1, .int (nI tn))] → W p l e rm_solve s m args below meth c H locs 0 0 Q (F0 m 67 ls [])) :
    ∀ (n : Nat) (tn : Nat) (hN : Nat) (wN : Nat) (rc : Nat → Int32) (iw : Nat → Int32) (wt : Nat → Int32) (ah : Nat → Int64) (be : Nat → Int64) (H : Heap) (locs : List Loc) (ls : Array Slot), (Sv np (ed pX pY np) (gnP pD pV pB) (klP pD pV pB) (b0P vP vG nv) rc iw wt ah hN wN tn (fun _ => False)) → (Bg np (b0P vP vG nv) rc ah) → 46200 - tn < n → va_P D vwCl (pfW h k vc vP vO vG (nI np) pD pV pB pX pY sv rc ah be wt iw (nI hN) (nI wN)) H → va_D A (pfW h k vc vP vO vG (nI np) pD pV pB pX pY sv rc ah be wt iw (nI hN) (nI wN)) → va_S A s.heap H locs → lv_has ls 3 [(0, .ref (h 0)), (1, .int (nI tn))] → W p l e rm_solve s m args below meth c H locs 0 0 Q (F0 m 18 ls []) := by
  have hin := in_solve
  intro n
  induction n with
  | zero =>
    intro tn hN wN rc iw wt ah be H locs ls hS0 hB0 hmz
    exact absurd hmz (Nat.not_lt_zero _)
  | succ n ih =>
    intro tn hN wN rc iw wt ah be H locs ls hS0 hB0 hmz hP hD hS hl
    have hgl := gs_le rc ah
    have htw : tn + wN ≤ gs rc ah := hS0.2.2.2.2.1
    have hw120 : wN ≤ 120 := hS0.2.1.2.1
    have hh120 : hN < 120 := hS0.2.1.1
    refine lv_iload_n hx hb dX0_solve_18 rfl (lv_at hl 1 rfl) ?_
    refine lv_ldc (v := 46200) hx hb hown (hts (.constant RX0 128 46200) (by decide +kernel)) dX0_solve_19 ?_
    refine lv_icmp_ge (tgt := 67) hx hb dX0_solve_21 (by decide) (fun c21 => ?_) (fun c21 => ?_)
    · -- 21 t ge 
      have n21 : 46200 ≤ tn := (nI_leI (by decide) (by omega)).mp c21
      exact kk tn hN wN rc iw wt ah be H locs ls (hS0) (hB0) (Or.inl n21) hP hD hS (lv_sub hl [0, 1] rfl)
    · -- 21 f ge 
      have n21 : ¬ 46200 ≤ tn := fun q => c21 ((nI_leI (by decide) (by omega)).mpr q)
      refine lv_aload_n hx hb dX0_solve_24 rfl (lv_at hl 0 rfl) ?_
      refine pf_g_wn hx hb hts hin hown hK hP (by decide +kernel) dX0_solve_25 ?_
      refine lv_if_le (tgt := 67) hx hb dX0_solve_28 (by decide) (fun c28 => ?_) (fun c28 => ?_)
      · -- 28 t le 
        have n28 : wN = 0 := by
          have := (nI_leI (a := wN) (b := 0) (by omega) (by decide)).mp c28
          omega
        exact kk tn hN wN rc iw wt ah be H locs ls (hS0) (hB0) (Or.inr n28) hP hD hS (lv_sub hl [0, 1] rfl)
      · -- 28 f le 
        have n28 : 0 < wN := by
          rcases Nat.eq_zero_or_pos wN with q | q
          · subst q; exact absurd (Int32.le_refl 0) c28
          · exact q
        obtain ⟨j, hj, hwt, hiw, hRg⟩ := Rg_take hS0.2.1 hn n28
        obtain ⟨hv1, hv2, hb1, hb2⟩ := hpt j hj
        refine lv_aload_n hx hb dX0_solve_31 rfl (lv_at hl 0 rfl) ?_
        refine call_vi (As := []) (rest := []) ⟨hx, hb, hml, hown, hts⟩ (c_takeWaiting j hN wN (by omega) hh120 n28 hw120 hwt) cp_solve_takeWaiting ⟨rfl, rfl⟩ ⟨Nat.le_of_ble_eq_true rfl, Nat.le_of_ble_eq_true rfl⟩ rfl rfl 0 rfl rfl hl.1 rfl (Nat.le_of_ble_eq_true rfl) dX0_solve_32 ⟨Nat.zero_le _, Nat.zero_le _⟩ hK hP hD hS hA (fun r32 u H locs p32 hP hD hS => ?_)
        obtain ⟨iw_32, hd_32, wn_32⟩ := u
        have hP : va_P D vwCl (pfW h k vc vP vO vG (nI np) pD pV pB pX pY sv rc ah be wt iw_32 (nI hd_32) (nI wn_32)) H := hP
        have hD : va_D A (pfW h k vc vP vO vG (nI np) pD pV pB pX pY sv rc ah be wt iw_32 (nI hd_32) (nI wn_32)) := hD
        try dsimp only at p32
        obtain ⟨rfl, rfl, rfl, rfl⟩ := p32
        refine lv_istore_n (lv' := [(2, .int (nI j)), (0, .ref (h 0)), (1, .int (nI tn))]) hx hb dX0_solve_35 rfl hl (by decide) rfl (fun ls hl => ?_)
        refine lv_aload_n hx hb dX0_solve_36 rfl (lv_at hl 1 rfl) ?_
        refine lv_iload_n hx hb dX0_solve_37 rfl (lv_at hl 0 rfl) ?_
        refine call_vv (As := [.int (nI j)]) (rest := []) ⟨hx, hb, hml, hown, hts⟩ (c_passThrough j (by omega) hv1 hv2 hb1 hb2) cp_solve_passThrough ⟨rfl, rfl⟩ ⟨Nat.le_of_ble_eq_true rfl, Nat.le_of_ble_eq_true rfl⟩ rfl rfl 0 rfl rfl hl.1 rfl (Nat.le_of_ble_eq_true rfl) dX0_solve_38 ⟨Nat.zero_le _, Nat.zero_le _⟩ hK hP hD hS hA (fun u H locs p38 hP hD hS => ?_)
        obtain ⟨be_38, rfl⟩ : ∃ z, z = u := ⟨_, rfl⟩
        have hP : va_P D vwCl (pfW h k vc vP vO vG (nI np) pD pV pB pX pY sv rc ah be_38 wt (upd iw j 0) (nI ((hN + 1) % 120)) (nI (wN - 1))) H := hP
        have hD : va_D A (pfW h k vc vP vO vG (nI np) pD pV pB pX pY sv rc ah be_38 wt (upd iw j 0) (nI ((hN + 1) % 120)) (nI (wN - 1))) := hD
        try dsimp only at p38
        refine lv_aload_n hx hb dX0_solve_41 rfl (lv_at hl 1 rfl) ?_
        refine lv_aload_n hx hb dX0_solve_42 rfl (lv_at hl 1 rfl) ?_
        refine pf_g_pX hx hb hts hin hown hK hP (by decide +kernel) dX0_solve_43 ?_
        refine lv_iload_n hx hb dX0_solve_46 rfl (lv_at hl 0 rfl) ?_
        refine pf_l_pX (n := j) hx hb hK hP (by omega) dX0_solve_47 ?_
        refine call_vv (As := [.int (pX j)]) (rest := []) ⟨hx, hb, hml, hown, hts⟩ (c_goOnTo (pX j) np ((hN + 1) % 120) (wN - 1) hn (Nat.mod_lt _ (by decide)) (by omega)) cp_solve_goOnTo ⟨rfl, rfl⟩ ⟨Nat.le_of_ble_eq_true rfl, Nat.le_of_ble_eq_true rfl⟩ rfl rfl 0 rfl rfl hl.1 rfl (Nat.le_of_ble_eq_true rfl) dX0_solve_48 ⟨Nat.zero_le _, Nat.zero_le _⟩ hK hP hD hS hA (fun u H locs p48 hP hD hS => ?_)
        obtain ⟨rc_48, iw_48, wt_48, ah_48, wn_48⟩ := u
        have hP : va_P D vwCl (pfW h k vc vP vO vG (nI np) pD pV pB pX pY sv rc_48 ah_48 be_38 wt_48 iw_48 (nI ((hN + 1) % 120)) (nI wn_48)) H := hP
        have hD : va_D A (pfW h k vc vP vO vG (nI np) pD pV pB pX pY sv rc_48 ah_48 be_38 wt_48 iw_48 (nI ((hN + 1) % 120)) (nI wn_48)) := hD
        try dsimp only at p48
        have hw48 : wn_48 ≤ 120 := GoX_le hn hRg p48 hj
        refine lv_aload_n hx hb dX0_solve_51 rfl (lv_at hl 1 rfl) ?_
        refine lv_aload_n hx hb dX0_solve_52 rfl (lv_at hl 1 rfl) ?_
        refine pf_g_pY hx hb hts hin hown hK hP (by decide +kernel) dX0_solve_53 ?_
        refine lv_iload_n hx hb dX0_solve_56 rfl (lv_at hl 0 rfl) ?_
        refine pf_l_pY (n := j) hx hb hK hP (by omega) dX0_solve_57 ?_
        refine call_vv (As := [.int (pY j)]) (rest := []) ⟨hx, hb, hml, hown, hts⟩ (c_goOnTo (pY j) np ((hN + 1) % 120) wn_48 hn (Nat.mod_lt _ (by decide)) hw48) cp_solve_goOnTo ⟨rfl, rfl⟩ ⟨Nat.le_of_ble_eq_true rfl, Nat.le_of_ble_eq_true rfl⟩ rfl rfl 0 rfl rfl hl.1 rfl (Nat.le_of_ble_eq_true rfl) dX0_solve_58 ⟨Nat.zero_le _, Nat.zero_le _⟩ hK hP hD hS hA (fun u H locs p58 hP hD hS => ?_)
        obtain ⟨rc_58, iw_58, wt_58, ah_58, wn_58⟩ := u
        have hP : va_P D vwCl (pfW h k vc vP vO vG (nI np) pD pV pB pX pY sv rc_58 ah_58 be_38 wt_58 iw_58 (nI ((hN + 1) % 120)) (nI wn_58)) H := hP
        have hD : va_D A (pfW h k vc vP vO vG (nI np) pD pV pB pX pY sv rc_58 ah_58 be_38 wt_58 iw_58 (nI ((hN + 1) % 120)) (nI wn_58)) := hD
        try dsimp only at p58
        refine lv_iinc (v := nI (tn + 1)) (lv' := [(1, .int (nI (tn + 1))), (2, .int (nI j)), (0, .ref (h 0))]) hx hb dX0_solve_61 hl (k := 2) rfl (nI_add tn 1) (by decide) rfl (fun ls hl => ?_)
        refine lv_goto (tgt := 18) hx hb dX0_solve_64 (by decide) ?_
        exact ih (tn + 1) ((hN + 1) % 120) wn_58 rc_58 iw_58 wt_58 ah_58 be_38 H locs ls ((it_all hn hj hS0 hB0 hiw n28 hRg (fun w i hw hi => by rw [p38 w hw]; exact Tw_bits hv2 hi) p48 p58).1) ((it_all hn hj hS0 hB0 hiw n28 hRg (fun w i hw hi => by rw [p38 w hw]; exact Tw_bits hv2 hi) p48 p58).2) (by omega) hP hD hS (lv_sub hl [2, 0] rfl)

theorem cp_solve_beginWays : cpV wsX0_solve RX0 125 RX0 yX0_beginWays wsX0_beginWays cX0_beginWays 3 none 0 := ⟨gX0_solve_X0_beginWays, ⟨_, rfl⟩, by decide +kernel⟩
theorem cp_solve_forgetFlow : cpV wsX0_solve RX0 122 RX0 yX0_forgetFlow wsX0_forgetFlow cX0_forgetFlow 2 none 0 := ⟨gX0_solve_X0_forgetFlow, ⟨_, rfl⟩, by decide +kernel⟩
set_option maxHeartbeats 4000000 in
set_option maxRecDepth 100000 in
theorem c_solve {l : Launch} {D : va_G} {h : Nat → Nat} {k : Nat → ClassId} {sv : Int32} {vP vO vG pD pV pB pX pY rc wt iw : Nat → Int32} {ah be : Nat → Int64} (nv np hN wN : Nat) (hg : GI nv np vP pV pB) (hz : ZI nv np vP vG pD pV pB pX pY sv rc iw ah) : ct l yX0_solve wsX0_solve rm_solve D vwCl (pfT k) [.ref (h 0)] (pfW h k (nI nv) vP vO vG (nI np) pD pV pB pX pY sv rc ah be wt iw (nI hN) (nI wN)) (qV D vwCl (pfT k) (fun (u : Int32 × (Nat → Int32) × (Nat → Int32) × (Nat → Int32) × (Nat → Int64) × (Nat → Int64) × Nat × Nat) => SP nv np vP vG pD pV pB pX pY u.1 u.2.1 u.2.2.1 u.2.2.2.2.1) (fun u => pfW h k (nI nv) vP vO vG (nI np) pD pV pB pX pY u.1 u.2.1 u.2.2.2.2.1 u.2.2.2.2.2.1 u.2.2.2.1 u.2.2.1 (nI u.2.2.2.2.2.2.1) (nI u.2.2.2.2.2.2.2))) 0 0 := by
  refine ct_of (cc := cX0_solve) (maxL := 3) (ret := none) (by decide) rfl (Nat.le_of_ble_eq_true rfl) ?_
  intro p e s m below meth c A ls hx hb hr hml hlocks hown hnm hts hA hK hP hD hS hl
  have hown : s.vm.findClass RX0 = some m.cls := hown
  have hin := in_solve
  have hl : lv_has ls 3 [(0, .ref (h 0))] := hl
  obtain ⟨hnv, hn, hvp, hpt⟩ := hg
  refine lv_aload_n hx hb dX0_solve_0 rfl (lv_at hl 0 rfl) ?_
  refine pf_g_sv hx hb hts hin hown hK hP (by decide +kernel) dX0_solve_1 ?_
  refine lv_if_eq (tgt := 8) hx hb dX0_solve_4 (by decide) (fun c4 => ?_) (fun c4 => ?_)
  · -- 4 t eq 
    refine lv_aload_n hx hb dX0_solve_8 rfl (lv_at hl 0 rfl) ?_
    refine call_vv (As := []) (rest := []) ⟨hx, hb, hml, hown, hts⟩ (c_forgetFlow np hn) cp_solve_forgetFlow ⟨rfl, rfl⟩ ⟨Nat.le_of_ble_eq_true rfl, Nat.le_of_ble_eq_true rfl⟩ rfl rfl 0 rfl rfl hl.1 rfl (Nat.le_of_ble_eq_true rfl) dX0_solve_9 ⟨Nat.zero_le _, Nat.zero_le _⟩ hK hP hD hS hA (fun u H locs p9 hP hD hS => ?_)
    obtain ⟨rc_9, iw_9, ah_9⟩ := u
    have hP : va_P D vwCl (pfW h k (nI nv) vP vO vG (nI np) pD pV pB pX pY sv rc_9 ah_9 be wt iw_9 (nI 0) (nI 0)) H := hP
    have hD : va_D A (pfW h k (nI nv) vP vO vG (nI np) pD pV pB pX pY sv rc_9 ah_9 be wt iw_9 (nI 0) (nI 0)) := hD
    try dsimp only at p9
    refine lv_aload_n hx hb dX0_solve_12 rfl (lv_at hl 0 rfl) ?_
    refine call_vv (As := []) (rest := []) ⟨hx, hb, hml, hown, hts⟩ (c_beginWays nv np hnv hvp hn) cp_solve_beginWays ⟨rfl, rfl⟩ ⟨Nat.le_of_ble_eq_true rfl, Nat.le_of_ble_eq_true rfl⟩ rfl rfl 0 rfl rfl hl.1 rfl (Nat.le_of_ble_eq_true rfl) dX0_solve_13 ⟨Nat.zero_le _, Nat.zero_le _⟩ hK hP hD hS hA (fun u H locs p13 hP hD hS => ?_)
    obtain ⟨be_13, rc_13, iw_13, wt_13, ah_13, wn_13⟩ := u
    have hP : va_P D vwCl (pfW h k (nI nv) vP vO vG (nI np) pD pV pB pX pY sv rc_13 ah_13 be_13 wt_13 iw_13 (nI 0) (nI wn_13)) H := hP
    have hD : va_D A (pfW h k (nI nv) vP vO vG (nI np) pD pV pB pX pY sv rc_13 ah_13 be_13 wt_13 iw_13 (nI 0) (nI wn_13)) := hD
    try dsimp only at p13
    have sol := it_begin (pX := pX) (pY := pY) (gn := gnP pD pV pB) (kl := klP pD pV pB) hn (rz_01 p9.1 hz.2.1) p9.1.1 (iz_0 p9.2.1 hz.1) p9.2.2 p13.1 p13.2
    refine lv_iconst (v := nI 0) hx hb dX0_solve_16 (by decide) ?_
    refine lv_istore_n (lv' := [(1, .int (nI 0)), (0, .ref (h 0))]) hx hb dX0_solve_17 rfl hl (by decide) rfl (fun ls hl => ?_)
    refine lp_sol hx hb hml hown hts hA hK hn hpt ?_ _ 0 0 wn_13 rc_13 iw_13 wt_13 ah_13 be_13 _ _ ls (sol.1) (sol.2) (Nat.lt_succ_self _) hP hD hS (lv_sub hl [1, 0] rfl)
    intro tn9 hN9 wN9 rc9 iw9 wt9 ah9 be9 H locs ls hS9 hB9 hex hP hD hS hl
    obtain ⟨hDn, hiw9, hw9⟩ := it_end hn hS9 hB9 hex
    refine lv_aload_n hx hb dX0_solve_67 rfl (lv_at hl 0 rfl) ?_
    refine lv_iconst (v := 1) hx hb dX0_solve_68 (by decide) ?_
    refine pf_p_sv hx hb hts hin hown hK hP hD hS (by decide +kernel) dX0_solve_69 (by decide) (by decide) (fun H locs hP hD hS => ?_)
    exact ret_v hx hb hr hlocks hK hP hD hS dX0_solve_72 (1, rc9, iw9, wt9, ah9, be9, hN9, wN9) rfl (⟨rfl, hDn, hiw9, hS9.1⟩)
  · -- 4 f eq 
    exact ret_v hx hb hr hlocks hK hP hD hS dX0_solve_7 (sv, rc, iw, wt, ah, be, hN, wN) rfl (⟨sv1 hz.2.2 c4, sv2 hz.2.2 c4, hz.1, hz.2.1⟩)

