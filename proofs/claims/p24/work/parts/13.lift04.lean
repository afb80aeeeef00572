abbrev rm_X3_nextPlayer : Room := { frames := 0, cells := 0, slots := 0, locals := 0 }
theorem hd_X3_nextPlayer : yX3_nextPlayer.cls = RX3 ∧ yX3_nextPlayer.cls ≠ "java/lang/invoke/MethodHandle" ∧ yX3_nextPlayer.cls ≠ "java/lang/invoke/VarHandle" ∧ (parseMethodDescriptor yX3_nextPlayer.desc).map (fun d => d.parameters.length) = some 0 := by decide +kernel
def f_X3_nextPlayer (a0 : Nat) (V : cr_Hp) : Option (cr_Hp) :=
  if (2 : Int32) ≤ (V a0 4) then (cr_lt (cr_pt V a0 4 (0 : Int32)) (fun (V19 : cr_Hp) => some V19)) else (cr_lt (cr_pt V a0 4 ((V a0 4) + (1 : Int32))) (fun (V19 : cr_Hp) => some V19))
set_option maxRecDepth 100000 in
set_option maxHeartbeats 4000000 in
theorem t_X3_nextPlayer {p : Program} {l : Launch} {e : Env} {s : State} {m : MethodId} {args : Array Value} {below : List Frame} {meth : Method} {c : Code} {w : cr_Wd} (X : cr_Cx w RX3 (Cond.code yX3_nextPlayer cX3_nextPlayer 1 none) cX3_nextPlayer 1 p s m args meth c) (a0 : Nat) (V : cr_Hp) (ha0 : cr_pg a0) (hr0 : meth.sig.returnType = none) (x : cr_Hp) (h : f_X3_nextPlayer a0 V = some x) : cr_J w 1 p l e rm_X3_nextPlayer s m args below meth c 0 0 (MQ below (cr_Qv w x) args s 0 0 (cr_A w)) V 0 [(0, .ref (w.1 a0))] [] := by
  unfold f_X3_nextPlayer at h
  refine jr_aload_n X.c dX3_nextPlayer_0 rfl 0 rfl ?_
  refine jr_aload_n X.c dX3_nextPlayer_1 rfl 0 rfl ?_
  refine jr_get X.c (ci := 3) (C := RX3) (T := TX3) (N := 10) (k := 4) rfl cr_in3 (cr_l_pg ha0) ((cr_row_pg w ha0) _) rfl (by decide) fl_X3_41 dX3_nextPlayer_2 ?_
  refine jr_iconst X.c (v := (2 : Int32)) dX3_nextPlayer_5 (by decide) ?_
  refine jr_icmp_ge X.c 18 dX3_nextPlayer_6 (by decide) (fun q6 => ?_) (fun q6 => ?_)
  · replace h := cr_if_t q6 h
    refine jr_iconst X.c (v := (0 : Int32)) dX3_nextPlayer_18 (by decide) ?_
    obtain ⟨V19, eV19, h⟩ := cr_lt_s h
    refine jr_put X.c (ci := 3) (C := RX3) (T := TX3) (N := 10) (k := 4) rfl cr_in3 tyX3 tyX3_ok nmX3 (cr_l_pg ha0) (cr_row_pg w ha0) rfl (Nat.le_of_ble_eq_true rfl) (by decide) rfl rfl rfl fl_X3_41 dX3_nextPlayer_19 eV19 ?_
    cases h
    exact jr_vret X.c hr0 dX3_nextPlayer_22
  · replace h := cr_if_f q6 h
    refine jr_aload_n X.c dX3_nextPlayer_9 rfl 0 rfl ?_
    refine jr_get X.c (ci := 3) (C := RX3) (T := TX3) (N := 10) (k := 4) rfl cr_in3 (cr_l_pg ha0) ((cr_row_pg w ha0) _) rfl (by decide) fl_X3_41 dX3_nextPlayer_10 ?_
    refine jr_iconst X.c (v := (1 : Int32)) dX3_nextPlayer_13 (by decide) ?_
    refine jr_iadd X.c dX3_nextPlayer_14 ?_
    refine jr_goto X.c 19 dX3_nextPlayer_15 (by decide) ?_
    obtain ⟨V19, eV19, h⟩ := cr_lt_s h
    refine jr_put X.c (ci := 3) (C := RX3) (T := TX3) (N := 10) (k := 4) rfl cr_in3 tyX3 tyX3_ok nmX3 (cr_l_pg ha0) (cr_row_pg w ha0) rfl (Nat.le_of_ble_eq_true rfl) (by decide) rfl rfl rfl fl_X3_41 dX3_nextPlayer_19 eV19 ?_
    cases h
    exact jr_vret X.c hr0 dX3_nextPlayer_22
set_option maxRecDepth 100000 in
set_option maxHeartbeats 4000000 in
theorem m_X3_nextPlayer (l : Launch) (w : cr_Wd) (V : cr_Hp) (a0 : Nat) (ha0 : cr_pg a0) (x : cr_Hp) (h : f_X3_nextPlayer a0 V = some x) : Met l yX3_nextPlayer (cr_wds yX3_nextPlayer cX3_nextPlayer 1 none) rm_X3_nextPlayer (cr_Pc w V [.ref (w.1 a0)]) (cr_Qv w x) 0 0 (cr_A w) := by
  refine cr_met (own := RX3) (lv := [(0, .ref (w.1 a0))]) (by decide +kernel) rfl (Nat.le_of_ble_eq_true rfl) rfl (fun p e s m args below meth c X hr0 => ?_)
  exact t_X3_nextPlayer X a0 V ha0 hr0 x h
abbrev rm_X5_play : Room := { frames := 4, cells := 0, slots := 0, locals := 102 }
theorem hd_X5_play : yX5_play.cls = RX5 ∧ yX5_play.cls ≠ "java/lang/invoke/MethodHandle" ∧ yX5_play.cls ≠ "java/lang/invoke/VarHandle" ∧ (parseMethodDescriptor yX5_play.desc).map (fun d => d.parameters.length) = some 4 := by decide +kernel
def f_X5_play (p1 : Nat) (x2 : Int32) (x3 : Int32) (x4 : Int32) (V : cr_Hp) : Option (cr_Hp) :=
  cr_lt (cr_pt V 153 0 (0 : Int32)) (fun (V2 : cr_Hp) => cr_lt (cr_pt V2 153 1 (0 : Int32)) (fun (V7 : cr_Hp) => cr_lt (cr_pt V7 153 2 (0 : Int32)) (fun (V12 : cr_Hp) => cr_lt (cr_pt V12 153 6 (0 : Int32)) (fun (V17 : cr_Hp) => cr_lt (cr_pt V17 153 7 x4) (fun (V23 : cr_Hp) => cr_bd (f_X7_stepX x3) (fun (r28 : Int32) => cr_lt (cr_pt V23 153 8 r28) (fun (V31 : cr_Hp) => cr_bd (f_X7_stepY x3) (fun (r36 : Int32) => cr_lt (cr_pt V31 153 9 r36) (fun (V39 : cr_Hp) => cr_bd (f_X3_findMarble p1 x2 V39) (fun (r44 : Option Nat) => cr_on r44 (some V39) (fun (a44 : Nat) => cr_gd (cr_ma a44) (cr_bd (f_X3_markAhead p1 V39) (fun (V56 : cr_Hp) => cr_bd (f_X5_rollAll p1 a44 V56) (fun (V63 : cr_Hp) => cr_bd (f_X5_takeWinnings p1 (V63 a44 4) V63) (fun (V73 : cr_Hp) => cr_lt (cr_pt V73 p1 5 ((V73 p1 5) + (1 : Int32))) (fun (V83 : cr_Hp) => cr_lt (cr_pt V83 p1 6 ((V83 p1 6) + (V83 153 2))) (fun (V96 : cr_Hp) => cr_lt (cr_pt V96 p1 9 ((V96 p1 9) + (V96 153 6))) (fun (V109 : cr_Hp) => cr_lt (cr_pt V109 p1 7 ((V109 p1 7) + (V109 153 0))) (fun (V122 : cr_Hp) => if (V122 153 0) = 0 then (cr_bd (f_X3_nextPlayer p1 V122) (fun (V133 : cr_Hp) => some V133)) else (some V122))))))))))))))))))))
set_option maxRecDepth 100000 in
set_option maxHeartbeats 4000000 in
theorem t_X5_play {p : Program} {l : Launch} {e : Env} {s : State} {m : MethodId} {args : Array Value} {below : List Frame} {meth : Method} {c : Code} {w : cr_Wd} (X : cr_Cx w RX5 (Cond.code yX5_play cX5_play 6 none) cX5_play 6 p s m args meth c) (p1 : Nat) (x2 : Int32) (x3 : Int32) (x4 : Int32) (V : cr_Hp) (hp1 : cr_pg p1) (hr0 : meth.sig.returnType = none) (x : cr_Hp) (h : f_X5_play p1 x2 x3 x4 V = some x) : cr_J w 6 p l e rm_X5_play s m args below meth c 0 0 (MQ below (cr_Qv w x) args s 0 0 (cr_A w)) V 0 [(0, .ref (w.1 153)), (1, .ref (w.1 p1)), (2, .int x2), (3, .int x3), (4, .int x4)] [] := by
  unfold f_X5_play at h
  refine jr_aload_n X.c dX5_play_0 rfl 0 rfl ?_
  refine jr_iconst X.c (v := (0 : Int32)) dX5_play_1 (by decide) ?_
  obtain ⟨V2, eV2, h⟩ := cr_lt_s h
  refine jr_put X.c (ci := 5) (C := RX5) (T := TX5) (N := 10) (k := 0) rfl cr_in5 tyX5 tyX5_ok nmX5 (Or.inl (by decide)) (cr_row_153 w) rfl (Nat.le_of_ble_eq_true rfl) (by decide) rfl rfl rfl fl_X5_9 dX5_play_2 eV2 ?_
  refine jr_aload_n X.c dX5_play_5 rfl 0 rfl ?_
  refine jr_iconst X.c (v := (0 : Int32)) dX5_play_6 (by decide) ?_
  obtain ⟨V7, eV7, h⟩ := cr_lt_s h
  refine jr_put X.c (ci := 5) (C := RX5) (T := TX5) (N := 10) (k := 1) rfl cr_in5 tyX5 tyX5_ok nmX5 (Or.inl (by decide)) (cr_row_153 w) rfl (Nat.le_of_ble_eq_true rfl) (by decide) rfl rfl rfl fl_X5_15 dX5_play_7 eV7 ?_
  refine jr_aload_n X.c dX5_play_10 rfl 0 rfl ?_
  refine jr_iconst X.c (v := (0 : Int32)) dX5_play_11 (by decide) ?_
  obtain ⟨V12, eV12, h⟩ := cr_lt_s h
  refine jr_put X.c (ci := 5) (C := RX5) (T := TX5) (N := 10) (k := 2) rfl cr_in5 tyX5 tyX5_ok nmX5 (Or.inl (by decide)) (cr_row_153 w) rfl (Nat.le_of_ble_eq_true rfl) (by decide) rfl rfl rfl fl_X5_18 dX5_play_12 eV12 ?_
  refine jr_aload_n X.c dX5_play_15 rfl 0 rfl ?_
  refine jr_iconst X.c (v := (0 : Int32)) dX5_play_16 (by decide) ?_
  obtain ⟨V17, eV17, h⟩ := cr_lt_s h
  refine jr_put X.c (ci := 5) (C := RX5) (T := TX5) (N := 10) (k := 6) rfl cr_in5 tyX5 tyX5_ok nmX5 (Or.inl (by decide)) (cr_row_153 w) rfl (Nat.le_of_ble_eq_true rfl) (by decide) rfl rfl rfl fl_X5_21 dX5_play_17 eV17 ?_
  refine jr_aload_n X.c dX5_play_20 rfl 0 rfl ?_
  refine jr_iload X.c dX5_play_21 4 rfl ?_
  obtain ⟨V23, eV23, h⟩ := cr_lt_s h
  refine jr_put X.c (ci := 5) (C := RX5) (T := TX5) (N := 10) (k := 7) rfl cr_in5 tyX5 tyX5_ok nmX5 (Or.inl (by decide)) (cr_row_153 w) rfl (Nat.le_of_ble_eq_true rfl) (by decide) rfl rfl rfl fl_X5_24 dX5_play_23 eV23 ?_
  refine jr_aload_n X.c dX5_play_26 rfl 0 rfl ?_
  refine jr_iload_n X.c dX5_play_27 rfl 3 rfl ?_
  obtain ⟨r28, hr28, h⟩ := cr_bd_s h
  refine jc_Ni X.c (As := [.int x3]) (V1 := V23) (host := "ChalkRings") 1 (m_X7_stepX l w V23 x3  r28 hr28) ⟨rfl, rfl⟩ (by decide) st_X7_stepX in_X7 cd_X7_stepX hd_X7_stepX ⟨Nat.le_of_ble_eq_true rfl, Nat.le_of_ble_eq_true rfl⟩ ⟨Nat.le_of_ble_eq_true rfl, Nat.le_of_ble_eq_true rfl⟩ rfl (Nat.le_of_ble_eq_true rfl) rfl dX5_play_28 ?_
  obtain ⟨V31, eV31, h⟩ := cr_lt_s h
  refine jr_put X.c (ci := 5) (C := RX5) (T := TX5) (N := 10) (k := 8) rfl cr_in5 tyX5 tyX5_ok nmX5 (Or.inl (by decide)) (cr_row_153 w) rfl (Nat.le_of_ble_eq_true rfl) (by decide) rfl rfl rfl fl_X5_31 dX5_play_31 eV31 ?_
  refine jr_aload_n X.c dX5_play_34 rfl 0 rfl ?_
  refine jr_iload_n X.c dX5_play_35 rfl 3 rfl ?_
  obtain ⟨r36, hr36, h⟩ := cr_bd_s h
  refine jc_Ni X.c (As := [.int x3]) (V1 := V31) (host := "ChalkRings") 1 (m_X7_stepY l w V31 x3  r36 hr36) ⟨rfl, rfl⟩ (by decide) st_X7_stepY in_X7 cd_X7_stepY hd_X7_stepY ⟨Nat.le_of_ble_eq_true rfl, Nat.le_of_ble_eq_true rfl⟩ ⟨Nat.le_of_ble_eq_true rfl, Nat.le_of_ble_eq_true rfl⟩ rfl (Nat.le_of_ble_eq_true rfl) rfl dX5_play_36 ?_
  obtain ⟨V39, eV39, h⟩ := cr_lt_s h
  refine jr_put X.c (ci := 5) (C := RX5) (T := TX5) (N := 10) (k := 9) rfl cr_in5 tyX5 tyX5_ok nmX5 (Or.inl (by decide)) (cr_row_153 w) rfl (Nat.le_of_ble_eq_true rfl) (by decide) rfl rfl rfl fl_X5_37 dX5_play_39 eV39 ?_
  refine jr_aload_n X.c dX5_play_42 rfl 1 rfl ?_
  refine jr_iload_n X.c dX5_play_43 rfl 2 rfl ?_
  obtain ⟨r44, hr44, h⟩ := cr_bd_s h
  refine jc_Ve X.c (As := [.int x2]) (V1 := V39) (C := RX3) (T := TX3) (N := 10) (ci := 3) 1 (m_X3_findMarble l w V39 p1 x2 hp1 r44 hr44) ⟨rfl, rfl⟩ ml_X5_40 im_X3_findMarble sl_X3_findMarble in_X3 cd_X3_findMarble hd_X3_findMarble ⟨Nat.le_of_ble_eq_true rfl, Nat.le_of_ble_eq_true rfl⟩ ⟨Nat.le_of_ble_eq_true rfl, Nat.le_of_ble_eq_true rfl⟩ rfl (Nat.le_of_ble_eq_true rfl) (cr_l_pg hp1) ((cr_row_pg w hp1) _) rfl rfl dX5_play_44 (fun eq44 => ?_) (fun a44 eq44 => ?_)
  · subst eq44
    replace h := cr_on_n h
    refine jr_astoreN X.c (lv2 := [(5, .null), (0, .ref (w.1 153)), (1, .ref (w.1 p1)), (2, .int x2), (3, .int x3), (4, .int x4)]) dX5_play_47 (by decide) rfl ?_
    refine jr_aloadN X.c dX5_play_49 0 rfl ?_
    refine jr_ifnonnullN X.c dX5_play_51 ?_
    cases h
    exact jr_vret X.c hr0 dX5_play_54
  · subst eq44
    replace h := cr_on_s h
    obtain ⟨ha44, h⟩ := cr_gd_s h
    refine jr_astore X.c (lv2 := [(5, .ref (w.1 a44)), (0, .ref (w.1 153)), (1, .ref (w.1 p1)), (2, .int x2), (3, .int x3), (4, .int x4)]) dX5_play_47 (by decide) rfl ?_
    refine jr_aload X.c dX5_play_49 0 rfl ?_
    refine jr_ifnonnullR X.c 55 dX5_play_51 (by decide) ?_
    refine jr_aload_n X.c dX5_play_55 rfl 2 rfl ?_
    obtain ⟨V56, hr56, h⟩ := cr_bd_s h
    refine jc_Vv X.c (As := []) (V1 := V56) (C := RX3) (T := TX3) (N := 10) (ci := 3) 0 (m_X3_markAhead l w V39 p1 hp1 V56 hr56) ⟨rfl, rfl⟩ ml_X5_46 im_X3_markAhead sl_X3_markAhead in_X3 cd_X3_markAhead hd_X3_markAhead ⟨Nat.le_of_ble_eq_true rfl, Nat.le_of_ble_eq_true rfl⟩ ⟨Nat.le_of_ble_eq_true rfl, Nat.le_of_ble_eq_true rfl⟩ rfl (Nat.le_of_ble_eq_true rfl) (cr_l_pg hp1) ((cr_row_pg w hp1) _) rfl rfl dX5_play_56 ?_
    refine jr_aload_n X.c dX5_play_59 rfl 1 rfl ?_
    refine jr_aload_n X.c dX5_play_60 rfl 2 rfl ?_
    refine jr_aload X.c dX5_play_61 0 rfl ?_
    obtain ⟨V63, hr63, h⟩ := cr_bd_s h
    refine jc_Vv X.c (As := [.ref (w.1 p1), .ref (w.1 a44)]) (V1 := V63) (C := RX5) (T := TX5) (N := 10) (ci := 5) 2 (m_X5_rollAll l w V56 p1 a44 hp1 ha44 V63 hr63) ⟨rfl, rfl⟩ ml_X5_49 im_X5_rollAll sl_X5_rollAll in_X5 cd_X5_rollAll hd_X5_rollAll ⟨Nat.le_of_ble_eq_true rfl, Nat.le_of_ble_eq_true rfl⟩ ⟨Nat.le_of_ble_eq_true rfl, Nat.le_of_ble_eq_true rfl⟩ rfl (Nat.le_of_ble_eq_true rfl) (Or.inl (by decide)) ((cr_row_153 w) _) rfl rfl dX5_play_63 ?_
    refine jr_aload_n X.c dX5_play_66 rfl 1 rfl ?_
    refine jr_aload_n X.c dX5_play_67 rfl 2 rfl ?_
    refine jr_aload X.c dX5_play_68 0 rfl ?_
    refine jr_get X.c (ci := 2) (C := RX2) (T := TX2) (N := 9) (k := 4) rfl cr_in2 (cr_l_ma ha44) ((cr_row_ma w ha44) _) rfl (by decide) fl_X5_53 dX5_play_70 ?_
    obtain ⟨V73, hr73, h⟩ := cr_bd_s h
    refine jc_Vv X.c (As := [.ref (w.1 p1), .int (V63 a44 4)]) (V1 := V73) (C := RX5) (T := TX5) (N := 10) (ci := 5) 2 (m_X5_takeWinnings l w V63 p1 (V63 a44 4) hp1 V73 hr73) ⟨rfl, rfl⟩ ml_X5_58 im_X5_takeWinnings sl_X5_takeWinnings in_X5 cd_X5_takeWinnings hd_X5_takeWinnings ⟨Nat.le_of_ble_eq_true rfl, Nat.le_of_ble_eq_true rfl⟩ ⟨Nat.le_of_ble_eq_true rfl, Nat.le_of_ble_eq_true rfl⟩ rfl (Nat.le_of_ble_eq_true rfl) (Or.inl (by decide)) ((cr_row_153 w) _) rfl rfl dX5_play_73 ?_
    refine jr_aload_n X.c dX5_play_76 rfl 2 rfl ?_
    refine jr_dup X.c dX5_play_77 rfl ?_
    refine jr_get X.c (ci := 3) (C := RX3) (T := TX3) (N := 10) (k := 5) rfl cr_in3 (cr_l_pg hp1) ((cr_row_pg w hp1) _) rfl (by decide) fl_X5_62 dX5_play_78 ?_
    refine jr_iconst X.c (v := (1 : Int32)) dX5_play_81 (by decide) ?_
    refine jr_iadd X.c dX5_play_82 ?_
    obtain ⟨V83, eV83, h⟩ := cr_lt_s h
    refine jr_put X.c (ci := 3) (C := RX3) (T := TX3) (N := 10) (k := 5) rfl cr_in3 tyX3 tyX3_ok nmX3 (cr_l_pg hp1) (cr_row_pg w hp1) rfl (Nat.le_of_ble_eq_true rfl) (by decide) rfl rfl rfl fl_X5_62 dX5_play_83 eV83 ?_
    refine jr_aload_n X.c dX5_play_86 rfl 2 rfl ?_
    refine jr_dup X.c dX5_play_87 rfl ?_
    refine jr_get X.c (ci := 3) (C := RX3) (T := TX3) (N := 10) (k := 6) rfl cr_in3 (cr_l_pg hp1) ((cr_row_pg w hp1) _) rfl (by decide) fl_X5_65 dX5_play_88 ?_
    refine jr_aload_n X.c dX5_play_91 rfl 1 rfl ?_
    refine jr_get X.c (ci := 5) (C := RX5) (T := TX5) (N := 10) (k := 2) rfl cr_in5 (Or.inl (by decide)) ((cr_row_153 w) _) rfl (by decide) fl_X5_18 dX5_play_92 ?_
    refine jr_iadd X.c dX5_play_95 ?_
    obtain ⟨V96, eV96, h⟩ := cr_lt_s h
    refine jr_put X.c (ci := 3) (C := RX3) (T := TX3) (N := 10) (k := 6) rfl cr_in3 tyX3 tyX3_ok nmX3 (cr_l_pg hp1) (cr_row_pg w hp1) rfl (Nat.le_of_ble_eq_true rfl) (by decide) rfl rfl rfl fl_X5_65 dX5_play_96 eV96 ?_
    refine jr_aload_n X.c dX5_play_99 rfl 2 rfl ?_
    refine jr_dup X.c dX5_play_100 rfl ?_
    refine jr_get X.c (ci := 3) (C := RX3) (T := TX3) (N := 10) (k := 9) rfl cr_in3 (cr_l_pg hp1) ((cr_row_pg w hp1) _) rfl (by decide) fl_X5_66 dX5_play_101 ?_
    refine jr_aload_n X.c dX5_play_104 rfl 1 rfl ?_
    refine jr_get X.c (ci := 5) (C := RX5) (T := TX5) (N := 10) (k := 6) rfl cr_in5 (Or.inl (by decide)) ((cr_row_153 w) _) rfl (by decide) fl_X5_21 dX5_play_105 ?_
    refine jr_iadd X.c dX5_play_108 ?_
    obtain ⟨V109, eV109, h⟩ := cr_lt_s h
    refine jr_put X.c (ci := 3) (C := RX3) (T := TX3) (N := 10) (k := 9) rfl cr_in3 tyX3 tyX3_ok nmX3 (cr_l_pg hp1) (cr_row_pg w hp1) rfl (Nat.le_of_ble_eq_true rfl) (by decide) rfl rfl rfl fl_X5_66 dX5_play_109 eV109 ?_
    refine jr_aload_n X.c dX5_play_112 rfl 2 rfl ?_
    refine jr_dup X.c dX5_play_113 rfl ?_
    refine jr_get X.c (ci := 3) (C := RX3) (T := TX3) (N := 10) (k := 7) rfl cr_in3 (cr_l_pg hp1) ((cr_row_pg w hp1) _) rfl (by decide) fl_X5_67 dX5_play_114 ?_
    refine jr_aload_n X.c dX5_play_117 rfl 1 rfl ?_
    refine jr_get X.c (ci := 5) (C := RX5) (T := TX5) (N := 10) (k := 0) rfl cr_in5 (Or.inl (by decide)) ((cr_row_153 w) _) rfl (by decide) fl_X5_9 dX5_play_118 ?_
    refine jr_iadd X.c dX5_play_121 ?_
    obtain ⟨V122, eV122, h⟩ := cr_lt_s h
    refine jr_put X.c (ci := 3) (C := RX3) (T := TX3) (N := 10) (k := 7) rfl cr_in3 tyX3 tyX3_ok nmX3 (cr_l_pg hp1) (cr_row_pg w hp1) rfl (Nat.le_of_ble_eq_true rfl) (by decide) rfl rfl rfl fl_X5_67 dX5_play_122 eV122 ?_
    refine jr_aload_n X.c dX5_play_125 rfl 1 rfl ?_
    refine jr_get X.c (ci := 5) (C := RX5) (T := TX5) (N := 10) (k := 0) rfl cr_in5 (Or.inl (by decide)) ((cr_row_153 w) _) rfl (by decide) fl_X5_9 dX5_play_126 ?_
    refine jr_if_ne X.c 136 dX5_play_129 (by decide) (fun q129 => ?_) (fun q129 => ?_)
    · replace h := cr_if_f q129 h
      cases h
      exact jr_vret X.c hr0 dX5_play_136
    · replace h := cr_if_t q129 h
      refine jr_aload_n X.c dX5_play_132 rfl 2 rfl ?_
      obtain ⟨V133, hr133, h⟩ := cr_bd_s h
      refine jc_Vv X.c (As := []) (V1 := V133) (C := RX3) (T := TX3) (N := 10) (ci := 3) 0 (m_X3_nextPlayer l w V122 p1 hp1 V133 hr133) ⟨rfl, rfl⟩ ml_X5_68 im_X3_nextPlayer sl_X3_nextPlayer in_X3 cd_X3_nextPlayer hd_X3_nextPlayer ⟨Nat.le_of_ble_eq_true rfl, Nat.le_of_ble_eq_true rfl⟩ ⟨Nat.le_of_ble_eq_true rfl, Nat.le_of_ble_eq_true rfl⟩ rfl (Nat.le_of_ble_eq_true rfl) (cr_l_pg hp1) ((cr_row_pg w hp1) _) rfl rfl dX5_play_133 ?_
      cases h
      exact jr_vret X.c hr0 dX5_play_136
set_option maxRecDepth 100000 in
set_option maxHeartbeats 4000000 in
theorem m_X5_play (l : Launch) (w : cr_Wd) (V : cr_Hp) (p1 : Nat) (x2 : Int32) (x3 : Int32) (x4 : Int32) (hp1 : cr_pg p1) (x : cr_Hp) (h : f_X5_play p1 x2 x3 x4 V = some x) : Met l yX5_play (cr_wds yX5_play cX5_play 6 none) rm_X5_play (cr_Pc w V [.ref (w.1 153), .ref (w.1 p1), .int x2, .int x3, .int x4]) (cr_Qv w x) 0 0 (cr_A w) := by
  refine cr_met (own := RX5) (lv := [(0, .ref (w.1 153)), (1, .ref (w.1 p1)), (2, .int x2), (3, .int x3), (4, .int x4)]) (by decide +kernel) rfl (Nat.le_of_ble_eq_true rfl) rfl (fun p e s m args below meth c X hr0 => ?_)
  exact t_X5_play X p1 x2 x3 x4 V hp1 hr0 x h
abbrev rm_X7_flick : Room := { frames := 5, cells := 0, slots := 0, locals := 127 }
theorem hd_X7_flick : yX7_flick.cls = RX7 ∧ yX7_flick.cls ≠ "java/lang/invoke/MethodHandle" ∧ yX7_flick.cls ≠ "java/lang/invoke/VarHandle" ∧ (parseMethodDescriptor yX7_flick.desc).map (fun d => d.parameters.length) = some 3 := by decide +kernel
def f_X7_flick (x1 : Int32) (x2 : Int32) (x3 : Int32) (V : cr_Hp) : Option (Int32 × cr_Hp) :=
  cr_bd (f_X3_findMarble 0 x1 V) (fun (r5 : Option Nat) => cr_on r5 (some ((-1001 : Int32), V)) (fun (a5 : Nat) => cr_gd (cr_ma a5) (cr_bd (f_X7_isDirection x2) (fun (r20 : Int32) => if r20 = 0 then (some ((-1002 : Int32), V)) else (cr_bd (f_X7_isStrength x3) (fun (r27 : Int32) => if r27 = 0 then (some ((-1002 : Int32), V)) else (if (V a5 6) = 0 then (some ((-1003 : Int32), V)) else (if (V a5 4) = (V 0 4) then (cr_bd (f_X0_save 0 V) (fun (V72 : cr_Hp) => cr_bd (f_X5_play 0 x1 x2 x3 V72) (fun (V86 : cr_Hp) => some ((V86 153 0), V86)))) else (some ((-1003 : Int32), V))))))))))
set_option maxRecDepth 100000 in
set_option maxHeartbeats 4000000 in
theorem t_X7_flick {p : Program} {l : Launch} {e : Env} {s : State} {m : MethodId} {args : Array Value} {below : List Frame} {meth : Method} {c : Code} {w : cr_Wd} (X : cr_Cx w RX7 (Cond.code yX7_flick cX7_flick 5 (some .int)) cX7_flick 5 p s m args meth c) (x1 : Int32) (x2 : Int32) (x3 : Int32) (V : cr_Hp)  (hr0 : meth.sig.returnType = (some .int)) (x : Int32 × cr_Hp) (h : f_X7_flick x1 x2 x3 V = some x) : cr_J w 5 p l e rm_X7_flick s m args below meth c 0 0 (MQ below (cr_Qi w x.2 x.1) args s 0 0 (cr_A w)) V 0 [(0, .ref (w.1 152)), (1, .int x1), (2, .int x2), (3, .int x3)] [] := by
  unfold f_X7_flick at h
  refine jr_aload_n X.c dX7_flick_0 rfl 0 rfl ?_
  refine jr_get X.c (ci := 7) (C := RX7) (T := TX7) (N := 5) (k := 0) rfl cr_in7 (Or.inl (by decide)) ((cr_row_152 w) _) rfl (by decide) fl_X7_10 dX7_flick_1 ?_
  refine jr_iload_n X.c dX7_flick_4 rfl 1 rfl ?_
  obtain ⟨r5, hr5, h⟩ := cr_bd_s h
  refine jc_Ve X.c (As := [.int x1]) (V1 := V) (C := RX3) (T := TX3) (N := 10) (ci := 3) 1 (m_X3_findMarble l w V 0 x1 cr_pg0 r5 hr5) ⟨rfl, rfl⟩ ml_X7_58 im_X3_findMarble sl_X3_findMarble in_X3 cd_X3_findMarble hd_X3_findMarble ⟨Nat.le_of_ble_eq_true rfl, Nat.le_of_ble_eq_true rfl⟩ ⟨Nat.le_of_ble_eq_true rfl, Nat.le_of_ble_eq_true rfl⟩ rfl (Nat.le_of_ble_eq_true rfl) (cr_l_pg cr_pg0) ((cr_row_pg w cr_pg0) _) rfl rfl dX7_flick_5 (fun eq5 => ?_) (fun a5 eq5 => ?_)
  · subst eq5
    replace h := cr_on_n h
    refine jr_astoreN X.c (lv2 := [(4, .null), (0, .ref (w.1 152)), (1, .int x1), (2, .int x2), (3, .int x3)]) dX7_flick_8 (by decide) rfl ?_
    refine jr_aloadN X.c dX7_flick_10 0 rfl ?_
    refine jr_ifnonnullN X.c dX7_flick_12 ?_
    refine jr_sipush X.c (v := (-1001 : Int32)) dX7_flick_15 (by decide) ?_
    cases h
    exact jr_iret X.c hr0 dX7_flick_18
  · subst eq5
    replace h := cr_on_s h
    obtain ⟨ha5, h⟩ := cr_gd_s h
    refine jr_astore X.c (lv2 := [(4, .ref (w.1 a5)), (0, .ref (w.1 152)), (1, .int x1), (2, .int x2), (3, .int x3)]) dX7_flick_8 (by decide) rfl ?_
    refine jr_aload X.c dX7_flick_10 0 rfl ?_
    refine jr_ifnonnullR X.c 19 dX7_flick_12 (by decide) ?_
    refine jr_iload_n X.c dX7_flick_19 rfl 3 rfl ?_
    obtain ⟨r20, hr20, h⟩ := cr_bd_s h
    refine jc_Si X.c (As := [.int x2]) (V1 := V) 1 (m_X7_isDirection l w V x2  r20 hr20) ⟨rfl, rfl⟩ ml_X7_99 st_X7_isDirection in_X7 cd_X7_isDirection hd_X7_isDirection ⟨Nat.le_of_ble_eq_true rfl, Nat.le_of_ble_eq_true rfl⟩ ⟨Nat.le_of_ble_eq_true rfl, Nat.le_of_ble_eq_true rfl⟩ rfl (Nat.le_of_ble_eq_true rfl) rfl dX7_flick_20 ?_
    refine jr_if_eq X.c 33 dX7_flick_23 (by decide) (fun q23 => ?_) (fun q23 => ?_)
    · replace h := cr_if_t q23 h
      refine jr_sipush X.c (v := (-1002 : Int32)) dX7_flick_33 (by decide) ?_
      cases h
      exact jr_iret X.c hr0 dX7_flick_36
    · replace h := cr_if_f q23 h
      refine jr_iload_n X.c dX7_flick_26 rfl 4 rfl ?_
      obtain ⟨r27, hr27, h⟩ := cr_bd_s h
      refine jc_Si X.c (As := [.int x3]) (V1 := V) 1 (m_X7_isStrength l w V x3  r27 hr27) ⟨rfl, rfl⟩ ml_X7_103 st_X7_isStrength in_X7 cd_X7_isStrength hd_X7_isStrength ⟨Nat.le_of_ble_eq_true rfl, Nat.le_of_ble_eq_true rfl⟩ ⟨Nat.le_of_ble_eq_true rfl, Nat.le_of_ble_eq_true rfl⟩ rfl (Nat.le_of_ble_eq_true rfl) rfl dX7_flick_27 ?_
      refine jr_if_ne X.c 37 dX7_flick_30 (by decide) (fun q30 => ?_) (fun q30 => ?_)
      · replace h := cr_if_f q30 h
        refine jr_aload X.c dX7_flick_37 0 rfl ?_
        refine jr_get X.c (ci := 2) (C := RX2) (T := TX2) (N := 9) (k := 6) rfl cr_in2 (cr_l_ma ha5) ((cr_row_ma w ha5) _) rfl (by decide) fl_X7_66 dX7_flick_39 ?_
        refine jr_if_eq X.c 60 dX7_flick_42 (by decide) (fun q42 => ?_) (fun q42 => ?_)
        · replace h := cr_if_t q42 h
          refine jr_sipush X.c (v := (-1003 : Int32)) dX7_flick_60 (by decide) ?_
          cases h
          exact jr_iret X.c hr0 dX7_flick_63
        · replace h := cr_if_f q42 h
          refine jr_aload X.c dX7_flick_45 0 rfl ?_
          refine jr_get X.c (ci := 2) (C := RX2) (T := TX2) (N := 9) (k := 4) rfl cr_in2 (cr_l_ma ha5) ((cr_row_ma w ha5) _) rfl (by decide) fl_X7_106 dX7_flick_47 ?_
          refine jr_aload_n X.c dX7_flick_50 rfl 1 rfl ?_
          refine jr_get X.c (ci := 7) (C := RX7) (T := TX7) (N := 5) (k := 0) rfl cr_in7 (Or.inl (by decide)) ((cr_row_152 w) _) rfl (by decide) fl_X7_10 dX7_flick_51 ?_
          refine jr_get X.c (ci := 3) (C := RX3) (T := TX3) (N := 10) (k := 4) rfl cr_in3 (cr_l_pg cr_pg0) ((cr_row_pg w cr_pg0) _) rfl (by decide) fl_X7_109 dX7_flick_54 ?_
          refine jr_icmp_eq X.c 64 dX7_flick_57 (by decide) (fun q57 => ?_) (fun q57 => ?_)
          · replace h := cr_if_t q57 h
            refine jr_aload_n X.c dX7_flick_64 rfl 1 rfl ?_
            refine jr_get X.c (ci := 7) (C := RX7) (T := TX7) (N := 5) (k := 3) rfl cr_in7 (Or.inl (by decide)) ((cr_row_152 w) _) rfl (by decide) fl_X7_29 dX7_flick_65 ?_
            refine jr_aload_n X.c dX7_flick_68 rfl 1 rfl ?_
            refine jr_get X.c (ci := 7) (C := RX7) (T := TX7) (N := 5) (k := 0) rfl cr_in7 (Or.inl (by decide)) ((cr_row_152 w) _) rfl (by decide) fl_X7_10 dX7_flick_69 ?_
            obtain ⟨V72, hr72, h⟩ := cr_bd_s h
            refine jc_Vv X.c (As := [.ref (w.1 0)]) (V1 := V72) (C := RX0) (T := TX0) (N := 3) (ci := 0) 1 (m_X0_save l w V 0 cr_pg0 V72 hr72) ⟨rfl, rfl⟩ ml_X7_44 im_X0_save sl_X0_save in_X0 cd_X0_save hd_X0_save ⟨Nat.le_of_ble_eq_true rfl, Nat.le_of_ble_eq_true rfl⟩ ⟨Nat.le_of_ble_eq_true rfl, Nat.le_of_ble_eq_true rfl⟩ rfl (Nat.le_of_ble_eq_true rfl) (Or.inl (by decide)) ((cr_row_154 w) _) rfl rfl dX7_flick_72 ?_
            refine jr_aload_n X.c dX7_flick_75 rfl 1 rfl ?_
            refine jr_get X.c (ci := 7) (C := RX7) (T := TX7) (N := 5) (k := 2) rfl cr_in7 (Or.inl (by decide)) ((cr_row_152 w) _) rfl (by decide) fl_X7_22 dX7_flick_76 ?_
            refine jr_aload_n X.c dX7_flick_79 rfl 1 rfl ?_
            refine jr_get X.c (ci := 7) (C := RX7) (T := TX7) (N := 5) (k := 0) rfl cr_in7 (Or.inl (by decide)) ((cr_row_152 w) _) rfl (by decide) fl_X7_10 dX7_flick_80 ?_
            refine jr_iload_n X.c dX7_flick_83 rfl 2 rfl ?_
            refine jr_iload_n X.c dX7_flick_84 rfl 3 rfl ?_
            refine jr_iload_n X.c dX7_flick_85 rfl 4 rfl ?_
            obtain ⟨V86, hr86, h⟩ := cr_bd_s h
            refine jc_Vv X.c (As := [.ref (w.1 0), .int x1, .int x2, .int x3]) (V1 := V86) (C := RX5) (T := TX5) (N := 10) (ci := 5) 4 (m_X5_play l w V72 0 x1 x2 x3 cr_pg0 V86 hr86) ⟨rfl, rfl⟩ ml_X7_112 im_X5_play sl_X5_play in_X5 cd_X5_play hd_X5_play ⟨Nat.le_of_ble_eq_true rfl, Nat.le_of_ble_eq_true rfl⟩ ⟨Nat.le_of_ble_eq_true rfl, Nat.le_of_ble_eq_true rfl⟩ rfl (Nat.le_of_ble_eq_true rfl) (Or.inl (by decide)) ((cr_row_153 w) _) rfl rfl dX7_flick_86 ?_
            refine jr_aload_n X.c dX7_flick_89 rfl 1 rfl ?_
            refine jr_get X.c (ci := 7) (C := RX7) (T := TX7) (N := 5) (k := 2) rfl cr_in7 (Or.inl (by decide)) ((cr_row_152 w) _) rfl (by decide) fl_X7_22 dX7_flick_90 ?_
            refine jr_get X.c (ci := 5) (C := RX5) (T := TX5) (N := 10) (k := 0) rfl cr_in5 (Or.inl (by decide)) ((cr_row_153 w) _) rfl (by decide) fl_X7_116 dX7_flick_93 ?_
            cases h
            exact jr_iret X.c hr0 dX7_flick_96
          · replace h := cr_if_f q57 h
            refine jr_sipush X.c (v := (-1003 : Int32)) dX7_flick_60 (by decide) ?_
            cases h
            exact jr_iret X.c hr0 dX7_flick_63
      · replace h := cr_if_t q30 h
        refine jr_sipush X.c (v := (-1002 : Int32)) dX7_flick_33 (by decide) ?_
        cases h
        exact jr_iret X.c hr0 dX7_flick_36
set_option maxRecDepth 100000 in
set_option maxHeartbeats 4000000 in
theorem m_X7_flick (l : Launch) (w : cr_Wd) (V : cr_Hp) (x1 : Int32) (x2 : Int32) (x3 : Int32)  (x : Int32 × cr_Hp) (h : f_X7_flick x1 x2 x3 V = some x) : Met l yX7_flick (cr_wds yX7_flick cX7_flick 5 (some .int)) rm_X7_flick (cr_Pc w V [.ref (w.1 152), .int x1, .int x2, .int x3]) (cr_Qi w x.2 x.1) 0 0 (cr_A w) := by
  refine cr_met (own := RX7) (lv := [(0, .ref (w.1 152)), (1, .int x1), (2, .int x2), (3, .int x3)]) (by decide +kernel) rfl (Nat.le_of_ble_eq_true rfl) rfl (fun p e s m args below meth c X hr0 => ?_)
  exact t_X7_flick X x1 x2 x3 V  hr0 x h
abbrev rm_X7_pass : Room := { frames := 3, cells := 0, slots := 0, locals := 67 }
theorem hd_X7_pass : yX7_pass.cls = RX7 ∧ yX7_pass.cls ≠ "java/lang/invoke/MethodHandle" ∧ yX7_pass.cls ≠ "java/lang/invoke/VarHandle" ∧ (parseMethodDescriptor yX7_pass.desc).map (fun d => d.parameters.length) = some 0 := by decide +kernel
def f_X7_pass  (V : cr_Hp) : Option (Int32 × cr_Hp) :=
  cr_bd (f_X0_save 0 V) (fun (V8 : cr_Hp) => cr_bd (f_X3_nextPlayer 0 V8) (fun (V15 : cr_Hp) => some ((V15 0 4), V15)))
set_option maxRecDepth 100000 in
set_option maxHeartbeats 4000000 in
theorem t_X7_pass {p : Program} {l : Launch} {e : Env} {s : State} {m : MethodId} {args : Array Value} {below : List Frame} {meth : Method} {c : Code} {w : cr_Wd} (X : cr_Cx w RX7 (Cond.code yX7_pass cX7_pass 1 (some .int)) cX7_pass 1 p s m args meth c)  (V : cr_Hp)  (hr0 : meth.sig.returnType = (some .int)) (x : Int32 × cr_Hp) (h : f_X7_pass  V = some x) : cr_J w 1 p l e rm_X7_pass s m args below meth c 0 0 (MQ below (cr_Qi w x.2 x.1) args s 0 0 (cr_A w)) V 0 [(0, .ref (w.1 152))] [] := by
  unfold f_X7_pass at h
  refine jr_aload_n X.c dX7_pass_0 rfl 0 rfl ?_
  refine jr_get X.c (ci := 7) (C := RX7) (T := TX7) (N := 5) (k := 3) rfl cr_in7 (Or.inl (by decide)) ((cr_row_152 w) _) rfl (by decide) fl_X7_29 dX7_pass_1 ?_
  refine jr_aload_n X.c dX7_pass_4 rfl 0 rfl ?_
  refine jr_get X.c (ci := 7) (C := RX7) (T := TX7) (N := 5) (k := 0) rfl cr_in7 (Or.inl (by decide)) ((cr_row_152 w) _) rfl (by decide) fl_X7_10 dX7_pass_5 ?_
  obtain ⟨V8, hr8, h⟩ := cr_bd_s h
  refine jc_Vv X.c (As := [.ref (w.1 0)]) (V1 := V8) (C := RX0) (T := TX0) (N := 3) (ci := 0) 1 (m_X0_save l w V 0 cr_pg0 V8 hr8) ⟨rfl, rfl⟩ ml_X7_44 im_X0_save sl_X0_save in_X0 cd_X0_save hd_X0_save ⟨Nat.le_of_ble_eq_true rfl, Nat.le_of_ble_eq_true rfl⟩ ⟨Nat.le_of_ble_eq_true rfl, Nat.le_of_ble_eq_true rfl⟩ rfl (Nat.le_of_ble_eq_true rfl) (Or.inl (by decide)) ((cr_row_154 w) _) rfl rfl dX7_pass_8 ?_
  refine jr_aload_n X.c dX7_pass_11 rfl 0 rfl ?_
  refine jr_get X.c (ci := 7) (C := RX7) (T := TX7) (N := 5) (k := 0) rfl cr_in7 (Or.inl (by decide)) ((cr_row_152 w) _) rfl (by decide) fl_X7_10 dX7_pass_12 ?_
  obtain ⟨V15, hr15, h⟩ := cr_bd_s h
  refine jc_Vv X.c (As := []) (V1 := V15) (C := RX3) (T := TX3) (N := 10) (ci := 3) 0 (m_X3_nextPlayer l w V8 0 cr_pg0 V15 hr15) ⟨rfl, rfl⟩ ml_X7_119 im_X3_nextPlayer sl_X3_nextPlayer in_X3 cd_X3_nextPlayer hd_X3_nextPlayer ⟨Nat.le_of_ble_eq_true rfl, Nat.le_of_ble_eq_true rfl⟩ ⟨Nat.le_of_ble_eq_true rfl, Nat.le_of_ble_eq_true rfl⟩ rfl (Nat.le_of_ble_eq_true rfl) (cr_l_pg cr_pg0) ((cr_row_pg w cr_pg0) _) rfl rfl dX7_pass_15 ?_
  refine jr_aload_n X.c dX7_pass_18 rfl 0 rfl ?_
  refine jr_get X.c (ci := 7) (C := RX7) (T := TX7) (N := 5) (k := 0) rfl cr_in7 (Or.inl (by decide)) ((cr_row_152 w) _) rfl (by decide) fl_X7_10 dX7_pass_19 ?_
  refine jr_get X.c (ci := 3) (C := RX3) (T := TX3) (N := 10) (k := 4) rfl cr_in3 (cr_l_pg cr_pg0) ((cr_row_pg w cr_pg0) _) rfl (by decide) fl_X7_109 dX7_pass_22 ?_
  cases h
  exact jr_iret X.c hr0 dX7_pass_25
set_option maxRecDepth 100000 in
set_option maxHeartbeats 4000000 in
theorem m_X7_pass (l : Launch) (w : cr_Wd) (V : cr_Hp)   (x : Int32 × cr_Hp) (h : f_X7_pass  V = some x) : Met l yX7_pass (cr_wds yX7_pass cX7_pass 1 (some .int)) rm_X7_pass (cr_Pc w V [.ref (w.1 152)]) (cr_Qi w x.2 x.1) 0 0 (cr_A w) := by
  refine cr_met (own := RX7) (lv := [(0, .ref (w.1 152))]) (by decide +kernel) rfl (Nat.le_of_ble_eq_true rfl) rfl (fun p e s m args below meth c X hr0 => ?_)
  exact t_X7_pass X  V  hr0 x h
abbrev rm_X7_count : Room := { frames := 0, cells := 0, slots := 0, locals := 0 }
theorem hd_X7_count : yX7_count.cls = RX7 ∧ yX7_count.cls ≠ "java/lang/invoke/MethodHandle" ∧ yX7_count.cls ≠ "java/lang/invoke/VarHandle" ∧ (parseMethodDescriptor yX7_count.desc).map (fun d => d.parameters.length) = some 1 := by decide +kernel
def f_X7_count (x1 : Int32) (V : cr_Hp) : Option (Int32) :=
  if x1 = (0 : Int32) then (some (V 0 2)) else (if x1 = (1 : Int32) then (some (V 0 3)) else (if x1 = (2 : Int32) then (some (V 0 4)) else (if x1 = (3 : Int32) then (some (V 0 5)) else (if x1 = (4 : Int32) then (some (V 0 6)) else (if x1 = (5 : Int32) then (some (V 0 7)) else (if x1 = (6 : Int32) then (some (V 0 8)) else (if x1 = (7 : Int32) then (some (V 0 9)) else (some (-1002 : Int32)))))))))
set_option maxRecDepth 100000 in
set_option maxHeartbeats 4000000 in
theorem t_X7_count {p : Program} {l : Launch} {e : Env} {s : State} {m : MethodId} {args : Array Value} {below : List Frame} {meth : Method} {c : Code} {w : cr_Wd} (X : cr_Cx w RX7 (Cond.code yX7_count cX7_count 2 (some .int)) cX7_count 2 p s m args meth c) (x1 : Int32) (V : cr_Hp)  (hr0 : meth.sig.returnType = (some .int)) (x : Int32) (h : f_X7_count x1 V = some x) : cr_J w 2 p l e rm_X7_count s m args below meth c 0 0 (MQ below (cr_Qi w V x) args s 0 0 (cr_A w)) V 0 [(0, .ref (w.1 152)), (1, .int x1)] [] := by
  unfold f_X7_count at h
  refine jr_iload_n X.c dX7_count_0 rfl 1 rfl ?_
  by_cases q1_0 : x1 = (0 : Int32)
  · replace h := cr_if_t q1_0 h
    refine jr_tabI X.c (0 : Int32) q1_0 48 dX7_count_1 (by decide) (by decide) (by rfl) (by decide) ?_
    refine jr_aload_n X.c dX7_count_48 rfl 0 rfl ?_
    refine jr_get X.c (ci := 7) (C := RX7) (T := TX7) (N := 5) (k := 0) rfl cr_in7 (Or.inl (by decide)) ((cr_row_152 w) _) rfl (by decide) fl_X7_10 dX7_count_49 ?_
    refine jr_get X.c (ci := 3) (C := RX3) (T := TX3) (N := 10) (k := 2) rfl cr_in3 (cr_l_pg cr_pg0) ((cr_row_pg w cr_pg0) _) rfl (by decide) fl_X7_93 dX7_count_52 ?_
    cases h
    exact jr_iret X.c hr0 dX7_count_55
  replace h := cr_if_f q1_0 h
  by_cases q1_1 : x1 = (1 : Int32)
  · replace h := cr_if_t q1_1 h
    refine jr_tabI X.c (1 : Int32) q1_1 56 dX7_count_1 (by decide) (by decide) (by rfl) (by decide) ?_
    refine jr_aload_n X.c dX7_count_56 rfl 0 rfl ?_
    refine jr_get X.c (ci := 7) (C := RX7) (T := TX7) (N := 5) (k := 0) rfl cr_in7 (Or.inl (by decide)) ((cr_row_152 w) _) rfl (by decide) fl_X7_10 dX7_count_57 ?_
    refine jr_get X.c (ci := 3) (C := RX3) (T := TX3) (N := 10) (k := 3) rfl cr_in3 (cr_l_pg cr_pg0) ((cr_row_pg w cr_pg0) _) rfl (by decide) fl_X7_122 dX7_count_60 ?_
    cases h
    exact jr_iret X.c hr0 dX7_count_63
  replace h := cr_if_f q1_1 h
  by_cases q1_2 : x1 = (2 : Int32)
  · replace h := cr_if_t q1_2 h
    refine jr_tabI X.c (2 : Int32) q1_2 64 dX7_count_1 (by decide) (by decide) (by rfl) (by decide) ?_
    refine jr_aload_n X.c dX7_count_64 rfl 0 rfl ?_
    refine jr_get X.c (ci := 7) (C := RX7) (T := TX7) (N := 5) (k := 0) rfl cr_in7 (Or.inl (by decide)) ((cr_row_152 w) _) rfl (by decide) fl_X7_10 dX7_count_65 ?_
    refine jr_get X.c (ci := 3) (C := RX3) (T := TX3) (N := 10) (k := 4) rfl cr_in3 (cr_l_pg cr_pg0) ((cr_row_pg w cr_pg0) _) rfl (by decide) fl_X7_109 dX7_count_68 ?_
    cases h
    exact jr_iret X.c hr0 dX7_count_71
  replace h := cr_if_f q1_2 h
  by_cases q1_3 : x1 = (3 : Int32)
  · replace h := cr_if_t q1_3 h
    refine jr_tabI X.c (3 : Int32) q1_3 72 dX7_count_1 (by decide) (by decide) (by rfl) (by decide) ?_
    refine jr_aload_n X.c dX7_count_72 rfl 0 rfl ?_
    refine jr_get X.c (ci := 7) (C := RX7) (T := TX7) (N := 5) (k := 0) rfl cr_in7 (Or.inl (by decide)) ((cr_row_152 w) _) rfl (by decide) fl_X7_10 dX7_count_73 ?_
    refine jr_get X.c (ci := 3) (C := RX3) (T := TX3) (N := 10) (k := 5) rfl cr_in3 (cr_l_pg cr_pg0) ((cr_row_pg w cr_pg0) _) rfl (by decide) fl_X7_125 dX7_count_76 ?_
    cases h
    exact jr_iret X.c hr0 dX7_count_79
  replace h := cr_if_f q1_3 h
  by_cases q1_4 : x1 = (4 : Int32)
  · replace h := cr_if_t q1_4 h
    refine jr_tabI X.c (4 : Int32) q1_4 80 dX7_count_1 (by decide) (by decide) (by rfl) (by decide) ?_
    refine jr_aload_n X.c dX7_count_80 rfl 0 rfl ?_
    refine jr_get X.c (ci := 7) (C := RX7) (T := TX7) (N := 5) (k := 0) rfl cr_in7 (Or.inl (by decide)) ((cr_row_152 w) _) rfl (by decide) fl_X7_10 dX7_count_81 ?_
    refine jr_get X.c (ci := 3) (C := RX3) (T := TX3) (N := 10) (k := 6) rfl cr_in3 (cr_l_pg cr_pg0) ((cr_row_pg w cr_pg0) _) rfl (by decide) fl_X7_128 dX7_count_84 ?_
    cases h
    exact jr_iret X.c hr0 dX7_count_87
  replace h := cr_if_f q1_4 h
  by_cases q1_5 : x1 = (5 : Int32)
  · replace h := cr_if_t q1_5 h
    refine jr_tabI X.c (5 : Int32) q1_5 88 dX7_count_1 (by decide) (by decide) (by rfl) (by decide) ?_
    refine jr_aload_n X.c dX7_count_88 rfl 0 rfl ?_
    refine jr_get X.c (ci := 7) (C := RX7) (T := TX7) (N := 5) (k := 0) rfl cr_in7 (Or.inl (by decide)) ((cr_row_152 w) _) rfl (by decide) fl_X7_10 dX7_count_89 ?_
    refine jr_get X.c (ci := 3) (C := RX3) (T := TX3) (N := 10) (k := 7) rfl cr_in3 (cr_l_pg cr_pg0) ((cr_row_pg w cr_pg0) _) rfl (by decide) fl_X7_131 dX7_count_92 ?_
    cases h
    exact jr_iret X.c hr0 dX7_count_95
  replace h := cr_if_f q1_5 h
  by_cases q1_6 : x1 = (6 : Int32)
  · replace h := cr_if_t q1_6 h
    refine jr_tabI X.c (6 : Int32) q1_6 96 dX7_count_1 (by decide) (by decide) (by rfl) (by decide) ?_
    refine jr_aload_n X.c dX7_count_96 rfl 0 rfl ?_
    refine jr_get X.c (ci := 7) (C := RX7) (T := TX7) (N := 5) (k := 0) rfl cr_in7 (Or.inl (by decide)) ((cr_row_152 w) _) rfl (by decide) fl_X7_10 dX7_count_97 ?_
    refine jr_get X.c (ci := 3) (C := RX3) (T := TX3) (N := 10) (k := 8) rfl cr_in3 (cr_l_pg cr_pg0) ((cr_row_pg w cr_pg0) _) rfl (by decide) fl_X7_132 dX7_count_100 ?_
    cases h
    exact jr_iret X.c hr0 dX7_count_103
  replace h := cr_if_f q1_6 h
  by_cases q1_7 : x1 = (7 : Int32)
  · replace h := cr_if_t q1_7 h
    refine jr_tabI X.c (7 : Int32) q1_7 104 dX7_count_1 (by decide) (by decide) (by rfl) (by decide) ?_
    refine jr_aload_n X.c dX7_count_104 rfl 0 rfl ?_
    refine jr_get X.c (ci := 7) (C := RX7) (T := TX7) (N := 5) (k := 0) rfl cr_in7 (Or.inl (by decide)) ((cr_row_152 w) _) rfl (by decide) fl_X7_10 dX7_count_105 ?_
    refine jr_get X.c (ci := 3) (C := RX3) (T := TX3) (N := 10) (k := 9) rfl cr_in3 (cr_l_pg cr_pg0) ((cr_row_pg w cr_pg0) _) rfl (by decide) fl_X7_135 dX7_count_108 ?_
    cases h
    exact jr_iret X.c hr0 dX7_count_111
  replace h := cr_if_f q1_7 h
  have w1_0 := cr_tin (n := 0) q1_0 (by decide)
  have w1_1 := cr_tin (n := 1) q1_1 (by decide)
  have w1_2 := cr_tin (n := 2) q1_2 (by decide)
  have w1_3 := cr_tin (n := 3) q1_3 (by decide)
  have w1_4 := cr_tin (n := 4) q1_4 (by decide)
  have w1_5 := cr_tin (n := 5) q1_5 (by decide)
  have w1_6 := cr_tin (n := 6) q1_6 (by decide)
  have w1_7 := cr_tin (n := 7) q1_7 (by decide)
  refine jr_tabO X.c 112 dX7_count_1 (by omega) (by decide) ?_
  refine jr_sipush X.c (v := (-1002 : Int32)) dX7_count_112 (by decide) ?_
  cases h
  exact jr_iret X.c hr0 dX7_count_115
set_option maxRecDepth 100000 in
set_option maxHeartbeats 4000000 in
theorem m_X7_count (l : Launch) (w : cr_Wd) (V : cr_Hp) (x1 : Int32)  (x : Int32) (h : f_X7_count x1 V = some x) : Met l yX7_count (cr_wds yX7_count cX7_count 2 (some .int)) rm_X7_count (cr_Pc w V [.ref (w.1 152), .int x1]) (cr_Qi w V x) 0 0 (cr_A w) := by
  refine cr_met (own := RX7) (lv := [(0, .ref (w.1 152)), (1, .int x1)]) (by decide +kernel) rfl (Nat.le_of_ble_eq_true rfl) rfl (fun p e s m args below meth c X hr0 => ?_)
  exact t_X7_count X x1 V  hr0 x h
abbrev rm_X7_marble : Room := { frames := 2, cells := 0, slots := 0, locals := 49 }
theorem hd_X7_marble : yX7_marble.cls = RX7 ∧ yX7_marble.cls ≠ "java/lang/invoke/MethodHandle" ∧ yX7_marble.cls ≠ "java/lang/invoke/VarHandle" ∧ (parseMethodDescriptor yX7_marble.desc).map (fun d => d.parameters.length) = some 2 := by decide +kernel
def f_X7_marble (x1 : Int32) (x2 : Int32) (V : cr_Hp) : Option (Int32) :=
  cr_bd (f_X3_findMarble 0 x1 V) (fun (r5 : Option Nat) => cr_on r5 (some (-1001 : Int32)) (fun (a5 : Nat) => cr_gd (cr_ma a5) (if x2 = (0 : Int32) then (if (V a5 6) = 0 then (some (-1006 : Int32)) else (some (V a5 1))) else (if x2 = (1 : Int32) then (if (V a5 6) = 0 then (some (-1006 : Int32)) else (some (V a5 2))) else (if x2 = (2 : Int32) then (some (V a5 3)) else (if x2 = (3 : Int32) then (some (V a5 4)) else (if x2 = (4 : Int32) then (if (V a5 6) = 0 then (some (V a5 5)) else (some (-1006 : Int32))) else (if x2 = (5 : Int32) then (if (V a5 6) = 0 then (some (-1006 : Int32)) else (cr_bd (f_X3_ringsAround 0 (V a5 1) (V a5 2) V) (fun (r139 : Int32) => some r139))) else (some (-1002 : Int32))))))))))
set_option maxRecDepth 100000 in
set_option maxHeartbeats 4000000 in
theorem t_X7_marble {p : Program} {l : Launch} {e : Env} {s : State} {m : MethodId} {args : Array Value} {below : List Frame} {meth : Method} {c : Code} {w : cr_Wd} (X : cr_Cx w RX7 (Cond.code yX7_marble cX7_marble 4 (some .int)) cX7_marble 4 p s m args meth c) (x1 : Int32) (x2 : Int32) (V : cr_Hp)  (hr0 : meth.sig.returnType = (some .int)) (x : Int32) (h : f_X7_marble x1 x2 V = some x) : cr_J w 4 p l e rm_X7_marble s m args below meth c 0 0 (MQ below (cr_Qi w V x) args s 0 0 (cr_A w)) V 0 [(0, .ref (w.1 152)), (1, .int x1), (2, .int x2)] [] := by
  unfold f_X7_marble at h
  refine jr_aload_n X.c dX7_marble_0 rfl 0 rfl ?_
  refine jr_get X.c (ci := 7) (C := RX7) (T := TX7) (N := 5) (k := 0) rfl cr_in7 (Or.inl (by decide)) ((cr_row_152 w) _) rfl (by decide) fl_X7_10 dX7_marble_1 ?_
  refine jr_iload_n X.c dX7_marble_4 rfl 1 rfl ?_
  obtain ⟨r5, hr5, h⟩ := cr_bd_s h
  refine jc_Ve X.c (As := [.int x1]) (V1 := V) (C := RX3) (T := TX3) (N := 10) (ci := 3) 1 (m_X3_findMarble l w V 0 x1 cr_pg0 r5 hr5) ⟨rfl, rfl⟩ ml_X7_58 im_X3_findMarble sl_X3_findMarble in_X3 cd_X3_findMarble hd_X3_findMarble ⟨Nat.le_of_ble_eq_true rfl, Nat.le_of_ble_eq_true rfl⟩ ⟨Nat.le_of_ble_eq_true rfl, Nat.le_of_ble_eq_true rfl⟩ rfl (Nat.le_of_ble_eq_true rfl) (cr_l_pg cr_pg0) ((cr_row_pg w cr_pg0) _) rfl rfl dX7_marble_5 (fun eq5 => ?_) (fun a5 eq5 => ?_)
  · subst eq5
    replace h := cr_on_n h
    refine jr_astore_nN X.c (lv2 := [(3, .null), (0, .ref (w.1 152)), (1, .int x1), (2, .int x2)]) dX7_marble_8 rfl (by decide) rfl ?_
    refine jr_aload_nN X.c dX7_marble_9 rfl 0 rfl ?_
    refine jr_ifnonnullN X.c dX7_marble_10 ?_
    refine jr_sipush X.c (v := (-1001 : Int32)) dX7_marble_13 (by decide) ?_
    cases h
    exact jr_iret X.c hr0 dX7_marble_16
  · subst eq5
    replace h := cr_on_s h
    obtain ⟨ha5, h⟩ := cr_gd_s h
    refine jr_astore_n X.c (lv2 := [(3, .ref (w.1 a5)), (0, .ref (w.1 152)), (1, .int x1), (2, .int x2)]) dX7_marble_8 rfl (by decide) rfl ?_
    refine jr_aload_n X.c dX7_marble_9 rfl 0 rfl ?_
    refine jr_ifnonnullR X.c 17 dX7_marble_10 (by decide) ?_
    refine jr_iload_n X.c dX7_marble_17 rfl 3 rfl ?_
    by_cases q18_0 : x2 = (0 : Int32)
    · replace h := cr_if_t q18_0 h
      refine jr_tabI X.c (0 : Int32) q18_0 56 dX7_marble_18 (by decide) (by decide) (by rfl) (by decide) ?_
      refine jr_aload_n X.c dX7_marble_56 rfl 0 rfl ?_
      refine jr_get X.c (ci := 2) (C := RX2) (T := TX2) (N := 9) (k := 6) rfl cr_in2 (cr_l_ma ha5) ((cr_row_ma w ha5) _) rfl (by decide) fl_X7_66 dX7_marble_57 ?_
      refine jr_if_eq X.c 70 dX7_marble_60 (by decide) (fun q60 => ?_) (fun q60 => ?_)
      · replace h := cr_if_t q60 h
        refine jr_sipush X.c (v := (-1006 : Int32)) dX7_marble_70 (by decide) ?_
        cases h
        exact jr_iret X.c hr0 dX7_marble_73
      · replace h := cr_if_f q60 h
        refine jr_aload_n X.c dX7_marble_63 rfl 0 rfl ?_
        refine jr_get X.c (ci := 2) (C := RX2) (T := TX2) (N := 9) (k := 1) rfl cr_in2 (cr_l_ma ha5) ((cr_row_ma w ha5) _) rfl (by decide) fl_X7_76 dX7_marble_64 ?_
        refine jr_goto X.c 73 dX7_marble_67 (by decide) ?_
        cases h
        exact jr_iret X.c hr0 dX7_marble_73
    replace h := cr_if_f q18_0 h
    by_cases q18_1 : x2 = (1 : Int32)
    · replace h := cr_if_t q18_1 h
      refine jr_tabI X.c (1 : Int32) q18_1 74 dX7_marble_18 (by decide) (by decide) (by rfl) (by decide) ?_
      refine jr_aload_n X.c dX7_marble_74 rfl 0 rfl ?_
      refine jr_get X.c (ci := 2) (C := RX2) (T := TX2) (N := 9) (k := 6) rfl cr_in2 (cr_l_ma ha5) ((cr_row_ma w ha5) _) rfl (by decide) fl_X7_66 dX7_marble_75 ?_
      refine jr_if_eq X.c 88 dX7_marble_78 (by decide) (fun q78 => ?_) (fun q78 => ?_)
      · replace h := cr_if_t q78 h
        refine jr_sipush X.c (v := (-1006 : Int32)) dX7_marble_88 (by decide) ?_
        cases h
        exact jr_iret X.c hr0 dX7_marble_91
      · replace h := cr_if_f q78 h
        refine jr_aload_n X.c dX7_marble_81 rfl 0 rfl ?_
        refine jr_get X.c (ci := 2) (C := RX2) (T := TX2) (N := 9) (k := 2) rfl cr_in2 (cr_l_ma ha5) ((cr_row_ma w ha5) _) rfl (by decide) fl_X7_80 dX7_marble_82 ?_
        refine jr_goto X.c 91 dX7_marble_85 (by decide) ?_
        cases h
        exact jr_iret X.c hr0 dX7_marble_91
    replace h := cr_if_f q18_1 h
    by_cases q18_2 : x2 = (2 : Int32)
    · replace h := cr_if_t q18_2 h
      refine jr_tabI X.c (2 : Int32) q18_2 92 dX7_marble_18 (by decide) (by decide) (by rfl) (by decide) ?_
      refine jr_aload_n X.c dX7_marble_92 rfl 0 rfl ?_
      refine jr_get X.c (ci := 2) (C := RX2) (T := TX2) (N := 9) (k := 3) rfl cr_in2 (cr_l_ma ha5) ((cr_row_ma w ha5) _) rfl (by decide) fl_X7_138 dX7_marble_93 ?_
      cases h
      exact jr_iret X.c hr0 dX7_marble_96
    replace h := cr_if_f q18_2 h
    by_cases q18_3 : x2 = (3 : Int32)
    · replace h := cr_if_t q18_3 h
      refine jr_tabI X.c (3 : Int32) q18_3 97 dX7_marble_18 (by decide) (by decide) (by rfl) (by decide) ?_
      refine jr_aload_n X.c dX7_marble_97 rfl 0 rfl ?_
      refine jr_get X.c (ci := 2) (C := RX2) (T := TX2) (N := 9) (k := 4) rfl cr_in2 (cr_l_ma ha5) ((cr_row_ma w ha5) _) rfl (by decide) fl_X7_106 dX7_marble_98 ?_
      cases h
      exact jr_iret X.c hr0 dX7_marble_101
    replace h := cr_if_f q18_3 h
    by_cases q18_4 : x2 = (4 : Int32)
    · replace h := cr_if_t q18_4 h
      refine jr_tabI X.c (4 : Int32) q18_4 102 dX7_marble_18 (by decide) (by decide) (by rfl) (by decide) ?_
      refine jr_aload_n X.c dX7_marble_102 rfl 0 rfl ?_
      refine jr_get X.c (ci := 2) (C := RX2) (T := TX2) (N := 9) (k := 6) rfl cr_in2 (cr_l_ma ha5) ((cr_row_ma w ha5) _) rfl (by decide) fl_X7_66 dX7_marble_103 ?_
      refine jr_if_eq X.c 115 dX7_marble_106 (by decide) (fun q106 => ?_) (fun q106 => ?_)
      · replace h := cr_if_t q106 h
        refine jr_aload_n X.c dX7_marble_115 rfl 0 rfl ?_
        refine jr_get X.c (ci := 2) (C := RX2) (T := TX2) (N := 9) (k := 5) rfl cr_in2 (cr_l_ma ha5) ((cr_row_ma w ha5) _) rfl (by decide) fl_X7_141 dX7_marble_116 ?_
        cases h
        exact jr_iret X.c hr0 dX7_marble_119
      · replace h := cr_if_f q106 h
        refine jr_sipush X.c (v := (-1006 : Int32)) dX7_marble_109 (by decide) ?_
        refine jr_goto X.c 119 dX7_marble_112 (by decide) ?_
        cases h
        exact jr_iret X.c hr0 dX7_marble_119
    replace h := cr_if_f q18_4 h
    by_cases q18_5 : x2 = (5 : Int32)
    · replace h := cr_if_t q18_5 h
      refine jr_tabI X.c (5 : Int32) q18_5 120 dX7_marble_18 (by decide) (by decide) (by rfl) (by decide) ?_
      refine jr_aload_n X.c dX7_marble_120 rfl 0 rfl ?_
      refine jr_get X.c (ci := 2) (C := RX2) (T := TX2) (N := 9) (k := 6) rfl cr_in2 (cr_l_ma ha5) ((cr_row_ma w ha5) _) rfl (by decide) fl_X7_66 dX7_marble_121 ?_
      refine jr_if_eq X.c 145 dX7_marble_124 (by decide) (fun q124 => ?_) (fun q124 => ?_)
      · replace h := cr_if_t q124 h
        refine jr_sipush X.c (v := (-1006 : Int32)) dX7_marble_145 (by decide) ?_
        cases h
        exact jr_iret X.c hr0 dX7_marble_148
      · replace h := cr_if_f q124 h
        refine jr_aload_n X.c dX7_marble_127 rfl 1 rfl ?_
        refine jr_get X.c (ci := 7) (C := RX7) (T := TX7) (N := 5) (k := 0) rfl cr_in7 (Or.inl (by decide)) ((cr_row_152 w) _) rfl (by decide) fl_X7_10 dX7_marble_128 ?_
        refine jr_aload_n X.c dX7_marble_131 rfl 0 rfl ?_
        refine jr_get X.c (ci := 2) (C := RX2) (T := TX2) (N := 9) (k := 1) rfl cr_in2 (cr_l_ma ha5) ((cr_row_ma w ha5) _) rfl (by decide) fl_X7_76 dX7_marble_132 ?_
        refine jr_aload_n X.c dX7_marble_135 rfl 0 rfl ?_
        refine jr_get X.c (ci := 2) (C := RX2) (T := TX2) (N := 9) (k := 2) rfl cr_in2 (cr_l_ma ha5) ((cr_row_ma w ha5) _) rfl (by decide) fl_X7_80 dX7_marble_136 ?_
        obtain ⟨r139, hr139, h⟩ := cr_bd_s h
        refine jc_Vi X.c (As := [.int (V a5 1), .int (V a5 2)]) (V1 := V) (C := RX3) (T := TX3) (N := 10) (ci := 3) 2 (m_X3_ringsAround l w V 0 (V a5 1) (V a5 2) cr_pg0 r139 hr139) ⟨rfl, rfl⟩ ml_X7_83 im_X3_ringsAround sl_X3_ringsAround in_X3 cd_X3_ringsAround hd_X3_ringsAround ⟨Nat.le_of_ble_eq_true rfl, Nat.le_of_ble_eq_true rfl⟩ ⟨Nat.le_of_ble_eq_true rfl, Nat.le_of_ble_eq_true rfl⟩ rfl (Nat.le_of_ble_eq_true rfl) (cr_l_pg cr_pg0) ((cr_row_pg w cr_pg0) _) rfl rfl dX7_marble_139 ?_
        refine jr_goto X.c 148 dX7_marble_142 (by decide) ?_
        cases h
        exact jr_iret X.c hr0 dX7_marble_148
    replace h := cr_if_f q18_5 h
    have w18_0 := cr_tin (n := 0) q18_0 (by decide)
    have w18_1 := cr_tin (n := 1) q18_1 (by decide)
    have w18_2 := cr_tin (n := 2) q18_2 (by decide)
    have w18_3 := cr_tin (n := 3) q18_3 (by decide)
    have w18_4 := cr_tin (n := 4) q18_4 (by decide)
    have w18_5 := cr_tin (n := 5) q18_5 (by decide)
    refine jr_tabO X.c 149 dX7_marble_18 (by omega) (by decide) ?_
    refine jr_sipush X.c (v := (-1002 : Int32)) dX7_marble_149 (by decide) ?_
    cases h
    exact jr_iret X.c hr0 dX7_marble_152
set_option maxRecDepth 100000 in
set_option maxHeartbeats 4000000 in
theorem m_X7_marble (l : Launch) (w : cr_Wd) (V : cr_Hp) (x1 : Int32) (x2 : Int32)  (x : Int32) (h : f_X7_marble x1 x2 V = some x) : Met l yX7_marble (cr_wds yX7_marble cX7_marble 4 (some .int)) rm_X7_marble (cr_Pc w V [.ref (w.1 152), .int x1, .int x2]) (cr_Qi w V x) 0 0 (cr_A w) := by
  refine cr_met (own := RX7) (lv := [(0, .ref (w.1 152)), (1, .int x1), (2, .int x2)]) (by decide +kernel) rfl (Nat.le_of_ble_eq_true rfl) rfl (fun p e s m args below meth c X hr0 => ?_)
  exact t_X7_marble X x1 x2 V  hr0 x h
abbrev rm_X3_findRing : Room := { frames := 0, cells := 0, slots := 0, locals := 0 }
theorem hd_X3_findRing : yX3_findRing.cls = RX3 ∧ yX3_findRing.cls ≠ "java/lang/invoke/MethodHandle" ∧ yX3_findRing.cls ≠ "java/lang/invoke/VarHandle" ∧ (parseMethodDescriptor yX3_findRing.desc).map (fun d => d.parameters.length) = some 1 := by decide +kernel
def f_X3_findRing (a0 : Nat) (x1 : Int32) (V : cr_Hp) : Option (Option Nat) :=
  if x1 < 0 then (some none) else (if (V a0 3) ≤ x1 then (some none) else (if x1 < (4 : Int32) then (cr_gd (cr_ix x1 4) (some (some ((a0 + 2) + 13 + x1.toNatClampNeg)))) else (some none)))
set_option maxRecDepth 100000 in
set_option maxHeartbeats 4000000 in
theorem t_X3_findRing {p : Program} {l : Launch} {e : Env} {s : State} {m : MethodId} {args : Array Value} {below : List Frame} {meth : Method} {c : Code} {w : cr_Wd} (X : cr_Cx w RX3 (Cond.code yX3_findRing cX3_findRing 2 (some (.object "ChalkRings$Ring"))) cX3_findRing 2 p s m args meth c) (a0 : Nat) (x1 : Int32) (V : cr_Hp) (ha0 : cr_pg a0) (hr0 : meth.sig.returnType = (some (.object "ChalkRings$Ring"))) (x : Option Nat) (h : f_X3_findRing a0 x1 V = some x) : cr_J w 2 p l e rm_X3_findRing s m args below meth c 0 0 (MQ below (cr_Qe w V x) args s 0 0 (cr_A w)) V 0 [(0, .ref (w.1 a0)), (1, .int x1)] [] := by
  unfold f_X3_findRing at h
  refine jr_iload_n X.c dX3_findRing_0 rfl 1 rfl ?_
  refine jr_if_lt X.c 21 dX3_findRing_1 (by decide) (fun q1 => ?_) (fun q1 => ?_)
  · replace h := cr_if_t q1 h
    refine jr_null X.c dX3_findRing_21 ?_
    refine jr_goto X.c 31 dX3_findRing_22 (by decide) ?_
    cases h
    exact jr_aret X.c (r := none) hr0 dX3_findRing_31 rfl
  · replace h := cr_if_f q1 h
    refine jr_iload_n X.c dX3_findRing_4 rfl 1 rfl ?_
    refine jr_aload_n X.c dX3_findRing_5 rfl 0 rfl ?_
    refine jr_get X.c (ci := 3) (C := RX3) (T := TX3) (N := 10) (k := 3) rfl cr_in3 (cr_l_pg ha0) ((cr_row_pg w ha0) _) rfl (by decide) fl_X3_38 dX3_findRing_6 ?_
    refine jr_icmp_ge X.c 21 dX3_findRing_9 (by decide) (fun q9 => ?_) (fun q9 => ?_)
    · replace h := cr_if_t q9 h
      refine jr_null X.c dX3_findRing_21 ?_
      refine jr_goto X.c 31 dX3_findRing_22 (by decide) ?_
      cases h
      exact jr_aret X.c (r := none) hr0 dX3_findRing_31 rfl
    · replace h := cr_if_f q9 h
      refine jr_iload_n X.c dX3_findRing_12 rfl 1 rfl ?_
      refine jr_aload_n X.c dX3_findRing_13 rfl 0 rfl ?_
      refine jr_get X.c (ci := 3) (C := RX3) (T := TX3) (N := 10) (k := 1) rfl cr_in3 (cr_l_pg ha0) ((cr_row_pg w ha0) _) rfl (by decide) fl_X3_22 dX3_findRing_14 ?_
      refine jr_alen X.c (v := (4 : Int32)) 3 rfl (cr_l_rs (cr_pg_rs ha0)) ((cr_row_rs w (cr_pg_rs ha0)) _) rfl dX3_findRing_17 ?_
      refine jr_icmp_lt X.c 25 dX3_findRing_18 (by decide) (fun q18 => ?_) (fun q18 => ?_)
      · replace h := cr_if_t q18 h
        refine jr_aload_n X.c dX3_findRing_25 rfl 0 rfl ?_
        refine jr_get X.c (ci := 3) (C := RX3) (T := TX3) (N := 10) (k := 1) rfl cr_in3 (cr_l_pg ha0) ((cr_row_pg w ha0) _) rfl (by decide) fl_X3_22 dX3_findRing_26 ?_
        refine jr_iload_n X.c dX3_findRing_29 rfl 1 rfl ?_
        obtain ⟨hi30, h⟩ := cr_gd_s h
        refine jr_aald X.c (f := (fun j => (a0 + 2) + 13 + j)) 3 rfl (cr_l_rs (cr_pg_rs ha0)) ((cr_row_rs w (cr_pg_rs ha0)) _) hi30 dX3_findRing_30 ?_
        cases h
        exact jr_aret X.c (r := (some ((a0 + 2) + 13 + x1.toNatClampNeg))) hr0 dX3_findRing_31 rfl
      · replace h := cr_if_f q18 h
        refine jr_null X.c dX3_findRing_21 ?_
        refine jr_goto X.c 31 dX3_findRing_22 (by decide) ?_
        cases h
        exact jr_aret X.c (r := none) hr0 dX3_findRing_31 rfl
set_option maxRecDepth 100000 in
set_option maxHeartbeats 4000000 in
theorem m_X3_findRing (l : Launch) (w : cr_Wd) (V : cr_Hp) (a0 : Nat) (x1 : Int32) (ha0 : cr_pg a0) (x : Option Nat) (h : f_X3_findRing a0 x1 V = some x) : Met l yX3_findRing (cr_wds yX3_findRing cX3_findRing 2 (some (.object "ChalkRings$Ring"))) rm_X3_findRing (cr_Pc w V [.ref (w.1 a0), .int x1]) (cr_Qe w V x) 0 0 (cr_A w) := by
  refine cr_met (own := RX3) (lv := [(0, .ref (w.1 a0)), (1, .int x1)]) (by decide +kernel) rfl (Nat.le_of_ble_eq_true rfl) rfl (fun p e s m args below meth c X hr0 => ?_)
  exact t_X3_findRing X a0 x1 V ha0 hr0 x h
abbrev rm_X3_marblesIn : Room := { frames := 1, cells := 0, slots := 0, locals := 24 }
theorem hd_X3_marblesIn : yX3_marblesIn.cls = RX3 ∧ yX3_marblesIn.cls ≠ "java/lang/invoke/MethodHandle" ∧ yX3_marblesIn.cls ≠ "java/lang/invoke/VarHandle" ∧ (parseMethodDescriptor yX3_marblesIn.desc).map (fun d => d.parameters.length) = some 1 := by decide +kernel
def f_X3_marblesIn_l14 (a0 : Nat) (p1 : Nat) (x2_14 : Int32) (x5_14 : Int32) (V : cr_Hp) : Option ((Int32 × Int32) ⊕ Int32) :=
  if (12 : Int32) ≤ x5_14 then (some (.inr x2_14)) else (cr_gd (cr_ix x5_14 12) (if (V ((a0 + 1) + 2 + x5_14.toNatClampNeg) 6) = 0 then (some (.inl (x2_14, (x5_14 + (1 : Int32))))) else (cr_bd (f_X4_holds p1 (V ((a0 + 1) + 2 + x5_14.toNatClampNeg) 1) (V ((a0 + 1) + 2 + x5_14.toNatClampNeg) 2) V) (fun (r51 : Int32) => if r51 = 0 then (some (.inl (x2_14, (x5_14 + (1 : Int32))))) else (cr_lt ((x2_14 ||| ((1 : Int32) <<< ((V ((a0 + 1) + 2 + x5_14.toNatClampNeg) 0) &&& 31)))) (fun (n66 : Int32) => some (.inl (n66, (x5_14 + (1 : Int32))))))))))
set_option maxRecDepth 100000 in
set_option maxHeartbeats 4000000 in
theorem t_X3_marblesIn_l14 {p : Program} {l : Launch} {e : Env} {s : State} {m : MethodId} {args : Array Value} {below : List Frame} {meth : Method} {c : Code} {w : cr_Wd} {Q : State → Prop} (X : cr_Cx w RX3 (Cond.code yX3_marblesIn cX3_marblesIn 7 (some .int)) cX3_marblesIn 7 p s m args meth c) (a0 : Nat) (p1 : Nat) (x2_14 : Int32) (x5_14 : Int32) (V : cr_Hp) (ha0 : cr_pg a0) (hp1 : cr_rg p1) (x : (Int32 × Int32) ⊕ Int32) (h : f_X3_marblesIn_l14 a0 p1 x2_14 x5_14 V = some x) (kl : ∀ (x2_14 : Int32) (x5_14 : Int32), x = .inl (x2_14, x5_14) → cr_J w 7 p l e rm_X3_marblesIn s m args below meth c 0 0 Q V 14 [(1, .ref (w.1 p1)), (2, .int x2_14), (3, .ref (w.1 (a0 + 1))), (4, .int (12 : Int32)), (5, .int x5_14)] []) (kr73 : ∀ (u2_14_73 : Int32), x = .inr u2_14_73 → cr_J w 7 p l e rm_X3_marblesIn s m args below meth c 0 0 Q V 73 [(2, .int u2_14_73)] []) : cr_J w 7 p l e rm_X3_marblesIn s m args below meth c 0 0 Q V 14 [(1, .ref (w.1 p1)), (2, .int x2_14), (3, .ref (w.1 (a0 + 1))), (4, .int (12 : Int32)), (5, .int x5_14)] [] := by
  unfold f_X3_marblesIn_l14 at h
  refine jr_iload X.c dX3_marblesIn_14 4 rfl ?_
  refine jr_iload X.c dX3_marblesIn_16 3 rfl ?_
  refine jr_icmp_ge X.c 73 dX3_marblesIn_18 (by decide) (fun q18 => ?_) (fun q18 => ?_)
  · replace h := cr_if_t q18 h
    cases h
    refine jr_sub [1] rfl ?_
    exact kr73 x2_14 rfl
  · replace h := cr_if_f q18 h
    refine jr_aload_n X.c dX3_marblesIn_21 rfl 2 rfl ?_
    refine jr_iload X.c dX3_marblesIn_22 4 rfl ?_
    obtain ⟨hi24, h⟩ := cr_gd_s h
    refine jr_aald X.c (f := (fun j => (a0 + 1) + 2 + j)) 2 rfl (cr_l_ms (cr_pg_ms ha0)) ((cr_row_ms w (cr_pg_ms ha0)) _) hi24 dX3_marblesIn_24 ?_
    refine jr_astore X.c (lv2 := [(6, .ref (w.1 ((a0 + 1) + 2 + x5_14.toNatClampNeg))), (1, .ref (w.1 p1)), (2, .int x2_14), (3, .ref (w.1 (a0 + 1))), (4, .int (12 : Int32)), (5, .int x5_14)]) dX3_marblesIn_25 (by decide) rfl ?_
    refine jr_aload X.c dX3_marblesIn_27 0 rfl ?_
    refine jr_ifnullR X.c dX3_marblesIn_29 ?_
    refine jr_aload X.c dX3_marblesIn_32 0 rfl ?_
    refine jr_get X.c (ci := 2) (C := RX2) (T := TX2) (N := 9) (k := 6) rfl cr_in2 (cr_l_ma (cr_ms_ma (cr_pg_ms ha0) (cr_ix_lt hi24))) ((cr_row_ma w (cr_ms_ma (cr_pg_ms ha0) (cr_ix_lt hi24))) _) rfl (by decide) fl_X3_59 dX3_marblesIn_34 ?_
    refine jr_if_eq X.c 67 dX3_marblesIn_37 (by decide) (fun q37 => ?_) (fun q37 => ?_)
    · replace h := cr_if_t q37 h
      refine jr_iinc X.c (v := (x5_14 + (1 : Int32))) (lv2 := [(5, .int (x5_14 + (1 : Int32))), (6, .ref (w.1 ((a0 + 1) + 2 + x5_14.toNatClampNeg))), (1, .ref (w.1 p1)), (2, .int x2_14), (3, .ref (w.1 (a0 + 1))), (4, .int (12 : Int32))]) dX3_marblesIn_67 5 rfl (by rfl) (by decide) rfl ?_
      refine jr_goto X.c 14 dX3_marblesIn_70 (by decide) ?_
      cases h
      refine jr_sub [2, 3, 4, 5, 0] rfl ?_
      exact kl x2_14 (x5_14 + (1 : Int32)) rfl
    · replace h := cr_if_f q37 h
      refine jr_aload_n X.c dX3_marblesIn_40 rfl 1 rfl ?_
      refine jr_aload X.c dX3_marblesIn_41 0 rfl ?_
      refine jr_get X.c (ci := 2) (C := RX2) (T := TX2) (N := 9) (k := 1) rfl cr_in2 (cr_l_ma (cr_ms_ma (cr_pg_ms ha0) (cr_ix_lt hi24))) ((cr_row_ma w (cr_ms_ma (cr_pg_ms ha0) (cr_ix_lt hi24))) _) rfl (by decide) fl_X3_81 dX3_marblesIn_43 ?_
      refine jr_aload X.c dX3_marblesIn_46 0 rfl ?_
      refine jr_get X.c (ci := 2) (C := RX2) (T := TX2) (N := 9) (k := 2) rfl cr_in2 (cr_l_ma (cr_ms_ma (cr_pg_ms ha0) (cr_ix_lt hi24))) ((cr_row_ma w (cr_ms_ma (cr_pg_ms ha0) (cr_ix_lt hi24))) _) rfl (by decide) fl_X3_84 dX3_marblesIn_48 ?_
      obtain ⟨r51, hr51, h⟩ := cr_bd_s h
      refine jc_Vi X.c (As := [.int (V ((a0 + 1) + 2 + x5_14.toNatClampNeg) 1), .int (V ((a0 + 1) + 2 + x5_14.toNatClampNeg) 2)]) (V1 := V) (C := RX4) (T := TX4) (N := 3) (ci := 4) 2 (m_X4_holds l w V p1 (V ((a0 + 1) + 2 + x5_14.toNatClampNeg) 1) (V ((a0 + 1) + 2 + x5_14.toNatClampNeg) 2) hp1 r51 hr51) ⟨rfl, rfl⟩ ml_X3_98 im_X4_holds sl_X4_holds in_X4 cd_X4_holds hd_X4_holds ⟨Nat.le_of_ble_eq_true rfl, Nat.le_of_ble_eq_true rfl⟩ ⟨Nat.le_of_ble_eq_true rfl, Nat.le_of_ble_eq_true rfl⟩ rfl (Nat.le_of_ble_eq_true rfl) (cr_l_rg hp1) ((cr_row_rg w hp1) _) rfl rfl dX3_marblesIn_51 ?_
      refine jr_if_eq X.c 67 dX3_marblesIn_54 (by decide) (fun q54 => ?_) (fun q54 => ?_)
      · replace h := cr_if_t q54 h
        refine jr_iinc X.c (v := (x5_14 + (1 : Int32))) (lv2 := [(5, .int (x5_14 + (1 : Int32))), (6, .ref (w.1 ((a0 + 1) + 2 + x5_14.toNatClampNeg))), (1, .ref (w.1 p1)), (2, .int x2_14), (3, .ref (w.1 (a0 + 1))), (4, .int (12 : Int32))]) dX3_marblesIn_67 5 rfl (by rfl) (by decide) rfl ?_
        refine jr_goto X.c 14 dX3_marblesIn_70 (by decide) ?_
        cases h
        refine jr_sub [2, 3, 4, 5, 0] rfl ?_
        exact kl x2_14 (x5_14 + (1 : Int32)) rfl
      · replace h := cr_if_f q54 h
        refine jr_iload_n X.c dX3_marblesIn_57 rfl 2 rfl ?_
        refine jr_iconst X.c (v := (1 : Int32)) dX3_marblesIn_58 (by decide) ?_
        refine jr_aload X.c dX3_marblesIn_59 0 rfl ?_
        refine jr_get X.c (ci := 2) (C := RX2) (T := TX2) (N := 9) (k := 0) rfl cr_in2 (cr_l_ma (cr_ms_ma (cr_pg_ms ha0) (cr_ix_lt hi24))) ((cr_row_ma w (cr_ms_ma (cr_pg_ms ha0) (cr_ix_lt hi24))) _) rfl (by decide) fl_X3_93 dX3_marblesIn_61 ?_
        refine jr_ishl X.c dX3_marblesIn_64 ?_
        refine jr_ior X.c dX3_marblesIn_65 ?_
        obtain ⟨n66, en66, h⟩ := cr_lt_s h
        refine jr_top en66 ?_
        refine jr_istore_n X.c (lv2 := [(2, .int n66), (6, .ref (w.1 ((a0 + 1) + 2 + x5_14.toNatClampNeg))), (1, .ref (w.1 p1)), (3, .ref (w.1 (a0 + 1))), (4, .int (12 : Int32)), (5, .int x5_14)]) dX3_marblesIn_66 rfl (by decide) rfl ?_
        refine jr_iinc X.c (v := (x5_14 + (1 : Int32))) (lv2 := [(5, .int (x5_14 + (1 : Int32))), (2, .int n66), (6, .ref (w.1 ((a0 + 1) + 2 + x5_14.toNatClampNeg))), (1, .ref (w.1 p1)), (3, .ref (w.1 (a0 + 1))), (4, .int (12 : Int32))]) dX3_marblesIn_67 5 rfl (by rfl) (by decide) rfl ?_
        refine jr_goto X.c 14 dX3_marblesIn_70 (by decide) ?_
        cases h
        refine jr_sub [3, 1, 4, 5, 0] rfl ?_
        exact kl n66 (x5_14 + (1 : Int32)) rfl
def f_X3_marblesIn (a0 : Nat) (p1 : Nat) (V : cr_Hp) : Option (Int32) :=
  cr_bd (cr_it (fun (q : Int32 × Int32) => f_X3_marblesIn_l14 a0 p1 q.1 q.2 V) cr_FU ((0 : Int32), (0 : Int32))) (fun (u2_14_73 : Int32) => some u2_14_73)
set_option maxRecDepth 100000 in
set_option maxHeartbeats 4000000 in
theorem t_X3_marblesIn {p : Program} {l : Launch} {e : Env} {s : State} {m : MethodId} {args : Array Value} {below : List Frame} {meth : Method} {c : Code} {w : cr_Wd} (X : cr_Cx w RX3 (Cond.code yX3_marblesIn cX3_marblesIn 7 (some .int)) cX3_marblesIn 7 p s m args meth c) (a0 : Nat) (p1 : Nat) (V : cr_Hp) (ha0 : cr_pg a0) (hp1 : cr_rg p1) (hr0 : meth.sig.returnType = (some .int)) (x : Int32) (h : f_X3_marblesIn a0 p1 V = some x) : cr_J w 7 p l e rm_X3_marblesIn s m args below meth c 0 0 (MQ below (cr_Qi w V x) args s 0 0 (cr_A w)) V 0 [(0, .ref (w.1 a0)), (1, .ref (w.1 p1))] [] := by
  unfold f_X3_marblesIn at h
  refine jr_iconst X.c (v := (0 : Int32)) dX3_marblesIn_0 (by decide) ?_
  refine jr_istore_n X.c (lv2 := [(2, .int (0 : Int32)), (0, .ref (w.1 a0)), (1, .ref (w.1 p1))]) dX3_marblesIn_1 rfl (by decide) rfl ?_
  refine jr_aload_n X.c dX3_marblesIn_2 rfl 1 rfl ?_
  refine jr_get X.c (ci := 3) (C := RX3) (T := TX3) (N := 10) (k := 0) rfl cr_in3 (cr_l_pg ha0) ((cr_row_pg w ha0) _) rfl (by decide) fl_X3_11 dX3_marblesIn_3 ?_
  refine jr_astore_n X.c (lv2 := [(3, .ref (w.1 (a0 + 1))), (2, .int (0 : Int32)), (0, .ref (w.1 a0)), (1, .ref (w.1 p1))]) dX3_marblesIn_6 rfl (by decide) rfl ?_
  refine jr_aload_n X.c dX3_marblesIn_7 rfl 0 rfl ?_
  refine jr_alen X.c (v := (12 : Int32)) 2 rfl (cr_l_ms (cr_pg_ms ha0)) ((cr_row_ms w (cr_pg_ms ha0)) _) rfl dX3_marblesIn_8 ?_
  refine jr_istore X.c (lv2 := [(4, .int (12 : Int32)), (3, .ref (w.1 (a0 + 1))), (2, .int (0 : Int32)), (0, .ref (w.1 a0)), (1, .ref (w.1 p1))]) dX3_marblesIn_9 (by decide) rfl ?_
  refine jr_iconst X.c (v := (0 : Int32)) dX3_marblesIn_11 (by decide) ?_
  refine jr_istore X.c (lv2 := [(5, .int (0 : Int32)), (4, .int (12 : Int32)), (3, .ref (w.1 (a0 + 1))), (2, .int (0 : Int32)), (0, .ref (w.1 a0)), (1, .ref (w.1 p1))]) dX3_marblesIn_12 (by decide) rfl ?_
  obtain ⟨e14, he14, h⟩ := cr_bd_s h
  have kx73 : ∀ (u2_14_73 : Int32), e14 = u2_14_73 → cr_J w 7 p l e rm_X3_marblesIn s m args below meth c 0 0 (MQ below (cr_Qi w V x) args s 0 0 (cr_A w)) V 73 [(2, .int u2_14_73)] [] := by
    intro u2_14_73 qx
    rw [qx] at h
    refine jr_iload_n X.c dX3_marblesIn_73 rfl 0 rfl ?_
    cases h
    exact jr_iret X.c hr0 dX3_marblesIn_74
  refine jr_sub [5, 3, 2, 1, 0] rfl ?_
  refine cr_it_W (f := (fun (q : Int32 × Int32) => f_X3_marblesIn_l14 a0 p1 q.1 q.2 V)) (P := fun (q : Int32 × Int32) => cr_J w 7 p l e rm_X3_marblesIn s m args below meth c 0 0 (MQ below (cr_Qi w V x) args s 0 0 (cr_A w)) V 14 [(1, .ref (w.1 p1)), (2, .int q.1), (3, .ref (w.1 (a0 + 1))), (4, .int (12 : Int32)), (5, .int q.2)] []) (K := fun z => z = e14) (fun q x hx kl kr => ?_) cr_FU ((0 : Int32), (0 : Int32)) e14 he14 rfl
  obtain ⟨x2_14, x5_14⟩ := q
  exact t_X3_marblesIn_l14 X a0 p1 x2_14 x5_14 V ha0 hp1 x hx (fun x2_14 x5_14 ez => kl _ ez) (fun u2_14_73 ez => kx73 u2_14_73 ((kr _ ez).symm))
set_option maxRecDepth 100000 in
set_option maxHeartbeats 4000000 in
theorem m_X3_marblesIn (l : Launch) (w : cr_Wd) (V : cr_Hp) (a0 : Nat) (p1 : Nat) (ha0 : cr_pg a0) (hp1 : cr_rg p1) (x : Int32) (h : f_X3_marblesIn a0 p1 V = some x) : Met l yX3_marblesIn (cr_wds yX3_marblesIn cX3_marblesIn 7 (some .int)) rm_X3_marblesIn (cr_Pc w V [.ref (w.1 a0), .ref (w.1 p1)]) (cr_Qi w V x) 0 0 (cr_A w) := by
  refine cr_met (own := RX3) (lv := [(0, .ref (w.1 a0)), (1, .ref (w.1 p1))]) (by decide +kernel) rfl (Nat.le_of_ble_eq_true rfl) rfl (fun p e s m args below meth c X hr0 => ?_)
  exact t_X3_marblesIn X a0 p1 V ha0 hp1 hr0 x h
abbrev rm_X4_pointsInside : Room := { frames := 1, cells := 0, slots := 0, locals := 24 }
theorem hd_X4_pointsInside : yX4_pointsInside.cls = RX4 ∧ yX4_pointsInside.cls ≠ "java/lang/invoke/MethodHandle" ∧ yX4_pointsInside.cls ≠ "java/lang/invoke/VarHandle" ∧ (parseMethodDescriptor yX4_pointsInside.desc).map (fun d => d.parameters.length) = some 0 := by decide +kernel
def f_X4_pointsInside_l12 (a0 : Nat) (x2_4 : Int32) (x1_12 : Int32) (x3_12 : Int32) (V : cr_Hp) : Option ((Int32 × Int32) ⊕ Int32) :=
  if (30 : Int32) < x3_12 then (some (.inr x1_12)) else (cr_bd (f_X4_holds a0 x2_4 x3_12 V) (fun (r21 : Int32) => if r21 = 0 then (some (.inl (x1_12, (x3_12 + (1 : Int32))))) else (some (.inl ((x1_12 + (1 : Int32)), (x3_12 + (1 : Int32)))))))
set_option maxRecDepth 100000 in
set_option maxHeartbeats 4000000 in
theorem t_X4_pointsInside_l12 {p : Program} {l : Launch} {e : Env} {s : State} {m : MethodId} {args : Array Value} {below : List Frame} {meth : Method} {c : Code} {w : cr_Wd} {Q : State → Prop} (X : cr_Cx w RX4 (Cond.code yX4_pointsInside cX4_pointsInside 4 (some .int)) cX4_pointsInside 4 p s m args meth c) (a0 : Nat) (x2_4 : Int32) (x1_12 : Int32) (x3_12 : Int32) (V : cr_Hp) (ha0 : cr_rg a0) (x : (Int32 × Int32) ⊕ Int32) (h : f_X4_pointsInside_l12 a0 x2_4 x1_12 x3_12 V = some x) (kl : ∀ (x1_12 : Int32) (x3_12 : Int32), x = .inl (x1_12, x3_12) → cr_J w 4 p l e rm_X4_pointsInside s m args below meth c 0 0 Q V 12 [(0, .ref (w.1 a0)), (1, .int x1_12), (2, .int x2_4), (3, .int x3_12)] []) (kr36 : ∀ (u1_12_36 : Int32), x = .inr u1_12_36 → cr_J w 4 p l e rm_X4_pointsInside s m args below meth c 0 0 Q V 36 [(0, .ref (w.1 a0)), (1, .int u1_12_36), (2, .int x2_4)] []) : cr_J w 4 p l e rm_X4_pointsInside s m args below meth c 0 0 Q V 12 [(0, .ref (w.1 a0)), (1, .int x1_12), (2, .int x2_4), (3, .int x3_12)] [] := by
  unfold f_X4_pointsInside_l12 at h
  refine jr_iload_n X.c dX4_pointsInside_12 rfl 3 rfl ?_
  refine jr_bipush X.c (v := (30 : Int32)) dX4_pointsInside_13 (by decide) ?_
  refine jr_icmp_gt X.c 36 dX4_pointsInside_15 (by decide) (fun q15 => ?_) (fun q15 => ?_)
  · replace h := cr_if_t q15 h
    cases h
    refine jr_sub [0, 1, 2] rfl ?_
    exact kr36 x1_12 rfl
  · replace h := cr_if_f q15 h
    refine jr_aload_n X.c dX4_pointsInside_18 rfl 0 rfl ?_
    refine jr_iload_n X.c dX4_pointsInside_19 rfl 2 rfl ?_
    refine jr_iload_n X.c dX4_pointsInside_20 rfl 3 rfl ?_
    obtain ⟨r21, hr21, h⟩ := cr_bd_s h
    refine jc_Vi X.c (As := [.int x2_4, .int x3_12]) (V1 := V) (C := RX4) (T := TX4) (N := 3) (ci := 4) 2 (m_X4_holds l w V a0 x2_4 x3_12 ha0 r21 hr21) ⟨rfl, rfl⟩ ml_X4_21 im_X4_holds sl_X4_holds in_X4 cd_X4_holds hd_X4_holds ⟨Nat.le_of_ble_eq_true rfl, Nat.le_of_ble_eq_true rfl⟩ ⟨Nat.le_of_ble_eq_true rfl, Nat.le_of_ble_eq_true rfl⟩ rfl (Nat.le_of_ble_eq_true rfl) (cr_l_rg ha0) ((cr_row_rg w ha0) _) rfl rfl dX4_pointsInside_21 ?_
    refine jr_if_eq X.c 30 dX4_pointsInside_24 (by decide) (fun q24 => ?_) (fun q24 => ?_)
    · replace h := cr_if_t q24 h
      refine jr_iinc X.c (v := (x3_12 + (1 : Int32))) (lv2 := [(3, .int (x3_12 + (1 : Int32))), (0, .ref (w.1 a0)), (1, .int x1_12), (2, .int x2_4)]) dX4_pointsInside_30 3 rfl (by rfl) (by decide) rfl ?_
      refine jr_goto X.c 12 dX4_pointsInside_33 (by decide) ?_
      cases h
      refine jr_sub [1, 2, 3, 0] rfl ?_
      exact kl x1_12 (x3_12 + (1 : Int32)) rfl
    · replace h := cr_if_f q24 h
      refine jr_iinc X.c (v := (x1_12 + (1 : Int32))) (lv2 := [(1, .int (x1_12 + (1 : Int32))), (0, .ref (w.1 a0)), (2, .int x2_4), (3, .int x3_12)]) dX4_pointsInside_27 1 rfl (by rfl) (by decide) rfl ?_
      refine jr_iinc X.c (v := (x3_12 + (1 : Int32))) (lv2 := [(3, .int (x3_12 + (1 : Int32))), (1, .int (x1_12 + (1 : Int32))), (0, .ref (w.1 a0)), (2, .int x2_4)]) dX4_pointsInside_30 3 rfl (by rfl) (by decide) rfl ?_
      refine jr_goto X.c 12 dX4_pointsInside_33 (by decide) ?_
      cases h
      refine jr_sub [2, 1, 3, 0] rfl ?_
      exact kl (x1_12 + (1 : Int32)) (x3_12 + (1 : Int32)) rfl
def f_X4_pointsInside_l4 (a0 : Nat) (x1_4 : Int32) (x2_4 : Int32) (V : cr_Hp) : Option ((Int32 × Int32) ⊕ Int32) :=
  if (30 : Int32) < x2_4 then (some (.inr x1_4)) else (cr_bd (cr_it (fun (q : Int32 × Int32) => f_X4_pointsInside_l12 a0 x2_4 q.1 q.2 V) cr_FU (x1_4, (0 : Int32))) (fun (u1_12_36 : Int32) => some (.inl (u1_12_36, (x2_4 + (1 : Int32))))))
set_option maxRecDepth 100000 in
set_option maxHeartbeats 4000000 in
theorem t_X4_pointsInside_l4 {p : Program} {l : Launch} {e : Env} {s : State} {m : MethodId} {args : Array Value} {below : List Frame} {meth : Method} {c : Code} {w : cr_Wd} {Q : State → Prop} (X : cr_Cx w RX4 (Cond.code yX4_pointsInside cX4_pointsInside 4 (some .int)) cX4_pointsInside 4 p s m args meth c) (a0 : Nat) (x1_4 : Int32) (x2_4 : Int32) (V : cr_Hp) (ha0 : cr_rg a0) (x : (Int32 × Int32) ⊕ Int32) (h : f_X4_pointsInside_l4 a0 x1_4 x2_4 V = some x) (kl : ∀ (x1_4 : Int32) (x2_4 : Int32), x = .inl (x1_4, x2_4) → cr_J w 4 p l e rm_X4_pointsInside s m args below meth c 0 0 Q V 4 [(0, .ref (w.1 a0)), (1, .int x1_4), (2, .int x2_4)] []) (kr42 : ∀ (u1_4_42 : Int32), x = .inr u1_4_42 → cr_J w 4 p l e rm_X4_pointsInside s m args below meth c 0 0 Q V 42 [(1, .int u1_4_42)] []) : cr_J w 4 p l e rm_X4_pointsInside s m args below meth c 0 0 Q V 4 [(0, .ref (w.1 a0)), (1, .int x1_4), (2, .int x2_4)] [] := by
  unfold f_X4_pointsInside_l4 at h
  refine jr_iload_n X.c dX4_pointsInside_4 rfl 2 rfl ?_
  refine jr_bipush X.c (v := (30 : Int32)) dX4_pointsInside_5 (by decide) ?_
  refine jr_icmp_gt X.c 42 dX4_pointsInside_7 (by decide) (fun q7 => ?_) (fun q7 => ?_)
  · replace h := cr_if_t q7 h
    cases h
    refine jr_sub [1] rfl ?_
    exact kr42 x1_4 rfl
  · replace h := cr_if_f q7 h
    refine jr_iconst X.c (v := (0 : Int32)) dX4_pointsInside_10 (by decide) ?_
    refine jr_istore_n X.c (lv2 := [(3, .int (0 : Int32)), (0, .ref (w.1 a0)), (1, .int x1_4), (2, .int x2_4)]) dX4_pointsInside_11 rfl (by decide) rfl ?_
    obtain ⟨e12, he12, h⟩ := cr_bd_s h
    have kx36 : ∀ (u1_12_36 : Int32), e12 = u1_12_36 → cr_J w 4 p l e rm_X4_pointsInside s m args below meth c 0 0 Q V 36 [(0, .ref (w.1 a0)), (1, .int u1_12_36), (2, .int x2_4)] [] := by
      intro u1_12_36 qx
      rw [qx] at h
      refine jr_iinc X.c (v := (x2_4 + (1 : Int32))) (lv2 := [(2, .int (x2_4 + (1 : Int32))), (0, .ref (w.1 a0)), (1, .int u1_12_36)]) dX4_pointsInside_36 2 rfl (by rfl) (by decide) rfl ?_
      refine jr_goto X.c 4 dX4_pointsInside_39 (by decide) ?_
      cases h
      refine jr_sub [1, 2, 0] rfl ?_
      exact kl u1_12_36 (x2_4 + (1 : Int32)) rfl
    refine jr_sub [1, 2, 3, 0] rfl ?_
    refine cr_it_W (f := (fun (q : Int32 × Int32) => f_X4_pointsInside_l12 a0 x2_4 q.1 q.2 V)) (P := fun (q : Int32 × Int32) => cr_J w 4 p l e rm_X4_pointsInside s m args below meth c 0 0 Q V 12 [(0, .ref (w.1 a0)), (1, .int q.1), (2, .int x2_4), (3, .int q.2)] []) (K := fun z => z = e12) (fun q x hx kl kr => ?_) cr_FU (x1_4, (0 : Int32)) e12 he12 rfl
    obtain ⟨x1_12, x3_12⟩ := q
    exact t_X4_pointsInside_l12 X a0 x2_4 x1_12 x3_12 V ha0 x hx (fun x1_12 x3_12 ez => kl _ ez) (fun u1_12_36 ez => kx36 u1_12_36 ((kr _ ez).symm))
def f_X4_pointsInside (a0 : Nat) (V : cr_Hp) : Option (Int32) :=
  cr_bd (cr_it (fun (q : Int32 × Int32) => f_X4_pointsInside_l4 a0 q.1 q.2 V) cr_FU ((0 : Int32), (0 : Int32))) (fun (u1_4_42 : Int32) => some u1_4_42)
set_option maxRecDepth 100000 in
set_option maxHeartbeats 4000000 in
theorem t_X4_pointsInside {p : Program} {l : Launch} {e : Env} {s : State} {m : MethodId} {args : Array Value} {below : List Frame} {meth : Method} {c : Code} {w : cr_Wd} (X : cr_Cx w RX4 (Cond.code yX4_pointsInside cX4_pointsInside 4 (some .int)) cX4_pointsInside 4 p s m args meth c) (a0 : Nat) (V : cr_Hp) (ha0 : cr_rg a0) (hr0 : meth.sig.returnType = (some .int)) (x : Int32) (h : f_X4_pointsInside a0 V = some x) : cr_J w 4 p l e rm_X4_pointsInside s m args below meth c 0 0 (MQ below (cr_Qi w V x) args s 0 0 (cr_A w)) V 0 [(0, .ref (w.1 a0))] [] := by
  unfold f_X4_pointsInside at h
  refine jr_iconst X.c (v := (0 : Int32)) dX4_pointsInside_0 (by decide) ?_
  refine jr_istore_n X.c (lv2 := [(1, .int (0 : Int32)), (0, .ref (w.1 a0))]) dX4_pointsInside_1 rfl (by decide) rfl ?_
  refine jr_iconst X.c (v := (0 : Int32)) dX4_pointsInside_2 (by decide) ?_
  refine jr_istore_n X.c (lv2 := [(2, .int (0 : Int32)), (1, .int (0 : Int32)), (0, .ref (w.1 a0))]) dX4_pointsInside_3 rfl (by decide) rfl ?_
  obtain ⟨e4, he4, h⟩ := cr_bd_s h
  have kx42 : ∀ (u1_4_42 : Int32), e4 = u1_4_42 → cr_J w 4 p l e rm_X4_pointsInside s m args below meth c 0 0 (MQ below (cr_Qi w V x) args s 0 0 (cr_A w)) V 42 [(1, .int u1_4_42)] [] := by
    intro u1_4_42 qx
    rw [qx] at h
    refine jr_iload_n X.c dX4_pointsInside_42 rfl 0 rfl ?_
    cases h
    exact jr_iret X.c hr0 dX4_pointsInside_43
  refine jr_sub [2, 1, 0] rfl ?_
  refine cr_it_W (f := (fun (q : Int32 × Int32) => f_X4_pointsInside_l4 a0 q.1 q.2 V)) (P := fun (q : Int32 × Int32) => cr_J w 4 p l e rm_X4_pointsInside s m args below meth c 0 0 (MQ below (cr_Qi w V x) args s 0 0 (cr_A w)) V 4 [(0, .ref (w.1 a0)), (1, .int q.1), (2, .int q.2)] []) (K := fun z => z = e4) (fun q x hx kl kr => ?_) cr_FU ((0 : Int32), (0 : Int32)) e4 he4 rfl
  obtain ⟨x1_4, x2_4⟩ := q
  exact t_X4_pointsInside_l4 X a0 x1_4 x2_4 V ha0 x hx (fun x1_4 x2_4 ez => kl _ ez) (fun u1_4_42 ez => kx42 u1_4_42 ((kr _ ez).symm))
set_option maxRecDepth 100000 in
set_option maxHeartbeats 4000000 in
theorem m_X4_pointsInside (l : Launch) (w : cr_Wd) (V : cr_Hp) (a0 : Nat) (ha0 : cr_rg a0) (x : Int32) (h : f_X4_pointsInside a0 V = some x) : Met l yX4_pointsInside (cr_wds yX4_pointsInside cX4_pointsInside 4 (some .int)) rm_X4_pointsInside (cr_Pc w V [.ref (w.1 a0)]) (cr_Qi w V x) 0 0 (cr_A w) := by
  refine cr_met (own := RX4) (lv := [(0, .ref (w.1 a0))]) (by decide +kernel) rfl (Nat.le_of_ble_eq_true rfl) rfl (fun p e s m args below meth c X hr0 => ?_)
  exact t_X4_pointsInside X a0 V ha0 hr0 x h
abbrev rm_X7_ring : Room := { frames := 2, cells := 0, slots := 0, locals := 50 }
theorem hd_X7_ring : yX7_ring.cls = RX7 ∧ yX7_ring.cls ≠ "java/lang/invoke/MethodHandle" ∧ yX7_ring.cls ≠ "java/lang/invoke/VarHandle" ∧ (parseMethodDescriptor yX7_ring.desc).map (fun d => d.parameters.length) = some 2 := by decide +kernel
def f_X7_ring (x1 : Int32) (x2 : Int32) (V : cr_Hp) : Option (Int32) :=
  cr_bd (f_X3_findRing 0 x1 V) (fun (r5 : Option Nat) => cr_on r5 (some (-1001 : Int32)) (fun (a5 : Nat) => cr_gd (cr_rg a5) (if x2 = (0 : Int32) then (some (V a5 0)) else (if x2 = (1 : Int32) then (some (V a5 1)) else (if x2 = (2 : Int32) then (some (V a5 2)) else (if x2 = (3 : Int32) then (cr_bd (f_X3_marblesIn 0 a5 V) (fun (r72 : Int32) => some r72)) else (if x2 = (4 : Int32) then (cr_bd (f_X4_pointsInside a5 V) (fun (r77 : Int32) => some r77)) else (some (-1002 : Int32)))))))))
set_option maxRecDepth 100000 in
set_option maxHeartbeats 4000000 in
theorem t_X7_ring {p : Program} {l : Launch} {e : Env} {s : State} {m : MethodId} {args : Array Value} {below : List Frame} {meth : Method} {c : Code} {w : cr_Wd} (X : cr_Cx w RX7 (Cond.code yX7_ring cX7_ring 4 (some .int)) cX7_ring 4 p s m args meth c) (x1 : Int32) (x2 : Int32) (V : cr_Hp)  (hr0 : meth.sig.returnType = (some .int)) (x : Int32) (h : f_X7_ring x1 x2 V = some x) : cr_J w 4 p l e rm_X7_ring s m args below meth c 0 0 (MQ below (cr_Qi w V x) args s 0 0 (cr_A w)) V 0 [(0, .ref (w.1 152)), (1, .int x1), (2, .int x2)] [] := by
  unfold f_X7_ring at h
  refine jr_aload_n X.c dX7_ring_0 rfl 0 rfl ?_
  refine jr_get X.c (ci := 7) (C := RX7) (T := TX7) (N := 5) (k := 0) rfl cr_in7 (Or.inl (by decide)) ((cr_row_152 w) _) rfl (by decide) fl_X7_10 dX7_ring_1 ?_
  refine jr_iload_n X.c dX7_ring_4 rfl 1 rfl ?_
  obtain ⟨r5, hr5, h⟩ := cr_bd_s h
  refine jc_Ve X.c (As := [.int x1]) (V1 := V) (C := RX3) (T := TX3) (N := 10) (ci := 3) 1 (m_X3_findRing l w V 0 x1 cr_pg0 r5 hr5) ⟨rfl, rfl⟩ ml_X7_144 im_X3_findRing sl_X3_findRing in_X3 cd_X3_findRing hd_X3_findRing ⟨Nat.le_of_ble_eq_true rfl, Nat.le_of_ble_eq_true rfl⟩ ⟨Nat.le_of_ble_eq_true rfl, Nat.le_of_ble_eq_true rfl⟩ rfl (Nat.le_of_ble_eq_true rfl) (cr_l_pg cr_pg0) ((cr_row_pg w cr_pg0) _) rfl rfl dX7_ring_5 (fun eq5 => ?_) (fun a5 eq5 => ?_)
  · subst eq5
    replace h := cr_on_n h
    refine jr_astore_nN X.c (lv2 := [(3, .null), (0, .ref (w.1 152)), (1, .int x1), (2, .int x2)]) dX7_ring_8 rfl (by decide) rfl ?_
    refine jr_aload_nN X.c dX7_ring_9 rfl 0 rfl ?_
    refine jr_ifnonnullN X.c dX7_ring_10 ?_
    refine jr_sipush X.c (v := (-1001 : Int32)) dX7_ring_13 (by decide) ?_
    cases h
    exact jr_iret X.c hr0 dX7_ring_16
  · subst eq5
    replace h := cr_on_s h
    obtain ⟨ha5, h⟩ := cr_gd_s h
    refine jr_astore_n X.c (lv2 := [(3, .ref (w.1 a5)), (0, .ref (w.1 152)), (1, .int x1), (2, .int x2)]) dX7_ring_8 rfl (by decide) rfl ?_
    refine jr_aload_n X.c dX7_ring_9 rfl 0 rfl ?_
    refine jr_ifnonnullR X.c 17 dX7_ring_10 (by decide) ?_
    refine jr_iload_n X.c dX7_ring_17 rfl 3 rfl ?_
    by_cases q18_0 : x2 = (0 : Int32)
    · replace h := cr_if_t q18_0 h
      refine jr_tabI X.c (0 : Int32) q18_0 52 dX7_ring_18 (by decide) (by decide) (by rfl) (by decide) ?_
      refine jr_aload_n X.c dX7_ring_52 rfl 0 rfl ?_
      refine jr_get X.c (ci := 4) (C := RX4) (T := TX4) (N := 3) (k := 0) rfl cr_in4 (cr_l_rg ha5) ((cr_row_rg w ha5) _) rfl (by decide) fl_X7_148 dX7_ring_53 ?_
      cases h
      exact jr_iret X.c hr0 dX7_ring_56
    replace h := cr_if_f q18_0 h
    by_cases q18_1 : x2 = (1 : Int32)
    · replace h := cr_if_t q18_1 h
      refine jr_tabI X.c (1 : Int32) q18_1 57 dX7_ring_18 (by decide) (by decide) (by rfl) (by decide) ?_
      refine jr_aload_n X.c dX7_ring_57 rfl 0 rfl ?_
      refine jr_get X.c (ci := 4) (C := RX4) (T := TX4) (N := 3) (k := 1) rfl cr_in4 (cr_l_rg ha5) ((cr_row_rg w ha5) _) rfl (by decide) fl_X7_151 dX7_ring_58 ?_
      cases h
      exact jr_iret X.c hr0 dX7_ring_61
    replace h := cr_if_f q18_1 h
    by_cases q18_2 : x2 = (2 : Int32)
    · replace h := cr_if_t q18_2 h
      refine jr_tabI X.c (2 : Int32) q18_2 62 dX7_ring_18 (by decide) (by decide) (by rfl) (by decide) ?_
      refine jr_aload_n X.c dX7_ring_62 rfl 0 rfl ?_
      refine jr_get X.c (ci := 4) (C := RX4) (T := TX4) (N := 3) (k := 2) rfl cr_in4 (cr_l_rg ha5) ((cr_row_rg w ha5) _) rfl (by decide) fl_X7_152 dX7_ring_63 ?_
      cases h
      exact jr_iret X.c hr0 dX7_ring_66
    replace h := cr_if_f q18_2 h
    by_cases q18_3 : x2 = (3 : Int32)
    · replace h := cr_if_t q18_3 h
      refine jr_tabI X.c (3 : Int32) q18_3 67 dX7_ring_18 (by decide) (by decide) (by rfl) (by decide) ?_
      refine jr_aload_n X.c dX7_ring_67 rfl 1 rfl ?_
      refine jr_get X.c (ci := 7) (C := RX7) (T := TX7) (N := 5) (k := 0) rfl cr_in7 (Or.inl (by decide)) ((cr_row_152 w) _) rfl (by decide) fl_X7_10 dX7_ring_68 ?_
      refine jr_aload_n X.c dX7_ring_71 rfl 0 rfl ?_
      obtain ⟨r72, hr72, h⟩ := cr_bd_s h
      refine jc_Vi X.c (As := [.ref (w.1 a5)]) (V1 := V) (C := RX3) (T := TX3) (N := 10) (ci := 3) 1 (m_X3_marblesIn l w V 0 a5 cr_pg0 ha5 r72 hr72) ⟨rfl, rfl⟩ ml_X7_155 im_X3_marblesIn sl_X3_marblesIn in_X3 cd_X3_marblesIn hd_X3_marblesIn ⟨Nat.le_of_ble_eq_true rfl, Nat.le_of_ble_eq_true rfl⟩ ⟨Nat.le_of_ble_eq_true rfl, Nat.le_of_ble_eq_true rfl⟩ rfl (Nat.le_of_ble_eq_true rfl) (cr_l_pg cr_pg0) ((cr_row_pg w cr_pg0) _) rfl rfl dX7_ring_72 ?_
      cases h
      exact jr_iret X.c hr0 dX7_ring_75
    replace h := cr_if_f q18_3 h
    by_cases q18_4 : x2 = (4 : Int32)
    · replace h := cr_if_t q18_4 h
      refine jr_tabI X.c (4 : Int32) q18_4 76 dX7_ring_18 (by decide) (by decide) (by rfl) (by decide) ?_
      refine jr_aload_n X.c dX7_ring_76 rfl 0 rfl ?_
      obtain ⟨r77, hr77, h⟩ := cr_bd_s h
      refine jc_Vi X.c (As := []) (V1 := V) (C := RX4) (T := TX4) (N := 3) (ci := 4) 0 (m_X4_pointsInside l w V a5 ha5 r77 hr77) ⟨rfl, rfl⟩ ml_X7_159 im_X4_pointsInside sl_X4_pointsInside in_X4 cd_X4_pointsInside hd_X4_pointsInside ⟨Nat.le_of_ble_eq_true rfl, Nat.le_of_ble_eq_true rfl⟩ ⟨Nat.le_of_ble_eq_true rfl, Nat.le_of_ble_eq_true rfl⟩ rfl (Nat.le_of_ble_eq_true rfl) (cr_l_rg ha5) ((cr_row_rg w ha5) _) rfl rfl dX7_ring_77 ?_
      cases h
      exact jr_iret X.c hr0 dX7_ring_80
    replace h := cr_if_f q18_4 h
    have w18_0 := cr_tin (n := 0) q18_0 (by decide)
    have w18_1 := cr_tin (n := 1) q18_1 (by decide)
    have w18_2 := cr_tin (n := 2) q18_2 (by decide)
    have w18_3 := cr_tin (n := 3) q18_3 (by decide)
    have w18_4 := cr_tin (n := 4) q18_4 (by decide)
    refine jr_tabO X.c 81 dX7_ring_18 (by omega) (by decide) ?_
    refine jr_sipush X.c (v := (-1002 : Int32)) dX7_ring_81 (by decide) ?_
    cases h
    exact jr_iret X.c hr0 dX7_ring_84
set_option maxRecDepth 100000 in
set_option maxHeartbeats 4000000 in
theorem m_X7_ring (l : Launch) (w : cr_Wd) (V : cr_Hp) (x1 : Int32) (x2 : Int32)  (x : Int32) (h : f_X7_ring x1 x2 V = some x) : Met l yX7_ring (cr_wds yX7_ring cX7_ring 4 (some .int)) rm_X7_ring (cr_Pc w V [.ref (w.1 152), .int x1, .int x2]) (cr_Qi w V x) 0 0 (cr_A w) := by
  refine cr_met (own := RX7) (lv := [(0, .ref (w.1 152)), (1, .int x1), (2, .int x2)]) (by decide +kernel) rfl (Nat.le_of_ble_eq_true rfl) rfl (fun p e s m args below meth c X hr0 => ?_)
  exact t_X7_ring X x1 x2 V  hr0 x h
abbrev rm_X7_at : Room := { frames := 1, cells := 0, slots := 0, locals := 26 }
theorem hd_X7_at : yX7_at.cls = RX7 ∧ yX7_at.cls ≠ "java/lang/invoke/MethodHandle" ∧ yX7_at.cls ≠ "java/lang/invoke/VarHandle" ∧ (parseMethodDescriptor yX7_at.desc).map (fun d => d.parameters.length) = some 2 := by decide +kernel
def f_X7_at (x1 : Int32) (x2 : Int32) (V : cr_Hp) : Option (Int32) :=
  cr_bd (f_X7_isPoint x1 x2) (fun (r2 : Int32) => if r2 = 0 then (some (-1001 : Int32)) else (cr_bd (f_X3_marbleOn 0 x1 x2 V) (fun (r18 : Option Nat) => cr_on r18 (some (-1006 : Int32)) (fun (a18 : Nat) => cr_gd (cr_ma a18) (some (V a18 0))))))
set_option maxRecDepth 100000 in
set_option maxHeartbeats 4000000 in
theorem t_X7_at {p : Program} {l : Launch} {e : Env} {s : State} {m : MethodId} {args : Array Value} {below : List Frame} {meth : Method} {c : Code} {w : cr_Wd} (X : cr_Cx w RX7 (Cond.code yX7_at cX7_at 4 (some .int)) cX7_at 4 p s m args meth c) (x1 : Int32) (x2 : Int32) (V : cr_Hp)  (hr0 : meth.sig.returnType = (some .int)) (x : Int32) (h : f_X7_at x1 x2 V = some x) : cr_J w 4 p l e rm_X7_at s m args below meth c 0 0 (MQ below (cr_Qi w V x) args s 0 0 (cr_A w)) V 0 [(0, .ref (w.1 152)), (1, .int x1), (2, .int x2)] [] := by
  unfold f_X7_at at h
  refine jr_iload_n X.c dX7_at_0 rfl 1 rfl ?_
  refine jr_iload_n X.c dX7_at_1 rfl 2 rfl ?_
  obtain ⟨r2, hr2, h⟩ := cr_bd_s h
  refine jc_Si X.c (As := [.int x1, .int x2]) (V1 := V) 2 (m_X7_isPoint l w V x1 x2  r2 hr2) ⟨rfl, rfl⟩ ml_X7_62 st_X7_isPoint in_X7 cd_X7_isPoint hd_X7_isPoint ⟨Nat.le_of_ble_eq_true rfl, Nat.le_of_ble_eq_true rfl⟩ ⟨Nat.le_of_ble_eq_true rfl, Nat.le_of_ble_eq_true rfl⟩ rfl (Nat.le_of_ble_eq_true rfl) rfl dX7_at_2 ?_
  refine jr_if_ne X.c 12 dX7_at_5 (by decide) (fun q5 => ?_) (fun q5 => ?_)
  · replace h := cr_if_f q5 h
    refine jr_aload_n X.c dX7_at_12 rfl 0 rfl ?_
    refine jr_get X.c (ci := 7) (C := RX7) (T := TX7) (N := 5) (k := 0) rfl cr_in7 (Or.inl (by decide)) ((cr_row_152 w) _) rfl (by decide) fl_X7_10 dX7_at_13 ?_
    refine jr_iload_n X.c dX7_at_16 rfl 1 rfl ?_
    refine jr_iload_n X.c dX7_at_17 rfl 2 rfl ?_
    obtain ⟨r18, hr18, h⟩ := cr_bd_s h
    refine jc_Ve X.c (As := [.int x1, .int x2]) (V1 := V) (C := RX3) (T := TX3) (N := 10) (ci := 3) 2 (m_X3_marbleOn l w V 0 x1 x2 cr_pg0 r18 hr18) ⟨rfl, rfl⟩ ml_X7_72 im_X3_marbleOn sl_X3_marbleOn in_X3 cd_X3_marbleOn hd_X3_marbleOn ⟨Nat.le_of_ble_eq_true rfl, Nat.le_of_ble_eq_true rfl⟩ ⟨Nat.le_of_ble_eq_true rfl, Nat.le_of_ble_eq_true rfl⟩ rfl (Nat.le_of_ble_eq_true rfl) (cr_l_pg cr_pg0) ((cr_row_pg w cr_pg0) _) rfl rfl dX7_at_18 (fun eq18 => ?_) (fun a18 eq18 => ?_)
    · subst eq18
      replace h := cr_on_n h
      refine jr_astore_nN X.c (lv2 := [(3, .null), (0, .ref (w.1 152)), (1, .int x1), (2, .int x2)]) dX7_at_21 rfl (by decide) rfl ?_
      refine jr_aload_nN X.c dX7_at_22 rfl 0 rfl ?_
      refine jr_ifnonnullN X.c dX7_at_23 ?_
      refine jr_sipush X.c (v := (-1006 : Int32)) dX7_at_26 (by decide) ?_
      refine jr_goto X.c 36 dX7_at_29 (by decide) ?_
      cases h
      exact jr_iret X.c hr0 dX7_at_36
    · subst eq18
      replace h := cr_on_s h
      obtain ⟨ha18, h⟩ := cr_gd_s h
      refine jr_astore_n X.c (lv2 := [(3, .ref (w.1 a18)), (0, .ref (w.1 152)), (1, .int x1), (2, .int x2)]) dX7_at_21 rfl (by decide) rfl ?_
      refine jr_aload_n X.c dX7_at_22 rfl 0 rfl ?_
      refine jr_ifnonnullR X.c 32 dX7_at_23 (by decide) ?_
      refine jr_aload_n X.c dX7_at_32 rfl 0 rfl ?_
      refine jr_get X.c (ci := 2) (C := RX2) (T := TX2) (N := 9) (k := 0) rfl cr_in2 (cr_l_ma ha18) ((cr_row_ma w ha18) _) rfl (by decide) fl_X7_163 dX7_at_33 ?_
      cases h
      exact jr_iret X.c hr0 dX7_at_36
  · replace h := cr_if_t q5 h
    refine jr_sipush X.c (v := (-1001 : Int32)) dX7_at_8 (by decide) ?_
    cases h
    exact jr_iret X.c hr0 dX7_at_11
set_option maxRecDepth 100000 in
set_option maxHeartbeats 4000000 in
theorem m_X7_at (l : Launch) (w : cr_Wd) (V : cr_Hp) (x1 : Int32) (x2 : Int32)  (x : Int32) (h : f_X7_at x1 x2 V = some x) : Met l yX7_at (cr_wds yX7_at cX7_at 4 (some .int)) rm_X7_at (cr_Pc w V [.ref (w.1 152), .int x1, .int x2]) (cr_Qi w V x) 0 0 (cr_A w) := by
  refine cr_met (own := RX7) (lv := [(0, .ref (w.1 152)), (1, .int x1), (2, .int x2)]) (by decide +kernel) rfl (Nat.le_of_ble_eq_true rfl) rfl (fun p e s m args below meth c X hr0 => ?_)
  exact t_X7_at X x1 x2 V  hr0 x h
