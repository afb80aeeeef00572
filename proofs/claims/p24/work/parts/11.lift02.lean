abbrev rm_X3_addRing : Room := { frames := 0, cells := 0, slots := 0, locals := 0 }
theorem hd_X3_addRing : yX3_addRing.cls = RX3 ∧ yX3_addRing.cls ≠ "java/lang/invoke/MethodHandle" ∧ yX3_addRing.cls ≠ "java/lang/invoke/VarHandle" ∧ (parseMethodDescriptor yX3_addRing.desc).map (fun d => d.parameters.length) = some 3 := by decide +kernel
def f_X3_addRing (a0 : Nat) (x1 : Int32) (x2 : Int32) (x3 : Int32) (V : cr_Hp) : Option (Int32 × cr_Hp) :=
  if (V a0 3) < 0 then (some ((-1004 : Int32), V)) else (if (V a0 3) < (4 : Int32) then (cr_gd (cr_ix (V a0 3) 4) (cr_lt (cr_pt V ((a0 + 2) + 13 + (V a0 3).toNatClampNeg) 0 x1) (fun (V46 : cr_Hp) => cr_lt (cr_pt V46 ((a0 + 2) + 13 + (V a0 3).toNatClampNeg) 1 x2) (fun (V52 : cr_Hp) => cr_lt (cr_pt V52 ((a0 + 2) + 13 + (V a0 3).toNatClampNeg) 2 x3) (fun (V58 : cr_Hp) => cr_lt (cr_pt V58 a0 3 ((V58 a0 3) + (1 : Int32))) (fun (V68 : cr_Hp) => some (((V68 a0 3) - (1 : Int32)), V68))))))) else (some ((-1004 : Int32), V)))
set_option maxRecDepth 100000 in
set_option maxHeartbeats 4000000 in
theorem t_X3_addRing {p : Program} {l : Launch} {e : Env} {s : State} {m : MethodId} {args : Array Value} {below : List Frame} {meth : Method} {c : Code} {w : cr_Wd} (X : cr_Cx w RX3 (Cond.code yX3_addRing cX3_addRing 5 (some .int)) cX3_addRing 5 p s m args meth c) (a0 : Nat) (x1 : Int32) (x2 : Int32) (x3 : Int32) (V : cr_Hp) (ha0 : cr_pg a0) (hr0 : meth.sig.returnType = (some .int)) (x : Int32 × cr_Hp) (h : f_X3_addRing a0 x1 x2 x3 V = some x) : cr_J w 5 p l e rm_X3_addRing s m args below meth c 0 0 (MQ below (cr_Qi w x.2 x.1) args s 0 0 (cr_A w)) V 0 [(0, .ref (w.1 a0)), (1, .int x1), (2, .int x2), (3, .int x3)] [] := by
  unfold f_X3_addRing at h
  refine jr_aload_n X.c dX3_addRing_0 rfl 0 rfl ?_
  refine jr_get X.c (ci := 3) (C := RX3) (T := TX3) (N := 10) (k := 3) rfl cr_in3 (cr_l_pg ha0) ((cr_row_pg w ha0) _) rfl (by decide) fl_X3_38 dX3_addRing_1 ?_
  refine jr_if_lt X.c 19 dX3_addRing_4 (by decide) (fun q4 => ?_) (fun q4 => ?_)
  · replace h := cr_if_t q4 h
    refine jr_sipush X.c (v := (-1004 : Int32)) dX3_addRing_19 (by decide) ?_
    cases h
    exact jr_iret X.c hr0 dX3_addRing_22
  · replace h := cr_if_f q4 h
    refine jr_aload_n X.c dX3_addRing_7 rfl 0 rfl ?_
    refine jr_get X.c (ci := 3) (C := RX3) (T := TX3) (N := 10) (k := 3) rfl cr_in3 (cr_l_pg ha0) ((cr_row_pg w ha0) _) rfl (by decide) fl_X3_38 dX3_addRing_8 ?_
    refine jr_aload_n X.c dX3_addRing_11 rfl 0 rfl ?_
    refine jr_get X.c (ci := 3) (C := RX3) (T := TX3) (N := 10) (k := 1) rfl cr_in3 (cr_l_pg ha0) ((cr_row_pg w ha0) _) rfl (by decide) fl_X3_22 dX3_addRing_12 ?_
    refine jr_alen X.c (v := (4 : Int32)) 3 rfl (cr_l_rs (cr_pg_rs ha0)) ((cr_row_rs w (cr_pg_rs ha0)) _) rfl dX3_addRing_15 ?_
    refine jr_icmp_lt X.c 23 dX3_addRing_16 (by decide) (fun q16 => ?_) (fun q16 => ?_)
    · replace h := cr_if_t q16 h
      refine jr_aload_n X.c dX3_addRing_23 rfl 0 rfl ?_
      refine jr_get X.c (ci := 3) (C := RX3) (T := TX3) (N := 10) (k := 1) rfl cr_in3 (cr_l_pg ha0) ((cr_row_pg w ha0) _) rfl (by decide) fl_X3_22 dX3_addRing_24 ?_
      refine jr_aload_n X.c dX3_addRing_27 rfl 0 rfl ?_
      refine jr_get X.c (ci := 3) (C := RX3) (T := TX3) (N := 10) (k := 3) rfl cr_in3 (cr_l_pg ha0) ((cr_row_pg w ha0) _) rfl (by decide) fl_X3_38 dX3_addRing_28 ?_
      obtain ⟨hi31, h⟩ := cr_gd_s h
      refine jr_aald X.c (f := (fun j => (a0 + 2) + 13 + j)) 3 rfl (cr_l_rs (cr_pg_rs ha0)) ((cr_row_rs w (cr_pg_rs ha0)) _) hi31 dX3_addRing_31 ?_
      refine jr_astore X.c (lv2 := [(4, .ref (w.1 ((a0 + 2) + 13 + (V a0 3).toNatClampNeg))), (0, .ref (w.1 a0)), (1, .int x1), (2, .int x2), (3, .int x3)]) dX3_addRing_32 (by decide) rfl ?_
      refine jr_aload X.c dX3_addRing_34 0 rfl ?_
      refine jr_ifnonnullR X.c 43 dX3_addRing_36 (by decide) ?_
      refine jr_aload X.c dX3_addRing_43 0 rfl ?_
      refine jr_iload_n X.c dX3_addRing_45 rfl 2 rfl ?_
      obtain ⟨V46, eV46, h⟩ := cr_lt_s h
      refine jr_put X.c (ci := 4) (C := RX4) (T := TX4) (N := 3) (k := 0) rfl cr_in4 tyX4 tyX4_ok nmX4 (cr_l_rg (cr_rs_rg (cr_pg_rs ha0) (cr_ix_lt hi31))) (cr_row_rg w (cr_rs_rg (cr_pg_rs ha0) (cr_ix_lt hi31))) rfl (Nat.le_of_ble_eq_true rfl) (by decide) rfl rfl rfl fl_X3_96 dX3_addRing_46 eV46 ?_
      refine jr_aload X.c dX3_addRing_49 0 rfl ?_
      refine jr_iload_n X.c dX3_addRing_51 rfl 3 rfl ?_
      obtain ⟨V52, eV52, h⟩ := cr_lt_s h
      refine jr_put X.c (ci := 4) (C := RX4) (T := TX4) (N := 3) (k := 1) rfl cr_in4 tyX4 tyX4_ok nmX4 (cr_l_rg (cr_rs_rg (cr_pg_rs ha0) (cr_ix_lt hi31))) (cr_row_rg w (cr_rs_rg (cr_pg_rs ha0) (cr_ix_lt hi31))) rfl (Nat.le_of_ble_eq_true rfl) (by decide) rfl rfl rfl fl_X3_97 dX3_addRing_52 eV52 ?_
      refine jr_aload X.c dX3_addRing_55 0 rfl ?_
      refine jr_iload_n X.c dX3_addRing_57 rfl 4 rfl ?_
      obtain ⟨V58, eV58, h⟩ := cr_lt_s h
      refine jr_put X.c (ci := 4) (C := RX4) (T := TX4) (N := 3) (k := 2) rfl cr_in4 tyX4 tyX4_ok nmX4 (cr_l_rg (cr_rs_rg (cr_pg_rs ha0) (cr_ix_lt hi31))) (cr_row_rg w (cr_rs_rg (cr_pg_rs ha0) (cr_ix_lt hi31))) rfl (Nat.le_of_ble_eq_true rfl) (by decide) rfl rfl rfl fl_X3_66 dX3_addRing_58 eV58 ?_
      refine jr_aload_n X.c dX3_addRing_61 rfl 1 rfl ?_
      refine jr_dup X.c dX3_addRing_62 rfl ?_
      refine jr_get X.c (ci := 3) (C := RX3) (T := TX3) (N := 10) (k := 3) rfl cr_in3 (cr_l_pg ha0) ((cr_row_pg w ha0) _) rfl (by decide) fl_X3_38 dX3_addRing_63 ?_
      refine jr_iconst X.c (v := (1 : Int32)) dX3_addRing_66 (by decide) ?_
      refine jr_iadd X.c dX3_addRing_67 ?_
      obtain ⟨V68, eV68, h⟩ := cr_lt_s h
      refine jr_put X.c (ci := 3) (C := RX3) (T := TX3) (N := 10) (k := 3) rfl cr_in3 tyX3 tyX3_ok nmX3 (cr_l_pg ha0) (cr_row_pg w ha0) rfl (Nat.le_of_ble_eq_true rfl) (by decide) rfl rfl rfl fl_X3_38 dX3_addRing_68 eV68 ?_
      refine jr_aload_n X.c dX3_addRing_71 rfl 1 rfl ?_
      refine jr_get X.c (ci := 3) (C := RX3) (T := TX3) (N := 10) (k := 3) rfl cr_in3 (cr_l_pg ha0) ((cr_row_pg w ha0) _) rfl (by decide) fl_X3_38 dX3_addRing_72 ?_
      refine jr_iconst X.c (v := (1 : Int32)) dX3_addRing_75 (by decide) ?_
      refine jr_isub X.c dX3_addRing_76 ?_
      cases h
      exact jr_iret X.c hr0 dX3_addRing_77
    · replace h := cr_if_f q16 h
      refine jr_sipush X.c (v := (-1004 : Int32)) dX3_addRing_19 (by decide) ?_
      cases h
      exact jr_iret X.c hr0 dX3_addRing_22
set_option maxRecDepth 100000 in
set_option maxHeartbeats 4000000 in
theorem m_X3_addRing (l : Launch) (w : cr_Wd) (V : cr_Hp) (a0 : Nat) (x1 : Int32) (x2 : Int32) (x3 : Int32) (ha0 : cr_pg a0) (x : Int32 × cr_Hp) (h : f_X3_addRing a0 x1 x2 x3 V = some x) : Met l yX3_addRing (cr_wds yX3_addRing cX3_addRing 5 (some .int)) rm_X3_addRing (cr_Pc w V [.ref (w.1 a0), .int x1, .int x2, .int x3]) (cr_Qi w x.2 x.1) 0 0 (cr_A w) := by
  refine cr_met (own := RX3) (lv := [(0, .ref (w.1 a0)), (1, .int x1), (2, .int x2), (3, .int x3)]) (by decide +kernel) rfl (Nat.le_of_ble_eq_true rfl) rfl (fun p e s m args below meth c X hr0 => ?_)
  exact t_X3_addRing X a0 x1 x2 x3 V ha0 hr0 x h
abbrev rm_X7_drawRing : Room := { frames := 3, cells := 0, slots := 0, locals := 67 }
theorem hd_X7_drawRing : yX7_drawRing.cls = RX7 ∧ yX7_drawRing.cls ≠ "java/lang/invoke/MethodHandle" ∧ yX7_drawRing.cls ≠ "java/lang/invoke/VarHandle" ∧ (parseMethodDescriptor yX7_drawRing.desc).map (fun d => d.parameters.length) = some 3 := by decide +kernel
def f_X7_drawRing (x1 : Int32) (x2 : Int32) (x3 : Int32) (V : cr_Hp) : Option (Int32 × cr_Hp) :=
  cr_bd (f_X3_refusalOfRing 0 x1 x2 x3 V) (fun (r7 : Int32) => if r7 = 0 then (cr_bd (f_X0_save 0 V) (fun (V28 : cr_Hp) => cr_b2 (f_X3_addRing 0 x1 x2 x3 V28) (fun (r38 : Int32) (V38 : cr_Hp) => some (r38, V38)))) else (some (r7, V)))
set_option maxRecDepth 100000 in
set_option maxHeartbeats 4000000 in
theorem t_X7_drawRing {p : Program} {l : Launch} {e : Env} {s : State} {m : MethodId} {args : Array Value} {below : List Frame} {meth : Method} {c : Code} {w : cr_Wd} (X : cr_Cx w RX7 (Cond.code yX7_drawRing cX7_drawRing 5 (some .int)) cX7_drawRing 5 p s m args meth c) (x1 : Int32) (x2 : Int32) (x3 : Int32) (V : cr_Hp)  (hr0 : meth.sig.returnType = (some .int)) (x : Int32 × cr_Hp) (h : f_X7_drawRing x1 x2 x3 V = some x) : cr_J w 5 p l e rm_X7_drawRing s m args below meth c 0 0 (MQ below (cr_Qi w x.2 x.1) args s 0 0 (cr_A w)) V 0 [(0, .ref (w.1 152)), (1, .int x1), (2, .int x2), (3, .int x3)] [] := by
  unfold f_X7_drawRing at h
  refine jr_aload_n X.c dX7_drawRing_0 rfl 0 rfl ?_
  refine jr_get X.c (ci := 7) (C := RX7) (T := TX7) (N := 5) (k := 0) rfl cr_in7 (Or.inl (by decide)) ((cr_row_152 w) _) rfl (by decide) fl_X7_10 dX7_drawRing_1 ?_
  refine jr_iload_n X.c dX7_drawRing_4 rfl 1 rfl ?_
  refine jr_iload_n X.c dX7_drawRing_5 rfl 2 rfl ?_
  refine jr_iload_n X.c dX7_drawRing_6 rfl 3 rfl ?_
  obtain ⟨r7, hr7, h⟩ := cr_bd_s h
  refine jc_Vi X.c (As := [.int x1, .int x2, .int x3]) (V1 := V) (C := RX3) (T := TX3) (N := 10) (ci := 3) 3 (m_X3_refusalOfRing l w V 0 x1 x2 x3 cr_pg0 r7 hr7) ⟨rfl, rfl⟩ ml_X7_51 im_X3_refusalOfRing sl_X3_refusalOfRing in_X3 cd_X3_refusalOfRing hd_X3_refusalOfRing ⟨Nat.le_of_ble_eq_true rfl, Nat.le_of_ble_eq_true rfl⟩ ⟨Nat.le_of_ble_eq_true rfl, Nat.le_of_ble_eq_true rfl⟩ rfl (Nat.le_of_ble_eq_true rfl) (cr_l_pg cr_pg0) ((cr_row_pg w cr_pg0) _) rfl rfl dX7_drawRing_7 ?_
  refine jr_istore X.c (lv2 := [(4, .int r7), (0, .ref (w.1 152)), (1, .int x1), (2, .int x2), (3, .int x3)]) dX7_drawRing_10 (by decide) rfl ?_
  refine jr_iload X.c dX7_drawRing_12 0 rfl ?_
  refine jr_if_eq X.c 20 dX7_drawRing_14 (by decide) (fun q14 => ?_) (fun q14 => ?_)
  · replace h := cr_if_t q14 h
    refine jr_aload_n X.c dX7_drawRing_20 rfl 1 rfl ?_
    refine jr_get X.c (ci := 7) (C := RX7) (T := TX7) (N := 5) (k := 3) rfl cr_in7 (Or.inl (by decide)) ((cr_row_152 w) _) rfl (by decide) fl_X7_29 dX7_drawRing_21 ?_
    refine jr_aload_n X.c dX7_drawRing_24 rfl 1 rfl ?_
    refine jr_get X.c (ci := 7) (C := RX7) (T := TX7) (N := 5) (k := 0) rfl cr_in7 (Or.inl (by decide)) ((cr_row_152 w) _) rfl (by decide) fl_X7_10 dX7_drawRing_25 ?_
    obtain ⟨V28, hr28, h⟩ := cr_bd_s h
    refine jc_Vv X.c (As := [.ref (w.1 0)]) (V1 := V28) (C := RX0) (T := TX0) (N := 3) (ci := 0) 1 (m_X0_save l w V 0 cr_pg0 V28 hr28) ⟨rfl, rfl⟩ ml_X7_44 im_X0_save sl_X0_save in_X0 cd_X0_save hd_X0_save ⟨Nat.le_of_ble_eq_true rfl, Nat.le_of_ble_eq_true rfl⟩ ⟨Nat.le_of_ble_eq_true rfl, Nat.le_of_ble_eq_true rfl⟩ rfl (Nat.le_of_ble_eq_true rfl) (Or.inl (by decide)) ((cr_row_154 w) _) rfl rfl dX7_drawRing_28 ?_
    refine jr_aload_n X.c dX7_drawRing_31 rfl 1 rfl ?_
    refine jr_get X.c (ci := 7) (C := RX7) (T := TX7) (N := 5) (k := 0) rfl cr_in7 (Or.inl (by decide)) ((cr_row_152 w) _) rfl (by decide) fl_X7_10 dX7_drawRing_32 ?_
    refine jr_iload_n X.c dX7_drawRing_35 rfl 2 rfl ?_
    refine jr_iload_n X.c dX7_drawRing_36 rfl 3 rfl ?_
    refine jr_iload_n X.c dX7_drawRing_37 rfl 4 rfl ?_
    obtain ⟨r38, V38, hr38, h⟩ := cr_b2_s h
    refine jc_Vi X.c (As := [.int x1, .int x2, .int x3]) (V1 := V38) (C := RX3) (T := TX3) (N := 10) (ci := 3) 3 (m_X3_addRing l w V28 0 x1 x2 x3 cr_pg0 (r38, V38) hr38) ⟨rfl, rfl⟩ ml_X7_55 im_X3_addRing sl_X3_addRing in_X3 cd_X3_addRing hd_X3_addRing ⟨Nat.le_of_ble_eq_true rfl, Nat.le_of_ble_eq_true rfl⟩ ⟨Nat.le_of_ble_eq_true rfl, Nat.le_of_ble_eq_true rfl⟩ rfl (Nat.le_of_ble_eq_true rfl) (cr_l_pg cr_pg0) ((cr_row_pg w cr_pg0) _) rfl rfl dX7_drawRing_38 ?_
    cases h
    exact jr_iret X.c hr0 dX7_drawRing_41
  · replace h := cr_if_f q14 h
    refine jr_iload X.c dX7_drawRing_17 0 rfl ?_
    cases h
    exact jr_iret X.c hr0 dX7_drawRing_19
set_option maxRecDepth 100000 in
set_option maxHeartbeats 4000000 in
theorem m_X7_drawRing (l : Launch) (w : cr_Wd) (V : cr_Hp) (x1 : Int32) (x2 : Int32) (x3 : Int32)  (x : Int32 × cr_Hp) (h : f_X7_drawRing x1 x2 x3 V = some x) : Met l yX7_drawRing (cr_wds yX7_drawRing cX7_drawRing 5 (some .int)) rm_X7_drawRing (cr_Pc w V [.ref (w.1 152), .int x1, .int x2, .int x3]) (cr_Qi w x.2 x.1) 0 0 (cr_A w) := by
  refine cr_met (own := RX7) (lv := [(0, .ref (w.1 152)), (1, .int x1), (2, .int x2), (3, .int x3)]) (by decide +kernel) rfl (Nat.le_of_ble_eq_true rfl) rfl (fun p e s m args below meth c X hr0 => ?_)
  exact t_X7_drawRing X x1 x2 x3 V  hr0 x h
abbrev rm_X3_findMarble : Room := { frames := 0, cells := 0, slots := 0, locals := 0 }
theorem hd_X3_findMarble : yX3_findMarble.cls = RX3 ∧ yX3_findMarble.cls ≠ "java/lang/invoke/MethodHandle" ∧ yX3_findMarble.cls ≠ "java/lang/invoke/VarHandle" ∧ (parseMethodDescriptor yX3_findMarble.desc).map (fun d => d.parameters.length) = some 1 := by decide +kernel
def f_X3_findMarble (a0 : Nat) (x1 : Int32) (V : cr_Hp) : Option (Option Nat) :=
  if x1 < 0 then (some none) else (if (V a0 2) ≤ x1 then (some none) else (if x1 < (12 : Int32) then (cr_gd (cr_ix x1 12) (some (some ((a0 + 1) + 2 + x1.toNatClampNeg)))) else (some none)))
set_option maxRecDepth 100000 in
set_option maxHeartbeats 4000000 in
theorem t_X3_findMarble {p : Program} {l : Launch} {e : Env} {s : State} {m : MethodId} {args : Array Value} {below : List Frame} {meth : Method} {c : Code} {w : cr_Wd} (X : cr_Cx w RX3 (Cond.code yX3_findMarble cX3_findMarble 2 (some (.object "ChalkRings$Marble"))) cX3_findMarble 2 p s m args meth c) (a0 : Nat) (x1 : Int32) (V : cr_Hp) (ha0 : cr_pg a0) (hr0 : meth.sig.returnType = (some (.object "ChalkRings$Marble"))) (x : Option Nat) (h : f_X3_findMarble a0 x1 V = some x) : cr_J w 2 p l e rm_X3_findMarble s m args below meth c 0 0 (MQ below (cr_Qe w V x) args s 0 0 (cr_A w)) V 0 [(0, .ref (w.1 a0)), (1, .int x1)] [] := by
  unfold f_X3_findMarble at h
  refine jr_iload_n X.c dX3_findMarble_0 rfl 1 rfl ?_
  refine jr_if_lt X.c 21 dX3_findMarble_1 (by decide) (fun q1 => ?_) (fun q1 => ?_)
  · replace h := cr_if_t q1 h
    refine jr_null X.c dX3_findMarble_21 ?_
    refine jr_goto X.c 31 dX3_findMarble_22 (by decide) ?_
    cases h
    exact jr_aret X.c (r := none) hr0 dX3_findMarble_31 rfl
  · replace h := cr_if_f q1 h
    refine jr_iload_n X.c dX3_findMarble_4 rfl 1 rfl ?_
    refine jr_aload_n X.c dX3_findMarble_5 rfl 0 rfl ?_
    refine jr_get X.c (ci := 3) (C := RX3) (T := TX3) (N := 10) (k := 2) rfl cr_in3 (cr_l_pg ha0) ((cr_row_pg w ha0) _) rfl (by decide) fl_X3_34 dX3_findMarble_6 ?_
    refine jr_icmp_ge X.c 21 dX3_findMarble_9 (by decide) (fun q9 => ?_) (fun q9 => ?_)
    · replace h := cr_if_t q9 h
      refine jr_null X.c dX3_findMarble_21 ?_
      refine jr_goto X.c 31 dX3_findMarble_22 (by decide) ?_
      cases h
      exact jr_aret X.c (r := none) hr0 dX3_findMarble_31 rfl
    · replace h := cr_if_f q9 h
      refine jr_iload_n X.c dX3_findMarble_12 rfl 1 rfl ?_
      refine jr_aload_n X.c dX3_findMarble_13 rfl 0 rfl ?_
      refine jr_get X.c (ci := 3) (C := RX3) (T := TX3) (N := 10) (k := 0) rfl cr_in3 (cr_l_pg ha0) ((cr_row_pg w ha0) _) rfl (by decide) fl_X3_11 dX3_findMarble_14 ?_
      refine jr_alen X.c (v := (12 : Int32)) 2 rfl (cr_l_ms (cr_pg_ms ha0)) ((cr_row_ms w (cr_pg_ms ha0)) _) rfl dX3_findMarble_17 ?_
      refine jr_icmp_lt X.c 25 dX3_findMarble_18 (by decide) (fun q18 => ?_) (fun q18 => ?_)
      · replace h := cr_if_t q18 h
        refine jr_aload_n X.c dX3_findMarble_25 rfl 0 rfl ?_
        refine jr_get X.c (ci := 3) (C := RX3) (T := TX3) (N := 10) (k := 0) rfl cr_in3 (cr_l_pg ha0) ((cr_row_pg w ha0) _) rfl (by decide) fl_X3_11 dX3_findMarble_26 ?_
        refine jr_iload_n X.c dX3_findMarble_29 rfl 1 rfl ?_
        obtain ⟨hi30, h⟩ := cr_gd_s h
        refine jr_aald X.c (f := (fun j => (a0 + 1) + 2 + j)) 2 rfl (cr_l_ms (cr_pg_ms ha0)) ((cr_row_ms w (cr_pg_ms ha0)) _) hi30 dX3_findMarble_30 ?_
        cases h
        exact jr_aret X.c (r := (some ((a0 + 1) + 2 + x1.toNatClampNeg))) hr0 dX3_findMarble_31 rfl
      · replace h := cr_if_f q18 h
        refine jr_null X.c dX3_findMarble_21 ?_
        refine jr_goto X.c 31 dX3_findMarble_22 (by decide) ?_
        cases h
        exact jr_aret X.c (r := none) hr0 dX3_findMarble_31 rfl
set_option maxRecDepth 100000 in
set_option maxHeartbeats 4000000 in
theorem m_X3_findMarble (l : Launch) (w : cr_Wd) (V : cr_Hp) (a0 : Nat) (x1 : Int32) (ha0 : cr_pg a0) (x : Option Nat) (h : f_X3_findMarble a0 x1 V = some x) : Met l yX3_findMarble (cr_wds yX3_findMarble cX3_findMarble 2 (some (.object "ChalkRings$Marble"))) rm_X3_findMarble (cr_Pc w V [.ref (w.1 a0), .int x1]) (cr_Qe w V x) 0 0 (cr_A w) := by
  refine cr_met (own := RX3) (lv := [(0, .ref (w.1 a0)), (1, .int x1)]) (by decide +kernel) rfl (Nat.le_of_ble_eq_true rfl) rfl (fun p e s m args below meth c X hr0 => ?_)
  exact t_X3_findMarble X a0 x1 V ha0 hr0 x h
abbrev rm_X4_holds : Room := { frames := 0, cells := 0, slots := 0, locals := 0 }
theorem hd_X4_holds : yX4_holds.cls = RX4 ∧ yX4_holds.cls ≠ "java/lang/invoke/MethodHandle" ∧ yX4_holds.cls ≠ "java/lang/invoke/VarHandle" ∧ (parseMethodDescriptor yX4_holds.desc).map (fun d => d.parameters.length) = some 2 := by decide +kernel
def f_X4_holds (a0 : Nat) (x1 : Int32) (x2 : Int32) (V : cr_Hp) : Option (Int32) :=
  cr_lt ((x1 - (V a0 0))) (fun (n6 : Int32) => cr_lt ((x2 - (V a0 1))) (fun (n13 : Int32) => if (V a0 2) ≤ 0 then (some (0 : Int32)) else (if ((V a0 2) * (V a0 2)) < ((n6 * n6) + (n13 * n13)) then (some (0 : Int32)) else (some (1 : Int32)))))
set_option maxRecDepth 100000 in
set_option maxHeartbeats 4000000 in
theorem t_X4_holds {p : Program} {l : Launch} {e : Env} {s : State} {m : MethodId} {args : Array Value} {below : List Frame} {meth : Method} {c : Code} {w : cr_Wd} (X : cr_Cx w RX4 (Cond.code yX4_holds cX4_holds 5 (some .boolean)) cX4_holds 5 p s m args meth c) (a0 : Nat) (x1 : Int32) (x2 : Int32) (V : cr_Hp) (ha0 : cr_rg a0) (hr0 : meth.sig.returnType = (some .boolean)) (x : Int32) (h : f_X4_holds a0 x1 x2 V = some x) : cr_J w 5 p l e rm_X4_holds s m args below meth c 0 0 (MQ below (cr_Qi w V x) args s 0 0 (cr_A w)) V 0 [(0, .ref (w.1 a0)), (1, .int x1), (2, .int x2)] [] := by
  unfold f_X4_holds at h
  refine jr_iload_n X.c dX4_holds_0 rfl 1 rfl ?_
  refine jr_aload_n X.c dX4_holds_1 rfl 0 rfl ?_
  refine jr_get X.c (ci := 4) (C := RX4) (T := TX4) (N := 3) (k := 0) rfl cr_in4 (cr_l_rg ha0) ((cr_row_rg w ha0) _) rfl (by decide) fl_X4_9 dX4_holds_2 ?_
  refine jr_isub X.c dX4_holds_5 ?_
  obtain ⟨n6, en6, h⟩ := cr_lt_s h
  refine jr_top en6 ?_
  refine jr_istore_n X.c (lv2 := [(3, .int n6), (0, .ref (w.1 a0)), (1, .int x1), (2, .int x2)]) dX4_holds_6 rfl (by decide) rfl ?_
  refine jr_iload_n X.c dX4_holds_7 rfl 3 rfl ?_
  refine jr_aload_n X.c dX4_holds_8 rfl 1 rfl ?_
  refine jr_get X.c (ci := 4) (C := RX4) (T := TX4) (N := 3) (k := 1) rfl cr_in4 (cr_l_rg ha0) ((cr_row_rg w ha0) _) rfl (by decide) fl_X4_15 dX4_holds_9 ?_
  refine jr_isub X.c dX4_holds_12 ?_
  obtain ⟨n13, en13, h⟩ := cr_lt_s h
  refine jr_top en13 ?_
  refine jr_istore X.c (lv2 := [(4, .int n13), (3, .int n6), (0, .ref (w.1 a0)), (1, .int x1), (2, .int x2)]) dX4_holds_13 (by decide) rfl ?_
  refine jr_aload_n X.c dX4_holds_15 rfl 2 rfl ?_
  refine jr_get X.c (ci := 4) (C := RX4) (T := TX4) (N := 3) (k := 2) rfl cr_in4 (cr_l_rg ha0) ((cr_row_rg w ha0) _) rfl (by decide) fl_X4_18 dX4_holds_16 ?_
  refine jr_if_le X.c 47 dX4_holds_19 (by decide) (fun q19 => ?_) (fun q19 => ?_)
  · replace h := cr_if_t q19 h
    refine jr_iconst X.c (v := (0 : Int32)) dX4_holds_47 (by decide) ?_
    cases h
    exact jr_zret X.c (r := (0 : Int32)) hr0 (by decide) dX4_holds_48
  · replace h := cr_if_f q19 h
    refine jr_iload_n X.c dX4_holds_22 rfl 1 rfl ?_
    refine jr_iload_n X.c dX4_holds_23 rfl 1 rfl ?_
    refine jr_imul X.c dX4_holds_24 ?_
    refine jr_iload X.c dX4_holds_25 0 rfl ?_
    refine jr_iload X.c dX4_holds_27 0 rfl ?_
    refine jr_imul X.c dX4_holds_29 ?_
    refine jr_iadd X.c dX4_holds_30 ?_
    refine jr_aload_n X.c dX4_holds_31 rfl 2 rfl ?_
    refine jr_get X.c (ci := 4) (C := RX4) (T := TX4) (N := 3) (k := 2) rfl cr_in4 (cr_l_rg ha0) ((cr_row_rg w ha0) _) rfl (by decide) fl_X4_18 dX4_holds_32 ?_
    refine jr_aload_n X.c dX4_holds_35 rfl 2 rfl ?_
    refine jr_get X.c (ci := 4) (C := RX4) (T := TX4) (N := 3) (k := 2) rfl cr_in4 (cr_l_rg ha0) ((cr_row_rg w ha0) _) rfl (by decide) fl_X4_18 dX4_holds_36 ?_
    refine jr_imul X.c dX4_holds_39 ?_
    refine jr_icmp_gt X.c 47 dX4_holds_40 (by decide) (fun q40 => ?_) (fun q40 => ?_)
    · replace h := cr_if_t q40 h
      refine jr_iconst X.c (v := (0 : Int32)) dX4_holds_47 (by decide) ?_
      cases h
      exact jr_zret X.c (r := (0 : Int32)) hr0 (by decide) dX4_holds_48
    · replace h := cr_if_f q40 h
      refine jr_iconst X.c (v := (1 : Int32)) dX4_holds_43 (by decide) ?_
      refine jr_goto X.c 48 dX4_holds_44 (by decide) ?_
      cases h
      exact jr_zret X.c (r := (1 : Int32)) hr0 (by decide) dX4_holds_48
set_option maxRecDepth 100000 in
set_option maxHeartbeats 4000000 in
theorem m_X4_holds (l : Launch) (w : cr_Wd) (V : cr_Hp) (a0 : Nat) (x1 : Int32) (x2 : Int32) (ha0 : cr_rg a0) (x : Int32) (h : f_X4_holds a0 x1 x2 V = some x) : Met l yX4_holds (cr_wds yX4_holds cX4_holds 5 (some .boolean)) rm_X4_holds (cr_Pc w V [.ref (w.1 a0), .int x1, .int x2]) (cr_Qi w V x) 0 0 (cr_A w) := by
  refine cr_met (own := RX4) (lv := [(0, .ref (w.1 a0)), (1, .int x1), (2, .int x2)]) (by decide +kernel) rfl (Nat.le_of_ble_eq_true rfl) rfl (fun p e s m args below meth c X hr0 => ?_)
  exact t_X4_holds X a0 x1 x2 V ha0 hr0 x h
abbrev rm_X3_ringsAround : Room := { frames := 1, cells := 0, slots := 0, locals := 24 }
theorem hd_X3_ringsAround : yX3_ringsAround.cls = RX3 ∧ yX3_ringsAround.cls ≠ "java/lang/invoke/MethodHandle" ∧ yX3_ringsAround.cls ≠ "java/lang/invoke/VarHandle" ∧ (parseMethodDescriptor yX3_ringsAround.desc).map (fun d => d.parameters.length) = some 2 := by decide +kernel
def f_X3_ringsAround_l5 (a0 : Nat) (x1 : Int32) (x2 : Int32) (x3_5 : Int32) (x4_5 : Int32) (V : cr_Hp) : Option ((Int32 × Int32) ⊕ Int32) :=
  if (4 : Int32) ≤ x4_5 then (some (.inr x3_5)) else (cr_gd (cr_ix x4_5 4) (cr_bd (f_X4_holds ((a0 + 2) + 13 + x4_5.toNatClampNeg) x1 x2 V) (fun (r33 : Int32) => if r33 = 0 then (some (.inl (x3_5, (x4_5 + (1 : Int32))))) else (some (.inl ((x3_5 ||| ((1 : Int32) <<< (x4_5 &&& 31))), (x4_5 + (1 : Int32))))))))
set_option maxRecDepth 100000 in
set_option maxHeartbeats 4000000 in
theorem t_X3_ringsAround_l5 {p : Program} {l : Launch} {e : Env} {s : State} {m : MethodId} {args : Array Value} {below : List Frame} {meth : Method} {c : Code} {w : cr_Wd} {Q : State → Prop} (X : cr_Cx w RX3 (Cond.code yX3_ringsAround cX3_ringsAround 6 (some .int)) cX3_ringsAround 6 p s m args meth c) (a0 : Nat) (x1 : Int32) (x2 : Int32) (x3_5 : Int32) (x4_5 : Int32) (V : cr_Hp) (ha0 : cr_pg a0) (x : (Int32 × Int32) ⊕ Int32) (h : f_X3_ringsAround_l5 a0 x1 x2 x3_5 x4_5 V = some x) (kl : ∀ (x3_5 : Int32) (x4_5 : Int32), x = .inl (x3_5, x4_5) → cr_J w 6 p l e rm_X3_ringsAround s m args below meth c 0 0 Q V 5 [(0, .ref (w.1 a0)), (1, .int x1), (2, .int x2), (3, .int x3_5), (4, .int x4_5)] []) (kr52 : ∀ (u3_5_52 : Int32), x = .inr u3_5_52 → cr_J w 6 p l e rm_X3_ringsAround s m args below meth c 0 0 Q V 52 [(3, .int u3_5_52)] []) : cr_J w 6 p l e rm_X3_ringsAround s m args below meth c 0 0 Q V 5 [(0, .ref (w.1 a0)), (1, .int x1), (2, .int x2), (3, .int x3_5), (4, .int x4_5)] [] := by
  unfold f_X3_ringsAround_l5 at h
  refine jr_iload X.c dX3_ringsAround_5 4 rfl ?_
  refine jr_aload_n X.c dX3_ringsAround_7 rfl 0 rfl ?_
  refine jr_get X.c (ci := 3) (C := RX3) (T := TX3) (N := 10) (k := 1) rfl cr_in3 (cr_l_pg ha0) ((cr_row_pg w ha0) _) rfl (by decide) fl_X3_22 dX3_ringsAround_8 ?_
  refine jr_alen X.c (v := (4 : Int32)) 3 rfl (cr_l_rs (cr_pg_rs ha0)) ((cr_row_rs w (cr_pg_rs ha0)) _) rfl dX3_ringsAround_11 ?_
  refine jr_icmp_ge X.c 52 dX3_ringsAround_12 (by decide) (fun q12 => ?_) (fun q12 => ?_)
  · replace h := cr_if_t q12 h
    cases h
    refine jr_sub [3] rfl ?_
    exact kr52 x3_5 rfl
  · replace h := cr_if_f q12 h
    refine jr_aload_n X.c dX3_ringsAround_15 rfl 0 rfl ?_
    refine jr_get X.c (ci := 3) (C := RX3) (T := TX3) (N := 10) (k := 1) rfl cr_in3 (cr_l_pg ha0) ((cr_row_pg w ha0) _) rfl (by decide) fl_X3_22 dX3_ringsAround_16 ?_
    refine jr_iload X.c dX3_ringsAround_19 4 rfl ?_
    obtain ⟨hi21, h⟩ := cr_gd_s h
    refine jr_aald X.c (f := (fun j => (a0 + 2) + 13 + j)) 3 rfl (cr_l_rs (cr_pg_rs ha0)) ((cr_row_rs w (cr_pg_rs ha0)) _) hi21 dX3_ringsAround_21 ?_
    refine jr_astore X.c (lv2 := [(5, .ref (w.1 ((a0 + 2) + 13 + x4_5.toNatClampNeg))), (0, .ref (w.1 a0)), (1, .int x1), (2, .int x2), (3, .int x3_5), (4, .int x4_5)]) dX3_ringsAround_22 (by decide) rfl ?_
    refine jr_aload X.c dX3_ringsAround_24 0 rfl ?_
    refine jr_ifnullR X.c dX3_ringsAround_26 ?_
    refine jr_aload X.c dX3_ringsAround_29 0 rfl ?_
    refine jr_iload_n X.c dX3_ringsAround_31 rfl 2 rfl ?_
    refine jr_iload_n X.c dX3_ringsAround_32 rfl 3 rfl ?_
    obtain ⟨r33, hr33, h⟩ := cr_bd_s h
    refine jc_Vi X.c (As := [.int x1, .int x2]) (V1 := V) (C := RX4) (T := TX4) (N := 3) (ci := 4) 2 (m_X4_holds l w V ((a0 + 2) + 13 + x4_5.toNatClampNeg) x1 x2 (cr_rs_rg (cr_pg_rs ha0) (cr_ix_lt hi21)) r33 hr33) ⟨rfl, rfl⟩ ml_X3_98 im_X4_holds sl_X4_holds in_X4 cd_X4_holds hd_X4_holds ⟨Nat.le_of_ble_eq_true rfl, Nat.le_of_ble_eq_true rfl⟩ ⟨Nat.le_of_ble_eq_true rfl, Nat.le_of_ble_eq_true rfl⟩ rfl (Nat.le_of_ble_eq_true rfl) (cr_l_rg (cr_rs_rg (cr_pg_rs ha0) (cr_ix_lt hi21))) ((cr_row_rg w (cr_rs_rg (cr_pg_rs ha0) (cr_ix_lt hi21))) _) rfl rfl dX3_ringsAround_33 ?_
    refine jr_if_eq X.c 46 dX3_ringsAround_36 (by decide) (fun q36 => ?_) (fun q36 => ?_)
    · replace h := cr_if_t q36 h
      refine jr_iinc X.c (v := (x4_5 + (1 : Int32))) (lv2 := [(4, .int (x4_5 + (1 : Int32))), (5, .ref (w.1 ((a0 + 2) + 13 + x4_5.toNatClampNeg))), (0, .ref (w.1 a0)), (1, .int x1), (2, .int x2), (3, .int x3_5)]) dX3_ringsAround_46 5 rfl (by rfl) (by decide) rfl ?_
      refine jr_goto X.c 5 dX3_ringsAround_49 (by decide) ?_
      cases h
      refine jr_sub [2, 3, 4, 5, 0] rfl ?_
      exact kl x3_5 (x4_5 + (1 : Int32)) rfl
    · replace h := cr_if_f q36 h
      refine jr_iload_n X.c dX3_ringsAround_39 rfl 4 rfl ?_
      refine jr_iconst X.c (v := (1 : Int32)) dX3_ringsAround_40 (by decide) ?_
      refine jr_iload X.c dX3_ringsAround_41 5 rfl ?_
      refine jr_ishl X.c dX3_ringsAround_43 ?_
      refine jr_ior X.c dX3_ringsAround_44 ?_
      refine jr_istore_n X.c (lv2 := [(3, .int (x3_5 ||| ((1 : Int32) <<< (x4_5 &&& 31)))), (5, .ref (w.1 ((a0 + 2) + 13 + x4_5.toNatClampNeg))), (0, .ref (w.1 a0)), (1, .int x1), (2, .int x2), (4, .int x4_5)]) dX3_ringsAround_45 rfl (by decide) rfl ?_
      refine jr_iinc X.c (v := (x4_5 + (1 : Int32))) (lv2 := [(4, .int (x4_5 + (1 : Int32))), (3, .int (x3_5 ||| ((1 : Int32) <<< (x4_5 &&& 31)))), (5, .ref (w.1 ((a0 + 2) + 13 + x4_5.toNatClampNeg))), (0, .ref (w.1 a0)), (1, .int x1), (2, .int x2)]) dX3_ringsAround_46 5 rfl (by rfl) (by decide) rfl ?_
      refine jr_goto X.c 5 dX3_ringsAround_49 (by decide) ?_
      cases h
      refine jr_sub [3, 4, 5, 1, 0] rfl ?_
      exact kl (x3_5 ||| ((1 : Int32) <<< (x4_5 &&& 31))) (x4_5 + (1 : Int32)) rfl
def f_X3_ringsAround (a0 : Nat) (x1 : Int32) (x2 : Int32) (V : cr_Hp) : Option (Int32) :=
  cr_bd (cr_it (fun (q : Int32 × Int32) => f_X3_ringsAround_l5 a0 x1 x2 q.1 q.2 V) cr_FU ((0 : Int32), (0 : Int32))) (fun (u3_5_52 : Int32) => some u3_5_52)
set_option maxRecDepth 100000 in
set_option maxHeartbeats 4000000 in
theorem t_X3_ringsAround {p : Program} {l : Launch} {e : Env} {s : State} {m : MethodId} {args : Array Value} {below : List Frame} {meth : Method} {c : Code} {w : cr_Wd} (X : cr_Cx w RX3 (Cond.code yX3_ringsAround cX3_ringsAround 6 (some .int)) cX3_ringsAround 6 p s m args meth c) (a0 : Nat) (x1 : Int32) (x2 : Int32) (V : cr_Hp) (ha0 : cr_pg a0) (hr0 : meth.sig.returnType = (some .int)) (x : Int32) (h : f_X3_ringsAround a0 x1 x2 V = some x) : cr_J w 6 p l e rm_X3_ringsAround s m args below meth c 0 0 (MQ below (cr_Qi w V x) args s 0 0 (cr_A w)) V 0 [(0, .ref (w.1 a0)), (1, .int x1), (2, .int x2)] [] := by
  unfold f_X3_ringsAround at h
  refine jr_iconst X.c (v := (0 : Int32)) dX3_ringsAround_0 (by decide) ?_
  refine jr_istore_n X.c (lv2 := [(3, .int (0 : Int32)), (0, .ref (w.1 a0)), (1, .int x1), (2, .int x2)]) dX3_ringsAround_1 rfl (by decide) rfl ?_
  refine jr_iconst X.c (v := (0 : Int32)) dX3_ringsAround_2 (by decide) ?_
  refine jr_istore X.c (lv2 := [(4, .int (0 : Int32)), (3, .int (0 : Int32)), (0, .ref (w.1 a0)), (1, .int x1), (2, .int x2)]) dX3_ringsAround_3 (by decide) rfl ?_
  obtain ⟨e5, he5, h⟩ := cr_bd_s h
  have kx52 : ∀ (u3_5_52 : Int32), e5 = u3_5_52 → cr_J w 6 p l e rm_X3_ringsAround s m args below meth c 0 0 (MQ below (cr_Qi w V x) args s 0 0 (cr_A w)) V 52 [(3, .int u3_5_52)] [] := by
    intro u3_5_52 qx
    rw [qx] at h
    refine jr_iload_n X.c dX3_ringsAround_52 rfl 0 rfl ?_
    cases h
    exact jr_iret X.c hr0 dX3_ringsAround_53
  refine jr_sub [2, 3, 4, 1, 0] rfl ?_
  refine cr_it_W (f := (fun (q : Int32 × Int32) => f_X3_ringsAround_l5 a0 x1 x2 q.1 q.2 V)) (P := fun (q : Int32 × Int32) => cr_J w 6 p l e rm_X3_ringsAround s m args below meth c 0 0 (MQ below (cr_Qi w V x) args s 0 0 (cr_A w)) V 5 [(0, .ref (w.1 a0)), (1, .int x1), (2, .int x2), (3, .int q.1), (4, .int q.2)] []) (K := fun z => z = e5) (fun q x hx kl kr => ?_) cr_FU ((0 : Int32), (0 : Int32)) e5 he5 rfl
  obtain ⟨x3_5, x4_5⟩ := q
  exact t_X3_ringsAround_l5 X a0 x1 x2 x3_5 x4_5 V ha0 x hx (fun x3_5 x4_5 ez => kl _ ez) (fun u3_5_52 ez => kx52 u3_5_52 ((kr _ ez).symm))
set_option maxRecDepth 100000 in
set_option maxHeartbeats 4000000 in
theorem m_X3_ringsAround (l : Launch) (w : cr_Wd) (V : cr_Hp) (a0 : Nat) (x1 : Int32) (x2 : Int32) (ha0 : cr_pg a0) (x : Int32) (h : f_X3_ringsAround a0 x1 x2 V = some x) : Met l yX3_ringsAround (cr_wds yX3_ringsAround cX3_ringsAround 6 (some .int)) rm_X3_ringsAround (cr_Pc w V [.ref (w.1 a0), .int x1, .int x2]) (cr_Qi w V x) 0 0 (cr_A w) := by
  refine cr_met (own := RX3) (lv := [(0, .ref (w.1 a0)), (1, .int x1), (2, .int x2)]) (by decide +kernel) rfl (Nat.le_of_ble_eq_true rfl) rfl (fun p e s m args below meth c X hr0 => ?_)
  exact t_X3_ringsAround X a0 x1 x2 V ha0 hr0 x h
abbrev rm_J6_bitCount_0f7a4 : Room := { frames := 0, cells := 0, slots := 0, locals := 0 }
theorem hd_J6_bitCount_0f7a4 : yJ6_bitCount_0f7a4.cls ≠ "java/lang/invoke/MethodHandle" ∧ yJ6_bitCount_0f7a4.cls ≠ "java/lang/invoke/VarHandle" ∧ (parseMethodDescriptor yJ6_bitCount_0f7a4.desc).map (fun d => d.parameters.length) = some 1 := by decide +kernel
def f_J6_bitCount_0f7a4 (x0 : Int32) : Option (Int32) :=
  cr_lt ((x0 - ((x0.toUInt32 >>> ((1 : Int32).toUInt32 &&& Int32.toUInt32 31)).toInt32 &&& (1431655765 : Int32)))) (fun (n9 : Int32) => cr_lt (((n9 &&& (858993459 : Int32)) + ((n9.toUInt32 >>> ((2 : Int32).toUInt32 &&& Int32.toUInt32 31)).toInt32 &&& (858993459 : Int32)))) (fun (n23 : Int32) => cr_lt (((n23 + (n23.toUInt32 >>> ((4 : Int32).toUInt32 &&& Int32.toUInt32 31)).toInt32) &&& (252645135 : Int32))) (fun (n33 : Int32) => cr_lt ((n33 + (n33.toUInt32 >>> ((8 : Int32).toUInt32 &&& Int32.toUInt32 31)).toInt32)) (fun (n40 : Int32) => cr_lt ((n40 + (n40.toUInt32 >>> ((16 : Int32).toUInt32 &&& Int32.toUInt32 31)).toInt32)) (fun (n47 : Int32) => some (n47 &&& (63 : Int32)))))))
set_option maxRecDepth 100000 in
set_option maxHeartbeats 4000000 in
theorem t_J6_bitCount_0f7a4 {p : Program} {l : Launch} {e : Env} {s : State} {m : MethodId} {args : Array Value} {below : List Frame} {meth : Method} {c : Code} {w : cr_Wd} (X : cr_Cx w RJ6 (Cond.code yJ6_bitCount_0f7a4 cJ6_bitCount_0f7a4 1 (some .int)) cJ6_bitCount_0f7a4 1 p s m args meth c) (x0 : Int32) (V : cr_Hp)  (hr0 : meth.sig.returnType = (some .int)) (x : Int32) (h : f_J6_bitCount_0f7a4 x0 = some x) : cr_J w 1 p l e rm_J6_bitCount_0f7a4 s m args below meth c 0 0 (MQ below (cr_Qi w V x) args s 0 0 (cr_A w)) V 0 [(0, .int x0)] [] := by
  unfold f_J6_bitCount_0f7a4 at h
  refine jr_iload_n X.c dJ6_bitCount_0f7a4_0 rfl 0 rfl ?_
  refine jr_iload_n X.c dJ6_bitCount_0f7a4_1 rfl 0 rfl ?_
  refine jr_iconst X.c (v := (1 : Int32)) dJ6_bitCount_0f7a4_2 (by decide) ?_
  refine jr_iushr X.c dJ6_bitCount_0f7a4_3 ?_
  refine jr_ldcw X.c ki_J6_265 dJ6_bitCount_0f7a4_4 ?_
  refine jr_iand X.c dJ6_bitCount_0f7a4_7 ?_
  refine jr_isub X.c dJ6_bitCount_0f7a4_8 ?_
  obtain ⟨n9, en9, h⟩ := cr_lt_s h
  refine jr_top en9 ?_
  refine jr_istore_n X.c (lv2 := [(0, .int n9)]) dJ6_bitCount_0f7a4_9 rfl (by decide) rfl ?_
  refine jr_iload_n X.c dJ6_bitCount_0f7a4_10 rfl 0 rfl ?_
  refine jr_ldcw X.c ki_J6_266 dJ6_bitCount_0f7a4_11 ?_
  refine jr_iand X.c dJ6_bitCount_0f7a4_14 ?_
  refine jr_iload_n X.c dJ6_bitCount_0f7a4_15 rfl 0 rfl ?_
  refine jr_iconst X.c (v := (2 : Int32)) dJ6_bitCount_0f7a4_16 (by decide) ?_
  refine jr_iushr X.c dJ6_bitCount_0f7a4_17 ?_
  refine jr_ldcw X.c ki_J6_266 dJ6_bitCount_0f7a4_18 ?_
  refine jr_iand X.c dJ6_bitCount_0f7a4_21 ?_
  refine jr_iadd X.c dJ6_bitCount_0f7a4_22 ?_
  obtain ⟨n23, en23, h⟩ := cr_lt_s h
  refine jr_top en23 ?_
  refine jr_istore_n X.c (lv2 := [(0, .int n23)]) dJ6_bitCount_0f7a4_23 rfl (by decide) rfl ?_
  refine jr_iload_n X.c dJ6_bitCount_0f7a4_24 rfl 0 rfl ?_
  refine jr_iload_n X.c dJ6_bitCount_0f7a4_25 rfl 0 rfl ?_
  refine jr_iconst X.c (v := (4 : Int32)) dJ6_bitCount_0f7a4_26 (by decide) ?_
  refine jr_iushr X.c dJ6_bitCount_0f7a4_27 ?_
  refine jr_iadd X.c dJ6_bitCount_0f7a4_28 ?_
  refine jr_ldcw X.c ki_J6_267 dJ6_bitCount_0f7a4_29 ?_
  refine jr_iand X.c dJ6_bitCount_0f7a4_32 ?_
  obtain ⟨n33, en33, h⟩ := cr_lt_s h
  refine jr_top en33 ?_
  refine jr_istore_n X.c (lv2 := [(0, .int n33)]) dJ6_bitCount_0f7a4_33 rfl (by decide) rfl ?_
  refine jr_iload_n X.c dJ6_bitCount_0f7a4_34 rfl 0 rfl ?_
  refine jr_iload_n X.c dJ6_bitCount_0f7a4_35 rfl 0 rfl ?_
  refine jr_bipush X.c (v := (8 : Int32)) dJ6_bitCount_0f7a4_36 (by decide) ?_
  refine jr_iushr X.c dJ6_bitCount_0f7a4_38 ?_
  refine jr_iadd X.c dJ6_bitCount_0f7a4_39 ?_
  obtain ⟨n40, en40, h⟩ := cr_lt_s h
  refine jr_top en40 ?_
  refine jr_istore_n X.c (lv2 := [(0, .int n40)]) dJ6_bitCount_0f7a4_40 rfl (by decide) rfl ?_
  refine jr_iload_n X.c dJ6_bitCount_0f7a4_41 rfl 0 rfl ?_
  refine jr_iload_n X.c dJ6_bitCount_0f7a4_42 rfl 0 rfl ?_
  refine jr_bipush X.c (v := (16 : Int32)) dJ6_bitCount_0f7a4_43 (by decide) ?_
  refine jr_iushr X.c dJ6_bitCount_0f7a4_45 ?_
  refine jr_iadd X.c dJ6_bitCount_0f7a4_46 ?_
  obtain ⟨n47, en47, h⟩ := cr_lt_s h
  refine jr_top en47 ?_
  refine jr_istore_n X.c (lv2 := [(0, .int n47)]) dJ6_bitCount_0f7a4_47 rfl (by decide) rfl ?_
  refine jr_iload_n X.c dJ6_bitCount_0f7a4_48 rfl 0 rfl ?_
  refine jr_bipush X.c (v := (63 : Int32)) dJ6_bitCount_0f7a4_49 (by decide) ?_
  refine jr_iand X.c dJ6_bitCount_0f7a4_51 ?_
  cases h
  exact jr_iret X.c hr0 dJ6_bitCount_0f7a4_52
set_option maxRecDepth 100000 in
set_option maxHeartbeats 4000000 in
theorem m_J6_bitCount_0f7a4 (l : Launch) (w : cr_Wd) (V : cr_Hp) (x0 : Int32)  (x : Int32) (h : f_J6_bitCount_0f7a4 x0 = some x) : Met l yJ6_bitCount_0f7a4 (cr_wds yJ6_bitCount_0f7a4 cJ6_bitCount_0f7a4 1 (some .int)) rm_J6_bitCount_0f7a4 (cr_Pc w V [.int x0]) (cr_Qi w V x) 0 0 (cr_A w) := by
  refine cr_met (own := RJ6) (lv := [(0, .int x0)]) (by decide +kernel) rfl (Nat.le_of_ble_eq_true rfl) rfl (fun p e s m args below meth c X hr0 => ?_)
  exact t_J6_bitCount_0f7a4 X x0 V  hr0 x h
abbrev rm_X7_move : Room := { frames := 3, cells := 0, slots := 0, locals := 67 }
theorem hd_X7_move : yX7_move.cls = RX7 ∧ yX7_move.cls ≠ "java/lang/invoke/MethodHandle" ∧ yX7_move.cls ≠ "java/lang/invoke/VarHandle" ∧ (parseMethodDescriptor yX7_move.desc).map (fun d => d.parameters.length) = some 3 := by decide +kernel
def f_X7_move (x1 : Int32) (x2 : Int32) (x3 : Int32) (V : cr_Hp) : Option (Int32 × cr_Hp) :=
  cr_bd (f_X3_findMarble 0 x1 V) (fun (r5 : Option Nat) => cr_on r5 (some ((-1001 : Int32), V)) (fun (a5 : Nat) => cr_gd (cr_ma a5) (cr_bd (f_X7_isPoint x2 x3) (fun (r17 : Int32) => if r17 = 0 then (some ((-1001 : Int32), V)) else (if (V a5 6) = 0 then (some ((-1003 : Int32), V)) else (cr_bd (f_X3_marbleOn 0 x2 x3 V) (fun (r41 : Option Nat) => cr_on r41 (cr_bd (f_X0_save 0 V) (fun (V59 : cr_Hp) => cr_lt (cr_pt V59 a5 1 x2) (fun (V65 : cr_Hp) => cr_lt (cr_pt V65 a5 2 x3) (fun (V71 : cr_Hp) => cr_bd (f_X3_ringsAround 0 x2 x3 V71) (fun (r80 : Int32) => cr_bd (f_J6_bitCount_0f7a4 r80) (fun (r83 : Int32) => some (r83, V71))))))) (fun (a41 : Nat) => cr_gd (cr_ma a41) (some ((-1003 : Int32), V))))))))))
set_option maxRecDepth 100000 in
set_option maxHeartbeats 4000000 in
theorem t_X7_move {p : Program} {l : Launch} {e : Env} {s : State} {m : MethodId} {args : Array Value} {below : List Frame} {meth : Method} {c : Code} {w : cr_Wd} (X : cr_Cx w RX7 (Cond.code yX7_move cX7_move 5 (some .int)) cX7_move 5 p s m args meth c) (x1 : Int32) (x2 : Int32) (x3 : Int32) (V : cr_Hp)  (hr0 : meth.sig.returnType = (some .int)) (x : Int32 × cr_Hp) (h : f_X7_move x1 x2 x3 V = some x) : cr_J w 5 p l e rm_X7_move s m args below meth c 0 0 (MQ below (cr_Qi w x.2 x.1) args s 0 0 (cr_A w)) V 0 [(0, .ref (w.1 152)), (1, .int x1), (2, .int x2), (3, .int x3)] [] := by
  unfold f_X7_move at h
  refine jr_aload_n X.c dX7_move_0 rfl 0 rfl ?_
  refine jr_get X.c (ci := 7) (C := RX7) (T := TX7) (N := 5) (k := 0) rfl cr_in7 (Or.inl (by decide)) ((cr_row_152 w) _) rfl (by decide) fl_X7_10 dX7_move_1 ?_
  refine jr_iload_n X.c dX7_move_4 rfl 1 rfl ?_
  obtain ⟨r5, hr5, h⟩ := cr_bd_s h
  refine jc_Ve X.c (As := [.int x1]) (V1 := V) (C := RX3) (T := TX3) (N := 10) (ci := 3) 1 (m_X3_findMarble l w V 0 x1 cr_pg0 r5 hr5) ⟨rfl, rfl⟩ ml_X7_58 im_X3_findMarble sl_X3_findMarble in_X3 cd_X3_findMarble hd_X3_findMarble ⟨Nat.le_of_ble_eq_true rfl, Nat.le_of_ble_eq_true rfl⟩ ⟨Nat.le_of_ble_eq_true rfl, Nat.le_of_ble_eq_true rfl⟩ rfl (Nat.le_of_ble_eq_true rfl) (cr_l_pg cr_pg0) ((cr_row_pg w cr_pg0) _) rfl rfl dX7_move_5 (fun eq5 => ?_) (fun a5 eq5 => ?_)
  · subst eq5
    replace h := cr_on_n h
    refine jr_astoreN X.c (lv2 := [(4, .null), (0, .ref (w.1 152)), (1, .int x1), (2, .int x2), (3, .int x3)]) dX7_move_8 (by decide) rfl ?_
    refine jr_aloadN X.c dX7_move_10 0 rfl ?_
    refine jr_ifnullN X.c 23 dX7_move_12 (by decide) ?_
    refine jr_sipush X.c (v := (-1001 : Int32)) dX7_move_23 (by decide) ?_
    cases h
    exact jr_iret X.c hr0 dX7_move_26
  · subst eq5
    replace h := cr_on_s h
    obtain ⟨ha5, h⟩ := cr_gd_s h
    refine jr_astore X.c (lv2 := [(4, .ref (w.1 a5)), (0, .ref (w.1 152)), (1, .int x1), (2, .int x2), (3, .int x3)]) dX7_move_8 (by decide) rfl ?_
    refine jr_aload X.c dX7_move_10 0 rfl ?_
    refine jr_ifnullR X.c dX7_move_12 ?_
    refine jr_iload_n X.c dX7_move_15 rfl 3 rfl ?_
    refine jr_iload_n X.c dX7_move_16 rfl 4 rfl ?_
    obtain ⟨r17, hr17, h⟩ := cr_bd_s h
    refine jc_Si X.c (As := [.int x2, .int x3]) (V1 := V) 2 (m_X7_isPoint l w V x2 x3  r17 hr17) ⟨rfl, rfl⟩ ml_X7_62 st_X7_isPoint in_X7 cd_X7_isPoint hd_X7_isPoint ⟨Nat.le_of_ble_eq_true rfl, Nat.le_of_ble_eq_true rfl⟩ ⟨Nat.le_of_ble_eq_true rfl, Nat.le_of_ble_eq_true rfl⟩ rfl (Nat.le_of_ble_eq_true rfl) rfl dX7_move_17 ?_
    refine jr_if_ne X.c 27 dX7_move_20 (by decide) (fun q20 => ?_) (fun q20 => ?_)
    · replace h := cr_if_f q20 h
      refine jr_aload X.c dX7_move_27 0 rfl ?_
      refine jr_get X.c (ci := 2) (C := RX2) (T := TX2) (N := 9) (k := 6) rfl cr_in2 (cr_l_ma ha5) ((cr_row_ma w ha5) _) rfl (by decide) fl_X7_66 dX7_move_29 ?_
      refine jr_if_eq X.c 47 dX7_move_32 (by decide) (fun q32 => ?_) (fun q32 => ?_)
      · replace h := cr_if_t q32 h
        refine jr_sipush X.c (v := (-1003 : Int32)) dX7_move_47 (by decide) ?_
        cases h
        exact jr_iret X.c hr0 dX7_move_50
      · replace h := cr_if_f q32 h
        refine jr_aload_n X.c dX7_move_35 rfl 1 rfl ?_
        refine jr_get X.c (ci := 7) (C := RX7) (T := TX7) (N := 5) (k := 0) rfl cr_in7 (Or.inl (by decide)) ((cr_row_152 w) _) rfl (by decide) fl_X7_10 dX7_move_36 ?_
        refine jr_iload_n X.c dX7_move_39 rfl 3 rfl ?_
        refine jr_iload_n X.c dX7_move_40 rfl 4 rfl ?_
        obtain ⟨r41, hr41, h⟩ := cr_bd_s h
        refine jc_Ve X.c (As := [.int x2, .int x3]) (V1 := V) (C := RX3) (T := TX3) (N := 10) (ci := 3) 2 (m_X3_marbleOn l w V 0 x2 x3 cr_pg0 r41 hr41) ⟨rfl, rfl⟩ ml_X7_72 im_X3_marbleOn sl_X3_marbleOn in_X3 cd_X3_marbleOn hd_X3_marbleOn ⟨Nat.le_of_ble_eq_true rfl, Nat.le_of_ble_eq_true rfl⟩ ⟨Nat.le_of_ble_eq_true rfl, Nat.le_of_ble_eq_true rfl⟩ rfl (Nat.le_of_ble_eq_true rfl) (cr_l_pg cr_pg0) ((cr_row_pg w cr_pg0) _) rfl rfl dX7_move_41 (fun eq41 => ?_) (fun a41 eq41 => ?_)
        · subst eq41
          replace h := cr_on_n h
          refine jr_ifnullN X.c 51 dX7_move_44 (by decide) ?_
          refine jr_aload_n X.c dX7_move_51 rfl 1 rfl ?_
          refine jr_get X.c (ci := 7) (C := RX7) (T := TX7) (N := 5) (k := 3) rfl cr_in7 (Or.inl (by decide)) ((cr_row_152 w) _) rfl (by decide) fl_X7_29 dX7_move_52 ?_
          refine jr_aload_n X.c dX7_move_55 rfl 1 rfl ?_
          refine jr_get X.c (ci := 7) (C := RX7) (T := TX7) (N := 5) (k := 0) rfl cr_in7 (Or.inl (by decide)) ((cr_row_152 w) _) rfl (by decide) fl_X7_10 dX7_move_56 ?_
          obtain ⟨V59, hr59, h⟩ := cr_bd_s h
          refine jc_Vv X.c (As := [.ref (w.1 0)]) (V1 := V59) (C := RX0) (T := TX0) (N := 3) (ci := 0) 1 (m_X0_save l w V 0 cr_pg0 V59 hr59) ⟨rfl, rfl⟩ ml_X7_44 im_X0_save sl_X0_save in_X0 cd_X0_save hd_X0_save ⟨Nat.le_of_ble_eq_true rfl, Nat.le_of_ble_eq_true rfl⟩ ⟨Nat.le_of_ble_eq_true rfl, Nat.le_of_ble_eq_true rfl⟩ rfl (Nat.le_of_ble_eq_true rfl) (Or.inl (by decide)) ((cr_row_154 w) _) rfl rfl dX7_move_59 ?_
          refine jr_aload X.c dX7_move_62 0 rfl ?_
          refine jr_iload_n X.c dX7_move_64 rfl 3 rfl ?_
          obtain ⟨V65, eV65, h⟩ := cr_lt_s h
          refine jr_put X.c (ci := 2) (C := RX2) (T := TX2) (N := 9) (k := 1) rfl cr_in2 tyX2 tyX2_ok nmX2 (cr_l_ma ha5) (cr_row_ma w ha5) rfl (Nat.le_of_ble_eq_true rfl) (by decide) rfl rfl rfl fl_X7_76 dX7_move_65 eV65 ?_
          refine jr_aload X.c dX7_move_68 0 rfl ?_
          refine jr_iload_n X.c dX7_move_70 rfl 4 rfl ?_
          obtain ⟨V71, eV71, h⟩ := cr_lt_s h
          refine jr_put X.c (ci := 2) (C := RX2) (T := TX2) (N := 9) (k := 2) rfl cr_in2 tyX2 tyX2_ok nmX2 (cr_l_ma ha5) (cr_row_ma w ha5) rfl (Nat.le_of_ble_eq_true rfl) (by decide) rfl rfl rfl fl_X7_80 dX7_move_71 eV71 ?_
          refine jr_aload_n X.c dX7_move_74 rfl 1 rfl ?_
          refine jr_get X.c (ci := 7) (C := RX7) (T := TX7) (N := 5) (k := 0) rfl cr_in7 (Or.inl (by decide)) ((cr_row_152 w) _) rfl (by decide) fl_X7_10 dX7_move_75 ?_
          refine jr_iload_n X.c dX7_move_78 rfl 3 rfl ?_
          refine jr_iload_n X.c dX7_move_79 rfl 4 rfl ?_
          obtain ⟨r80, hr80, h⟩ := cr_bd_s h
          refine jc_Vi X.c (As := [.int x2, .int x3]) (V1 := V71) (C := RX3) (T := TX3) (N := 10) (ci := 3) 2 (m_X3_ringsAround l w V71 0 x2 x3 cr_pg0 r80 hr80) ⟨rfl, rfl⟩ ml_X7_83 im_X3_ringsAround sl_X3_ringsAround in_X3 cd_X3_ringsAround hd_X3_ringsAround ⟨Nat.le_of_ble_eq_true rfl, Nat.le_of_ble_eq_true rfl⟩ ⟨Nat.le_of_ble_eq_true rfl, Nat.le_of_ble_eq_true rfl⟩ rfl (Nat.le_of_ble_eq_true rfl) (cr_l_pg cr_pg0) ((cr_row_pg w cr_pg0) _) rfl rfl dX7_move_80 ?_
          obtain ⟨r83, hr83, h⟩ := cr_bd_s h
          refine jc_Si X.c (As := [.int r80]) (V1 := V71) 1 (m_J6_bitCount_0f7a4 l w V71 r80  r83 hr83) ⟨rfl, rfl⟩ ml_X7_87 st_J6_bitCount_0f7a4 in_J6 cd_J6_bitCount_0f7a4 hd_J6_bitCount_0f7a4 ⟨Nat.le_of_ble_eq_true rfl, Nat.le_of_ble_eq_true rfl⟩ ⟨Nat.le_of_ble_eq_true rfl, Nat.le_of_ble_eq_true rfl⟩ rfl (Nat.le_of_ble_eq_true rfl) rfl dX7_move_83 ?_
          cases h
          exact jr_iret X.c hr0 dX7_move_86
        · subst eq41
          replace h := cr_on_s h
          obtain ⟨ha41, h⟩ := cr_gd_s h
          refine jr_ifnullR X.c dX7_move_44 ?_
          refine jr_sipush X.c (v := (-1003 : Int32)) dX7_move_47 (by decide) ?_
          cases h
          exact jr_iret X.c hr0 dX7_move_50
    · replace h := cr_if_t q20 h
      refine jr_sipush X.c (v := (-1001 : Int32)) dX7_move_23 (by decide) ?_
      cases h
      exact jr_iret X.c hr0 dX7_move_26
set_option maxRecDepth 100000 in
set_option maxHeartbeats 4000000 in
theorem m_X7_move (l : Launch) (w : cr_Wd) (V : cr_Hp) (x1 : Int32) (x2 : Int32) (x3 : Int32)  (x : Int32 × cr_Hp) (h : f_X7_move x1 x2 x3 V = some x) : Met l yX7_move (cr_wds yX7_move cX7_move 5 (some .int)) rm_X7_move (cr_Pc w V [.ref (w.1 152), .int x1, .int x2, .int x3]) (cr_Qi w x.2 x.1) 0 0 (cr_A w) := by
  refine cr_met (own := RX7) (lv := [(0, .ref (w.1 152)), (1, .int x1), (2, .int x2), (3, .int x3)]) (by decide +kernel) rfl (Nat.le_of_ble_eq_true rfl) rfl (fun p e s m args below meth c X hr0 => ?_)
  exact t_X7_move X x1 x2 x3 V  hr0 x h
abbrev rm_X3_wipe : Room := { frames := 0, cells := 0, slots := 0, locals := 0 }
theorem hd_X3_wipe : yX3_wipe.cls = RX3 ∧ yX3_wipe.cls ≠ "java/lang/invoke/MethodHandle" ∧ yX3_wipe.cls ≠ "java/lang/invoke/VarHandle" ∧ (parseMethodDescriptor yX3_wipe.desc).map (fun d => d.parameters.length) = some 0 := by decide +kernel
def f_X3_wipe_l10 (a0 : Nat) (x3_10 : Int32) (V_l10 : cr_Hp) : Option ((Int32 × cr_Hp) ⊕ cr_Hp) :=
  if (12 : Int32) ≤ x3_10 then (some (.inr V_l10)) else (cr_gd (cr_ix x3_10 12) (cr_lt (cr_pt V_l10 ((a0 + 1) + 2 + x3_10.toNatClampNeg) 6 (0 : Int32)) (fun (V28 : cr_Hp) => cr_lt (cr_pt V28 ((a0 + 1) + 2 + x3_10.toNatClampNeg) 5 (-1 : Int32)) (fun (V34 : cr_Hp) => some (.inl ((x3_10 + (1 : Int32)), V34))))))
set_option maxRecDepth 100000 in
set_option maxHeartbeats 4000000 in
theorem t_X3_wipe_l10 {p : Program} {l : Launch} {e : Env} {s : State} {m : MethodId} {args : Array Value} {below : List Frame} {meth : Method} {c : Code} {w : cr_Wd} {Q : State → Prop} (X : cr_Cx w RX3 (Cond.code yX3_wipe cX3_wipe 5 none) cX3_wipe 5 p s m args meth c) (a0 : Nat) (x3_10 : Int32) (V_l10 : cr_Hp) (ha0 : cr_pg a0) (x : (Int32 × cr_Hp) ⊕ cr_Hp) (h : f_X3_wipe_l10 a0 x3_10 V_l10 = some x) (kl : ∀ (x3_10 : Int32) (V_l10 : cr_Hp), x = .inl (x3_10, V_l10) → cr_J w 5 p l e rm_X3_wipe s m args below meth c 0 0 Q V_l10 10 [(0, .ref (w.1 a0)), (1, .ref (w.1 (a0 + 1))), (2, .int (12 : Int32)), (3, .int x3_10)] []) (kr43 : ∀ (V_e10_43 : cr_Hp), x = .inr V_e10_43 → cr_J w 5 p l e rm_X3_wipe s m args below meth c 0 0 Q V_e10_43 43 [(0, .ref (w.1 a0))] []) : cr_J w 5 p l e rm_X3_wipe s m args below meth c 0 0 Q V_l10 10 [(0, .ref (w.1 a0)), (1, .ref (w.1 (a0 + 1))), (2, .int (12 : Int32)), (3, .int x3_10)] [] := by
  unfold f_X3_wipe_l10 at h
  refine jr_iload_n X.c dX3_wipe_10 rfl 3 rfl ?_
  refine jr_iload_n X.c dX3_wipe_11 rfl 2 rfl ?_
  refine jr_icmp_ge X.c 43 dX3_wipe_12 (by decide) (fun q12 => ?_) (fun q12 => ?_)
  · replace h := cr_if_t q12 h
    cases h
    refine jr_sub [0] rfl ?_
    exact kr43 V_l10 rfl
  · replace h := cr_if_f q12 h
    refine jr_aload_n X.c dX3_wipe_15 rfl 1 rfl ?_
    refine jr_iload_n X.c dX3_wipe_16 rfl 3 rfl ?_
    obtain ⟨hi17, h⟩ := cr_gd_s h
    refine jr_aald X.c (f := (fun j => (a0 + 1) + 2 + j)) 2 rfl (cr_l_ms (cr_pg_ms ha0)) ((cr_row_ms w (cr_pg_ms ha0)) _) hi17 dX3_wipe_17 ?_
    refine jr_astore X.c (lv2 := [(4, .ref (w.1 ((a0 + 1) + 2 + x3_10.toNatClampNeg))), (0, .ref (w.1 a0)), (1, .ref (w.1 (a0 + 1))), (2, .int (12 : Int32)), (3, .int x3_10)]) dX3_wipe_18 (by decide) rfl ?_
    refine jr_aload X.c dX3_wipe_20 0 rfl ?_
    refine jr_ifnullR X.c dX3_wipe_22 ?_
    refine jr_aload X.c dX3_wipe_25 0 rfl ?_
    refine jr_iconst X.c (v := (0 : Int32)) dX3_wipe_27 (by decide) ?_
    obtain ⟨V28, eV28, h⟩ := cr_lt_s h
    refine jr_put X.c (ci := 2) (C := RX2) (T := TX2) (N := 9) (k := 6) rfl cr_in2 tyX2 tyX2_ok nmX2 (cr_l_ma (cr_ms_ma (cr_pg_ms ha0) (cr_ix_lt hi17))) (cr_row_ma w (cr_ms_ma (cr_pg_ms ha0) (cr_ix_lt hi17))) rfl (Nat.le_of_ble_eq_true rfl) (by decide) rfl (by decide) (by decide) fl_X3_59 dX3_wipe_28 eV28 ?_
    refine jr_aload X.c dX3_wipe_31 0 rfl ?_
    refine jr_iconst X.c (v := (-1 : Int32)) dX3_wipe_33 (by decide) ?_
    obtain ⟨V34, eV34, h⟩ := cr_lt_s h
    refine jr_put X.c (ci := 2) (C := RX2) (T := TX2) (N := 9) (k := 5) rfl cr_in2 tyX2 tyX2_ok nmX2 (cr_l_ma (cr_ms_ma (cr_pg_ms ha0) (cr_ix_lt hi17))) (cr_row_ma w (cr_ms_ma (cr_pg_ms ha0) (cr_ix_lt hi17))) rfl (Nat.le_of_ble_eq_true rfl) (by decide) rfl rfl rfl fl_X3_63 dX3_wipe_34 eV34 ?_
    refine jr_iinc X.c (v := (x3_10 + (1 : Int32))) (lv2 := [(3, .int (x3_10 + (1 : Int32))), (4, .ref (w.1 ((a0 + 1) + 2 + x3_10.toNatClampNeg))), (0, .ref (w.1 a0)), (1, .ref (w.1 (a0 + 1))), (2, .int (12 : Int32))]) dX3_wipe_37 4 rfl (by rfl) (by decide) rfl ?_
    refine jr_goto X.c 10 dX3_wipe_40 (by decide) ?_
    cases h
    refine jr_sub [2, 3, 4, 0] rfl ?_
    exact kl (x3_10 + (1 : Int32)) V34 rfl
def f_X3_wipe_l53 (a0 : Nat) (x3_53 : Int32) (V_l53 : cr_Hp) : Option ((Int32 × cr_Hp) ⊕ cr_Hp) :=
  if (4 : Int32) ≤ x3_53 then (some (.inr V_l53)) else (cr_gd (cr_ix x3_53 4) (cr_lt (cr_pt V_l53 ((a0 + 2) + 13 + x3_53.toNatClampNeg) 2 (0 : Int32)) (fun (V71 : cr_Hp) => some (.inl ((x3_53 + (1 : Int32)), V71)))))
set_option maxRecDepth 100000 in
set_option maxHeartbeats 4000000 in
theorem t_X3_wipe_l53 {p : Program} {l : Launch} {e : Env} {s : State} {m : MethodId} {args : Array Value} {below : List Frame} {meth : Method} {c : Code} {w : cr_Wd} {Q : State → Prop} (X : cr_Cx w RX3 (Cond.code yX3_wipe cX3_wipe 5 none) cX3_wipe 5 p s m args meth c) (a0 : Nat) (x3_53 : Int32) (V_l53 : cr_Hp) (ha0 : cr_pg a0) (x : (Int32 × cr_Hp) ⊕ cr_Hp) (h : f_X3_wipe_l53 a0 x3_53 V_l53 = some x) (kl : ∀ (x3_53 : Int32) (V_l53 : cr_Hp), x = .inl (x3_53, V_l53) → cr_J w 5 p l e rm_X3_wipe s m args below meth c 0 0 Q V_l53 53 [(0, .ref (w.1 a0)), (1, .ref (w.1 (a0 + 2))), (2, .int (4 : Int32)), (3, .int x3_53)] []) (kr80 : ∀ (V_e53_80 : cr_Hp), x = .inr V_e53_80 → cr_J w 5 p l e rm_X3_wipe s m args below meth c 0 0 Q V_e53_80 80 [(0, .ref (w.1 a0))] []) : cr_J w 5 p l e rm_X3_wipe s m args below meth c 0 0 Q V_l53 53 [(0, .ref (w.1 a0)), (1, .ref (w.1 (a0 + 2))), (2, .int (4 : Int32)), (3, .int x3_53)] [] := by
  unfold f_X3_wipe_l53 at h
  refine jr_iload_n X.c dX3_wipe_53 rfl 3 rfl ?_
  refine jr_iload_n X.c dX3_wipe_54 rfl 2 rfl ?_
  refine jr_icmp_ge X.c 80 dX3_wipe_55 (by decide) (fun q55 => ?_) (fun q55 => ?_)
  · replace h := cr_if_t q55 h
    cases h
    refine jr_sub [0] rfl ?_
    exact kr80 V_l53 rfl
  · replace h := cr_if_f q55 h
    refine jr_aload_n X.c dX3_wipe_58 rfl 1 rfl ?_
    refine jr_iload_n X.c dX3_wipe_59 rfl 3 rfl ?_
    obtain ⟨hi60, h⟩ := cr_gd_s h
    refine jr_aald X.c (f := (fun j => (a0 + 2) + 13 + j)) 3 rfl (cr_l_rs (cr_pg_rs ha0)) ((cr_row_rs w (cr_pg_rs ha0)) _) hi60 dX3_wipe_60 ?_
    refine jr_astore X.c (lv2 := [(4, .ref (w.1 ((a0 + 2) + 13 + x3_53.toNatClampNeg))), (0, .ref (w.1 a0)), (1, .ref (w.1 (a0 + 2))), (2, .int (4 : Int32)), (3, .int x3_53)]) dX3_wipe_61 (by decide) rfl ?_
    refine jr_aload X.c dX3_wipe_63 0 rfl ?_
    refine jr_ifnullR X.c dX3_wipe_65 ?_
    refine jr_aload X.c dX3_wipe_68 0 rfl ?_
    refine jr_iconst X.c (v := (0 : Int32)) dX3_wipe_70 (by decide) ?_
    obtain ⟨V71, eV71, h⟩ := cr_lt_s h
    refine jr_put X.c (ci := 4) (C := RX4) (T := TX4) (N := 3) (k := 2) rfl cr_in4 tyX4 tyX4_ok nmX4 (cr_l_rg (cr_rs_rg (cr_pg_rs ha0) (cr_ix_lt hi60))) (cr_row_rg w (cr_rs_rg (cr_pg_rs ha0) (cr_ix_lt hi60))) rfl (Nat.le_of_ble_eq_true rfl) (by decide) rfl rfl rfl fl_X3_66 dX3_wipe_71 eV71 ?_
    refine jr_iinc X.c (v := (x3_53 + (1 : Int32))) (lv2 := [(3, .int (x3_53 + (1 : Int32))), (4, .ref (w.1 ((a0 + 2) + 13 + x3_53.toNatClampNeg))), (0, .ref (w.1 a0)), (1, .ref (w.1 (a0 + 2))), (2, .int (4 : Int32))]) dX3_wipe_74 4 rfl (by rfl) (by decide) rfl ?_
    refine jr_goto X.c 53 dX3_wipe_77 (by decide) ?_
    cases h
    refine jr_sub [2, 3, 4, 0] rfl ?_
    exact kl (x3_53 + (1 : Int32)) V71 rfl
def f_X3_wipe (a0 : Nat) (V : cr_Hp) : Option (cr_Hp) :=
  cr_bd (cr_it (fun (q : Int32 × cr_Hp) => f_X3_wipe_l10 a0 q.1 q.2) cr_FU ((0 : Int32), V)) (fun (V_e10_43 : cr_Hp) => cr_bd (cr_it (fun (q : Int32 × cr_Hp) => f_X3_wipe_l53 a0 q.1 q.2) cr_FU ((0 : Int32), V_e10_43)) (fun (V_e53_80 : cr_Hp) => cr_lt (cr_pt V_e53_80 a0 2 (0 : Int32)) (fun (V82 : cr_Hp) => cr_lt (cr_pt V82 a0 3 (0 : Int32)) (fun (V87 : cr_Hp) => cr_lt (cr_pt V87 a0 4 (0 : Int32)) (fun (V92 : cr_Hp) => cr_lt (cr_pt V92 a0 5 (0 : Int32)) (fun (V97 : cr_Hp) => cr_lt (cr_pt V97 a0 6 (0 : Int32)) (fun (V102 : cr_Hp) => cr_lt (cr_pt V102 a0 7 (0 : Int32)) (fun (V107 : cr_Hp) => cr_lt (cr_pt V107 a0 8 (0 : Int32)) (fun (V112 : cr_Hp) => cr_lt (cr_pt V112 a0 9 (0 : Int32)) (fun (V117 : cr_Hp) => some V117))))))))))
set_option maxRecDepth 100000 in
set_option maxHeartbeats 4000000 in
theorem t_X3_wipe {p : Program} {l : Launch} {e : Env} {s : State} {m : MethodId} {args : Array Value} {below : List Frame} {meth : Method} {c : Code} {w : cr_Wd} (X : cr_Cx w RX3 (Cond.code yX3_wipe cX3_wipe 5 none) cX3_wipe 5 p s m args meth c) (a0 : Nat) (V : cr_Hp) (ha0 : cr_pg a0) (hr0 : meth.sig.returnType = none) (x : cr_Hp) (h : f_X3_wipe a0 V = some x) : cr_J w 5 p l e rm_X3_wipe s m args below meth c 0 0 (MQ below (cr_Qv w x) args s 0 0 (cr_A w)) V 0 [(0, .ref (w.1 a0))] [] := by
  unfold f_X3_wipe at h
  refine jr_aload_n X.c dX3_wipe_0 rfl 0 rfl ?_
  refine jr_get X.c (ci := 3) (C := RX3) (T := TX3) (N := 10) (k := 0) rfl cr_in3 (cr_l_pg ha0) ((cr_row_pg w ha0) _) rfl (by decide) fl_X3_11 dX3_wipe_1 ?_
  refine jr_astore_n X.c (lv2 := [(1, .ref (w.1 (a0 + 1))), (0, .ref (w.1 a0))]) dX3_wipe_4 rfl (by decide) rfl ?_
  refine jr_aload_n X.c dX3_wipe_5 rfl 0 rfl ?_
  refine jr_alen X.c (v := (12 : Int32)) 2 rfl (cr_l_ms (cr_pg_ms ha0)) ((cr_row_ms w (cr_pg_ms ha0)) _) rfl dX3_wipe_6 ?_
  refine jr_istore_n X.c (lv2 := [(2, .int (12 : Int32)), (1, .ref (w.1 (a0 + 1))), (0, .ref (w.1 a0))]) dX3_wipe_7 rfl (by decide) rfl ?_
  refine jr_iconst X.c (v := (0 : Int32)) dX3_wipe_8 (by decide) ?_
  refine jr_istore_n X.c (lv2 := [(3, .int (0 : Int32)), (2, .int (12 : Int32)), (1, .ref (w.1 (a0 + 1))), (0, .ref (w.1 a0))]) dX3_wipe_9 rfl (by decide) rfl ?_
  obtain ⟨e10, he10, h⟩ := cr_bd_s h
  have kx43 : ∀ (V_e10_43 : cr_Hp), e10 = V_e10_43 → cr_J w 5 p l e rm_X3_wipe s m args below meth c 0 0 (MQ below (cr_Qv w x) args s 0 0 (cr_A w)) V_e10_43 43 [(0, .ref (w.1 a0))] [] := by
    intro V_e10_43 qx
    rw [qx] at h
    refine jr_aload_n X.c dX3_wipe_43 rfl 0 rfl ?_
    refine jr_get X.c (ci := 3) (C := RX3) (T := TX3) (N := 10) (k := 1) rfl cr_in3 (cr_l_pg ha0) ((cr_row_pg w ha0) _) rfl (by decide) fl_X3_22 dX3_wipe_44 ?_
    refine jr_astore_n X.c (lv2 := [(1, .ref (w.1 (a0 + 2))), (0, .ref (w.1 a0))]) dX3_wipe_47 rfl (by decide) rfl ?_
    refine jr_aload_n X.c dX3_wipe_48 rfl 0 rfl ?_
    refine jr_alen X.c (v := (4 : Int32)) 3 rfl (cr_l_rs (cr_pg_rs ha0)) ((cr_row_rs w (cr_pg_rs ha0)) _) rfl dX3_wipe_49 ?_
    refine jr_istore_n X.c (lv2 := [(2, .int (4 : Int32)), (1, .ref (w.1 (a0 + 2))), (0, .ref (w.1 a0))]) dX3_wipe_50 rfl (by decide) rfl ?_
    refine jr_iconst X.c (v := (0 : Int32)) dX3_wipe_51 (by decide) ?_
    refine jr_istore_n X.c (lv2 := [(3, .int (0 : Int32)), (2, .int (4 : Int32)), (1, .ref (w.1 (a0 + 2))), (0, .ref (w.1 a0))]) dX3_wipe_52 rfl (by decide) rfl ?_
    obtain ⟨e53, he53, h⟩ := cr_bd_s h
    have kx80 : ∀ (V_e53_80 : cr_Hp), e53 = V_e53_80 → cr_J w 5 p l e rm_X3_wipe s m args below meth c 0 0 (MQ below (cr_Qv w x) args s 0 0 (cr_A w)) V_e53_80 80 [(0, .ref (w.1 a0))] [] := by
      intro V_e53_80 qx
      rw [qx] at h
      refine jr_aload_n X.c dX3_wipe_80 rfl 0 rfl ?_
      refine jr_iconst X.c (v := (0 : Int32)) dX3_wipe_81 (by decide) ?_
      obtain ⟨V82, eV82, h⟩ := cr_lt_s h
      refine jr_put X.c (ci := 3) (C := RX3) (T := TX3) (N := 10) (k := 2) rfl cr_in3 tyX3 tyX3_ok nmX3 (cr_l_pg ha0) (cr_row_pg w ha0) rfl (Nat.le_of_ble_eq_true rfl) (by decide) rfl rfl rfl fl_X3_34 dX3_wipe_82 eV82 ?_
      refine jr_aload_n X.c dX3_wipe_85 rfl 0 rfl ?_
      refine jr_iconst X.c (v := (0 : Int32)) dX3_wipe_86 (by decide) ?_
      obtain ⟨V87, eV87, h⟩ := cr_lt_s h
      refine jr_put X.c (ci := 3) (C := RX3) (T := TX3) (N := 10) (k := 3) rfl cr_in3 tyX3 tyX3_ok nmX3 (cr_l_pg ha0) (cr_row_pg w ha0) rfl (Nat.le_of_ble_eq_true rfl) (by decide) rfl rfl rfl fl_X3_38 dX3_wipe_87 eV87 ?_
      refine jr_aload_n X.c dX3_wipe_90 rfl 0 rfl ?_
      refine jr_iconst X.c (v := (0 : Int32)) dX3_wipe_91 (by decide) ?_
      obtain ⟨V92, eV92, h⟩ := cr_lt_s h
      refine jr_put X.c (ci := 3) (C := RX3) (T := TX3) (N := 10) (k := 4) rfl cr_in3 tyX3 tyX3_ok nmX3 (cr_l_pg ha0) (cr_row_pg w ha0) rfl (Nat.le_of_ble_eq_true rfl) (by decide) rfl rfl rfl fl_X3_41 dX3_wipe_92 eV92 ?_
      refine jr_aload_n X.c dX3_wipe_95 rfl 0 rfl ?_
      refine jr_iconst X.c (v := (0 : Int32)) dX3_wipe_96 (by decide) ?_
      obtain ⟨V97, eV97, h⟩ := cr_lt_s h
      refine jr_put X.c (ci := 3) (C := RX3) (T := TX3) (N := 10) (k := 5) rfl cr_in3 tyX3 tyX3_ok nmX3 (cr_l_pg ha0) (cr_row_pg w ha0) rfl (Nat.le_of_ble_eq_true rfl) (by decide) rfl rfl rfl fl_X3_44 dX3_wipe_97 eV97 ?_
      refine jr_aload_n X.c dX3_wipe_100 rfl 0 rfl ?_
      refine jr_iconst X.c (v := (0 : Int32)) dX3_wipe_101 (by decide) ?_
      obtain ⟨V102, eV102, h⟩ := cr_lt_s h
      refine jr_put X.c (ci := 3) (C := RX3) (T := TX3) (N := 10) (k := 6) rfl cr_in3 tyX3 tyX3_ok nmX3 (cr_l_pg ha0) (cr_row_pg w ha0) rfl (Nat.le_of_ble_eq_true rfl) (by decide) rfl rfl rfl fl_X3_47 dX3_wipe_102 eV102 ?_
      refine jr_aload_n X.c dX3_wipe_105 rfl 0 rfl ?_
      refine jr_iconst X.c (v := (0 : Int32)) dX3_wipe_106 (by decide) ?_
      obtain ⟨V107, eV107, h⟩ := cr_lt_s h
      refine jr_put X.c (ci := 3) (C := RX3) (T := TX3) (N := 10) (k := 7) rfl cr_in3 tyX3 tyX3_ok nmX3 (cr_l_pg ha0) (cr_row_pg w ha0) rfl (Nat.le_of_ble_eq_true rfl) (by decide) rfl rfl rfl fl_X3_50 dX3_wipe_107 eV107 ?_
      refine jr_aload_n X.c dX3_wipe_110 rfl 0 rfl ?_
      refine jr_iconst X.c (v := (0 : Int32)) dX3_wipe_111 (by decide) ?_
      obtain ⟨V112, eV112, h⟩ := cr_lt_s h
      refine jr_put X.c (ci := 3) (C := RX3) (T := TX3) (N := 10) (k := 8) rfl cr_in3 tyX3 tyX3_ok nmX3 (cr_l_pg ha0) (cr_row_pg w ha0) rfl (Nat.le_of_ble_eq_true rfl) (by decide) rfl rfl rfl fl_X3_53 dX3_wipe_112 eV112 ?_
      refine jr_aload_n X.c dX3_wipe_115 rfl 0 rfl ?_
      refine jr_iconst X.c (v := (0 : Int32)) dX3_wipe_116 (by decide) ?_
      obtain ⟨V117, eV117, h⟩ := cr_lt_s h
      refine jr_put X.c (ci := 3) (C := RX3) (T := TX3) (N := 10) (k := 9) rfl cr_in3 tyX3 tyX3_ok nmX3 (cr_l_pg ha0) (cr_row_pg w ha0) rfl (Nat.le_of_ble_eq_true rfl) (by decide) rfl rfl rfl fl_X3_56 dX3_wipe_117 eV117 ?_
      cases h
      exact jr_vret X.c hr0 dX3_wipe_120
    refine jr_sub [3, 2, 1, 0] rfl ?_
    refine cr_it_W (f := (fun (q : Int32 × cr_Hp) => f_X3_wipe_l53 a0 q.1 q.2)) (P := fun (q : Int32 × cr_Hp) => cr_J w 5 p l e rm_X3_wipe s m args below meth c 0 0 (MQ below (cr_Qv w x) args s 0 0 (cr_A w)) q.2 53 [(0, .ref (w.1 a0)), (1, .ref (w.1 (a0 + 2))), (2, .int (4 : Int32)), (3, .int q.1)] []) (K := fun z => z = e53) (fun q x hx kl kr => ?_) cr_FU ((0 : Int32), V_e10_43) e53 he53 rfl
    obtain ⟨x3_53, V_l53⟩ := q
    exact t_X3_wipe_l53 X a0 x3_53 V_l53 ha0 x hx (fun x3_53 V_l53 ez => kl _ ez) (fun V_e53_80 ez => kx80 V_e53_80 ((kr _ ez).symm))
  refine jr_sub [3, 2, 1, 0] rfl ?_
  refine cr_it_W (f := (fun (q : Int32 × cr_Hp) => f_X3_wipe_l10 a0 q.1 q.2)) (P := fun (q : Int32 × cr_Hp) => cr_J w 5 p l e rm_X3_wipe s m args below meth c 0 0 (MQ below (cr_Qv w x) args s 0 0 (cr_A w)) q.2 10 [(0, .ref (w.1 a0)), (1, .ref (w.1 (a0 + 1))), (2, .int (12 : Int32)), (3, .int q.1)] []) (K := fun z => z = e10) (fun q x hx kl kr => ?_) cr_FU ((0 : Int32), V) e10 he10 rfl
  obtain ⟨x3_10, V_l10⟩ := q
  exact t_X3_wipe_l10 X a0 x3_10 V_l10 ha0 x hx (fun x3_10 V_l10 ez => kl _ ez) (fun V_e10_43 ez => kx43 V_e10_43 ((kr _ ez).symm))
set_option maxRecDepth 100000 in
set_option maxHeartbeats 4000000 in
theorem m_X3_wipe (l : Launch) (w : cr_Wd) (V : cr_Hp) (a0 : Nat) (ha0 : cr_pg a0) (x : cr_Hp) (h : f_X3_wipe a0 V = some x) : Met l yX3_wipe (cr_wds yX3_wipe cX3_wipe 5 none) rm_X3_wipe (cr_Pc w V [.ref (w.1 a0)]) (cr_Qv w x) 0 0 (cr_A w) := by
  refine cr_met (own := RX3) (lv := [(0, .ref (w.1 a0))]) (by decide +kernel) rfl (Nat.le_of_ble_eq_true rfl) rfl (fun p e s m args below meth c X hr0 => ?_)
  exact t_X3_wipe X a0 V ha0 hr0 x h
abbrev rm_X7_clear : Room := { frames := 3, cells := 0, slots := 0, locals := 67 }
theorem hd_X7_clear : yX7_clear.cls = RX7 ∧ yX7_clear.cls ≠ "java/lang/invoke/MethodHandle" ∧ yX7_clear.cls ≠ "java/lang/invoke/VarHandle" ∧ (parseMethodDescriptor yX7_clear.desc).map (fun d => d.parameters.length) = some 0 := by decide +kernel
def f_X7_clear  (V : cr_Hp) : Option (Int32 × cr_Hp) :=
  cr_lt ((V 0 2)) (fun (n7 : Int32) => cr_bd (f_X0_save 0 V) (fun (V16 : cr_Hp) => cr_bd (f_X3_wipe 0 V16) (fun (V23 : cr_Hp) => some (n7, V23))))
set_option maxRecDepth 100000 in
set_option maxHeartbeats 4000000 in
theorem t_X7_clear {p : Program} {l : Launch} {e : Env} {s : State} {m : MethodId} {args : Array Value} {below : List Frame} {meth : Method} {c : Code} {w : cr_Wd} (X : cr_Cx w RX7 (Cond.code yX7_clear cX7_clear 2 (some .int)) cX7_clear 2 p s m args meth c)  (V : cr_Hp)  (hr0 : meth.sig.returnType = (some .int)) (x : Int32 × cr_Hp) (h : f_X7_clear  V = some x) : cr_J w 2 p l e rm_X7_clear s m args below meth c 0 0 (MQ below (cr_Qi w x.2 x.1) args s 0 0 (cr_A w)) V 0 [(0, .ref (w.1 152))] [] := by
  unfold f_X7_clear at h
  refine jr_aload_n X.c dX7_clear_0 rfl 0 rfl ?_
  refine jr_get X.c (ci := 7) (C := RX7) (T := TX7) (N := 5) (k := 0) rfl cr_in7 (Or.inl (by decide)) ((cr_row_152 w) _) rfl (by decide) fl_X7_10 dX7_clear_1 ?_
  refine jr_get X.c (ci := 3) (C := RX3) (T := TX3) (N := 10) (k := 2) rfl cr_in3 (cr_l_pg cr_pg0) ((cr_row_pg w cr_pg0) _) rfl (by decide) fl_X7_93 dX7_clear_4 ?_
  obtain ⟨n7, en7, h⟩ := cr_lt_s h
  refine jr_top en7 ?_
  refine jr_istore_n X.c (lv2 := [(1, .int n7), (0, .ref (w.1 152))]) dX7_clear_7 rfl (by decide) rfl ?_
  refine jr_aload_n X.c dX7_clear_8 rfl 1 rfl ?_
  refine jr_get X.c (ci := 7) (C := RX7) (T := TX7) (N := 5) (k := 3) rfl cr_in7 (Or.inl (by decide)) ((cr_row_152 w) _) rfl (by decide) fl_X7_29 dX7_clear_9 ?_
  refine jr_aload_n X.c dX7_clear_12 rfl 1 rfl ?_
  refine jr_get X.c (ci := 7) (C := RX7) (T := TX7) (N := 5) (k := 0) rfl cr_in7 (Or.inl (by decide)) ((cr_row_152 w) _) rfl (by decide) fl_X7_10 dX7_clear_13 ?_
  obtain ⟨V16, hr16, h⟩ := cr_bd_s h
  refine jc_Vv X.c (As := [.ref (w.1 0)]) (V1 := V16) (C := RX0) (T := TX0) (N := 3) (ci := 0) 1 (m_X0_save l w V 0 cr_pg0 V16 hr16) ⟨rfl, rfl⟩ ml_X7_44 im_X0_save sl_X0_save in_X0 cd_X0_save hd_X0_save ⟨Nat.le_of_ble_eq_true rfl, Nat.le_of_ble_eq_true rfl⟩ ⟨Nat.le_of_ble_eq_true rfl, Nat.le_of_ble_eq_true rfl⟩ rfl (Nat.le_of_ble_eq_true rfl) (Or.inl (by decide)) ((cr_row_154 w) _) rfl rfl dX7_clear_16 ?_
  refine jr_aload_n X.c dX7_clear_19 rfl 1 rfl ?_
  refine jr_get X.c (ci := 7) (C := RX7) (T := TX7) (N := 5) (k := 0) rfl cr_in7 (Or.inl (by decide)) ((cr_row_152 w) _) rfl (by decide) fl_X7_10 dX7_clear_20 ?_
  obtain ⟨V23, hr23, h⟩ := cr_bd_s h
  refine jc_Vv X.c (As := []) (V1 := V23) (C := RX3) (T := TX3) (N := 10) (ci := 3) 0 (m_X3_wipe l w V16 0 cr_pg0 V23 hr23) ⟨rfl, rfl⟩ ml_X7_96 im_X3_wipe sl_X3_wipe in_X3 cd_X3_wipe hd_X3_wipe ⟨Nat.le_of_ble_eq_true rfl, Nat.le_of_ble_eq_true rfl⟩ ⟨Nat.le_of_ble_eq_true rfl, Nat.le_of_ble_eq_true rfl⟩ rfl (Nat.le_of_ble_eq_true rfl) (cr_l_pg cr_pg0) ((cr_row_pg w cr_pg0) _) rfl rfl dX7_clear_23 ?_
  refine jr_iload_n X.c dX7_clear_26 rfl 0 rfl ?_
  cases h
  exact jr_iret X.c hr0 dX7_clear_27
set_option maxRecDepth 100000 in
set_option maxHeartbeats 4000000 in
theorem m_X7_clear (l : Launch) (w : cr_Wd) (V : cr_Hp)   (x : Int32 × cr_Hp) (h : f_X7_clear  V = some x) : Met l yX7_clear (cr_wds yX7_clear cX7_clear 2 (some .int)) rm_X7_clear (cr_Pc w V [.ref (w.1 152)]) (cr_Qi w x.2 x.1) 0 0 (cr_A w) := by
  refine cr_met (own := RX7) (lv := [(0, .ref (w.1 152))]) (by decide +kernel) rfl (Nat.le_of_ble_eq_true rfl) rfl (fun p e s m args below meth c X hr0 => ?_)
  exact t_X7_clear X  V  hr0 x h
abbrev rm_X7_isDirection : Room := { frames := 0, cells := 0, slots := 0, locals := 0 }
theorem hd_X7_isDirection : yX7_isDirection.cls ≠ "java/lang/invoke/MethodHandle" ∧ yX7_isDirection.cls ≠ "java/lang/invoke/VarHandle" ∧ (parseMethodDescriptor yX7_isDirection.desc).map (fun d => d.parameters.length) = some 1 := by decide +kernel
def f_X7_isDirection (x0 : Int32) : Option (Int32) :=
  if x0 < 0 then (some (0 : Int32)) else (if (8 : Int32) ≤ x0 then (some (0 : Int32)) else (if (8 : Int32) ≤ x0 then (some (0 : Int32)) else (some (1 : Int32))))
set_option maxRecDepth 100000 in
set_option maxHeartbeats 4000000 in
theorem t_X7_isDirection {p : Program} {l : Launch} {e : Env} {s : State} {m : MethodId} {args : Array Value} {below : List Frame} {meth : Method} {c : Code} {w : cr_Wd} (X : cr_Cx w RX7 (Cond.code yX7_isDirection cX7_isDirection 1 (some .boolean)) cX7_isDirection 1 p s m args meth c) (x0 : Int32) (V : cr_Hp)  (hr0 : meth.sig.returnType = (some .boolean)) (x : Int32) (h : f_X7_isDirection x0 = some x) : cr_J w 1 p l e rm_X7_isDirection s m args below meth c 0 0 (MQ below (cr_Qi w V x) args s 0 0 (cr_A w)) V 0 [(0, .int x0)] [] := by
  unfold f_X7_isDirection at h
  refine jr_iload_n X.c dX7_isDirection_0 rfl 0 rfl ?_
  refine jr_if_lt X.c 24 dX7_isDirection_1 (by decide) (fun q1 => ?_) (fun q1 => ?_)
  · replace h := cr_if_t q1 h
    refine jr_iconst X.c (v := (0 : Int32)) dX7_isDirection_24 (by decide) ?_
    cases h
    exact jr_zret X.c (r := (0 : Int32)) hr0 (by decide) dX7_isDirection_25
  · replace h := cr_if_f q1 h
    refine jr_iload_n X.c dX7_isDirection_4 rfl 0 rfl ?_
    refine jr_gets_x X.c fl_X7_189 dX7_isDirection_5 ?_
    refine jr_tlen_x X.c dX7_isDirection_8 ?_
    refine jr_icmp_ge X.c 24 dX7_isDirection_9 (by decide) (fun q9 => ?_) (fun q9 => ?_)
    · replace h := cr_if_t q9 h
      refine jr_iconst X.c (v := (0 : Int32)) dX7_isDirection_24 (by decide) ?_
      cases h
      exact jr_zret X.c (r := (0 : Int32)) hr0 (by decide) dX7_isDirection_25
    · replace h := cr_if_f q9 h
      refine jr_iload_n X.c dX7_isDirection_12 rfl 0 rfl ?_
      refine jr_gets_y X.c fl_X7_275 dX7_isDirection_13 ?_
      refine jr_tlen_y X.c dX7_isDirection_16 ?_
      refine jr_icmp_ge X.c 24 dX7_isDirection_17 (by decide) (fun q17 => ?_) (fun q17 => ?_)
      · replace h := cr_if_t q17 h
        refine jr_iconst X.c (v := (0 : Int32)) dX7_isDirection_24 (by decide) ?_
        cases h
        exact jr_zret X.c (r := (0 : Int32)) hr0 (by decide) dX7_isDirection_25
      · replace h := cr_if_f q17 h
        refine jr_iconst X.c (v := (1 : Int32)) dX7_isDirection_20 (by decide) ?_
        refine jr_goto X.c 25 dX7_isDirection_21 (by decide) ?_
        cases h
        exact jr_zret X.c (r := (1 : Int32)) hr0 (by decide) dX7_isDirection_25
set_option maxRecDepth 100000 in
set_option maxHeartbeats 4000000 in
theorem m_X7_isDirection (l : Launch) (w : cr_Wd) (V : cr_Hp) (x0 : Int32)  (x : Int32) (h : f_X7_isDirection x0 = some x) : Met l yX7_isDirection (cr_wds yX7_isDirection cX7_isDirection 1 (some .boolean)) rm_X7_isDirection (cr_Pc w V [.int x0]) (cr_Qi w V x) 0 0 (cr_A w) := by
  refine cr_met (own := RX7) (lv := [(0, .int x0)]) (by decide +kernel) rfl (Nat.le_of_ble_eq_true rfl) rfl (fun p e s m args below meth c X hr0 => ?_)
  exact t_X7_isDirection X x0 V  hr0 x h
abbrev rm_X7_isStrength : Room := { frames := 0, cells := 0, slots := 0, locals := 0 }
theorem hd_X7_isStrength : yX7_isStrength.cls ≠ "java/lang/invoke/MethodHandle" ∧ yX7_isStrength.cls ≠ "java/lang/invoke/VarHandle" ∧ (parseMethodDescriptor yX7_isStrength.desc).map (fun d => d.parameters.length) = some 1 := by decide +kernel
def f_X7_isStrength (x0 : Int32) : Option (Int32) :=
  if x0 < (1 : Int32) then (some (0 : Int32)) else (if (40 : Int32) < x0 then (some (0 : Int32)) else (some (1 : Int32)))
set_option maxRecDepth 100000 in
set_option maxHeartbeats 4000000 in
theorem t_X7_isStrength {p : Program} {l : Launch} {e : Env} {s : State} {m : MethodId} {args : Array Value} {below : List Frame} {meth : Method} {c : Code} {w : cr_Wd} (X : cr_Cx w RX7 (Cond.code yX7_isStrength cX7_isStrength 1 (some .boolean)) cX7_isStrength 1 p s m args meth c) (x0 : Int32) (V : cr_Hp)  (hr0 : meth.sig.returnType = (some .boolean)) (x : Int32) (h : f_X7_isStrength x0 = some x) : cr_J w 1 p l e rm_X7_isStrength s m args below meth c 0 0 (MQ below (cr_Qi w V x) args s 0 0 (cr_A w)) V 0 [(0, .int x0)] [] := by
  unfold f_X7_isStrength at h
  refine jr_iload_n X.c dX7_isStrength_0 rfl 0 rfl ?_
  refine jr_iconst X.c (v := (1 : Int32)) dX7_isStrength_1 (by decide) ?_
  refine jr_icmp_lt X.c 15 dX7_isStrength_2 (by decide) (fun q2 => ?_) (fun q2 => ?_)
  · replace h := cr_if_t q2 h
    refine jr_iconst X.c (v := (0 : Int32)) dX7_isStrength_15 (by decide) ?_
    cases h
    exact jr_zret X.c (r := (0 : Int32)) hr0 (by decide) dX7_isStrength_16
  · replace h := cr_if_f q2 h
    refine jr_iload_n X.c dX7_isStrength_5 rfl 0 rfl ?_
    refine jr_bipush X.c (v := (40 : Int32)) dX7_isStrength_6 (by decide) ?_
    refine jr_icmp_gt X.c 15 dX7_isStrength_8 (by decide) (fun q8 => ?_) (fun q8 => ?_)
    · replace h := cr_if_t q8 h
      refine jr_iconst X.c (v := (0 : Int32)) dX7_isStrength_15 (by decide) ?_
      cases h
      exact jr_zret X.c (r := (0 : Int32)) hr0 (by decide) dX7_isStrength_16
    · replace h := cr_if_f q8 h
      refine jr_iconst X.c (v := (1 : Int32)) dX7_isStrength_11 (by decide) ?_
      refine jr_goto X.c 16 dX7_isStrength_12 (by decide) ?_
      cases h
      exact jr_zret X.c (r := (1 : Int32)) hr0 (by decide) dX7_isStrength_16
set_option maxRecDepth 100000 in
set_option maxHeartbeats 4000000 in
theorem m_X7_isStrength (l : Launch) (w : cr_Wd) (V : cr_Hp) (x0 : Int32)  (x : Int32) (h : f_X7_isStrength x0 = some x) : Met l yX7_isStrength (cr_wds yX7_isStrength cX7_isStrength 1 (some .boolean)) rm_X7_isStrength (cr_Pc w V [.int x0]) (cr_Qi w V x) 0 0 (cr_A w) := by
  refine cr_met (own := RX7) (lv := [(0, .int x0)]) (by decide +kernel) rfl (Nat.le_of_ble_eq_true rfl) rfl (fun p e s m args below meth c X hr0 => ?_)
  exact t_X7_isStrength X x0 V  hr0 x h
abbrev rm_X7_stepX : Room := { frames := 1, cells := 0, slots := 0, locals := 20 }
theorem hd_X7_stepX : yX7_stepX.cls ≠ "java/lang/invoke/MethodHandle" ∧ yX7_stepX.cls ≠ "java/lang/invoke/VarHandle" ∧ (parseMethodDescriptor yX7_stepX.desc).map (fun d => d.parameters.length) = some 1 := by decide +kernel
def f_X7_stepX (x0 : Int32) : Option (Int32) :=
  cr_bd (f_X7_isDirection x0) (fun (r1 : Int32) => if r1 = 0 then (some (0 : Int32)) else (cr_gd (cr_ix x0 8) (some (cr_sx x0.toNatClampNeg))))
set_option maxRecDepth 100000 in
set_option maxHeartbeats 4000000 in
theorem t_X7_stepX {p : Program} {l : Launch} {e : Env} {s : State} {m : MethodId} {args : Array Value} {below : List Frame} {meth : Method} {c : Code} {w : cr_Wd} (X : cr_Cx w RX7 (Cond.code yX7_stepX cX7_stepX 1 (some .int)) cX7_stepX 1 p s m args meth c) (x0 : Int32) (V : cr_Hp)  (hr0 : meth.sig.returnType = (some .int)) (x : Int32) (h : f_X7_stepX x0 = some x) : cr_J w 1 p l e rm_X7_stepX s m args below meth c 0 0 (MQ below (cr_Qi w V x) args s 0 0 (cr_A w)) V 0 [(0, .int x0)] [] := by
  unfold f_X7_stepX at h
  refine jr_iload_n X.c dX7_stepX_0 rfl 0 rfl ?_
  obtain ⟨r1, hr1, h⟩ := cr_bd_s h
  refine jc_Si X.c (As := [.int x0]) (V1 := V) 1 (m_X7_isDirection l w V x0  r1 hr1) ⟨rfl, rfl⟩ ml_X7_99 st_X7_isDirection in_X7 cd_X7_isDirection hd_X7_isDirection ⟨Nat.le_of_ble_eq_true rfl, Nat.le_of_ble_eq_true rfl⟩ ⟨Nat.le_of_ble_eq_true rfl, Nat.le_of_ble_eq_true rfl⟩ rfl (Nat.le_of_ble_eq_true rfl) rfl dX7_stepX_1 ?_
  refine jr_if_eq X.c 15 dX7_stepX_4 (by decide) (fun q4 => ?_) (fun q4 => ?_)
  · replace h := cr_if_t q4 h
    refine jr_iconst X.c (v := (0 : Int32)) dX7_stepX_15 (by decide) ?_
    cases h
    exact jr_iret X.c hr0 dX7_stepX_16
  · replace h := cr_if_f q4 h
    refine jr_gets_x X.c fl_X7_189 dX7_stepX_7 ?_
    refine jr_iload_n X.c dX7_stepX_10 rfl 0 rfl ?_
    obtain ⟨hi11, h⟩ := cr_gd_s h
    refine jr_ti_x X.c hi11 dX7_stepX_11 ?_
    refine jr_goto X.c 16 dX7_stepX_12 (by decide) ?_
    cases h
    exact jr_iret X.c hr0 dX7_stepX_16
set_option maxRecDepth 100000 in
set_option maxHeartbeats 4000000 in
theorem m_X7_stepX (l : Launch) (w : cr_Wd) (V : cr_Hp) (x0 : Int32)  (x : Int32) (h : f_X7_stepX x0 = some x) : Met l yX7_stepX (cr_wds yX7_stepX cX7_stepX 1 (some .int)) rm_X7_stepX (cr_Pc w V [.int x0]) (cr_Qi w V x) 0 0 (cr_A w) := by
  refine cr_met (own := RX7) (lv := [(0, .int x0)]) (by decide +kernel) rfl (Nat.le_of_ble_eq_true rfl) rfl (fun p e s m args below meth c X hr0 => ?_)
  exact t_X7_stepX X x0 V  hr0 x h
abbrev rm_X7_stepY : Room := { frames := 1, cells := 0, slots := 0, locals := 20 }
theorem hd_X7_stepY : yX7_stepY.cls ≠ "java/lang/invoke/MethodHandle" ∧ yX7_stepY.cls ≠ "java/lang/invoke/VarHandle" ∧ (parseMethodDescriptor yX7_stepY.desc).map (fun d => d.parameters.length) = some 1 := by decide +kernel
def f_X7_stepY (x0 : Int32) : Option (Int32) :=
  cr_bd (f_X7_isDirection x0) (fun (r1 : Int32) => if r1 = 0 then (some (0 : Int32)) else (cr_gd (cr_ix x0 8) (some (cr_sy x0.toNatClampNeg))))
set_option maxRecDepth 100000 in
set_option maxHeartbeats 4000000 in
theorem t_X7_stepY {p : Program} {l : Launch} {e : Env} {s : State} {m : MethodId} {args : Array Value} {below : List Frame} {meth : Method} {c : Code} {w : cr_Wd} (X : cr_Cx w RX7 (Cond.code yX7_stepY cX7_stepY 1 (some .int)) cX7_stepY 1 p s m args meth c) (x0 : Int32) (V : cr_Hp)  (hr0 : meth.sig.returnType = (some .int)) (x : Int32) (h : f_X7_stepY x0 = some x) : cr_J w 1 p l e rm_X7_stepY s m args below meth c 0 0 (MQ below (cr_Qi w V x) args s 0 0 (cr_A w)) V 0 [(0, .int x0)] [] := by
  unfold f_X7_stepY at h
  refine jr_iload_n X.c dX7_stepY_0 rfl 0 rfl ?_
  obtain ⟨r1, hr1, h⟩ := cr_bd_s h
  refine jc_Si X.c (As := [.int x0]) (V1 := V) 1 (m_X7_isDirection l w V x0  r1 hr1) ⟨rfl, rfl⟩ ml_X7_99 st_X7_isDirection in_X7 cd_X7_isDirection hd_X7_isDirection ⟨Nat.le_of_ble_eq_true rfl, Nat.le_of_ble_eq_true rfl⟩ ⟨Nat.le_of_ble_eq_true rfl, Nat.le_of_ble_eq_true rfl⟩ rfl (Nat.le_of_ble_eq_true rfl) rfl dX7_stepY_1 ?_
  refine jr_if_eq X.c 15 dX7_stepY_4 (by decide) (fun q4 => ?_) (fun q4 => ?_)
  · replace h := cr_if_t q4 h
    refine jr_iconst X.c (v := (0 : Int32)) dX7_stepY_15 (by decide) ?_
    cases h
    exact jr_iret X.c hr0 dX7_stepY_16
  · replace h := cr_if_f q4 h
    refine jr_gets_y X.c fl_X7_275 dX7_stepY_7 ?_
    refine jr_iload_n X.c dX7_stepY_10 rfl 0 rfl ?_
    obtain ⟨hi11, h⟩ := cr_gd_s h
    refine jr_ti_y X.c hi11 dX7_stepY_11 ?_
    refine jr_goto X.c 16 dX7_stepY_12 (by decide) ?_
    cases h
    exact jr_iret X.c hr0 dX7_stepY_16
set_option maxRecDepth 100000 in
set_option maxHeartbeats 4000000 in
theorem m_X7_stepY (l : Launch) (w : cr_Wd) (V : cr_Hp) (x0 : Int32)  (x : Int32) (h : f_X7_stepY x0 = some x) : Met l yX7_stepY (cr_wds yX7_stepY cX7_stepY 1 (some .int)) rm_X7_stepY (cr_Pc w V [.int x0]) (cr_Qi w V x) 0 0 (cr_A w) := by
  refine cr_met (own := RX7) (lv := [(0, .int x0)]) (by decide +kernel) rfl (Nat.le_of_ble_eq_true rfl) rfl (fun p e s m args below meth c X hr0 => ?_)
  exact t_X7_stepY X x0 V  hr0 x h
