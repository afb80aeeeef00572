abbrev rm_X3_pointsOf : Room := { frames := 0, cells := 0, slots := 0, locals := 0 }
theorem hd_X3_pointsOf : yX3_pointsOf.cls = RX3 ∧ yX3_pointsOf.cls ≠ "java/lang/invoke/MethodHandle" ∧ yX3_pointsOf.cls ≠ "java/lang/invoke/VarHandle" ∧ (parseMethodDescriptor yX3_pointsOf.desc).map (fun d => d.parameters.length) = some 1 := by decide +kernel
def f_X3_pointsOf_l14 (a0 : Nat) (x1 : Int32) (x2_14 : Int32) (x5_14 : Int32) (V : cr_Hp) : Option ((Int32 × Int32) ⊕ Int32) :=
  if (12 : Int32) ≤ x5_14 then (some (.inr x2_14)) else (cr_gd (cr_ix x5_14 12) (if (V ((a0 + 1) + 2 + x5_14.toNatClampNeg) 5) = (-1 : Int32) then (some (.inl (x2_14, (x5_14 + (1 : Int32))))) else (if (V ((a0 + 1) + 2 + x5_14.toNatClampNeg) 5) = x1 then (cr_lt ((x2_14 + (V ((a0 + 1) + 2 + x5_14.toNatClampNeg) 3))) (fun (n60 : Int32) => some (.inl (n60, (x5_14 + (1 : Int32)))))) else (if (V ((a0 + 1) + 2 + x5_14.toNatClampNeg) 4) = x1 then (cr_lt ((x2_14 - (V ((a0 + 1) + 2 + x5_14.toNatClampNeg) 3))) (fun (n80 : Int32) => some (.inl (n80, (x5_14 + (1 : Int32)))))) else (some (.inl (x2_14, (x5_14 + (1 : Int32)))))))))
set_option maxRecDepth 100000 in
set_option maxHeartbeats 4000000 in
theorem t_X3_pointsOf_l14 {p : Program} {l : Launch} {e : Env} {s : State} {m : MethodId} {args : Array Value} {below : List Frame} {meth : Method} {c : Code} {w : cr_Wd} {Q : State → Prop} (X : cr_Cx w RX3 (Cond.code yX3_pointsOf cX3_pointsOf 7 (some .int)) cX3_pointsOf 7 p s m args meth c) (a0 : Nat) (x1 : Int32) (x2_14 : Int32) (x5_14 : Int32) (V : cr_Hp) (ha0 : cr_pg a0) (x : (Int32 × Int32) ⊕ Int32) (h : f_X3_pointsOf_l14 a0 x1 x2_14 x5_14 V = some x) (kl : ∀ (x2_14 : Int32) (x5_14 : Int32), x = .inl (x2_14, x5_14) → cr_J w 7 p l e rm_X3_pointsOf s m args below meth c 0 0 Q V 14 [(1, .int x1), (2, .int x2_14), (3, .ref (w.1 (a0 + 1))), (4, .int (12 : Int32)), (5, .int x5_14)] []) (kr87 : ∀ (u2_14_87 : Int32), x = .inr u2_14_87 → cr_J w 7 p l e rm_X3_pointsOf s m args below meth c 0 0 Q V 87 [(2, .int u2_14_87)] []) : cr_J w 7 p l e rm_X3_pointsOf s m args below meth c 0 0 Q V 14 [(1, .int x1), (2, .int x2_14), (3, .ref (w.1 (a0 + 1))), (4, .int (12 : Int32)), (5, .int x5_14)] [] := by
  unfold f_X3_pointsOf_l14 at h
  refine jr_iload X.c dX3_pointsOf_14 4 rfl ?_
  refine jr_iload X.c dX3_pointsOf_16 3 rfl ?_
  refine jr_icmp_ge X.c 87 dX3_pointsOf_18 (by decide) (fun q18 => ?_) (fun q18 => ?_)
  · replace h := cr_if_t q18 h
    cases h
    refine jr_sub [1] rfl ?_
    exact kr87 x2_14 rfl
  · replace h := cr_if_f q18 h
    refine jr_aload_n X.c dX3_pointsOf_21 rfl 2 rfl ?_
    refine jr_iload X.c dX3_pointsOf_22 4 rfl ?_
    obtain ⟨hi24, h⟩ := cr_gd_s h
    refine jr_aald X.c (f := (fun j => (a0 + 1) + 2 + j)) 2 rfl (cr_l_ms (cr_pg_ms ha0)) ((cr_row_ms w (cr_pg_ms ha0)) _) hi24 dX3_pointsOf_24 ?_
    refine jr_astore X.c (lv2 := [(6, .ref (w.1 ((a0 + 1) + 2 + x5_14.toNatClampNeg))), (1, .int x1), (2, .int x2_14), (3, .ref (w.1 (a0 + 1))), (4, .int (12 : Int32)), (5, .int x5_14)]) dX3_pointsOf_25 (by decide) rfl ?_
    refine jr_aload X.c dX3_pointsOf_27 0 rfl ?_
    refine jr_ifnullR X.c dX3_pointsOf_29 ?_
    refine jr_aload X.c dX3_pointsOf_32 0 rfl ?_
    refine jr_get X.c (ci := 2) (C := RX2) (T := TX2) (N := 9) (k := 5) rfl cr_in2 (cr_l_ma (cr_ms_ma (cr_pg_ms ha0) (cr_ix_lt hi24))) ((cr_row_ma w (cr_ms_ma (cr_pg_ms ha0) (cr_ix_lt hi24))) _) rfl (by decide) fl_X3_63 dX3_pointsOf_34 ?_
    refine jr_iconst X.c (v := (-1 : Int32)) dX3_pointsOf_37 (by decide) ?_
    refine jr_icmp_ne X.c 44 dX3_pointsOf_38 (by decide) (fun q38 => ?_) (fun q38 => ?_)
    · replace h := cr_if_f q38 h
      refine jr_aload X.c dX3_pointsOf_44 0 rfl ?_
      refine jr_get X.c (ci := 2) (C := RX2) (T := TX2) (N := 9) (k := 5) rfl cr_in2 (cr_l_ma (cr_ms_ma (cr_pg_ms ha0) (cr_ix_lt hi24))) ((cr_row_ma w (cr_ms_ma (cr_pg_ms ha0) (cr_ix_lt hi24))) _) rfl (by decide) fl_X3_63 dX3_pointsOf_46 ?_
      refine jr_iload_n X.c dX3_pointsOf_49 rfl 1 rfl ?_
      refine jr_icmp_ne X.c 64 dX3_pointsOf_50 (by decide) (fun q50 => ?_) (fun q50 => ?_)
      · replace h := cr_if_f q50 h
        refine jr_aload X.c dX3_pointsOf_64 0 rfl ?_
        refine jr_get X.c (ci := 2) (C := RX2) (T := TX2) (N := 9) (k := 4) rfl cr_in2 (cr_l_ma (cr_ms_ma (cr_pg_ms ha0) (cr_ix_lt hi24))) ((cr_row_ma w (cr_ms_ma (cr_pg_ms ha0) (cr_ix_lt hi24))) _) rfl (by decide) fl_X3_90 dX3_pointsOf_66 ?_
        refine jr_iload_n X.c dX3_pointsOf_69 rfl 1 rfl ?_
        refine jr_icmp_ne X.c 81 dX3_pointsOf_70 (by decide) (fun q70 => ?_) (fun q70 => ?_)
        · replace h := cr_if_f q70 h
          refine jr_iinc X.c (v := (x5_14 + (1 : Int32))) (lv2 := [(5, .int (x5_14 + (1 : Int32))), (6, .ref (w.1 ((a0 + 1) + 2 + x5_14.toNatClampNeg))), (1, .int x1), (2, .int x2_14), (3, .ref (w.1 (a0 + 1))), (4, .int (12 : Int32))]) dX3_pointsOf_81 5 rfl (by rfl) (by decide) rfl ?_
          refine jr_goto X.c 14 dX3_pointsOf_84 (by decide) ?_
          cases h
          refine jr_sub [2, 3, 4, 5, 0] rfl ?_
          exact kl x2_14 (x5_14 + (1 : Int32)) rfl
        · replace h := cr_if_t q70 h
          refine jr_iload_n X.c dX3_pointsOf_73 rfl 2 rfl ?_
          refine jr_aload X.c dX3_pointsOf_74 0 rfl ?_
          refine jr_get X.c (ci := 2) (C := RX2) (T := TX2) (N := 9) (k := 3) rfl cr_in2 (cr_l_ma (cr_ms_ma (cr_pg_ms ha0) (cr_ix_lt hi24))) ((cr_row_ma w (cr_ms_ma (cr_pg_ms ha0) (cr_ix_lt hi24))) _) rfl (by decide) fl_X3_87 dX3_pointsOf_76 ?_
          refine jr_isub X.c dX3_pointsOf_79 ?_
          obtain ⟨n80, en80, h⟩ := cr_lt_s h
          refine jr_top en80 ?_
          refine jr_istore_n X.c (lv2 := [(2, .int n80), (6, .ref (w.1 ((a0 + 1) + 2 + x5_14.toNatClampNeg))), (1, .int x1), (3, .ref (w.1 (a0 + 1))), (4, .int (12 : Int32)), (5, .int x5_14)]) dX3_pointsOf_80 rfl (by decide) rfl ?_
          refine jr_iinc X.c (v := (x5_14 + (1 : Int32))) (lv2 := [(5, .int (x5_14 + (1 : Int32))), (2, .int n80), (6, .ref (w.1 ((a0 + 1) + 2 + x5_14.toNatClampNeg))), (1, .int x1), (3, .ref (w.1 (a0 + 1))), (4, .int (12 : Int32))]) dX3_pointsOf_81 5 rfl (by rfl) (by decide) rfl ?_
          refine jr_goto X.c 14 dX3_pointsOf_84 (by decide) ?_
          cases h
          refine jr_sub [3, 1, 4, 5, 0] rfl ?_
          exact kl n80 (x5_14 + (1 : Int32)) rfl
      · replace h := cr_if_t q50 h
        refine jr_iload_n X.c dX3_pointsOf_53 rfl 2 rfl ?_
        refine jr_aload X.c dX3_pointsOf_54 0 rfl ?_
        refine jr_get X.c (ci := 2) (C := RX2) (T := TX2) (N := 9) (k := 3) rfl cr_in2 (cr_l_ma (cr_ms_ma (cr_pg_ms ha0) (cr_ix_lt hi24))) ((cr_row_ma w (cr_ms_ma (cr_pg_ms ha0) (cr_ix_lt hi24))) _) rfl (by decide) fl_X3_87 dX3_pointsOf_56 ?_
        refine jr_iadd X.c dX3_pointsOf_59 ?_
        obtain ⟨n60, en60, h⟩ := cr_lt_s h
        refine jr_top en60 ?_
        refine jr_istore_n X.c (lv2 := [(2, .int n60), (6, .ref (w.1 ((a0 + 1) + 2 + x5_14.toNatClampNeg))), (1, .int x1), (3, .ref (w.1 (a0 + 1))), (4, .int (12 : Int32)), (5, .int x5_14)]) dX3_pointsOf_60 rfl (by decide) rfl ?_
        refine jr_goto X.c 81 dX3_pointsOf_61 (by decide) ?_
        refine jr_iinc X.c (v := (x5_14 + (1 : Int32))) (lv2 := [(5, .int (x5_14 + (1 : Int32))), (2, .int n60), (6, .ref (w.1 ((a0 + 1) + 2 + x5_14.toNatClampNeg))), (1, .int x1), (3, .ref (w.1 (a0 + 1))), (4, .int (12 : Int32))]) dX3_pointsOf_81 5 rfl (by rfl) (by decide) rfl ?_
        refine jr_goto X.c 14 dX3_pointsOf_84 (by decide) ?_
        cases h
        refine jr_sub [3, 1, 4, 5, 0] rfl ?_
        exact kl n60 (x5_14 + (1 : Int32)) rfl
    · replace h := cr_if_t q38 h
      refine jr_goto X.c 81 dX3_pointsOf_41 (by decide) ?_
      refine jr_iinc X.c (v := (x5_14 + (1 : Int32))) (lv2 := [(5, .int (x5_14 + (1 : Int32))), (6, .ref (w.1 ((a0 + 1) + 2 + x5_14.toNatClampNeg))), (1, .int x1), (2, .int x2_14), (3, .ref (w.1 (a0 + 1))), (4, .int (12 : Int32))]) dX3_pointsOf_81 5 rfl (by rfl) (by decide) rfl ?_
      refine jr_goto X.c 14 dX3_pointsOf_84 (by decide) ?_
      cases h
      refine jr_sub [2, 3, 4, 5, 0] rfl ?_
      exact kl x2_14 (x5_14 + (1 : Int32)) rfl
def f_X3_pointsOf (a0 : Nat) (x1 : Int32) (V : cr_Hp) : Option (Int32) :=
  cr_bd (cr_it (fun (q : Int32 × Int32) => f_X3_pointsOf_l14 a0 x1 q.1 q.2 V) cr_FU ((0 : Int32), (0 : Int32))) (fun (u2_14_87 : Int32) => some u2_14_87)
set_option maxRecDepth 100000 in
set_option maxHeartbeats 4000000 in
theorem t_X3_pointsOf {p : Program} {l : Launch} {e : Env} {s : State} {m : MethodId} {args : Array Value} {below : List Frame} {meth : Method} {c : Code} {w : cr_Wd} (X : cr_Cx w RX3 (Cond.code yX3_pointsOf cX3_pointsOf 7 (some .int)) cX3_pointsOf 7 p s m args meth c) (a0 : Nat) (x1 : Int32) (V : cr_Hp) (ha0 : cr_pg a0) (hr0 : meth.sig.returnType = (some .int)) (x : Int32) (h : f_X3_pointsOf a0 x1 V = some x) : cr_J w 7 p l e rm_X3_pointsOf s m args below meth c 0 0 (MQ below (cr_Qi w V x) args s 0 0 (cr_A w)) V 0 [(0, .ref (w.1 a0)), (1, .int x1)] [] := by
  unfold f_X3_pointsOf at h
  refine jr_iconst X.c (v := (0 : Int32)) dX3_pointsOf_0 (by decide) ?_
  refine jr_istore_n X.c (lv2 := [(2, .int (0 : Int32)), (0, .ref (w.1 a0)), (1, .int x1)]) dX3_pointsOf_1 rfl (by decide) rfl ?_
  refine jr_aload_n X.c dX3_pointsOf_2 rfl 1 rfl ?_
  refine jr_get X.c (ci := 3) (C := RX3) (T := TX3) (N := 10) (k := 0) rfl cr_in3 (cr_l_pg ha0) ((cr_row_pg w ha0) _) rfl (by decide) fl_X3_11 dX3_pointsOf_3 ?_
  refine jr_astore_n X.c (lv2 := [(3, .ref (w.1 (a0 + 1))), (2, .int (0 : Int32)), (0, .ref (w.1 a0)), (1, .int x1)]) dX3_pointsOf_6 rfl (by decide) rfl ?_
  refine jr_aload_n X.c dX3_pointsOf_7 rfl 0 rfl ?_
  refine jr_alen X.c (v := (12 : Int32)) 2 rfl (cr_l_ms (cr_pg_ms ha0)) ((cr_row_ms w (cr_pg_ms ha0)) _) rfl dX3_pointsOf_8 ?_
  refine jr_istore X.c (lv2 := [(4, .int (12 : Int32)), (3, .ref (w.1 (a0 + 1))), (2, .int (0 : Int32)), (0, .ref (w.1 a0)), (1, .int x1)]) dX3_pointsOf_9 (by decide) rfl ?_
  refine jr_iconst X.c (v := (0 : Int32)) dX3_pointsOf_11 (by decide) ?_
  refine jr_istore X.c (lv2 := [(5, .int (0 : Int32)), (4, .int (12 : Int32)), (3, .ref (w.1 (a0 + 1))), (2, .int (0 : Int32)), (0, .ref (w.1 a0)), (1, .int x1)]) dX3_pointsOf_12 (by decide) rfl ?_
  obtain ⟨e14, he14, h⟩ := cr_bd_s h
  have kx87 : ∀ (u2_14_87 : Int32), e14 = u2_14_87 → cr_J w 7 p l e rm_X3_pointsOf s m args below meth c 0 0 (MQ below (cr_Qi w V x) args s 0 0 (cr_A w)) V 87 [(2, .int u2_14_87)] [] := by
    intro u2_14_87 qx
    rw [qx] at h
    refine jr_iload_n X.c dX3_pointsOf_87 rfl 0 rfl ?_
    cases h
    exact jr_iret X.c hr0 dX3_pointsOf_88
  refine jr_sub [5, 3, 2, 1, 0] rfl ?_
  refine cr_it_W (f := (fun (q : Int32 × Int32) => f_X3_pointsOf_l14 a0 x1 q.1 q.2 V)) (P := fun (q : Int32 × Int32) => cr_J w 7 p l e rm_X3_pointsOf s m args below meth c 0 0 (MQ below (cr_Qi w V x) args s 0 0 (cr_A w)) V 14 [(1, .int x1), (2, .int q.1), (3, .ref (w.1 (a0 + 1))), (4, .int (12 : Int32)), (5, .int q.2)] []) (K := fun z => z = e14) (fun q x hx kl kr => ?_) cr_FU ((0 : Int32), (0 : Int32)) e14 he14 rfl
  obtain ⟨x2_14, x5_14⟩ := q
  exact t_X3_pointsOf_l14 X a0 x1 x2_14 x5_14 V ha0 x hx (fun x2_14 x5_14 ez => kl _ ez) (fun u2_14_87 ez => kx87 u2_14_87 ((kr _ ez).symm))
set_option maxRecDepth 100000 in
set_option maxHeartbeats 4000000 in
theorem m_X3_pointsOf (l : Launch) (w : cr_Wd) (V : cr_Hp) (a0 : Nat) (x1 : Int32) (ha0 : cr_pg a0) (x : Int32) (h : f_X3_pointsOf a0 x1 V = some x) : Met l yX3_pointsOf (cr_wds yX3_pointsOf cX3_pointsOf 7 (some .int)) rm_X3_pointsOf (cr_Pc w V [.ref (w.1 a0), .int x1]) (cr_Qi w V x) 0 0 (cr_A w) := by
  refine cr_met (own := RX3) (lv := [(0, .ref (w.1 a0)), (1, .int x1)]) (by decide +kernel) rfl (Nat.le_of_ble_eq_true rfl) rfl (fun p e s m args below meth c X hr0 => ?_)
  exact t_X3_pointsOf X a0 x1 V ha0 hr0 x h
abbrev rm_X7_score : Room := { frames := 1, cells := 0, slots := 0, locals := 26 }
theorem hd_X7_score : yX7_score.cls = RX7 ∧ yX7_score.cls ≠ "java/lang/invoke/MethodHandle" ∧ yX7_score.cls ≠ "java/lang/invoke/VarHandle" ∧ (parseMethodDescriptor yX7_score.desc).map (fun d => d.parameters.length) = some 1 := by decide +kernel
def f_X7_score (x1 : Int32) (V : cr_Hp) : Option (Int32) :=
  cr_bd (f_X7_isPlayer x1) (fun (r1 : Int32) => if r1 = 0 then (some (-1001 : Int32)) else (cr_bd (f_X3_pointsOf 0 x1 V) (fun (r12 : Int32) => some r12)))
set_option maxRecDepth 100000 in
set_option maxHeartbeats 4000000 in
theorem t_X7_score {p : Program} {l : Launch} {e : Env} {s : State} {m : MethodId} {args : Array Value} {below : List Frame} {meth : Method} {c : Code} {w : cr_Wd} (X : cr_Cx w RX7 (Cond.code yX7_score cX7_score 2 (some .int)) cX7_score 2 p s m args meth c) (x1 : Int32) (V : cr_Hp)  (hr0 : meth.sig.returnType = (some .int)) (x : Int32) (h : f_X7_score x1 V = some x) : cr_J w 2 p l e rm_X7_score s m args below meth c 0 0 (MQ below (cr_Qi w V x) args s 0 0 (cr_A w)) V 0 [(0, .ref (w.1 152)), (1, .int x1)] [] := by
  unfold f_X7_score at h
  refine jr_iload_n X.c dX7_score_0 rfl 1 rfl ?_
  obtain ⟨r1, hr1, h⟩ := cr_bd_s h
  refine jc_Si X.c (As := [.int x1]) (V1 := V) 1 (m_X7_isPlayer l w V x1  r1 hr1) ⟨rfl, rfl⟩ ml_X7_166 st_X7_isPlayer in_X7 cd_X7_isPlayer hd_X7_isPlayer ⟨Nat.le_of_ble_eq_true rfl, Nat.le_of_ble_eq_true rfl⟩ ⟨Nat.le_of_ble_eq_true rfl, Nat.le_of_ble_eq_true rfl⟩ rfl (Nat.le_of_ble_eq_true rfl) rfl dX7_score_1 ?_
  refine jr_if_eq X.c 18 dX7_score_4 (by decide) (fun q4 => ?_) (fun q4 => ?_)
  · replace h := cr_if_t q4 h
    refine jr_sipush X.c (v := (-1001 : Int32)) dX7_score_18 (by decide) ?_
    cases h
    exact jr_iret X.c hr0 dX7_score_21
  · replace h := cr_if_f q4 h
    refine jr_aload_n X.c dX7_score_7 rfl 0 rfl ?_
    refine jr_get X.c (ci := 7) (C := RX7) (T := TX7) (N := 5) (k := 0) rfl cr_in7 (Or.inl (by decide)) ((cr_row_152 w) _) rfl (by decide) fl_X7_10 dX7_score_8 ?_
    refine jr_iload_n X.c dX7_score_11 rfl 1 rfl ?_
    obtain ⟨r12, hr12, h⟩ := cr_bd_s h
    refine jc_Vi X.c (As := [.int x1]) (V1 := V) (C := RX3) (T := TX3) (N := 10) (ci := 3) 1 (m_X3_pointsOf l w V 0 x1 cr_pg0 r12 hr12) ⟨rfl, rfl⟩ ml_X7_169 im_X3_pointsOf sl_X3_pointsOf in_X3 cd_X3_pointsOf hd_X3_pointsOf ⟨Nat.le_of_ble_eq_true rfl, Nat.le_of_ble_eq_true rfl⟩ ⟨Nat.le_of_ble_eq_true rfl, Nat.le_of_ble_eq_true rfl⟩ rfl (Nat.le_of_ble_eq_true rfl) (cr_l_pg cr_pg0) ((cr_row_pg w cr_pg0) _) rfl rfl dX7_score_12 ?_
    refine jr_goto X.c 21 dX7_score_15 (by decide) ?_
    cases h
    exact jr_iret X.c hr0 dX7_score_21
set_option maxRecDepth 100000 in
set_option maxHeartbeats 4000000 in
theorem m_X7_score (l : Launch) (w : cr_Wd) (V : cr_Hp) (x1 : Int32)  (x : Int32) (h : f_X7_score x1 V = some x) : Met l yX7_score (cr_wds yX7_score cX7_score 2 (some .int)) rm_X7_score (cr_Pc w V [.ref (w.1 152), .int x1]) (cr_Qi w V x) 0 0 (cr_A w) := by
  refine cr_met (own := RX7) (lv := [(0, .ref (w.1 152)), (1, .int x1)]) (by decide +kernel) rfl (Nat.le_of_ble_eq_true rfl) rfl (fun p e s m args below meth c X hr0 => ?_)
  exact t_X7_score X x1 V  hr0 x h
abbrev rm_X7_leader : Room := { frames := 1, cells := 0, slots := 0, locals := 26 }
theorem hd_X7_leader : yX7_leader.cls = RX7 ∧ yX7_leader.cls ≠ "java/lang/invoke/MethodHandle" ∧ yX7_leader.cls ≠ "java/lang/invoke/VarHandle" ∧ (parseMethodDescriptor yX7_leader.desc).map (fun d => d.parameters.length) = some 0 := by decide +kernel
def f_X7_leader_l4 (x1_4 : Int32) (x2_4 : Int32) (V : cr_Hp) : Option ((Int32 × Int32) ⊕ Int32) :=
  if (3 : Int32) ≤ x2_4 then (some (.inr x1_4)) else (cr_bd (f_X3_pointsOf 0 x2_4 V) (fun (r14 : Int32) => cr_bd (f_X3_pointsOf 0 x1_4 V) (fun (r22 : Int32) => if r14 ≤ r22 then (some (.inl (x1_4, (x2_4 + (1 : Int32))))) else (some (.inl (x2_4, (x2_4 + (1 : Int32))))))))
set_option maxRecDepth 100000 in
set_option maxHeartbeats 4000000 in
theorem t_X7_leader_l4 {p : Program} {l : Launch} {e : Env} {s : State} {m : MethodId} {args : Array Value} {below : List Frame} {meth : Method} {c : Code} {w : cr_Wd} {Q : State → Prop} (X : cr_Cx w RX7 (Cond.code yX7_leader cX7_leader 3 (some .int)) cX7_leader 3 p s m args meth c) (x1_4 : Int32) (x2_4 : Int32) (V : cr_Hp)  (x : (Int32 × Int32) ⊕ Int32) (h : f_X7_leader_l4 x1_4 x2_4 V = some x) (kl : ∀ (x1_4 : Int32) (x2_4 : Int32), x = .inl (x1_4, x2_4) → cr_J w 3 p l e rm_X7_leader s m args below meth c 0 0 Q V 4 [(0, .ref (w.1 152)), (1, .int x1_4), (2, .int x2_4)] []) (kr36 : ∀ (u1_4_36 : Int32), x = .inr u1_4_36 → cr_J w 3 p l e rm_X7_leader s m args below meth c 0 0 Q V 36 [(1, .int u1_4_36)] []) : cr_J w 3 p l e rm_X7_leader s m args below meth c 0 0 Q V 4 [(0, .ref (w.1 152)), (1, .int x1_4), (2, .int x2_4)] [] := by
  unfold f_X7_leader_l4 at h
  refine jr_iload_n X.c dX7_leader_4 rfl 2 rfl ?_
  refine jr_iconst X.c (v := (3 : Int32)) dX7_leader_5 (by decide) ?_
  refine jr_icmp_ge X.c 36 dX7_leader_6 (by decide) (fun q6 => ?_) (fun q6 => ?_)
  · replace h := cr_if_t q6 h
    cases h
    refine jr_sub [1] rfl ?_
    exact kr36 x1_4 rfl
  · replace h := cr_if_f q6 h
    refine jr_aload_n X.c dX7_leader_9 rfl 0 rfl ?_
    refine jr_get X.c (ci := 7) (C := RX7) (T := TX7) (N := 5) (k := 0) rfl cr_in7 (Or.inl (by decide)) ((cr_row_152 w) _) rfl (by decide) fl_X7_10 dX7_leader_10 ?_
    refine jr_iload_n X.c dX7_leader_13 rfl 2 rfl ?_
    obtain ⟨r14, hr14, h⟩ := cr_bd_s h
    refine jc_Vi X.c (As := [.int x2_4]) (V1 := V) (C := RX3) (T := TX3) (N := 10) (ci := 3) 1 (m_X3_pointsOf l w V 0 x2_4 cr_pg0 r14 hr14) ⟨rfl, rfl⟩ ml_X7_169 im_X3_pointsOf sl_X3_pointsOf in_X3 cd_X3_pointsOf hd_X3_pointsOf ⟨Nat.le_of_ble_eq_true rfl, Nat.le_of_ble_eq_true rfl⟩ ⟨Nat.le_of_ble_eq_true rfl, Nat.le_of_ble_eq_true rfl⟩ rfl (Nat.le_of_ble_eq_true rfl) (cr_l_pg cr_pg0) ((cr_row_pg w cr_pg0) _) rfl rfl dX7_leader_14 ?_
    refine jr_aload_n X.c dX7_leader_17 rfl 0 rfl ?_
    refine jr_get X.c (ci := 7) (C := RX7) (T := TX7) (N := 5) (k := 0) rfl cr_in7 (Or.inl (by decide)) ((cr_row_152 w) _) rfl (by decide) fl_X7_10 dX7_leader_18 ?_
    refine jr_iload_n X.c dX7_leader_21 rfl 1 rfl ?_
    obtain ⟨r22, hr22, h⟩ := cr_bd_s h
    refine jc_Vi X.c (As := [.int x1_4]) (V1 := V) (C := RX3) (T := TX3) (N := 10) (ci := 3) 1 (m_X3_pointsOf l w V 0 x1_4 cr_pg0 r22 hr22) ⟨rfl, rfl⟩ ml_X7_169 im_X3_pointsOf sl_X3_pointsOf in_X3 cd_X3_pointsOf hd_X3_pointsOf ⟨Nat.le_of_ble_eq_true rfl, Nat.le_of_ble_eq_true rfl⟩ ⟨Nat.le_of_ble_eq_true rfl, Nat.le_of_ble_eq_true rfl⟩ rfl (Nat.le_of_ble_eq_true rfl) (cr_l_pg cr_pg0) ((cr_row_pg w cr_pg0) _) rfl rfl dX7_leader_22 ?_
    refine jr_icmp_le X.c 30 dX7_leader_25 (by decide) (fun q25 => ?_) (fun q25 => ?_)
    · replace h := cr_if_t q25 h
      refine jr_iinc X.c (v := (x2_4 + (1 : Int32))) (lv2 := [(2, .int (x2_4 + (1 : Int32))), (0, .ref (w.1 152)), (1, .int x1_4)]) dX7_leader_30 2 rfl (by rfl) (by decide) rfl ?_
      refine jr_goto X.c 4 dX7_leader_33 (by decide) ?_
      cases h
      refine jr_sub [1, 2, 0] rfl ?_
      exact kl x1_4 (x2_4 + (1 : Int32)) rfl
    · replace h := cr_if_f q25 h
      refine jr_iload_n X.c dX7_leader_28 rfl 2 rfl ?_
      refine jr_istore_n X.c (lv2 := [(1, .int x2_4), (0, .ref (w.1 152)), (2, .int x2_4)]) dX7_leader_29 rfl (by decide) rfl ?_
      refine jr_iinc X.c (v := (x2_4 + (1 : Int32))) (lv2 := [(2, .int (x2_4 + (1 : Int32))), (1, .int x2_4), (0, .ref (w.1 152))]) dX7_leader_30 2 rfl (by rfl) (by decide) rfl ?_
      refine jr_goto X.c 4 dX7_leader_33 (by decide) ?_
      cases h
      refine jr_sub [2, 1, 0] rfl ?_
      exact kl x2_4 (x2_4 + (1 : Int32)) rfl
def f_X7_leader  (V : cr_Hp) : Option (Int32) :=
  cr_bd (cr_it (fun (q : Int32 × Int32) => f_X7_leader_l4  q.1 q.2 V) cr_FU ((0 : Int32), (1 : Int32))) (fun (u1_4_36 : Int32) => some u1_4_36)
set_option maxRecDepth 100000 in
set_option maxHeartbeats 4000000 in
theorem t_X7_leader {p : Program} {l : Launch} {e : Env} {s : State} {m : MethodId} {args : Array Value} {below : List Frame} {meth : Method} {c : Code} {w : cr_Wd} (X : cr_Cx w RX7 (Cond.code yX7_leader cX7_leader 3 (some .int)) cX7_leader 3 p s m args meth c)  (V : cr_Hp)  (hr0 : meth.sig.returnType = (some .int)) (x : Int32) (h : f_X7_leader  V = some x) : cr_J w 3 p l e rm_X7_leader s m args below meth c 0 0 (MQ below (cr_Qi w V x) args s 0 0 (cr_A w)) V 0 [(0, .ref (w.1 152))] [] := by
  unfold f_X7_leader at h
  refine jr_iconst X.c (v := (0 : Int32)) dX7_leader_0 (by decide) ?_
  refine jr_istore_n X.c (lv2 := [(1, .int (0 : Int32)), (0, .ref (w.1 152))]) dX7_leader_1 rfl (by decide) rfl ?_
  refine jr_iconst X.c (v := (1 : Int32)) dX7_leader_2 (by decide) ?_
  refine jr_istore_n X.c (lv2 := [(2, .int (1 : Int32)), (1, .int (0 : Int32)), (0, .ref (w.1 152))]) dX7_leader_3 rfl (by decide) rfl ?_
  obtain ⟨e4, he4, h⟩ := cr_bd_s h
  have kx36 : ∀ (u1_4_36 : Int32), e4 = u1_4_36 → cr_J w 3 p l e rm_X7_leader s m args below meth c 0 0 (MQ below (cr_Qi w V x) args s 0 0 (cr_A w)) V 36 [(1, .int u1_4_36)] [] := by
    intro u1_4_36 qx
    rw [qx] at h
    refine jr_iload_n X.c dX7_leader_36 rfl 0 rfl ?_
    cases h
    exact jr_iret X.c hr0 dX7_leader_37
  refine jr_sub [2, 1, 0] rfl ?_
  refine cr_it_W (f := (fun (q : Int32 × Int32) => f_X7_leader_l4  q.1 q.2 V)) (P := fun (q : Int32 × Int32) => cr_J w 3 p l e rm_X7_leader s m args below meth c 0 0 (MQ below (cr_Qi w V x) args s 0 0 (cr_A w)) V 4 [(0, .ref (w.1 152)), (1, .int q.1), (2, .int q.2)] []) (K := fun z => z = e4) (fun q x hx kl kr => ?_) cr_FU ((0 : Int32), (1 : Int32)) e4 he4 rfl
  obtain ⟨x1_4, x2_4⟩ := q
  exact t_X7_leader_l4 X x1_4 x2_4 V  x hx (fun x1_4 x2_4 ez => kl _ ez) (fun u1_4_36 ez => kx36 u1_4_36 ((kr _ ez).symm))
set_option maxRecDepth 100000 in
set_option maxHeartbeats 4000000 in
theorem m_X7_leader (l : Launch) (w : cr_Wd) (V : cr_Hp)   (x : Int32) (h : f_X7_leader  V = some x) : Met l yX7_leader (cr_wds yX7_leader cX7_leader 3 (some .int)) rm_X7_leader (cr_Pc w V [.ref (w.1 152)]) (cr_Qi w V x) 0 0 (cr_A w) := by
  refine cr_met (own := RX7) (lv := [(0, .ref (w.1 152))]) (by decide +kernel) rfl (Nat.le_of_ble_eq_true rfl) rfl (fun p e s m args below meth c X hr0 => ?_)
  exact t_X7_leader X  V  hr0 x h
abbrev rm_X7_tryFlick : Room := { frames := 5, cells := 0, slots := 0, locals := 127 }
theorem hd_X7_tryFlick : yX7_tryFlick.cls = RX7 ∧ yX7_tryFlick.cls ≠ "java/lang/invoke/MethodHandle" ∧ yX7_tryFlick.cls ≠ "java/lang/invoke/VarHandle" ∧ (parseMethodDescriptor yX7_tryFlick.desc).map (fun d => d.parameters.length) = some 3 := by decide +kernel
def f_X7_tryFlick (x1 : Int32) (x2 : Int32) (x3 : Int32) (V : cr_Hp) : Option (cr_Hp) :=
  cr_bd (f_X3_copyFrom 19 0 V) (fun (V8 : cr_Hp) => cr_bd (f_X5_play 19 x1 x2 x3 V8) (fun (V22 : cr_Hp) => some V22))
set_option maxRecDepth 100000 in
set_option maxHeartbeats 4000000 in
theorem t_X7_tryFlick {p : Program} {l : Launch} {e : Env} {s : State} {m : MethodId} {args : Array Value} {below : List Frame} {meth : Method} {c : Code} {w : cr_Wd} (X : cr_Cx w RX7 (Cond.code yX7_tryFlick cX7_tryFlick 4 none) cX7_tryFlick 4 p s m args meth c) (x1 : Int32) (x2 : Int32) (x3 : Int32) (V : cr_Hp)  (hr0 : meth.sig.returnType = none) (x : cr_Hp) (h : f_X7_tryFlick x1 x2 x3 V = some x) : cr_J w 4 p l e rm_X7_tryFlick s m args below meth c 0 0 (MQ below (cr_Qv w x) args s 0 0 (cr_A w)) V 0 [(0, .ref (w.1 152)), (1, .int x1), (2, .int x2), (3, .int x3)] [] := by
  unfold f_X7_tryFlick at h
  refine jr_aload_n X.c dX7_tryFlick_0 rfl 0 rfl ?_
  refine jr_get X.c (ci := 7) (C := RX7) (T := TX7) (N := 5) (k := 1) rfl cr_in7 (Or.inl (by decide)) ((cr_row_152 w) _) rfl (by decide) fl_X7_16 dX7_tryFlick_1 ?_
  refine jr_aload_n X.c dX7_tryFlick_4 rfl 0 rfl ?_
  refine jr_get X.c (ci := 7) (C := RX7) (T := TX7) (N := 5) (k := 0) rfl cr_in7 (Or.inl (by decide)) ((cr_row_152 w) _) rfl (by decide) fl_X7_10 dX7_tryFlick_5 ?_
  obtain ⟨V8, hr8, h⟩ := cr_bd_s h
  refine jc_Vv X.c (As := [.ref (w.1 0)]) (V1 := V8) (C := RX3) (T := TX3) (N := 10) (ci := 3) 1 (m_X3_copyFrom l w V 19 0 cr_pg19 cr_pg0 V8 hr8) ⟨rfl, rfl⟩ ml_X7_262 im_X3_copyFrom sl_X3_copyFrom in_X3 cd_X3_copyFrom hd_X3_copyFrom ⟨Nat.le_of_ble_eq_true rfl, Nat.le_of_ble_eq_true rfl⟩ ⟨Nat.le_of_ble_eq_true rfl, Nat.le_of_ble_eq_true rfl⟩ rfl (Nat.le_of_ble_eq_true rfl) (cr_l_pg cr_pg19) ((cr_row_pg w cr_pg19) _) rfl rfl dX7_tryFlick_8 ?_
  refine jr_aload_n X.c dX7_tryFlick_11 rfl 0 rfl ?_
  refine jr_get X.c (ci := 7) (C := RX7) (T := TX7) (N := 5) (k := 2) rfl cr_in7 (Or.inl (by decide)) ((cr_row_152 w) _) rfl (by decide) fl_X7_22 dX7_tryFlick_12 ?_
  refine jr_aload_n X.c dX7_tryFlick_15 rfl 0 rfl ?_
  refine jr_get X.c (ci := 7) (C := RX7) (T := TX7) (N := 5) (k := 1) rfl cr_in7 (Or.inl (by decide)) ((cr_row_152 w) _) rfl (by decide) fl_X7_16 dX7_tryFlick_16 ?_
  refine jr_iload_n X.c dX7_tryFlick_19 rfl 1 rfl ?_
  refine jr_iload_n X.c dX7_tryFlick_20 rfl 2 rfl ?_
  refine jr_iload_n X.c dX7_tryFlick_21 rfl 3 rfl ?_
  obtain ⟨V22, hr22, h⟩ := cr_bd_s h
  refine jc_Vv X.c (As := [.ref (w.1 19), .int x1, .int x2, .int x3]) (V1 := V22) (C := RX5) (T := TX5) (N := 10) (ci := 5) 4 (m_X5_play l w V8 19 x1 x2 x3 cr_pg19 V22 hr22) ⟨rfl, rfl⟩ ml_X7_112 im_X5_play sl_X5_play in_X5 cd_X5_play hd_X5_play ⟨Nat.le_of_ble_eq_true rfl, Nat.le_of_ble_eq_true rfl⟩ ⟨Nat.le_of_ble_eq_true rfl, Nat.le_of_ble_eq_true rfl⟩ rfl (Nat.le_of_ble_eq_true rfl) (Or.inl (by decide)) ((cr_row_153 w) _) rfl rfl dX7_tryFlick_22 ?_
  cases h
  exact jr_vret X.c hr0 dX7_tryFlick_25
set_option maxRecDepth 100000 in
set_option maxHeartbeats 4000000 in
theorem m_X7_tryFlick (l : Launch) (w : cr_Wd) (V : cr_Hp) (x1 : Int32) (x2 : Int32) (x3 : Int32)  (x : cr_Hp) (h : f_X7_tryFlick x1 x2 x3 V = some x) : Met l yX7_tryFlick (cr_wds yX7_tryFlick cX7_tryFlick 4 none) rm_X7_tryFlick (cr_Pc w V [.ref (w.1 152), .int x1, .int x2, .int x3]) (cr_Qv w x) 0 0 (cr_A w) := by
  refine cr_met (own := RX7) (lv := [(0, .ref (w.1 152)), (1, .int x1), (2, .int x2), (3, .int x3)]) (by decide +kernel) rfl (Nat.le_of_ble_eq_true rfl) rfl (fun p e s m args below meth c X hr0 => ?_)
  exact t_X7_tryFlick X x1 x2 x3 V  hr0 x h
abbrev rm_X7_ifFlicked : Room := { frames := 6, cells := 0, slots := 0, locals := 150 }
theorem hd_X7_ifFlicked : yX7_ifFlicked.cls = RX7 ∧ yX7_ifFlicked.cls ≠ "java/lang/invoke/MethodHandle" ∧ yX7_ifFlicked.cls ≠ "java/lang/invoke/VarHandle" ∧ (parseMethodDescriptor yX7_ifFlicked.desc).map (fun d => d.parameters.length) = some 4 := by decide +kernel
def f_X7_ifFlicked (x1 : Int32) (x2 : Int32) (x3 : Int32) (x4 : Int32) (V : cr_Hp) : Option (Int32 × cr_Hp) :=
  cr_bd (f_X3_findMarble 0 x1 V) (fun (r5 : Option Nat) => cr_on r5 (some ((-1001 : Int32), V)) (fun (a5 : Nat) => cr_gd (cr_ma a5) (cr_bd (f_X7_isDirection x2) (fun (r20 : Int32) => if r20 = 0 then (some ((-1002 : Int32), V)) else (cr_bd (f_X7_isStrength x3) (fun (r27 : Int32) => if r27 = 0 then (some ((-1002 : Int32), V)) else (if x4 < 0 then (some ((-1002 : Int32), V)) else (if x4 < (5 : Int32) then (if (V a5 6) = 0 then (some ((-1003 : Int32), V)) else (cr_bd (f_X7_tryFlick x1 x2 x3 V) (fun (V64 : cr_Hp) => if x4 = (0 : Int32) then (some ((V64 153 0), V64)) else (if x4 = (1 : Int32) then (some ((V64 153 1), V64)) else (if x4 = (2 : Int32) then (some ((V64 153 2), V64)) else (if x4 = (3 : Int32) then (some ((V64 153 3), V64)) else (some ((((100 : Int32) * (V64 153 4)) + (V64 153 5)), V64)))))))) else (some ((-1002 : Int32), V))))))))))
set_option maxRecDepth 100000 in
set_option maxHeartbeats 4000000 in
theorem t_X7_ifFlicked {p : Program} {l : Launch} {e : Env} {s : State} {m : MethodId} {args : Array Value} {below : List Frame} {meth : Method} {c : Code} {w : cr_Wd} (X : cr_Cx w RX7 (Cond.code yX7_ifFlicked cX7_ifFlicked 6 (some .int)) cX7_ifFlicked 6 p s m args meth c) (x1 : Int32) (x2 : Int32) (x3 : Int32) (x4 : Int32) (V : cr_Hp)  (hr0 : meth.sig.returnType = (some .int)) (x : Int32 × cr_Hp) (h : f_X7_ifFlicked x1 x2 x3 x4 V = some x) : cr_J w 6 p l e rm_X7_ifFlicked s m args below meth c 0 0 (MQ below (cr_Qi w x.2 x.1) args s 0 0 (cr_A w)) V 0 [(0, .ref (w.1 152)), (1, .int x1), (2, .int x2), (3, .int x3), (4, .int x4)] [] := by
  unfold f_X7_ifFlicked at h
  refine jr_aload_n X.c dX7_ifFlicked_0 rfl 0 rfl ?_
  refine jr_get X.c (ci := 7) (C := RX7) (T := TX7) (N := 5) (k := 0) rfl cr_in7 (Or.inl (by decide)) ((cr_row_152 w) _) rfl (by decide) fl_X7_10 dX7_ifFlicked_1 ?_
  refine jr_iload_n X.c dX7_ifFlicked_4 rfl 1 rfl ?_
  obtain ⟨r5, hr5, h⟩ := cr_bd_s h
  refine jc_Ve X.c (As := [.int x1]) (V1 := V) (C := RX3) (T := TX3) (N := 10) (ci := 3) 1 (m_X3_findMarble l w V 0 x1 cr_pg0 r5 hr5) ⟨rfl, rfl⟩ ml_X7_58 im_X3_findMarble sl_X3_findMarble in_X3 cd_X3_findMarble hd_X3_findMarble ⟨Nat.le_of_ble_eq_true rfl, Nat.le_of_ble_eq_true rfl⟩ ⟨Nat.le_of_ble_eq_true rfl, Nat.le_of_ble_eq_true rfl⟩ rfl (Nat.le_of_ble_eq_true rfl) (cr_l_pg cr_pg0) ((cr_row_pg w cr_pg0) _) rfl rfl dX7_ifFlicked_5 (fun eq5 => ?_) (fun a5 eq5 => ?_)
  · subst eq5
    replace h := cr_on_n h
    refine jr_astoreN X.c (lv2 := [(5, .null), (0, .ref (w.1 152)), (1, .int x1), (2, .int x2), (3, .int x3), (4, .int x4)]) dX7_ifFlicked_8 (by decide) rfl ?_
    refine jr_aloadN X.c dX7_ifFlicked_10 0 rfl ?_
    refine jr_ifnonnullN X.c dX7_ifFlicked_12 ?_
    refine jr_sipush X.c (v := (-1001 : Int32)) dX7_ifFlicked_15 (by decide) ?_
    cases h
    exact jr_iret X.c hr0 dX7_ifFlicked_18
  · subst eq5
    replace h := cr_on_s h
    obtain ⟨ha5, h⟩ := cr_gd_s h
    refine jr_astore X.c (lv2 := [(5, .ref (w.1 a5)), (0, .ref (w.1 152)), (1, .int x1), (2, .int x2), (3, .int x3), (4, .int x4)]) dX7_ifFlicked_8 (by decide) rfl ?_
    refine jr_aload X.c dX7_ifFlicked_10 0 rfl ?_
    refine jr_ifnonnullR X.c 19 dX7_ifFlicked_12 (by decide) ?_
    refine jr_iload_n X.c dX7_ifFlicked_19 rfl 3 rfl ?_
    obtain ⟨r20, hr20, h⟩ := cr_bd_s h
    refine jc_Si X.c (As := [.int x2]) (V1 := V) 1 (m_X7_isDirection l w V x2  r20 hr20) ⟨rfl, rfl⟩ ml_X7_99 st_X7_isDirection in_X7 cd_X7_isDirection hd_X7_isDirection ⟨Nat.le_of_ble_eq_true rfl, Nat.le_of_ble_eq_true rfl⟩ ⟨Nat.le_of_ble_eq_true rfl, Nat.le_of_ble_eq_true rfl⟩ rfl (Nat.le_of_ble_eq_true rfl) rfl dX7_ifFlicked_20 ?_
    refine jr_if_eq X.c 44 dX7_ifFlicked_23 (by decide) (fun q23 => ?_) (fun q23 => ?_)
    · replace h := cr_if_t q23 h
      refine jr_sipush X.c (v := (-1002 : Int32)) dX7_ifFlicked_44 (by decide) ?_
      cases h
      exact jr_iret X.c hr0 dX7_ifFlicked_47
    · replace h := cr_if_f q23 h
      refine jr_iload_n X.c dX7_ifFlicked_26 rfl 4 rfl ?_
      obtain ⟨r27, hr27, h⟩ := cr_bd_s h
      refine jc_Si X.c (As := [.int x3]) (V1 := V) 1 (m_X7_isStrength l w V x3  r27 hr27) ⟨rfl, rfl⟩ ml_X7_103 st_X7_isStrength in_X7 cd_X7_isStrength hd_X7_isStrength ⟨Nat.le_of_ble_eq_true rfl, Nat.le_of_ble_eq_true rfl⟩ ⟨Nat.le_of_ble_eq_true rfl, Nat.le_of_ble_eq_true rfl⟩ rfl (Nat.le_of_ble_eq_true rfl) rfl dX7_ifFlicked_27 ?_
      refine jr_if_eq X.c 44 dX7_ifFlicked_30 (by decide) (fun q30 => ?_) (fun q30 => ?_)
      · replace h := cr_if_t q30 h
        refine jr_sipush X.c (v := (-1002 : Int32)) dX7_ifFlicked_44 (by decide) ?_
        cases h
        exact jr_iret X.c hr0 dX7_ifFlicked_47
      · replace h := cr_if_f q30 h
        refine jr_iload X.c dX7_ifFlicked_33 5 rfl ?_
        refine jr_if_lt X.c 44 dX7_ifFlicked_35 (by decide) (fun q35 => ?_) (fun q35 => ?_)
        · replace h := cr_if_t q35 h
          refine jr_sipush X.c (v := (-1002 : Int32)) dX7_ifFlicked_44 (by decide) ?_
          cases h
          exact jr_iret X.c hr0 dX7_ifFlicked_47
        · replace h := cr_if_f q35 h
          refine jr_iload X.c dX7_ifFlicked_38 5 rfl ?_
          refine jr_iconst X.c (v := (5 : Int32)) dX7_ifFlicked_40 (by decide) ?_
          refine jr_icmp_lt X.c 48 dX7_ifFlicked_41 (by decide) (fun q41 => ?_) (fun q41 => ?_)
          · replace h := cr_if_t q41 h
            refine jr_aload X.c dX7_ifFlicked_48 0 rfl ?_
            refine jr_get X.c (ci := 2) (C := RX2) (T := TX2) (N := 9) (k := 6) rfl cr_in2 (cr_l_ma ha5) ((cr_row_ma w ha5) _) rfl (by decide) fl_X7_66 dX7_ifFlicked_50 ?_
            refine jr_if_ne X.c 60 dX7_ifFlicked_53 (by decide) (fun q53 => ?_) (fun q53 => ?_)
            · replace h := cr_if_f q53 h
              refine jr_aload_n X.c dX7_ifFlicked_60 rfl 1 rfl ?_
              refine jr_iload_n X.c dX7_ifFlicked_61 rfl 2 rfl ?_
              refine jr_iload_n X.c dX7_ifFlicked_62 rfl 3 rfl ?_
              refine jr_iload_n X.c dX7_ifFlicked_63 rfl 4 rfl ?_
              obtain ⟨V64, hr64, h⟩ := cr_bd_s h
              refine jc_Vv X.c (As := [.int x1, .int x2, .int x3]) (V1 := V64) (C := RX7) (T := TX7) (N := 5) (ci := 7) 3 (m_X7_tryFlick l w V x1 x2 x3  V64 hr64) ⟨rfl, rfl⟩ ml_X7_172 im_X7_tryFlick sl_X7_tryFlick in_X7 cd_X7_tryFlick hd_X7_tryFlick ⟨Nat.le_of_ble_eq_true rfl, Nat.le_of_ble_eq_true rfl⟩ ⟨Nat.le_of_ble_eq_true rfl, Nat.le_of_ble_eq_true rfl⟩ rfl (Nat.le_of_ble_eq_true rfl) (Or.inl (by decide)) ((cr_row_152 w) _) rfl rfl dX7_ifFlicked_64 ?_
              refine jr_iload X.c dX7_ifFlicked_67 5 rfl ?_
              by_cases q69_0 : x4 = (0 : Int32)
              · replace h := cr_if_t q69_0 h
                refine jr_tabI X.c (0 : Int32) q69_0 100 dX7_ifFlicked_69 (by decide) (by decide) (by rfl) (by decide) ?_
                refine jr_aload_n X.c dX7_ifFlicked_100 rfl 1 rfl ?_
                refine jr_get X.c (ci := 7) (C := RX7) (T := TX7) (N := 5) (k := 2) rfl cr_in7 (Or.inl (by decide)) ((cr_row_152 w) _) rfl (by decide) fl_X7_22 dX7_ifFlicked_101 ?_
                refine jr_get X.c (ci := 5) (C := RX5) (T := TX5) (N := 10) (k := 0) rfl cr_in5 (Or.inl (by decide)) ((cr_row_153 w) _) rfl (by decide) fl_X7_116 dX7_ifFlicked_104 ?_
                cases h
                exact jr_iret X.c hr0 dX7_ifFlicked_107
              replace h := cr_if_f q69_0 h
              by_cases q69_1 : x4 = (1 : Int32)
              · replace h := cr_if_t q69_1 h
                refine jr_tabI X.c (1 : Int32) q69_1 108 dX7_ifFlicked_69 (by decide) (by decide) (by rfl) (by decide) ?_
                refine jr_aload_n X.c dX7_ifFlicked_108 rfl 1 rfl ?_
                refine jr_get X.c (ci := 7) (C := RX7) (T := TX7) (N := 5) (k := 2) rfl cr_in7 (Or.inl (by decide)) ((cr_row_152 w) _) rfl (by decide) fl_X7_22 dX7_ifFlicked_109 ?_
                refine jr_get X.c (ci := 5) (C := RX5) (T := TX5) (N := 10) (k := 1) rfl cr_in5 (Or.inl (by decide)) ((cr_row_153 w) _) rfl (by decide) fl_X7_176 dX7_ifFlicked_112 ?_
                cases h
                exact jr_iret X.c hr0 dX7_ifFlicked_115
              replace h := cr_if_f q69_1 h
              by_cases q69_2 : x4 = (2 : Int32)
              · replace h := cr_if_t q69_2 h
                refine jr_tabI X.c (2 : Int32) q69_2 116 dX7_ifFlicked_69 (by decide) (by decide) (by rfl) (by decide) ?_
                refine jr_aload_n X.c dX7_ifFlicked_116 rfl 1 rfl ?_
                refine jr_get X.c (ci := 7) (C := RX7) (T := TX7) (N := 5) (k := 2) rfl cr_in7 (Or.inl (by decide)) ((cr_row_152 w) _) rfl (by decide) fl_X7_22 dX7_ifFlicked_117 ?_
                refine jr_get X.c (ci := 5) (C := RX5) (T := TX5) (N := 10) (k := 2) rfl cr_in5 (Or.inl (by decide)) ((cr_row_153 w) _) rfl (by decide) fl_X7_179 dX7_ifFlicked_120 ?_
                cases h
                exact jr_iret X.c hr0 dX7_ifFlicked_123
              replace h := cr_if_f q69_2 h
              by_cases q69_3 : x4 = (3 : Int32)
              · replace h := cr_if_t q69_3 h
                refine jr_tabI X.c (3 : Int32) q69_3 124 dX7_ifFlicked_69 (by decide) (by decide) (by rfl) (by decide) ?_
                refine jr_aload_n X.c dX7_ifFlicked_124 rfl 1 rfl ?_
                refine jr_get X.c (ci := 7) (C := RX7) (T := TX7) (N := 5) (k := 2) rfl cr_in7 (Or.inl (by decide)) ((cr_row_152 w) _) rfl (by decide) fl_X7_22 dX7_ifFlicked_125 ?_
                refine jr_get X.c (ci := 5) (C := RX5) (T := TX5) (N := 10) (k := 3) rfl cr_in5 (Or.inl (by decide)) ((cr_row_153 w) _) rfl (by decide) fl_X7_180 dX7_ifFlicked_128 ?_
                cases h
                exact jr_iret X.c hr0 dX7_ifFlicked_131
              replace h := cr_if_f q69_3 h
              have w69_0 := cr_tin (n := 0) q69_0 (by decide)
              have w69_1 := cr_tin (n := 1) q69_1 (by decide)
              have w69_2 := cr_tin (n := 2) q69_2 (by decide)
              have w69_3 := cr_tin (n := 3) q69_3 (by decide)
              refine jr_tabO X.c 132 dX7_ifFlicked_69 (by omega) (by decide) ?_
              refine jr_bipush X.c (v := (100 : Int32)) dX7_ifFlicked_132 (by decide) ?_
              refine jr_aload_n X.c dX7_ifFlicked_134 rfl 1 rfl ?_
              refine jr_get X.c (ci := 7) (C := RX7) (T := TX7) (N := 5) (k := 2) rfl cr_in7 (Or.inl (by decide)) ((cr_row_152 w) _) rfl (by decide) fl_X7_22 dX7_ifFlicked_135 ?_
              refine jr_get X.c (ci := 5) (C := RX5) (T := TX5) (N := 10) (k := 4) rfl cr_in5 (Or.inl (by decide)) ((cr_row_153 w) _) rfl (by decide) fl_X7_183 dX7_ifFlicked_138 ?_
              refine jr_imul X.c dX7_ifFlicked_141 ?_
              refine jr_aload_n X.c dX7_ifFlicked_142 rfl 1 rfl ?_
              refine jr_get X.c (ci := 7) (C := RX7) (T := TX7) (N := 5) (k := 2) rfl cr_in7 (Or.inl (by decide)) ((cr_row_152 w) _) rfl (by decide) fl_X7_22 dX7_ifFlicked_143 ?_
              refine jr_get X.c (ci := 5) (C := RX5) (T := TX5) (N := 10) (k := 5) rfl cr_in5 (Or.inl (by decide)) ((cr_row_153 w) _) rfl (by decide) fl_X7_186 dX7_ifFlicked_146 ?_
              refine jr_iadd X.c dX7_ifFlicked_149 ?_
              cases h
              exact jr_iret X.c hr0 dX7_ifFlicked_150
            · replace h := cr_if_t q53 h
              refine jr_sipush X.c (v := (-1003 : Int32)) dX7_ifFlicked_56 (by decide) ?_
              cases h
              exact jr_iret X.c hr0 dX7_ifFlicked_59
          · replace h := cr_if_f q41 h
            refine jr_sipush X.c (v := (-1002 : Int32)) dX7_ifFlicked_44 (by decide) ?_
            cases h
            exact jr_iret X.c hr0 dX7_ifFlicked_47
set_option maxRecDepth 100000 in
set_option maxHeartbeats 4000000 in
theorem m_X7_ifFlicked (l : Launch) (w : cr_Wd) (V : cr_Hp) (x1 : Int32) (x2 : Int32) (x3 : Int32) (x4 : Int32)  (x : Int32 × cr_Hp) (h : f_X7_ifFlicked x1 x2 x3 x4 V = some x) : Met l yX7_ifFlicked (cr_wds yX7_ifFlicked cX7_ifFlicked 6 (some .int)) rm_X7_ifFlicked (cr_Pc w V [.ref (w.1 152), .int x1, .int x2, .int x3, .int x4]) (cr_Qi w x.2 x.1) 0 0 (cr_A w) := by
  refine cr_met (own := RX7) (lv := [(0, .ref (w.1 152)), (1, .int x1), (2, .int x2), (3, .int x3), (4, .int x4)]) (by decide +kernel) rfl (Nat.le_of_ble_eq_true rfl) rfl (fun p e s m args below meth c X hr0 => ?_)
  exact t_X7_ifFlicked X x1 x2 x3 x4 V  hr0 x h
abbrev rm_X7_bestFlick : Room := { frames := 6, cells := 0, slots := 0, locals := 150 }
theorem hd_X7_bestFlick : yX7_bestFlick.cls = RX7 ∧ yX7_bestFlick.cls ≠ "java/lang/invoke/MethodHandle" ∧ yX7_bestFlick.cls ≠ "java/lang/invoke/VarHandle" ∧ (parseMethodDescriptor yX7_bestFlick.desc).map (fun d => d.parameters.length) = some 1 := by decide +kernel
def f_X7_bestFlick_l48 (x1 : Int32) (x5_38 : Int32) (x3_48 : Int32) (x4_48 : Int32) (x6_48 : Int32) (V_l48 : cr_Hp) : Option ((Int32 × Int32 × Int32 × cr_Hp) ⊕ (Int32 × Int32 × cr_Hp)) :=
  if (8 : Int32) ≤ x6_48 then (some (.inr (x3_48, x4_48, V_l48))) else (cr_bd (f_X7_tryFlick x1 x6_48 x5_38 V_l48) (fun (V63 : cr_Hp) => if (V63 153 1) ≤ x3_48 then (some (.inl (x3_48, x4_48, (x6_48 + (1 : Int32)), V63))) else (cr_lt ((V63 153 1)) (fun (n84 : Int32) => some (.inl (n84, (((100 : Int32) * x6_48) + x5_38), (x6_48 + (1 : Int32)), V63))))))
set_option maxRecDepth 100000 in
set_option maxHeartbeats 4000000 in
theorem t_X7_bestFlick_l48 {p : Program} {l : Launch} {e : Env} {s : State} {m : MethodId} {args : Array Value} {below : List Frame} {meth : Method} {c : Code} {w : cr_Wd} {Q : State → Prop} (X : cr_Cx w RX7 (Cond.code yX7_bestFlick cX7_bestFlick 7 (some .int)) cX7_bestFlick 7 p s m args meth c) (x1 : Int32) (x5_38 : Int32) (x3_48 : Int32) (x4_48 : Int32) (x6_48 : Int32) (V_l48 : cr_Hp)  (x : (Int32 × Int32 × Int32 × cr_Hp) ⊕ (Int32 × Int32 × cr_Hp)) (h : f_X7_bestFlick_l48 x1 x5_38 x3_48 x4_48 x6_48 V_l48 = some x) (kl : ∀ (x3_48 : Int32) (x4_48 : Int32) (x6_48 : Int32) (V_l48 : cr_Hp), x = .inl (x3_48, x4_48, x6_48, V_l48) → cr_J w 7 p l e rm_X7_bestFlick s m args below meth c 0 0 Q V_l48 48 [(0, .ref (w.1 152)), (1, .int x1), (3, .int x3_48), (4, .int x4_48), (5, .int x5_38), (6, .int x6_48)] []) (kr101 : ∀ (u3_48_101 : Int32) (u4_48_101 : Int32) (V_e48_101 : cr_Hp), x = .inr (u3_48_101, u4_48_101, V_e48_101) → cr_J w 7 p l e rm_X7_bestFlick s m args below meth c 0 0 Q V_e48_101 101 [(0, .ref (w.1 152)), (1, .int x1), (3, .int u3_48_101), (4, .int u4_48_101), (5, .int x5_38)] []) : cr_J w 7 p l e rm_X7_bestFlick s m args below meth c 0 0 Q V_l48 48 [(0, .ref (w.1 152)), (1, .int x1), (3, .int x3_48), (4, .int x4_48), (5, .int x5_38), (6, .int x6_48)] [] := by
  unfold f_X7_bestFlick_l48 at h
  refine jr_iload X.c dX7_bestFlick_48 5 rfl ?_
  refine jr_gets_x X.c fl_X7_189 dX7_bestFlick_50 ?_
  refine jr_tlen_x X.c dX7_bestFlick_53 ?_
  refine jr_icmp_ge X.c 101 dX7_bestFlick_54 (by decide) (fun q54 => ?_) (fun q54 => ?_)
  · replace h := cr_if_t q54 h
    cases h
    refine jr_sub [0, 1, 2, 3, 4] rfl ?_
    exact kr101 x3_48 x4_48 V_l48 rfl
  · replace h := cr_if_f q54 h
    refine jr_aload_n X.c dX7_bestFlick_57 rfl 0 rfl ?_
    refine jr_iload_n X.c dX7_bestFlick_58 rfl 1 rfl ?_
    refine jr_iload X.c dX7_bestFlick_59 5 rfl ?_
    refine jr_iload X.c dX7_bestFlick_61 4 rfl ?_
    obtain ⟨V63, hr63, h⟩ := cr_bd_s h
    refine jc_Vv X.c (As := [.int x1, .int x6_48, .int x5_38]) (V1 := V63) (C := RX7) (T := TX7) (N := 5) (ci := 7) 3 (m_X7_tryFlick l w V_l48 x1 x6_48 x5_38  V63 hr63) ⟨rfl, rfl⟩ ml_X7_172 im_X7_tryFlick sl_X7_tryFlick in_X7 cd_X7_tryFlick hd_X7_tryFlick ⟨Nat.le_of_ble_eq_true rfl, Nat.le_of_ble_eq_true rfl⟩ ⟨Nat.le_of_ble_eq_true rfl, Nat.le_of_ble_eq_true rfl⟩ rfl (Nat.le_of_ble_eq_true rfl) (Or.inl (by decide)) ((cr_row_152 w) _) rfl rfl dX7_bestFlick_63 ?_
    refine jr_aload_n X.c dX7_bestFlick_66 rfl 0 rfl ?_
    refine jr_get X.c (ci := 7) (C := RX7) (T := TX7) (N := 5) (k := 2) rfl cr_in7 (Or.inl (by decide)) ((cr_row_152 w) _) rfl (by decide) fl_X7_22 dX7_bestFlick_67 ?_
    refine jr_get X.c (ci := 5) (C := RX5) (T := TX5) (N := 10) (k := 1) rfl cr_in5 (Or.inl (by decide)) ((cr_row_153 w) _) rfl (by decide) fl_X7_176 dX7_bestFlick_70 ?_
    refine jr_iload_n X.c dX7_bestFlick_73 rfl 2 rfl ?_
    refine jr_icmp_le X.c 95 dX7_bestFlick_74 (by decide) (fun q74 => ?_) (fun q74 => ?_)
    · replace h := cr_if_t q74 h
      refine jr_iinc X.c (v := (x6_48 + (1 : Int32))) (lv2 := [(6, .int (x6_48 + (1 : Int32))), (0, .ref (w.1 152)), (1, .int x1), (3, .int x3_48), (4, .int x4_48), (5, .int x5_38)]) dX7_bestFlick_95 5 rfl (by rfl) (by decide) rfl ?_
      refine jr_goto X.c 48 dX7_bestFlick_98 (by decide) ?_
      cases h
      refine jr_sub [1, 2, 3, 4, 5, 0] rfl ?_
      exact kl x3_48 x4_48 (x6_48 + (1 : Int32)) V63 rfl
    · replace h := cr_if_f q74 h
      refine jr_aload_n X.c dX7_bestFlick_77 rfl 0 rfl ?_
      refine jr_get X.c (ci := 7) (C := RX7) (T := TX7) (N := 5) (k := 2) rfl cr_in7 (Or.inl (by decide)) ((cr_row_152 w) _) rfl (by decide) fl_X7_22 dX7_bestFlick_78 ?_
      refine jr_get X.c (ci := 5) (C := RX5) (T := TX5) (N := 10) (k := 1) rfl cr_in5 (Or.inl (by decide)) ((cr_row_153 w) _) rfl (by decide) fl_X7_176 dX7_bestFlick_81 ?_
      obtain ⟨n84, en84, h⟩ := cr_lt_s h
      refine jr_top en84 ?_
      refine jr_istore_n X.c (lv2 := [(3, .int n84), (0, .ref (w.1 152)), (1, .int x1), (4, .int x4_48), (5, .int x5_38), (6, .int x6_48)]) dX7_bestFlick_84 rfl (by decide) rfl ?_
      refine jr_bipush X.c (v := (100 : Int32)) dX7_bestFlick_85 (by decide) ?_
      refine jr_iload X.c dX7_bestFlick_87 5 rfl ?_
      refine jr_imul X.c dX7_bestFlick_89 ?_
      refine jr_iload X.c dX7_bestFlick_90 4 rfl ?_
      refine jr_iadd X.c dX7_bestFlick_92 ?_
      refine jr_istore X.c (lv2 := [(4, .int (((100 : Int32) * x6_48) + x5_38)), (3, .int n84), (0, .ref (w.1 152)), (1, .int x1), (5, .int x5_38), (6, .int x6_48)]) dX7_bestFlick_93 (by decide) rfl ?_
      refine jr_iinc X.c (v := (x6_48 + (1 : Int32))) (lv2 := [(6, .int (x6_48 + (1 : Int32))), (4, .int (((100 : Int32) * x6_48) + x5_38)), (3, .int n84), (0, .ref (w.1 152)), (1, .int x1), (5, .int x5_38)]) dX7_bestFlick_95 5 rfl (by rfl) (by decide) rfl ?_
      refine jr_goto X.c 48 dX7_bestFlick_98 (by decide) ?_
      cases h
      refine jr_sub [3, 4, 2, 1, 5, 0] rfl ?_
      exact kl n84 (((100 : Int32) * x6_48) + x5_38) (x6_48 + (1 : Int32)) V63 rfl
def f_X7_bestFlick_l38 (x1 : Int32) (x3_38 : Int32) (x4_38 : Int32) (x5_38 : Int32) (V_l38 : cr_Hp) : Option ((Int32 × Int32 × Int32 × cr_Hp) ⊕ (Int32 × cr_Hp)) :=
  if (40 : Int32) < x5_38 then (some (.inr (x4_38, V_l38))) else (cr_bd (cr_it (fun (q : Int32 × Int32 × Int32 × cr_Hp) => f_X7_bestFlick_l48 x1 x5_38 q.1 q.2.1 q.2.2.1 q.2.2.2) cr_FU (x3_38, x4_38, (0 : Int32), V_l38)) (cr_u3 (fun (u3_48_101 : Int32) (u4_48_101 : Int32) (V_e48_101 : cr_Hp) => some (.inl (u3_48_101, u4_48_101, (x5_38 + (1 : Int32)), V_e48_101)))))
set_option maxRecDepth 100000 in
set_option maxHeartbeats 4000000 in
theorem t_X7_bestFlick_l38 {p : Program} {l : Launch} {e : Env} {s : State} {m : MethodId} {args : Array Value} {below : List Frame} {meth : Method} {c : Code} {w : cr_Wd} {Q : State → Prop} (X : cr_Cx w RX7 (Cond.code yX7_bestFlick cX7_bestFlick 7 (some .int)) cX7_bestFlick 7 p s m args meth c) (x1 : Int32) (x3_38 : Int32) (x4_38 : Int32) (x5_38 : Int32) (V_l38 : cr_Hp)  (x : (Int32 × Int32 × Int32 × cr_Hp) ⊕ (Int32 × cr_Hp)) (h : f_X7_bestFlick_l38 x1 x3_38 x4_38 x5_38 V_l38 = some x) (kl : ∀ (x3_38 : Int32) (x4_38 : Int32) (x5_38 : Int32) (V_l38 : cr_Hp), x = .inl (x3_38, x4_38, x5_38, V_l38) → cr_J w 7 p l e rm_X7_bestFlick s m args below meth c 0 0 Q V_l38 38 [(0, .ref (w.1 152)), (1, .int x1), (3, .int x3_38), (4, .int x4_38), (5, .int x5_38)] []) (kr107 : ∀ (u4_38_107 : Int32) (V_e38_107 : cr_Hp), x = .inr (u4_38_107, V_e38_107) → cr_J w 7 p l e rm_X7_bestFlick s m args below meth c 0 0 Q V_e38_107 107 [(4, .int u4_38_107)] []) : cr_J w 7 p l e rm_X7_bestFlick s m args below meth c 0 0 Q V_l38 38 [(0, .ref (w.1 152)), (1, .int x1), (3, .int x3_38), (4, .int x4_38), (5, .int x5_38)] [] := by
  unfold f_X7_bestFlick_l38 at h
  refine jr_iload X.c dX7_bestFlick_38 4 rfl ?_
  refine jr_bipush X.c (v := (40 : Int32)) dX7_bestFlick_40 (by decide) ?_
  refine jr_icmp_gt X.c 107 dX7_bestFlick_42 (by decide) (fun q42 => ?_) (fun q42 => ?_)
  · replace h := cr_if_t q42 h
    cases h
    refine jr_sub [3] rfl ?_
    exact kr107 x4_38 V_l38 rfl
  · replace h := cr_if_f q42 h
    refine jr_iconst X.c (v := (0 : Int32)) dX7_bestFlick_45 (by decide) ?_
    refine jr_istore X.c (lv2 := [(6, .int (0 : Int32)), (0, .ref (w.1 152)), (1, .int x1), (3, .int x3_38), (4, .int x4_38), (5, .int x5_38)]) dX7_bestFlick_46 (by decide) rfl ?_
    obtain ⟨e48, he48, h⟩ := cr_bd_s h
    have kx101 : ∀ (u3_48_101 : Int32) (u4_48_101 : Int32) (V_e48_101 : cr_Hp), e48 = (u3_48_101, u4_48_101, V_e48_101) → cr_J w 7 p l e rm_X7_bestFlick s m args below meth c 0 0 Q V_e48_101 101 [(0, .ref (w.1 152)), (1, .int x1), (3, .int u3_48_101), (4, .int u4_48_101), (5, .int x5_38)] [] := by
      intro u3_48_101 u4_48_101 V_e48_101 qx
      rw [qx] at h
      rw [cr_u3_e] at h
      refine jr_iinc X.c (v := (x5_38 + (1 : Int32))) (lv2 := [(5, .int (x5_38 + (1 : Int32))), (0, .ref (w.1 152)), (1, .int x1), (3, .int u3_48_101), (4, .int u4_48_101)]) dX7_bestFlick_101 4 rfl (by rfl) (by decide) rfl ?_
      refine jr_goto X.c 38 dX7_bestFlick_104 (by decide) ?_
      cases h
      refine jr_sub [1, 2, 3, 4, 0] rfl ?_
      exact kl u3_48_101 u4_48_101 (x5_38 + (1 : Int32)) V_e48_101 rfl
    refine jr_sub [1, 2, 3, 4, 5, 0] rfl ?_
    refine cr_it_W (f := (fun (q : Int32 × Int32 × Int32 × cr_Hp) => f_X7_bestFlick_l48 x1 x5_38 q.1 q.2.1 q.2.2.1 q.2.2.2)) (P := fun (q : Int32 × Int32 × Int32 × cr_Hp) => cr_J w 7 p l e rm_X7_bestFlick s m args below meth c 0 0 Q q.2.2.2 48 [(0, .ref (w.1 152)), (1, .int x1), (3, .int q.1), (4, .int q.2.1), (5, .int x5_38), (6, .int q.2.2.1)] []) (K := fun z => z = e48) (fun q x hx kl kr => ?_) cr_FU (x3_38, x4_38, (0 : Int32), V_l38) e48 he48 rfl
    obtain ⟨x3_48, x4_48, x6_48, V_l48⟩ := q
    exact t_X7_bestFlick_l48 X x1 x5_38 x3_48 x4_48 x6_48 V_l48  x hx (fun x3_48 x4_48 x6_48 V_l48 ez => kl _ ez) (fun u3_48_101 u4_48_101 V_e48_101 ez => kx101 u3_48_101 u4_48_101 V_e48_101 ((kr _ ez).symm))
def f_X7_bestFlick (x1 : Int32) (V : cr_Hp) : Option (Int32 × cr_Hp) :=
  cr_bd (f_X3_findMarble 0 x1 V) (fun (r5 : Option Nat) => cr_on r5 (some ((-1001 : Int32), V)) (fun (a5 : Nat) => cr_gd (cr_ma a5) (if (V a5 6) = 0 then (some ((-1003 : Int32), V)) else (cr_bd (cr_it (fun (q : Int32 × Int32 × Int32 × cr_Hp) => f_X7_bestFlick_l38 x1 q.1 q.2.1 q.2.2.1 q.2.2.2) cr_FU ((0 : Int32), (-1006 : Int32), (1 : Int32), V)) (cr_u2 (fun (u4_38_107 : Int32) (V_e38_107 : cr_Hp) => some (u4_38_107, V_e38_107)))))))
set_option maxRecDepth 100000 in
set_option maxHeartbeats 4000000 in
theorem t_X7_bestFlick {p : Program} {l : Launch} {e : Env} {s : State} {m : MethodId} {args : Array Value} {below : List Frame} {meth : Method} {c : Code} {w : cr_Wd} (X : cr_Cx w RX7 (Cond.code yX7_bestFlick cX7_bestFlick 7 (some .int)) cX7_bestFlick 7 p s m args meth c) (x1 : Int32) (V : cr_Hp)  (hr0 : meth.sig.returnType = (some .int)) (x : Int32 × cr_Hp) (h : f_X7_bestFlick x1 V = some x) : cr_J w 7 p l e rm_X7_bestFlick s m args below meth c 0 0 (MQ below (cr_Qi w x.2 x.1) args s 0 0 (cr_A w)) V 0 [(0, .ref (w.1 152)), (1, .int x1)] [] := by
  unfold f_X7_bestFlick at h
  refine jr_aload_n X.c dX7_bestFlick_0 rfl 0 rfl ?_
  refine jr_get X.c (ci := 7) (C := RX7) (T := TX7) (N := 5) (k := 0) rfl cr_in7 (Or.inl (by decide)) ((cr_row_152 w) _) rfl (by decide) fl_X7_10 dX7_bestFlick_1 ?_
  refine jr_iload_n X.c dX7_bestFlick_4 rfl 1 rfl ?_
  obtain ⟨r5, hr5, h⟩ := cr_bd_s h
  refine jc_Ve X.c (As := [.int x1]) (V1 := V) (C := RX3) (T := TX3) (N := 10) (ci := 3) 1 (m_X3_findMarble l w V 0 x1 cr_pg0 r5 hr5) ⟨rfl, rfl⟩ ml_X7_58 im_X3_findMarble sl_X3_findMarble in_X3 cd_X3_findMarble hd_X3_findMarble ⟨Nat.le_of_ble_eq_true rfl, Nat.le_of_ble_eq_true rfl⟩ ⟨Nat.le_of_ble_eq_true rfl, Nat.le_of_ble_eq_true rfl⟩ rfl (Nat.le_of_ble_eq_true rfl) (cr_l_pg cr_pg0) ((cr_row_pg w cr_pg0) _) rfl rfl dX7_bestFlick_5 (fun eq5 => ?_) (fun a5 eq5 => ?_)
  · subst eq5
    replace h := cr_on_n h
    refine jr_astore_nN X.c (lv2 := [(2, .null), (0, .ref (w.1 152)), (1, .int x1)]) dX7_bestFlick_8 rfl (by decide) rfl ?_
    refine jr_aload_nN X.c dX7_bestFlick_9 rfl 0 rfl ?_
    refine jr_ifnonnullN X.c dX7_bestFlick_10 ?_
    refine jr_sipush X.c (v := (-1001 : Int32)) dX7_bestFlick_13 (by decide) ?_
    cases h
    exact jr_iret X.c hr0 dX7_bestFlick_16
  · subst eq5
    replace h := cr_on_s h
    obtain ⟨ha5, h⟩ := cr_gd_s h
    refine jr_astore_n X.c (lv2 := [(2, .ref (w.1 a5)), (0, .ref (w.1 152)), (1, .int x1)]) dX7_bestFlick_8 rfl (by decide) rfl ?_
    refine jr_aload_n X.c dX7_bestFlick_9 rfl 0 rfl ?_
    refine jr_ifnonnullR X.c 17 dX7_bestFlick_10 (by decide) ?_
    refine jr_aload_n X.c dX7_bestFlick_17 rfl 0 rfl ?_
    refine jr_get X.c (ci := 2) (C := RX2) (T := TX2) (N := 9) (k := 6) rfl cr_in2 (cr_l_ma ha5) ((cr_row_ma w ha5) _) rfl (by decide) fl_X7_66 dX7_bestFlick_18 ?_
    refine jr_if_ne X.c 28 dX7_bestFlick_21 (by decide) (fun q21 => ?_) (fun q21 => ?_)
    · replace h := cr_if_f q21 h
      refine jr_iconst X.c (v := (0 : Int32)) dX7_bestFlick_28 (by decide) ?_
      refine jr_istore_n X.c (lv2 := [(3, .int (0 : Int32)), (2, .ref (w.1 a5)), (0, .ref (w.1 152)), (1, .int x1)]) dX7_bestFlick_29 rfl (by decide) rfl ?_
      refine jr_sipush X.c (v := (-1006 : Int32)) dX7_bestFlick_30 (by decide) ?_
      refine jr_istore X.c (lv2 := [(4, .int (-1006 : Int32)), (3, .int (0 : Int32)), (2, .ref (w.1 a5)), (0, .ref (w.1 152)), (1, .int x1)]) dX7_bestFlick_33 (by decide) rfl ?_
      refine jr_iconst X.c (v := (1 : Int32)) dX7_bestFlick_35 (by decide) ?_
      refine jr_istore X.c (lv2 := [(5, .int (1 : Int32)), (4, .int (-1006 : Int32)), (3, .int (0 : Int32)), (2, .ref (w.1 a5)), (0, .ref (w.1 152)), (1, .int x1)]) dX7_bestFlick_36 (by decide) rfl ?_
      obtain ⟨e38, he38, h⟩ := cr_bd_s h
      have kx107 : ∀ (u4_38_107 : Int32) (V_e38_107 : cr_Hp), e38 = (u4_38_107, V_e38_107) → cr_J w 7 p l e rm_X7_bestFlick s m args below meth c 0 0 (MQ below (cr_Qi w x.2 x.1) args s 0 0 (cr_A w)) V_e38_107 107 [(4, .int u4_38_107)] [] := by
        intro u4_38_107 V_e38_107 qx
        rw [qx] at h
        rw [cr_u2_e] at h
        refine jr_iload X.c dX7_bestFlick_107 0 rfl ?_
        cases h
        exact jr_iret X.c hr0 dX7_bestFlick_109
      refine jr_sub [4, 5, 2, 1, 0] rfl ?_
      refine cr_it_W (f := (fun (q : Int32 × Int32 × Int32 × cr_Hp) => f_X7_bestFlick_l38 x1 q.1 q.2.1 q.2.2.1 q.2.2.2)) (P := fun (q : Int32 × Int32 × Int32 × cr_Hp) => cr_J w 7 p l e rm_X7_bestFlick s m args below meth c 0 0 (MQ below (cr_Qi w x.2 x.1) args s 0 0 (cr_A w)) q.2.2.2 38 [(0, .ref (w.1 152)), (1, .int x1), (3, .int q.1), (4, .int q.2.1), (5, .int q.2.2.1)] []) (K := fun z => z = e38) (fun q x hx kl kr => ?_) cr_FU ((0 : Int32), (-1006 : Int32), (1 : Int32), V) e38 he38 rfl
      obtain ⟨x3_38, x4_38, x5_38, V_l38⟩ := q
      exact t_X7_bestFlick_l38 X x1 x3_38 x4_38 x5_38 V_l38  x hx (fun x3_38 x4_38 x5_38 V_l38 ez => kl _ ez) (fun u4_38_107 V_e38_107 ez => kx107 u4_38_107 V_e38_107 ((kr _ ez).symm))
    · replace h := cr_if_t q21 h
      refine jr_sipush X.c (v := (-1003 : Int32)) dX7_bestFlick_24 (by decide) ?_
      cases h
      exact jr_iret X.c hr0 dX7_bestFlick_27
set_option maxRecDepth 100000 in
set_option maxHeartbeats 4000000 in
theorem m_X7_bestFlick (l : Launch) (w : cr_Wd) (V : cr_Hp) (x1 : Int32)  (x : Int32 × cr_Hp) (h : f_X7_bestFlick x1 V = some x) : Met l yX7_bestFlick (cr_wds yX7_bestFlick cX7_bestFlick 7 (some .int)) rm_X7_bestFlick (cr_Pc w V [.ref (w.1 152), .int x1]) (cr_Qi w x.2 x.1) 0 0 (cr_A w) := by
  refine cr_met (own := RX7) (lv := [(0, .ref (w.1 152)), (1, .int x1)]) (by decide +kernel) rfl (Nat.le_of_ble_eq_true rfl) rfl (fun p e s m args below meth c X hr0 => ?_)
  exact t_X7_bestFlick X x1 V  hr0 x h
abbrev rm_X3_isOutAfter : Room := { frames := 2, cells := 0, slots := 0, locals := 49 }
theorem hd_X3_isOutAfter : yX3_isOutAfter.cls = RX3 ∧ yX3_isOutAfter.cls ≠ "java/lang/invoke/MethodHandle" ∧ yX3_isOutAfter.cls ≠ "java/lang/invoke/VarHandle" ∧ (parseMethodDescriptor yX3_isOutAfter.desc).map (fun d => d.parameters.length) = some 2 := by decide +kernel
def f_X3_isOutAfter_l2 (a0 : Nat) (p1 : Nat) (x2 : Int32) (x3_2 : Int32) (V : cr_Hp) : Option (Int32 ⊕ (Unit ⊕ Unit)) :=
  if (8 : Int32) ≤ x3_2 then (some (.inr (.inr ()))) else (cr_bd (f_X7_stepX x3_2) (fun (r16 : Int32) => cr_lt (((V p1 1) + (x2 * r16))) (fun (n21 : Int32) => cr_bd (f_X7_stepY x3_2) (fun (r29 : Int32) => cr_lt (((V p1 2) + (x2 * r29))) (fun (n34 : Int32) => cr_bd (f_X7_isPoint n21 n34) (fun (r40 : Int32) => if r40 = 0 then (some (.inl (x3_2 + (1 : Int32)))) else (cr_bd (f_X3_ringsAround a0 n21 n34 V) (fun (r51 : Int32) => if r51 = 0 then (some (.inr (.inl ()))) else (some (.inl (x3_2 + (1 : Int32))))))))))))
set_option maxRecDepth 100000 in
set_option maxHeartbeats 4000000 in
theorem t_X3_isOutAfter_l2 {p : Program} {l : Launch} {e : Env} {s : State} {m : MethodId} {args : Array Value} {below : List Frame} {meth : Method} {c : Code} {w : cr_Wd} {Q : State → Prop} (X : cr_Cx w RX3 (Cond.code yX3_isOutAfter cX3_isOutAfter 6 (some .boolean)) cX3_isOutAfter 6 p s m args meth c) (a0 : Nat) (p1 : Nat) (x2 : Int32) (x3_2 : Int32) (V : cr_Hp) (ha0 : cr_pg a0) (hp1 : cr_ma p1) (x : Int32 ⊕ (Unit ⊕ Unit)) (h : f_X3_isOutAfter_l2 a0 p1 x2 x3_2 V = some x) (kl : ∀ (x3_2 : Int32), x = .inl x3_2 → cr_J w 6 p l e rm_X3_isOutAfter s m args below meth c 0 0 Q V 2 [(0, .ref (w.1 a0)), (1, .ref (w.1 p1)), (2, .int x2), (3, .int x3_2)] []) (kr57 : x = .inr (.inl ()) → cr_J w 6 p l e rm_X3_isOutAfter s m args below meth c 0 0 Q V 57 [] []) (kr65 : x = .inr (.inr ()) → cr_J w 6 p l e rm_X3_isOutAfter s m args below meth c 0 0 Q V 65 [] []) : cr_J w 6 p l e rm_X3_isOutAfter s m args below meth c 0 0 Q V 2 [(0, .ref (w.1 a0)), (1, .ref (w.1 p1)), (2, .int x2), (3, .int x3_2)] [] := by
  unfold f_X3_isOutAfter_l2 at h
  refine jr_iload_n X.c dX3_isOutAfter_2 rfl 3 rfl ?_
  refine jr_getsN_x X.c (host := "ChalkRings") (by decide) dX3_isOutAfter_3 ?_
  refine jr_tlen_x X.c dX3_isOutAfter_6 ?_
  refine jr_icmp_ge X.c 65 dX3_isOutAfter_7 (by decide) (fun q7 => ?_) (fun q7 => ?_)
  · replace h := cr_if_t q7 h
    cases h
    refine jr_sub [] rfl ?_
    exact kr65  rfl
  · replace h := cr_if_f q7 h
    refine jr_aload_n X.c dX3_isOutAfter_10 rfl 1 rfl ?_
    refine jr_get X.c (ci := 2) (C := RX2) (T := TX2) (N := 9) (k := 1) rfl cr_in2 (cr_l_ma hp1) ((cr_row_ma w hp1) _) rfl (by decide) fl_X3_81 dX3_isOutAfter_11 ?_
    refine jr_iload_n X.c dX3_isOutAfter_14 rfl 2 rfl ?_
    refine jr_iload_n X.c dX3_isOutAfter_15 rfl 3 rfl ?_
    obtain ⟨r16, hr16, h⟩ := cr_bd_s h
    refine jc_Ni X.c (As := [.int x3_2]) (V1 := V) (host := "ChalkRings") 1 (m_X7_stepX l w V x3_2  r16 hr16) ⟨rfl, rfl⟩ (by decide) st_X7_stepX in_X7 cd_X7_stepX hd_X7_stepX ⟨Nat.le_of_ble_eq_true rfl, Nat.le_of_ble_eq_true rfl⟩ ⟨Nat.le_of_ble_eq_true rfl, Nat.le_of_ble_eq_true rfl⟩ rfl (Nat.le_of_ble_eq_true rfl) rfl dX3_isOutAfter_16 ?_
    refine jr_imul X.c dX3_isOutAfter_19 ?_
    refine jr_iadd X.c dX3_isOutAfter_20 ?_
    obtain ⟨n21, en21, h⟩ := cr_lt_s h
    refine jr_top en21 ?_
    refine jr_istore X.c (lv2 := [(4, .int n21), (0, .ref (w.1 a0)), (1, .ref (w.1 p1)), (2, .int x2), (3, .int x3_2)]) dX3_isOutAfter_21 (by decide) rfl ?_
    refine jr_aload_n X.c dX3_isOutAfter_23 rfl 2 rfl ?_
    refine jr_get X.c (ci := 2) (C := RX2) (T := TX2) (N := 9) (k := 2) rfl cr_in2 (cr_l_ma hp1) ((cr_row_ma w hp1) _) rfl (by decide) fl_X3_84 dX3_isOutAfter_24 ?_
    refine jr_iload_n X.c dX3_isOutAfter_27 rfl 3 rfl ?_
    refine jr_iload_n X.c dX3_isOutAfter_28 rfl 4 rfl ?_
    obtain ⟨r29, hr29, h⟩ := cr_bd_s h
    refine jc_Ni X.c (As := [.int x3_2]) (V1 := V) (host := "ChalkRings") 1 (m_X7_stepY l w V x3_2  r29 hr29) ⟨rfl, rfl⟩ (by decide) st_X7_stepY in_X7 cd_X7_stepY hd_X7_stepY ⟨Nat.le_of_ble_eq_true rfl, Nat.le_of_ble_eq_true rfl⟩ ⟨Nat.le_of_ble_eq_true rfl, Nat.le_of_ble_eq_true rfl⟩ rfl (Nat.le_of_ble_eq_true rfl) rfl dX3_isOutAfter_29 ?_
    refine jr_imul X.c dX3_isOutAfter_32 ?_
    refine jr_iadd X.c dX3_isOutAfter_33 ?_
    obtain ⟨n34, en34, h⟩ := cr_lt_s h
    refine jr_top en34 ?_
    refine jr_istore X.c (lv2 := [(5, .int n34), (4, .int n21), (0, .ref (w.1 a0)), (1, .ref (w.1 p1)), (2, .int x2), (3, .int x3_2)]) dX3_isOutAfter_34 (by decide) rfl ?_
    refine jr_iload X.c dX3_isOutAfter_36 1 rfl ?_
    refine jr_iload X.c dX3_isOutAfter_38 0 rfl ?_
    obtain ⟨r40, hr40, h⟩ := cr_bd_s h
    refine jc_Ni X.c (As := [.int n21, .int n34]) (V1 := V) (host := "ChalkRings") 2 (m_X7_isPoint l w V n21 n34  r40 hr40) ⟨rfl, rfl⟩ (by decide) st_X7_isPoint in_X7 cd_X7_isPoint hd_X7_isPoint ⟨Nat.le_of_ble_eq_true rfl, Nat.le_of_ble_eq_true rfl⟩ ⟨Nat.le_of_ble_eq_true rfl, Nat.le_of_ble_eq_true rfl⟩ rfl (Nat.le_of_ble_eq_true rfl) rfl dX3_isOutAfter_40 ?_
    refine jr_if_eq X.c 59 dX3_isOutAfter_43 (by decide) (fun q43 => ?_) (fun q43 => ?_)
    · replace h := cr_if_t q43 h
      refine jr_iinc X.c (v := (x3_2 + (1 : Int32))) (lv2 := [(3, .int (x3_2 + (1 : Int32))), (5, .int n34), (4, .int n21), (0, .ref (w.1 a0)), (1, .ref (w.1 p1)), (2, .int x2)]) dX3_isOutAfter_59 5 rfl (by rfl) (by decide) rfl ?_
      refine jr_goto X.c 2 dX3_isOutAfter_62 (by decide) ?_
      cases h
      refine jr_sub [3, 4, 5, 0] rfl ?_
      exact kl (x3_2 + (1 : Int32)) rfl
    · replace h := cr_if_f q43 h
      refine jr_aload_n X.c dX3_isOutAfter_46 rfl 2 rfl ?_
      refine jr_iload X.c dX3_isOutAfter_47 1 rfl ?_
      refine jr_iload X.c dX3_isOutAfter_49 0 rfl ?_
      obtain ⟨r51, hr51, h⟩ := cr_bd_s h
      refine jc_Vi X.c (As := [.int n21, .int n34]) (V1 := V) (C := RX3) (T := TX3) (N := 10) (ci := 3) 2 (m_X3_ringsAround l w V a0 n21 n34 ha0 r51 hr51) ⟨rfl, rfl⟩ ml_X3_112 im_X3_ringsAround sl_X3_ringsAround in_X3 cd_X3_ringsAround hd_X3_ringsAround ⟨Nat.le_of_ble_eq_true rfl, Nat.le_of_ble_eq_true rfl⟩ ⟨Nat.le_of_ble_eq_true rfl, Nat.le_of_ble_eq_true rfl⟩ rfl (Nat.le_of_ble_eq_true rfl) (cr_l_pg ha0) ((cr_row_pg w ha0) _) rfl rfl dX3_isOutAfter_51 ?_
      refine jr_if_ne X.c 59 dX3_isOutAfter_54 (by decide) (fun q54 => ?_) (fun q54 => ?_)
      · replace h := cr_if_f q54 h
        refine jr_iinc X.c (v := (x3_2 + (1 : Int32))) (lv2 := [(3, .int (x3_2 + (1 : Int32))), (5, .int n34), (4, .int n21), (0, .ref (w.1 a0)), (1, .ref (w.1 p1)), (2, .int x2)]) dX3_isOutAfter_59 5 rfl (by rfl) (by decide) rfl ?_
        refine jr_goto X.c 2 dX3_isOutAfter_62 (by decide) ?_
        cases h
        refine jr_sub [3, 4, 5, 0] rfl ?_
        exact kl (x3_2 + (1 : Int32)) rfl
      · replace h := cr_if_t q54 h
        cases h
        refine jr_sub [] rfl ?_
        exact kr57  rfl
def f_X3_isOutAfter (a0 : Nat) (p1 : Nat) (x2 : Int32) (V : cr_Hp) : Option (Int32) :=
  cr_bd (cr_it (fun (q : Int32) => f_X3_isOutAfter_l2 a0 p1 x2 q V) cr_FU (0 : Int32)) (cr_sm (fun (_ : Unit) => some (1 : Int32)) (fun (_ : Unit) => some (0 : Int32)))
set_option maxRecDepth 100000 in
set_option maxHeartbeats 4000000 in
theorem t_X3_isOutAfter {p : Program} {l : Launch} {e : Env} {s : State} {m : MethodId} {args : Array Value} {below : List Frame} {meth : Method} {c : Code} {w : cr_Wd} (X : cr_Cx w RX3 (Cond.code yX3_isOutAfter cX3_isOutAfter 6 (some .boolean)) cX3_isOutAfter 6 p s m args meth c) (a0 : Nat) (p1 : Nat) (x2 : Int32) (V : cr_Hp) (ha0 : cr_pg a0) (hp1 : cr_ma p1) (hr0 : meth.sig.returnType = (some .boolean)) (x : Int32) (h : f_X3_isOutAfter a0 p1 x2 V = some x) : cr_J w 6 p l e rm_X3_isOutAfter s m args below meth c 0 0 (MQ below (cr_Qi w V x) args s 0 0 (cr_A w)) V 0 [(0, .ref (w.1 a0)), (1, .ref (w.1 p1)), (2, .int x2)] [] := by
  unfold f_X3_isOutAfter at h
  refine jr_iconst X.c (v := (0 : Int32)) dX3_isOutAfter_0 (by decide) ?_
  refine jr_istore_n X.c (lv2 := [(3, .int (0 : Int32)), (0, .ref (w.1 a0)), (1, .ref (w.1 p1)), (2, .int x2)]) dX3_isOutAfter_1 rfl (by decide) rfl ?_
  obtain ⟨e2, he2, h⟩ := cr_bd_s h
  have kx57 : e2 = (.inl ()) → cr_J w 6 p l e rm_X3_isOutAfter s m args below meth c 0 0 (MQ below (cr_Qi w V x) args s 0 0 (cr_A w)) V 57 [] [] := by
    intro  qx
    rw [qx] at h
    rw [cr_sl_e] at h
    refine jr_iconst X.c (v := (1 : Int32)) dX3_isOutAfter_57 (by decide) ?_
    cases h
    exact jr_zret X.c (r := (1 : Int32)) hr0 (by decide) dX3_isOutAfter_58
  have kx65 : e2 = (.inr ()) → cr_J w 6 p l e rm_X3_isOutAfter s m args below meth c 0 0 (MQ below (cr_Qi w V x) args s 0 0 (cr_A w)) V 65 [] [] := by
    intro  qx
    rw [qx] at h
    rw [cr_sr_e] at h
    refine jr_iconst X.c (v := (0 : Int32)) dX3_isOutAfter_65 (by decide) ?_
    cases h
    exact jr_zret X.c (r := (0 : Int32)) hr0 (by decide) dX3_isOutAfter_66
  refine jr_sub [1, 2, 3, 0] rfl ?_
  refine cr_it_W (f := (fun (q : Int32) => f_X3_isOutAfter_l2 a0 p1 x2 q V)) (P := fun (q : Int32) => cr_J w 6 p l e rm_X3_isOutAfter s m args below meth c 0 0 (MQ below (cr_Qi w V x) args s 0 0 (cr_A w)) V 2 [(0, .ref (w.1 a0)), (1, .ref (w.1 p1)), (2, .int x2), (3, .int q)] []) (K := fun z => z = e2) (fun q x hx kl kr => ?_) cr_FU (0 : Int32) e2 he2 rfl
  obtain ⟨x3_2, rfl⟩ : ∃ z, z = q := ⟨q, rfl⟩
  exact t_X3_isOutAfter_l2 X a0 p1 x2 x3_2 V ha0 hp1 x hx (fun x3_2 ez => kl _ ez) (fun ez => kx57 ((kr _ ez).symm)) (fun ez => kx65 ((kr _ ez).symm))
set_option maxRecDepth 100000 in
set_option maxHeartbeats 4000000 in
theorem m_X3_isOutAfter (l : Launch) (w : cr_Wd) (V : cr_Hp) (a0 : Nat) (p1 : Nat) (x2 : Int32) (ha0 : cr_pg a0) (hp1 : cr_ma p1) (x : Int32) (h : f_X3_isOutAfter a0 p1 x2 V = some x) : Met l yX3_isOutAfter (cr_wds yX3_isOutAfter cX3_isOutAfter 6 (some .boolean)) rm_X3_isOutAfter (cr_Pc w V [.ref (w.1 a0), .ref (w.1 p1), .int x2]) (cr_Qi w V x) 0 0 (cr_A w) := by
  refine cr_met (own := RX3) (lv := [(0, .ref (w.1 a0)), (1, .ref (w.1 p1)), (2, .int x2)]) (by decide +kernel) rfl (Nat.le_of_ble_eq_true rfl) rfl (fun p e s m args below meth c X hr0 => ?_)
  exact t_X3_isOutAfter X a0 p1 x2 V ha0 hp1 hr0 x h
abbrev rm_X7_wayOut : Room := { frames := 3, cells := 0, slots := 0, locals := 74 }
theorem hd_X7_wayOut : yX7_wayOut.cls = RX7 ∧ yX7_wayOut.cls ≠ "java/lang/invoke/MethodHandle" ∧ yX7_wayOut.cls ≠ "java/lang/invoke/VarHandle" ∧ (parseMethodDescriptor yX7_wayOut.desc).map (fun d => d.parameters.length) = some 1 := by decide +kernel
def f_X7_wayOut_l30 (a5 : Nat) (x3_30 : Int32) (V : cr_Hp) : Option (Int32 ⊕ (Int32 ⊕ Unit)) :=
  if (30 : Int32) < x3_30 then (some (.inr (.inr ()))) else (cr_bd (f_X3_isOutAfter 0 a5 x3_30 V) (fun (r42 : Int32) => if r42 = 0 then (some (.inl (x3_30 + (1 : Int32)))) else (some (.inr (.inl x3_30)))))
set_option maxRecDepth 100000 in
set_option maxHeartbeats 4000000 in
theorem t_X7_wayOut_l30 {p : Program} {l : Launch} {e : Env} {s : State} {m : MethodId} {args : Array Value} {below : List Frame} {meth : Method} {c : Code} {w : cr_Wd} {Q : State → Prop} (X : cr_Cx w RX7 (Cond.code yX7_wayOut cX7_wayOut 4 (some .int)) cX7_wayOut 4 p s m args meth c) (a5 : Nat) (x3_30 : Int32) (V : cr_Hp) (ha5 : cr_ma a5) (x : Int32 ⊕ (Int32 ⊕ Unit)) (h : f_X7_wayOut_l30 a5 x3_30 V = some x) (kl : ∀ (x3_30 : Int32), x = .inl x3_30 → cr_J w 4 p l e rm_X7_wayOut s m args below meth c 0 0 Q V 30 [(0, .ref (w.1 152)), (2, .ref (w.1 a5)), (3, .int x3_30)] []) (kr48 : ∀ (u3_30_48 : Int32), x = .inr (.inl u3_30_48) → cr_J w 4 p l e rm_X7_wayOut s m args below meth c 0 0 Q V 48 [(3, .int u3_30_48)] []) (kr56 : x = .inr (.inr ()) → cr_J w 4 p l e rm_X7_wayOut s m args below meth c 0 0 Q V 56 [] []) : cr_J w 4 p l e rm_X7_wayOut s m args below meth c 0 0 Q V 30 [(0, .ref (w.1 152)), (2, .ref (w.1 a5)), (3, .int x3_30)] [] := by
  unfold f_X7_wayOut_l30 at h
  refine jr_iload_n X.c dX7_wayOut_30 rfl 2 rfl ?_
  refine jr_bipush X.c (v := (30 : Int32)) dX7_wayOut_31 (by decide) ?_
  refine jr_icmp_gt X.c 56 dX7_wayOut_33 (by decide) (fun q33 => ?_) (fun q33 => ?_)
  · replace h := cr_if_t q33 h
    cases h
    refine jr_sub [] rfl ?_
    exact kr56  rfl
  · replace h := cr_if_f q33 h
    refine jr_aload_n X.c dX7_wayOut_36 rfl 0 rfl ?_
    refine jr_get X.c (ci := 7) (C := RX7) (T := TX7) (N := 5) (k := 0) rfl cr_in7 (Or.inl (by decide)) ((cr_row_152 w) _) rfl (by decide) fl_X7_10 dX7_wayOut_37 ?_
    refine jr_aload_n X.c dX7_wayOut_40 rfl 1 rfl ?_
    refine jr_iload_n X.c dX7_wayOut_41 rfl 2 rfl ?_
    obtain ⟨r42, hr42, h⟩ := cr_bd_s h
    refine jc_Vi X.c (As := [.ref (w.1 a5), .int x3_30]) (V1 := V) (C := RX3) (T := TX3) (N := 10) (ci := 3) 2 (m_X3_isOutAfter l w V 0 a5 x3_30 cr_pg0 ha5 r42 hr42) ⟨rfl, rfl⟩ ml_X7_193 im_X3_isOutAfter sl_X3_isOutAfter in_X3 cd_X3_isOutAfter hd_X3_isOutAfter ⟨Nat.le_of_ble_eq_true rfl, Nat.le_of_ble_eq_true rfl⟩ ⟨Nat.le_of_ble_eq_true rfl, Nat.le_of_ble_eq_true rfl⟩ rfl (Nat.le_of_ble_eq_true rfl) (cr_l_pg cr_pg0) ((cr_row_pg w cr_pg0) _) rfl rfl dX7_wayOut_42 ?_
    refine jr_if_eq X.c 50 dX7_wayOut_45 (by decide) (fun q45 => ?_) (fun q45 => ?_)
    · replace h := cr_if_t q45 h
      refine jr_iinc X.c (v := (x3_30 + (1 : Int32))) (lv2 := [(3, .int (x3_30 + (1 : Int32))), (0, .ref (w.1 152)), (2, .ref (w.1 a5))]) dX7_wayOut_50 2 rfl (by rfl) (by decide) rfl ?_
      refine jr_goto X.c 30 dX7_wayOut_53 (by decide) ?_
      cases h
      refine jr_sub [1, 2, 0] rfl ?_
      exact kl (x3_30 + (1 : Int32)) rfl
    · replace h := cr_if_f q45 h
      cases h
      refine jr_sub [2] rfl ?_
      exact kr48 x3_30 rfl
def f_X7_wayOut (x1 : Int32) (V : cr_Hp) : Option (Int32) :=
  cr_bd (f_X3_findMarble 0 x1 V) (fun (r5 : Option Nat) => cr_on r5 (some (-1001 : Int32)) (fun (a5 : Nat) => cr_gd (cr_ma a5) (if (V a5 6) = 0 then (some (-1003 : Int32)) else (cr_bd (cr_it (fun (q : Int32) => f_X7_wayOut_l30 a5 q V) cr_FU (0 : Int32)) (cr_sm (fun (u3_30_48 : Int32) => some u3_30_48) (fun (_ : Unit) => some (-1006 : Int32)))))))
set_option maxRecDepth 100000 in
set_option maxHeartbeats 4000000 in
theorem t_X7_wayOut {p : Program} {l : Launch} {e : Env} {s : State} {m : MethodId} {args : Array Value} {below : List Frame} {meth : Method} {c : Code} {w : cr_Wd} (X : cr_Cx w RX7 (Cond.code yX7_wayOut cX7_wayOut 4 (some .int)) cX7_wayOut 4 p s m args meth c) (x1 : Int32) (V : cr_Hp)  (hr0 : meth.sig.returnType = (some .int)) (x : Int32) (h : f_X7_wayOut x1 V = some x) : cr_J w 4 p l e rm_X7_wayOut s m args below meth c 0 0 (MQ below (cr_Qi w V x) args s 0 0 (cr_A w)) V 0 [(0, .ref (w.1 152)), (1, .int x1)] [] := by
  unfold f_X7_wayOut at h
  refine jr_aload_n X.c dX7_wayOut_0 rfl 0 rfl ?_
  refine jr_get X.c (ci := 7) (C := RX7) (T := TX7) (N := 5) (k := 0) rfl cr_in7 (Or.inl (by decide)) ((cr_row_152 w) _) rfl (by decide) fl_X7_10 dX7_wayOut_1 ?_
  refine jr_iload_n X.c dX7_wayOut_4 rfl 1 rfl ?_
  obtain ⟨r5, hr5, h⟩ := cr_bd_s h
  refine jc_Ve X.c (As := [.int x1]) (V1 := V) (C := RX3) (T := TX3) (N := 10) (ci := 3) 1 (m_X3_findMarble l w V 0 x1 cr_pg0 r5 hr5) ⟨rfl, rfl⟩ ml_X7_58 im_X3_findMarble sl_X3_findMarble in_X3 cd_X3_findMarble hd_X3_findMarble ⟨Nat.le_of_ble_eq_true rfl, Nat.le_of_ble_eq_true rfl⟩ ⟨Nat.le_of_ble_eq_true rfl, Nat.le_of_ble_eq_true rfl⟩ rfl (Nat.le_of_ble_eq_true rfl) (cr_l_pg cr_pg0) ((cr_row_pg w cr_pg0) _) rfl rfl dX7_wayOut_5 (fun eq5 => ?_) (fun a5 eq5 => ?_)
  · subst eq5
    replace h := cr_on_n h
    refine jr_astore_nN X.c (lv2 := [(2, .null), (0, .ref (w.1 152)), (1, .int x1)]) dX7_wayOut_8 rfl (by decide) rfl ?_
    refine jr_aload_nN X.c dX7_wayOut_9 rfl 0 rfl ?_
    refine jr_ifnonnullN X.c dX7_wayOut_10 ?_
    refine jr_sipush X.c (v := (-1001 : Int32)) dX7_wayOut_13 (by decide) ?_
    cases h
    exact jr_iret X.c hr0 dX7_wayOut_16
  · subst eq5
    replace h := cr_on_s h
    obtain ⟨ha5, h⟩ := cr_gd_s h
    refine jr_astore_n X.c (lv2 := [(2, .ref (w.1 a5)), (0, .ref (w.1 152)), (1, .int x1)]) dX7_wayOut_8 rfl (by decide) rfl ?_
    refine jr_aload_n X.c dX7_wayOut_9 rfl 0 rfl ?_
    refine jr_ifnonnullR X.c 17 dX7_wayOut_10 (by decide) ?_
    refine jr_aload_n X.c dX7_wayOut_17 rfl 0 rfl ?_
    refine jr_get X.c (ci := 2) (C := RX2) (T := TX2) (N := 9) (k := 6) rfl cr_in2 (cr_l_ma ha5) ((cr_row_ma w ha5) _) rfl (by decide) fl_X7_66 dX7_wayOut_18 ?_
    refine jr_if_ne X.c 28 dX7_wayOut_21 (by decide) (fun q21 => ?_) (fun q21 => ?_)
    · replace h := cr_if_f q21 h
      refine jr_iconst X.c (v := (0 : Int32)) dX7_wayOut_28 (by decide) ?_
      refine jr_istore_n X.c (lv2 := [(3, .int (0 : Int32)), (2, .ref (w.1 a5)), (0, .ref (w.1 152)), (1, .int x1)]) dX7_wayOut_29 rfl (by decide) rfl ?_
      obtain ⟨e30, he30, h⟩ := cr_bd_s h
      have kx48 : ∀ (u3_30_48 : Int32), e30 = (.inl u3_30_48) → cr_J w 4 p l e rm_X7_wayOut s m args below meth c 0 0 (MQ below (cr_Qi w V x) args s 0 0 (cr_A w)) V 48 [(3, .int u3_30_48)] [] := by
        intro u3_30_48 qx
        rw [qx] at h
        rw [cr_sl_e] at h
        refine jr_iload_n X.c dX7_wayOut_48 rfl 0 rfl ?_
        cases h
        exact jr_iret X.c hr0 dX7_wayOut_49
      have kx56 : e30 = (.inr ()) → cr_J w 4 p l e rm_X7_wayOut s m args below meth c 0 0 (MQ below (cr_Qi w V x) args s 0 0 (cr_A w)) V 56 [] [] := by
        intro  qx
        rw [qx] at h
        rw [cr_sr_e] at h
        refine jr_sipush X.c (v := (-1006 : Int32)) dX7_wayOut_56 (by decide) ?_
        cases h
        exact jr_iret X.c hr0 dX7_wayOut_59
      refine jr_sub [2, 1, 0] rfl ?_
      refine cr_it_W (f := (fun (q : Int32) => f_X7_wayOut_l30 a5 q V)) (P := fun (q : Int32) => cr_J w 4 p l e rm_X7_wayOut s m args below meth c 0 0 (MQ below (cr_Qi w V x) args s 0 0 (cr_A w)) V 30 [(0, .ref (w.1 152)), (2, .ref (w.1 a5)), (3, .int q)] []) (K := fun z => z = e30) (fun q x hx kl kr => ?_) cr_FU (0 : Int32) e30 he30 rfl
      obtain ⟨x3_30, rfl⟩ : ∃ z, z = q := ⟨q, rfl⟩
      exact t_X7_wayOut_l30 X a5 x3_30 V ha5 x hx (fun x3_30 ez => kl _ ez) (fun u3_30_48 ez => kx48 u3_30_48 ((kr _ ez).symm)) (fun ez => kx56 ((kr _ ez).symm))
    · replace h := cr_if_t q21 h
      refine jr_sipush X.c (v := (-1003 : Int32)) dX7_wayOut_24 (by decide) ?_
      cases h
      exact jr_iret X.c hr0 dX7_wayOut_27
set_option maxRecDepth 100000 in
set_option maxHeartbeats 4000000 in
theorem m_X7_wayOut (l : Launch) (w : cr_Wd) (V : cr_Hp) (x1 : Int32)  (x : Int32) (h : f_X7_wayOut x1 V = some x) : Met l yX7_wayOut (cr_wds yX7_wayOut cX7_wayOut 4 (some .int)) rm_X7_wayOut (cr_Pc w V [.ref (w.1 152), .int x1]) (cr_Qi w V x) 0 0 (cr_A w) := by
  refine cr_met (own := RX7) (lv := [(0, .ref (w.1 152)), (1, .int x1)]) (by decide +kernel) rfl (Nat.le_of_ble_eq_true rfl) rfl (fun p e s m args below meth c X hr0 => ?_)
  exact t_X7_wayOut X x1 V  hr0 x h
abbrev rm_L_cell : Room := { frames := 0, cells := 0, slots := 0, locals := 0 }
theorem hd_L_cell : yL_cell.cls ≠ "java/lang/invoke/MethodHandle" ∧ yL_cell.cls ≠ "java/lang/invoke/VarHandle" ∧ (parseMethodDescriptor yL_cell.desc).map (fun d => d.parameters.length) = some 2 := by decide +kernel
def f_L_cell (nL : Nat) (xs : Nat → Int32) (x1 : Int32) : Option (Int32) :=
  if (Int32.ofNat nL) ≤ x1 then (some (((1033861975 : Int32) * (x1 + (1 : Int32))) + (784917669 : Int32))) else (cr_gd (cr_ix x1 nL) (some (xs x1.toNatClampNeg)))
set_option maxRecDepth 100000 in
set_option maxHeartbeats 4000000 in
theorem t_L_cell {p : Program} {l : Launch} {e : Env} {s : State} {m : MethodId} {args : Array Value} {below : List Frame} {meth : Method} {c : Code} {w : cr_Wd} (X : cr_Cx w RL (Cond.code yL_cell cL_cell 2 (some .int)) cL_cell 2 p s m args meth c) (x1 : Int32) (V : cr_Hp)  (hr0 : meth.sig.returnType = (some .int)) (x : Int32) (h : f_L_cell (cr_zL w) (cr_zx w) x1 = some x) : cr_J w 2 p l e rm_L_cell s m args below meth c 0 0 (MQ below (cr_Qi w V x) args s 0 0 (cr_A w)) V 0 [(0, .ref (cr_zb w)), (1, .int x1)] [] := by
  unfold f_L_cell at h
  refine jr_iload_n X.c dL_cell_0 rfl 1 rfl ?_
  refine jr_aload_n X.c dL_cell_1 rfl 0 rfl ?_
  refine jr_slen X.c dL_cell_2 ?_
  refine jr_icmp_ge X.c 12 dL_cell_3 (by decide) (fun q3 => ?_) (fun q3 => ?_)
  · replace h := cr_if_t q3 h
    refine jr_ldc X.c ki_L_7 dL_cell_12 ?_
    refine jr_iload_n X.c dL_cell_14 rfl 1 rfl ?_
    refine jr_iconst X.c (v := (1 : Int32)) dL_cell_15 (by decide) ?_
    refine jr_iadd X.c dL_cell_16 ?_
    refine jr_imul X.c dL_cell_17 ?_
    refine jr_ldc X.c ki_L_8 dL_cell_18 ?_
    refine jr_iadd X.c dL_cell_20 ?_
    obtain rfl := Option.some.inj h
    exact jr_iret X.c hr0 dL_cell_21
  · replace h := cr_if_f q3 h
    refine jr_aload_n X.c dL_cell_6 rfl 0 rfl ?_
    refine jr_iload_n X.c dL_cell_7 rfl 1 rfl ?_
    obtain ⟨hi8, h⟩ := cr_gd_s h
    refine jr_sld X.c hi8 dL_cell_8 ?_
    refine jr_goto X.c 21 dL_cell_9 (by decide) ?_
    obtain rfl := Option.some.inj h
    exact jr_iret X.c hr0 dL_cell_21
set_option maxRecDepth 100000 in
set_option maxHeartbeats 4000000 in
theorem m_L_cell (l : Launch) (w : cr_Wd) (V : cr_Hp) (x1 : Int32)  (x : Int32) (h : f_L_cell (cr_zL w) (cr_zx w) x1 = some x) : Met l yL_cell (cr_wds yL_cell cL_cell 2 (some .int)) rm_L_cell (cr_Pc w V [.ref (cr_zb w), .int x1]) (cr_Qi w V x) 0 0 (cr_A w) := by
  refine cr_met (own := RL) (lv := [(0, .ref (cr_zb w)), (1, .int x1)]) (by decide +kernel) rfl (Nat.le_of_ble_eq_true rfl) rfl (fun p e s m args below meth c X hr0 => ?_)
  exact t_L_cell X x1 V  hr0 x h
abbrev rm_L_low : Room := { frames := 0, cells := 0, slots := 0, locals := 0 }
theorem hd_L_low : yL_low.cls ≠ "java/lang/invoke/MethodHandle" ∧ yL_low.cls ≠ "java/lang/invoke/VarHandle" ∧ (parseMethodDescriptor yL_low.desc).map (fun d => d.parameters.length) = some 2 := by decide +kernel
def f_L_low (x0 : Int32) (x1 : Int32) : Option (Int32) :=
  cr_gd (¬ x1 = 0) (some ((x0 &&& (2147483647 : Int32)) - (x0 &&& (2147483647 : Int32)) / x1 * x1))
set_option maxRecDepth 100000 in
set_option maxHeartbeats 4000000 in
theorem t_L_low {p : Program} {l : Launch} {e : Env} {s : State} {m : MethodId} {args : Array Value} {below : List Frame} {meth : Method} {c : Code} {w : cr_Wd} (X : cr_Cx w RL (Cond.code yL_low cL_low 2 (some .int)) cL_low 2 p s m args meth c) (x0 : Int32) (x1 : Int32) (V : cr_Hp)  (hr0 : meth.sig.returnType = (some .int)) (x : Int32) (h : f_L_low x0 x1 = some x) : cr_J w 2 p l e rm_L_low s m args below meth c 0 0 (MQ below (cr_Qi w V x) args s 0 0 (cr_A w)) V 0 [(0, .int x0), (1, .int x1)] [] := by
  unfold f_L_low at h
  refine jr_iload_n X.c dL_low_0 rfl 0 rfl ?_
  refine jr_ldc X.c ki_L_9 dL_low_1 ?_
  refine jr_iand X.c dL_low_3 ?_
  refine jr_iload_n X.c dL_low_4 rfl 1 rfl ?_
  obtain ⟨hk5, h⟩ := cr_gd_s h
  refine jr_irem X.c dL_low_5 hk5 ?_
  cases h
  exact jr_iret X.c hr0 dL_low_6
set_option maxRecDepth 100000 in
set_option maxHeartbeats 4000000 in
theorem m_L_low (l : Launch) (w : cr_Wd) (V : cr_Hp) (x0 : Int32) (x1 : Int32)  (x : Int32) (h : f_L_low x0 x1 = some x) : Met l yL_low (cr_wds yL_low cL_low 2 (some .int)) rm_L_low (cr_Pc w V [.int x0, .int x1]) (cr_Qi w V x) 0 0 (cr_A w) := by
  refine cr_met (own := RL) (lv := [(0, .int x0), (1, .int x1)]) (by decide +kernel) rfl (Nat.le_of_ble_eq_true rfl) rfl (fun p e s m args below meth c X hr0 => ?_)
  exact t_L_low X x0 x1 V  hr0 x h
abbrev rm_L_in : Room := { frames := 0, cells := 0, slots := 0, locals := 0 }
theorem hd_L_in : yL_in.cls ≠ "java/lang/invoke/MethodHandle" ∧ yL_in.cls ≠ "java/lang/invoke/VarHandle" ∧ (parseMethodDescriptor yL_in.desc).map (fun d => d.parameters.length) = some 4 := by decide +kernel
def f_L_in (a3_ : Nat) (x0 : Int32) (x1 : Int32) (x2 : Int32) (V : cr_Hp) : Option (Int32) :=
  cr_gd (cr_ix ((3 : Int32) * x0) 12) (cr_lt ((x1 - (V a3_ ((3 : Int32) * x0).toNatClampNeg))) (fun (n7 : Int32) => cr_gd (cr_ix (((3 : Int32) * x0) + (1 : Int32)) 12) (cr_lt ((x2 - (V a3_ (((3 : Int32) * x0) + (1 : Int32)).toNatClampNeg))) (fun (n18 : Int32) => cr_gd (cr_ix (((3 : Int32) * x0) + (2 : Int32)) 12) (cr_gd (cr_ix (((3 : Int32) * x0) + (2 : Int32)) 12) (if ((V a3_ (((3 : Int32) * x0) + (2 : Int32)).toNatClampNeg) * (V a3_ (((3 : Int32) * x0) + (2 : Int32)).toNatClampNeg)) < ((n7 * n7) + (n18 * n18)) then (some (0 : Int32)) else (some (1 : Int32))))))))
set_option maxRecDepth 100000 in
set_option maxHeartbeats 4000000 in
theorem t_L_in {p : Program} {l : Launch} {e : Env} {s : State} {m : MethodId} {args : Array Value} {below : List Frame} {meth : Method} {c : Code} {w : cr_Wd} (X : cr_Cx w RL (Cond.code yL_in cL_in 6 (some .boolean)) cL_in 6 p s m args meth c) (a3_ : Nat) (x0 : Int32) (x1 : Int32) (x2 : Int32) (V : cr_Hp) (ha3_ : cr_iv w 12 a3_) (hr0 : meth.sig.returnType = (some .boolean)) (x : Int32) (h : f_L_in a3_ x0 x1 x2 V = some x) : cr_J w 6 p l e rm_L_in s m args below meth c 0 0 (MQ below (cr_Qi w V x) args s 0 0 (cr_A w)) V 0 [(0, .int x0), (1, .int x1), (2, .int x2), (3, .ref (w.1 a3_))] [] := by
  unfold f_L_in at h
  refine jr_iload_n X.c dL_in_0 rfl 1 rfl ?_
  refine jr_aload_n X.c dL_in_1 rfl 3 rfl ?_
  refine jr_iconst X.c (v := (3 : Int32)) dL_in_2 (by decide) ?_
  refine jr_iload_n X.c dL_in_3 rfl 0 rfl ?_
  refine jr_imul X.c dL_in_4 ?_
  obtain ⟨hi5, h⟩ := cr_gd_s h
  refine jr_iald X.c (cr_l_iv ha3_) ((cr_row_iv ha3_) _) hi5 dL_in_5 ?_
  refine jr_isub X.c dL_in_6 ?_
  obtain ⟨n7, en7, h⟩ := cr_lt_s h
  refine jr_top en7 ?_
  refine jr_istore X.c (lv2 := [(4, .int n7), (0, .int x0), (1, .int x1), (2, .int x2), (3, .ref (w.1 a3_))]) dL_in_7 (by decide) rfl ?_
  refine jr_iload_n X.c dL_in_9 rfl 3 rfl ?_
  refine jr_aload_n X.c dL_in_10 rfl 4 rfl ?_
  refine jr_iconst X.c (v := (3 : Int32)) dL_in_11 (by decide) ?_
  refine jr_iload_n X.c dL_in_12 rfl 1 rfl ?_
  refine jr_imul X.c dL_in_13 ?_
  refine jr_iconst X.c (v := (1 : Int32)) dL_in_14 (by decide) ?_
  refine jr_iadd X.c dL_in_15 ?_
  obtain ⟨hi16, h⟩ := cr_gd_s h
  refine jr_iald X.c (cr_l_iv ha3_) ((cr_row_iv ha3_) _) hi16 dL_in_16 ?_
  refine jr_isub X.c dL_in_17 ?_
  obtain ⟨n18, en18, h⟩ := cr_lt_s h
  refine jr_top en18 ?_
  refine jr_istore X.c (lv2 := [(5, .int n18), (4, .int n7), (0, .int x0), (1, .int x1), (2, .int x2), (3, .ref (w.1 a3_))]) dL_in_18 (by decide) rfl ?_
  refine jr_iload X.c dL_in_20 1 rfl ?_
  refine jr_iload X.c dL_in_22 1 rfl ?_
  refine jr_imul X.c dL_in_24 ?_
  refine jr_iload X.c dL_in_25 0 rfl ?_
  refine jr_iload X.c dL_in_27 0 rfl ?_
  refine jr_imul X.c dL_in_29 ?_
  refine jr_iadd X.c dL_in_30 ?_
  refine jr_aload_n X.c dL_in_31 rfl 5 rfl ?_
  refine jr_iconst X.c (v := (3 : Int32)) dL_in_32 (by decide) ?_
  refine jr_iload_n X.c dL_in_33 rfl 2 rfl ?_
  refine jr_imul X.c dL_in_34 ?_
  refine jr_iconst X.c (v := (2 : Int32)) dL_in_35 (by decide) ?_
  refine jr_iadd X.c dL_in_36 ?_
  obtain ⟨hi37, h⟩ := cr_gd_s h
  refine jr_iald X.c (cr_l_iv ha3_) ((cr_row_iv ha3_) _) hi37 dL_in_37 ?_
  refine jr_aload_n X.c dL_in_38 rfl 5 rfl ?_
  refine jr_iconst X.c (v := (3 : Int32)) dL_in_39 (by decide) ?_
  refine jr_iload_n X.c dL_in_40 rfl 2 rfl ?_
  refine jr_imul X.c dL_in_41 ?_
  refine jr_iconst X.c (v := (2 : Int32)) dL_in_42 (by decide) ?_
  refine jr_iadd X.c dL_in_43 ?_
  obtain ⟨hi44, h⟩ := cr_gd_s h
  refine jr_iald X.c (cr_l_iv ha3_) ((cr_row_iv ha3_) _) hi44 dL_in_44 ?_
  refine jr_imul X.c dL_in_45 ?_
  refine jr_icmp_gt X.c 53 dL_in_46 (by decide) (fun q46 => ?_) (fun q46 => ?_)
  · replace h := cr_if_t q46 h
    refine jr_iconst X.c (v := (0 : Int32)) dL_in_53 (by decide) ?_
    cases h
    exact jr_zret X.c (r := (0 : Int32)) hr0 (by decide) dL_in_54
  · replace h := cr_if_f q46 h
    refine jr_iconst X.c (v := (1 : Int32)) dL_in_49 (by decide) ?_
    refine jr_goto X.c 54 dL_in_50 (by decide) ?_
    cases h
    exact jr_zret X.c (r := (1 : Int32)) hr0 (by decide) dL_in_54
set_option maxRecDepth 100000 in
set_option maxHeartbeats 4000000 in
theorem m_L_in (l : Launch) (w : cr_Wd) (V : cr_Hp) (a3_ : Nat) (x0 : Int32) (x1 : Int32) (x2 : Int32) (ha3_ : cr_iv w 12 a3_) (x : Int32) (h : f_L_in a3_ x0 x1 x2 V = some x) : Met l yL_in (cr_wds yL_in cL_in 6 (some .boolean)) rm_L_in (cr_Pc w V [.int x0, .int x1, .int x2, .ref (w.1 a3_)]) (cr_Qi w V x) 0 0 (cr_A w) := by
  refine cr_met (own := RL) (lv := [(0, .int x0), (1, .int x1), (2, .int x2), (3, .ref (w.1 a3_))]) (by decide +kernel) rfl (Nat.le_of_ble_eq_true rfl) rfl (fun p e s m args below meth c X hr0 => ?_)
  exact t_L_in X a3_ x0 x1 x2 V ha3_ hr0 x h
